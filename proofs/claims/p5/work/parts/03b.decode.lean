theorem dX0_init_0 : decode cX0_init 0 = .ok (.aload_n 0, 1) := by decide +kernel
theorem dX0_init_1 : decode cX0_init 1 = .ok (.invokespecial 3, 3) := by decide +kernel
theorem dX0_init_4 : decode cX0_init 4 = .ok (.aload_n 0, 1) := by decide +kernel
theorem dX0_init_5 : decode cX0_init 5 = .ok (.bipush 40, 2) := by decide +kernel
theorem dX0_init_7 : decode cX0_init 7 = .ok (.newarray .int, 2) := by decide +kernel
theorem dX0_init_9 : decode cX0_init 9 = .ok (.putfield 9, 3) := by decide +kernel
theorem dX0_init_12 : decode cX0_init 12 = .ok (.aload_n 0, 1) := by decide +kernel
theorem dX0_init_13 : decode cX0_init 13 = .ok (.bipush 40, 2) := by decide +kernel
theorem dX0_init_15 : decode cX0_init 15 = .ok (.newarray .int, 2) := by decide +kernel
theorem dX0_init_17 : decode cX0_init 17 = .ok (.putfield 15, 3) := by decide +kernel
theorem dX0_init_20 : decode cX0_init 20 = .ok (.aload_n 0, 1) := by decide +kernel
theorem dX0_init_21 : decode cX0_init 21 = .ok (.bipush 40, 2) := by decide +kernel
theorem dX0_init_23 : decode cX0_init 23 = .ok (.newarray .int, 2) := by decide +kernel
theorem dX0_init_25 : decode cX0_init 25 = .ok (.putfield 18, 3) := by decide +kernel
theorem dX0_init_28 : decode cX0_init 28 = .ok (.aload_n 0, 1) := by decide +kernel
theorem dX0_init_29 : decode cX0_init 29 = .ok (.bipush 40, 2) := by decide +kernel
theorem dX0_init_31 : decode cX0_init 31 = .ok (.newarray .int, 2) := by decide +kernel
theorem dX0_init_33 : decode cX0_init 33 = .ok (.putfield 21, 3) := by decide +kernel
theorem dX0_init_36 : decode cX0_init 36 = .ok (.aload_n 0, 1) := by decide +kernel
theorem dX0_init_37 : decode cX0_init 37 = .ok (.bipush 40, 2) := by decide +kernel
theorem dX0_init_39 : decode cX0_init 39 = .ok (.newarray .int, 2) := by decide +kernel
theorem dX0_init_41 : decode cX0_init 41 = .ok (.putfield 24, 3) := by decide +kernel
theorem dX0_init_44 : decode cX0_init 44 = .ok (.aload_n 0, 1) := by decide +kernel
theorem dX0_init_45 : decode cX0_init 45 = .ok (.bipush 40, 2) := by decide +kernel
theorem dX0_init_47 : decode cX0_init 47 = .ok (.newarray .int, 2) := by decide +kernel
theorem dX0_init_49 : decode cX0_init 49 = .ok (.putfield 27, 3) := by decide +kernel
theorem dX0_init_52 : decode cX0_init 52 = .ok (.aload_n 0, 1) := by decide +kernel
theorem dX0_init_53 : decode cX0_init 53 = .ok (.bipush 40, 2) := by decide +kernel
theorem dX0_init_55 : decode cX0_init 55 = .ok (.newarray .long, 2) := by decide +kernel
theorem dX0_init_57 : decode cX0_init 57 = .ok (.putfield 30, 3) := by decide +kernel
theorem dX0_init_60 : decode cX0_init 60 = .ok (.aload_n 0, 1) := by decide +kernel
theorem dX0_init_61 : decode cX0_init 61 = .ok (.bipush 41, 2) := by decide +kernel
theorem dX0_init_63 : decode cX0_init 63 = .ok (.newarray .int, 2) := by decide +kernel
theorem dX0_init_65 : decode cX0_init 65 = .ok (.putfield 34, 3) := by decide +kernel
theorem dX0_init_68 : decode cX0_init 68 = .ok (.aload_n 0, 1) := by decide +kernel
theorem dX0_init_69 : decode cX0_init 69 = .ok (.bipush 120, 2) := by decide +kernel
theorem dX0_init_71 : decode cX0_init 71 = .ok (.newarray .int, 2) := by decide +kernel
theorem dX0_init_73 : decode cX0_init 73 = .ok (.putfield 37, 3) := by decide +kernel
theorem dX0_init_76 : decode cX0_init 76 = .ok (.aload_n 0, 1) := by decide +kernel
theorem dX0_init_77 : decode cX0_init 77 = .ok (.bipush 120, 2) := by decide +kernel
theorem dX0_init_79 : decode cX0_init 79 = .ok (.newarray .int, 2) := by decide +kernel
theorem dX0_init_81 : decode cX0_init 81 = .ok (.putfield 40, 3) := by decide +kernel
theorem dX0_init_84 : decode cX0_init 84 = .ok (.aload_n 0, 1) := by decide +kernel
theorem dX0_init_85 : decode cX0_init 85 = .ok (.bipush 120, 2) := by decide +kernel
theorem dX0_init_87 : decode cX0_init 87 = .ok (.newarray .boolean, 2) := by decide +kernel
theorem dX0_init_89 : decode cX0_init 89 = .ok (.putfield 43, 3) := by decide +kernel
theorem dX0_init_92 : decode cX0_init 92 = .ok (.aload_n 0, 1) := by decide +kernel
theorem dX0_init_93 : decode cX0_init 93 = .ok (.bipush 41, 2) := by decide +kernel
theorem dX0_init_95 : decode cX0_init 95 = .ok (.newarray .boolean, 2) := by decide +kernel
theorem dX0_init_97 : decode cX0_init 97 = .ok (.putfield 47, 3) := by decide +kernel
theorem dX0_init_100 : decode cX0_init 100 = .ok (.aload_n 0, 1) := by decide +kernel
theorem dX0_init_101 : decode cX0_init 101 = .ok (.aload_n 1, 1) := by decide +kernel
theorem dX0_init_102 : decode cX0_init 102 = .ok (.putfield 50, 3) := by decide +kernel
theorem dX0_init_105 : decode cX0_init 105 = .ok (.return_, 1) := by decide +kernel
theorem dX0_cut_0 : decode cX0_cut 0 = .ok (.aload_n 0, 1) := by decide +kernel
theorem dX0_cut_1 : decode cX0_cut 1 = .ok (.invokevirtual 54, 3) := by decide +kernel
theorem dX0_cut_4 : decode cX0_cut 4 = .ok (.aload_n 0, 1) := by decide +kernel
theorem dX0_cut_5 : decode cX0_cut 5 = .ok (.iconst 0, 1) := by decide +kernel
theorem dX0_cut_6 : decode cX0_cut 6 = .ok (.putfield 57, 3) := by decide +kernel
theorem dX0_cut_9 : decode cX0_cut 9 = .ok (.aload_n 0, 1) := by decide +kernel
theorem dX0_cut_10 : decode cX0_cut 10 = .ok (.iconst 0, 1) := by decide +kernel
theorem dX0_cut_11 : decode cX0_cut 11 = .ok (.putfield 61, 3) := by decide +kernel
theorem dX0_cut_14 : decode cX0_cut 14 = .ok (.iconst 0, 1) := by decide +kernel
theorem dX0_cut_15 : decode cX0_cut 15 = .ok (.istore_n 1, 1) := by decide +kernel
theorem dX0_cut_16 : decode cX0_cut 16 = .ok (.iload_n 1, 1) := by decide +kernel
theorem dX0_cut_17 : decode cX0_cut 17 = .ok (.aload_n 0, 1) := by decide +kernel
theorem dX0_cut_18 : decode cX0_cut 18 = .ok (.getfield 50, 3) := by decide +kernel
theorem dX0_cut_21 : decode cX0_cut 21 = .ok (.getfield 64, 3) := by decide +kernel
theorem dX0_cut_24 : decode cX0_cut 24 = .ok (.if_icmp .ge 89, 3) := by decide +kernel
theorem dX0_cut_27 : decode cX0_cut 27 = .ok (.aload_n 0, 1) := by decide +kernel
theorem dX0_cut_28 : decode cX0_cut 28 = .ok (.getfield 18, 3) := by decide +kernel
theorem dX0_cut_31 : decode cX0_cut 31 = .ok (.iload_n 1, 1) := by decide +kernel
theorem dX0_cut_32 : decode cX0_cut 32 = .ok (.iconst (-1), 1) := by decide +kernel
theorem dX0_cut_33 : decode cX0_cut 33 = .ok (.iastore, 1) := by decide +kernel
theorem dX0_cut_34 : decode cX0_cut 34 = .ok (.aload_n 0, 1) := by decide +kernel
theorem dX0_cut_35 : decode cX0_cut 35 = .ok (.getfield 50, 3) := by decide +kernel
theorem dX0_cut_38 : decode cX0_cut 38 = .ok (.getfield 67, 3) := by decide +kernel
theorem dX0_cut_41 : decode cX0_cut 41 = .ok (.iload_n 1, 1) := by decide +kernel
theorem dX0_cut_42 : decode cX0_cut 42 = .ok (.iaload, 1) := by decide +kernel
theorem dX0_cut_43 : decode cX0_cut 43 = .ok (.iconst (-1), 1) := by decide +kernel
theorem dX0_cut_44 : decode cX0_cut 44 = .ok (.if_icmp .eq 63, 3) := by decide +kernel
theorem dX0_cut_47 : decode cX0_cut 47 = .ok (.aload_n 0, 1) := by decide +kernel
theorem dX0_cut_48 : decode cX0_cut 48 = .ok (.getfield 57, 3) := by decide +kernel
theorem dX0_cut_51 : decode cX0_cut 51 = .ok (.ifCond .eq 12, 3) := by decide +kernel
theorem dX0_cut_54 : decode cX0_cut 54 = .ok (.aload_n 0, 1) := by decide +kernel
theorem dX0_cut_55 : decode cX0_cut 55 = .ok (.getfield 47, 3) := by decide +kernel
theorem dX0_cut_58 : decode cX0_cut 58 = .ok (.iload_n 1, 1) := by decide +kernel
theorem dX0_cut_59 : decode cX0_cut 59 = .ok (.baload, 1) := by decide +kernel
theorem dX0_cut_60 : decode cX0_cut 60 = .ok (.ifCond .eq 23, 3) := by decide +kernel
theorem dX0_cut_63 : decode cX0_cut 63 = .ok (.aload_n 0, 1) := by decide +kernel
theorem dX0_cut_64 : decode cX0_cut 64 = .ok (.getfield 9, 3) := by decide +kernel
theorem dX0_cut_67 : decode cX0_cut 67 = .ok (.aload_n 0, 1) := by decide +kernel
theorem dX0_cut_68 : decode cX0_cut 68 = .ok (.getfield 57, 3) := by decide +kernel
theorem dX0_cut_71 : decode cX0_cut 71 = .ok (.iload_n 1, 1) := by decide +kernel
theorem dX0_cut_72 : decode cX0_cut 72 = .ok (.iastore, 1) := by decide +kernel
theorem dX0_cut_73 : decode cX0_cut 73 = .ok (.aload_n 0, 1) := by decide +kernel
theorem dX0_cut_74 : decode cX0_cut 74 = .ok (.dup, 1) := by decide +kernel
theorem dX0_cut_75 : decode cX0_cut 75 = .ok (.getfield 57, 3) := by decide +kernel
theorem dX0_cut_78 : decode cX0_cut 78 = .ok (.iconst 1, 1) := by decide +kernel
theorem dX0_cut_79 : decode cX0_cut 79 = .ok (.iadd, 1) := by decide +kernel
theorem dX0_cut_80 : decode cX0_cut 80 = .ok (.putfield 57, 3) := by decide +kernel
theorem dX0_cut_83 : decode cX0_cut 83 = .ok (.aload_n 0, 1) := by decide +kernel
theorem dX0_cut_84 : decode cX0_cut 84 = .ok (.getfield 18, 3) := by decide +kernel
theorem dX0_cut_87 : decode cX0_cut 87 = .ok (.iload_n 1, 1) := by decide +kernel
theorem dX0_cut_88 : decode cX0_cut 88 = .ok (.aload_n 0, 1) := by decide +kernel
theorem dX0_cut_89 : decode cX0_cut 89 = .ok (.getfield 57, 3) := by decide +kernel
theorem dX0_cut_92 : decode cX0_cut 92 = .ok (.iconst 1, 1) := by decide +kernel
theorem dX0_cut_93 : decode cX0_cut 93 = .ok (.isub, 1) := by decide +kernel
theorem dX0_cut_94 : decode cX0_cut 94 = .ok (.iastore, 1) := by decide +kernel
theorem dX0_cut_95 : decode cX0_cut 95 = .ok (.aload_n 0, 1) := by decide +kernel
theorem dX0_cut_96 : decode cX0_cut 96 = .ok (.getfield 15, 3) := by decide +kernel
theorem dX0_cut_99 : decode cX0_cut 99 = .ok (.aload_n 0, 1) := by decide +kernel
theorem dX0_cut_100 : decode cX0_cut 100 = .ok (.getfield 57, 3) := by decide +kernel
theorem dX0_cut_103 : decode cX0_cut 103 = .ok (.iconst 1, 1) := by decide +kernel
theorem dX0_cut_104 : decode cX0_cut 104 = .ok (.isub, 1) := by decide +kernel
theorem dX0_cut_105 : decode cX0_cut 105 = .ok (.iload_n 1, 1) := by decide +kernel
theorem dX0_cut_106 : decode cX0_cut 106 = .ok (.iastore, 1) := by decide +kernel
theorem dX0_cut_107 : decode cX0_cut 107 = .ok (.iinc 1 1, 3) := by decide +kernel
theorem dX0_cut_110 : decode cX0_cut 110 = .ok (.goto (-94), 3) := by decide +kernel
theorem dX0_cut_113 : decode cX0_cut 113 = .ok (.aload_n 0, 1) := by decide +kernel
theorem dX0_cut_114 : decode cX0_cut 114 = .ok (.iconst 0, 1) := by decide +kernel
theorem dX0_cut_115 : decode cX0_cut 115 = .ok (.putfield 70, 3) := by decide +kernel
theorem dX0_cut_118 : decode cX0_cut 118 = .ok (.iconst 0, 1) := by decide +kernel
theorem dX0_cut_119 : decode cX0_cut 119 = .ok (.istore_n 1, 1) := by decide +kernel
theorem dX0_cut_120 : decode cX0_cut 120 = .ok (.iload_n 1, 1) := by decide +kernel
theorem dX0_cut_121 : decode cX0_cut 121 = .ok (.aload_n 0, 1) := by decide +kernel
theorem dX0_cut_122 : decode cX0_cut 122 = .ok (.getfield 57, 3) := by decide +kernel
theorem dX0_cut_125 : decode cX0_cut 125 = .ok (.if_icmp .ge 57, 3) := by decide +kernel
theorem dX0_cut_128 : decode cX0_cut 128 = .ok (.aload_n 0, 1) := by decide +kernel
theorem dX0_cut_129 : decode cX0_cut 129 = .ok (.iload_n 1, 1) := by decide +kernel
theorem dX0_cut_130 : decode cX0_cut 130 = .ok (.invokevirtual 73, 3) := by decide +kernel
theorem dX0_cut_133 : decode cX0_cut 133 = .ok (.aload_n 0, 1) := by decide +kernel
theorem dX0_cut_134 : decode cX0_cut 134 = .ok (.getfield 50, 3) := by decide +kernel
theorem dX0_cut_137 : decode cX0_cut 137 = .ok (.getfield 67, 3) := by decide +kernel
theorem dX0_cut_140 : decode cX0_cut 140 = .ok (.aload_n 0, 1) := by decide +kernel
theorem dX0_cut_141 : decode cX0_cut 141 = .ok (.getfield 9, 3) := by decide +kernel
theorem dX0_cut_144 : decode cX0_cut 144 = .ok (.iload_n 1, 1) := by decide +kernel
theorem dX0_cut_145 : decode cX0_cut 145 = .ok (.iaload, 1) := by decide +kernel
theorem dX0_cut_146 : decode cX0_cut 146 = .ok (.iaload, 1) := by decide +kernel
theorem dX0_cut_147 : decode cX0_cut 147 = .ok (.aload_n 0, 1) := by decide +kernel
theorem dX0_cut_148 : decode cX0_cut 148 = .ok (.getfield 50, 3) := by decide +kernel
theorem dX0_cut_151 : decode cX0_cut 151 = .ok (.aload_n 0, 1) := by decide +kernel
theorem dX0_cut_152 : decode cX0_cut 152 = .ok (.getfield 15, 3) := by decide +kernel
theorem dX0_cut_155 : decode cX0_cut 155 = .ok (.iload_n 1, 1) := by decide +kernel
theorem dX0_cut_156 : decode cX0_cut 156 = .ok (.iaload, 1) := by decide +kernel
theorem dX0_cut_157 : decode cX0_cut 157 = .ok (.invokevirtual 77, 3) := by decide +kernel
theorem dX0_cut_160 : decode cX0_cut 160 = .ok (.invokestatic 81, 3) := by decide +kernel
theorem dX0_cut_163 : decode cX0_cut 163 = .ok (.istore_n 2, 1) := by decide +kernel
theorem dX0_cut_164 : decode cX0_cut 164 = .ok (.aload_n 0, 1) := by decide +kernel
theorem dX0_cut_165 : decode cX0_cut 165 = .ok (.aload_n 0, 1) := by decide +kernel
theorem dX0_cut_166 : decode cX0_cut 166 = .ok (.getfield 61, 3) := by decide +kernel
theorem dX0_cut_169 : decode cX0_cut 169 = .ok (.iload_n 2, 1) := by decide +kernel
theorem dX0_cut_170 : decode cX0_cut 170 = .ok (.invokestatic 81, 3) := by decide +kernel
theorem dX0_cut_173 : decode cX0_cut 173 = .ok (.putfield 61, 3) := by decide +kernel
theorem dX0_cut_176 : decode cX0_cut 176 = .ok (.iinc 1 1, 3) := by decide +kernel
theorem dX0_cut_179 : decode cX0_cut 179 = .ok (.goto (-59), 3) := by decide +kernel
theorem dX0_cut_182 : decode cX0_cut 182 = .ok (.aload_n 0, 1) := by decide +kernel
theorem dX0_cut_183 : decode cX0_cut 183 = .ok (.getfield 34, 3) := by decide +kernel
theorem dX0_cut_186 : decode cX0_cut 186 = .ok (.aload_n 0, 1) := by decide +kernel
theorem dX0_cut_187 : decode cX0_cut 187 = .ok (.getfield 57, 3) := by decide +kernel
theorem dX0_cut_190 : decode cX0_cut 190 = .ok (.aload_n 0, 1) := by decide +kernel
theorem dX0_cut_191 : decode cX0_cut 191 = .ok (.getfield 70, 3) := by decide +kernel
theorem dX0_cut_194 : decode cX0_cut 194 = .ok (.iastore, 1) := by decide +kernel
theorem dX0_cut_195 : decode cX0_cut 195 = .ok (.return_, 1) := by decide +kernel
theorem dX0_markCuts_0 : decode cX0_markCuts 0 = .ok (.iconst 0, 1) := by decide +kernel
theorem dX0_markCuts_1 : decode cX0_markCuts 1 = .ok (.istore_n 1, 1) := by decide +kernel
theorem dX0_markCuts_2 : decode cX0_markCuts 2 = .ok (.iload_n 1, 1) := by decide +kernel
theorem dX0_markCuts_3 : decode cX0_markCuts 3 = .ok (.bipush 40, 2) := by decide +kernel
theorem dX0_markCuts_5 : decode cX0_markCuts 5 = .ok (.if_icmp .gt 16, 3) := by decide +kernel
theorem dX0_markCuts_8 : decode cX0_markCuts 8 = .ok (.aload_n 0, 1) := by decide +kernel
theorem dX0_markCuts_9 : decode cX0_markCuts 9 = .ok (.getfield 47, 3) := by decide +kernel
theorem dX0_markCuts_12 : decode cX0_markCuts 12 = .ok (.iload_n 1, 1) := by decide +kernel
theorem dX0_markCuts_13 : decode cX0_markCuts 13 = .ok (.iconst 0, 1) := by decide +kernel
theorem dX0_markCuts_14 : decode cX0_markCuts 14 = .ok (.bastore, 1) := by decide +kernel
theorem dX0_markCuts_15 : decode cX0_markCuts 15 = .ok (.iinc 1 1, 3) := by decide +kernel
theorem dX0_markCuts_18 : decode cX0_markCuts 18 = .ok (.goto (-16), 3) := by decide +kernel
theorem dX0_markCuts_21 : decode cX0_markCuts 21 = .ok (.iconst 0, 1) := by decide +kernel
theorem dX0_markCuts_22 : decode cX0_markCuts 22 = .ok (.istore_n 1, 1) := by decide +kernel
theorem dX0_markCuts_23 : decode cX0_markCuts 23 = .ok (.iload_n 1, 1) := by decide +kernel
theorem dX0_markCuts_24 : decode cX0_markCuts 24 = .ok (.aload_n 0, 1) := by decide +kernel
theorem dX0_markCuts_25 : decode cX0_markCuts 25 = .ok (.getfield 50, 3) := by decide +kernel
theorem dX0_markCuts_28 : decode cX0_markCuts 28 = .ok (.getfield 64, 3) := by decide +kernel
theorem dX0_markCuts_31 : decode cX0_markCuts 31 = .ok (.if_icmp .ge 80, 3) := by decide +kernel
theorem dX0_markCuts_34 : decode cX0_markCuts 34 = .ok (.aload_n 0, 1) := by decide +kernel
theorem dX0_markCuts_35 : decode cX0_markCuts 35 = .ok (.getfield 50, 3) := by decide +kernel
theorem dX0_markCuts_38 : decode cX0_markCuts 38 = .ok (.getfield 67, 3) := by decide +kernel
theorem dX0_markCuts_41 : decode cX0_markCuts 41 = .ok (.iload_n 1, 1) := by decide +kernel
theorem dX0_markCuts_42 : decode cX0_markCuts 42 = .ok (.iaload, 1) := by decide +kernel
theorem dX0_markCuts_43 : decode cX0_markCuts 43 = .ok (.iconst (-1), 1) := by decide +kernel
theorem dX0_markCuts_44 : decode cX0_markCuts 44 = .ok (.if_icmp .ne 6, 3) := by decide +kernel
theorem dX0_markCuts_47 : decode cX0_markCuts 47 = .ok (.goto 58, 3) := by decide +kernel
theorem dX0_markCuts_50 : decode cX0_markCuts 50 = .ok (.aload_n 0, 1) := by decide +kernel
theorem dX0_markCuts_51 : decode cX0_markCuts 51 = .ok (.getfield 50, 3) := by decide +kernel
theorem dX0_markCuts_54 : decode cX0_markCuts 54 = .ok (.iload_n 1, 1) := by decide +kernel
theorem dX0_markCuts_55 : decode cX0_markCuts 55 = .ok (.invokevirtual 87, 3) := by decide +kernel
theorem dX0_markCuts_58 : decode cX0_markCuts 58 = .ok (.ifCond .eq 27, 3) := by decide +kernel
theorem dX0_markCuts_61 : decode cX0_markCuts 61 = .ok (.aload_n 0, 1) := by decide +kernel
theorem dX0_markCuts_62 : decode cX0_markCuts 62 = .ok (.getfield 47, 3) := by decide +kernel
theorem dX0_markCuts_65 : decode cX0_markCuts 65 = .ok (.aload_n 0, 1) := by decide +kernel
theorem dX0_markCuts_66 : decode cX0_markCuts 66 = .ok (.getfield 50, 3) := by decide +kernel
theorem dX0_markCuts_69 : decode cX0_markCuts 69 = .ok (.getfield 91, 3) := by decide +kernel
theorem dX0_markCuts_72 : decode cX0_markCuts 72 = .ok (.iload_n 1, 1) := by decide +kernel
theorem dX0_markCuts_73 : decode cX0_markCuts 73 = .ok (.iaload, 1) := by decide +kernel
theorem dX0_markCuts_74 : decode cX0_markCuts 74 = .ok (.iconst 1, 1) := by decide +kernel
theorem dX0_markCuts_75 : decode cX0_markCuts 75 = .ok (.bastore, 1) := by decide +kernel
theorem dX0_markCuts_76 : decode cX0_markCuts 76 = .ok (.aload_n 0, 1) := by decide +kernel
theorem dX0_markCuts_77 : decode cX0_markCuts 77 = .ok (.getfield 47, 3) := by decide +kernel
theorem dX0_markCuts_80 : decode cX0_markCuts 80 = .ok (.iload_n 1, 1) := by decide +kernel
theorem dX0_markCuts_81 : decode cX0_markCuts 81 = .ok (.iconst 1, 1) := by decide +kernel
theorem dX0_markCuts_82 : decode cX0_markCuts 82 = .ok (.iadd, 1) := by decide +kernel
theorem dX0_markCuts_83 : decode cX0_markCuts 83 = .ok (.iconst 1, 1) := by decide +kernel
theorem dX0_markCuts_84 : decode cX0_markCuts 84 = .ok (.bastore, 1) := by decide +kernel
theorem dX0_markCuts_85 : decode cX0_markCuts 85 = .ok (.aload_n 0, 1) := by decide +kernel
theorem dX0_markCuts_86 : decode cX0_markCuts 86 = .ok (.getfield 50, 3) := by decide +kernel
theorem dX0_markCuts_89 : decode cX0_markCuts 89 = .ok (.iload_n 1, 1) := by decide +kernel
theorem dX0_markCuts_90 : decode cX0_markCuts 90 = .ok (.invokevirtual 94, 3) := by decide +kernel
theorem dX0_markCuts_93 : decode cX0_markCuts 93 = .ok (.ifCond .eq 12, 3) := by decide +kernel
theorem dX0_markCuts_96 : decode cX0_markCuts 96 = .ok (.aload_n 0, 1) := by decide +kernel
theorem dX0_markCuts_97 : decode cX0_markCuts 97 = .ok (.getfield 47, 3) := by decide +kernel
theorem dX0_markCuts_100 : decode cX0_markCuts 100 = .ok (.iload_n 1, 1) := by decide +kernel
theorem dX0_markCuts_101 : decode cX0_markCuts 101 = .ok (.iconst 1, 1) := by decide +kernel
theorem dX0_markCuts_102 : decode cX0_markCuts 102 = .ok (.iadd, 1) := by decide +kernel
theorem dX0_markCuts_103 : decode cX0_markCuts 103 = .ok (.iconst 1, 1) := by decide +kernel
theorem dX0_markCuts_104 : decode cX0_markCuts 104 = .ok (.bastore, 1) := by decide +kernel
theorem dX0_markCuts_105 : decode cX0_markCuts 105 = .ok (.iinc 1 1, 3) := by decide +kernel
theorem dX0_markCuts_108 : decode cX0_markCuts 108 = .ok (.goto (-85), 3) := by decide +kernel
theorem dX0_markCuts_111 : decode cX0_markCuts 111 = .ok (.iconst 0, 1) := by decide +kernel
theorem dX0_markCuts_112 : decode cX0_markCuts 112 = .ok (.istore_n 1, 1) := by decide +kernel
theorem dX0_markCuts_113 : decode cX0_markCuts 113 = .ok (.iload_n 1, 1) := by decide +kernel
theorem dX0_markCuts_114 : decode cX0_markCuts 114 = .ok (.aload_n 0, 1) := by decide +kernel
theorem dX0_markCuts_115 : decode cX0_markCuts 115 = .ok (.getfield 50, 3) := by decide +kernel
theorem dX0_markCuts_118 : decode cX0_markCuts 118 = .ok (.getfield 97, 3) := by decide +kernel
theorem dX0_markCuts_121 : decode cX0_markCuts 121 = .ok (.if_icmp .ge 54, 3) := by decide +kernel
theorem dX0_markCuts_124 : decode cX0_markCuts 124 = .ok (.aload_n 0, 1) := by decide +kernel
theorem dX0_markCuts_125 : decode cX0_markCuts 125 = .ok (.getfield 47, 3) := by decide +kernel
theorem dX0_markCuts_128 : decode cX0_markCuts 128 = .ok (.aload_n 0, 1) := by decide +kernel
theorem dX0_markCuts_129 : decode cX0_markCuts 129 = .ok (.getfield 50, 3) := by decide +kernel
theorem dX0_markCuts_132 : decode cX0_markCuts 132 = .ok (.getfield 100, 3) := by decide +kernel
theorem dX0_markCuts_135 : decode cX0_markCuts 135 = .ok (.iload_n 1, 1) := by decide +kernel
theorem dX0_markCuts_136 : decode cX0_markCuts 136 = .ok (.iaload, 1) := by decide +kernel
theorem dX0_markCuts_137 : decode cX0_markCuts 137 = .ok (.iconst 1, 1) := by decide +kernel
theorem dX0_markCuts_138 : decode cX0_markCuts 138 = .ok (.bastore, 1) := by decide +kernel
theorem dX0_markCuts_139 : decode cX0_markCuts 139 = .ok (.aload_n 0, 1) := by decide +kernel
theorem dX0_markCuts_140 : decode cX0_markCuts 140 = .ok (.getfield 47, 3) := by decide +kernel
theorem dX0_markCuts_143 : decode cX0_markCuts 143 = .ok (.aload_n 0, 1) := by decide +kernel
theorem dX0_markCuts_144 : decode cX0_markCuts 144 = .ok (.getfield 50, 3) := by decide +kernel
theorem dX0_markCuts_147 : decode cX0_markCuts 147 = .ok (.getfield 103, 3) := by decide +kernel
theorem dX0_markCuts_150 : decode cX0_markCuts 150 = .ok (.iload_n 1, 1) := by decide +kernel
theorem dX0_markCuts_151 : decode cX0_markCuts 151 = .ok (.iaload, 1) := by decide +kernel
theorem dX0_markCuts_152 : decode cX0_markCuts 152 = .ok (.iconst 1, 1) := by decide +kernel
theorem dX0_markCuts_153 : decode cX0_markCuts 153 = .ok (.bastore, 1) := by decide +kernel
theorem dX0_markCuts_154 : decode cX0_markCuts 154 = .ok (.aload_n 0, 1) := by decide +kernel
theorem dX0_markCuts_155 : decode cX0_markCuts 155 = .ok (.getfield 47, 3) := by decide +kernel
theorem dX0_markCuts_158 : decode cX0_markCuts 158 = .ok (.aload_n 0, 1) := by decide +kernel
theorem dX0_markCuts_159 : decode cX0_markCuts 159 = .ok (.getfield 50, 3) := by decide +kernel
theorem dX0_markCuts_162 : decode cX0_markCuts 162 = .ok (.getfield 106, 3) := by decide +kernel
theorem dX0_markCuts_165 : decode cX0_markCuts 165 = .ok (.iload_n 1, 1) := by decide +kernel
theorem dX0_markCuts_166 : decode cX0_markCuts 166 = .ok (.iaload, 1) := by decide +kernel
theorem dX0_markCuts_167 : decode cX0_markCuts 167 = .ok (.iconst 1, 1) := by decide +kernel
theorem dX0_markCuts_168 : decode cX0_markCuts 168 = .ok (.bastore, 1) := by decide +kernel
theorem dX0_markCuts_169 : decode cX0_markCuts 169 = .ok (.iinc 1 1, 3) := by decide +kernel
theorem dX0_markCuts_172 : decode cX0_markCuts 172 = .ok (.goto (-59), 3) := by decide +kernel
theorem dX0_markCuts_175 : decode cX0_markCuts 175 = .ok (.return_, 1) := by decide +kernel
theorem dX0_join_0 : decode cX0_join 0 = .ok (.aload_n 0, 1) := by decide +kernel
theorem dX0_join_1 : decode cX0_join 1 = .ok (.getfield 15, 3) := by decide +kernel
theorem dX0_join_4 : decode cX0_join 4 = .ok (.iload_n 1, 1) := by decide +kernel
theorem dX0_join_5 : decode cX0_join 5 = .ok (.iaload, 1) := by decide +kernel
theorem dX0_join_6 : decode cX0_join 6 = .ok (.istore_n 2, 1) := by decide +kernel
theorem dX0_join_7 : decode cX0_join 7 = .ok (.aload_n 0, 1) := by decide +kernel
theorem dX0_join_8 : decode cX0_join 8 = .ok (.getfield 34, 3) := by decide +kernel
theorem dX0_join_11 : decode cX0_join 11 = .ok (.iload_n 1, 1) := by decide +kernel
theorem dX0_join_12 : decode cX0_join 12 = .ok (.aload_n 0, 1) := by decide +kernel
theorem dX0_join_13 : decode cX0_join 13 = .ok (.getfield 70, 3) := by decide +kernel
theorem dX0_join_16 : decode cX0_join 16 = .ok (.iastore, 1) := by decide +kernel
theorem dX0_join_17 : decode cX0_join 17 = .ok (.aload_n 0, 1) := by decide +kernel
theorem dX0_join_18 : decode cX0_join 18 = .ok (.getfield 30, 3) := by decide +kernel
theorem dX0_join_21 : decode cX0_join 21 = .ok (.iload_n 1, 1) := by decide +kernel
theorem dX0_join_22 : decode cX0_join 22 = .ok (.lconst 0, 1) := by decide +kernel
theorem dX0_join_23 : decode cX0_join 23 = .ok (.lastore, 1) := by decide +kernel
theorem dX0_join_24 : decode cX0_join 24 = .ok (.aload_n 0, 1) := by decide +kernel
theorem dX0_join_25 : decode cX0_join 25 = .ok (.getfield 21, 3) := by decide +kernel
theorem dX0_join_28 : decode cX0_join 28 = .ok (.iload_n 1, 1) := by decide +kernel
theorem dX0_join_29 : decode cX0_join 29 = .ok (.iconst (-1), 1) := by decide +kernel
theorem dX0_join_30 : decode cX0_join 30 = .ok (.iastore, 1) := by decide +kernel
theorem dX0_join_31 : decode cX0_join 31 = .ok (.aload_n 0, 1) := by decide +kernel
theorem dX0_join_32 : decode cX0_join 32 = .ok (.getfield 24, 3) := by decide +kernel
theorem dX0_join_35 : decode cX0_join 35 = .ok (.iload_n 1, 1) := by decide +kernel
theorem dX0_join_36 : decode cX0_join 36 = .ok (.iconst (-1), 1) := by decide +kernel
theorem dX0_join_37 : decode cX0_join 37 = .ok (.iastore, 1) := by decide +kernel
theorem dX0_join_38 : decode cX0_join 38 = .ok (.aload_n 0, 1) := by decide +kernel
theorem dX0_join_39 : decode cX0_join 39 = .ok (.getfield 50, 3) := by decide +kernel
theorem dX0_join_42 : decode cX0_join 42 = .ok (.iload_n 2, 1) := by decide +kernel
theorem dX0_join_43 : decode cX0_join 43 = .ok (.invokevirtual 109, 3) := by decide +kernel
theorem dX0_join_46 : decode cX0_join 46 = .ok (.ifCond .eq 31, 3) := by decide +kernel
theorem dX0_join_49 : decode cX0_join 49 = .ok (.aload_n 0, 1) := by decide +kernel
theorem dX0_join_50 : decode cX0_join 50 = .ok (.getfield 21, 3) := by decide +kernel
theorem dX0_join_53 : decode cX0_join 53 = .ok (.iload_n 1, 1) := by decide +kernel
theorem dX0_join_54 : decode cX0_join 54 = .ok (.aload_n 0, 1) := by decide +kernel
theorem dX0_join_55 : decode cX0_join 55 = .ok (.getfield 18, 3) := by decide +kernel
theorem dX0_join_58 : decode cX0_join 58 = .ok (.iload_n 2, 1) := by decide +kernel
theorem dX0_join_59 : decode cX0_join 59 = .ok (.iconst 1, 1) := by decide +kernel
theorem dX0_join_60 : decode cX0_join 60 = .ok (.iadd, 1) := by decide +kernel
theorem dX0_join_61 : decode cX0_join 61 = .ok (.iaload, 1) := by decide +kernel
theorem dX0_join_62 : decode cX0_join 62 = .ok (.iastore, 1) := by decide +kernel
theorem dX0_join_63 : decode cX0_join 63 = .ok (.aload_n 0, 1) := by decide +kernel
theorem dX0_join_64 : decode cX0_join 64 = .ok (.iload_n 1, 1) := by decide +kernel
theorem dX0_join_65 : decode cX0_join 65 = .ok (.aload_n 0, 1) := by decide +kernel
theorem dX0_join_66 : decode cX0_join 66 = .ok (.getfield 18, 3) := by decide +kernel
theorem dX0_join_69 : decode cX0_join 69 = .ok (.iload_n 2, 1) := by decide +kernel
theorem dX0_join_70 : decode cX0_join 70 = .ok (.iconst 1, 1) := by decide +kernel
theorem dX0_join_71 : decode cX0_join 71 = .ok (.iadd, 1) := by decide +kernel
theorem dX0_join_72 : decode cX0_join 72 = .ok (.iaload, 1) := by decide +kernel
theorem dX0_join_73 : decode cX0_join 73 = .ok (.iconst 0, 1) := by decide +kernel
theorem dX0_join_74 : decode cX0_join 74 = .ok (.invokevirtual 112, 3) := by decide +kernel
theorem dX0_join_77 : decode cX0_join 77 = .ok (.aload_n 0, 1) := by decide +kernel
theorem dX0_join_78 : decode cX0_join 78 = .ok (.getfield 50, 3) := by decide +kernel
theorem dX0_join_81 : decode cX0_join 81 = .ok (.iload_n 2, 1) := by decide +kernel
theorem dX0_join_82 : decode cX0_join 82 = .ok (.invokevirtual 87, 3) := by decide +kernel
theorem dX0_join_85 : decode cX0_join 85 = .ok (.ifCond .eq 62, 3) := by decide +kernel
theorem dX0_join_88 : decode cX0_join 88 = .ok (.aload_n 0, 1) := by decide +kernel
theorem dX0_join_89 : decode cX0_join 89 = .ok (.getfield 18, 3) := by decide +kernel
theorem dX0_join_92 : decode cX0_join 92 = .ok (.aload_n 0, 1) := by decide +kernel
theorem dX0_join_93 : decode cX0_join 93 = .ok (.getfield 50, 3) := by decide +kernel
theorem dX0_join_96 : decode cX0_join 96 = .ok (.getfield 91, 3) := by decide +kernel
theorem dX0_join_99 : decode cX0_join 99 = .ok (.iload_n 2, 1) := by decide +kernel
theorem dX0_join_100 : decode cX0_join 100 = .ok (.iaload, 1) := by decide +kernel
theorem dX0_join_101 : decode cX0_join 101 = .ok (.iaload, 1) := by decide +kernel
theorem dX0_join_102 : decode cX0_join 102 = .ok (.istore_n 3, 1) := by decide +kernel
theorem dX0_join_103 : decode cX0_join 103 = .ok (.aload_n 0, 1) := by decide +kernel
theorem dX0_join_104 : decode cX0_join 104 = .ok (.getfield 21, 3) := by decide +kernel
theorem dX0_join_107 : decode cX0_join 107 = .ok (.iload_n 1, 1) := by decide +kernel
theorem dX0_join_108 : decode cX0_join 108 = .ok (.iaload, 1) := by decide +kernel
theorem dX0_join_109 : decode cX0_join 109 = .ok (.iconst (-1), 1) := by decide +kernel
theorem dX0_join_110 : decode cX0_join 110 = .ok (.if_icmp .ne 13, 3) := by decide +kernel
theorem dX0_join_113 : decode cX0_join 113 = .ok (.aload_n 0, 1) := by decide +kernel
theorem dX0_join_114 : decode cX0_join 114 = .ok (.getfield 21, 3) := by decide +kernel
theorem dX0_join_117 : decode cX0_join 117 = .ok (.iload_n 1, 1) := by decide +kernel
theorem dX0_join_118 : decode cX0_join 118 = .ok (.iload_n 3, 1) := by decide +kernel
theorem dX0_join_119 : decode cX0_join 119 = .ok (.iastore, 1) := by decide +kernel
theorem dX0_join_120 : decode cX0_join 120 = .ok (.goto 20, 3) := by decide +kernel
theorem dX0_join_123 : decode cX0_join 123 = .ok (.iload_n 3, 1) := by decide +kernel
theorem dX0_join_124 : decode cX0_join 124 = .ok (.aload_n 0, 1) := by decide +kernel
theorem dX0_join_125 : decode cX0_join 125 = .ok (.getfield 21, 3) := by decide +kernel
theorem dX0_join_128 : decode cX0_join 128 = .ok (.iload_n 1, 1) := by decide +kernel
theorem dX0_join_129 : decode cX0_join 129 = .ok (.iaload, 1) := by decide +kernel
theorem dX0_join_130 : decode cX0_join 130 = .ok (.if_icmp .eq 10, 3) := by decide +kernel
theorem dX0_join_133 : decode cX0_join 133 = .ok (.aload_n 0, 1) := by decide +kernel
theorem dX0_join_134 : decode cX0_join 134 = .ok (.getfield 24, 3) := by decide +kernel
theorem dX0_join_137 : decode cX0_join 137 = .ok (.iload_n 1, 1) := by decide +kernel
theorem dX0_join_138 : decode cX0_join 138 = .ok (.iload_n 3, 1) := by decide +kernel
theorem dX0_join_139 : decode cX0_join 139 = .ok (.iastore, 1) := by decide +kernel
theorem dX0_join_140 : decode cX0_join 140 = .ok (.aload_n 0, 1) := by decide +kernel
theorem dX0_join_141 : decode cX0_join 141 = .ok (.iload_n 1, 1) := by decide +kernel
theorem dX0_join_142 : decode cX0_join 142 = .ok (.iload_n 3, 1) := by decide +kernel
theorem dX0_join_143 : decode cX0_join 143 = .ok (.iconst 0, 1) := by decide +kernel
theorem dX0_join_144 : decode cX0_join 144 = .ok (.invokevirtual 112, 3) := by decide +kernel
theorem dX0_join_147 : decode cX0_join 147 = .ok (.aload_n 0, 1) := by decide +kernel
theorem dX0_join_148 : decode cX0_join 148 = .ok (.getfield 27, 3) := by decide +kernel
theorem dX0_join_151 : decode cX0_join 151 = .ok (.iload_n 1, 1) := by decide +kernel
theorem dX0_join_152 : decode cX0_join 152 = .ok (.aload_n 0, 1) := by decide +kernel
theorem dX0_join_153 : decode cX0_join 153 = .ok (.iload_n 1, 1) := by decide +kernel
theorem dX0_join_154 : decode cX0_join 154 = .ok (.invokevirtual 116, 3) := by decide +kernel
theorem dX0_join_157 : decode cX0_join 157 = .ok (.iastore, 1) := by decide +kernel
theorem dX0_join_158 : decode cX0_join 158 = .ok (.aload_n 0, 1) := by decide +kernel
theorem dX0_join_159 : decode cX0_join 159 = .ok (.getfield 27, 3) := by decide +kernel
theorem dX0_join_162 : decode cX0_join 162 = .ok (.iload_n 1, 1) := by decide +kernel
theorem dX0_join_163 : decode cX0_join 163 = .ok (.iaload, 1) := by decide +kernel
theorem dX0_join_164 : decode cX0_join 164 = .ok (.iconst (-1), 1) := by decide +kernel
theorem dX0_join_165 : decode cX0_join 165 = .ok (.if_icmp .eq 15, 3) := by decide +kernel
theorem dX0_join_168 : decode cX0_join 168 = .ok (.aload_n 0, 1) := by decide +kernel
theorem dX0_join_169 : decode cX0_join 169 = .ok (.iload_n 1, 1) := by decide +kernel
theorem dX0_join_170 : decode cX0_join 170 = .ok (.aload_n 0, 1) := by decide +kernel
theorem dX0_join_171 : decode cX0_join 171 = .ok (.getfield 27, 3) := by decide +kernel
theorem dX0_join_174 : decode cX0_join 174 = .ok (.iload_n 1, 1) := by decide +kernel
theorem dX0_join_175 : decode cX0_join 175 = .ok (.iaload, 1) := by decide +kernel
theorem dX0_join_176 : decode cX0_join 176 = .ok (.iconst 1, 1) := by decide +kernel
theorem dX0_join_177 : decode cX0_join 177 = .ok (.invokevirtual 112, 3) := by decide +kernel
theorem dX0_join_180 : decode cX0_join 180 = .ok (.return_, 1) := by decide +kernel
theorem dX0_catcherOf_0 : decode cX0_catcherOf 0 = .ok (.aload_n 0, 1) := by decide +kernel
theorem dX0_catcherOf_1 : decode cX0_catcherOf 1 = .ok (.getfield 9, 3) := by decide +kernel
theorem dX0_catcherOf_4 : decode cX0_catcherOf 4 = .ok (.iload_n 1, 1) := by decide +kernel
theorem dX0_catcherOf_5 : decode cX0_catcherOf 5 = .ok (.iaload, 1) := by decide +kernel
theorem dX0_catcherOf_6 : decode cX0_catcherOf 6 = .ok (.istore_n 2, 1) := by decide +kernel
theorem dX0_catcherOf_7 : decode cX0_catcherOf 7 = .ok (.iload_n 2, 1) := by decide +kernel
theorem dX0_catcherOf_8 : decode cX0_catcherOf 8 = .ok (.aload_n 0, 1) := by decide +kernel
theorem dX0_catcherOf_9 : decode cX0_catcherOf 9 = .ok (.getfield 15, 3) := by decide +kernel
theorem dX0_catcherOf_12 : decode cX0_catcherOf 12 = .ok (.iload_n 1, 1) := by decide +kernel
theorem dX0_catcherOf_13 : decode cX0_catcherOf 13 = .ok (.iaload, 1) := by decide +kernel
theorem dX0_catcherOf_14 : decode cX0_catcherOf 14 = .ok (.if_icmp .gt 53, 3) := by decide +kernel
theorem dX0_catcherOf_17 : decode cX0_catcherOf 17 = .ok (.aload_n 0, 1) := by decide +kernel
theorem dX0_catcherOf_18 : decode cX0_catcherOf 18 = .ok (.getfield 50, 3) := by decide +kernel
theorem dX0_catcherOf_21 : decode cX0_catcherOf 21 = .ok (.iload_n 2, 1) := by decide +kernel
theorem dX0_catcherOf_22 : decode cX0_catcherOf 22 = .ok (.invokevirtual 119, 3) := by decide +kernel
theorem dX0_catcherOf_25 : decode cX0_catcherOf 25 = .ok (.ifCond .eq 14, 3) := by decide +kernel
theorem dX0_catcherOf_28 : decode cX0_catcherOf 28 = .ok (.aload_n 0, 1) := by decide +kernel
theorem dX0_catcherOf_29 : decode cX0_catcherOf 29 = .ok (.getfield 50, 3) := by decide +kernel
theorem dX0_catcherOf_32 : decode cX0_catcherOf 32 = .ok (.iload_n 2, 1) := by decide +kernel
theorem dX0_catcherOf_33 : decode cX0_catcherOf 33 = .ok (.invokevirtual 122, 3) := by decide +kernel
theorem dX0_catcherOf_36 : decode cX0_catcherOf 36 = .ok (.goto 4, 3) := by decide +kernel
theorem dX0_catcherOf_39 : decode cX0_catcherOf 39 = .ok (.iconst (-1), 1) := by decide +kernel
theorem dX0_catcherOf_40 : decode cX0_catcherOf 40 = .ok (.istore_n 3, 1) := by decide +kernel
theorem dX0_catcherOf_41 : decode cX0_catcherOf 41 = .ok (.iload_n 3, 1) := by decide +kernel
theorem dX0_catcherOf_42 : decode cX0_catcherOf 42 = .ok (.iconst (-1), 1) := by decide +kernel
theorem dX0_catcherOf_43 : decode cX0_catcherOf 43 = .ok (.if_icmp .eq 18, 3) := by decide +kernel
theorem dX0_catcherOf_46 : decode cX0_catcherOf 46 = .ok (.aload_n 0, 1) := by decide +kernel
theorem dX0_catcherOf_47 : decode cX0_catcherOf 47 = .ok (.getfield 18, 3) := by decide +kernel
theorem dX0_catcherOf_50 : decode cX0_catcherOf 50 = .ok (.aload_n 0, 1) := by decide +kernel
theorem dX0_catcherOf_51 : decode cX0_catcherOf 51 = .ok (.getfield 50, 3) := by decide +kernel
theorem dX0_catcherOf_54 : decode cX0_catcherOf 54 = .ok (.getfield 106, 3) := by decide +kernel
theorem dX0_catcherOf_57 : decode cX0_catcherOf 57 = .ok (.iload_n 3, 1) := by decide +kernel
theorem dX0_catcherOf_58 : decode cX0_catcherOf 58 = .ok (.iaload, 1) := by decide +kernel
theorem dX0_catcherOf_59 : decode cX0_catcherOf 59 = .ok (.iaload, 1) := by decide +kernel
theorem dX0_catcherOf_60 : decode cX0_catcherOf 60 = .ok (.ireturn, 1) := by decide +kernel
theorem dX0_catcherOf_61 : decode cX0_catcherOf 61 = .ok (.iinc 2 1, 3) := by decide +kernel
theorem dX0_catcherOf_64 : decode cX0_catcherOf 64 = .ok (.goto (-57), 3) := by decide +kernel
theorem dX0_catcherOf_67 : decode cX0_catcherOf 67 = .ok (.iconst (-1), 1) := by decide +kernel
theorem dX0_catcherOf_68 : decode cX0_catcherOf 68 = .ok (.ireturn, 1) := by decide +kernel
theorem dX0_lead_0 : decode cX0_lead 0 = .ok (.iload_n 2, 1) := by decide +kernel
theorem dX0_lead_1 : decode cX0_lead 1 = .ok (.iconst (-1), 1) := by decide +kernel
theorem dX0_lead_2 : decode cX0_lead 2 = .ok (.if_icmp .ne 4, 3) := by decide +kernel
theorem dX0_lead_5 : decode cX0_lead 5 = .ok (.return_, 1) := by decide +kernel
theorem dX0_lead_6 : decode cX0_lead 6 = .ok (.aload_n 0, 1) := by decide +kernel
theorem dX0_lead_7 : decode cX0_lead 7 = .ok (.getfield 30, 3) := by decide +kernel
theorem dX0_lead_10 : decode cX0_lead 10 = .ok (.iload_n 1, 1) := by decide +kernel
theorem dX0_lead_11 : decode cX0_lead 11 = .ok (.laload, 1) := by decide +kernel
theorem dX0_lead_12 : decode cX0_lead 12 = .ok (.iload_n 2, 1) := by decide +kernel
theorem dX0_lead_13 : decode cX0_lead 13 = .ok (.invokestatic 125, 3) := by decide +kernel
theorem dX0_lead_16 : decode cX0_lead 16 = .ok (.ifCond .eq 38, 3) := by decide +kernel
theorem dX0_lead_19 : decode cX0_lead 19 = .ok (.aload_n 0, 1) := by decide +kernel
theorem dX0_lead_20 : decode cX0_lead 20 = .ok (.iload_n 1, 1) := by decide +kernel
theorem dX0_lead_21 : decode cX0_lead 21 = .ok (.iload_n 2, 1) := by decide +kernel
theorem dX0_lead_22 : decode cX0_lead 22 = .ok (.invokevirtual 129, 3) := by decide +kernel
theorem dX0_lead_25 : decode cX0_lead 25 = .ok (.istore 4, 2) := by decide +kernel
theorem dX0_lead_27 : decode cX0_lead 27 = .ok (.aload_n 0, 1) := by decide +kernel
theorem dX0_lead_28 : decode cX0_lead 28 = .ok (.getfield 43, 3) := by decide +kernel
theorem dX0_lead_31 : decode cX0_lead 31 = .ok (.iload 4, 2) := by decide +kernel
theorem dX0_lead_33 : decode cX0_lead 33 = .ok (.aload_n 0, 1) := by decide +kernel
theorem dX0_lead_34 : decode cX0_lead 34 = .ok (.getfield 43, 3) := by decide +kernel
theorem dX0_lead_37 : decode cX0_lead 37 = .ok (.iload 4, 2) := by decide +kernel
theorem dX0_lead_39 : decode cX0_lead 39 = .ok (.baload, 1) := by decide +kernel
theorem dX0_lead_40 : decode cX0_lead 40 = .ok (.ifCond .ne 7, 3) := by decide +kernel
theorem dX0_lead_43 : decode cX0_lead 43 = .ok (.iload_n 3, 1) := by decide +kernel
theorem dX0_lead_44 : decode cX0_lead 44 = .ok (.ifCond .eq 7, 3) := by decide +kernel
theorem dX0_lead_47 : decode cX0_lead 47 = .ok (.iconst 1, 1) := by decide +kernel
theorem dX0_lead_48 : decode cX0_lead 48 = .ok (.goto 4, 3) := by decide +kernel
theorem dX0_lead_51 : decode cX0_lead 51 = .ok (.iconst 0, 1) := by decide +kernel
theorem dX0_lead_52 : decode cX0_lead 52 = .ok (.bastore, 1) := by decide +kernel
theorem dX0_lead_53 : decode cX0_lead 53 = .ok (.return_, 1) := by decide +kernel
theorem dX0_lead_54 : decode cX0_lead 54 = .ok (.aload_n 0, 1) := by decide +kernel
theorem dX0_lead_55 : decode cX0_lead 55 = .ok (.getfield 30, 3) := by decide +kernel
theorem dX0_lead_58 : decode cX0_lead 58 = .ok (.iload_n 1, 1) := by decide +kernel
theorem dX0_lead_59 : decode cX0_lead 59 = .ok (.dup2, 1) := by decide +kernel
theorem dX0_lead_60 : decode cX0_lead 60 = .ok (.laload, 1) := by decide +kernel
theorem dX0_lead_61 : decode cX0_lead 61 = .ok (.lconst 1, 1) := by decide +kernel
theorem dX0_lead_62 : decode cX0_lead 62 = .ok (.iload_n 2, 1) := by decide +kernel
theorem dX0_lead_63 : decode cX0_lead 63 = .ok (.lshl, 1) := by decide +kernel
theorem dX0_lead_64 : decode cX0_lead 64 = .ok (.lor, 1) := by decide +kernel
theorem dX0_lead_65 : decode cX0_lead 65 = .ok (.lastore, 1) := by decide +kernel
theorem dX0_lead_66 : decode cX0_lead 66 = .ok (.aload_n 0, 1) := by decide +kernel
theorem dX0_lead_67 : decode cX0_lead 67 = .ok (.getfield 37, 3) := by decide +kernel
theorem dX0_lead_70 : decode cX0_lead 70 = .ok (.aload_n 0, 1) := by decide +kernel
theorem dX0_lead_71 : decode cX0_lead 71 = .ok (.getfield 70, 3) := by decide +kernel
theorem dX0_lead_74 : decode cX0_lead 74 = .ok (.iload_n 1, 1) := by decide +kernel
theorem dX0_lead_75 : decode cX0_lead 75 = .ok (.iastore, 1) := by decide +kernel
theorem dX0_lead_76 : decode cX0_lead 76 = .ok (.aload_n 0, 1) := by decide +kernel
theorem dX0_lead_77 : decode cX0_lead 77 = .ok (.getfield 40, 3) := by decide +kernel
theorem dX0_lead_80 : decode cX0_lead 80 = .ok (.aload_n 0, 1) := by decide +kernel
theorem dX0_lead_81 : decode cX0_lead 81 = .ok (.getfield 70, 3) := by decide +kernel
theorem dX0_lead_84 : decode cX0_lead 84 = .ok (.iload_n 2, 1) := by decide +kernel
theorem dX0_lead_85 : decode cX0_lead 85 = .ok (.iastore, 1) := by decide +kernel
theorem dX0_lead_86 : decode cX0_lead 86 = .ok (.aload_n 0, 1) := by decide +kernel
theorem dX0_lead_87 : decode cX0_lead 87 = .ok (.getfield 43, 3) := by decide +kernel
theorem dX0_lead_90 : decode cX0_lead 90 = .ok (.aload_n 0, 1) := by decide +kernel
theorem dX0_lead_91 : decode cX0_lead 91 = .ok (.getfield 70, 3) := by decide +kernel
theorem dX0_lead_94 : decode cX0_lead 94 = .ok (.iload_n 3, 1) := by decide +kernel
theorem dX0_lead_95 : decode cX0_lead 95 = .ok (.bastore, 1) := by decide +kernel
theorem dX0_lead_96 : decode cX0_lead 96 = .ok (.aload_n 0, 1) := by decide +kernel
theorem dX0_lead_97 : decode cX0_lead 97 = .ok (.dup, 1) := by decide +kernel
theorem dX0_lead_98 : decode cX0_lead 98 = .ok (.getfield 70, 3) := by decide +kernel
theorem dX0_lead_101 : decode cX0_lead 101 = .ok (.iconst 1, 1) := by decide +kernel
theorem dX0_lead_102 : decode cX0_lead 102 = .ok (.iadd, 1) := by decide +kernel
theorem dX0_lead_103 : decode cX0_lead 103 = .ok (.putfield 70, 3) := by decide +kernel
theorem dX0_lead_106 : decode cX0_lead 106 = .ok (.return_, 1) := by decide +kernel
theorem dX0_edgeTo_0 : decode cX0_edgeTo 0 = .ok (.aload_n 0, 1) := by decide +kernel
theorem dX0_edgeTo_1 : decode cX0_edgeTo 1 = .ok (.getfield 34, 3) := by decide +kernel
theorem dX0_edgeTo_4 : decode cX0_edgeTo 4 = .ok (.iload_n 1, 1) := by decide +kernel
theorem dX0_edgeTo_5 : decode cX0_edgeTo 5 = .ok (.iaload, 1) := by decide +kernel
theorem dX0_edgeTo_6 : decode cX0_edgeTo 6 = .ok (.istore_n 3, 1) := by decide +kernel
theorem dX0_edgeTo_7 : decode cX0_edgeTo 7 = .ok (.aload_n 0, 1) := by decide +kernel
theorem dX0_edgeTo_8 : decode cX0_edgeTo 8 = .ok (.getfield 34, 3) := by decide +kernel
theorem dX0_edgeTo_11 : decode cX0_edgeTo 11 = .ok (.iload_n 1, 1) := by decide +kernel
theorem dX0_edgeTo_12 : decode cX0_edgeTo 12 = .ok (.iaload, 1) := by decide +kernel
theorem dX0_edgeTo_13 : decode cX0_edgeTo 13 = .ok (.istore 4, 2) := by decide +kernel
theorem dX0_edgeTo_15 : decode cX0_edgeTo 15 = .ok (.iload 4, 2) := by decide +kernel
theorem dX0_edgeTo_17 : decode cX0_edgeTo 17 = .ok (.aload_n 0, 1) := by decide +kernel
theorem dX0_edgeTo_18 : decode cX0_edgeTo 18 = .ok (.getfield 70, 3) := by decide +kernel
theorem dX0_edgeTo_21 : decode cX0_edgeTo 21 = .ok (.if_icmp .ge 34, 3) := by decide +kernel
theorem dX0_edgeTo_24 : decode cX0_edgeTo 24 = .ok (.aload_n 0, 1) := by decide +kernel
theorem dX0_edgeTo_25 : decode cX0_edgeTo 25 = .ok (.getfield 37, 3) := by decide +kernel
theorem dX0_edgeTo_28 : decode cX0_edgeTo 28 = .ok (.iload 4, 2) := by decide +kernel
theorem dX0_edgeTo_30 : decode cX0_edgeTo 30 = .ok (.iaload, 1) := by decide +kernel
theorem dX0_edgeTo_31 : decode cX0_edgeTo 31 = .ok (.iload_n 1, 1) := by decide +kernel
theorem dX0_edgeTo_32 : decode cX0_edgeTo 32 = .ok (.if_icmp .ne 23, 3) := by decide +kernel
theorem dX0_edgeTo_35 : decode cX0_edgeTo 35 = .ok (.aload_n 0, 1) := by decide +kernel
theorem dX0_edgeTo_36 : decode cX0_edgeTo 36 = .ok (.getfield 40, 3) := by decide +kernel
theorem dX0_edgeTo_39 : decode cX0_edgeTo 39 = .ok (.iload 4, 2) := by decide +kernel
theorem dX0_edgeTo_41 : decode cX0_edgeTo 41 = .ok (.iaload, 1) := by decide +kernel
theorem dX0_edgeTo_42 : decode cX0_edgeTo 42 = .ok (.iload_n 2, 1) := by decide +kernel
theorem dX0_edgeTo_43 : decode cX0_edgeTo 43 = .ok (.if_icmp .ne 6, 3) := by decide +kernel
theorem dX0_edgeTo_46 : decode cX0_edgeTo 46 = .ok (.iload 4, 2) := by decide +kernel
theorem dX0_edgeTo_48 : decode cX0_edgeTo 48 = .ok (.istore_n 3, 1) := by decide +kernel
theorem dX0_edgeTo_49 : decode cX0_edgeTo 49 = .ok (.iinc 4 1, 3) := by decide +kernel
theorem dX0_edgeTo_52 : decode cX0_edgeTo 52 = .ok (.goto (-37), 3) := by decide +kernel
theorem dX0_edgeTo_55 : decode cX0_edgeTo 55 = .ok (.iload_n 3, 1) := by decide +kernel
theorem dX0_edgeTo_56 : decode cX0_edgeTo 56 = .ok (.ireturn, 1) := by decide +kernel
theorem dX0_leadingTo_0 : decode cX0_leadingTo 0 = .ok (.lconst 0, 1) := by decide +kernel
theorem dX0_leadingTo_1 : decode cX0_leadingTo 1 = .ok (.lstore_n 2, 1) := by decide +kernel
theorem dX0_leadingTo_2 : decode cX0_leadingTo 2 = .ok (.lconst 0, 1) := by decide +kernel
theorem dX0_leadingTo_3 : decode cX0_leadingTo 3 = .ok (.lstore 4, 2) := by decide +kernel
theorem dX0_leadingTo_5 : decode cX0_leadingTo 5 = .ok (.iconst 0, 1) := by decide +kernel
theorem dX0_leadingTo_6 : decode cX0_leadingTo 6 = .ok (.istore 6, 2) := by decide +kernel
theorem dX0_leadingTo_8 : decode cX0_leadingTo 8 = .ok (.iload 6, 2) := by decide +kernel
theorem dX0_leadingTo_10 : decode cX0_leadingTo 10 = .ok (.aload_n 0, 1) := by decide +kernel
theorem dX0_leadingTo_11 : decode cX0_leadingTo 11 = .ok (.getfield 57, 3) := by decide +kernel
theorem dX0_leadingTo_14 : decode cX0_leadingTo 14 = .ok (.if_icmp .gt 67, 3) := by decide +kernel
theorem dX0_leadingTo_17 : decode cX0_leadingTo 17 = .ok (.lload 4, 2) := by decide +kernel
theorem dX0_leadingTo_19 : decode cX0_leadingTo 19 = .ok (.lload_n 2, 1) := by decide +kernel
theorem dX0_leadingTo_20 : decode cX0_leadingTo 20 = .ok (.lconst 1, 1) := by decide +kernel
theorem dX0_leadingTo_21 : decode cX0_leadingTo 21 = .ok (.iload_n 1, 1) := by decide +kernel
theorem dX0_leadingTo_22 : decode cX0_leadingTo 22 = .ok (.lshl, 1) := by decide +kernel
theorem dX0_leadingTo_23 : decode cX0_leadingTo 23 = .ok (.lor, 1) := by decide +kernel
theorem dX0_leadingTo_24 : decode cX0_leadingTo 24 = .ok (.lcmp, 1) := by decide +kernel
theorem dX0_leadingTo_25 : decode cX0_leadingTo 25 = .ok (.ifCond .eq 56, 3) := by decide +kernel
theorem dX0_leadingTo_28 : decode cX0_leadingTo 28 = .ok (.lload_n 2, 1) := by decide +kernel
theorem dX0_leadingTo_29 : decode cX0_leadingTo 29 = .ok (.lconst 1, 1) := by decide +kernel
theorem dX0_leadingTo_30 : decode cX0_leadingTo 30 = .ok (.iload_n 1, 1) := by decide +kernel
theorem dX0_leadingTo_31 : decode cX0_leadingTo 31 = .ok (.lshl, 1) := by decide +kernel
theorem dX0_leadingTo_32 : decode cX0_leadingTo 32 = .ok (.lor, 1) := by decide +kernel
theorem dX0_leadingTo_33 : decode cX0_leadingTo 33 = .ok (.lstore 4, 2) := by decide +kernel
theorem dX0_leadingTo_35 : decode cX0_leadingTo 35 = .ok (.iconst 0, 1) := by decide +kernel
theorem dX0_leadingTo_36 : decode cX0_leadingTo 36 = .ok (.istore 7, 2) := by decide +kernel
theorem dX0_leadingTo_38 : decode cX0_leadingTo 38 = .ok (.iload 7, 2) := by decide +kernel
theorem dX0_leadingTo_40 : decode cX0_leadingTo 40 = .ok (.aload_n 0, 1) := by decide +kernel
theorem dX0_leadingTo_41 : decode cX0_leadingTo 41 = .ok (.getfield 57, 3) := by decide +kernel
theorem dX0_leadingTo_44 : decode cX0_leadingTo 44 = .ok (.if_icmp .ge 31, 3) := by decide +kernel
theorem dX0_leadingTo_47 : decode cX0_leadingTo 47 = .ok (.aload_n 0, 1) := by decide +kernel
theorem dX0_leadingTo_48 : decode cX0_leadingTo 48 = .ok (.getfield 30, 3) := by decide +kernel
theorem dX0_leadingTo_51 : decode cX0_leadingTo 51 = .ok (.iload 7, 2) := by decide +kernel
theorem dX0_leadingTo_53 : decode cX0_leadingTo 53 = .ok (.laload, 1) := by decide +kernel
theorem dX0_leadingTo_54 : decode cX0_leadingTo 54 = .ok (.lload 4, 2) := by decide +kernel
theorem dX0_leadingTo_56 : decode cX0_leadingTo 56 = .ok (.land, 1) := by decide +kernel
theorem dX0_leadingTo_57 : decode cX0_leadingTo 57 = .ok (.lconst 0, 1) := by decide +kernel
theorem dX0_leadingTo_58 : decode cX0_leadingTo 58 = .ok (.lcmp, 1) := by decide +kernel
theorem dX0_leadingTo_59 : decode cX0_leadingTo 59 = .ok (.ifCond .eq 10, 3) := by decide +kernel
theorem dX0_leadingTo_62 : decode cX0_leadingTo 62 = .ok (.lload_n 2, 1) := by decide +kernel
theorem dX0_leadingTo_63 : decode cX0_leadingTo 63 = .ok (.lconst 1, 1) := by decide +kernel
theorem dX0_leadingTo_64 : decode cX0_leadingTo 64 = .ok (.iload 7, 2) := by decide +kernel
theorem dX0_leadingTo_66 : decode cX0_leadingTo 66 = .ok (.lshl, 1) := by decide +kernel
theorem dX0_leadingTo_67 : decode cX0_leadingTo 67 = .ok (.lor, 1) := by decide +kernel
theorem dX0_leadingTo_68 : decode cX0_leadingTo 68 = .ok (.lstore_n 2, 1) := by decide +kernel
theorem dX0_leadingTo_69 : decode cX0_leadingTo 69 = .ok (.iinc 7 1, 3) := by decide +kernel
theorem dX0_leadingTo_72 : decode cX0_leadingTo 72 = .ok (.goto (-34), 3) := by decide +kernel
theorem dX0_leadingTo_75 : decode cX0_leadingTo 75 = .ok (.iinc 6 1, 3) := by decide +kernel
theorem dX0_leadingTo_78 : decode cX0_leadingTo 78 = .ok (.goto (-70), 3) := by decide +kernel
theorem dX0_leadingTo_81 : decode cX0_leadingTo 81 = .ok (.lload_n 2, 1) := by decide +kernel
theorem dX0_leadingTo_82 : decode cX0_leadingTo 82 = .ok (.lreturn, 1) := by decide +kernel
theorem dX0_way_0 : decode cX0_way 0 = .ok (.lconst 1, 1) := by decide +kernel
theorem dX0_way_1 : decode cX0_way 1 = .ok (.iload_n 1, 1) := by decide +kernel
theorem dX0_way_2 : decode cX0_way 2 = .ok (.lshl, 1) := by decide +kernel
theorem dX0_way_3 : decode cX0_way 3 = .ok (.lstore_n 3, 1) := by decide +kernel
theorem dX0_way_4 : decode cX0_way 4 = .ok (.iconst 0, 1) := by decide +kernel
theorem dX0_way_5 : decode cX0_way 5 = .ok (.istore 5, 2) := by decide +kernel
theorem dX0_way_7 : decode cX0_way 7 = .ok (.iload 5, 2) := by decide +kernel
theorem dX0_way_9 : decode cX0_way 9 = .ok (.aload_n 0, 1) := by decide +kernel
theorem dX0_way_10 : decode cX0_way 10 = .ok (.getfield 57, 3) := by decide +kernel
theorem dX0_way_13 : decode cX0_way 13 = .ok (.if_icmp .gt 65, 3) := by decide +kernel
theorem dX0_way_16 : decode cX0_way 16 = .ok (.lload_n 3, 1) := by decide +kernel
theorem dX0_way_17 : decode cX0_way 17 = .ok (.iload_n 2, 1) := by decide +kernel
theorem dX0_way_18 : decode cX0_way 18 = .ok (.invokestatic 125, 3) := by decide +kernel
theorem dX0_way_21 : decode cX0_way 21 = .ok (.ifCond .eq 6, 3) := by decide +kernel
theorem dX0_way_24 : decode cX0_way 24 = .ok (.iload 5, 2) := by decide +kernel
theorem dX0_way_26 : decode cX0_way 26 = .ok (.ireturn, 1) := by decide +kernel
theorem dX0_way_27 : decode cX0_way 27 = .ok (.lload_n 3, 1) := by decide +kernel
theorem dX0_way_28 : decode cX0_way 28 = .ok (.lstore 6, 2) := by decide +kernel
theorem dX0_way_30 : decode cX0_way 30 = .ok (.iconst 0, 1) := by decide +kernel
theorem dX0_way_31 : decode cX0_way 31 = .ok (.istore 8, 2) := by decide +kernel
theorem dX0_way_33 : decode cX0_way 33 = .ok (.iload 8, 2) := by decide +kernel
theorem dX0_way_35 : decode cX0_way 35 = .ok (.aload_n 0, 1) := by decide +kernel
theorem dX0_way_36 : decode cX0_way 36 = .ok (.getfield 57, 3) := by decide +kernel
theorem dX0_way_39 : decode cX0_way 39 = .ok (.if_icmp .ge 30, 3) := by decide +kernel
theorem dX0_way_42 : decode cX0_way 42 = .ok (.lload_n 3, 1) := by decide +kernel
theorem dX0_way_43 : decode cX0_way 43 = .ok (.iload 8, 2) := by decide +kernel
theorem dX0_way_45 : decode cX0_way 45 = .ok (.invokestatic 125, 3) := by decide +kernel
theorem dX0_way_48 : decode cX0_way 48 = .ok (.ifCond .eq 15, 3) := by decide +kernel
theorem dX0_way_51 : decode cX0_way 51 = .ok (.lload 6, 2) := by decide +kernel
theorem dX0_way_53 : decode cX0_way 53 = .ok (.aload_n 0, 1) := by decide +kernel
theorem dX0_way_54 : decode cX0_way 54 = .ok (.getfield 30, 3) := by decide +kernel
theorem dX0_way_57 : decode cX0_way 57 = .ok (.iload 8, 2) := by decide +kernel
theorem dX0_way_59 : decode cX0_way 59 = .ok (.laload, 1) := by decide +kernel
theorem dX0_way_60 : decode cX0_way 60 = .ok (.lor, 1) := by decide +kernel
theorem dX0_way_61 : decode cX0_way 61 = .ok (.lstore 6, 2) := by decide +kernel
theorem dX0_way_63 : decode cX0_way 63 = .ok (.iinc 8 1, 3) := by decide +kernel
theorem dX0_way_66 : decode cX0_way 66 = .ok (.goto (-33), 3) := by decide +kernel
theorem dX0_way_69 : decode cX0_way 69 = .ok (.lload 6, 2) := by decide +kernel
theorem dX0_way_71 : decode cX0_way 71 = .ok (.lstore_n 3, 1) := by decide +kernel
theorem dX0_way_72 : decode cX0_way 72 = .ok (.iinc 5 1, 3) := by decide +kernel
theorem dX0_way_75 : decode cX0_way 75 = .ok (.goto (-68), 3) := by decide +kernel
theorem dX0_way_78 : decode cX0_way 78 = .ok (.iconst (-1), 1) := by decide +kernel
theorem dX0_way_79 : decode cX0_way 79 = .ok (.ireturn, 1) := by decide +kernel
theorem dX1_init_0 : decode cX1_init 0 = .ok (.aload_n 0, 1) := by decide +kernel
theorem dX1_init_1 : decode cX1_init 1 = .ok (.invokespecial 3, 3) := by decide +kernel
theorem dX1_init_4 : decode cX1_init 4 = .ok (.aload_n 0, 1) := by decide +kernel
theorem dX1_init_5 : decode cX1_init 5 = .ok (.sipush 320, 3) := by decide +kernel
theorem dX1_init_8 : decode cX1_init 8 = .ok (.newarray .int, 2) := by decide +kernel
theorem dX1_init_10 : decode cX1_init 10 = .ok (.putfield 9, 3) := by decide +kernel
theorem dX1_init_13 : decode cX1_init 13 = .ok (.aload_n 0, 1) := by decide +kernel
theorem dX1_init_14 : decode cX1_init 14 = .ok (.sipush 320, 3) := by decide +kernel
theorem dX1_init_17 : decode cX1_init 17 = .ok (.newarray .int, 2) := by decide +kernel
theorem dX1_init_19 : decode cX1_init 19 = .ok (.putfield 15, 3) := by decide +kernel
theorem dX1_init_22 : decode cX1_init 22 = .ok (.aload_n 0, 1) := by decide +kernel
theorem dX1_init_23 : decode cX1_init 23 = .ok (.sipush 320, 3) := by decide +kernel
theorem dX1_init_26 : decode cX1_init 26 = .ok (.newarray .int, 2) := by decide +kernel
theorem dX1_init_28 : decode cX1_init 28 = .ok (.putfield 18, 3) := by decide +kernel
theorem dX1_init_31 : decode cX1_init 31 = .ok (.aload_n 0, 1) := by decide +kernel
theorem dX1_init_32 : decode cX1_init 32 = .ok (.bipush 41, 2) := by decide +kernel
theorem dX1_init_34 : decode cX1_init 34 = .ok (.newarray .int, 2) := by decide +kernel
theorem dX1_init_36 : decode cX1_init 36 = .ok (.putfield 21, 3) := by decide +kernel
theorem dX1_init_39 : decode cX1_init 39 = .ok (.aload_n 0, 1) := by decide +kernel
theorem dX1_init_40 : decode cX1_init 40 = .ok (.bipush 40, 2) := by decide +kernel
theorem dX1_init_42 : decode cX1_init 42 = .ok (.newarray .int, 2) := by decide +kernel
theorem dX1_init_44 : decode cX1_init 44 = .ok (.putfield 24, 3) := by decide +kernel
theorem dX1_init_47 : decode cX1_init 47 = .ok (.aload_n 0, 1) := by decide +kernel
theorem dX1_init_48 : decode cX1_init 48 = .ok (.bipush 8, 2) := by decide +kernel
theorem dX1_init_50 : decode cX1_init 50 = .ok (.newarray .int, 2) := by decide +kernel
theorem dX1_init_52 : decode cX1_init 52 = .ok (.putfield 27, 3) := by decide +kernel
theorem dX1_init_55 : decode cX1_init 55 = .ok (.aload_n 0, 1) := by decide +kernel
theorem dX1_init_56 : decode cX1_init 56 = .ok (.sipush 512, 3) := by decide +kernel
theorem dX1_init_59 : decode cX1_init 59 = .ok (.newarray .boolean, 2) := by decide +kernel
theorem dX1_init_61 : decode cX1_init 61 = .ok (.putfield 30, 3) := by decide +kernel
theorem dX1_init_64 : decode cX1_init 64 = .ok (.aload_n 0, 1) := by decide +kernel
theorem dX1_init_65 : decode cX1_init 65 = .ok (.aload_n 1, 1) := by decide +kernel
theorem dX1_init_66 : decode cX1_init 66 = .ok (.putfield 34, 3) := by decide +kernel
theorem dX1_init_69 : decode cX1_init 69 = .ok (.aload_n 0, 1) := by decide +kernel
theorem dX1_init_70 : decode cX1_init 70 = .ok (.aload_n 2, 1) := by decide +kernel
theorem dX1_init_71 : decode cX1_init 71 = .ok (.putfield 38, 3) := by decide +kernel
theorem dX1_init_74 : decode cX1_init 74 = .ok (.aload_n 0, 1) := by decide +kernel
theorem dX1_init_75 : decode cX1_init 75 = .ok (.aload_n 3, 1) := by decide +kernel
theorem dX1_init_76 : decode cX1_init 76 = .ok (.putfield 42, 3) := by decide +kernel
theorem dX1_init_79 : decode cX1_init 79 = .ok (.return_, 1) := by decide +kernel
theorem dX1_lift_0 : decode cX1_lift 0 = .ok (.aload_n 0, 1) := by decide +kernel
theorem dX1_lift_1 : decode cX1_lift 1 = .ok (.iconst 0, 1) := by decide +kernel
theorem dX1_lift_2 : decode cX1_lift 2 = .ok (.putfield 46, 3) := by decide +kernel
theorem dX1_lift_5 : decode cX1_lift 5 = .ok (.aload_n 0, 1) := by decide +kernel
theorem dX1_lift_6 : decode cX1_lift 6 = .ok (.iconst 0, 1) := by decide +kernel
theorem dX1_lift_7 : decode cX1_lift 7 = .ok (.putfield 50, 3) := by decide +kernel
theorem dX1_lift_10 : decode cX1_lift 10 = .ok (.aload_n 0, 1) := by decide +kernel
theorem dX1_lift_11 : decode cX1_lift 11 = .ok (.getfield 42, 3) := by decide +kernel
theorem dX1_lift_14 : decode cX1_lift 14 = .ok (.iconst 0, 1) := by decide +kernel
theorem dX1_lift_15 : decode cX1_lift 15 = .ok (.putfield 53, 3) := by decide +kernel
theorem dX1_lift_18 : decode cX1_lift 18 = .ok (.iconst 0, 1) := by decide +kernel
theorem dX1_lift_19 : decode cX1_lift 19 = .ok (.istore_n 1, 1) := by decide +kernel
theorem dX1_lift_20 : decode cX1_lift 20 = .ok (.iload_n 1, 1) := by decide +kernel
theorem dX1_lift_21 : decode cX1_lift 21 = .ok (.aload_n 0, 1) := by decide +kernel
theorem dX1_lift_22 : decode cX1_lift 22 = .ok (.getfield 38, 3) := by decide +kernel
theorem dX1_lift_25 : decode cX1_lift 25 = .ok (.getfield 56, 3) := by decide +kernel
theorem dX1_lift_28 : decode cX1_lift 28 = .ok (.if_icmp .ge 134, 3) := by decide +kernel
theorem dX1_lift_31 : decode cX1_lift 31 = .ok (.aload_n 0, 1) := by decide +kernel
theorem dX1_lift_32 : decode cX1_lift 32 = .ok (.getfield 21, 3) := by decide +kernel
theorem dX1_lift_35 : decode cX1_lift 35 = .ok (.iload_n 1, 1) := by decide +kernel
theorem dX1_lift_36 : decode cX1_lift 36 = .ok (.aload_n 0, 1) := by decide +kernel
theorem dX1_lift_37 : decode cX1_lift 37 = .ok (.getfield 46, 3) := by decide +kernel
theorem dX1_lift_40 : decode cX1_lift 40 = .ok (.iastore, 1) := by decide +kernel
theorem dX1_lift_41 : decode cX1_lift 41 = .ok (.aload_n 0, 1) := by decide +kernel
theorem dX1_lift_42 : decode cX1_lift 42 = .ok (.getfield 24, 3) := by decide +kernel
theorem dX1_lift_45 : decode cX1_lift 45 = .ok (.iload_n 1, 1) := by decide +kernel
theorem dX1_lift_46 : decode cX1_lift 46 = .ok (.iconst (-1), 1) := by decide +kernel
theorem dX1_lift_47 : decode cX1_lift 47 = .ok (.iastore, 1) := by decide +kernel
theorem dX1_lift_48 : decode cX1_lift 48 = .ok (.aload_n 0, 1) := by decide +kernel
theorem dX1_lift_49 : decode cX1_lift 49 = .ok (.iconst 0, 1) := by decide +kernel
theorem dX1_lift_50 : decode cX1_lift 50 = .ok (.putfield 59, 3) := by decide +kernel
theorem dX1_lift_53 : decode cX1_lift 53 = .ok (.iconst 0, 1) := by decide +kernel
theorem dX1_lift_54 : decode cX1_lift 54 = .ok (.istore_n 2, 1) := by decide +kernel
theorem dX1_lift_55 : decode cX1_lift 55 = .ok (.iload_n 2, 1) := by decide +kernel
theorem dX1_lift_56 : decode cX1_lift 56 = .ok (.aload_n 0, 1) := by decide +kernel
theorem dX1_lift_57 : decode cX1_lift 57 = .ok (.getfield 34, 3) := by decide +kernel
theorem dX1_lift_60 : decode cX1_lift 60 = .ok (.getfield 62, 3) := by decide +kernel
theorem dX1_lift_63 : decode cX1_lift 63 = .ok (.aload_n 0, 1) := by decide +kernel
theorem dX1_lift_64 : decode cX1_lift 64 = .ok (.getfield 38, 3) := by decide +kernel
theorem dX1_lift_67 : decode cX1_lift 67 = .ok (.getfield 67, 3) := by decide +kernel
theorem dX1_lift_70 : decode cX1_lift 70 = .ok (.iload_n 1, 1) := by decide +kernel
theorem dX1_lift_71 : decode cX1_lift 71 = .ok (.iaload, 1) := by decide +kernel
theorem dX1_lift_72 : decode cX1_lift 72 = .ok (.iaload, 1) := by decide +kernel
theorem dX1_lift_73 : decode cX1_lift 73 = .ok (.if_icmp .ge 24, 3) := by decide +kernel
theorem dX1_lift_76 : decode cX1_lift 76 = .ok (.aload_n 0, 1) := by decide +kernel
theorem dX1_lift_77 : decode cX1_lift 77 = .ok (.aload_n 0, 1) := by decide +kernel
theorem dX1_lift_78 : decode cX1_lift 78 = .ok (.getfield 42, 3) := by decide +kernel
theorem dX1_lift_81 : decode cX1_lift 81 = .ok (.bipush 84, 2) := by decide +kernel
theorem dX1_lift_83 : decode cX1_lift 83 = .ok (.iload_n 2, 1) := by decide +kernel
theorem dX1_lift_84 : decode cX1_lift 84 = .ok (.iconst 0, 1) := by decide +kernel
theorem dX1_lift_85 : decode cX1_lift 85 = .ok (.invokevirtual 68, 3) := by decide +kernel
theorem dX1_lift_88 : decode cX1_lift 88 = .ok (.invokevirtual 72, 3) := by decide +kernel
theorem dX1_lift_91 : decode cX1_lift 91 = .ok (.iinc 2 1, 3) := by decide +kernel
theorem dX1_lift_94 : decode cX1_lift 94 = .ok (.goto (-39), 3) := by decide +kernel
theorem dX1_lift_97 : decode cX1_lift 97 = .ok (.aload_n 0, 1) := by decide +kernel
theorem dX1_lift_98 : decode cX1_lift 98 = .ok (.getfield 38, 3) := by decide +kernel
theorem dX1_lift_101 : decode cX1_lift 101 = .ok (.getfield 67, 3) := by decide +kernel
theorem dX1_lift_104 : decode cX1_lift 104 = .ok (.iload_n 1, 1) := by decide +kernel
theorem dX1_lift_105 : decode cX1_lift 105 = .ok (.iaload, 1) := by decide +kernel
theorem dX1_lift_106 : decode cX1_lift 106 = .ok (.istore_n 2, 1) := by decide +kernel
theorem dX1_lift_107 : decode cX1_lift 107 = .ok (.iload_n 2, 1) := by decide +kernel
theorem dX1_lift_108 : decode cX1_lift 108 = .ok (.aload_n 0, 1) := by decide +kernel
theorem dX1_lift_109 : decode cX1_lift 109 = .ok (.getfield 38, 3) := by decide +kernel
theorem dX1_lift_112 : decode cX1_lift 112 = .ok (.getfield 76, 3) := by decide +kernel
theorem dX1_lift_115 : decode cX1_lift 115 = .ok (.iload_n 1, 1) := by decide +kernel
theorem dX1_lift_116 : decode cX1_lift 116 = .ok (.iaload, 1) := by decide +kernel
theorem dX1_lift_117 : decode cX1_lift 117 = .ok (.if_icmp .gt 15, 3) := by decide +kernel
theorem dX1_lift_120 : decode cX1_lift 120 = .ok (.aload_n 0, 1) := by decide +kernel
theorem dX1_lift_121 : decode cX1_lift 121 = .ok (.iload_n 1, 1) := by decide +kernel
theorem dX1_lift_122 : decode cX1_lift 122 = .ok (.iload_n 2, 1) := by decide +kernel
theorem dX1_lift_123 : decode cX1_lift 123 = .ok (.invokevirtual 79, 3) := by decide +kernel
theorem dX1_lift_126 : decode cX1_lift 126 = .ok (.iinc 2 1, 3) := by decide +kernel
theorem dX1_lift_129 : decode cX1_lift 129 = .ok (.goto (-22), 3) := by decide +kernel
theorem dX1_lift_132 : decode cX1_lift 132 = .ok (.aload_n 0, 1) := by decide +kernel
theorem dX1_lift_133 : decode cX1_lift 133 = .ok (.getfield 34, 3) := by decide +kernel
theorem dX1_lift_136 : decode cX1_lift 136 = .ok (.aload_n 0, 1) := by decide +kernel
theorem dX1_lift_137 : decode cX1_lift 137 = .ok (.getfield 38, 3) := by decide +kernel
theorem dX1_lift_140 : decode cX1_lift 140 = .ok (.getfield 76, 3) := by decide +kernel
theorem dX1_lift_143 : decode cX1_lift 143 = .ok (.iload_n 1, 1) := by decide +kernel
theorem dX1_lift_144 : decode cX1_lift 144 = .ok (.iaload, 1) := by decide +kernel
theorem dX1_lift_145 : decode cX1_lift 145 = .ok (.invokevirtual 83, 3) := by decide +kernel
theorem dX1_lift_148 : decode cX1_lift 148 = .ok (.ifCond .ne 8, 3) := by decide +kernel
theorem dX1_lift_151 : decode cX1_lift 151 = .ok (.aload_n 0, 1) := by decide +kernel
theorem dX1_lift_152 : decode cX1_lift 152 = .ok (.iload_n 1, 1) := by decide +kernel
theorem dX1_lift_153 : decode cX1_lift 153 = .ok (.invokevirtual 87, 3) := by decide +kernel
theorem dX1_lift_156 : decode cX1_lift 156 = .ok (.iinc 1 1, 3) := by decide +kernel
theorem dX1_lift_159 : decode cX1_lift 159 = .ok (.goto (-139), 3) := by decide +kernel
theorem dX1_lift_162 : decode cX1_lift 162 = .ok (.aload_n 0, 1) := by decide +kernel
theorem dX1_lift_163 : decode cX1_lift 163 = .ok (.getfield 21, 3) := by decide +kernel
theorem dX1_lift_166 : decode cX1_lift 166 = .ok (.aload_n 0, 1) := by decide +kernel
theorem dX1_lift_167 : decode cX1_lift 167 = .ok (.getfield 38, 3) := by decide +kernel
theorem dX1_lift_170 : decode cX1_lift 170 = .ok (.getfield 56, 3) := by decide +kernel
theorem dX1_lift_173 : decode cX1_lift 173 = .ok (.aload_n 0, 1) := by decide +kernel
theorem dX1_lift_174 : decode cX1_lift 174 = .ok (.getfield 46, 3) := by decide +kernel
theorem dX1_lift_177 : decode cX1_lift 177 = .ok (.iastore, 1) := by decide +kernel
theorem dX1_lift_178 : decode cX1_lift 178 = .ok (.aload_n 0, 1) := by decide +kernel
theorem dX1_lift_179 : decode cX1_lift 179 = .ok (.invokevirtual 90, 3) := by decide +kernel
theorem dX1_lift_182 : decode cX1_lift 182 = .ok (.return_, 1) := by decide +kernel
theorem dX1_step_0 : decode cX1_step 0 = .ok (.aload_n 0, 1) := by decide +kernel
theorem dX1_step_1 : decode cX1_step 1 = .ok (.getfield 34, 3) := by decide +kernel
theorem dX1_step_4 : decode cX1_step 4 = .ok (.getfield 93, 3) := by decide +kernel
theorem dX1_step_7 : decode cX1_step 7 = .ok (.iload_n 2, 1) := by decide +kernel
theorem dX1_step_8 : decode cX1_step 8 = .ok (.iaload, 1) := by decide +kernel
theorem dX1_step_9 : decode cX1_step 9 = .ok (.istore_n 3, 1) := by decide +kernel
theorem dX1_step_10 : decode cX1_step 10 = .ok (.aload_n 0, 1) := by decide +kernel
theorem dX1_step_11 : decode cX1_step 11 = .ok (.getfield 34, 3) := by decide +kernel
theorem dX1_step_14 : decode cX1_step 14 = .ok (.getfield 96, 3) := by decide +kernel
theorem dX1_step_17 : decode cX1_step 17 = .ok (.iload_n 2, 1) := by decide +kernel
theorem dX1_step_18 : decode cX1_step 18 = .ok (.iaload, 1) := by decide +kernel
theorem dX1_step_19 : decode cX1_step 19 = .ok (.istore 4, 2) := by decide +kernel
theorem dX1_step_21 : decode cX1_step 21 = .ok (.iload_n 3, 1) := by decide +kernel
theorem dX1_step_22 : decode cX1_step 22 = .ok (.tableswitch 238 100 122 #[186, 238, 238, 200, 238, 106, 238, 106, 106, 238, 238, 138, 175, 238, 164, 124, 151, 238, 238, 193, 238, 238, 203], 106) := by decide +kernel
theorem dX1_step_128 : decode cX1_step 128 = .ok (.aload_n 0, 1) := by decide +kernel
theorem dX1_step_129 : decode cX1_step 129 = .ok (.aload_n 0, 1) := by decide +kernel
theorem dX1_step_130 : decode cX1_step 130 = .ok (.getfield 42, 3) := by decide +kernel
theorem dX1_step_133 : decode cX1_step 133 = .ok (.iload_n 3, 1) := by decide +kernel
theorem dX1_step_134 : decode cX1_step 134 = .ok (.iload 4, 2) := by decide +kernel
theorem dX1_step_136 : decode cX1_step 136 = .ok (.iconst 0, 1) := by decide +kernel
theorem dX1_step_137 : decode cX1_step 137 = .ok (.invokevirtual 68, 3) := by decide +kernel
theorem dX1_step_140 : decode cX1_step 140 = .ok (.invokevirtual 72, 3) := by decide +kernel
theorem dX1_step_143 : decode cX1_step 143 = .ok (.goto 122, 3) := by decide +kernel
theorem dX1_step_146 : decode cX1_step 146 = .ok (.aload_n 0, 1) := by decide +kernel
theorem dX1_step_147 : decode cX1_step 147 = .ok (.iconst 0, 1) := by decide +kernel
theorem dX1_step_148 : decode cX1_step 148 = .ok (.iload 4, 2) := by decide +kernel
theorem dX1_step_150 : decode cX1_step 150 = .ok (.aload_n 0, 1) := by decide +kernel
theorem dX1_step_151 : decode cX1_step 151 = .ok (.invokevirtual 99, 3) := by decide +kernel
theorem dX1_step_154 : decode cX1_step 154 = .ok (.invokevirtual 103, 3) := by decide +kernel
theorem dX1_step_157 : decode cX1_step 157 = .ok (.goto 108, 3) := by decide +kernel
theorem dX1_step_160 : decode cX1_step 160 = .ok (.aload_n 0, 1) := by decide +kernel
theorem dX1_step_161 : decode cX1_step 161 = .ok (.iconst 3, 1) := by decide +kernel
theorem dX1_step_162 : decode cX1_step 162 = .ok (.iconst (-1), 1) := by decide +kernel
theorem dX1_step_163 : decode cX1_step 163 = .ok (.aload_n 0, 1) := by decide +kernel
theorem dX1_step_164 : decode cX1_step 164 = .ok (.invokevirtual 99, 3) := by decide +kernel
theorem dX1_step_167 : decode cX1_step 167 = .ok (.invokevirtual 103, 3) := by decide +kernel
theorem dX1_step_170 : decode cX1_step 170 = .ok (.goto 95, 3) := by decide +kernel
theorem dX1_step_173 : decode cX1_step 173 = .ok (.aload_n 0, 1) := by decide +kernel
theorem dX1_step_174 : decode cX1_step 174 = .ok (.iconst 5, 1) := by decide +kernel
theorem dX1_step_175 : decode cX1_step 175 = .ok (.iconst (-1), 1) := by decide +kernel
theorem dX1_step_176 : decode cX1_step 176 = .ok (.aload_n 0, 1) := by decide +kernel
theorem dX1_step_177 : decode cX1_step 177 = .ok (.invokevirtual 99, 3) := by decide +kernel
theorem dX1_step_180 : decode cX1_step 180 = .ok (.invokevirtual 103, 3) := by decide +kernel
theorem dX1_step_183 : decode cX1_step 183 = .ok (.goto 82, 3) := by decide +kernel
theorem dX1_step_186 : decode cX1_step 186 = .ok (.aload_n 0, 1) := by decide +kernel
theorem dX1_step_187 : decode cX1_step 187 = .ok (.bipush 6, 2) := by decide +kernel
theorem dX1_step_189 : decode cX1_step 189 = .ok (.iconst (-1), 1) := by decide +kernel
theorem dX1_step_190 : decode cX1_step 190 = .ok (.iconst (-1), 1) := by decide +kernel
theorem dX1_step_191 : decode cX1_step 191 = .ok (.invokevirtual 103, 3) := by decide +kernel
theorem dX1_step_194 : decode cX1_step 194 = .ok (.goto 71, 3) := by decide +kernel
theorem dX1_step_197 : decode cX1_step 197 = .ok (.aload_n 0, 1) := by decide +kernel
theorem dX1_step_198 : decode cX1_step 198 = .ok (.aload_n 0, 1) := by decide +kernel
theorem dX1_step_199 : decode cX1_step 199 = .ok (.invokevirtual 99, 3) := by decide +kernel
theorem dX1_step_202 : decode cX1_step 202 = .ok (.invokevirtual 107, 3) := by decide +kernel
theorem dX1_step_205 : decode cX1_step 205 = .ok (.goto 60, 3) := by decide +kernel
theorem dX1_step_208 : decode cX1_step 208 = .ok (.aload_n 0, 1) := by decide +kernel
theorem dX1_step_209 : decode cX1_step 209 = .ok (.invokevirtual 110, 3) := by decide +kernel
theorem dX1_step_212 : decode cX1_step 212 = .ok (.goto 53, 3) := by decide +kernel
theorem dX1_step_215 : decode cX1_step 215 = .ok (.aload_n 0, 1) := by decide +kernel
theorem dX1_step_216 : decode cX1_step 216 = .ok (.invokevirtual 113, 3) := by decide +kernel
theorem dX1_step_219 : decode cX1_step 219 = .ok (.goto 46, 3) := by decide +kernel
theorem dX1_step_222 : decode cX1_step 222 = .ok (.goto 43, 3) := by decide +kernel
theorem dX1_step_225 : decode cX1_step 225 = .ok (.aload_n 0, 1) := by decide +kernel
theorem dX1_step_226 : decode cX1_step 226 = .ok (.getfield 34, 3) := by decide +kernel
theorem dX1_step_229 : decode cX1_step 229 = .ok (.iload_n 2, 1) := by decide +kernel
theorem dX1_step_230 : decode cX1_step 230 = .ok (.invokevirtual 116, 3) := by decide +kernel
theorem dX1_step_233 : decode cX1_step 233 = .ok (.ifCond .eq 16, 3) := by decide +kernel
theorem dX1_step_236 : decode cX1_step 236 = .ok (.aload_n 0, 1) := by decide +kernel
theorem dX1_step_237 : decode cX1_step 237 = .ok (.getfield 24, 3) := by decide +kernel
theorem dX1_step_240 : decode cX1_step 240 = .ok (.iload_n 1, 1) := by decide +kernel
theorem dX1_step_241 : decode cX1_step 241 = .ok (.aload_n 0, 1) := by decide +kernel
theorem dX1_step_242 : decode cX1_step 242 = .ok (.invokevirtual 99, 3) := by decide +kernel
theorem dX1_step_245 : decode cX1_step 245 = .ok (.iastore, 1) := by decide +kernel
theorem dX1_step_246 : decode cX1_step 246 = .ok (.goto 19, 3) := by decide +kernel
theorem dX1_step_249 : decode cX1_step 249 = .ok (.aload_n 0, 1) := by decide +kernel
theorem dX1_step_250 : decode cX1_step 250 = .ok (.aload_n 0, 1) := by decide +kernel
theorem dX1_step_251 : decode cX1_step 251 = .ok (.invokevirtual 99, 3) := by decide +kernel
theorem dX1_step_254 : decode cX1_step 254 = .ok (.invokevirtual 107, 3) := by decide +kernel
theorem dX1_step_257 : decode cX1_step 257 = .ok (.goto 8, 3) := by decide +kernel
theorem dX1_step_260 : decode cX1_step 260 = .ok (.aload_n 0, 1) := by decide +kernel
theorem dX1_step_261 : decode cX1_step 261 = .ok (.iload_n 3, 1) := by decide +kernel
theorem dX1_step_262 : decode cX1_step 262 = .ok (.invokevirtual 119, 3) := by decide +kernel
theorem dX1_step_265 : decode cX1_step 265 = .ok (.return_, 1) := by decide +kernel
theorem dX1_operate_0 : decode cX1_operate 0 = .ok (.aload_n 0, 1) := by decide +kernel
theorem dX1_operate_1 : decode cX1_operate 1 = .ok (.invokevirtual 99, 3) := by decide +kernel
theorem dX1_operate_4 : decode cX1_operate 4 = .ok (.istore_n 2, 1) := by decide +kernel
theorem dX1_operate_5 : decode cX1_operate 5 = .ok (.iload_n 1, 1) := by decide +kernel
theorem dX1_operate_6 : decode cX1_operate 6 = .ok (.invokestatic 122, 3) := by decide +kernel
theorem dX1_operate_9 : decode cX1_operate 9 = .ok (.ifCond .eq 25, 3) := by decide +kernel
theorem dX1_operate_12 : decode cX1_operate 12 = .ok (.aload_n 0, 1) := by decide +kernel
theorem dX1_operate_13 : decode cX1_operate 13 = .ok (.invokevirtual 99, 3) := by decide +kernel
theorem dX1_operate_16 : decode cX1_operate 16 = .ok (.istore_n 3, 1) := by decide +kernel
theorem dX1_operate_17 : decode cX1_operate 17 = .ok (.aload_n 0, 1) := by decide +kernel
theorem dX1_operate_18 : decode cX1_operate 18 = .ok (.aload_n 0, 1) := by decide +kernel
theorem dX1_operate_19 : decode cX1_operate 19 = .ok (.getfield 42, 3) := by decide +kernel
theorem dX1_operate_22 : decode cX1_operate 22 = .ok (.iload_n 1, 1) := by decide +kernel
theorem dX1_operate_23 : decode cX1_operate 23 = .ok (.iload_n 3, 1) := by decide +kernel
theorem dX1_operate_24 : decode cX1_operate 24 = .ok (.iload_n 2, 1) := by decide +kernel
theorem dX1_operate_25 : decode cX1_operate 25 = .ok (.invokevirtual 68, 3) := by decide +kernel
theorem dX1_operate_28 : decode cX1_operate 28 = .ok (.invokevirtual 72, 3) := by decide +kernel
theorem dX1_operate_31 : decode cX1_operate 31 = .ok (.goto 17, 3) := by decide +kernel
theorem dX1_operate_34 : decode cX1_operate 34 = .ok (.aload_n 0, 1) := by decide +kernel
theorem dX1_operate_35 : decode cX1_operate 35 = .ok (.aload_n 0, 1) := by decide +kernel
theorem dX1_operate_36 : decode cX1_operate 36 = .ok (.getfield 42, 3) := by decide +kernel
theorem dX1_operate_39 : decode cX1_operate 39 = .ok (.iload_n 1, 1) := by decide +kernel
theorem dX1_operate_40 : decode cX1_operate 40 = .ok (.iload_n 2, 1) := by decide +kernel
theorem dX1_operate_41 : decode cX1_operate 41 = .ok (.iconst 0, 1) := by decide +kernel
theorem dX1_operate_42 : decode cX1_operate 42 = .ok (.invokevirtual 68, 3) := by decide +kernel
theorem dX1_operate_45 : decode cX1_operate 45 = .ok (.invokevirtual 72, 3) := by decide +kernel
theorem dX1_operate_48 : decode cX1_operate 48 = .ok (.return_, 1) := by decide +kernel
theorem dX1_state_0 : decode cX1_state 0 = .ok (.iload_n 1, 1) := by decide +kernel
theorem dX1_state_1 : decode cX1_state 1 = .ok (.ifCond .ne 9, 3) := by decide +kernel
theorem dX1_state_4 : decode cX1_state 4 = .ok (.iconst 1, 1) := by decide +kernel
theorem dX1_state_5 : decode cX1_state 5 = .ok (.iload_n 2, 1) := by decide +kernel
theorem dX1_state_6 : decode cX1_state 6 = .ok (.ishl, 1) := by decide +kernel
theorem dX1_state_7 : decode cX1_state 7 = .ok (.goto 4, 3) := by decide +kernel
theorem dX1_state_10 : decode cX1_state 10 = .ok (.iconst 0, 1) := by decide +kernel
theorem dX1_state_11 : decode cX1_state 11 = .ok (.istore 4, 2) := by decide +kernel
theorem dX1_state_13 : decode cX1_state 13 = .ok (.aload_n 0, 1) := by decide +kernel
theorem dX1_state_14 : decode cX1_state 14 = .ok (.sipush 4096, 3) := by decide +kernel
theorem dX1_state_17 : decode cX1_state 17 = .ok (.iload 4, 2) := by decide +kernel
theorem dX1_state_19 : decode cX1_state 19 = .ok (.ior, 1) := by decide +kernel
theorem dX1_state_20 : decode cX1_state 20 = .ok (.invokevirtual 125, 3) := by decide +kernel
theorem dX1_state_23 : decode cX1_state 23 = .ok (.aload_n 0, 1) := by decide +kernel
theorem dX1_state_24 : decode cX1_state 24 = .ok (.iload_n 1, 1) := by decide +kernel
theorem dX1_state_25 : decode cX1_state 25 = .ok (.iload_n 2, 1) := by decide +kernel
theorem dX1_state_26 : decode cX1_state 26 = .ok (.iload_n 3, 1) := by decide +kernel
theorem dX1_state_27 : decode cX1_state 27 = .ok (.invokevirtual 128, 3) := by decide +kernel
theorem dX1_state_30 : decode cX1_state 30 = .ok (.return_, 1) := by decide +kernel
theorem dX1_spill_0 : decode cX1_spill 0 = .ok (.iconst 0, 1) := by decide +kernel
theorem dX1_spill_1 : decode cX1_spill 1 = .ok (.istore_n 2, 1) := by decide +kernel
theorem dX1_spill_2 : decode cX1_spill 2 = .ok (.iload_n 2, 1) := by decide +kernel
theorem dX1_spill_3 : decode cX1_spill 3 = .ok (.aload_n 0, 1) := by decide +kernel
theorem dX1_spill_4 : decode cX1_spill 4 = .ok (.getfield 59, 3) := by decide +kernel
theorem dX1_spill_7 : decode cX1_spill 7 = .ok (.if_icmp .ge 44, 3) := by decide +kernel
theorem dX1_spill_10 : decode cX1_spill 10 = .ok (.aload_n 0, 1) := by decide +kernel
theorem dX1_spill_11 : decode cX1_spill 11 = .ok (.getfield 42, 3) := by decide +kernel
theorem dX1_spill_14 : decode cX1_spill 14 = .ok (.getfield 131, 3) := by decide +kernel
theorem dX1_spill_17 : decode cX1_spill 17 = .ok (.aload_n 0, 1) := by decide +kernel
theorem dX1_spill_18 : decode cX1_spill 18 = .ok (.getfield 27, 3) := by decide +kernel
theorem dX1_spill_21 : decode cX1_spill 21 = .ok (.iload_n 2, 1) := by decide +kernel
theorem dX1_spill_22 : decode cX1_spill 22 = .ok (.iaload, 1) := by decide +kernel
theorem dX1_spill_23 : decode cX1_spill 23 = .ok (.iaload, 1) := by decide +kernel
theorem dX1_spill_24 : decode cX1_spill 24 = .ok (.iload_n 1, 1) := by decide +kernel
theorem dX1_spill_25 : decode cX1_spill 25 = .ok (.iand, 1) := by decide +kernel
theorem dX1_spill_26 : decode cX1_spill 26 = .ok (.ifCond .eq 19, 3) := by decide +kernel
theorem dX1_spill_29 : decode cX1_spill 29 = .ok (.aload_n 0, 1) := by decide +kernel
theorem dX1_spill_30 : decode cX1_spill 30 = .ok (.getfield 27, 3) := by decide +kernel
theorem dX1_spill_33 : decode cX1_spill 33 = .ok (.iload_n 2, 1) := by decide +kernel
theorem dX1_spill_34 : decode cX1_spill 34 = .ok (.aload_n 0, 1) := by decide +kernel
theorem dX1_spill_35 : decode cX1_spill 35 = .ok (.aload_n 0, 1) := by decide +kernel
theorem dX1_spill_36 : decode cX1_spill 36 = .ok (.getfield 27, 3) := by decide +kernel
theorem dX1_spill_39 : decode cX1_spill 39 = .ok (.iload_n 2, 1) := by decide +kernel
theorem dX1_spill_40 : decode cX1_spill 40 = .ok (.iaload, 1) := by decide +kernel
theorem dX1_spill_41 : decode cX1_spill 41 = .ok (.invokevirtual 134, 3) := by decide +kernel
theorem dX1_spill_44 : decode cX1_spill 44 = .ok (.iastore, 1) := by decide +kernel
theorem dX1_spill_45 : decode cX1_spill 45 = .ok (.iinc 2 1, 3) := by decide +kernel
theorem dX1_spill_48 : decode cX1_spill 48 = .ok (.goto (-46), 3) := by decide +kernel
theorem dX1_spill_51 : decode cX1_spill 51 = .ok (.return_, 1) := by decide +kernel
theorem dX1_putAside_0 : decode cX1_putAside 0 = .ok (.aload_n 0, 1) := by decide +kernel
theorem dX1_putAside_1 : decode cX1_putAside 1 = .ok (.iconst 2, 1) := by decide +kernel
theorem dX1_putAside_2 : decode cX1_putAside 2 = .ok (.aload_n 0, 1) := by decide +kernel
theorem dX1_putAside_3 : decode cX1_putAside 3 = .ok (.getfield 50, 3) := by decide +kernel
theorem dX1_putAside_6 : decode cX1_putAside 6 = .ok (.iload_n 1, 1) := by decide +kernel
theorem dX1_putAside_7 : decode cX1_putAside 7 = .ok (.invokevirtual 128, 3) := by decide +kernel
theorem dX1_putAside_10 : decode cX1_putAside 10 = .ok (.aload_n 0, 1) := by decide +kernel
theorem dX1_putAside_11 : decode cX1_putAside 11 = .ok (.getfield 42, 3) := by decide +kernel
theorem dX1_putAside_14 : decode cX1_putAside 14 = .ok (.bipush 88, 2) := by decide +kernel
theorem dX1_putAside_16 : decode cX1_putAside 16 = .ok (.aload_n 0, 1) := by decide +kernel
theorem dX1_putAside_17 : decode cX1_putAside 17 = .ok (.getfield 50, 3) := by decide +kernel
theorem dX1_putAside_20 : decode cX1_putAside 20 = .ok (.iconst 0, 1) := by decide +kernel
theorem dX1_putAside_21 : decode cX1_putAside 21 = .ok (.invokevirtual 68, 3) := by decide +kernel
theorem dX1_putAside_24 : decode cX1_putAside 24 = .ok (.istore_n 2, 1) := by decide +kernel
theorem dX1_putAside_25 : decode cX1_putAside 25 = .ok (.aload_n 0, 1) := by decide +kernel
theorem dX1_putAside_26 : decode cX1_putAside 26 = .ok (.getfield 50, 3) := by decide +kernel
theorem dX1_putAside_29 : decode cX1_putAside 29 = .ok (.sipush 160, 3) := by decide +kernel
theorem dX1_putAside_32 : decode cX1_putAside 32 = .ok (.if_icmp .ge 13, 3) := by decide +kernel
theorem dX1_putAside_35 : decode cX1_putAside 35 = .ok (.aload_n 0, 1) := by decide +kernel
theorem dX1_putAside_36 : decode cX1_putAside 36 = .ok (.dup, 1) := by decide +kernel
theorem dX1_putAside_37 : decode cX1_putAside 37 = .ok (.getfield 50, 3) := by decide +kernel
theorem dX1_putAside_40 : decode cX1_putAside 40 = .ok (.iconst 1, 1) := by decide +kernel
theorem dX1_putAside_41 : decode cX1_putAside 41 = .ok (.iadd, 1) := by decide +kernel
theorem dX1_putAside_42 : decode cX1_putAside 42 = .ok (.putfield 50, 3) := by decide +kernel
theorem dX1_putAside_45 : decode cX1_putAside 45 = .ok (.iload_n 2, 1) := by decide +kernel
theorem dX1_putAside_46 : decode cX1_putAside 46 = .ok (.ireturn, 1) := by decide +kernel
theorem dX1_add_0 : decode cX1_add 0 = .ok (.aload_n 0, 1) := by decide +kernel
theorem dX1_add_1 : decode cX1_add 1 = .ok (.getfield 46, 3) := by decide +kernel
theorem dX1_add_4 : decode cX1_add 4 = .ok (.sipush 320, 3) := by decide +kernel
theorem dX1_add_7 : decode cX1_add 7 = .ok (.if_icmp .ge 43, 3) := by decide +kernel
theorem dX1_add_10 : decode cX1_add 10 = .ok (.aload_n 0, 1) := by decide +kernel
theorem dX1_add_11 : decode cX1_add 11 = .ok (.getfield 9, 3) := by decide +kernel
theorem dX1_add_14 : decode cX1_add 14 = .ok (.aload_n 0, 1) := by decide +kernel
theorem dX1_add_15 : decode cX1_add 15 = .ok (.getfield 46, 3) := by decide +kernel
theorem dX1_add_18 : decode cX1_add 18 = .ok (.iload_n 1, 1) := by decide +kernel
theorem dX1_add_19 : decode cX1_add 19 = .ok (.iastore, 1) := by decide +kernel
theorem dX1_add_20 : decode cX1_add 20 = .ok (.aload_n 0, 1) := by decide +kernel
theorem dX1_add_21 : decode cX1_add 21 = .ok (.getfield 15, 3) := by decide +kernel
theorem dX1_add_24 : decode cX1_add 24 = .ok (.aload_n 0, 1) := by decide +kernel
theorem dX1_add_25 : decode cX1_add 25 = .ok (.getfield 46, 3) := by decide +kernel
theorem dX1_add_28 : decode cX1_add 28 = .ok (.iload_n 2, 1) := by decide +kernel
theorem dX1_add_29 : decode cX1_add 29 = .ok (.iastore, 1) := by decide +kernel
theorem dX1_add_30 : decode cX1_add 30 = .ok (.aload_n 0, 1) := by decide +kernel
theorem dX1_add_31 : decode cX1_add 31 = .ok (.getfield 18, 3) := by decide +kernel
theorem dX1_add_34 : decode cX1_add 34 = .ok (.aload_n 0, 1) := by decide +kernel
theorem dX1_add_35 : decode cX1_add 35 = .ok (.getfield 46, 3) := by decide +kernel
theorem dX1_add_38 : decode cX1_add 38 = .ok (.iload_n 3, 1) := by decide +kernel
theorem dX1_add_39 : decode cX1_add 39 = .ok (.iastore, 1) := by decide +kernel
theorem dX1_add_40 : decode cX1_add 40 = .ok (.aload_n 0, 1) := by decide +kernel
theorem dX1_add_41 : decode cX1_add 41 = .ok (.dup, 1) := by decide +kernel
theorem dX1_add_42 : decode cX1_add 42 = .ok (.getfield 46, 3) := by decide +kernel
theorem dX1_add_45 : decode cX1_add 45 = .ok (.iconst 1, 1) := by decide +kernel
theorem dX1_add_46 : decode cX1_add 46 = .ok (.iadd, 1) := by decide +kernel
theorem dX1_add_47 : decode cX1_add 47 = .ok (.putfield 46, 3) := by decide +kernel
theorem dX1_add_50 : decode cX1_add 50 = .ok (.return_, 1) := by decide +kernel
theorem dX1_drop_0 : decode cX1_drop 0 = .ok (.aload_n 0, 1) := by decide +kernel
theorem dX1_drop_1 : decode cX1_drop 1 = .ok (.getfield 42, 3) := by decide +kernel
theorem dX1_drop_4 : decode cX1_drop 4 = .ok (.iload_n 1, 1) := by decide +kernel
theorem dX1_drop_5 : decode cX1_drop 5 = .ok (.invokevirtual 138, 3) := by decide +kernel
theorem dX1_drop_8 : decode cX1_drop 8 = .ok (.ifCond .eq 17, 3) := by decide +kernel
theorem dX1_drop_11 : decode cX1_drop 11 = .ok (.aload_n 0, 1) := by decide +kernel
theorem dX1_drop_12 : decode cX1_drop 12 = .ok (.sipush 4096, 3) := by decide +kernel
theorem dX1_drop_15 : decode cX1_drop 15 = .ok (.invokevirtual 125, 3) := by decide +kernel
theorem dX1_drop_18 : decode cX1_drop 18 = .ok (.aload_n 0, 1) := by decide +kernel
theorem dX1_drop_19 : decode cX1_drop 19 = .ok (.iconst 4, 1) := by decide +kernel
theorem dX1_drop_20 : decode cX1_drop 20 = .ok (.iconst (-1), 1) := by decide +kernel
theorem dX1_drop_21 : decode cX1_drop 21 = .ok (.iload_n 1, 1) := by decide +kernel
theorem dX1_drop_22 : decode cX1_drop 22 = .ok (.invokevirtual 128, 3) := by decide +kernel
theorem dX1_drop_25 : decode cX1_drop 25 = .ok (.return_, 1) := by decide +kernel
theorem dX1_twice_0 : decode cX1_twice 0 = .ok (.aload_n 0, 1) := by decide +kernel
theorem dX1_twice_1 : decode cX1_twice 1 = .ok (.invokevirtual 99, 3) := by decide +kernel
theorem dX1_twice_4 : decode cX1_twice 4 = .ok (.istore_n 1, 1) := by decide +kernel
theorem dX1_twice_5 : decode cX1_twice 5 = .ok (.aload_n 0, 1) := by decide +kernel
theorem dX1_twice_6 : decode cX1_twice 6 = .ok (.getfield 42, 3) := by decide +kernel
theorem dX1_twice_9 : decode cX1_twice 9 = .ok (.getfield 141, 3) := by decide +kernel
theorem dX1_twice_12 : decode cX1_twice 12 = .ok (.iload_n 1, 1) := by decide +kernel
theorem dX1_twice_13 : decode cX1_twice 13 = .ok (.iaload, 1) := by decide +kernel
theorem dX1_twice_14 : decode cX1_twice 14 = .ok (.bipush 107, 2) := by decide +kernel
theorem dX1_twice_16 : decode cX1_twice 16 = .ok (.if_icmp .eq 27, 3) := by decide +kernel
theorem dX1_twice_19 : decode cX1_twice 19 = .ok (.aload_n 0, 1) := by decide +kernel
theorem dX1_twice_20 : decode cX1_twice 20 = .ok (.getfield 42, 3) := by decide +kernel
theorem dX1_twice_23 : decode cX1_twice 23 = .ok (.iload_n 1, 1) := by decide +kernel
theorem dX1_twice_24 : decode cX1_twice 24 = .ok (.invokevirtual 142, 3) := by decide +kernel
theorem dX1_twice_27 : decode cX1_twice 27 = .ok (.ifCond .ne 16, 3) := by decide +kernel
theorem dX1_twice_30 : decode cX1_twice 30 = .ok (.aload_n 0, 1) := by decide +kernel
theorem dX1_twice_31 : decode cX1_twice 31 = .ok (.sipush 4096, 3) := by decide +kernel
theorem dX1_twice_34 : decode cX1_twice 34 = .ok (.invokevirtual 125, 3) := by decide +kernel
theorem dX1_twice_37 : decode cX1_twice 37 = .ok (.aload_n 0, 1) := by decide +kernel
theorem dX1_twice_38 : decode cX1_twice 38 = .ok (.iload_n 1, 1) := by decide +kernel
theorem dX1_twice_39 : decode cX1_twice 39 = .ok (.invokevirtual 134, 3) := by decide +kernel
theorem dX1_twice_42 : decode cX1_twice 42 = .ok (.istore_n 1, 1) := by decide +kernel
theorem dX1_twice_43 : decode cX1_twice 43 = .ok (.aload_n 0, 1) := by decide +kernel
theorem dX1_twice_44 : decode cX1_twice 44 = .ok (.iload_n 1, 1) := by decide +kernel
theorem dX1_twice_45 : decode cX1_twice 45 = .ok (.invokevirtual 72, 3) := by decide +kernel
theorem dX1_twice_48 : decode cX1_twice 48 = .ok (.aload_n 0, 1) := by decide +kernel
theorem dX1_twice_49 : decode cX1_twice 49 = .ok (.iload_n 1, 1) := by decide +kernel
theorem dX1_twice_50 : decode cX1_twice 50 = .ok (.invokevirtual 72, 3) := by decide +kernel
theorem dX1_twice_53 : decode cX1_twice 53 = .ok (.return_, 1) := by decide +kernel
theorem dX1_exchange_0 : decode cX1_exchange 0 = .ok (.aload_n 0, 1) := by decide +kernel
theorem dX1_exchange_1 : decode cX1_exchange 1 = .ok (.invokevirtual 99, 3) := by decide +kernel
theorem dX1_exchange_4 : decode cX1_exchange 4 = .ok (.istore_n 1, 1) := by decide +kernel
theorem dX1_exchange_5 : decode cX1_exchange 5 = .ok (.aload_n 0, 1) := by decide +kernel
theorem dX1_exchange_6 : decode cX1_exchange 6 = .ok (.getfield 59, 3) := by decide +kernel
theorem dX1_exchange_9 : decode cX1_exchange 9 = .ok (.ifCond .le 42, 3) := by decide +kernel
theorem dX1_exchange_12 : decode cX1_exchange 12 = .ok (.aload_n 0, 1) := by decide +kernel
theorem dX1_exchange_13 : decode cX1_exchange 13 = .ok (.getfield 42, 3) := by decide +kernel
theorem dX1_exchange_16 : decode cX1_exchange 16 = .ok (.iload_n 1, 1) := by decide +kernel
theorem dX1_exchange_17 : decode cX1_exchange 17 = .ok (.invokevirtual 138, 3) := by decide +kernel
theorem dX1_exchange_20 : decode cX1_exchange 20 = .ok (.ifCond .eq 31, 3) := by decide +kernel
theorem dX1_exchange_23 : decode cX1_exchange 23 = .ok (.aload_n 0, 1) := by decide +kernel
theorem dX1_exchange_24 : decode cX1_exchange 24 = .ok (.getfield 42, 3) := by decide +kernel
theorem dX1_exchange_27 : decode cX1_exchange 27 = .ok (.aload_n 0, 1) := by decide +kernel
theorem dX1_exchange_28 : decode cX1_exchange 28 = .ok (.getfield 27, 3) := by decide +kernel
theorem dX1_exchange_31 : decode cX1_exchange 31 = .ok (.aload_n 0, 1) := by decide +kernel
theorem dX1_exchange_32 : decode cX1_exchange 32 = .ok (.getfield 59, 3) := by decide +kernel
theorem dX1_exchange_35 : decode cX1_exchange 35 = .ok (.iconst 1, 1) := by decide +kernel
theorem dX1_exchange_36 : decode cX1_exchange 36 = .ok (.isub, 1) := by decide +kernel
theorem dX1_exchange_37 : decode cX1_exchange 37 = .ok (.iaload, 1) := by decide +kernel
theorem dX1_exchange_38 : decode cX1_exchange 38 = .ok (.invokevirtual 138, 3) := by decide +kernel
theorem dX1_exchange_41 : decode cX1_exchange 41 = .ok (.ifCond .eq 10, 3) := by decide +kernel
theorem dX1_exchange_44 : decode cX1_exchange 44 = .ok (.aload_n 0, 1) := by decide +kernel
theorem dX1_exchange_45 : decode cX1_exchange 45 = .ok (.sipush 4096, 3) := by decide +kernel
theorem dX1_exchange_48 : decode cX1_exchange 48 = .ok (.invokevirtual 125, 3) := by decide +kernel
theorem dX1_exchange_51 : decode cX1_exchange 51 = .ok (.aload_n 0, 1) := by decide +kernel
theorem dX1_exchange_52 : decode cX1_exchange 52 = .ok (.invokevirtual 99, 3) := by decide +kernel
theorem dX1_exchange_55 : decode cX1_exchange 55 = .ok (.istore_n 2, 1) := by decide +kernel
theorem dX1_exchange_56 : decode cX1_exchange 56 = .ok (.aload_n 0, 1) := by decide +kernel
theorem dX1_exchange_57 : decode cX1_exchange 57 = .ok (.iload_n 1, 1) := by decide +kernel
theorem dX1_exchange_58 : decode cX1_exchange 58 = .ok (.invokevirtual 72, 3) := by decide +kernel
theorem dX1_exchange_61 : decode cX1_exchange 61 = .ok (.aload_n 0, 1) := by decide +kernel
theorem dX1_exchange_62 : decode cX1_exchange 62 = .ok (.iload_n 2, 1) := by decide +kernel
theorem dX1_exchange_63 : decode cX1_exchange 63 = .ok (.invokevirtual 72, 3) := by decide +kernel
theorem dX1_exchange_66 : decode cX1_exchange 66 = .ok (.return_, 1) := by decide +kernel
theorem dX1_handOver_0 : decode cX1_handOver 0 = .ok (.iconst 0, 1) := by decide +kernel
theorem dX1_handOver_1 : decode cX1_handOver 1 = .ok (.istore_n 2, 1) := by decide +kernel
theorem dX1_handOver_2 : decode cX1_handOver 2 = .ok (.iload_n 2, 1) := by decide +kernel
theorem dX1_handOver_3 : decode cX1_handOver 3 = .ok (.aload_n 0, 1) := by decide +kernel
theorem dX1_handOver_4 : decode cX1_handOver 4 = .ok (.getfield 59, 3) := by decide +kernel
theorem dX1_handOver_7 : decode cX1_handOver 7 = .ok (.if_icmp .ge 63, 3) := by decide +kernel
theorem dX1_handOver_10 : decode cX1_handOver 10 = .ok (.aload_n 0, 1) := by decide +kernel
theorem dX1_handOver_11 : decode cX1_handOver 11 = .ok (.getfield 42, 3) := by decide +kernel
theorem dX1_handOver_14 : decode cX1_handOver 14 = .ok (.bipush 84, 2) := by decide +kernel
theorem dX1_handOver_16 : decode cX1_handOver 16 = .ok (.iload_n 2, 1) := by decide +kernel
theorem dX1_handOver_17 : decode cX1_handOver 17 = .ok (.iconst 0, 1) := by decide +kernel
theorem dX1_handOver_18 : decode cX1_handOver 18 = .ok (.invokevirtual 68, 3) := by decide +kernel
theorem dX1_handOver_21 : decode cX1_handOver 21 = .ok (.istore_n 3, 1) := by decide +kernel
theorem dX1_handOver_22 : decode cX1_handOver 22 = .ok (.aload_n 0, 1) := by decide +kernel
theorem dX1_handOver_23 : decode cX1_handOver 23 = .ok (.getfield 27, 3) := by decide +kernel
theorem dX1_handOver_26 : decode cX1_handOver 26 = .ok (.iload_n 2, 1) := by decide +kernel
theorem dX1_handOver_27 : decode cX1_handOver 27 = .ok (.iaload, 1) := by decide +kernel
theorem dX1_handOver_28 : decode cX1_handOver 28 = .ok (.iload_n 3, 1) := by decide +kernel
theorem dX1_handOver_29 : decode cX1_handOver 29 = .ok (.if_icmp .eq 35, 3) := by decide +kernel
theorem dX1_handOver_32 : decode cX1_handOver 32 = .ok (.aload_n 0, 1) := by decide +kernel
theorem dX1_handOver_33 : decode cX1_handOver 33 = .ok (.iload_n 1, 1) := by decide +kernel
theorem dX1_handOver_34 : decode cX1_handOver 34 = .ok (.iload_n 2, 1) := by decide +kernel
theorem dX1_handOver_35 : decode cX1_handOver 35 = .ok (.invokevirtual 145, 3) := by decide +kernel
theorem dX1_handOver_38 : decode cX1_handOver 38 = .ok (.ifCond .eq 14, 3) := by decide +kernel
theorem dX1_handOver_41 : decode cX1_handOver 41 = .ok (.aload_n 0, 1) := by decide +kernel
theorem dX1_handOver_42 : decode cX1_handOver 42 = .ok (.iload_n 1, 1) := by decide +kernel
theorem dX1_handOver_43 : decode cX1_handOver 43 = .ok (.iload_n 2, 1) := by decide +kernel
theorem dX1_handOver_44 : decode cX1_handOver 44 = .ok (.aload_n 0, 1) := by decide +kernel
theorem dX1_handOver_45 : decode cX1_handOver 45 = .ok (.iload_n 3, 1) := by decide +kernel
theorem dX1_handOver_46 : decode cX1_handOver 46 = .ok (.invokevirtual 134, 3) := by decide +kernel
theorem dX1_handOver_49 : decode cX1_handOver 49 = .ok (.invokevirtual 149, 3) := by decide +kernel
theorem dX1_handOver_52 : decode cX1_handOver 52 = .ok (.aload_n 0, 1) := by decide +kernel
theorem dX1_handOver_53 : decode cX1_handOver 53 = .ok (.iconst 1, 1) := by decide +kernel
theorem dX1_handOver_54 : decode cX1_handOver 54 = .ok (.iload_n 2, 1) := by decide +kernel
theorem dX1_handOver_55 : decode cX1_handOver 55 = .ok (.aload_n 0, 1) := by decide +kernel
theorem dX1_handOver_56 : decode cX1_handOver 56 = .ok (.getfield 27, 3) := by decide +kernel
theorem dX1_handOver_59 : decode cX1_handOver 59 = .ok (.iload_n 2, 1) := by decide +kernel
theorem dX1_handOver_60 : decode cX1_handOver 60 = .ok (.iaload, 1) := by decide +kernel
theorem dX1_handOver_61 : decode cX1_handOver 61 = .ok (.invokevirtual 128, 3) := by decide +kernel
theorem dX1_handOver_64 : decode cX1_handOver 64 = .ok (.iinc 2 1, 3) := by decide +kernel
theorem dX1_handOver_67 : decode cX1_handOver 67 = .ok (.goto (-65), 3) := by decide +kernel
theorem dX1_handOver_70 : decode cX1_handOver 70 = .ok (.aload_n 0, 1) := by decide +kernel
theorem dX1_handOver_71 : decode cX1_handOver 71 = .ok (.getfield 24, 3) := by decide +kernel
theorem dX1_handOver_74 : decode cX1_handOver 74 = .ok (.iload_n 1, 1) := by decide +kernel
theorem dX1_handOver_75 : decode cX1_handOver 75 = .ok (.iaload, 1) := by decide +kernel
theorem dX1_handOver_76 : decode cX1_handOver 76 = .ok (.iconst (-1), 1) := by decide +kernel
theorem dX1_handOver_77 : decode cX1_handOver 77 = .ok (.if_icmp .eq 35, 3) := by decide +kernel
theorem dX1_handOver_80 : decode cX1_handOver 80 = .ok (.aload_n 0, 1) := by decide +kernel
theorem dX1_handOver_81 : decode cX1_handOver 81 = .ok (.getfield 42, 3) := by decide +kernel
theorem dX1_handOver_84 : decode cX1_handOver 84 = .ok (.aload_n 0, 1) := by decide +kernel
theorem dX1_handOver_85 : decode cX1_handOver 85 = .ok (.getfield 24, 3) := by decide +kernel
theorem dX1_handOver_88 : decode cX1_handOver 88 = .ok (.iload_n 1, 1) := by decide +kernel
theorem dX1_handOver_89 : decode cX1_handOver 89 = .ok (.iaload, 1) := by decide +kernel
theorem dX1_handOver_90 : decode cX1_handOver 90 = .ok (.invokevirtual 138, 3) := by decide +kernel
theorem dX1_handOver_93 : decode cX1_handOver 93 = .ok (.ifCond .eq 19, 3) := by decide +kernel
theorem dX1_handOver_96 : decode cX1_handOver 96 = .ok (.aload_n 0, 1) := by decide +kernel
theorem dX1_handOver_97 : decode cX1_handOver 97 = .ok (.getfield 24, 3) := by decide +kernel
theorem dX1_handOver_100 : decode cX1_handOver 100 = .ok (.iload_n 1, 1) := by decide +kernel
theorem dX1_handOver_101 : decode cX1_handOver 101 = .ok (.aload_n 0, 1) := by decide +kernel
theorem dX1_handOver_102 : decode cX1_handOver 102 = .ok (.aload_n 0, 1) := by decide +kernel
theorem dX1_handOver_103 : decode cX1_handOver 103 = .ok (.getfield 24, 3) := by decide +kernel
theorem dX1_handOver_106 : decode cX1_handOver 106 = .ok (.iload_n 1, 1) := by decide +kernel
theorem dX1_handOver_107 : decode cX1_handOver 107 = .ok (.iaload, 1) := by decide +kernel
theorem dX1_handOver_108 : decode cX1_handOver 108 = .ok (.invokevirtual 134, 3) := by decide +kernel
theorem dX1_handOver_111 : decode cX1_handOver 111 = .ok (.iastore, 1) := by decide +kernel
theorem dX1_handOver_112 : decode cX1_handOver 112 = .ok (.return_, 1) := by decide +kernel
theorem dX1_isNeededAbove_0 : decode cX1_isNeededAbove 0 = .ok (.aload_n 0, 1) := by decide +kernel
theorem dX1_isNeededAbove_1 : decode cX1_isNeededAbove 1 = .ok (.getfield 24, 3) := by decide +kernel
theorem dX1_isNeededAbove_4 : decode cX1_isNeededAbove 4 = .ok (.iload_n 1, 1) := by decide +kernel
theorem dX1_isNeededAbove_5 : decode cX1_isNeededAbove 5 = .ok (.iaload, 1) := by decide +kernel
theorem dX1_isNeededAbove_6 : decode cX1_isNeededAbove 6 = .ok (.iconst (-1), 1) := by decide +kernel
theorem dX1_isNeededAbove_7 : decode cX1_isNeededAbove 7 = .ok (.if_icmp .ne 7, 3) := by decide +kernel
theorem dX1_isNeededAbove_10 : decode cX1_isNeededAbove 10 = .ok (.iconst 0, 1) := by decide +kernel
theorem dX1_isNeededAbove_11 : decode cX1_isNeededAbove 11 = .ok (.goto 17, 3) := by decide +kernel
theorem dX1_isNeededAbove_14 : decode cX1_isNeededAbove 14 = .ok (.aload_n 0, 1) := by decide +kernel
theorem dX1_isNeededAbove_15 : decode cX1_isNeededAbove 15 = .ok (.getfield 42, 3) := by decide +kernel
theorem dX1_isNeededAbove_18 : decode cX1_isNeededAbove 18 = .ok (.getfield 131, 3) := by decide +kernel
theorem dX1_isNeededAbove_21 : decode cX1_isNeededAbove 21 = .ok (.aload_n 0, 1) := by decide +kernel
theorem dX1_isNeededAbove_22 : decode cX1_isNeededAbove 22 = .ok (.getfield 24, 3) := by decide +kernel
theorem dX1_isNeededAbove_25 : decode cX1_isNeededAbove 25 = .ok (.iload_n 1, 1) := by decide +kernel
theorem dX1_isNeededAbove_26 : decode cX1_isNeededAbove 26 = .ok (.iaload, 1) := by decide +kernel
theorem dX1_isNeededAbove_27 : decode cX1_isNeededAbove 27 = .ok (.iaload, 1) := by decide +kernel
theorem dX1_isNeededAbove_28 : decode cX1_isNeededAbove 28 = .ok (.istore_n 3, 1) := by decide +kernel
theorem dX1_isNeededAbove_29 : decode cX1_isNeededAbove 29 = .ok (.iload_n 2, 1) := by decide +kernel
theorem dX1_isNeededAbove_30 : decode cX1_isNeededAbove 30 = .ok (.iconst 1, 1) := by decide +kernel
theorem dX1_isNeededAbove_31 : decode cX1_isNeededAbove 31 = .ok (.iadd, 1) := by decide +kernel
theorem dX1_isNeededAbove_32 : decode cX1_isNeededAbove 32 = .ok (.istore 4, 2) := by decide +kernel
theorem dX1_isNeededAbove_34 : decode cX1_isNeededAbove 34 = .ok (.iload 4, 2) := by decide +kernel
theorem dX1_isNeededAbove_36 : decode cX1_isNeededAbove 36 = .ok (.aload_n 0, 1) := by decide +kernel
theorem dX1_isNeededAbove_37 : decode cX1_isNeededAbove 37 = .ok (.getfield 59, 3) := by decide +kernel
theorem dX1_isNeededAbove_40 : decode cX1_isNeededAbove 40 = .ok (.if_icmp .ge 27, 3) := by decide +kernel
theorem dX1_isNeededAbove_43 : decode cX1_isNeededAbove 43 = .ok (.iload_n 3, 1) := by decide +kernel
theorem dX1_isNeededAbove_44 : decode cX1_isNeededAbove 44 = .ok (.aload_n 0, 1) := by decide +kernel
theorem dX1_isNeededAbove_45 : decode cX1_isNeededAbove 45 = .ok (.getfield 42, 3) := by decide +kernel
theorem dX1_isNeededAbove_48 : decode cX1_isNeededAbove 48 = .ok (.getfield 131, 3) := by decide +kernel
theorem dX1_isNeededAbove_51 : decode cX1_isNeededAbove 51 = .ok (.aload_n 0, 1) := by decide +kernel
theorem dX1_isNeededAbove_52 : decode cX1_isNeededAbove 52 = .ok (.getfield 27, 3) := by decide +kernel
theorem dX1_isNeededAbove_55 : decode cX1_isNeededAbove 55 = .ok (.iload 4, 2) := by decide +kernel
theorem dX1_isNeededAbove_57 : decode cX1_isNeededAbove 57 = .ok (.iaload, 1) := by decide +kernel
theorem dX1_isNeededAbove_58 : decode cX1_isNeededAbove 58 = .ok (.iaload, 1) := by decide +kernel
theorem dX1_isNeededAbove_59 : decode cX1_isNeededAbove 59 = .ok (.ior, 1) := by decide +kernel
theorem dX1_isNeededAbove_60 : decode cX1_isNeededAbove 60 = .ok (.istore_n 3, 1) := by decide +kernel
theorem dX1_isNeededAbove_61 : decode cX1_isNeededAbove 61 = .ok (.iinc 4 1, 3) := by decide +kernel
theorem dX1_isNeededAbove_64 : decode cX1_isNeededAbove 64 = .ok (.goto (-30), 3) := by decide +kernel
theorem dX1_isNeededAbove_67 : decode cX1_isNeededAbove 67 = .ok (.iload_n 3, 1) := by decide +kernel
theorem dX1_isNeededAbove_68 : decode cX1_isNeededAbove 68 = .ok (.iload_n 2, 1) := by decide +kernel
theorem dX1_isNeededAbove_69 : decode cX1_isNeededAbove 69 = .ok (.invokestatic 152, 3) := by decide +kernel
theorem dX1_isNeededAbove_72 : decode cX1_isNeededAbove 72 = .ok (.iand, 1) := by decide +kernel
theorem dX1_isNeededAbove_73 : decode cX1_isNeededAbove 73 = .ok (.ifCond .eq 7, 3) := by decide +kernel
theorem dX1_isNeededAbove_76 : decode cX1_isNeededAbove 76 = .ok (.iconst 1, 1) := by decide +kernel
theorem dX1_isNeededAbove_77 : decode cX1_isNeededAbove 77 = .ok (.goto 4, 3) := by decide +kernel
theorem dX1_isNeededAbove_80 : decode cX1_isNeededAbove 80 = .ok (.iconst 0, 1) := by decide +kernel
theorem dX1_isNeededAbove_81 : decode cX1_isNeededAbove 81 = .ok (.ireturn, 1) := by decide +kernel
theorem dX1_replaceAbove_0 : decode cX1_replaceAbove 0 = .ok (.iload_n 2, 1) := by decide +kernel
theorem dX1_replaceAbove_1 : decode cX1_replaceAbove 1 = .ok (.iconst 1, 1) := by decide +kernel
theorem dX1_replaceAbove_2 : decode cX1_replaceAbove 2 = .ok (.iadd, 1) := by decide +kernel
theorem dX1_replaceAbove_3 : decode cX1_replaceAbove 3 = .ok (.istore 4, 2) := by decide +kernel
theorem dX1_replaceAbove_5 : decode cX1_replaceAbove 5 = .ok (.iload 4, 2) := by decide +kernel
theorem dX1_replaceAbove_7 : decode cX1_replaceAbove 7 = .ok (.aload_n 0, 1) := by decide +kernel
theorem dX1_replaceAbove_8 : decode cX1_replaceAbove 8 = .ok (.getfield 59, 3) := by decide +kernel
theorem dX1_replaceAbove_11 : decode cX1_replaceAbove 11 = .ok (.if_icmp .ge 33, 3) := by decide +kernel
theorem dX1_replaceAbove_14 : decode cX1_replaceAbove 14 = .ok (.aload_n 0, 1) := by decide +kernel
theorem dX1_replaceAbove_15 : decode cX1_replaceAbove 15 = .ok (.getfield 27, 3) := by decide +kernel
theorem dX1_replaceAbove_18 : decode cX1_replaceAbove 18 = .ok (.iload 4, 2) := by decide +kernel
theorem dX1_replaceAbove_20 : decode cX1_replaceAbove 20 = .ok (.aload_n 0, 1) := by decide +kernel
theorem dX1_replaceAbove_21 : decode cX1_replaceAbove 21 = .ok (.getfield 42, 3) := by decide +kernel
theorem dX1_replaceAbove_24 : decode cX1_replaceAbove 24 = .ok (.aload_n 0, 1) := by decide +kernel
theorem dX1_replaceAbove_25 : decode cX1_replaceAbove 25 = .ok (.getfield 27, 3) := by decide +kernel
theorem dX1_replaceAbove_28 : decode cX1_replaceAbove 28 = .ok (.iload 4, 2) := by decide +kernel
theorem dX1_replaceAbove_30 : decode cX1_replaceAbove 30 = .ok (.iaload, 1) := by decide +kernel
theorem dX1_replaceAbove_31 : decode cX1_replaceAbove 31 = .ok (.iload_n 2, 1) := by decide +kernel
theorem dX1_replaceAbove_32 : decode cX1_replaceAbove 32 = .ok (.iload_n 3, 1) := by decide +kernel
theorem dX1_replaceAbove_33 : decode cX1_replaceAbove 33 = .ok (.iconst 0, 1) := by decide +kernel
theorem dX1_replaceAbove_34 : decode cX1_replaceAbove 34 = .ok (.invokevirtual 155, 3) := by decide +kernel
theorem dX1_replaceAbove_37 : decode cX1_replaceAbove 37 = .ok (.iastore, 1) := by decide +kernel
theorem dX1_replaceAbove_38 : decode cX1_replaceAbove 38 = .ok (.iinc 4 1, 3) := by decide +kernel
theorem dX1_replaceAbove_41 : decode cX1_replaceAbove 41 = .ok (.goto (-36), 3) := by decide +kernel
theorem dX1_replaceAbove_44 : decode cX1_replaceAbove 44 = .ok (.aload_n 0, 1) := by decide +kernel
theorem dX1_replaceAbove_45 : decode cX1_replaceAbove 45 = .ok (.getfield 24, 3) := by decide +kernel
theorem dX1_replaceAbove_48 : decode cX1_replaceAbove 48 = .ok (.iload_n 1, 1) := by decide +kernel
theorem dX1_replaceAbove_49 : decode cX1_replaceAbove 49 = .ok (.iaload, 1) := by decide +kernel
theorem dX1_replaceAbove_50 : decode cX1_replaceAbove 50 = .ok (.iconst (-1), 1) := by decide +kernel
theorem dX1_replaceAbove_51 : decode cX1_replaceAbove 51 = .ok (.if_icmp .eq 25, 3) := by decide +kernel
theorem dX1_replaceAbove_54 : decode cX1_replaceAbove 54 = .ok (.aload_n 0, 1) := by decide +kernel
theorem dX1_replaceAbove_55 : decode cX1_replaceAbove 55 = .ok (.getfield 24, 3) := by decide +kernel
theorem dX1_replaceAbove_58 : decode cX1_replaceAbove 58 = .ok (.iload_n 1, 1) := by decide +kernel
theorem dX1_replaceAbove_59 : decode cX1_replaceAbove 59 = .ok (.aload_n 0, 1) := by decide +kernel
theorem dX1_replaceAbove_60 : decode cX1_replaceAbove 60 = .ok (.getfield 42, 3) := by decide +kernel
theorem dX1_replaceAbove_63 : decode cX1_replaceAbove 63 = .ok (.aload_n 0, 1) := by decide +kernel
theorem dX1_replaceAbove_64 : decode cX1_replaceAbove 64 = .ok (.getfield 24, 3) := by decide +kernel
theorem dX1_replaceAbove_67 : decode cX1_replaceAbove 67 = .ok (.iload_n 1, 1) := by decide +kernel
theorem dX1_replaceAbove_68 : decode cX1_replaceAbove 68 = .ok (.iaload, 1) := by decide +kernel
theorem dX1_replaceAbove_69 : decode cX1_replaceAbove 69 = .ok (.iload_n 2, 1) := by decide +kernel
theorem dX1_replaceAbove_70 : decode cX1_replaceAbove 70 = .ok (.iload_n 3, 1) := by decide +kernel
theorem dX1_replaceAbove_71 : decode cX1_replaceAbove 71 = .ok (.iconst 0, 1) := by decide +kernel
theorem dX1_replaceAbove_72 : decode cX1_replaceAbove 72 = .ok (.invokevirtual 155, 3) := by decide +kernel
theorem dX1_replaceAbove_75 : decode cX1_replaceAbove 75 = .ok (.iastore, 1) := by decide +kernel
theorem dX1_replaceAbove_76 : decode cX1_replaceAbove 76 = .ok (.return_, 1) := by decide +kernel
theorem dX1_push_0 : decode cX1_push 0 = .ok (.aload_n 0, 1) := by decide +kernel
theorem dX1_push_1 : decode cX1_push 1 = .ok (.getfield 59, 3) := by decide +kernel
theorem dX1_push_4 : decode cX1_push 4 = .ok (.aload_n 0, 1) := by decide +kernel
theorem dX1_push_5 : decode cX1_push 5 = .ok (.getfield 27, 3) := by decide +kernel
theorem dX1_push_8 : decode cX1_push 8 = .ok (.arraylength, 1) := by decide +kernel
theorem dX1_push_9 : decode cX1_push 9 = .ok (.if_icmp .ge 23, 3) := by decide +kernel
theorem dX1_push_12 : decode cX1_push 12 = .ok (.aload_n 0, 1) := by decide +kernel
theorem dX1_push_13 : decode cX1_push 13 = .ok (.getfield 27, 3) := by decide +kernel
theorem dX1_push_16 : decode cX1_push 16 = .ok (.aload_n 0, 1) := by decide +kernel
theorem dX1_push_17 : decode cX1_push 17 = .ok (.getfield 59, 3) := by decide +kernel
theorem dX1_push_20 : decode cX1_push 20 = .ok (.iload_n 1, 1) := by decide +kernel
theorem dX1_push_21 : decode cX1_push 21 = .ok (.iastore, 1) := by decide +kernel
theorem dX1_push_22 : decode cX1_push 22 = .ok (.aload_n 0, 1) := by decide +kernel
theorem dX1_push_23 : decode cX1_push 23 = .ok (.dup, 1) := by decide +kernel
theorem dX1_push_24 : decode cX1_push 24 = .ok (.getfield 59, 3) := by decide +kernel
theorem dX1_push_27 : decode cX1_push 27 = .ok (.iconst 1, 1) := by decide +kernel
theorem dX1_push_28 : decode cX1_push 28 = .ok (.iadd, 1) := by decide +kernel
theorem dX1_push_29 : decode cX1_push 29 = .ok (.putfield 59, 3) := by decide +kernel
theorem dX1_push_32 : decode cX1_push 32 = .ok (.return_, 1) := by decide +kernel
theorem dX1_pop_0 : decode cX1_pop 0 = .ok (.aload_n 0, 1) := by decide +kernel
theorem dX1_pop_1 : decode cX1_pop 1 = .ok (.getfield 59, 3) := by decide +kernel
theorem dX1_pop_4 : decode cX1_pop 4 = .ok (.ifCond .le 13, 3) := by decide +kernel
theorem dX1_pop_7 : decode cX1_pop 7 = .ok (.aload_n 0, 1) := by decide +kernel
theorem dX1_pop_8 : decode cX1_pop 8 = .ok (.dup, 1) := by decide +kernel
theorem dX1_pop_9 : decode cX1_pop 9 = .ok (.getfield 59, 3) := by decide +kernel
theorem dX1_pop_12 : decode cX1_pop 12 = .ok (.iconst 1, 1) := by decide +kernel
theorem dX1_pop_13 : decode cX1_pop 13 = .ok (.isub, 1) := by decide +kernel
theorem dX1_pop_14 : decode cX1_pop 14 = .ok (.putfield 59, 3) := by decide +kernel
theorem dX1_pop_17 : decode cX1_pop 17 = .ok (.aload_n 0, 1) := by decide +kernel
theorem dX1_pop_18 : decode cX1_pop 18 = .ok (.getfield 27, 3) := by decide +kernel
theorem dX1_pop_21 : decode cX1_pop 21 = .ok (.aload_n 0, 1) := by decide +kernel
theorem dX1_pop_22 : decode cX1_pop 22 = .ok (.getfield 59, 3) := by decide +kernel
theorem dX1_pop_25 : decode cX1_pop 25 = .ok (.iaload, 1) := by decide +kernel
theorem dX1_pop_26 : decode cX1_pop 26 = .ok (.ireturn, 1) := by decide +kernel
theorem dX1_countUnlike_0 : decode cX1_countUnlike 0 = .ok (.iconst 0, 1) := by decide +kernel
theorem dX1_countUnlike_1 : decode cX1_countUnlike 1 = .ok (.istore_n 1, 1) := by decide +kernel
theorem dX1_countUnlike_2 : decode cX1_countUnlike 2 = .ok (.iload_n 1, 1) := by decide +kernel
theorem dX1_countUnlike_3 : decode cX1_countUnlike 3 = .ok (.aload_n 0, 1) := by decide +kernel
theorem dX1_countUnlike_4 : decode cX1_countUnlike 4 = .ok (.getfield 42, 3) := by decide +kernel
theorem dX1_countUnlike_7 : decode cX1_countUnlike 7 = .ok (.getfield 53, 3) := by decide +kernel
theorem dX1_countUnlike_10 : decode cX1_countUnlike 10 = .ok (.if_icmp .ge 16, 3) := by decide +kernel
theorem dX1_countUnlike_13 : decode cX1_countUnlike 13 = .ok (.aload_n 0, 1) := by decide +kernel
theorem dX1_countUnlike_14 : decode cX1_countUnlike 14 = .ok (.getfield 30, 3) := by decide +kernel
theorem dX1_countUnlike_17 : decode cX1_countUnlike 17 = .ok (.iload_n 1, 1) := by decide +kernel
theorem dX1_countUnlike_18 : decode cX1_countUnlike 18 = .ok (.iconst 0, 1) := by decide +kernel
theorem dX1_countUnlike_19 : decode cX1_countUnlike 19 = .ok (.bastore, 1) := by decide +kernel
theorem dX1_countUnlike_20 : decode cX1_countUnlike 20 = .ok (.iinc 1 1, 3) := by decide +kernel
theorem dX1_countUnlike_23 : decode cX1_countUnlike 23 = .ok (.goto (-21), 3) := by decide +kernel
theorem dX1_countUnlike_26 : decode cX1_countUnlike 26 = .ok (.iconst 0, 1) := by decide +kernel
theorem dX1_countUnlike_27 : decode cX1_countUnlike 27 = .ok (.istore_n 1, 1) := by decide +kernel
theorem dX1_countUnlike_28 : decode cX1_countUnlike 28 = .ok (.iload_n 1, 1) := by decide +kernel
theorem dX1_countUnlike_29 : decode cX1_countUnlike 29 = .ok (.aload_n 0, 1) := by decide +kernel
theorem dX1_countUnlike_30 : decode cX1_countUnlike 30 = .ok (.getfield 46, 3) := by decide +kernel
theorem dX1_countUnlike_33 : decode cX1_countUnlike 33 = .ok (.if_icmp .ge 31, 3) := by decide +kernel
theorem dX1_countUnlike_36 : decode cX1_countUnlike 36 = .ok (.aload_n 0, 1) := by decide +kernel
theorem dX1_countUnlike_37 : decode cX1_countUnlike 37 = .ok (.getfield 18, 3) := by decide +kernel
theorem dX1_countUnlike_40 : decode cX1_countUnlike 40 = .ok (.iload_n 1, 1) := by decide +kernel
theorem dX1_countUnlike_41 : decode cX1_countUnlike 41 = .ok (.iaload, 1) := by decide +kernel
theorem dX1_countUnlike_42 : decode cX1_countUnlike 42 = .ok (.iconst (-1), 1) := by decide +kernel
theorem dX1_countUnlike_43 : decode cX1_countUnlike 43 = .ok (.if_icmp .eq 15, 3) := by decide +kernel
theorem dX1_countUnlike_46 : decode cX1_countUnlike 46 = .ok (.aload_n 0, 1) := by decide +kernel
theorem dX1_countUnlike_47 : decode cX1_countUnlike 47 = .ok (.getfield 30, 3) := by decide +kernel
theorem dX1_countUnlike_50 : decode cX1_countUnlike 50 = .ok (.aload_n 0, 1) := by decide +kernel
theorem dX1_countUnlike_51 : decode cX1_countUnlike 51 = .ok (.getfield 18, 3) := by decide +kernel
theorem dX1_countUnlike_54 : decode cX1_countUnlike 54 = .ok (.iload_n 1, 1) := by decide +kernel
theorem dX1_countUnlike_55 : decode cX1_countUnlike 55 = .ok (.iaload, 1) := by decide +kernel
theorem dX1_countUnlike_56 : decode cX1_countUnlike 56 = .ok (.iconst 1, 1) := by decide +kernel
theorem dX1_countUnlike_57 : decode cX1_countUnlike 57 = .ok (.bastore, 1) := by decide +kernel
theorem dX1_countUnlike_58 : decode cX1_countUnlike 58 = .ok (.iinc 1 1, 3) := by decide +kernel
theorem dX1_countUnlike_61 : decode cX1_countUnlike 61 = .ok (.goto (-33), 3) := by decide +kernel
theorem dX1_countUnlike_64 : decode cX1_countUnlike 64 = .ok (.iconst 0, 1) := by decide +kernel
theorem dX1_countUnlike_65 : decode cX1_countUnlike 65 = .ok (.istore_n 1, 1) := by decide +kernel
theorem dX1_countUnlike_66 : decode cX1_countUnlike 66 = .ok (.iload_n 1, 1) := by decide +kernel
theorem dX1_countUnlike_67 : decode cX1_countUnlike 67 = .ok (.aload_n 0, 1) := by decide +kernel
theorem dX1_countUnlike_68 : decode cX1_countUnlike 68 = .ok (.getfield 38, 3) := by decide +kernel
theorem dX1_countUnlike_71 : decode cX1_countUnlike 71 = .ok (.getfield 56, 3) := by decide +kernel
theorem dX1_countUnlike_74 : decode cX1_countUnlike 74 = .ok (.if_icmp .ge 31, 3) := by decide +kernel
theorem dX1_countUnlike_77 : decode cX1_countUnlike 77 = .ok (.aload_n 0, 1) := by decide +kernel
theorem dX1_countUnlike_78 : decode cX1_countUnlike 78 = .ok (.getfield 24, 3) := by decide +kernel
theorem dX1_countUnlike_81 : decode cX1_countUnlike 81 = .ok (.iload_n 1, 1) := by decide +kernel
theorem dX1_countUnlike_82 : decode cX1_countUnlike 82 = .ok (.iaload, 1) := by decide +kernel
theorem dX1_countUnlike_83 : decode cX1_countUnlike 83 = .ok (.iconst (-1), 1) := by decide +kernel
theorem dX1_countUnlike_84 : decode cX1_countUnlike 84 = .ok (.if_icmp .eq 15, 3) := by decide +kernel
theorem dX1_countUnlike_87 : decode cX1_countUnlike 87 = .ok (.aload_n 0, 1) := by decide +kernel
theorem dX1_countUnlike_88 : decode cX1_countUnlike 88 = .ok (.getfield 30, 3) := by decide +kernel
theorem dX1_countUnlike_91 : decode cX1_countUnlike 91 = .ok (.aload_n 0, 1) := by decide +kernel
theorem dX1_countUnlike_92 : decode cX1_countUnlike 92 = .ok (.getfield 24, 3) := by decide +kernel
theorem dX1_countUnlike_95 : decode cX1_countUnlike 95 = .ok (.iload_n 1, 1) := by decide +kernel
theorem dX1_countUnlike_96 : decode cX1_countUnlike 96 = .ok (.iaload, 1) := by decide +kernel
theorem dX1_countUnlike_97 : decode cX1_countUnlike 97 = .ok (.iconst 1, 1) := by decide +kernel
theorem dX1_countUnlike_98 : decode cX1_countUnlike 98 = .ok (.bastore, 1) := by decide +kernel
theorem dX1_countUnlike_99 : decode cX1_countUnlike 99 = .ok (.iinc 1 1, 3) := by decide +kernel
theorem dX1_countUnlike_102 : decode cX1_countUnlike 102 = .ok (.goto (-36), 3) := by decide +kernel
theorem dX1_countUnlike_105 : decode cX1_countUnlike 105 = .ok (.aload_n 0, 1) := by decide +kernel
theorem dX1_countUnlike_106 : decode cX1_countUnlike 106 = .ok (.iconst 0, 1) := by decide +kernel
theorem dX1_countUnlike_107 : decode cX1_countUnlike 107 = .ok (.putfield 159, 3) := by decide +kernel
theorem dX1_countUnlike_110 : decode cX1_countUnlike 110 = .ok (.aload_n 0, 1) := by decide +kernel
theorem dX1_countUnlike_111 : decode cX1_countUnlike 111 = .ok (.getfield 42, 3) := by decide +kernel
theorem dX1_countUnlike_114 : decode cX1_countUnlike 114 = .ok (.getfield 53, 3) := by decide +kernel
theorem dX1_countUnlike_117 : decode cX1_countUnlike 117 = .ok (.iconst 1, 1) := by decide +kernel
theorem dX1_countUnlike_118 : decode cX1_countUnlike 118 = .ok (.isub, 1) := by decide +kernel
theorem dX1_countUnlike_119 : decode cX1_countUnlike 119 = .ok (.istore_n 1, 1) := by decide +kernel
theorem dX1_countUnlike_120 : decode cX1_countUnlike 120 = .ok (.iload_n 1, 1) := by decide +kernel
theorem dX1_countUnlike_121 : decode cX1_countUnlike 121 = .ok (.ifCond .lt 44, 3) := by decide +kernel
theorem dX1_countUnlike_124 : decode cX1_countUnlike 124 = .ok (.aload_n 0, 1) := by decide +kernel
theorem dX1_countUnlike_125 : decode cX1_countUnlike 125 = .ok (.getfield 30, 3) := by decide +kernel
theorem dX1_countUnlike_128 : decode cX1_countUnlike 128 = .ok (.iload_n 1, 1) := by decide +kernel
theorem dX1_countUnlike_129 : decode cX1_countUnlike 129 = .ok (.baload, 1) := by decide +kernel
theorem dX1_countUnlike_130 : decode cX1_countUnlike 130 = .ok (.ifCond .eq 29, 3) := by decide +kernel
theorem dX1_countUnlike_133 : decode cX1_countUnlike 133 = .ok (.aload_n 0, 1) := by decide +kernel
theorem dX1_countUnlike_134 : decode cX1_countUnlike 134 = .ok (.getfield 42, 3) := by decide +kernel
theorem dX1_countUnlike_137 : decode cX1_countUnlike 137 = .ok (.iload_n 1, 1) := by decide +kernel
theorem dX1_countUnlike_138 : decode cX1_countUnlike 138 = .ok (.invokevirtual 142, 3) := by decide +kernel
theorem dX1_countUnlike_141 : decode cX1_countUnlike 141 = .ok (.ifCond .ne 18, 3) := by decide +kernel
theorem dX1_countUnlike_144 : decode cX1_countUnlike 144 = .ok (.aload_n 0, 1) := by decide +kernel
theorem dX1_countUnlike_145 : decode cX1_countUnlike 145 = .ok (.dup, 1) := by decide +kernel
theorem dX1_countUnlike_146 : decode cX1_countUnlike 146 = .ok (.getfield 159, 3) := by decide +kernel
theorem dX1_countUnlike_149 : decode cX1_countUnlike 149 = .ok (.iconst 1, 1) := by decide +kernel
theorem dX1_countUnlike_150 : decode cX1_countUnlike 150 = .ok (.iadd, 1) := by decide +kernel
theorem dX1_countUnlike_151 : decode cX1_countUnlike 151 = .ok (.putfield 159, 3) := by decide +kernel
theorem dX1_countUnlike_154 : decode cX1_countUnlike 154 = .ok (.aload_n 0, 1) := by decide +kernel
theorem dX1_countUnlike_155 : decode cX1_countUnlike 155 = .ok (.iload_n 1, 1) := by decide +kernel
theorem dX1_countUnlike_156 : decode cX1_countUnlike 156 = .ok (.invokevirtual 162, 3) := by decide +kernel
theorem dX1_countUnlike_159 : decode cX1_countUnlike 159 = .ok (.iinc 1 (-1), 3) := by decide +kernel
theorem dX1_countUnlike_162 : decode cX1_countUnlike 162 = .ok (.goto (-42), 3) := by decide +kernel
theorem dX1_countUnlike_165 : decode cX1_countUnlike 165 = .ok (.return_, 1) := by decide +kernel
theorem dX1_tellWithin_0 : decode cX1_tellWithin 0 = .ok (.aload_n 0, 1) := by decide +kernel
theorem dX1_tellWithin_1 : decode cX1_tellWithin 1 = .ok (.getfield 42, 3) := by decide +kernel
theorem dX1_tellWithin_4 : decode cX1_tellWithin 4 = .ok (.getfield 141, 3) := by decide +kernel
theorem dX1_tellWithin_7 : decode cX1_tellWithin 7 = .ok (.iload_n 1, 1) := by decide +kernel
theorem dX1_tellWithin_8 : decode cX1_tellWithin 8 = .ok (.iaload, 1) := by decide +kernel
theorem dX1_tellWithin_9 : decode cX1_tellWithin 9 = .ok (.invokestatic 122, 3) := by decide +kernel
theorem dX1_tellWithin_12 : decode cX1_tellWithin 12 = .ok (.istore_n 2, 1) := by decide +kernel
theorem dX1_tellWithin_13 : decode cX1_tellWithin 13 = .ok (.iload_n 2, 1) := by decide +kernel
theorem dX1_tellWithin_14 : decode cX1_tellWithin 14 = .ok (.ifCond .ne 18, 3) := by decide +kernel
theorem dX1_tellWithin_17 : decode cX1_tellWithin 17 = .ok (.aload_n 0, 1) := by decide +kernel
theorem dX1_tellWithin_18 : decode cX1_tellWithin 18 = .ok (.getfield 42, 3) := by decide +kernel
theorem dX1_tellWithin_21 : decode cX1_tellWithin 21 = .ok (.getfield 141, 3) := by decide +kernel
theorem dX1_tellWithin_24 : decode cX1_tellWithin 24 = .ok (.iload_n 1, 1) := by decide +kernel
theorem dX1_tellWithin_25 : decode cX1_tellWithin 25 = .ok (.iaload, 1) := by decide +kernel
theorem dX1_tellWithin_26 : decode cX1_tellWithin 26 = .ok (.invokestatic 165, 3) := by decide +kernel
theorem dX1_tellWithin_29 : decode cX1_tellWithin 29 = .ok (.ifCond .eq 18, 3) := by decide +kernel
theorem dX1_tellWithin_32 : decode cX1_tellWithin 32 = .ok (.aload_n 0, 1) := by decide +kernel
theorem dX1_tellWithin_33 : decode cX1_tellWithin 33 = .ok (.getfield 30, 3) := by decide +kernel
theorem dX1_tellWithin_36 : decode cX1_tellWithin 36 = .ok (.aload_n 0, 1) := by decide +kernel
theorem dX1_tellWithin_37 : decode cX1_tellWithin 37 = .ok (.getfield 42, 3) := by decide +kernel
theorem dX1_tellWithin_40 : decode cX1_tellWithin 40 = .ok (.getfield 168, 3) := by decide +kernel
theorem dX1_tellWithin_43 : decode cX1_tellWithin 43 = .ok (.iload_n 1, 1) := by decide +kernel
theorem dX1_tellWithin_44 : decode cX1_tellWithin 44 = .ok (.iaload, 1) := by decide +kernel
theorem dX1_tellWithin_45 : decode cX1_tellWithin 45 = .ok (.iconst 1, 1) := by decide +kernel
theorem dX1_tellWithin_46 : decode cX1_tellWithin 46 = .ok (.bastore, 1) := by decide +kernel
theorem dX1_tellWithin_47 : decode cX1_tellWithin 47 = .ok (.iload_n 2, 1) := by decide +kernel
theorem dX1_tellWithin_48 : decode cX1_tellWithin 48 = .ok (.ifCond .eq 18, 3) := by decide +kernel
theorem dX1_tellWithin_51 : decode cX1_tellWithin 51 = .ok (.aload_n 0, 1) := by decide +kernel
theorem dX1_tellWithin_52 : decode cX1_tellWithin 52 = .ok (.getfield 30, 3) := by decide +kernel
theorem dX1_tellWithin_55 : decode cX1_tellWithin 55 = .ok (.aload_n 0, 1) := by decide +kernel
theorem dX1_tellWithin_56 : decode cX1_tellWithin 56 = .ok (.getfield 42, 3) := by decide +kernel
theorem dX1_tellWithin_59 : decode cX1_tellWithin 59 = .ok (.getfield 171, 3) := by decide +kernel
theorem dX1_tellWithin_62 : decode cX1_tellWithin 62 = .ok (.iload_n 1, 1) := by decide +kernel
theorem dX1_tellWithin_63 : decode cX1_tellWithin 63 = .ok (.iaload, 1) := by decide +kernel
theorem dX1_tellWithin_64 : decode cX1_tellWithin 64 = .ok (.iconst 1, 1) := by decide +kernel
theorem dX1_tellWithin_65 : decode cX1_tellWithin 65 = .ok (.bastore, 1) := by decide +kernel
theorem dX1_tellWithin_66 : decode cX1_tellWithin 66 = .ok (.return_, 1) := by decide +kernel
theorem dX1_mostParts_0 : decode cX1_mostParts 0 = .ok (.iconst 0, 1) := by decide +kernel
theorem dX1_mostParts_1 : decode cX1_mostParts 1 = .ok (.istore_n 1, 1) := by decide +kernel
theorem dX1_mostParts_2 : decode cX1_mostParts 2 = .ok (.iconst 0, 1) := by decide +kernel
theorem dX1_mostParts_3 : decode cX1_mostParts 3 = .ok (.istore_n 2, 1) := by decide +kernel
theorem dX1_mostParts_4 : decode cX1_mostParts 4 = .ok (.iload_n 2, 1) := by decide +kernel
theorem dX1_mostParts_5 : decode cX1_mostParts 5 = .ok (.aload_n 0, 1) := by decide +kernel
theorem dX1_mostParts_6 : decode cX1_mostParts 6 = .ok (.getfield 46, 3) := by decide +kernel
theorem dX1_mostParts_9 : decode cX1_mostParts 9 = .ok (.if_icmp .ge 38, 3) := by decide +kernel
theorem dX1_mostParts_12 : decode cX1_mostParts 12 = .ok (.aload_n 0, 1) := by decide +kernel
theorem dX1_mostParts_13 : decode cX1_mostParts 13 = .ok (.getfield 18, 3) := by decide +kernel
theorem dX1_mostParts_16 : decode cX1_mostParts 16 = .ok (.iload_n 2, 1) := by decide +kernel
theorem dX1_mostParts_17 : decode cX1_mostParts 17 = .ok (.iaload, 1) := by decide +kernel
theorem dX1_mostParts_18 : decode cX1_mostParts 18 = .ok (.iconst (-1), 1) := by decide +kernel
theorem dX1_mostParts_19 : decode cX1_mostParts 19 = .ok (.if_icmp .eq 22, 3) := by decide +kernel
theorem dX1_mostParts_22 : decode cX1_mostParts 22 = .ok (.iload_n 1, 1) := by decide +kernel
theorem dX1_mostParts_23 : decode cX1_mostParts 23 = .ok (.aload_n 0, 1) := by decide +kernel
theorem dX1_mostParts_24 : decode cX1_mostParts 24 = .ok (.getfield 42, 3) := by decide +kernel
theorem dX1_mostParts_27 : decode cX1_mostParts 27 = .ok (.getfield 174, 3) := by decide +kernel
theorem dX1_mostParts_30 : decode cX1_mostParts 30 = .ok (.aload_n 0, 1) := by decide +kernel
theorem dX1_mostParts_31 : decode cX1_mostParts 31 = .ok (.getfield 18, 3) := by decide +kernel
theorem dX1_mostParts_34 : decode cX1_mostParts 34 = .ok (.iload_n 2, 1) := by decide +kernel
theorem dX1_mostParts_35 : decode cX1_mostParts 35 = .ok (.iaload, 1) := by decide +kernel
theorem dX1_mostParts_36 : decode cX1_mostParts 36 = .ok (.iaload, 1) := by decide +kernel
theorem dX1_mostParts_37 : decode cX1_mostParts 37 = .ok (.invokestatic 177, 3) := by decide +kernel
theorem dX1_mostParts_40 : decode cX1_mostParts 40 = .ok (.istore_n 1, 1) := by decide +kernel
theorem dX1_mostParts_41 : decode cX1_mostParts 41 = .ok (.iinc 2 1, 3) := by decide +kernel
theorem dX1_mostParts_44 : decode cX1_mostParts 44 = .ok (.goto (-40), 3) := by decide +kernel
theorem dX1_mostParts_47 : decode cX1_mostParts 47 = .ok (.iload_n 1, 1) := by decide +kernel
theorem dX1_mostParts_48 : decode cX1_mostParts 48 = .ok (.ireturn, 1) := by decide +kernel
theorem dX1_fullest_0 : decode cX1_fullest 0 = .ok (.iconst 0, 1) := by decide +kernel
theorem dX1_fullest_1 : decode cX1_fullest 1 = .ok (.istore_n 1, 1) := by decide +kernel
theorem dX1_fullest_2 : decode cX1_fullest 2 = .ok (.iconst 1, 1) := by decide +kernel
theorem dX1_fullest_3 : decode cX1_fullest 3 = .ok (.istore_n 2, 1) := by decide +kernel
theorem dX1_fullest_4 : decode cX1_fullest 4 = .ok (.iload_n 2, 1) := by decide +kernel
theorem dX1_fullest_5 : decode cX1_fullest 5 = .ok (.aload_n 0, 1) := by decide +kernel
theorem dX1_fullest_6 : decode cX1_fullest 6 = .ok (.getfield 38, 3) := by decide +kernel
theorem dX1_fullest_9 : decode cX1_fullest 9 = .ok (.getfield 56, 3) := by decide +kernel
theorem dX1_fullest_12 : decode cX1_fullest 12 = .ok (.if_icmp .ge 44, 3) := by decide +kernel
theorem dX1_fullest_15 : decode cX1_fullest 15 = .ok (.aload_n 0, 1) := by decide +kernel
theorem dX1_fullest_16 : decode cX1_fullest 16 = .ok (.getfield 21, 3) := by decide +kernel
theorem dX1_fullest_19 : decode cX1_fullest 19 = .ok (.iload_n 2, 1) := by decide +kernel
theorem dX1_fullest_20 : decode cX1_fullest 20 = .ok (.iconst 1, 1) := by decide +kernel
theorem dX1_fullest_21 : decode cX1_fullest 21 = .ok (.iadd, 1) := by decide +kernel
theorem dX1_fullest_22 : decode cX1_fullest 22 = .ok (.iaload, 1) := by decide +kernel
theorem dX1_fullest_23 : decode cX1_fullest 23 = .ok (.aload_n 0, 1) := by decide +kernel
theorem dX1_fullest_24 : decode cX1_fullest 24 = .ok (.getfield 21, 3) := by decide +kernel
theorem dX1_fullest_27 : decode cX1_fullest 27 = .ok (.iload_n 2, 1) := by decide +kernel
theorem dX1_fullest_28 : decode cX1_fullest 28 = .ok (.iaload, 1) := by decide +kernel
theorem dX1_fullest_29 : decode cX1_fullest 29 = .ok (.isub, 1) := by decide +kernel
theorem dX1_fullest_30 : decode cX1_fullest 30 = .ok (.aload_n 0, 1) := by decide +kernel
theorem dX1_fullest_31 : decode cX1_fullest 31 = .ok (.getfield 21, 3) := by decide +kernel
theorem dX1_fullest_34 : decode cX1_fullest 34 = .ok (.iload_n 1, 1) := by decide +kernel
theorem dX1_fullest_35 : decode cX1_fullest 35 = .ok (.iconst 1, 1) := by decide +kernel
theorem dX1_fullest_36 : decode cX1_fullest 36 = .ok (.iadd, 1) := by decide +kernel
theorem dX1_fullest_37 : decode cX1_fullest 37 = .ok (.iaload, 1) := by decide +kernel
theorem dX1_fullest_38 : decode cX1_fullest 38 = .ok (.aload_n 0, 1) := by decide +kernel
theorem dX1_fullest_39 : decode cX1_fullest 39 = .ok (.getfield 21, 3) := by decide +kernel
theorem dX1_fullest_42 : decode cX1_fullest 42 = .ok (.iload_n 1, 1) := by decide +kernel
theorem dX1_fullest_43 : decode cX1_fullest 43 = .ok (.iaload, 1) := by decide +kernel
theorem dX1_fullest_44 : decode cX1_fullest 44 = .ok (.isub, 1) := by decide +kernel
theorem dX1_fullest_45 : decode cX1_fullest 45 = .ok (.if_icmp .le 5, 3) := by decide +kernel
theorem dX1_fullest_48 : decode cX1_fullest 48 = .ok (.iload_n 2, 1) := by decide +kernel
theorem dX1_fullest_49 : decode cX1_fullest 49 = .ok (.istore_n 1, 1) := by decide +kernel
theorem dX1_fullest_50 : decode cX1_fullest 50 = .ok (.iinc 2 1, 3) := by decide +kernel
theorem dX1_fullest_53 : decode cX1_fullest 53 = .ok (.goto (-49), 3) := by decide +kernel
theorem dX1_fullest_56 : decode cX1_fullest 56 = .ok (.iload_n 1, 1) := by decide +kernel
theorem dX1_fullest_57 : decode cX1_fullest 57 = .ok (.ireturn, 1) := by decide +kernel
theorem dX2_init_0 : decode cX2_init 0 = .ok (.aload_n 0, 1) := by decide +kernel
theorem dX2_init_1 : decode cX2_init 1 = .ok (.invokespecial 3, 3) := by decide +kernel
theorem dX2_init_4 : decode cX2_init 4 = .ok (.aload_n 0, 1) := by decide +kernel
theorem dX2_init_5 : decode cX2_init 5 = .ok (.sipush 800, 3) := by decide +kernel
theorem dX2_init_8 : decode cX2_init 8 = .ok (.newarray .int, 2) := by decide +kernel
theorem dX2_init_10 : decode cX2_init 10 = .ok (.putfield 9, 3) := by decide +kernel
theorem dX2_init_13 : decode cX2_init 13 = .ok (.aload_n 0, 1) := by decide +kernel
theorem dX2_init_14 : decode cX2_init 14 = .ok (.sipush 800, 3) := by decide +kernel
theorem dX2_init_17 : decode cX2_init 17 = .ok (.newarray .int, 2) := by decide +kernel
theorem dX2_init_19 : decode cX2_init 19 = .ok (.putfield 15, 3) := by decide +kernel
theorem dX2_init_22 : decode cX2_init 22 = .ok (.aload_n 0, 1) := by decide +kernel
theorem dX2_init_23 : decode cX2_init 23 = .ok (.sipush 800, 3) := by decide +kernel
theorem dX2_init_26 : decode cX2_init 26 = .ok (.newarray .int, 2) := by decide +kernel
theorem dX2_init_28 : decode cX2_init 28 = .ok (.putfield 18, 3) := by decide +kernel
theorem dX2_init_31 : decode cX2_init 31 = .ok (.aload_n 0, 1) := by decide +kernel
theorem dX2_init_32 : decode cX2_init 32 = .ok (.sipush 800, 3) := by decide +kernel
theorem dX2_init_35 : decode cX2_init 35 = .ok (.newarray .int, 2) := by decide +kernel
theorem dX2_init_37 : decode cX2_init 37 = .ok (.putfield 21, 3) := by decide +kernel
theorem dX2_init_40 : decode cX2_init 40 = .ok (.aload_n 0, 1) := by decide +kernel
theorem dX2_init_41 : decode cX2_init 41 = .ok (.bipush 40, 2) := by decide +kernel
theorem dX2_init_43 : decode cX2_init 43 = .ok (.newarray .int, 2) := by decide +kernel
theorem dX2_init_45 : decode cX2_init 45 = .ok (.putfield 24, 3) := by decide +kernel
theorem dX2_init_48 : decode cX2_init 48 = .ok (.aload_n 0, 1) := by decide +kernel
theorem dX2_init_49 : decode cX2_init 49 = .ok (.bipush 40, 2) := by decide +kernel
theorem dX2_init_51 : decode cX2_init 51 = .ok (.newarray .int, 2) := by decide +kernel
theorem dX2_init_53 : decode cX2_init 53 = .ok (.putfield 27, 3) := by decide +kernel
theorem dX2_init_56 : decode cX2_init 56 = .ok (.aload_n 0, 1) := by decide +kernel
theorem dX2_init_57 : decode cX2_init 57 = .ok (.bipush 40, 2) := by decide +kernel
theorem dX2_init_59 : decode cX2_init 59 = .ok (.newarray .int, 2) := by decide +kernel
theorem dX2_init_61 : decode cX2_init 61 = .ok (.putfield 30, 3) := by decide +kernel
theorem dX2_init_64 : decode cX2_init 64 = .ok (.aload_n 0, 1) := by decide +kernel
theorem dX2_init_65 : decode cX2_init 65 = .ok (.bipush 120, 2) := by decide +kernel
theorem dX2_init_67 : decode cX2_init 67 = .ok (.newarray .int, 2) := by decide +kernel
theorem dX2_init_69 : decode cX2_init 69 = .ok (.putfield 33, 3) := by decide +kernel
theorem dX2_init_72 : decode cX2_init 72 = .ok (.aload_n 0, 1) := by decide +kernel
theorem dX2_init_73 : decode cX2_init 73 = .ok (.aload_n 1, 1) := by decide +kernel
theorem dX2_init_74 : decode cX2_init 74 = .ok (.putfield 36, 3) := by decide +kernel
theorem dX2_init_77 : decode cX2_init 77 = .ok (.aload_n 0, 1) := by decide +kernel
theorem dX2_init_78 : decode cX2_init 78 = .ok (.aload_n 2, 1) := by decide +kernel
theorem dX2_init_79 : decode cX2_init 79 = .ok (.putfield 40, 3) := by decide +kernel
theorem dX2_init_82 : decode cX2_init 82 = .ok (.aload_n 0, 1) := by decide +kernel
theorem dX2_init_83 : decode cX2_init 83 = .ok (.aload_n 3, 1) := by decide +kernel
theorem dX2_init_84 : decode cX2_init 84 = .ok (.putfield 44, 3) := by decide +kernel
theorem dX2_init_87 : decode cX2_init 87 = .ok (.return_, 1) := by decide +kernel
theorem dX2_tellAll_0 : decode cX2_tellAll 0 = .ok (.aload_n 0, 1) := by decide +kernel
theorem dX2_tellAll_1 : decode cX2_tellAll 1 = .ok (.iconst 0, 1) := by decide +kernel
theorem dX2_tellAll_2 : decode cX2_tellAll 2 = .ok (.putfield 48, 3) := by decide +kernel
theorem dX2_tellAll_5 : decode cX2_tellAll 5 = .ok (.aload_n 0, 1) := by decide +kernel
theorem dX2_tellAll_6 : decode cX2_tellAll 6 = .ok (.iconst 0, 1) := by decide +kernel
theorem dX2_tellAll_7 : decode cX2_tellAll 7 = .ok (.putfield 52, 3) := by decide +kernel
theorem dX2_tellAll_10 : decode cX2_tellAll 10 = .ok (.aload_n 0, 1) := by decide +kernel
theorem dX2_tellAll_11 : decode cX2_tellAll 11 = .ok (.iconst 0, 1) := by decide +kernel
theorem dX2_tellAll_12 : decode cX2_tellAll 12 = .ok (.iconst 0, 1) := by decide +kernel
theorem dX2_tellAll_13 : decode cX2_tellAll 13 = .ok (.invokevirtual 55, 3) := by decide +kernel
theorem dX2_tellAll_16 : decode cX2_tellAll 16 = .ok (.aload_n 0, 1) := by decide +kernel
theorem dX2_tellAll_17 : decode cX2_tellAll 17 = .ok (.invokevirtual 59, 3) := by decide +kernel
theorem dX2_tellAll_20 : decode cX2_tellAll 20 = .ok (.aload_n 0, 1) := by decide +kernel
theorem dX2_tellAll_21 : decode cX2_tellAll 21 = .ok (.invokevirtual 62, 3) := by decide +kernel
theorem dX2_tellAll_24 : decode cX2_tellAll 24 = .ok (.aload_n 0, 1) := by decide +kernel
theorem dX2_tellAll_25 : decode cX2_tellAll 25 = .ok (.invokevirtual 65, 3) := by decide +kernel
theorem dX2_tellAll_28 : decode cX2_tellAll 28 = .ok (.aload_n 0, 1) := by decide +kernel
theorem dX2_tellAll_29 : decode cX2_tellAll 29 = .ok (.invokevirtual 59, 3) := by decide +kernel
theorem dX2_tellAll_32 : decode cX2_tellAll 32 = .ok (.return_, 1) := by decide +kernel
theorem dX2_tell_0 : decode cX2_tell 0 = .ok (.iload_n 2, 1) := by decide +kernel
theorem dX2_tell_1 : decode cX2_tell 1 = .ok (.bipush 60, 2) := by decide +kernel
theorem dX2_tell_3 : decode cX2_tell 3 = .ok (.if_icmp .le 4, 3) := by decide +kernel
theorem dX2_tell_6 : decode cX2_tell 6 = .ok (.return_, 1) := by decide +kernel
theorem dX2_tell_7 : decode cX2_tell 7 = .ok (.aload_n 0, 1) := by decide +kernel
theorem dX2_tell_8 : decode cX2_tell 8 = .ok (.getfield 40, 3) := by decide +kernel
theorem dX2_tell_11 : decode cX2_tell 11 = .ok (.getfield 68, 3) := by decide +kernel
theorem dX2_tell_14 : decode cX2_tell 14 = .ok (.iload_n 1, 1) := by decide +kernel
theorem dX2_tell_15 : decode cX2_tell 15 = .ok (.invokestatic 74, 3) := by decide +kernel
theorem dX2_tell_18 : decode cX2_tell 18 = .ok (.istore_n 3, 1) := by decide +kernel
theorem dX2_tell_19 : decode cX2_tell 19 = .ok (.iload_n 3, 1) := by decide +kernel
theorem dX2_tell_20 : decode cX2_tell 20 = .ok (.ifCond .eq 9, 3) := by decide +kernel
theorem dX2_tell_23 : decode cX2_tell 23 = .ok (.aload_n 0, 1) := by decide +kernel
theorem dX2_tell_24 : decode cX2_tell 24 = .ok (.iconst 1, 1) := by decide +kernel
theorem dX2_tell_25 : decode cX2_tell 25 = .ok (.iload_n 1, 1) := by decide +kernel
theorem dX2_tell_26 : decode cX2_tell 26 = .ok (.invokevirtual 78, 3) := by decide +kernel
theorem dX2_tell_29 : decode cX2_tell 29 = .ok (.aload_n 0, 1) := by decide +kernel
theorem dX2_tell_30 : decode cX2_tell 30 = .ok (.getfield 36, 3) := by decide +kernel
theorem dX2_tell_33 : decode cX2_tell 33 = .ok (.getfield 81, 3) := by decide +kernel
theorem dX2_tell_36 : decode cX2_tell 36 = .ok (.iconst 1, 1) := by decide +kernel
theorem dX2_tell_37 : decode cX2_tell 37 = .ok (.isub, 1) := by decide +kernel
theorem dX2_tell_38 : decode cX2_tell 38 = .ok (.istore 4, 2) := by decide +kernel
theorem dX2_tell_40 : decode cX2_tell 40 = .ok (.iload 4, 2) := by decide +kernel
theorem dX2_tell_42 : decode cX2_tell 42 = .ok (.ifCond .lt 42, 3) := by decide +kernel
theorem dX2_tell_45 : decode cX2_tell 45 = .ok (.aload_n 0, 1) := by decide +kernel
theorem dX2_tell_46 : decode cX2_tell 46 = .ok (.aload_n 0, 1) := by decide +kernel
theorem dX2_tell_47 : decode cX2_tell 47 = .ok (.getfield 40, 3) := by decide +kernel
theorem dX2_tell_50 : decode cX2_tell 50 = .ok (.getfield 84, 3) := by decide +kernel
theorem dX2_tell_53 : decode cX2_tell 53 = .ok (.iload 4, 2) := by decide +kernel
theorem dX2_tell_55 : decode cX2_tell 55 = .ok (.iaload, 1) := by decide +kernel
theorem dX2_tell_56 : decode cX2_tell 56 = .ok (.iload_n 1, 1) := by decide +kernel
theorem dX2_tell_57 : decode cX2_tell 57 = .ok (.invokevirtual 87, 3) := by decide +kernel
theorem dX2_tell_60 : decode cX2_tell 60 = .ok (.ifCond .eq 18, 3) := by decide +kernel
theorem dX2_tell_63 : decode cX2_tell 63 = .ok (.aload_n 0, 1) := by decide +kernel
theorem dX2_tell_64 : decode cX2_tell 64 = .ok (.iconst 2, 1) := by decide +kernel
theorem dX2_tell_65 : decode cX2_tell 65 = .ok (.aload_n 0, 1) := by decide +kernel
theorem dX2_tell_66 : decode cX2_tell 66 = .ok (.getfield 40, 3) := by decide +kernel
theorem dX2_tell_69 : decode cX2_tell 69 = .ok (.getfield 84, 3) := by decide +kernel
theorem dX2_tell_72 : decode cX2_tell 72 = .ok (.iload 4, 2) := by decide +kernel
theorem dX2_tell_74 : decode cX2_tell 74 = .ok (.iaload, 1) := by decide +kernel
theorem dX2_tell_75 : decode cX2_tell 75 = .ok (.invokevirtual 78, 3) := by decide +kernel
theorem dX2_tell_78 : decode cX2_tell 78 = .ok (.iinc 4 (-1), 3) := by decide +kernel
theorem dX2_tell_81 : decode cX2_tell 81 = .ok (.goto (-41), 3) := by decide +kernel
theorem dX2_tell_84 : decode cX2_tell 84 = .ok (.aload_n 0, 1) := by decide +kernel
theorem dX2_tell_85 : decode cX2_tell 85 = .ok (.iload_n 1, 1) := by decide +kernel
theorem dX2_tell_86 : decode cX2_tell 86 = .ok (.invokevirtual 91, 3) := by decide +kernel
theorem dX2_tell_89 : decode cX2_tell 89 = .ok (.aload_n 0, 1) := by decide +kernel
theorem dX2_tell_90 : decode cX2_tell 90 = .ok (.iload_n 1, 1) := by decide +kernel
theorem dX2_tell_91 : decode cX2_tell 91 = .ok (.iload_n 2, 1) := by decide +kernel
theorem dX2_tell_92 : decode cX2_tell 92 = .ok (.invokevirtual 95, 3) := by decide +kernel
theorem dX2_tell_95 : decode cX2_tell 95 = .ok (.iconst 0, 1) := by decide +kernel
theorem dX2_tell_96 : decode cX2_tell 96 = .ok (.istore 4, 2) := by decide +kernel
theorem dX2_tell_98 : decode cX2_tell 98 = .ok (.iload 4, 2) := by decide +kernel
theorem dX2_tell_100 : decode cX2_tell 100 = .ok (.aload_n 0, 1) := by decide +kernel
theorem dX2_tell_101 : decode cX2_tell 101 = .ok (.getfield 36, 3) := by decide +kernel
theorem dX2_tell_104 : decode cX2_tell 104 = .ok (.getfield 81, 3) := by decide +kernel
theorem dX2_tell_107 : decode cX2_tell 107 = .ok (.if_icmp .ge 58, 3) := by decide +kernel
theorem dX2_tell_110 : decode cX2_tell 110 = .ok (.aload_n 0, 1) := by decide +kernel
theorem dX2_tell_111 : decode cX2_tell 111 = .ok (.aload_n 0, 1) := by decide +kernel
theorem dX2_tell_112 : decode cX2_tell 112 = .ok (.getfield 40, 3) := by decide +kernel
theorem dX2_tell_115 : decode cX2_tell 115 = .ok (.getfield 84, 3) := by decide +kernel
theorem dX2_tell_118 : decode cX2_tell 118 = .ok (.iload 4, 2) := by decide +kernel
theorem dX2_tell_120 : decode cX2_tell 120 = .ok (.iaload, 1) := by decide +kernel
theorem dX2_tell_121 : decode cX2_tell 121 = .ok (.iload_n 1, 1) := by decide +kernel
theorem dX2_tell_122 : decode cX2_tell 122 = .ok (.invokevirtual 87, 3) := by decide +kernel
theorem dX2_tell_125 : decode cX2_tell 125 = .ok (.ifCond .eq 34, 3) := by decide +kernel
theorem dX2_tell_128 : decode cX2_tell 128 = .ok (.aload_n 0, 1) := by decide +kernel
theorem dX2_tell_129 : decode cX2_tell 129 = .ok (.aload_n 0, 1) := by decide +kernel
theorem dX2_tell_130 : decode cX2_tell 130 = .ok (.getfield 40, 3) := by decide +kernel
theorem dX2_tell_133 : decode cX2_tell 133 = .ok (.getfield 84, 3) := by decide +kernel
theorem dX2_tell_136 : decode cX2_tell 136 = .ok (.iload 4, 2) := by decide +kernel
theorem dX2_tell_138 : decode cX2_tell 138 = .ok (.iaload, 1) := by decide +kernel
theorem dX2_tell_139 : decode cX2_tell 139 = .ok (.invokevirtual 98, 3) := by decide +kernel
theorem dX2_tell_142 : decode cX2_tell 142 = .ok (.aload_n 0, 1) := by decide +kernel
theorem dX2_tell_143 : decode cX2_tell 143 = .ok (.aload_n 0, 1) := by decide +kernel
theorem dX2_tell_144 : decode cX2_tell 144 = .ok (.getfield 40, 3) := by decide +kernel
theorem dX2_tell_147 : decode cX2_tell 147 = .ok (.getfield 84, 3) := by decide +kernel
theorem dX2_tell_150 : decode cX2_tell 150 = .ok (.iload 4, 2) := by decide +kernel
theorem dX2_tell_152 : decode cX2_tell 152 = .ok (.iaload, 1) := by decide +kernel
theorem dX2_tell_153 : decode cX2_tell 153 = .ok (.iload_n 2, 1) := by decide +kernel
theorem dX2_tell_154 : decode cX2_tell 154 = .ok (.iconst 1, 1) := by decide +kernel
theorem dX2_tell_155 : decode cX2_tell 155 = .ok (.iadd, 1) := by decide +kernel
theorem dX2_tell_156 : decode cX2_tell 156 = .ok (.invokevirtual 55, 3) := by decide +kernel
theorem dX2_tell_159 : decode cX2_tell 159 = .ok (.iinc 4 1, 3) := by decide +kernel
theorem dX2_tell_162 : decode cX2_tell 162 = .ok (.goto (-64), 3) := by decide +kernel
theorem dX2_tell_165 : decode cX2_tell 165 = .ok (.iload_n 3, 1) := by decide +kernel
theorem dX2_tell_166 : decode cX2_tell 166 = .ok (.ifCond .eq 8, 3) := by decide +kernel
theorem dX2_tell_169 : decode cX2_tell 169 = .ok (.aload_n 0, 1) := by decide +kernel
theorem dX2_tell_170 : decode cX2_tell 170 = .ok (.iload_n 1, 1) := by decide +kernel
theorem dX2_tell_171 : decode cX2_tell 171 = .ok (.invokevirtual 98, 3) := by decide +kernel
theorem dX2_tell_174 : decode cX2_tell 174 = .ok (.return_, 1) := by decide +kernel
theorem dX2_isMergeUnder_0 : decode cX2_isMergeUnder 0 = .ok (.aload_n 0, 1) := by decide +kernel
theorem dX2_isMergeUnder_1 : decode cX2_isMergeUnder 1 = .ok (.getfield 40, 3) := by decide +kernel
theorem dX2_isMergeUnder_4 : decode cX2_isMergeUnder 4 = .ok (.getfield 101, 3) := by decide +kernel
theorem dX2_isMergeUnder_7 : decode cX2_isMergeUnder 7 = .ok (.iload_n 1, 1) := by decide +kernel
theorem dX2_isMergeUnder_8 : decode cX2_isMergeUnder 8 = .ok (.invokestatic 74, 3) := by decide +kernel
theorem dX2_isMergeUnder_11 : decode cX2_isMergeUnder 11 = .ok (.ifCond .eq 20, 3) := by decide +kernel
theorem dX2_isMergeUnder_14 : decode cX2_isMergeUnder 14 = .ok (.aload_n 0, 1) := by decide +kernel
theorem dX2_isMergeUnder_15 : decode cX2_isMergeUnder 15 = .ok (.getfield 40, 3) := by decide +kernel
theorem dX2_isMergeUnder_18 : decode cX2_isMergeUnder 18 = .ok (.getfield 104, 3) := by decide +kernel
theorem dX2_isMergeUnder_21 : decode cX2_isMergeUnder 21 = .ok (.iload_n 1, 1) := by decide +kernel
theorem dX2_isMergeUnder_22 : decode cX2_isMergeUnder 22 = .ok (.iaload, 1) := by decide +kernel
theorem dX2_isMergeUnder_23 : decode cX2_isMergeUnder 23 = .ok (.iload_n 2, 1) := by decide +kernel
theorem dX2_isMergeUnder_24 : decode cX2_isMergeUnder 24 = .ok (.if_icmp .ne 7, 3) := by decide +kernel
theorem dX2_isMergeUnder_27 : decode cX2_isMergeUnder 27 = .ok (.iconst 1, 1) := by decide +kernel
theorem dX2_isMergeUnder_28 : decode cX2_isMergeUnder 28 = .ok (.goto 4, 3) := by decide +kernel
theorem dX2_isMergeUnder_31 : decode cX2_isMergeUnder 31 = .ok (.iconst 0, 1) := by decide +kernel
theorem dX2_isMergeUnder_32 : decode cX2_isMergeUnder 32 = .ok (.ireturn, 1) := by decide +kernel
theorem dX2_tellStatements_0 : decode cX2_tellStatements 0 = .ok (.aload_n 0, 1) := by decide +kernel
theorem dX2_tellStatements_1 : decode cX2_tellStatements 1 = .ok (.bipush 11, 2) := by decide +kernel
theorem dX2_tellStatements_3 : decode cX2_tellStatements 3 = .ok (.iload_n 1, 1) := by decide +kernel
theorem dX2_tellStatements_4 : decode cX2_tellStatements 4 = .ok (.iconst (-1), 1) := by decide +kernel
theorem dX2_tellStatements_5 : decode cX2_tellStatements 5 = .ok (.invokevirtual 107, 3) := by decide +kernel
theorem dX2_tellStatements_8 : decode cX2_tellStatements 8 = .ok (.aload_n 0, 1) := by decide +kernel
theorem dX2_tellStatements_9 : decode cX2_tellStatements 9 = .ok (.getfield 36, 3) := by decide +kernel
theorem dX2_tellStatements_12 : decode cX2_tellStatements 12 = .ok (.getfield 111, 3) := by decide +kernel
theorem dX2_tellStatements_15 : decode cX2_tellStatements 15 = .ok (.iload_n 1, 1) := by decide +kernel
theorem dX2_tellStatements_16 : decode cX2_tellStatements 16 = .ok (.iaload, 1) := by decide +kernel
theorem dX2_tellStatements_17 : decode cX2_tellStatements 17 = .ok (.iconst (-1), 1) := by decide +kernel
theorem dX2_tellStatements_18 : decode cX2_tellStatements 18 = .ok (.if_icmp .eq 7, 3) := by decide +kernel
theorem dX2_tellStatements_21 : decode cX2_tellStatements 21 = .ok (.iconst 1, 1) := by decide +kernel
theorem dX2_tellStatements_22 : decode cX2_tellStatements 22 = .ok (.goto 4, 3) := by decide +kernel
theorem dX2_tellStatements_25 : decode cX2_tellStatements 25 = .ok (.iconst 0, 1) := by decide +kernel
theorem dX2_tellStatements_26 : decode cX2_tellStatements 26 = .ok (.istore_n 2, 1) := by decide +kernel
theorem dX2_tellStatements_27 : decode cX2_tellStatements 27 = .ok (.iload_n 2, 1) := by decide +kernel
theorem dX2_tellStatements_28 : decode cX2_tellStatements 28 = .ok (.ifCond .eq 10, 3) := by decide +kernel
theorem dX2_tellStatements_31 : decode cX2_tellStatements 31 = .ok (.aload_n 0, 1) := by decide +kernel
theorem dX2_tellStatements_32 : decode cX2_tellStatements 32 = .ok (.bipush 9, 2) := by decide +kernel
theorem dX2_tellStatements_34 : decode cX2_tellStatements 34 = .ok (.iload_n 1, 1) := by decide +kernel
theorem dX2_tellStatements_35 : decode cX2_tellStatements 35 = .ok (.invokevirtual 78, 3) := by decide +kernel
theorem dX2_tellStatements_38 : decode cX2_tellStatements 38 = .ok (.aload_n 0, 1) := by decide +kernel
theorem dX2_tellStatements_39 : decode cX2_tellStatements 39 = .ok (.getfield 44, 3) := by decide +kernel
theorem dX2_tellStatements_42 : decode cX2_tellStatements 42 = .ok (.getfield 114, 3) := by decide +kernel
theorem dX2_tellStatements_45 : decode cX2_tellStatements 45 = .ok (.iload_n 1, 1) := by decide +kernel
theorem dX2_tellStatements_46 : decode cX2_tellStatements 46 = .ok (.iaload, 1) := by decide +kernel
theorem dX2_tellStatements_47 : decode cX2_tellStatements 47 = .ok (.istore_n 3, 1) := by decide +kernel
theorem dX2_tellStatements_48 : decode cX2_tellStatements 48 = .ok (.iload_n 3, 1) := by decide +kernel
theorem dX2_tellStatements_49 : decode cX2_tellStatements 49 = .ok (.aload_n 0, 1) := by decide +kernel
theorem dX2_tellStatements_50 : decode cX2_tellStatements 50 = .ok (.getfield 44, 3) := by decide +kernel
theorem dX2_tellStatements_53 : decode cX2_tellStatements 53 = .ok (.getfield 114, 3) := by decide +kernel
theorem dX2_tellStatements_56 : decode cX2_tellStatements 56 = .ok (.iload_n 1, 1) := by decide +kernel
theorem dX2_tellStatements_57 : decode cX2_tellStatements 57 = .ok (.iconst 1, 1) := by decide +kernel
theorem dX2_tellStatements_58 : decode cX2_tellStatements 58 = .ok (.iadd, 1) := by decide +kernel
theorem dX2_tellStatements_59 : decode cX2_tellStatements 59 = .ok (.iaload, 1) := by decide +kernel
theorem dX2_tellStatements_60 : decode cX2_tellStatements 60 = .ok (.if_icmp .ge 16, 3) := by decide +kernel
theorem dX2_tellStatements_63 : decode cX2_tellStatements 63 = .ok (.aload_n 0, 1) := by decide +kernel
theorem dX2_tellStatements_64 : decode cX2_tellStatements 64 = .ok (.iconst 0, 1) := by decide +kernel
theorem dX2_tellStatements_65 : decode cX2_tellStatements 65 = .ok (.iload_n 1, 1) := by decide +kernel
theorem dX2_tellStatements_66 : decode cX2_tellStatements 66 = .ok (.iload_n 3, 1) := by decide +kernel
theorem dX2_tellStatements_67 : decode cX2_tellStatements 67 = .ok (.invokevirtual 107, 3) := by decide +kernel
theorem dX2_tellStatements_70 : decode cX2_tellStatements 70 = .ok (.iinc 3 1, 3) := by decide +kernel
theorem dX2_tellStatements_73 : decode cX2_tellStatements 73 = .ok (.goto (-25), 3) := by decide +kernel
theorem dX2_tellStatements_76 : decode cX2_tellStatements 76 = .ok (.iload_n 2, 1) := by decide +kernel
theorem dX2_tellStatements_77 : decode cX2_tellStatements 77 = .ok (.ifCond .eq 29, 3) := by decide +kernel
theorem dX2_tellStatements_80 : decode cX2_tellStatements 80 = .ok (.aload_n 0, 1) := by decide +kernel
theorem dX2_tellStatements_81 : decode cX2_tellStatements 81 = .ok (.dup, 1) := by decide +kernel
theorem dX2_tellStatements_82 : decode cX2_tellStatements 82 = .ok (.getfield 52, 3) := by decide +kernel
theorem dX2_tellStatements_85 : decode cX2_tellStatements 85 = .ok (.iconst 1, 1) := by decide +kernel
theorem dX2_tellStatements_86 : decode cX2_tellStatements 86 = .ok (.isub, 1) := by decide +kernel
theorem dX2_tellStatements_87 : decode cX2_tellStatements 87 = .ok (.putfield 52, 3) := by decide +kernel
theorem dX2_tellStatements_90 : decode cX2_tellStatements 90 = .ok (.aload_n 0, 1) := by decide +kernel
theorem dX2_tellStatements_91 : decode cX2_tellStatements 91 = .ok (.bipush 10, 2) := by decide +kernel
theorem dX2_tellStatements_93 : decode cX2_tellStatements 93 = .ok (.aload_n 0, 1) := by decide +kernel
theorem dX2_tellStatements_94 : decode cX2_tellStatements 94 = .ok (.getfield 36, 3) := by decide +kernel
theorem dX2_tellStatements_97 : decode cX2_tellStatements 97 = .ok (.getfield 111, 3) := by decide +kernel
theorem dX2_tellStatements_100 : decode cX2_tellStatements 100 = .ok (.iload_n 1, 1) := by decide +kernel
theorem dX2_tellStatements_101 : decode cX2_tellStatements 101 = .ok (.iaload, 1) := by decide +kernel
theorem dX2_tellStatements_102 : decode cX2_tellStatements 102 = .ok (.iconst (-1), 1) := by decide +kernel
theorem dX2_tellStatements_103 : decode cX2_tellStatements 103 = .ok (.invokevirtual 107, 3) := by decide +kernel
theorem dX2_tellStatements_106 : decode cX2_tellStatements 106 = .ok (.return_, 1) := by decide +kernel
theorem dX2_tellEnd_0 : decode cX2_tellEnd 0 = .ok (.aload_n 0, 1) := by decide +kernel
theorem dX2_tellEnd_1 : decode cX2_tellEnd 1 = .ok (.getfield 36, 3) := by decide +kernel
theorem dX2_tellEnd_4 : decode cX2_tellEnd 4 = .ok (.getfield 119, 3) := by decide +kernel
theorem dX2_tellEnd_7 : decode cX2_tellEnd 7 = .ok (.iload_n 1, 1) := by decide +kernel
theorem dX2_tellEnd_8 : decode cX2_tellEnd 8 = .ok (.iaload, 1) := by decide +kernel
theorem dX2_tellEnd_9 : decode cX2_tellEnd 9 = .ok (.istore_n 3, 1) := by decide +kernel
theorem dX2_tellEnd_10 : decode cX2_tellEnd 10 = .ok (.iload_n 3, 1) := by decide +kernel
theorem dX2_tellEnd_11 : decode cX2_tellEnd 11 = .ok (.iconst (-1), 1) := by decide +kernel
theorem dX2_tellEnd_12 : decode cX2_tellEnd 12 = .ok (.if_icmp .ne 19, 3) := by decide +kernel
theorem dX2_tellEnd_15 : decode cX2_tellEnd 15 = .ok (.aload_n 0, 1) := by decide +kernel
theorem dX2_tellEnd_16 : decode cX2_tellEnd 16 = .ok (.iload_n 1, 1) := by decide +kernel
theorem dX2_tellEnd_17 : decode cX2_tellEnd 17 = .ok (.aload_n 0, 1) := by decide +kernel
theorem dX2_tellEnd_18 : decode cX2_tellEnd 18 = .ok (.getfield 36, 3) := by decide +kernel
theorem dX2_tellEnd_21 : decode cX2_tellEnd 21 = .ok (.getfield 122, 3) := by decide +kernel
theorem dX2_tellEnd_24 : decode cX2_tellEnd 24 = .ok (.iload_n 1, 1) := by decide +kernel
theorem dX2_tellEnd_25 : decode cX2_tellEnd 25 = .ok (.iaload, 1) := by decide +kernel
theorem dX2_tellEnd_26 : decode cX2_tellEnd 26 = .ok (.iload_n 2, 1) := by decide +kernel
theorem dX2_tellEnd_27 : decode cX2_tellEnd 27 = .ok (.invokevirtual 125, 3) := by decide +kernel
theorem dX2_tellEnd_30 : decode cX2_tellEnd 30 = .ok (.return_, 1) := by decide +kernel
theorem dX2_tellEnd_31 : decode cX2_tellEnd 31 = .ok (.aload_n 0, 1) := by decide +kernel
theorem dX2_tellEnd_32 : decode cX2_tellEnd 32 = .ok (.iconst 3, 1) := by decide +kernel
theorem dX2_tellEnd_33 : decode cX2_tellEnd 33 = .ok (.iload_n 1, 1) := by decide +kernel
theorem dX2_tellEnd_34 : decode cX2_tellEnd 34 = .ok (.invokevirtual 78, 3) := by decide +kernel
theorem dX2_tellEnd_37 : decode cX2_tellEnd 37 = .ok (.aload_n 0, 1) := by decide +kernel
theorem dX2_tellEnd_38 : decode cX2_tellEnd 38 = .ok (.iload_n 1, 1) := by decide +kernel
theorem dX2_tellEnd_39 : decode cX2_tellEnd 39 = .ok (.aload_n 0, 1) := by decide +kernel
theorem dX2_tellEnd_40 : decode cX2_tellEnd 40 = .ok (.getfield 36, 3) := by decide +kernel
theorem dX2_tellEnd_43 : decode cX2_tellEnd 43 = .ok (.getfield 122, 3) := by decide +kernel
theorem dX2_tellEnd_46 : decode cX2_tellEnd 46 = .ok (.iload_n 1, 1) := by decide +kernel
theorem dX2_tellEnd_47 : decode cX2_tellEnd 47 = .ok (.iaload, 1) := by decide +kernel
theorem dX2_tellEnd_48 : decode cX2_tellEnd 48 = .ok (.iload_n 2, 1) := by decide +kernel
theorem dX2_tellEnd_49 : decode cX2_tellEnd 49 = .ok (.invokevirtual 125, 3) := by decide +kernel
theorem dX2_tellEnd_52 : decode cX2_tellEnd 52 = .ok (.aload_n 0, 1) := by decide +kernel
theorem dX2_tellEnd_53 : decode cX2_tellEnd 53 = .ok (.dup, 1) := by decide +kernel
theorem dX2_tellEnd_54 : decode cX2_tellEnd 54 = .ok (.getfield 52, 3) := by decide +kernel
theorem dX2_tellEnd_57 : decode cX2_tellEnd 57 = .ok (.iconst 1, 1) := by decide +kernel
theorem dX2_tellEnd_58 : decode cX2_tellEnd 58 = .ok (.isub, 1) := by decide +kernel
theorem dX2_tellEnd_59 : decode cX2_tellEnd 59 = .ok (.putfield 52, 3) := by decide +kernel
theorem dX2_tellEnd_62 : decode cX2_tellEnd 62 = .ok (.aload_n 0, 1) := by decide +kernel
theorem dX2_tellEnd_63 : decode cX2_tellEnd 63 = .ok (.iconst 4, 1) := by decide +kernel
theorem dX2_tellEnd_64 : decode cX2_tellEnd 64 = .ok (.iload_n 1, 1) := by decide +kernel
theorem dX2_tellEnd_65 : decode cX2_tellEnd 65 = .ok (.invokevirtual 78, 3) := by decide +kernel
theorem dX2_tellEnd_68 : decode cX2_tellEnd 68 = .ok (.aload_n 0, 1) := by decide +kernel
theorem dX2_tellEnd_69 : decode cX2_tellEnd 69 = .ok (.iload_n 1, 1) := by decide +kernel
theorem dX2_tellEnd_70 : decode cX2_tellEnd 70 = .ok (.iload_n 3, 1) := by decide +kernel
theorem dX2_tellEnd_71 : decode cX2_tellEnd 71 = .ok (.iload_n 2, 1) := by decide +kernel
theorem dX2_tellEnd_72 : decode cX2_tellEnd 72 = .ok (.invokevirtual 125, 3) := by decide +kernel
theorem dX2_tellEnd_75 : decode cX2_tellEnd 75 = .ok (.aload_n 0, 1) := by decide +kernel
theorem dX2_tellEnd_76 : decode cX2_tellEnd 76 = .ok (.iload_n 1, 1) := by decide +kernel
theorem dX2_tellEnd_77 : decode cX2_tellEnd 77 = .ok (.invokevirtual 98, 3) := by decide +kernel
theorem dX2_tellEnd_80 : decode cX2_tellEnd 80 = .ok (.return_, 1) := by decide +kernel
theorem dX2_goOn_0 : decode cX2_goOn 0 = .ok (.iload_n 2, 1) := by decide +kernel
theorem dX2_goOn_1 : decode cX2_goOn 1 = .ok (.iconst (-1), 1) := by decide +kernel
theorem dX2_goOn_2 : decode cX2_goOn 2 = .ok (.if_icmp .ne 4, 3) := by decide +kernel
theorem dX2_goOn_5 : decode cX2_goOn 5 = .ok (.return_, 1) := by decide +kernel
theorem dX2_goOn_6 : decode cX2_goOn 6 = .ok (.aload_n 0, 1) := by decide +kernel
theorem dX2_goOn_7 : decode cX2_goOn 7 = .ok (.getfield 36, 3) := by decide +kernel
theorem dX2_goOn_10 : decode cX2_goOn 10 = .ok (.iload_n 1, 1) := by decide +kernel
theorem dX2_goOn_11 : decode cX2_goOn 11 = .ok (.iload_n 2, 1) := by decide +kernel
theorem dX2_goOn_12 : decode cX2_goOn 12 = .ok (.invokevirtual 128, 3) := by decide +kernel
theorem dX2_goOn_15 : decode cX2_goOn 15 = .ok (.istore 4, 2) := by decide +kernel
theorem dX2_goOn_17 : decode cX2_goOn 17 = .ok (.aload_n 0, 1) := by decide +kernel
theorem dX2_goOn_18 : decode cX2_goOn 18 = .ok (.getfield 40, 3) := by decide +kernel
theorem dX2_goOn_21 : decode cX2_goOn 21 = .ok (.getfield 132, 3) := by decide +kernel
theorem dX2_goOn_24 : decode cX2_goOn 24 = .ok (.iload 4, 2) := by decide +kernel
theorem dX2_goOn_26 : decode cX2_goOn 26 = .ok (.baload, 1) := by decide +kernel
theorem dX2_goOn_27 : decode cX2_goOn 27 = .ok (.ifCond .eq 14, 3) := by decide +kernel
theorem dX2_goOn_30 : decode cX2_goOn 30 = .ok (.aload_n 0, 1) := by decide +kernel
theorem dX2_goOn_31 : decode cX2_goOn 31 = .ok (.bipush 8, 2) := by decide +kernel
theorem dX2_goOn_33 : decode cX2_goOn 33 = .ok (.iload_n 2, 1) := by decide +kernel
theorem dX2_goOn_34 : decode cX2_goOn 34 = .ok (.iconst (-1), 1) := by decide +kernel
theorem dX2_goOn_35 : decode cX2_goOn 35 = .ok (.invokevirtual 107, 3) := by decide +kernel
theorem dX2_goOn_38 : decode cX2_goOn 38 = .ok (.goto 60, 3) := by decide +kernel
theorem dX2_goOn_41 : decode cX2_goOn 41 = .ok (.aload_n 0, 1) := by decide +kernel
theorem dX2_goOn_42 : decode cX2_goOn 42 = .ok (.getfield 40, 3) := by decide +kernel
theorem dX2_goOn_45 : decode cX2_goOn 45 = .ok (.getfield 136, 3) := by decide +kernel
theorem dX2_goOn_48 : decode cX2_goOn 48 = .ok (.iload 4, 2) := by decide +kernel
theorem dX2_goOn_50 : decode cX2_goOn 50 = .ok (.baload, 1) := by decide +kernel
theorem dX2_goOn_51 : decode cX2_goOn 51 = .ok (.ifCond .eq 14, 3) := by decide +kernel
theorem dX2_goOn_54 : decode cX2_goOn 54 = .ok (.aload_n 0, 1) := by decide +kernel
theorem dX2_goOn_55 : decode cX2_goOn 55 = .ok (.bipush 7, 2) := by decide +kernel
theorem dX2_goOn_57 : decode cX2_goOn 57 = .ok (.iload_n 2, 1) := by decide +kernel
theorem dX2_goOn_58 : decode cX2_goOn 58 = .ok (.iconst (-1), 1) := by decide +kernel
theorem dX2_goOn_59 : decode cX2_goOn 59 = .ok (.invokevirtual 107, 3) := by decide +kernel
theorem dX2_goOn_62 : decode cX2_goOn 62 = .ok (.goto 36, 3) := by decide +kernel
theorem dX2_goOn_65 : decode cX2_goOn 65 = .ok (.aload_n 0, 1) := by decide +kernel
theorem dX2_goOn_66 : decode cX2_goOn 66 = .ok (.getfield 40, 3) := by decide +kernel
theorem dX2_goOn_69 : decode cX2_goOn 69 = .ok (.getfield 101, 3) := by decide +kernel
theorem dX2_goOn_72 : decode cX2_goOn 72 = .ok (.iload_n 2, 1) := by decide +kernel
theorem dX2_goOn_73 : decode cX2_goOn 73 = .ok (.invokestatic 74, 3) := by decide +kernel
theorem dX2_goOn_76 : decode cX2_goOn 76 = .ok (.ifCond .eq 14, 3) := by decide +kernel
theorem dX2_goOn_79 : decode cX2_goOn 79 = .ok (.aload_n 0, 1) := by decide +kernel
theorem dX2_goOn_80 : decode cX2_goOn 80 = .ok (.bipush 6, 2) := by decide +kernel
theorem dX2_goOn_82 : decode cX2_goOn 82 = .ok (.iload_n 2, 1) := by decide +kernel
theorem dX2_goOn_83 : decode cX2_goOn 83 = .ok (.iconst (-1), 1) := by decide +kernel
theorem dX2_goOn_84 : decode cX2_goOn 84 = .ok (.invokevirtual 107, 3) := by decide +kernel
theorem dX2_goOn_87 : decode cX2_goOn 87 = .ok (.goto 11, 3) := by decide +kernel
theorem dX2_goOn_90 : decode cX2_goOn 90 = .ok (.aload_n 0, 1) := by decide +kernel
theorem dX2_goOn_91 : decode cX2_goOn 91 = .ok (.iload_n 2, 1) := by decide +kernel
theorem dX2_goOn_92 : decode cX2_goOn 92 = .ok (.iload_n 3, 1) := by decide +kernel
theorem dX2_goOn_93 : decode cX2_goOn 93 = .ok (.iconst 1, 1) := by decide +kernel
theorem dX2_goOn_94 : decode cX2_goOn 94 = .ok (.iadd, 1) := by decide +kernel
theorem dX2_goOn_95 : decode cX2_goOn 95 = .ok (.invokevirtual 55, 3) := by decide +kernel
theorem dX2_goOn_98 : decode cX2_goOn 98 = .ok (.return_, 1) := by decide +kernel
theorem dX2_openLine_0 : decode cX2_openLine 0 = .ok (.aload_n 0, 1) := by decide +kernel
theorem dX2_openLine_1 : decode cX2_openLine 1 = .ok (.iload_n 1, 1) := by decide +kernel
theorem dX2_openLine_2 : decode cX2_openLine 2 = .ok (.iload_n 2, 1) := by decide +kernel
theorem dX2_openLine_3 : decode cX2_openLine 3 = .ok (.iconst (-1), 1) := by decide +kernel
theorem dX2_openLine_4 : decode cX2_openLine 4 = .ok (.invokevirtual 107, 3) := by decide +kernel
theorem dX2_openLine_7 : decode cX2_openLine 7 = .ok (.aload_n 0, 1) := by decide +kernel
theorem dX2_openLine_8 : decode cX2_openLine 8 = .ok (.dup, 1) := by decide +kernel
theorem dX2_openLine_9 : decode cX2_openLine 9 = .ok (.getfield 52, 3) := by decide +kernel
theorem dX2_openLine_12 : decode cX2_openLine 12 = .ok (.iconst 1, 1) := by decide +kernel
theorem dX2_openLine_13 : decode cX2_openLine 13 = .ok (.iadd, 1) := by decide +kernel
theorem dX2_openLine_14 : decode cX2_openLine 14 = .ok (.putfield 52, 3) := by decide +kernel
theorem dX2_openLine_17 : decode cX2_openLine 17 = .ok (.return_, 1) := by decide +kernel
theorem dX2_closeLine_0 : decode cX2_closeLine 0 = .ok (.aload_n 0, 1) := by decide +kernel
theorem dX2_closeLine_1 : decode cX2_closeLine 1 = .ok (.dup, 1) := by decide +kernel
theorem dX2_closeLine_2 : decode cX2_closeLine 2 = .ok (.getfield 52, 3) := by decide +kernel
theorem dX2_closeLine_5 : decode cX2_closeLine 5 = .ok (.iconst 1, 1) := by decide +kernel
theorem dX2_closeLine_6 : decode cX2_closeLine 6 = .ok (.isub, 1) := by decide +kernel
theorem dX2_closeLine_7 : decode cX2_closeLine 7 = .ok (.putfield 52, 3) := by decide +kernel
theorem dX2_closeLine_10 : decode cX2_closeLine 10 = .ok (.aload_n 0, 1) := by decide +kernel
theorem dX2_closeLine_11 : decode cX2_closeLine 11 = .ok (.iconst 5, 1) := by decide +kernel
theorem dX2_closeLine_12 : decode cX2_closeLine 12 = .ok (.iload_n 1, 1) := by decide +kernel
theorem dX2_closeLine_13 : decode cX2_closeLine 13 = .ok (.iconst (-1), 1) := by decide +kernel
theorem dX2_closeLine_14 : decode cX2_closeLine 14 = .ok (.invokevirtual 107, 3) := by decide +kernel
theorem dX2_closeLine_17 : decode cX2_closeLine 17 = .ok (.return_, 1) := by decide +kernel
theorem dX2_add_0 : decode cX2_add 0 = .ok (.aload_n 0, 1) := by decide +kernel
theorem dX2_add_1 : decode cX2_add 1 = .ok (.getfield 48, 3) := by decide +kernel
theorem dX2_add_4 : decode cX2_add 4 = .ok (.sipush 800, 3) := by decide +kernel
theorem dX2_add_7 : decode cX2_add 7 = .ok (.if_icmp .ge 56, 3) := by decide +kernel
theorem dX2_add_10 : decode cX2_add 10 = .ok (.aload_n 0, 1) := by decide +kernel
theorem dX2_add_11 : decode cX2_add 11 = .ok (.getfield 9, 3) := by decide +kernel
theorem dX2_add_14 : decode cX2_add 14 = .ok (.aload_n 0, 1) := by decide +kernel
theorem dX2_add_15 : decode cX2_add 15 = .ok (.getfield 48, 3) := by decide +kernel
theorem dX2_add_18 : decode cX2_add 18 = .ok (.iload_n 1, 1) := by decide +kernel
theorem dX2_add_19 : decode cX2_add 19 = .ok (.iastore, 1) := by decide +kernel
theorem dX2_add_20 : decode cX2_add 20 = .ok (.aload_n 0, 1) := by decide +kernel
theorem dX2_add_21 : decode cX2_add 21 = .ok (.getfield 15, 3) := by decide +kernel
theorem dX2_add_24 : decode cX2_add 24 = .ok (.aload_n 0, 1) := by decide +kernel
theorem dX2_add_25 : decode cX2_add 25 = .ok (.getfield 48, 3) := by decide +kernel
theorem dX2_add_28 : decode cX2_add 28 = .ok (.iload_n 2, 1) := by decide +kernel
theorem dX2_add_29 : decode cX2_add 29 = .ok (.iastore, 1) := by decide +kernel
theorem dX2_add_30 : decode cX2_add 30 = .ok (.aload_n 0, 1) := by decide +kernel
theorem dX2_add_31 : decode cX2_add 31 = .ok (.getfield 18, 3) := by decide +kernel
theorem dX2_add_34 : decode cX2_add 34 = .ok (.aload_n 0, 1) := by decide +kernel
theorem dX2_add_35 : decode cX2_add 35 = .ok (.getfield 48, 3) := by decide +kernel
theorem dX2_add_38 : decode cX2_add 38 = .ok (.aload_n 0, 1) := by decide +kernel
theorem dX2_add_39 : decode cX2_add 39 = .ok (.getfield 52, 3) := by decide +kernel
theorem dX2_add_42 : decode cX2_add 42 = .ok (.iastore, 1) := by decide +kernel
theorem dX2_add_43 : decode cX2_add 43 = .ok (.aload_n 0, 1) := by decide +kernel
theorem dX2_add_44 : decode cX2_add 44 = .ok (.getfield 21, 3) := by decide +kernel
theorem dX2_add_47 : decode cX2_add 47 = .ok (.aload_n 0, 1) := by decide +kernel
theorem dX2_add_48 : decode cX2_add 48 = .ok (.getfield 48, 3) := by decide +kernel
theorem dX2_add_51 : decode cX2_add 51 = .ok (.iload_n 3, 1) := by decide +kernel
theorem dX2_add_52 : decode cX2_add 52 = .ok (.iastore, 1) := by decide +kernel
theorem dX2_add_53 : decode cX2_add 53 = .ok (.aload_n 0, 1) := by decide +kernel
theorem dX2_add_54 : decode cX2_add 54 = .ok (.dup, 1) := by decide +kernel
theorem dX2_add_55 : decode cX2_add 55 = .ok (.getfield 48, 3) := by decide +kernel
theorem dX2_add_58 : decode cX2_add 58 = .ok (.iconst 1, 1) := by decide +kernel
theorem dX2_add_59 : decode cX2_add 59 = .ok (.iadd, 1) := by decide +kernel
theorem dX2_add_60 : decode cX2_add 60 = .ok (.putfield 48, 3) := by decide +kernel
theorem dX2_add_63 : decode cX2_add 63 = .ok (.return_, 1) := by decide +kernel
theorem dX2_match_0 : decode cX2_match 0 = .ok (.iconst 0, 1) := by decide +kernel
theorem dX2_match_1 : decode cX2_match 1 = .ok (.istore_n 1, 1) := by decide +kernel
theorem dX2_match_2 : decode cX2_match 2 = .ok (.iconst 0, 1) := by decide +kernel
theorem dX2_match_3 : decode cX2_match 3 = .ok (.istore_n 2, 1) := by decide +kernel
theorem dX2_match_4 : decode cX2_match 4 = .ok (.iload_n 2, 1) := by decide +kernel
theorem dX2_match_5 : decode cX2_match 5 = .ok (.aload_n 0, 1) := by decide +kernel
theorem dX2_match_6 : decode cX2_match 6 = .ok (.getfield 48, 3) := by decide +kernel
theorem dX2_match_9 : decode cX2_match 9 = .ok (.if_icmp .ge 165, 3) := by decide +kernel
theorem dX2_match_12 : decode cX2_match 12 = .ok (.aload_n 0, 1) := by decide +kernel
theorem dX2_match_13 : decode cX2_match 13 = .ok (.getfield 9, 3) := by decide +kernel
theorem dX2_match_16 : decode cX2_match 16 = .ok (.iload_n 2, 1) := by decide +kernel
theorem dX2_match_17 : decode cX2_match 17 = .ok (.iaload, 1) := by decide +kernel
theorem dX2_match_18 : decode cX2_match 18 = .ok (.tableswitch 145 1 10 #[54, 54, 54, 76, 106, 145, 145, 145, 54, 106], 54) := by decide +kernel
theorem dX2_match_72 : decode cX2_match 72 = .ok (.iload_n 1, 1) := by decide +kernel
theorem dX2_match_73 : decode cX2_match 73 = .ok (.aload_n 0, 1) := by decide +kernel
theorem dX2_match_74 : decode cX2_match 74 = .ok (.getfield 33, 3) := by decide +kernel
theorem dX2_match_77 : decode cX2_match 77 = .ok (.arraylength, 1) := by decide +kernel
theorem dX2_match_78 : decode cX2_match 78 = .ok (.if_icmp .ge 85, 3) := by decide +kernel
theorem dX2_match_81 : decode cX2_match 81 = .ok (.aload_n 0, 1) := by decide +kernel
theorem dX2_match_82 : decode cX2_match 82 = .ok (.getfield 33, 3) := by decide +kernel
theorem dX2_match_85 : decode cX2_match 85 = .ok (.iload_n 1, 1) := by decide +kernel
theorem dX2_match_86 : decode cX2_match 86 = .ok (.iload_n 2, 1) := by decide +kernel
theorem dX2_match_87 : decode cX2_match 87 = .ok (.iastore, 1) := by decide +kernel
theorem dX2_match_88 : decode cX2_match 88 = .ok (.iinc 1 1, 3) := by decide +kernel
theorem dX2_match_91 : decode cX2_match 91 = .ok (.goto 72, 3) := by decide +kernel
theorem dX2_match_94 : decode cX2_match 94 = .ok (.iload_n 1, 1) := by decide +kernel
theorem dX2_match_95 : decode cX2_match 95 = .ok (.ifCond .le 68, 3) := by decide +kernel
theorem dX2_match_98 : decode cX2_match 98 = .ok (.aload_n 0, 1) := by decide +kernel
theorem dX2_match_99 : decode cX2_match 99 = .ok (.getfield 21, 3) := by decide +kernel
theorem dX2_match_102 : decode cX2_match 102 = .ok (.aload_n 0, 1) := by decide +kernel
theorem dX2_match_103 : decode cX2_match 103 = .ok (.getfield 33, 3) := by decide +kernel
theorem dX2_match_106 : decode cX2_match 106 = .ok (.iload_n 1, 1) := by decide +kernel
theorem dX2_match_107 : decode cX2_match 107 = .ok (.iconst 1, 1) := by decide +kernel
theorem dX2_match_108 : decode cX2_match 108 = .ok (.isub, 1) := by decide +kernel
theorem dX2_match_109 : decode cX2_match 109 = .ok (.iaload, 1) := by decide +kernel
theorem dX2_match_110 : decode cX2_match 110 = .ok (.iload_n 2, 1) := by decide +kernel
theorem dX2_match_111 : decode cX2_match 111 = .ok (.iastore, 1) := by decide +kernel
theorem dX2_match_112 : decode cX2_match 112 = .ok (.aload_n 0, 1) := by decide +kernel
theorem dX2_match_113 : decode cX2_match 113 = .ok (.getfield 33, 3) := by decide +kernel
theorem dX2_match_116 : decode cX2_match 116 = .ok (.iload_n 1, 1) := by decide +kernel
theorem dX2_match_117 : decode cX2_match 117 = .ok (.iconst 1, 1) := by decide +kernel
theorem dX2_match_118 : decode cX2_match 118 = .ok (.isub, 1) := by decide +kernel
theorem dX2_match_119 : decode cX2_match 119 = .ok (.iload_n 2, 1) := by decide +kernel
theorem dX2_match_120 : decode cX2_match 120 = .ok (.iastore, 1) := by decide +kernel
theorem dX2_match_121 : decode cX2_match 121 = .ok (.goto 42, 3) := by decide +kernel
theorem dX2_match_124 : decode cX2_match 124 = .ok (.iload_n 1, 1) := by decide +kernel
theorem dX2_match_125 : decode cX2_match 125 = .ok (.ifCond .le 38, 3) := by decide +kernel
theorem dX2_match_128 : decode cX2_match 128 = .ok (.iinc 1 (-1), 3) := by decide +kernel
theorem dX2_match_131 : decode cX2_match 131 = .ok (.aload_n 0, 1) := by decide +kernel
theorem dX2_match_132 : decode cX2_match 132 = .ok (.getfield 21, 3) := by decide +kernel
theorem dX2_match_135 : decode cX2_match 135 = .ok (.aload_n 0, 1) := by decide +kernel
theorem dX2_match_136 : decode cX2_match 136 = .ok (.getfield 33, 3) := by decide +kernel
theorem dX2_match_139 : decode cX2_match 139 = .ok (.iload_n 1, 1) := by decide +kernel
theorem dX2_match_140 : decode cX2_match 140 = .ok (.iaload, 1) := by decide +kernel
theorem dX2_match_141 : decode cX2_match 141 = .ok (.iload_n 2, 1) := by decide +kernel
theorem dX2_match_142 : decode cX2_match 142 = .ok (.iastore, 1) := by decide +kernel
theorem dX2_match_143 : decode cX2_match 143 = .ok (.aload_n 0, 1) := by decide +kernel
theorem dX2_match_144 : decode cX2_match 144 = .ok (.getfield 21, 3) := by decide +kernel
theorem dX2_match_147 : decode cX2_match 147 = .ok (.iload_n 2, 1) := by decide +kernel
theorem dX2_match_148 : decode cX2_match 148 = .ok (.aload_n 0, 1) := by decide +kernel
theorem dX2_match_149 : decode cX2_match 149 = .ok (.getfield 9, 3) := by decide +kernel
theorem dX2_match_152 : decode cX2_match 152 = .ok (.aload_n 0, 1) := by decide +kernel
theorem dX2_match_153 : decode cX2_match 153 = .ok (.getfield 33, 3) := by decide +kernel
theorem dX2_match_156 : decode cX2_match 156 = .ok (.iload_n 1, 1) := by decide +kernel
theorem dX2_match_157 : decode cX2_match 157 = .ok (.iaload, 1) := by decide +kernel
theorem dX2_match_158 : decode cX2_match 158 = .ok (.iaload, 1) := by decide +kernel
theorem dX2_match_159 : decode cX2_match 159 = .ok (.iastore, 1) := by decide +kernel
theorem dX2_match_160 : decode cX2_match 160 = .ok (.goto 3, 3) := by decide +kernel
theorem dX2_match_163 : decode cX2_match 163 = .ok (.aload_n 0, 1) := by decide +kernel
theorem dX2_match_164 : decode cX2_match 164 = .ok (.iload_n 2, 1) := by decide +kernel
theorem dX2_match_165 : decode cX2_match 165 = .ok (.invokevirtual 139, 3) := by decide +kernel
theorem dX2_match_168 : decode cX2_match 168 = .ok (.iinc 2 1, 3) := by decide +kernel
theorem dX2_match_171 : decode cX2_match 171 = .ok (.goto (-167), 3) := by decide +kernel
theorem dX2_match_174 : decode cX2_match 174 = .ok (.return_, 1) := by decide +kernel
theorem dX2_mark_0 : decode cX2_mark 0 = .ok (.aload_n 0, 1) := by decide +kernel
theorem dX2_mark_1 : decode cX2_mark 1 = .ok (.getfield 9, 3) := by decide +kernel
theorem dX2_mark_4 : decode cX2_mark 4 = .ok (.iload_n 1, 1) := by decide +kernel
theorem dX2_mark_5 : decode cX2_mark 5 = .ok (.iaload, 1) := by decide +kernel
theorem dX2_mark_6 : decode cX2_mark 6 = .ok (.bipush 11, 2) := by decide +kernel
theorem dX2_mark_8 : decode cX2_mark 8 = .ok (.if_icmp .ne 18, 3) := by decide +kernel
theorem dX2_mark_11 : decode cX2_mark 11 = .ok (.aload_n 0, 1) := by decide +kernel
theorem dX2_mark_12 : decode cX2_mark 12 = .ok (.getfield 24, 3) := by decide +kernel
theorem dX2_mark_15 : decode cX2_mark 15 = .ok (.aload_n 0, 1) := by decide +kernel
theorem dX2_mark_16 : decode cX2_mark 16 = .ok (.getfield 15, 3) := by decide +kernel
theorem dX2_mark_19 : decode cX2_mark 19 = .ok (.iload_n 1, 1) := by decide +kernel
theorem dX2_mark_20 : decode cX2_mark 20 = .ok (.iaload, 1) := by decide +kernel
theorem dX2_mark_21 : decode cX2_mark 21 = .ok (.iload_n 1, 1) := by decide +kernel
theorem dX2_mark_22 : decode cX2_mark 22 = .ok (.iastore, 1) := by decide +kernel
theorem dX2_mark_23 : decode cX2_mark 23 = .ok (.goto 60, 3) := by decide +kernel
theorem dX2_mark_26 : decode cX2_mark 26 = .ok (.aload_n 0, 1) := by decide +kernel
theorem dX2_mark_27 : decode cX2_mark 27 = .ok (.getfield 9, 3) := by decide +kernel
theorem dX2_mark_30 : decode cX2_mark 30 = .ok (.iload_n 1, 1) := by decide +kernel
theorem dX2_mark_31 : decode cX2_mark 31 = .ok (.iaload, 1) := by decide +kernel
theorem dX2_mark_32 : decode cX2_mark 32 = .ok (.iconst 1, 1) := by decide +kernel
theorem dX2_mark_33 : decode cX2_mark 33 = .ok (.if_icmp .ne 18, 3) := by decide +kernel
theorem dX2_mark_36 : decode cX2_mark 36 = .ok (.aload_n 0, 1) := by decide +kernel
theorem dX2_mark_37 : decode cX2_mark 37 = .ok (.getfield 27, 3) := by decide +kernel
theorem dX2_mark_40 : decode cX2_mark 40 = .ok (.aload_n 0, 1) := by decide +kernel
theorem dX2_mark_41 : decode cX2_mark 41 = .ok (.getfield 15, 3) := by decide +kernel
theorem dX2_mark_44 : decode cX2_mark 44 = .ok (.iload_n 1, 1) := by decide +kernel
theorem dX2_mark_45 : decode cX2_mark 45 = .ok (.iaload, 1) := by decide +kernel
theorem dX2_mark_46 : decode cX2_mark 46 = .ok (.iload_n 1, 1) := by decide +kernel
theorem dX2_mark_47 : decode cX2_mark 47 = .ok (.iastore, 1) := by decide +kernel
theorem dX2_mark_48 : decode cX2_mark 48 = .ok (.goto 35, 3) := by decide +kernel
theorem dX2_mark_51 : decode cX2_mark 51 = .ok (.aload_n 0, 1) := by decide +kernel
theorem dX2_mark_52 : decode cX2_mark 52 = .ok (.getfield 9, 3) := by decide +kernel
theorem dX2_mark_55 : decode cX2_mark 55 = .ok (.iload_n 1, 1) := by decide +kernel
theorem dX2_mark_56 : decode cX2_mark 56 = .ok (.iaload, 1) := by decide +kernel
theorem dX2_mark_57 : decode cX2_mark 57 = .ok (.iconst 5, 1) := by decide +kernel
theorem dX2_mark_58 : decode cX2_mark 58 = .ok (.if_icmp .ne 25, 3) := by decide +kernel
theorem dX2_mark_61 : decode cX2_mark 61 = .ok (.aload_n 0, 1) := by decide +kernel
theorem dX2_mark_62 : decode cX2_mark 62 = .ok (.getfield 21, 3) := by decide +kernel
theorem dX2_mark_65 : decode cX2_mark 65 = .ok (.iload_n 1, 1) := by decide +kernel
theorem dX2_mark_66 : decode cX2_mark 66 = .ok (.iaload, 1) := by decide +kernel
theorem dX2_mark_67 : decode cX2_mark 67 = .ok (.iconst 2, 1) := by decide +kernel
theorem dX2_mark_68 : decode cX2_mark 68 = .ok (.if_icmp .ne 15, 3) := by decide +kernel
theorem dX2_mark_71 : decode cX2_mark 71 = .ok (.aload_n 0, 1) := by decide +kernel
theorem dX2_mark_72 : decode cX2_mark 72 = .ok (.getfield 30, 3) := by decide +kernel
theorem dX2_mark_75 : decode cX2_mark 75 = .ok (.aload_n 0, 1) := by decide +kernel
theorem dX2_mark_76 : decode cX2_mark 76 = .ok (.getfield 15, 3) := by decide +kernel
theorem dX2_mark_79 : decode cX2_mark 79 = .ok (.iload_n 1, 1) := by decide +kernel
theorem dX2_mark_80 : decode cX2_mark 80 = .ok (.iaload, 1) := by decide +kernel
theorem dX2_mark_81 : decode cX2_mark 81 = .ok (.iload_n 1, 1) := by decide +kernel
theorem dX2_mark_82 : decode cX2_mark 82 = .ok (.iastore, 1) := by decide +kernel
theorem dX2_mark_83 : decode cX2_mark 83 = .ok (.return_, 1) := by decide +kernel
theorem dX2_leaveOut_0 : decode cX2_leaveOut 0 = .ok (.iconst 0, 1) := by decide +kernel
theorem dX2_leaveOut_1 : decode cX2_leaveOut 1 = .ok (.istore_n 1, 1) := by decide +kernel
theorem dX2_leaveOut_2 : decode cX2_leaveOut 2 = .ok (.iload_n 1, 1) := by decide +kernel
theorem dX2_leaveOut_3 : decode cX2_leaveOut 3 = .ok (.aload_n 0, 1) := by decide +kernel
theorem dX2_leaveOut_4 : decode cX2_leaveOut 4 = .ok (.getfield 48, 3) := by decide +kernel
theorem dX2_leaveOut_7 : decode cX2_leaveOut 7 = .ok (.if_icmp .ge 36, 3) := by decide +kernel
theorem dX2_leaveOut_10 : decode cX2_leaveOut 10 = .ok (.aload_n 0, 1) := by decide +kernel
theorem dX2_leaveOut_11 : decode cX2_leaveOut 11 = .ok (.getfield 9, 3) := by decide +kernel
theorem dX2_leaveOut_14 : decode cX2_leaveOut 14 = .ok (.iload_n 1, 1) := by decide +kernel
theorem dX2_leaveOut_15 : decode cX2_leaveOut 15 = .ok (.iaload, 1) := by decide +kernel
theorem dX2_leaveOut_16 : decode cX2_leaveOut 16 = .ok (.bipush 6, 2) := by decide +kernel
theorem dX2_leaveOut_18 : decode cX2_leaveOut 18 = .ok (.if_icmp .ne 19, 3) := by decide +kernel
theorem dX2_leaveOut_21 : decode cX2_leaveOut 21 = .ok (.aload_n 0, 1) := by decide +kernel
theorem dX2_leaveOut_22 : decode cX2_leaveOut 22 = .ok (.iload_n 1, 1) := by decide +kernel
theorem dX2_leaveOut_23 : decode cX2_leaveOut 23 = .ok (.invokevirtual 142, 3) := by decide +kernel
theorem dX2_leaveOut_26 : decode cX2_leaveOut 26 = .ok (.ifCond .eq 11, 3) := by decide +kernel
theorem dX2_leaveOut_29 : decode cX2_leaveOut 29 = .ok (.aload_n 0, 1) := by decide +kernel
theorem dX2_leaveOut_30 : decode cX2_leaveOut 30 = .ok (.getfield 9, 3) := by decide +kernel
theorem dX2_leaveOut_33 : decode cX2_leaveOut 33 = .ok (.iload_n 1, 1) := by decide +kernel
theorem dX2_leaveOut_34 : decode cX2_leaveOut 34 = .ok (.bipush 12, 2) := by decide +kernel
theorem dX2_leaveOut_36 : decode cX2_leaveOut 36 = .ok (.iastore, 1) := by decide +kernel
theorem dX2_leaveOut_37 : decode cX2_leaveOut 37 = .ok (.iinc 1 1, 3) := by decide +kernel
theorem dX2_leaveOut_40 : decode cX2_leaveOut 40 = .ok (.goto (-38), 3) := by decide +kernel
theorem dX2_leaveOut_43 : decode cX2_leaveOut 43 = .ok (.iconst 0, 1) := by decide +kernel
theorem dX2_leaveOut_44 : decode cX2_leaveOut 44 = .ok (.istore_n 1, 1) := by decide +kernel
theorem dX2_leaveOut_45 : decode cX2_leaveOut 45 = .ok (.iload_n 1, 1) := by decide +kernel
theorem dX2_leaveOut_46 : decode cX2_leaveOut 46 = .ok (.iconst 1, 1) := by decide +kernel
theorem dX2_leaveOut_47 : decode cX2_leaveOut 47 = .ok (.iadd, 1) := by decide +kernel
theorem dX2_leaveOut_48 : decode cX2_leaveOut 48 = .ok (.aload_n 0, 1) := by decide +kernel
theorem dX2_leaveOut_49 : decode cX2_leaveOut 49 = .ok (.getfield 48, 3) := by decide +kernel
theorem dX2_leaveOut_52 : decode cX2_leaveOut 52 = .ok (.if_icmp .ge 52, 3) := by decide +kernel
theorem dX2_leaveOut_55 : decode cX2_leaveOut 55 = .ok (.aload_n 0, 1) := by decide +kernel
theorem dX2_leaveOut_56 : decode cX2_leaveOut 56 = .ok (.getfield 9, 3) := by decide +kernel
theorem dX2_leaveOut_59 : decode cX2_leaveOut 59 = .ok (.iload_n 1, 1) := by decide +kernel
theorem dX2_leaveOut_60 : decode cX2_leaveOut 60 = .ok (.iaload, 1) := by decide +kernel
theorem dX2_leaveOut_61 : decode cX2_leaveOut 61 = .ok (.iconst 4, 1) := by decide +kernel
theorem dX2_leaveOut_62 : decode cX2_leaveOut 62 = .ok (.if_icmp .ne 36, 3) := by decide +kernel
theorem dX2_leaveOut_65 : decode cX2_leaveOut 65 = .ok (.aload_n 0, 1) := by decide +kernel
theorem dX2_leaveOut_66 : decode cX2_leaveOut 66 = .ok (.getfield 9, 3) := by decide +kernel
theorem dX2_leaveOut_69 : decode cX2_leaveOut 69 = .ok (.iload_n 1, 1) := by decide +kernel
theorem dX2_leaveOut_70 : decode cX2_leaveOut 70 = .ok (.iconst 1, 1) := by decide +kernel
theorem dX2_leaveOut_71 : decode cX2_leaveOut 71 = .ok (.iadd, 1) := by decide +kernel
theorem dX2_leaveOut_72 : decode cX2_leaveOut 72 = .ok (.iaload, 1) := by decide +kernel
theorem dX2_leaveOut_73 : decode cX2_leaveOut 73 = .ok (.bipush 12, 2) := by decide +kernel
theorem dX2_leaveOut_75 : decode cX2_leaveOut 75 = .ok (.if_icmp .ne 23, 3) := by decide +kernel
theorem dX2_leaveOut_78 : decode cX2_leaveOut 78 = .ok (.aload_n 0, 1) := by decide +kernel
theorem dX2_leaveOut_79 : decode cX2_leaveOut 79 = .ok (.getfield 21, 3) := by decide +kernel
theorem dX2_leaveOut_82 : decode cX2_leaveOut 82 = .ok (.iload_n 1, 1) := by decide +kernel
theorem dX2_leaveOut_83 : decode cX2_leaveOut 83 = .ok (.iaload, 1) := by decide +kernel
theorem dX2_leaveOut_84 : decode cX2_leaveOut 84 = .ok (.iload_n 1, 1) := by decide +kernel
theorem dX2_leaveOut_85 : decode cX2_leaveOut 85 = .ok (.iconst 2, 1) := by decide +kernel
theorem dX2_leaveOut_86 : decode cX2_leaveOut 86 = .ok (.iadd, 1) := by decide +kernel
theorem dX2_leaveOut_87 : decode cX2_leaveOut 87 = .ok (.if_icmp .ne 11, 3) := by decide +kernel
theorem dX2_leaveOut_90 : decode cX2_leaveOut 90 = .ok (.aload_n 0, 1) := by decide +kernel
theorem dX2_leaveOut_91 : decode cX2_leaveOut 91 = .ok (.getfield 9, 3) := by decide +kernel
theorem dX2_leaveOut_94 : decode cX2_leaveOut 94 = .ok (.iload_n 1, 1) := by decide +kernel
theorem dX2_leaveOut_95 : decode cX2_leaveOut 95 = .ok (.bipush 12, 2) := by decide +kernel
theorem dX2_leaveOut_97 : decode cX2_leaveOut 97 = .ok (.iastore, 1) := by decide +kernel
theorem dX2_leaveOut_98 : decode cX2_leaveOut 98 = .ok (.iinc 1 1, 3) := by decide +kernel
theorem dX2_leaveOut_101 : decode cX2_leaveOut 101 = .ok (.goto (-56), 3) := by decide +kernel
theorem dX2_leaveOut_104 : decode cX2_leaveOut 104 = .ok (.return_, 1) := by decide +kernel
theorem dX2_endsAnyway_0 : decode cX2_endsAnyway 0 = .ok (.iload_n 1, 1) := by decide +kernel
theorem dX2_endsAnyway_1 : decode cX2_endsAnyway 1 = .ok (.iconst 1, 1) := by decide +kernel
theorem dX2_endsAnyway_2 : decode cX2_endsAnyway 2 = .ok (.iadd, 1) := by decide +kernel
theorem dX2_endsAnyway_3 : decode cX2_endsAnyway 3 = .ok (.istore_n 2, 1) := by decide +kernel
theorem dX2_endsAnyway_4 : decode cX2_endsAnyway 4 = .ok (.iconst 0, 1) := by decide +kernel
theorem dX2_endsAnyway_5 : decode cX2_endsAnyway 5 = .ok (.istore_n 3, 1) := by decide +kernel
theorem dX2_endsAnyway_6 : decode cX2_endsAnyway 6 = .ok (.iload_n 3, 1) := by decide +kernel
theorem dX2_endsAnyway_7 : decode cX2_endsAnyway 7 = .ok (.aload_n 0, 1) := by decide +kernel
theorem dX2_endsAnyway_8 : decode cX2_endsAnyway 8 = .ok (.getfield 48, 3) := by decide +kernel
theorem dX2_endsAnyway_11 : decode cX2_endsAnyway 11 = .ok (.if_icmp .ge 81, 3) := by decide +kernel
theorem dX2_endsAnyway_14 : decode cX2_endsAnyway 14 = .ok (.iload_n 2, 1) := by decide +kernel
theorem dX2_endsAnyway_15 : decode cX2_endsAnyway 15 = .ok (.aload_n 0, 1) := by decide +kernel
theorem dX2_endsAnyway_16 : decode cX2_endsAnyway 16 = .ok (.getfield 48, 3) := by decide +kernel
theorem dX2_endsAnyway_19 : decode cX2_endsAnyway 19 = .ok (.if_icmp .ge 73, 3) := by decide +kernel
theorem dX2_endsAnyway_22 : decode cX2_endsAnyway 22 = .ok (.aload_n 0, 1) := by decide +kernel
theorem dX2_endsAnyway_23 : decode cX2_endsAnyway 23 = .ok (.getfield 9, 3) := by decide +kernel
theorem dX2_endsAnyway_26 : decode cX2_endsAnyway 26 = .ok (.iload_n 2, 1) := by decide +kernel
theorem dX2_endsAnyway_27 : decode cX2_endsAnyway 27 = .ok (.iaload, 1) := by decide +kernel
theorem dX2_endsAnyway_28 : decode cX2_endsAnyway 28 = .ok (.iconst 4, 1) := by decide +kernel
theorem dX2_endsAnyway_29 : decode cX2_endsAnyway 29 = .ok (.if_icmp .ne 15, 3) := by decide +kernel
theorem dX2_endsAnyway_32 : decode cX2_endsAnyway 32 = .ok (.aload_n 0, 1) := by decide +kernel
theorem dX2_endsAnyway_33 : decode cX2_endsAnyway 33 = .ok (.getfield 21, 3) := by decide +kernel
theorem dX2_endsAnyway_36 : decode cX2_endsAnyway 36 = .ok (.iload_n 2, 1) := by decide +kernel
theorem dX2_endsAnyway_37 : decode cX2_endsAnyway 37 = .ok (.iaload, 1) := by decide +kernel
theorem dX2_endsAnyway_38 : decode cX2_endsAnyway 38 = .ok (.iconst 1, 1) := by decide +kernel
theorem dX2_endsAnyway_39 : decode cX2_endsAnyway 39 = .ok (.iadd, 1) := by decide +kernel
theorem dX2_endsAnyway_40 : decode cX2_endsAnyway 40 = .ok (.istore_n 2, 1) := by decide +kernel
theorem dX2_endsAnyway_41 : decode cX2_endsAnyway 41 = .ok (.goto 45, 3) := by decide +kernel
theorem dX2_endsAnyway_44 : decode cX2_endsAnyway 44 = .ok (.aload_n 0, 1) := by decide +kernel
theorem dX2_endsAnyway_45 : decode cX2_endsAnyway 45 = .ok (.getfield 9, 3) := by decide +kernel
theorem dX2_endsAnyway_48 : decode cX2_endsAnyway 48 = .ok (.iload_n 2, 1) := by decide +kernel
theorem dX2_endsAnyway_49 : decode cX2_endsAnyway 49 = .ok (.iaload, 1) := by decide +kernel
theorem dX2_endsAnyway_50 : decode cX2_endsAnyway 50 = .ok (.iconst 5, 1) := by decide +kernel
theorem dX2_endsAnyway_51 : decode cX2_endsAnyway 51 = .ok (.if_icmp .eq 5, 3) := by decide +kernel
theorem dX2_endsAnyway_54 : decode cX2_endsAnyway 54 = .ok (.iconst 0, 1) := by decide +kernel
theorem dX2_endsAnyway_55 : decode cX2_endsAnyway 55 = .ok (.ireturn, 1) := by decide +kernel
theorem dX2_endsAnyway_56 : decode cX2_endsAnyway 56 = .ok (.aload_n 0, 1) := by decide +kernel
theorem dX2_endsAnyway_57 : decode cX2_endsAnyway 57 = .ok (.getfield 21, 3) := by decide +kernel
theorem dX2_endsAnyway_60 : decode cX2_endsAnyway 60 = .ok (.iload_n 2, 1) := by decide +kernel
theorem dX2_endsAnyway_61 : decode cX2_endsAnyway 61 = .ok (.iaload, 1) := by decide +kernel
theorem dX2_endsAnyway_62 : decode cX2_endsAnyway 62 = .ok (.iconst 2, 1) := by decide +kernel
theorem dX2_endsAnyway_63 : decode cX2_endsAnyway 63 = .ok (.if_icmp .ne 20, 3) := by decide +kernel
theorem dX2_endsAnyway_66 : decode cX2_endsAnyway 66 = .ok (.aload_n 0, 1) := by decide +kernel
theorem dX2_endsAnyway_67 : decode cX2_endsAnyway 67 = .ok (.getfield 15, 3) := by decide +kernel
theorem dX2_endsAnyway_70 : decode cX2_endsAnyway 70 = .ok (.iload_n 2, 1) := by decide +kernel
theorem dX2_endsAnyway_71 : decode cX2_endsAnyway 71 = .ok (.iaload, 1) := by decide +kernel
theorem dX2_endsAnyway_72 : decode cX2_endsAnyway 72 = .ok (.aload_n 0, 1) := by decide +kernel
theorem dX2_endsAnyway_73 : decode cX2_endsAnyway 73 = .ok (.getfield 15, 3) := by decide +kernel
theorem dX2_endsAnyway_76 : decode cX2_endsAnyway 76 = .ok (.iload_n 1, 1) := by decide +kernel
theorem dX2_endsAnyway_77 : decode cX2_endsAnyway 77 = .ok (.iaload, 1) := by decide +kernel
theorem dX2_endsAnyway_78 : decode cX2_endsAnyway 78 = .ok (.if_icmp .ne 5, 3) := by decide +kernel
theorem dX2_endsAnyway_81 : decode cX2_endsAnyway 81 = .ok (.iconst 1, 1) := by decide +kernel
theorem dX2_endsAnyway_82 : decode cX2_endsAnyway 82 = .ok (.ireturn, 1) := by decide +kernel
theorem dX2_endsAnyway_83 : decode cX2_endsAnyway 83 = .ok (.iinc 2 1, 3) := by decide +kernel
theorem dX2_endsAnyway_86 : decode cX2_endsAnyway 86 = .ok (.iinc 3 1, 3) := by decide +kernel
theorem dX2_endsAnyway_89 : decode cX2_endsAnyway 89 = .ok (.goto (-83), 3) := by decide +kernel
theorem dX2_endsAnyway_92 : decode cX2_endsAnyway 92 = .ok (.iconst 0, 1) := by decide +kernel
theorem dX2_endsAnyway_93 : decode cX2_endsAnyway 93 = .ok (.ireturn, 1) := by decide +kernel
theorem dX2_close_0 : decode cX2_close 0 = .ok (.iconst 0, 1) := by decide +kernel
theorem dX2_close_1 : decode cX2_close 1 = .ok (.istore_n 1, 1) := by decide +kernel
theorem dX2_close_2 : decode cX2_close 2 = .ok (.iconst 0, 1) := by decide +kernel
theorem dX2_close_3 : decode cX2_close 3 = .ok (.istore_n 2, 1) := by decide +kernel
theorem dX2_close_4 : decode cX2_close 4 = .ok (.iload_n 2, 1) := by decide +kernel
theorem dX2_close_5 : decode cX2_close 5 = .ok (.aload_n 0, 1) := by decide +kernel
theorem dX2_close_6 : decode cX2_close 6 = .ok (.getfield 48, 3) := by decide +kernel
theorem dX2_close_9 : decode cX2_close 9 = .ok (.if_icmp .ge 71, 3) := by decide +kernel
theorem dX2_close_12 : decode cX2_close 12 = .ok (.aload_n 0, 1) := by decide +kernel
theorem dX2_close_13 : decode cX2_close 13 = .ok (.getfield 9, 3) := by decide +kernel
theorem dX2_close_16 : decode cX2_close 16 = .ok (.iload_n 2, 1) := by decide +kernel
theorem dX2_close_17 : decode cX2_close 17 = .ok (.iaload, 1) := by decide +kernel
theorem dX2_close_18 : decode cX2_close 18 = .ok (.bipush 12, 2) := by decide +kernel
theorem dX2_close_20 : decode cX2_close 20 = .ok (.if_icmp .eq 54, 3) := by decide +kernel
theorem dX2_close_23 : decode cX2_close 23 = .ok (.aload_n 0, 1) := by decide +kernel
theorem dX2_close_24 : decode cX2_close 24 = .ok (.getfield 9, 3) := by decide +kernel
theorem dX2_close_27 : decode cX2_close 27 = .ok (.iload_n 1, 1) := by decide +kernel
theorem dX2_close_28 : decode cX2_close 28 = .ok (.aload_n 0, 1) := by decide +kernel
theorem dX2_close_29 : decode cX2_close 29 = .ok (.getfield 9, 3) := by decide +kernel
theorem dX2_close_32 : decode cX2_close 32 = .ok (.iload_n 2, 1) := by decide +kernel
theorem dX2_close_33 : decode cX2_close 33 = .ok (.iaload, 1) := by decide +kernel
theorem dX2_close_34 : decode cX2_close 34 = .ok (.iastore, 1) := by decide +kernel
theorem dX2_close_35 : decode cX2_close 35 = .ok (.aload_n 0, 1) := by decide +kernel
theorem dX2_close_36 : decode cX2_close 36 = .ok (.getfield 15, 3) := by decide +kernel
theorem dX2_close_39 : decode cX2_close 39 = .ok (.iload_n 1, 1) := by decide +kernel
theorem dX2_close_40 : decode cX2_close 40 = .ok (.aload_n 0, 1) := by decide +kernel
theorem dX2_close_41 : decode cX2_close 41 = .ok (.getfield 15, 3) := by decide +kernel
theorem dX2_close_44 : decode cX2_close 44 = .ok (.iload_n 2, 1) := by decide +kernel
theorem dX2_close_45 : decode cX2_close 45 = .ok (.iaload, 1) := by decide +kernel
theorem dX2_close_46 : decode cX2_close 46 = .ok (.iastore, 1) := by decide +kernel
theorem dX2_close_47 : decode cX2_close 47 = .ok (.aload_n 0, 1) := by decide +kernel
theorem dX2_close_48 : decode cX2_close 48 = .ok (.getfield 18, 3) := by decide +kernel
theorem dX2_close_51 : decode cX2_close 51 = .ok (.iload_n 1, 1) := by decide +kernel
theorem dX2_close_52 : decode cX2_close 52 = .ok (.aload_n 0, 1) := by decide +kernel
theorem dX2_close_53 : decode cX2_close 53 = .ok (.getfield 18, 3) := by decide +kernel
theorem dX2_close_56 : decode cX2_close 56 = .ok (.iload_n 2, 1) := by decide +kernel
theorem dX2_close_57 : decode cX2_close 57 = .ok (.iaload, 1) := by decide +kernel
theorem dX2_close_58 : decode cX2_close 58 = .ok (.iastore, 1) := by decide +kernel
theorem dX2_close_59 : decode cX2_close 59 = .ok (.aload_n 0, 1) := by decide +kernel
theorem dX2_close_60 : decode cX2_close 60 = .ok (.getfield 21, 3) := by decide +kernel
theorem dX2_close_63 : decode cX2_close 63 = .ok (.iload_n 1, 1) := by decide +kernel
theorem dX2_close_64 : decode cX2_close 64 = .ok (.aload_n 0, 1) := by decide +kernel
theorem dX2_close_65 : decode cX2_close 65 = .ok (.getfield 21, 3) := by decide +kernel
theorem dX2_close_68 : decode cX2_close 68 = .ok (.iload_n 2, 1) := by decide +kernel
theorem dX2_close_69 : decode cX2_close 69 = .ok (.iaload, 1) := by decide +kernel
theorem dX2_close_70 : decode cX2_close 70 = .ok (.iastore, 1) := by decide +kernel
theorem dX2_close_71 : decode cX2_close 71 = .ok (.iinc 1 1, 3) := by decide +kernel
theorem dX2_close_74 : decode cX2_close 74 = .ok (.iinc 2 1, 3) := by decide +kernel
theorem dX2_close_77 : decode cX2_close 77 = .ok (.goto (-73), 3) := by decide +kernel
theorem dX2_close_80 : decode cX2_close 80 = .ok (.aload_n 0, 1) := by decide +kernel
theorem dX2_close_81 : decode cX2_close 81 = .ok (.iload_n 1, 1) := by decide +kernel
theorem dX2_close_82 : decode cX2_close 82 = .ok (.putfield 48, 3) := by decide +kernel
theorem dX2_close_85 : decode cX2_close 85 = .ok (.return_, 1) := by decide +kernel
theorem dX2_whereCaught_0 : decode cX2_whereCaught 0 = .ok (.aload_n 0, 1) := by decide +kernel
theorem dX2_whereCaught_1 : decode cX2_whereCaught 1 = .ok (.getfield 36, 3) := by decide +kernel
theorem dX2_whereCaught_4 : decode cX2_whereCaught 4 = .ok (.getfield 111, 3) := by decide +kernel
theorem dX2_whereCaught_7 : decode cX2_whereCaught 7 = .ok (.iload_n 1, 1) := by decide +kernel
theorem dX2_whereCaught_8 : decode cX2_whereCaught 8 = .ok (.iaload, 1) := by decide +kernel
theorem dX2_whereCaught_9 : decode cX2_whereCaught 9 = .ok (.istore_n 2, 1) := by decide +kernel
theorem dX2_whereCaught_10 : decode cX2_whereCaught 10 = .ok (.aload_n 0, 1) := by decide +kernel
theorem dX2_whereCaught_11 : decode cX2_whereCaught 11 = .ok (.getfield 40, 3) := by decide +kernel
theorem dX2_whereCaught_14 : decode cX2_whereCaught 14 = .ok (.getfield 136, 3) := by decide +kernel
theorem dX2_whereCaught_17 : decode cX2_whereCaught 17 = .ok (.aload_n 0, 1) := by decide +kernel
theorem dX2_whereCaught_18 : decode cX2_whereCaught 18 = .ok (.getfield 36, 3) := by decide +kernel
theorem dX2_whereCaught_21 : decode cX2_whereCaught 21 = .ok (.iload_n 1, 1) := by decide +kernel
theorem dX2_whereCaught_22 : decode cX2_whereCaught 22 = .ok (.iload_n 2, 1) := by decide +kernel
theorem dX2_whereCaught_23 : decode cX2_whereCaught 23 = .ok (.invokevirtual 128, 3) := by decide +kernel
theorem dX2_whereCaught_26 : decode cX2_whereCaught 26 = .ok (.baload, 1) := by decide +kernel
theorem dX2_whereCaught_27 : decode cX2_whereCaught 27 = .ok (.istore_n 3, 1) := by decide +kernel
theorem dX2_whereCaught_28 : decode cX2_whereCaught 28 = .ok (.iload_n 3, 1) := by decide +kernel
theorem dX2_whereCaught_29 : decode cX2_whereCaught 29 = .ok (.ifCond .eq 12, 3) := by decide +kernel
theorem dX2_whereCaught_32 : decode cX2_whereCaught 32 = .ok (.aload_n 0, 1) := by decide +kernel
theorem dX2_whereCaught_33 : decode cX2_whereCaught 33 = .ok (.getfield 27, 3) := by decide +kernel
theorem dX2_whereCaught_36 : decode cX2_whereCaught 36 = .ok (.iload_n 2, 1) := by decide +kernel
theorem dX2_whereCaught_37 : decode cX2_whereCaught 37 = .ok (.iaload, 1) := by decide +kernel
theorem dX2_whereCaught_38 : decode cX2_whereCaught 38 = .ok (.goto 11, 3) := by decide +kernel
theorem dX2_whereCaught_41 : decode cX2_whereCaught 41 = .ok (.aload_n 0, 1) := by decide +kernel
theorem dX2_whereCaught_42 : decode cX2_whereCaught 42 = .ok (.getfield 30, 3) := by decide +kernel
theorem dX2_whereCaught_45 : decode cX2_whereCaught 45 = .ok (.iload_n 2, 1) := by decide +kernel
theorem dX2_whereCaught_46 : decode cX2_whereCaught 46 = .ok (.iaload, 1) := by decide +kernel
theorem dX2_whereCaught_47 : decode cX2_whereCaught 47 = .ok (.iconst 1, 1) := by decide +kernel
theorem dX2_whereCaught_48 : decode cX2_whereCaught 48 = .ok (.iadd, 1) := by decide +kernel
theorem dX2_whereCaught_49 : decode cX2_whereCaught 49 = .ok (.ireturn, 1) := by decide +kernel
theorem dX2_deepest_0 : decode cX2_deepest 0 = .ok (.iconst 0, 1) := by decide +kernel
theorem dX2_deepest_1 : decode cX2_deepest 1 = .ok (.istore_n 1, 1) := by decide +kernel
theorem dX2_deepest_2 : decode cX2_deepest 2 = .ok (.iconst 0, 1) := by decide +kernel
theorem dX2_deepest_3 : decode cX2_deepest 3 = .ok (.istore_n 2, 1) := by decide +kernel
theorem dX2_deepest_4 : decode cX2_deepest 4 = .ok (.iload_n 2, 1) := by decide +kernel
theorem dX2_deepest_5 : decode cX2_deepest 5 = .ok (.aload_n 0, 1) := by decide +kernel
theorem dX2_deepest_6 : decode cX2_deepest 6 = .ok (.getfield 48, 3) := by decide +kernel
theorem dX2_deepest_9 : decode cX2_deepest 9 = .ok (.if_icmp .ge 20, 3) := by decide +kernel
theorem dX2_deepest_12 : decode cX2_deepest 12 = .ok (.iload_n 1, 1) := by decide +kernel
theorem dX2_deepest_13 : decode cX2_deepest 13 = .ok (.aload_n 0, 1) := by decide +kernel
theorem dX2_deepest_14 : decode cX2_deepest 14 = .ok (.getfield 18, 3) := by decide +kernel
theorem dX2_deepest_17 : decode cX2_deepest 17 = .ok (.iload_n 2, 1) := by decide +kernel
theorem dX2_deepest_18 : decode cX2_deepest 18 = .ok (.iaload, 1) := by decide +kernel
theorem dX2_deepest_19 : decode cX2_deepest 19 = .ok (.invokestatic 146, 3) := by decide +kernel
theorem dX2_deepest_22 : decode cX2_deepest 22 = .ok (.istore_n 1, 1) := by decide +kernel
theorem dX2_deepest_23 : decode cX2_deepest 23 = .ok (.iinc 2 1, 3) := by decide +kernel
theorem dX2_deepest_26 : decode cX2_deepest 26 = .ok (.goto (-22), 3) := by decide +kernel
theorem dX2_deepest_29 : decode cX2_deepest 29 = .ok (.iload_n 1, 1) := by decide +kernel
theorem dX2_deepest_30 : decode cX2_deepest 30 = .ok (.ireturn, 1) := by decide +kernel
theorem dX2_ofKind_0 : decode cX2_ofKind 0 = .ok (.iconst 0, 1) := by decide +kernel
theorem dX2_ofKind_1 : decode cX2_ofKind 1 = .ok (.istore_n 2, 1) := by decide +kernel
theorem dX2_ofKind_2 : decode cX2_ofKind 2 = .ok (.iconst 0, 1) := by decide +kernel
theorem dX2_ofKind_3 : decode cX2_ofKind 3 = .ok (.istore_n 3, 1) := by decide +kernel
theorem dX2_ofKind_4 : decode cX2_ofKind 4 = .ok (.iload_n 3, 1) := by decide +kernel
theorem dX2_ofKind_5 : decode cX2_ofKind 5 = .ok (.aload_n 0, 1) := by decide +kernel
theorem dX2_ofKind_6 : decode cX2_ofKind 6 = .ok (.getfield 48, 3) := by decide +kernel
theorem dX2_ofKind_9 : decode cX2_ofKind 9 = .ok (.if_icmp .ge 22, 3) := by decide +kernel
theorem dX2_ofKind_12 : decode cX2_ofKind 12 = .ok (.aload_n 0, 1) := by decide +kernel
theorem dX2_ofKind_13 : decode cX2_ofKind 13 = .ok (.getfield 9, 3) := by decide +kernel
theorem dX2_ofKind_16 : decode cX2_ofKind 16 = .ok (.iload_n 3, 1) := by decide +kernel
theorem dX2_ofKind_17 : decode cX2_ofKind 17 = .ok (.iaload, 1) := by decide +kernel
theorem dX2_ofKind_18 : decode cX2_ofKind 18 = .ok (.iload_n 1, 1) := by decide +kernel
theorem dX2_ofKind_19 : decode cX2_ofKind 19 = .ok (.if_icmp .ne 6, 3) := by decide +kernel
theorem dX2_ofKind_22 : decode cX2_ofKind 22 = .ok (.iinc 2 1, 3) := by decide +kernel
theorem dX2_ofKind_25 : decode cX2_ofKind 25 = .ok (.iinc 3 1, 3) := by decide +kernel
theorem dX2_ofKind_28 : decode cX2_ofKind 28 = .ok (.goto (-24), 3) := by decide +kernel
theorem dX2_ofKind_31 : decode cX2_ofKind 31 = .ok (.iload_n 2, 1) := by decide +kernel
theorem dX2_ofKind_32 : decode cX2_ofKind 32 = .ok (.ireturn, 1) := by decide +kernel
theorem dX3_init_0 : decode cX3_init 0 = .ok (.aload_n 0, 1) := by decide +kernel
theorem dX3_init_1 : decode cX3_init 1 = .ok (.invokespecial 3, 3) := by decide +kernel
theorem dX3_init_4 : decode cX3_init 4 = .ok (.aload_n 0, 1) := by decide +kernel
theorem dX3_init_5 : decode cX3_init 5 = .ok (.bipush 40, 2) := by decide +kernel
theorem dX3_init_7 : decode cX3_init 7 = .ok (.newarray .int, 2) := by decide +kernel
theorem dX3_init_9 : decode cX3_init 9 = .ok (.putfield 9, 3) := by decide +kernel
theorem dX3_init_12 : decode cX3_init 12 = .ok (.aload_n 0, 1) := by decide +kernel
theorem dX3_init_13 : decode cX3_init 13 = .ok (.bipush 40, 2) := by decide +kernel
theorem dX3_init_15 : decode cX3_init 15 = .ok (.newarray .int, 2) := by decide +kernel
theorem dX3_init_17 : decode cX3_init 17 = .ok (.putfield 15, 3) := by decide +kernel
theorem dX3_init_20 : decode cX3_init 20 = .ok (.aload_n 0, 1) := by decide +kernel
theorem dX3_init_21 : decode cX3_init 21 = .ok (.bipush 40, 2) := by decide +kernel
theorem dX3_init_23 : decode cX3_init 23 = .ok (.newarray .int, 2) := by decide +kernel
theorem dX3_init_25 : decode cX3_init 25 = .ok (.putfield 18, 3) := by decide +kernel
theorem dX3_init_28 : decode cX3_init 28 = .ok (.aload_n 0, 1) := by decide +kernel
theorem dX3_init_29 : decode cX3_init 29 = .ok (.iconst 3, 1) := by decide +kernel
theorem dX3_init_30 : decode cX3_init 30 = .ok (.newarray .int, 2) := by decide +kernel
theorem dX3_init_32 : decode cX3_init 32 = .ok (.putfield 21, 3) := by decide +kernel
theorem dX3_init_35 : decode cX3_init 35 = .ok (.aload_n 0, 1) := by decide +kernel
theorem dX3_init_36 : decode cX3_init 36 = .ok (.iconst 3, 1) := by decide +kernel
theorem dX3_init_37 : decode cX3_init 37 = .ok (.newarray .int, 2) := by decide +kernel
theorem dX3_init_39 : decode cX3_init 39 = .ok (.putfield 24, 3) := by decide +kernel
theorem dX3_init_42 : decode cX3_init 42 = .ok (.aload_n 0, 1) := by decide +kernel
theorem dX3_init_43 : decode cX3_init 43 = .ok (.iconst 3, 1) := by decide +kernel
theorem dX3_init_44 : decode cX3_init 44 = .ok (.newarray .int, 2) := by decide +kernel
theorem dX3_init_46 : decode cX3_init 46 = .ok (.putfield 27, 3) := by decide +kernel
theorem dX3_init_49 : decode cX3_init 49 = .ok (.return_, 1) := by decide +kernel
theorem dX3_copy_0 : decode cX3_copy 0 = .ok (.aload_n 0, 1) := by decide +kernel
theorem dX3_copy_1 : decode cX3_copy 1 = .ok (.aload_n 1, 1) := by decide +kernel
theorem dX3_copy_2 : decode cX3_copy 2 = .ok (.getfield 30, 3) := by decide +kernel
theorem dX3_copy_5 : decode cX3_copy 5 = .ok (.putfield 30, 3) := by decide +kernel
theorem dX3_copy_8 : decode cX3_copy 8 = .ok (.aload_n 0, 1) := by decide +kernel
theorem dX3_copy_9 : decode cX3_copy 9 = .ok (.aload_n 1, 1) := by decide +kernel
theorem dX3_copy_10 : decode cX3_copy 10 = .ok (.getfield 34, 3) := by decide +kernel
theorem dX3_copy_13 : decode cX3_copy 13 = .ok (.putfield 34, 3) := by decide +kernel
theorem dX3_copy_16 : decode cX3_copy 16 = .ok (.aload_n 1, 1) := by decide +kernel
theorem dX3_copy_17 : decode cX3_copy 17 = .ok (.getfield 9, 3) := by decide +kernel
theorem dX3_copy_20 : decode cX3_copy 20 = .ok (.iconst 0, 1) := by decide +kernel
theorem dX3_copy_21 : decode cX3_copy 21 = .ok (.aload_n 0, 1) := by decide +kernel
theorem dX3_copy_22 : decode cX3_copy 22 = .ok (.getfield 9, 3) := by decide +kernel
theorem dX3_copy_25 : decode cX3_copy 25 = .ok (.iconst 0, 1) := by decide +kernel
theorem dX3_copy_26 : decode cX3_copy 26 = .ok (.bipush 40, 2) := by decide +kernel
theorem dX3_copy_28 : decode cX3_copy 28 = .ok (.invokestatic 37, 3) := by decide +kernel
theorem dX3_copy_31 : decode cX3_copy 31 = .ok (.aload_n 1, 1) := by decide +kernel
theorem dX3_copy_32 : decode cX3_copy 32 = .ok (.getfield 15, 3) := by decide +kernel
theorem dX3_copy_35 : decode cX3_copy 35 = .ok (.iconst 0, 1) := by decide +kernel
theorem dX3_copy_36 : decode cX3_copy 36 = .ok (.aload_n 0, 1) := by decide +kernel
theorem dX3_copy_37 : decode cX3_copy 37 = .ok (.getfield 15, 3) := by decide +kernel
theorem dX3_copy_40 : decode cX3_copy 40 = .ok (.iconst 0, 1) := by decide +kernel
theorem dX3_copy_41 : decode cX3_copy 41 = .ok (.bipush 40, 2) := by decide +kernel
theorem dX3_copy_43 : decode cX3_copy 43 = .ok (.invokestatic 37, 3) := by decide +kernel
theorem dX3_copy_46 : decode cX3_copy 46 = .ok (.aload_n 1, 1) := by decide +kernel
theorem dX3_copy_47 : decode cX3_copy 47 = .ok (.getfield 18, 3) := by decide +kernel
theorem dX3_copy_50 : decode cX3_copy 50 = .ok (.iconst 0, 1) := by decide +kernel
theorem dX3_copy_51 : decode cX3_copy 51 = .ok (.aload_n 0, 1) := by decide +kernel
theorem dX3_copy_52 : decode cX3_copy 52 = .ok (.getfield 18, 3) := by decide +kernel
theorem dX3_copy_55 : decode cX3_copy 55 = .ok (.iconst 0, 1) := by decide +kernel
theorem dX3_copy_56 : decode cX3_copy 56 = .ok (.bipush 40, 2) := by decide +kernel
theorem dX3_copy_58 : decode cX3_copy 58 = .ok (.invokestatic 37, 3) := by decide +kernel
theorem dX3_copy_61 : decode cX3_copy 61 = .ok (.aload_n 1, 1) := by decide +kernel
theorem dX3_copy_62 : decode cX3_copy 62 = .ok (.getfield 21, 3) := by decide +kernel
theorem dX3_copy_65 : decode cX3_copy 65 = .ok (.iconst 0, 1) := by decide +kernel
theorem dX3_copy_66 : decode cX3_copy 66 = .ok (.aload_n 0, 1) := by decide +kernel
theorem dX3_copy_67 : decode cX3_copy 67 = .ok (.getfield 21, 3) := by decide +kernel
theorem dX3_copy_70 : decode cX3_copy 70 = .ok (.iconst 0, 1) := by decide +kernel
theorem dX3_copy_71 : decode cX3_copy 71 = .ok (.iconst 3, 1) := by decide +kernel
theorem dX3_copy_72 : decode cX3_copy 72 = .ok (.invokestatic 37, 3) := by decide +kernel
theorem dX3_copy_75 : decode cX3_copy 75 = .ok (.aload_n 1, 1) := by decide +kernel
theorem dX3_copy_76 : decode cX3_copy 76 = .ok (.getfield 24, 3) := by decide +kernel
theorem dX3_copy_79 : decode cX3_copy 79 = .ok (.iconst 0, 1) := by decide +kernel
theorem dX3_copy_80 : decode cX3_copy 80 = .ok (.aload_n 0, 1) := by decide +kernel
theorem dX3_copy_81 : decode cX3_copy 81 = .ok (.getfield 24, 3) := by decide +kernel
theorem dX3_copy_84 : decode cX3_copy 84 = .ok (.iconst 0, 1) := by decide +kernel
theorem dX3_copy_85 : decode cX3_copy 85 = .ok (.iconst 3, 1) := by decide +kernel
theorem dX3_copy_86 : decode cX3_copy 86 = .ok (.invokestatic 37, 3) := by decide +kernel
theorem dX3_copy_89 : decode cX3_copy 89 = .ok (.aload_n 1, 1) := by decide +kernel
theorem dX3_copy_90 : decode cX3_copy 90 = .ok (.getfield 27, 3) := by decide +kernel
theorem dX3_copy_93 : decode cX3_copy 93 = .ok (.iconst 0, 1) := by decide +kernel
theorem dX3_copy_94 : decode cX3_copy 94 = .ok (.aload_n 0, 1) := by decide +kernel
theorem dX3_copy_95 : decode cX3_copy 95 = .ok (.getfield 27, 3) := by decide +kernel
theorem dX3_copy_98 : decode cX3_copy 98 = .ok (.iconst 0, 1) := by decide +kernel
theorem dX3_copy_99 : decode cX3_copy 99 = .ok (.iconst 3, 1) := by decide +kernel
theorem dX3_copy_100 : decode cX3_copy 100 = .ok (.invokestatic 37, 3) := by decide +kernel
theorem dX3_copy_103 : decode cX3_copy 103 = .ok (.return_, 1) := by decide +kernel
theorem dX3_judge_0 : decode cX3_judge 0 = .ok (.aload_n 0, 1) := by decide +kernel
theorem dX3_judge_1 : decode cX3_judge 1 = .ok (.invokevirtual 43, 3) := by decide +kernel
theorem dX3_judge_4 : decode cX3_judge 4 = .ok (.ifCond .ne 6, 3) := by decide +kernel
theorem dX3_judge_7 : decode cX3_judge 7 = .ok (.bipush (-2), 2) := by decide +kernel
theorem dX3_judge_9 : decode cX3_judge 9 = .ok (.ireturn, 1) := by decide +kernel
theorem dX3_judge_10 : decode cX3_judge 10 = .ok (.iconst 0, 1) := by decide +kernel
theorem dX3_judge_11 : decode cX3_judge 11 = .ok (.istore_n 1, 1) := by decide +kernel
theorem dX3_judge_12 : decode cX3_judge 12 = .ok (.iload_n 1, 1) := by decide +kernel
theorem dX3_judge_13 : decode cX3_judge 13 = .ok (.aload_n 0, 1) := by decide +kernel
theorem dX3_judge_14 : decode cX3_judge 14 = .ok (.getfield 30, 3) := by decide +kernel
theorem dX3_judge_17 : decode cX3_judge 17 = .ok (.if_icmp .ge 16, 3) := by decide +kernel
theorem dX3_judge_20 : decode cX3_judge 20 = .ok (.aload_n 0, 1) := by decide +kernel
theorem dX3_judge_21 : decode cX3_judge 21 = .ok (.getfield 18, 3) := by decide +kernel
theorem dX3_judge_24 : decode cX3_judge 24 = .ok (.iload_n 1, 1) := by decide +kernel
theorem dX3_judge_25 : decode cX3_judge 25 = .ok (.iconst (-1), 1) := by decide +kernel
theorem dX3_judge_26 : decode cX3_judge 26 = .ok (.iastore, 1) := by decide +kernel
theorem dX3_judge_27 : decode cX3_judge 27 = .ok (.iinc 1 1, 3) := by decide +kernel
theorem dX3_judge_30 : decode cX3_judge 30 = .ok (.goto (-18), 3) := by decide +kernel
theorem dX3_judge_33 : decode cX3_judge 33 = .ok (.aload_n 0, 1) := by decide +kernel
theorem dX3_judge_34 : decode cX3_judge 34 = .ok (.getfield 18, 3) := by decide +kernel
theorem dX3_judge_37 : decode cX3_judge 37 = .ok (.iconst 0, 1) := by decide +kernel
theorem dX3_judge_38 : decode cX3_judge 38 = .ok (.iconst 0, 1) := by decide +kernel
theorem dX3_judge_39 : decode cX3_judge 39 = .ok (.iastore, 1) := by decide +kernel
theorem dX3_judge_40 : decode cX3_judge 40 = .ok (.lconst 0, 1) := by decide +kernel
theorem dX3_judge_41 : decode cX3_judge 41 = .ok (.lstore_n 1, 1) := by decide +kernel
theorem dX3_judge_42 : decode cX3_judge 42 = .ok (.iconst 0, 1) := by decide +kernel
theorem dX3_judge_43 : decode cX3_judge 43 = .ok (.istore_n 3, 1) := by decide +kernel
theorem dX3_judge_44 : decode cX3_judge 44 = .ok (.iload_n 3, 1) := by decide +kernel
theorem dX3_judge_45 : decode cX3_judge 45 = .ok (.aload_n 0, 1) := by decide +kernel
theorem dX3_judge_46 : decode cX3_judge 46 = .ok (.getfield 30, 3) := by decide +kernel
theorem dX3_judge_49 : decode cX3_judge 49 = .ok (.if_icmp .ge 47, 3) := by decide +kernel
theorem dX3_judge_52 : decode cX3_judge 52 = .ok (.aload_n 0, 1) := by decide +kernel
theorem dX3_judge_53 : decode cX3_judge 53 = .ok (.lload_n 1, 1) := by decide +kernel
theorem dX3_judge_54 : decode cX3_judge 54 = .ok (.invokevirtual 47, 3) := by decide +kernel
theorem dX3_judge_57 : decode cX3_judge 57 = .ok (.istore 4, 2) := by decide +kernel
theorem dX3_judge_59 : decode cX3_judge 59 = .ok (.iload 4, 2) := by decide +kernel
theorem dX3_judge_61 : decode cX3_judge 61 = .ok (.iconst (-1), 1) := by decide +kernel
theorem dX3_judge_62 : decode cX3_judge 62 = .ok (.if_icmp .ne 5, 3) := by decide +kernel
theorem dX3_judge_65 : decode cX3_judge 65 = .ok (.iconst 0, 1) := by decide +kernel
theorem dX3_judge_66 : decode cX3_judge 66 = .ok (.ireturn, 1) := by decide +kernel
theorem dX3_judge_67 : decode cX3_judge 67 = .ok (.lload_n 1, 1) := by decide +kernel
theorem dX3_judge_68 : decode cX3_judge 68 = .ok (.lconst 1, 1) := by decide +kernel
theorem dX3_judge_69 : decode cX3_judge 69 = .ok (.iload 4, 2) := by decide +kernel
theorem dX3_judge_71 : decode cX3_judge 71 = .ok (.lshl, 1) := by decide +kernel
theorem dX3_judge_72 : decode cX3_judge 72 = .ok (.lor, 1) := by decide +kernel
theorem dX3_judge_73 : decode cX3_judge 73 = .ok (.lstore_n 1, 1) := by decide +kernel
theorem dX3_judge_74 : decode cX3_judge 74 = .ok (.aload_n 0, 1) := by decide +kernel
theorem dX3_judge_75 : decode cX3_judge 75 = .ok (.iload 4, 2) := by decide +kernel
theorem dX3_judge_77 : decode cX3_judge 77 = .ok (.invokevirtual 51, 3) := by decide +kernel
theorem dX3_judge_80 : decode cX3_judge 80 = .ok (.istore 5, 2) := by decide +kernel
theorem dX3_judge_82 : decode cX3_judge 82 = .ok (.iload 5, 2) := by decide +kernel
theorem dX3_judge_84 : decode cX3_judge 84 = .ok (.ifCond .eq 6, 3) := by decide +kernel
theorem dX3_judge_87 : decode cX3_judge 87 = .ok (.iload 5, 2) := by decide +kernel
theorem dX3_judge_89 : decode cX3_judge 89 = .ok (.ireturn, 1) := by decide +kernel
theorem dX3_judge_90 : decode cX3_judge 90 = .ok (.iinc 3 1, 3) := by decide +kernel
theorem dX3_judge_93 : decode cX3_judge 93 = .ok (.goto (-49), 3) := by decide +kernel
theorem dX3_judge_96 : decode cX3_judge 96 = .ok (.iconst 0, 1) := by decide +kernel
theorem dX3_judge_97 : decode cX3_judge 97 = .ok (.ireturn, 1) := by decide +kernel
theorem dX3_leadsInside_0 : decode cX3_leadsInside 0 = .ok (.iconst 0, 1) := by decide +kernel
theorem dX3_leadsInside_1 : decode cX3_leadsInside 1 = .ok (.istore_n 1, 1) := by decide +kernel
theorem dX3_leadsInside_2 : decode cX3_leadsInside 2 = .ok (.iload_n 1, 1) := by decide +kernel
theorem dX3_leadsInside_3 : decode cX3_leadsInside 3 = .ok (.aload_n 0, 1) := by decide +kernel
theorem dX3_leadsInside_4 : decode cX3_leadsInside 4 = .ok (.getfield 30, 3) := by decide +kernel
theorem dX3_leadsInside_7 : decode cX3_leadsInside 7 = .ok (.if_icmp .ge 32, 3) := by decide +kernel
theorem dX3_leadsInside_10 : decode cX3_leadsInside 10 = .ok (.aload_n 0, 1) := by decide +kernel
theorem dX3_leadsInside_11 : decode cX3_leadsInside 11 = .ok (.iload_n 1, 1) := by decide +kernel
theorem dX3_leadsInside_12 : decode cX3_leadsInside 12 = .ok (.invokevirtual 55, 3) := by decide +kernel
theorem dX3_leadsInside_15 : decode cX3_leadsInside 15 = .ok (.ifCond .eq 18, 3) := by decide +kernel
theorem dX3_leadsInside_18 : decode cX3_leadsInside 18 = .ok (.aload_n 0, 1) := by decide +kernel
theorem dX3_leadsInside_19 : decode cX3_leadsInside 19 = .ok (.getfield 15, 3) := by decide +kernel
theorem dX3_leadsInside_22 : decode cX3_leadsInside 22 = .ok (.iload_n 1, 1) := by decide +kernel
theorem dX3_leadsInside_23 : decode cX3_leadsInside 23 = .ok (.iaload, 1) := by decide +kernel
theorem dX3_leadsInside_24 : decode cX3_leadsInside 24 = .ok (.aload_n 0, 1) := by decide +kernel
theorem dX3_leadsInside_25 : decode cX3_leadsInside 25 = .ok (.getfield 30, 3) := by decide +kernel
theorem dX3_leadsInside_28 : decode cX3_leadsInside 28 = .ok (.if_icmp .lt 5, 3) := by decide +kernel
theorem dX3_leadsInside_31 : decode cX3_leadsInside 31 = .ok (.iconst 0, 1) := by decide +kernel
theorem dX3_leadsInside_32 : decode cX3_leadsInside 32 = .ok (.ireturn, 1) := by decide +kernel
theorem dX3_leadsInside_33 : decode cX3_leadsInside 33 = .ok (.iinc 1 1, 3) := by decide +kernel
theorem dX3_leadsInside_36 : decode cX3_leadsInside 36 = .ok (.goto (-34), 3) := by decide +kernel
theorem dX3_leadsInside_39 : decode cX3_leadsInside 39 = .ok (.iconst 0, 1) := by decide +kernel
theorem dX3_leadsInside_40 : decode cX3_leadsInside 40 = .ok (.istore_n 1, 1) := by decide +kernel
theorem dX3_leadsInside_41 : decode cX3_leadsInside 41 = .ok (.iload_n 1, 1) := by decide +kernel
theorem dX3_leadsInside_42 : decode cX3_leadsInside 42 = .ok (.aload_n 0, 1) := by decide +kernel
theorem dX3_leadsInside_43 : decode cX3_leadsInside 43 = .ok (.getfield 34, 3) := by decide +kernel
theorem dX3_leadsInside_46 : decode cX3_leadsInside 46 = .ok (.if_icmp .ge 52, 3) := by decide +kernel
theorem dX3_leadsInside_49 : decode cX3_leadsInside 49 = .ok (.aload_n 0, 1) := by decide +kernel
theorem dX3_leadsInside_50 : decode cX3_leadsInside 50 = .ok (.getfield 21, 3) := by decide +kernel
theorem dX3_leadsInside_53 : decode cX3_leadsInside 53 = .ok (.iload_n 1, 1) := by decide +kernel
theorem dX3_leadsInside_54 : decode cX3_leadsInside 54 = .ok (.iaload, 1) := by decide +kernel
theorem dX3_leadsInside_55 : decode cX3_leadsInside 55 = .ok (.aload_n 0, 1) := by decide +kernel
theorem dX3_leadsInside_56 : decode cX3_leadsInside 56 = .ok (.getfield 24, 3) := by decide +kernel
theorem dX3_leadsInside_59 : decode cX3_leadsInside 59 = .ok (.iload_n 1, 1) := by decide +kernel
theorem dX3_leadsInside_60 : decode cX3_leadsInside 60 = .ok (.iaload, 1) := by decide +kernel
theorem dX3_leadsInside_61 : decode cX3_leadsInside 61 = .ok (.if_icmp .ge 29, 3) := by decide +kernel
theorem dX3_leadsInside_64 : decode cX3_leadsInside 64 = .ok (.aload_n 0, 1) := by decide +kernel
theorem dX3_leadsInside_65 : decode cX3_leadsInside 65 = .ok (.getfield 24, 3) := by decide +kernel
theorem dX3_leadsInside_68 : decode cX3_leadsInside 68 = .ok (.iload_n 1, 1) := by decide +kernel
theorem dX3_leadsInside_69 : decode cX3_leadsInside 69 = .ok (.iaload, 1) := by decide +kernel
theorem dX3_leadsInside_70 : decode cX3_leadsInside 70 = .ok (.aload_n 0, 1) := by decide +kernel
theorem dX3_leadsInside_71 : decode cX3_leadsInside 71 = .ok (.getfield 30, 3) := by decide +kernel
theorem dX3_leadsInside_74 : decode cX3_leadsInside 74 = .ok (.if_icmp .gt 16, 3) := by decide +kernel
theorem dX3_leadsInside_77 : decode cX3_leadsInside 77 = .ok (.aload_n 0, 1) := by decide +kernel
theorem dX3_leadsInside_78 : decode cX3_leadsInside 78 = .ok (.getfield 27, 3) := by decide +kernel
theorem dX3_leadsInside_81 : decode cX3_leadsInside 81 = .ok (.iload_n 1, 1) := by decide +kernel
theorem dX3_leadsInside_82 : decode cX3_leadsInside 82 = .ok (.iaload, 1) := by decide +kernel
theorem dX3_leadsInside_83 : decode cX3_leadsInside 83 = .ok (.aload_n 0, 1) := by decide +kernel
theorem dX3_leadsInside_84 : decode cX3_leadsInside 84 = .ok (.getfield 30, 3) := by decide +kernel
theorem dX3_leadsInside_87 : decode cX3_leadsInside 87 = .ok (.if_icmp .lt 5, 3) := by decide +kernel
theorem dX3_leadsInside_90 : decode cX3_leadsInside 90 = .ok (.iconst 0, 1) := by decide +kernel
theorem dX3_leadsInside_91 : decode cX3_leadsInside 91 = .ok (.ireturn, 1) := by decide +kernel
theorem dX3_leadsInside_92 : decode cX3_leadsInside 92 = .ok (.iinc 1 1, 3) := by decide +kernel
theorem dX3_leadsInside_95 : decode cX3_leadsInside 95 = .ok (.goto (-54), 3) := by decide +kernel
theorem dX3_leadsInside_98 : decode cX3_leadsInside 98 = .ok (.iconst 1, 1) := by decide +kernel
theorem dX3_leadsInside_99 : decode cX3_leadsInside 99 = .ok (.ireturn, 1) := by decide +kernel
theorem dX3_lowestOpen_0 : decode cX3_lowestOpen 0 = .ok (.iconst 0, 1) := by decide +kernel
theorem dX3_lowestOpen_1 : decode cX3_lowestOpen 1 = .ok (.istore_n 3, 1) := by decide +kernel
theorem dX3_lowestOpen_2 : decode cX3_lowestOpen 2 = .ok (.iload_n 3, 1) := by decide +kernel
theorem dX3_lowestOpen_3 : decode cX3_lowestOpen 3 = .ok (.aload_n 0, 1) := by decide +kernel
theorem dX3_lowestOpen_4 : decode cX3_lowestOpen 4 = .ok (.getfield 30, 3) := by decide +kernel
theorem dX3_lowestOpen_7 : decode cX3_lowestOpen 7 = .ok (.if_icmp .ge 29, 3) := by decide +kernel
theorem dX3_lowestOpen_10 : decode cX3_lowestOpen 10 = .ok (.aload_n 0, 1) := by decide +kernel
theorem dX3_lowestOpen_11 : decode cX3_lowestOpen 11 = .ok (.getfield 18, 3) := by decide +kernel
theorem dX3_lowestOpen_14 : decode cX3_lowestOpen 14 = .ok (.iload_n 3, 1) := by decide +kernel
theorem dX3_lowestOpen_15 : decode cX3_lowestOpen 15 = .ok (.iaload, 1) := by decide +kernel
theorem dX3_lowestOpen_16 : decode cX3_lowestOpen 16 = .ok (.iconst (-1), 1) := by decide +kernel
theorem dX3_lowestOpen_17 : decode cX3_lowestOpen 17 = .ok (.if_icmp .eq 13, 3) := by decide +kernel
theorem dX3_lowestOpen_20 : decode cX3_lowestOpen 20 = .ok (.lload_n 1, 1) := by decide +kernel
theorem dX3_lowestOpen_21 : decode cX3_lowestOpen 21 = .ok (.iload_n 3, 1) := by decide +kernel
theorem dX3_lowestOpen_22 : decode cX3_lowestOpen 22 = .ok (.invokestatic 59, 3) := by decide +kernel
theorem dX3_lowestOpen_25 : decode cX3_lowestOpen 25 = .ok (.ifCond .ne 5, 3) := by decide +kernel
theorem dX3_lowestOpen_28 : decode cX3_lowestOpen 28 = .ok (.iload_n 3, 1) := by decide +kernel
theorem dX3_lowestOpen_29 : decode cX3_lowestOpen 29 = .ok (.ireturn, 1) := by decide +kernel
theorem dX3_lowestOpen_30 : decode cX3_lowestOpen 30 = .ok (.iinc 3 1, 3) := by decide +kernel
theorem dX3_lowestOpen_33 : decode cX3_lowestOpen 33 = .ok (.goto (-31), 3) := by decide +kernel
theorem dX3_lowestOpen_36 : decode cX3_lowestOpen 36 = .ok (.iconst (-1), 1) := by decide +kernel
theorem dX3_lowestOpen_37 : decode cX3_lowestOpen 37 = .ok (.ireturn, 1) := by decide +kernel
theorem dX3_goOver_0 : decode cX3_goOver 0 = .ok (.aload_n 0, 1) := by decide +kernel
theorem dX3_goOver_1 : decode cX3_goOver 1 = .ok (.getfield 18, 3) := by decide +kernel
theorem dX3_goOver_4 : decode cX3_goOver 4 = .ok (.iload_n 1, 1) := by decide +kernel
theorem dX3_goOver_5 : decode cX3_goOver 5 = .ok (.iaload, 1) := by decide +kernel
theorem dX3_goOver_6 : decode cX3_goOver 6 = .ok (.aload_n 0, 1) := by decide +kernel
theorem dX3_goOver_7 : decode cX3_goOver 7 = .ok (.getfield 9, 3) := by decide +kernel
theorem dX3_goOver_10 : decode cX3_goOver 10 = .ok (.iload_n 1, 1) := by decide +kernel
theorem dX3_goOver_11 : decode cX3_goOver 11 = .ok (.iaload, 1) := by decide +kernel
theorem dX3_goOver_12 : decode cX3_goOver 12 = .ok (.invokestatic 63, 3) := by decide +kernel
theorem dX3_goOver_15 : decode cX3_goOver 15 = .ok (.if_icmp .ge 6, 3) := by decide +kernel
theorem dX3_goOver_18 : decode cX3_goOver 18 = .ok (.bipush (-4), 2) := by decide +kernel
theorem dX3_goOver_20 : decode cX3_goOver 20 = .ok (.ireturn, 1) := by decide +kernel
theorem dX3_goOver_21 : decode cX3_goOver 21 = .ok (.aload_n 0, 1) := by decide +kernel
theorem dX3_goOver_22 : decode cX3_goOver 22 = .ok (.iload_n 1, 1) := by decide +kernel
theorem dX3_goOver_23 : decode cX3_goOver 23 = .ok (.invokevirtual 66, 3) := by decide +kernel
theorem dX3_goOver_26 : decode cX3_goOver 26 = .ok (.istore_n 2, 1) := by decide +kernel
theorem dX3_goOver_27 : decode cX3_goOver 27 = .ok (.iload_n 2, 1) := by decide +kernel
theorem dX3_goOver_28 : decode cX3_goOver 28 = .ok (.bipush 6, 2) := by decide +kernel
theorem dX3_goOver_30 : decode cX3_goOver 30 = .ok (.if_icmp .le 6, 3) := by decide +kernel
theorem dX3_goOver_33 : decode cX3_goOver 33 = .ok (.bipush (-5), 2) := by decide +kernel
theorem dX3_goOver_35 : decode cX3_goOver 35 = .ok (.ireturn, 1) := by decide +kernel
theorem dX3_goOver_36 : decode cX3_goOver 36 = .ok (.aload_n 0, 1) := by decide +kernel
theorem dX3_goOver_37 : decode cX3_goOver 37 = .ok (.iload_n 1, 1) := by decide +kernel
theorem dX3_goOver_38 : decode cX3_goOver 38 = .ok (.invokevirtual 69, 3) := by decide +kernel
theorem dX3_goOver_41 : decode cX3_goOver 41 = .ok (.ifCond .eq 30, 3) := by decide +kernel
theorem dX3_goOver_44 : decode cX3_goOver 44 = .ok (.iload_n 1, 1) := by decide +kernel
theorem dX3_goOver_45 : decode cX3_goOver 45 = .ok (.iconst 1, 1) := by decide +kernel
theorem dX3_goOver_46 : decode cX3_goOver 46 = .ok (.iadd, 1) := by decide +kernel
theorem dX3_goOver_47 : decode cX3_goOver 47 = .ok (.aload_n 0, 1) := by decide +kernel
theorem dX3_goOver_48 : decode cX3_goOver 48 = .ok (.getfield 30, 3) := by decide +kernel
theorem dX3_goOver_51 : decode cX3_goOver 51 = .ok (.if_icmp .lt 6, 3) := by decide +kernel
theorem dX3_goOver_54 : decode cX3_goOver 54 = .ok (.bipush (-3), 2) := by decide +kernel
theorem dX3_goOver_56 : decode cX3_goOver 56 = .ok (.ireturn, 1) := by decide +kernel
theorem dX3_goOver_57 : decode cX3_goOver 57 = .ok (.aload_n 0, 1) := by decide +kernel
theorem dX3_goOver_58 : decode cX3_goOver 58 = .ok (.iload_n 1, 1) := by decide +kernel
theorem dX3_goOver_59 : decode cX3_goOver 59 = .ok (.iconst 1, 1) := by decide +kernel
theorem dX3_goOver_60 : decode cX3_goOver 60 = .ok (.iadd, 1) := by decide +kernel
theorem dX3_goOver_61 : decode cX3_goOver 61 = .ok (.iload_n 2, 1) := by decide +kernel
theorem dX3_goOver_62 : decode cX3_goOver 62 = .ok (.invokevirtual 72, 3) := by decide +kernel
theorem dX3_goOver_65 : decode cX3_goOver 65 = .ok (.ifCond .ne 6, 3) := by decide +kernel
theorem dX3_goOver_68 : decode cX3_goOver 68 = .ok (.bipush (-6), 2) := by decide +kernel
theorem dX3_goOver_70 : decode cX3_goOver 70 = .ok (.ireturn, 1) := by decide +kernel
theorem dX3_goOver_71 : decode cX3_goOver 71 = .ok (.aload_n 0, 1) := by decide +kernel
theorem dX3_goOver_72 : decode cX3_goOver 72 = .ok (.iload_n 1, 1) := by decide +kernel
theorem dX3_goOver_73 : decode cX3_goOver 73 = .ok (.invokevirtual 55, 3) := by decide +kernel
theorem dX3_goOver_76 : decode cX3_goOver 76 = .ok (.ifCond .eq 20, 3) := by decide +kernel
theorem dX3_goOver_79 : decode cX3_goOver 79 = .ok (.aload_n 0, 1) := by decide +kernel
theorem dX3_goOver_80 : decode cX3_goOver 80 = .ok (.aload_n 0, 1) := by decide +kernel
theorem dX3_goOver_81 : decode cX3_goOver 81 = .ok (.getfield 15, 3) := by decide +kernel
theorem dX3_goOver_84 : decode cX3_goOver 84 = .ok (.iload_n 1, 1) := by decide +kernel
theorem dX3_goOver_85 : decode cX3_goOver 85 = .ok (.iaload, 1) := by decide +kernel
theorem dX3_goOver_86 : decode cX3_goOver 86 = .ok (.iload_n 2, 1) := by decide +kernel
theorem dX3_goOver_87 : decode cX3_goOver 87 = .ok (.invokevirtual 72, 3) := by decide +kernel
theorem dX3_goOver_90 : decode cX3_goOver 90 = .ok (.ifCond .ne 6, 3) := by decide +kernel
theorem dX3_goOver_93 : decode cX3_goOver 93 = .ok (.bipush (-6), 2) := by decide +kernel
theorem dX3_goOver_95 : decode cX3_goOver 95 = .ok (.ireturn, 1) := by decide +kernel
theorem dX3_goOver_96 : decode cX3_goOver 96 = .ok (.aload_n 0, 1) := by decide +kernel
theorem dX3_goOver_97 : decode cX3_goOver 97 = .ok (.iload_n 1, 1) := by decide +kernel
theorem dX3_goOver_98 : decode cX3_goOver 98 = .ok (.invokevirtual 76, 3) := by decide +kernel
theorem dX3_goOver_101 : decode cX3_goOver 101 = .ok (.ifCond .eq 11, 3) := by decide +kernel
theorem dX3_goOver_104 : decode cX3_goOver 104 = .ok (.aload_n 0, 1) := by decide +kernel
theorem dX3_goOver_105 : decode cX3_goOver 105 = .ok (.iload_n 1, 1) := by decide +kernel
theorem dX3_goOver_106 : decode cX3_goOver 106 = .ok (.invokevirtual 79, 3) := by decide +kernel
theorem dX3_goOver_109 : decode cX3_goOver 109 = .ok (.goto 4, 3) := by decide +kernel
theorem dX3_goOver_112 : decode cX3_goOver 112 = .ok (.iconst (-1), 1) := by decide +kernel
theorem dX3_goOver_113 : decode cX3_goOver 113 = .ok (.istore_n 3, 1) := by decide +kernel
theorem dX3_goOver_114 : decode cX3_goOver 114 = .ok (.iload_n 3, 1) := by decide +kernel
theorem dX3_goOver_115 : decode cX3_goOver 115 = .ok (.iconst (-1), 1) := by decide +kernel
theorem dX3_goOver_116 : decode cX3_goOver 116 = .ok (.if_icmp .eq 17, 3) := by decide +kernel
theorem dX3_goOver_119 : decode cX3_goOver 119 = .ok (.aload_n 0, 1) := by decide +kernel
theorem dX3_goOver_120 : decode cX3_goOver 120 = .ok (.aload_n 0, 1) := by decide +kernel
theorem dX3_goOver_121 : decode cX3_goOver 121 = .ok (.getfield 27, 3) := by decide +kernel
theorem dX3_goOver_124 : decode cX3_goOver 124 = .ok (.iload_n 3, 1) := by decide +kernel
theorem dX3_goOver_125 : decode cX3_goOver 125 = .ok (.iaload, 1) := by decide +kernel
theorem dX3_goOver_126 : decode cX3_goOver 126 = .ok (.iconst 1, 1) := by decide +kernel
theorem dX3_goOver_127 : decode cX3_goOver 127 = .ok (.invokevirtual 72, 3) := by decide +kernel
theorem dX3_goOver_130 : decode cX3_goOver 130 = .ok (.ifCond .eq 7, 3) := by decide +kernel
theorem dX3_goOver_133 : decode cX3_goOver 133 = .ok (.iconst 0, 1) := by decide +kernel
theorem dX3_goOver_134 : decode cX3_goOver 134 = .ok (.goto 5, 3) := by decide +kernel
theorem dX3_goOver_137 : decode cX3_goOver 137 = .ok (.bipush (-6), 2) := by decide +kernel
theorem dX3_goOver_139 : decode cX3_goOver 139 = .ok (.ireturn, 1) := by decide +kernel
theorem dX3_arrive_0 : decode cX3_arrive 0 = .ok (.aload_n 0, 1) := by decide +kernel
theorem dX3_arrive_1 : decode cX3_arrive 1 = .ok (.getfield 18, 3) := by decide +kernel
theorem dX3_arrive_4 : decode cX3_arrive 4 = .ok (.iload_n 1, 1) := by decide +kernel
theorem dX3_arrive_5 : decode cX3_arrive 5 = .ok (.iaload, 1) := by decide +kernel
theorem dX3_arrive_6 : decode cX3_arrive 6 = .ok (.iconst (-1), 1) := by decide +kernel
theorem dX3_arrive_7 : decode cX3_arrive 7 = .ok (.if_icmp .ne 10, 3) := by decide +kernel
theorem dX3_arrive_10 : decode cX3_arrive 10 = .ok (.aload_n 0, 1) := by decide +kernel
theorem dX3_arrive_11 : decode cX3_arrive 11 = .ok (.getfield 18, 3) := by decide +kernel
theorem dX3_arrive_14 : decode cX3_arrive 14 = .ok (.iload_n 1, 1) := by decide +kernel
theorem dX3_arrive_15 : decode cX3_arrive 15 = .ok (.iload_n 2, 1) := by decide +kernel
theorem dX3_arrive_16 : decode cX3_arrive 16 = .ok (.iastore, 1) := by decide +kernel
theorem dX3_arrive_17 : decode cX3_arrive 17 = .ok (.aload_n 0, 1) := by decide +kernel
theorem dX3_arrive_18 : decode cX3_arrive 18 = .ok (.getfield 18, 3) := by decide +kernel
theorem dX3_arrive_21 : decode cX3_arrive 21 = .ok (.iload_n 1, 1) := by decide +kernel
theorem dX3_arrive_22 : decode cX3_arrive 22 = .ok (.iaload, 1) := by decide +kernel
theorem dX3_arrive_23 : decode cX3_arrive 23 = .ok (.iload_n 2, 1) := by decide +kernel
theorem dX3_arrive_24 : decode cX3_arrive 24 = .ok (.if_icmp .ne 7, 3) := by decide +kernel
theorem dX3_arrive_27 : decode cX3_arrive 27 = .ok (.iconst 1, 1) := by decide +kernel
theorem dX3_arrive_28 : decode cX3_arrive 28 = .ok (.goto 4, 3) := by decide +kernel
theorem dX3_arrive_31 : decode cX3_arrive 31 = .ok (.iconst 0, 1) := by decide +kernel
theorem dX3_arrive_32 : decode cX3_arrive 32 = .ok (.ireturn, 1) := by decide +kernel
theorem dX3_depthBehind_0 : decode cX3_depthBehind 0 = .ok (.aload_n 0, 1) := by decide +kernel
theorem dX3_depthBehind_1 : decode cX3_depthBehind 1 = .ok (.getfield 18, 3) := by decide +kernel
theorem dX3_depthBehind_4 : decode cX3_depthBehind 4 = .ok (.iload_n 1, 1) := by decide +kernel
theorem dX3_depthBehind_5 : decode cX3_depthBehind 5 = .ok (.iaload, 1) := by decide +kernel
theorem dX3_depthBehind_6 : decode cX3_depthBehind 6 = .ok (.aload_n 0, 1) := by decide +kernel
theorem dX3_depthBehind_7 : decode cX3_depthBehind 7 = .ok (.getfield 9, 3) := by decide +kernel
theorem dX3_depthBehind_10 : decode cX3_depthBehind 10 = .ok (.iload_n 1, 1) := by decide +kernel
theorem dX3_depthBehind_11 : decode cX3_depthBehind 11 = .ok (.iaload, 1) := by decide +kernel
theorem dX3_depthBehind_12 : decode cX3_depthBehind 12 = .ok (.invokestatic 63, 3) := by decide +kernel
theorem dX3_depthBehind_15 : decode cX3_depthBehind 15 = .ok (.isub, 1) := by decide +kernel
theorem dX3_depthBehind_16 : decode cX3_depthBehind 16 = .ok (.aload_n 0, 1) := by decide +kernel
theorem dX3_depthBehind_17 : decode cX3_depthBehind 17 = .ok (.getfield 9, 3) := by decide +kernel
theorem dX3_depthBehind_20 : decode cX3_depthBehind 20 = .ok (.iload_n 1, 1) := by decide +kernel
theorem dX3_depthBehind_21 : decode cX3_depthBehind 21 = .ok (.iaload, 1) := by decide +kernel
theorem dX3_depthBehind_22 : decode cX3_depthBehind 22 = .ok (.invokestatic 82, 3) := by decide +kernel
theorem dX3_depthBehind_25 : decode cX3_depthBehind 25 = .ok (.iadd, 1) := by decide +kernel
theorem dX3_depthBehind_26 : decode cX3_depthBehind 26 = .ok (.ireturn, 1) := by decide +kernel
theorem dX3_goesOn_0 : decode cX3_goesOn 0 = .ok (.aload_n 0, 1) := by decide +kernel
theorem dX3_goesOn_1 : decode cX3_goesOn 1 = .ok (.getfield 9, 3) := by decide +kernel
theorem dX3_goesOn_4 : decode cX3_goesOn 4 = .ok (.iload_n 1, 1) := by decide +kernel
theorem dX3_goesOn_5 : decode cX3_goesOn 5 = .ok (.iaload, 1) := by decide +kernel
theorem dX3_goesOn_6 : decode cX3_goesOn 6 = .ok (.bipush 103, 2) := by decide +kernel
theorem dX3_goesOn_8 : decode cX3_goesOn 8 = .ok (.if_icmp .eq 15, 3) := by decide +kernel
theorem dX3_goesOn_11 : decode cX3_goesOn 11 = .ok (.aload_n 0, 1) := by decide +kernel
theorem dX3_goesOn_12 : decode cX3_goesOn 12 = .ok (.iload_n 1, 1) := by decide +kernel
theorem dX3_goesOn_13 : decode cX3_goesOn 13 = .ok (.invokevirtual 85, 3) := by decide +kernel
theorem dX3_goesOn_16 : decode cX3_goesOn 16 = .ok (.ifCond .ne 7, 3) := by decide +kernel
theorem dX3_goesOn_19 : decode cX3_goesOn 19 = .ok (.iconst 1, 1) := by decide +kernel
theorem dX3_goesOn_20 : decode cX3_goesOn 20 = .ok (.goto 4, 3) := by decide +kernel
theorem dX3_goesOn_23 : decode cX3_goesOn 23 = .ok (.iconst 0, 1) := by decide +kernel
theorem dX3_goesOn_24 : decode cX3_goesOn 24 = .ok (.ireturn, 1) := by decide +kernel
theorem dX3_ends_0 : decode cX3_ends 0 = .ok (.aload_n 0, 1) := by decide +kernel
theorem dX3_ends_1 : decode cX3_ends 1 = .ok (.getfield 9, 3) := by decide +kernel
theorem dX3_ends_4 : decode cX3_ends 4 = .ok (.iload_n 1, 1) := by decide +kernel
theorem dX3_ends_5 : decode cX3_ends 5 = .ok (.iaload, 1) := by decide +kernel
theorem dX3_ends_6 : decode cX3_ends 6 = .ok (.bipush 116, 2) := by decide +kernel
theorem dX3_ends_8 : decode cX3_ends 8 = .ok (.if_icmp .eq 14, 3) := by decide +kernel
theorem dX3_ends_11 : decode cX3_ends 11 = .ok (.aload_n 0, 1) := by decide +kernel
theorem dX3_ends_12 : decode cX3_ends 12 = .ok (.getfield 9, 3) := by decide +kernel
theorem dX3_ends_15 : decode cX3_ends 15 = .ok (.iload_n 1, 1) := by decide +kernel
theorem dX3_ends_16 : decode cX3_ends 16 = .ok (.iaload, 1) := by decide +kernel
theorem dX3_ends_17 : decode cX3_ends 17 = .ok (.bipush 114, 2) := by decide +kernel
theorem dX3_ends_19 : decode cX3_ends 19 = .ok (.if_icmp .ne 7, 3) := by decide +kernel
theorem dX3_ends_22 : decode cX3_ends 22 = .ok (.iconst 1, 1) := by decide +kernel
theorem dX3_ends_23 : decode cX3_ends 23 = .ok (.goto 4, 3) := by decide +kernel
theorem dX3_ends_26 : decode cX3_ends 26 = .ok (.iconst 0, 1) := by decide +kernel
theorem dX3_ends_27 : decode cX3_ends 27 = .ok (.ireturn, 1) := by decide +kernel
theorem dX3_goesElsewhere_0 : decode cX3_goesElsewhere 0 = .ok (.aload_n 0, 1) := by decide +kernel
theorem dX3_goesElsewhere_1 : decode cX3_goesElsewhere 1 = .ok (.getfield 9, 3) := by decide +kernel
theorem dX3_goesElsewhere_4 : decode cX3_goesElsewhere 4 = .ok (.iload_n 1, 1) := by decide +kernel
theorem dX3_goesElsewhere_5 : decode cX3_goesElsewhere 5 = .ok (.iaload, 1) := by decide +kernel
theorem dX3_goesElsewhere_6 : decode cX3_goesElsewhere 6 = .ok (.bipush 103, 2) := by decide +kernel
theorem dX3_goesElsewhere_8 : decode cX3_goesElsewhere 8 = .ok (.if_icmp .eq 14, 3) := by decide +kernel
theorem dX3_goesElsewhere_11 : decode cX3_goesElsewhere 11 = .ok (.aload_n 0, 1) := by decide +kernel
theorem dX3_goesElsewhere_12 : decode cX3_goesElsewhere 12 = .ok (.getfield 9, 3) := by decide +kernel
theorem dX3_goesElsewhere_15 : decode cX3_goesElsewhere 15 = .ok (.iload_n 1, 1) := by decide +kernel
theorem dX3_goesElsewhere_16 : decode cX3_goesElsewhere 16 = .ok (.iaload, 1) := by decide +kernel
theorem dX3_goesElsewhere_17 : decode cX3_goesElsewhere 17 = .ok (.bipush 122, 2) := by decide +kernel
theorem dX3_goesElsewhere_19 : decode cX3_goesElsewhere 19 = .ok (.if_icmp .ne 7, 3) := by decide +kernel
theorem dX3_goesElsewhere_22 : decode cX3_goesElsewhere 22 = .ok (.iconst 1, 1) := by decide +kernel
theorem dX3_goesElsewhere_23 : decode cX3_goesElsewhere 23 = .ok (.goto 4, 3) := by decide +kernel
theorem dX3_goesElsewhere_26 : decode cX3_goesElsewhere 26 = .ok (.iconst 0, 1) := by decide +kernel
theorem dX3_goesElsewhere_27 : decode cX3_goesElsewhere 27 = .ok (.ireturn, 1) := by decide +kernel
theorem dX3_chooses_0 : decode cX3_chooses 0 = .ok (.aload_n 0, 1) := by decide +kernel
theorem dX3_chooses_1 : decode cX3_chooses 1 = .ok (.getfield 9, 3) := by decide +kernel
theorem dX3_chooses_4 : decode cX3_chooses 4 = .ok (.iload_n 1, 1) := by decide +kernel
theorem dX3_chooses_5 : decode cX3_chooses 5 = .ok (.iaload, 1) := by decide +kernel
theorem dX3_chooses_6 : decode cX3_chooses 6 = .ok (.bipush 122, 2) := by decide +kernel
theorem dX3_chooses_8 : decode cX3_chooses 8 = .ok (.if_icmp .ne 19, 3) := by decide +kernel
theorem dX3_chooses_11 : decode cX3_chooses 11 = .ok (.aload_n 0, 1) := by decide +kernel
theorem dX3_chooses_12 : decode cX3_chooses 12 = .ok (.getfield 15, 3) := by decide +kernel
theorem dX3_chooses_15 : decode cX3_chooses 15 = .ok (.iload_n 1, 1) := by decide +kernel
theorem dX3_chooses_16 : decode cX3_chooses 16 = .ok (.iaload, 1) := by decide +kernel
theorem dX3_chooses_17 : decode cX3_chooses 17 = .ok (.iload_n 1, 1) := by decide +kernel
theorem dX3_chooses_18 : decode cX3_chooses 18 = .ok (.iconst 1, 1) := by decide +kernel
theorem dX3_chooses_19 : decode cX3_chooses 19 = .ok (.iadd, 1) := by decide +kernel
theorem dX3_chooses_20 : decode cX3_chooses 20 = .ok (.if_icmp .eq 7, 3) := by decide +kernel
theorem dX3_chooses_23 : decode cX3_chooses 23 = .ok (.iconst 1, 1) := by decide +kernel
theorem dX3_chooses_24 : decode cX3_chooses 24 = .ok (.goto 4, 3) := by decide +kernel
theorem dX3_chooses_27 : decode cX3_chooses 27 = .ok (.iconst 0, 1) := by decide +kernel
theorem dX3_chooses_28 : decode cX3_chooses 28 = .ok (.ireturn, 1) := by decide +kernel
theorem dX3_canThrow_0 : decode cX3_canThrow 0 = .ok (.aload_n 0, 1) := by decide +kernel
theorem dX3_canThrow_1 : decode cX3_canThrow 1 = .ok (.getfield 9, 3) := by decide +kernel
theorem dX3_canThrow_4 : decode cX3_canThrow 4 = .ok (.iload_n 1, 1) := by decide +kernel
theorem dX3_canThrow_5 : decode cX3_canThrow 5 = .ok (.iaload, 1) := by decide +kernel
theorem dX3_canThrow_6 : decode cX3_canThrow 6 = .ok (.bipush 47, 2) := by decide +kernel
theorem dX3_canThrow_8 : decode cX3_canThrow 8 = .ok (.if_icmp .eq 25, 3) := by decide +kernel
theorem dX3_canThrow_11 : decode cX3_canThrow 11 = .ok (.aload_n 0, 1) := by decide +kernel
theorem dX3_canThrow_12 : decode cX3_canThrow 12 = .ok (.getfield 9, 3) := by decide +kernel
