theorem dX12_isTruth_86 : decode cX12_isTruth 86 = .ok (.baload, 1) := by decide +kernel
theorem dX12_isTruth_87 : decode cX12_isTruth 87 = .ok (.ireturn, 1) := by decide +kernel
theorem dX12_isTruth_88 : decode cX12_isTruth 88 = .ok (.aload_n 0, 1) := by decide +kernel
theorem dX12_isTruth_89 : decode cX12_isTruth 89 = .ok (.getfield 88, 3) := by decide +kernel
theorem dX12_isTruth_92 : decode cX12_isTruth 92 = .ok (.iload_n 1, 1) := by decide +kernel
theorem dX12_isTruth_93 : decode cX12_isTruth 93 = .ok (.iaload, 1) := by decide +kernel
theorem dX12_isTruth_94 : decode cX12_isTruth 94 = .ok (.iconst 5, 1) := by decide +kernel
theorem dX12_isTruth_95 : decode cX12_isTruth 95 = .ok (.if_icmp .eq 25, 3) := by decide +kernel
theorem dX12_isTruth_98 : decode cX12_isTruth 98 = .ok (.aload_n 0, 1) := by decide +kernel
theorem dX12_isTruth_99 : decode cX12_isTruth 99 = .ok (.getfield 88, 3) := by decide +kernel
theorem dX12_isTruth_102 : decode cX12_isTruth 102 = .ok (.iload_n 1, 1) := by decide +kernel
theorem dX12_isTruth_103 : decode cX12_isTruth 103 = .ok (.iaload, 1) := by decide +kernel
theorem dX12_isTruth_104 : decode cX12_isTruth 104 = .ok (.bipush 60, 2) := by decide +kernel
theorem dX12_isTruth_106 : decode cX12_isTruth 106 = .ok (.if_icmp .eq 14, 3) := by decide +kernel
theorem dX12_isTruth_109 : decode cX12_isTruth 109 = .ok (.aload_n 0, 1) := by decide +kernel
theorem dX12_isTruth_110 : decode cX12_isTruth 110 = .ok (.getfield 88, 3) := by decide +kernel
theorem dX12_isTruth_113 : decode cX12_isTruth 113 = .ok (.iload_n 1, 1) := by decide +kernel
theorem dX12_isTruth_114 : decode cX12_isTruth 114 = .ok (.iaload, 1) := by decide +kernel
theorem dX12_isTruth_115 : decode cX12_isTruth 115 = .ok (.bipush 61, 2) := by decide +kernel
theorem dX12_isTruth_117 : decode cX12_isTruth 117 = .ok (.if_icmp .ne 7, 3) := by decide +kernel
theorem dX12_isTruth_120 : decode cX12_isTruth 120 = .ok (.iconst 1, 1) := by decide +kernel
theorem dX12_isTruth_121 : decode cX12_isTruth 121 = .ok (.goto 4, 3) := by decide +kernel
theorem dX12_isTruth_124 : decode cX12_isTruth 124 = .ok (.iconst 0, 1) := by decide +kernel
theorem dX12_isTruth_125 : decode cX12_isTruth 125 = .ok (.ireturn, 1) := by decide +kernel
theorem dX12_laysTypes_0 : decode cX12_laysTypes 0 = .ok (.iconst 0, 1) := by decide +kernel
theorem dX12_laysTypes_1 : decode cX12_laysTypes 1 = .ok (.istore_n 1, 1) := by decide +kernel
theorem dX12_laysTypes_2 : decode cX12_laysTypes 2 = .ok (.iload_n 1, 1) := by decide +kernel
theorem dX12_laysTypes_3 : decode cX12_laysTypes 3 = .ok (.bipush 6, 2) := by decide +kernel
theorem dX12_laysTypes_5 : decode cX12_laysTypes 5 = .ok (.if_icmp .ge 25, 3) := by decide +kernel
theorem dX12_laysTypes_8 : decode cX12_laysTypes 8 = .ok (.aload_n 0, 1) := by decide +kernel
theorem dX12_laysTypes_9 : decode cX12_laysTypes 9 = .ok (.getfield 115, 3) := by decide +kernel
theorem dX12_laysTypes_12 : decode cX12_laysTypes 12 = .ok (.iload_n 1, 1) := by decide +kernel
theorem dX12_laysTypes_13 : decode cX12_laysTypes 13 = .ok (.iload_n 1, 1) := by decide +kernel
theorem dX12_laysTypes_14 : decode cX12_laysTypes 14 = .ok (.iconst 1, 1) := by decide +kernel
theorem dX12_laysTypes_15 : decode cX12_laysTypes 15 = .ok (.if_icmp .le 7, 3) := by decide +kernel
theorem dX12_laysTypes_18 : decode cX12_laysTypes 18 = .ok (.iconst 1, 1) := by decide +kernel
theorem dX12_laysTypes_19 : decode cX12_laysTypes 19 = .ok (.goto 4, 3) := by decide +kernel
theorem dX12_laysTypes_22 : decode cX12_laysTypes 22 = .ok (.iconst 0, 1) := by decide +kernel
theorem dX12_laysTypes_23 : decode cX12_laysTypes 23 = .ok (.bastore, 1) := by decide +kernel
theorem dX12_laysTypes_24 : decode cX12_laysTypes 24 = .ok (.iinc 1 1, 3) := by decide +kernel
theorem dX12_laysTypes_27 : decode cX12_laysTypes 27 = .ok (.goto (-25), 3) := by decide +kernel
theorem dX12_laysTypes_30 : decode cX12_laysTypes 30 = .ok (.iconst 0, 1) := by decide +kernel
theorem dX12_laysTypes_31 : decode cX12_laysTypes 31 = .ok (.istore_n 1, 1) := by decide +kernel
theorem dX12_laysTypes_32 : decode cX12_laysTypes 32 = .ok (.iload_n 1, 1) := by decide +kernel
theorem dX12_laysTypes_33 : decode cX12_laysTypes 33 = .ok (.bipush 8, 2) := by decide +kernel
theorem dX12_laysTypes_35 : decode cX12_laysTypes 35 = .ok (.if_icmp .ge 16, 3) := by decide +kernel
theorem dX12_laysTypes_38 : decode cX12_laysTypes 38 = .ok (.aload_n 0, 1) := by decide +kernel
theorem dX12_laysTypes_39 : decode cX12_laysTypes 39 = .ok (.getfield 118, 3) := by decide +kernel
theorem dX12_laysTypes_42 : decode cX12_laysTypes 42 = .ok (.iload_n 1, 1) := by decide +kernel
theorem dX12_laysTypes_43 : decode cX12_laysTypes 43 = .ok (.iconst 1, 1) := by decide +kernel
theorem dX12_laysTypes_44 : decode cX12_laysTypes 44 = .ok (.bastore, 1) := by decide +kernel
theorem dX12_laysTypes_45 : decode cX12_laysTypes 45 = .ok (.iinc 1 1, 3) := by decide +kernel
theorem dX12_laysTypes_48 : decode cX12_laysTypes 48 = .ok (.goto (-16), 3) := by decide +kernel
theorem dX12_laysTypes_51 : decode cX12_laysTypes 51 = .ok (.iconst 0, 1) := by decide +kernel
theorem dX12_laysTypes_52 : decode cX12_laysTypes 52 = .ok (.istore_n 1, 1) := by decide +kernel
theorem dX12_laysTypes_53 : decode cX12_laysTypes 53 = .ok (.iload_n 1, 1) := by decide +kernel
theorem dX12_laysTypes_54 : decode cX12_laysTypes 54 = .ok (.aload_n 0, 1) := by decide +kernel
theorem dX12_laysTypes_55 : decode cX12_laysTypes 55 = .ok (.getfield 410, 3) := by decide +kernel
theorem dX12_laysTypes_58 : decode cX12_laysTypes 58 = .ok (.if_icmp .ge 16, 3) := by decide +kernel
theorem dX12_laysTypes_61 : decode cX12_laysTypes 61 = .ok (.aload_n 0, 1) := by decide +kernel
theorem dX12_laysTypes_62 : decode cX12_laysTypes 62 = .ok (.getfield 121, 3) := by decide +kernel
theorem dX12_laysTypes_65 : decode cX12_laysTypes 65 = .ok (.iload_n 1, 1) := by decide +kernel
theorem dX12_laysTypes_66 : decode cX12_laysTypes 66 = .ok (.iconst 1, 1) := by decide +kernel
theorem dX12_laysTypes_67 : decode cX12_laysTypes 67 = .ok (.bastore, 1) := by decide +kernel
theorem dX12_laysTypes_68 : decode cX12_laysTypes 68 = .ok (.iinc 1 1, 3) := by decide +kernel
theorem dX12_laysTypes_71 : decode cX12_laysTypes 71 = .ok (.goto (-18), 3) := by decide +kernel
theorem dX12_laysTypes_74 : decode cX12_laysTypes 74 = .ok (.iconst 0, 1) := by decide +kernel
theorem dX12_laysTypes_75 : decode cX12_laysTypes 75 = .ok (.istore_n 1, 1) := by decide +kernel
theorem dX12_laysTypes_76 : decode cX12_laysTypes 76 = .ok (.iload_n 1, 1) := by decide +kernel
theorem dX12_laysTypes_77 : decode cX12_laysTypes 77 = .ok (.aload_n 0, 1) := by decide +kernel
theorem dX12_laysTypes_78 : decode cX12_laysTypes 78 = .ok (.getfield 327, 3) := by decide +kernel
theorem dX12_laysTypes_81 : decode cX12_laysTypes 81 = .ok (.if_icmp .ge 25, 3) := by decide +kernel
theorem dX12_laysTypes_84 : decode cX12_laysTypes 84 = .ok (.aload_n 0, 1) := by decide +kernel
theorem dX12_laysTypes_85 : decode cX12_laysTypes 85 = .ok (.getfield 65, 3) := by decide +kernel
theorem dX12_laysTypes_88 : decode cX12_laysTypes 88 = .ok (.iload_n 1, 1) := by decide +kernel
theorem dX12_laysTypes_89 : decode cX12_laysTypes 89 = .ok (.baload, 1) := by decide +kernel
theorem dX12_laysTypes_90 : decode cX12_laysTypes 90 = .ok (.ifCond .eq 10, 3) := by decide +kernel
theorem dX12_laysTypes_93 : decode cX12_laysTypes 93 = .ok (.aload_n 0, 1) := by decide +kernel
theorem dX12_laysTypes_94 : decode cX12_laysTypes 94 = .ok (.getfield 118, 3) := by decide +kernel
theorem dX12_laysTypes_97 : decode cX12_laysTypes 97 = .ok (.iconst 0, 1) := by decide +kernel
theorem dX12_laysTypes_98 : decode cX12_laysTypes 98 = .ok (.iconst 0, 1) := by decide +kernel
theorem dX12_laysTypes_99 : decode cX12_laysTypes 99 = .ok (.bastore, 1) := by decide +kernel
theorem dX12_laysTypes_100 : decode cX12_laysTypes 100 = .ok (.iinc 1 1, 3) := by decide +kernel
theorem dX12_laysTypes_103 : decode cX12_laysTypes 103 = .ok (.goto (-27), 3) := by decide +kernel
theorem dX12_laysTypes_106 : decode cX12_laysTypes 106 = .ok (.iconst 1, 1) := by decide +kernel
theorem dX12_laysTypes_107 : decode cX12_laysTypes 107 = .ok (.istore_n 1, 1) := by decide +kernel
theorem dX12_laysTypes_108 : decode cX12_laysTypes 108 = .ok (.iload_n 1, 1) := by decide +kernel
theorem dX12_laysTypes_109 : decode cX12_laysTypes 109 = .ok (.ifCond .eq 42, 3) := by decide +kernel
theorem dX12_laysTypes_112 : decode cX12_laysTypes 112 = .ok (.iconst 0, 1) := by decide +kernel
theorem dX12_laysTypes_113 : decode cX12_laysTypes 113 = .ok (.istore_n 1, 1) := by decide +kernel
theorem dX12_laysTypes_114 : decode cX12_laysTypes 114 = .ok (.iconst 0, 1) := by decide +kernel
theorem dX12_laysTypes_115 : decode cX12_laysTypes 115 = .ok (.istore_n 2, 1) := by decide +kernel
theorem dX12_laysTypes_116 : decode cX12_laysTypes 116 = .ok (.iload_n 2, 1) := by decide +kernel
theorem dX12_laysTypes_117 : decode cX12_laysTypes 117 = .ok (.aload_n 0, 1) := by decide +kernel
theorem dX12_laysTypes_118 : decode cX12_laysTypes 118 = .ok (.getfield 407, 3) := by decide +kernel
theorem dX12_laysTypes_121 : decode cX12_laysTypes 121 = .ok (.if_icmp .ge 27, 3) := by decide +kernel
theorem dX12_laysTypes_124 : decode cX12_laysTypes 124 = .ok (.aload_n 0, 1) := by decide +kernel
theorem dX12_laysTypes_125 : decode cX12_laysTypes 125 = .ok (.iload_n 2, 1) := by decide +kernel
theorem dX12_laysTypes_126 : decode cX12_laysTypes 126 = .ok (.invokevirtual 467, 3) := by decide +kernel
theorem dX12_laysTypes_129 : decode cX12_laysTypes 129 = .ok (.ifCond .ne 7, 3) := by decide +kernel
theorem dX12_laysTypes_132 : decode cX12_laysTypes 132 = .ok (.iload_n 1, 1) := by decide +kernel
theorem dX12_laysTypes_133 : decode cX12_laysTypes 133 = .ok (.ifCond .eq 7, 3) := by decide +kernel
theorem dX12_laysTypes_136 : decode cX12_laysTypes 136 = .ok (.iconst 1, 1) := by decide +kernel
theorem dX12_laysTypes_137 : decode cX12_laysTypes 137 = .ok (.goto 4, 3) := by decide +kernel
theorem dX12_laysTypes_140 : decode cX12_laysTypes 140 = .ok (.iconst 0, 1) := by decide +kernel
theorem dX12_laysTypes_141 : decode cX12_laysTypes 141 = .ok (.istore_n 1, 1) := by decide +kernel
theorem dX12_laysTypes_142 : decode cX12_laysTypes 142 = .ok (.iinc 2 1, 3) := by decide +kernel
theorem dX12_laysTypes_145 : decode cX12_laysTypes 145 = .ok (.goto (-29), 3) := by decide +kernel
theorem dX12_laysTypes_148 : decode cX12_laysTypes 148 = .ok (.goto (-40), 3) := by decide +kernel
theorem dX12_laysTypes_151 : decode cX12_laysTypes 151 = .ok (.return_, 1) := by decide +kernel
theorem dX12_isLess_0 : decode cX12_isLess 0 = .ok (.aload_n 0, 1) := by decide +kernel
theorem dX12_isLess_1 : decode cX12_isLess 1 = .ok (.getfield 97, 3) := by decide +kernel
theorem dX12_isLess_4 : decode cX12_isLess 4 = .ok (.iload_n 1, 1) := by decide +kernel
theorem dX12_isLess_5 : decode cX12_isLess 5 = .ok (.iaload, 1) := by decide +kernel
theorem dX12_isLess_6 : decode cX12_isLess 6 = .ok (.iconst 2, 1) := by decide +kernel
theorem dX12_isLess_7 : decode cX12_isLess 7 = .ok (.if_icmp .gt 16, 3) := by decide +kernel
theorem dX12_isLess_10 : decode cX12_isLess 10 = .ok (.aload_n 0, 1) := by decide +kernel
theorem dX12_isLess_11 : decode cX12_isLess 11 = .ok (.aload_n 0, 1) := by decide +kernel
theorem dX12_isLess_12 : decode cX12_isLess 12 = .ok (.getfield 103, 3) := by decide +kernel
theorem dX12_isLess_15 : decode cX12_isLess 15 = .ok (.iload_n 1, 1) := by decide +kernel
theorem dX12_isLess_16 : decode cX12_isLess 16 = .ok (.iaload, 1) := by decide +kernel
theorem dX12_isLess_17 : decode cX12_isLess 17 = .ok (.invokevirtual 470, 3) := by decide +kernel
theorem dX12_isLess_20 : decode cX12_isLess 20 = .ok (.ifCond .eq 5, 3) := by decide +kernel
theorem dX12_isLess_23 : decode cX12_isLess 23 = .ok (.iconst 0, 1) := by decide +kernel
theorem dX12_isLess_24 : decode cX12_isLess 24 = .ok (.ireturn, 1) := by decide +kernel
theorem dX12_isLess_25 : decode cX12_isLess 25 = .ok (.aload_n 0, 1) := by decide +kernel
theorem dX12_isLess_26 : decode cX12_isLess 26 = .ok (.getfield 97, 3) := by decide +kernel
theorem dX12_isLess_29 : decode cX12_isLess 29 = .ok (.iload_n 1, 1) := by decide +kernel
theorem dX12_isLess_30 : decode cX12_isLess 30 = .ok (.iaload, 1) := by decide +kernel
theorem dX12_isLess_31 : decode cX12_isLess 31 = .ok (.ifCond .ne 10, 3) := by decide +kernel
theorem dX12_isLess_34 : decode cX12_isLess 34 = .ok (.aload_n 0, 1) := by decide +kernel
theorem dX12_isLess_35 : decode cX12_isLess 35 = .ok (.getfield 115, 3) := by decide +kernel
theorem dX12_isLess_38 : decode cX12_isLess 38 = .ok (.goto 24, 3) := by decide +kernel
theorem dX12_isLess_41 : decode cX12_isLess 41 = .ok (.aload_n 0, 1) := by decide +kernel
theorem dX12_isLess_42 : decode cX12_isLess 42 = .ok (.getfield 97, 3) := by decide +kernel
theorem dX12_isLess_45 : decode cX12_isLess 45 = .ok (.iload_n 1, 1) := by decide +kernel
theorem dX12_isLess_46 : decode cX12_isLess 46 = .ok (.iaload, 1) := by decide +kernel
theorem dX12_isLess_47 : decode cX12_isLess 47 = .ok (.iconst 1, 1) := by decide +kernel
theorem dX12_isLess_48 : decode cX12_isLess 48 = .ok (.if_icmp .ne 10, 3) := by decide +kernel
theorem dX12_isLess_51 : decode cX12_isLess 51 = .ok (.aload_n 0, 1) := by decide +kernel
theorem dX12_isLess_52 : decode cX12_isLess 52 = .ok (.getfield 118, 3) := by decide +kernel
theorem dX12_isLess_55 : decode cX12_isLess 55 = .ok (.goto 7, 3) := by decide +kernel
theorem dX12_isLess_58 : decode cX12_isLess 58 = .ok (.aload_n 0, 1) := by decide +kernel
theorem dX12_isLess_59 : decode cX12_isLess 59 = .ok (.getfield 121, 3) := by decide +kernel
theorem dX12_isLess_62 : decode cX12_isLess 62 = .ok (.astore_n 2, 1) := by decide +kernel
theorem dX12_isLess_63 : decode cX12_isLess 63 = .ok (.aload_n 2, 1) := by decide +kernel
theorem dX12_isLess_64 : decode cX12_isLess 64 = .ok (.aload_n 0, 1) := by decide +kernel
theorem dX12_isLess_65 : decode cX12_isLess 65 = .ok (.getfield 100, 3) := by decide +kernel
theorem dX12_isLess_68 : decode cX12_isLess 68 = .ok (.iload_n 1, 1) := by decide +kernel
theorem dX12_isLess_69 : decode cX12_isLess 69 = .ok (.iaload, 1) := by decide +kernel
theorem dX12_isLess_70 : decode cX12_isLess 70 = .ok (.baload, 1) := by decide +kernel
theorem dX12_isLess_71 : decode cX12_isLess 71 = .ok (.istore_n 3, 1) := by decide +kernel
theorem dX12_isLess_72 : decode cX12_isLess 72 = .ok (.aload_n 2, 1) := by decide +kernel
theorem dX12_isLess_73 : decode cX12_isLess 73 = .ok (.aload_n 0, 1) := by decide +kernel
theorem dX12_isLess_74 : decode cX12_isLess 74 = .ok (.getfield 100, 3) := by decide +kernel
theorem dX12_isLess_77 : decode cX12_isLess 77 = .ok (.iload_n 1, 1) := by decide +kernel
theorem dX12_isLess_78 : decode cX12_isLess 78 = .ok (.iaload, 1) := by decide +kernel
theorem dX12_isLess_79 : decode cX12_isLess 79 = .ok (.iconst 0, 1) := by decide +kernel
theorem dX12_isLess_80 : decode cX12_isLess 80 = .ok (.bastore, 1) := by decide +kernel
theorem dX12_isLess_81 : decode cX12_isLess 81 = .ok (.iload_n 3, 1) := by decide +kernel
theorem dX12_isLess_82 : decode cX12_isLess 82 = .ok (.ireturn, 1) := by decide +kernel
theorem dX12_behind_0 : decode cX12_behind 0 = .ok (.iconst 0, 1) := by decide +kernel
theorem dX12_behind_1 : decode cX12_behind 1 = .ok (.istore_n 2, 1) := by decide +kernel
theorem dX12_behind_2 : decode cX12_behind 2 = .ok (.iconst 0, 1) := by decide +kernel
theorem dX12_behind_3 : decode cX12_behind 3 = .ok (.istore_n 3, 1) := by decide +kernel
theorem dX12_behind_4 : decode cX12_behind 4 = .ok (.iload_n 3, 1) := by decide +kernel
theorem dX12_behind_5 : decode cX12_behind 5 = .ok (.aload_n 0, 1) := by decide +kernel
theorem dX12_behind_6 : decode cX12_behind 6 = .ok (.getfield 327, 3) := by decide +kernel
theorem dX12_behind_9 : decode cX12_behind 9 = .ok (.if_icmp .ge 37, 3) := by decide +kernel
theorem dX12_behind_12 : decode cX12_behind 12 = .ok (.iload_n 2, 1) := by decide +kernel
theorem dX12_behind_13 : decode cX12_behind 13 = .ok (.aload_n 0, 1) := by decide +kernel
theorem dX12_behind_14 : decode cX12_behind 14 = .ok (.getfield 59, 3) := by decide +kernel
theorem dX12_behind_17 : decode cX12_behind 17 = .ok (.iload_n 3, 1) := by decide +kernel
theorem dX12_behind_18 : decode cX12_behind 18 = .ok (.iaload, 1) := by decide +kernel
theorem dX12_behind_19 : decode cX12_behind 19 = .ok (.iload_n 1, 1) := by decide +kernel
theorem dX12_behind_20 : decode cX12_behind 20 = .ok (.if_icmp .ne 17, 3) := by decide +kernel
theorem dX12_behind_23 : decode cX12_behind 23 = .ok (.aload_n 0, 1) := by decide +kernel
theorem dX12_behind_24 : decode cX12_behind 24 = .ok (.getfield 124, 3) := by decide +kernel
theorem dX12_behind_27 : decode cX12_behind 27 = .ok (.aload_n 0, 1) := by decide +kernel
theorem dX12_behind_28 : decode cX12_behind 28 = .ok (.getfield 62, 3) := by decide +kernel
theorem dX12_behind_31 : decode cX12_behind 31 = .ok (.iload_n 3, 1) := by decide +kernel
theorem dX12_behind_32 : decode cX12_behind 32 = .ok (.iaload, 1) := by decide +kernel
theorem dX12_behind_33 : decode cX12_behind 33 = .ok (.iaload, 1) := by decide +kernel
theorem dX12_behind_34 : decode cX12_behind 34 = .ok (.goto 4, 3) := by decide +kernel
theorem dX12_behind_37 : decode cX12_behind 37 = .ok (.iconst 0, 1) := by decide +kernel
theorem dX12_behind_38 : decode cX12_behind 38 = .ok (.ior, 1) := by decide +kernel
theorem dX12_behind_39 : decode cX12_behind 39 = .ok (.istore_n 2, 1) := by decide +kernel
theorem dX12_behind_40 : decode cX12_behind 40 = .ok (.iinc 3 1, 3) := by decide +kernel
theorem dX12_behind_43 : decode cX12_behind 43 = .ok (.goto (-39), 3) := by decide +kernel
theorem dX12_behind_46 : decode cX12_behind 46 = .ok (.iload_n 2, 1) := by decide +kernel
theorem dX12_behind_47 : decode cX12_behind 47 = .ok (.ireturn, 1) := by decide +kernel
theorem dX12_liveAhead_0 : decode cX12_liveAhead 0 = .ok (.aload_n 0, 1) := by decide +kernel
theorem dX12_liveAhead_1 : decode cX12_liveAhead 1 = .ok (.getfield 56, 3) := by decide +kernel
theorem dX12_liveAhead_4 : decode cX12_liveAhead 4 = .ok (.iload_n 1, 1) := by decide +kernel
theorem dX12_liveAhead_5 : decode cX12_liveAhead 5 = .ok (.iaload, 1) := by decide +kernel
theorem dX12_liveAhead_6 : decode cX12_liveAhead 6 = .ok (.iconst (-1), 1) := by decide +kernel
theorem dX12_liveAhead_7 : decode cX12_liveAhead 7 = .ok (.if_icmp .ne 7, 3) := by decide +kernel
theorem dX12_liveAhead_10 : decode cX12_liveAhead 10 = .ok (.iconst 0, 1) := by decide +kernel
theorem dX12_liveAhead_11 : decode cX12_liveAhead 11 = .ok (.goto 14, 3) := by decide +kernel
theorem dX12_liveAhead_14 : decode cX12_liveAhead 14 = .ok (.aload_n 0, 1) := by decide +kernel
theorem dX12_liveAhead_15 : decode cX12_liveAhead 15 = .ok (.getfield 124, 3) := by decide +kernel
theorem dX12_liveAhead_18 : decode cX12_liveAhead 18 = .ok (.aload_n 0, 1) := by decide +kernel
theorem dX12_liveAhead_19 : decode cX12_liveAhead 19 = .ok (.getfield 56, 3) := by decide +kernel
theorem dX12_liveAhead_22 : decode cX12_liveAhead 22 = .ok (.iload_n 1, 1) := by decide +kernel
theorem dX12_liveAhead_23 : decode cX12_liveAhead 23 = .ok (.iaload, 1) := by decide +kernel
theorem dX12_liveAhead_24 : decode cX12_liveAhead 24 = .ok (.iaload, 1) := by decide +kernel
theorem dX12_liveAhead_25 : decode cX12_liveAhead 25 = .ok (.istore_n 2, 1) := by decide +kernel
theorem dX12_liveAhead_26 : decode cX12_liveAhead 26 = .ok (.aload_n 0, 1) := by decide +kernel
theorem dX12_liveAhead_27 : decode cX12_liveAhead 27 = .ok (.iload_n 1, 1) := by decide +kernel
theorem dX12_liveAhead_28 : decode cX12_liveAhead 28 = .ok (.invokevirtual 473, 3) := by decide +kernel
theorem dX12_liveAhead_31 : decode cX12_liveAhead 31 = .ok (.istore_n 3, 1) := by decide +kernel
theorem dX12_liveAhead_32 : decode cX12_liveAhead 32 = .ok (.aload_n 0, 1) := by decide +kernel
theorem dX12_liveAhead_33 : decode cX12_liveAhead 33 = .ok (.getfield 50, 3) := by decide +kernel
theorem dX12_liveAhead_36 : decode cX12_liveAhead 36 = .ok (.iload_n 1, 1) := by decide +kernel
theorem dX12_liveAhead_37 : decode cX12_liveAhead 37 = .ok (.iaload, 1) := by decide +kernel
theorem dX12_liveAhead_38 : decode cX12_liveAhead 38 = .ok (.istore 4, 2) := by decide +kernel
theorem dX12_liveAhead_40 : decode cX12_liveAhead 40 = .ok (.iload 4, 2) := by decide +kernel
theorem dX12_liveAhead_42 : decode cX12_liveAhead 42 = .ok (.aload_n 0, 1) := by decide +kernel
theorem dX12_liveAhead_43 : decode cX12_liveAhead 43 = .ok (.getfield 47, 3) := by decide +kernel
theorem dX12_liveAhead_46 : decode cX12_liveAhead 46 = .ok (.iload_n 1, 1) := by decide +kernel
theorem dX12_liveAhead_47 : decode cX12_liveAhead 47 = .ok (.iaload, 1) := by decide +kernel
theorem dX12_liveAhead_48 : decode cX12_liveAhead 48 = .ok (.if_icmp .lt 87, 3) := by decide +kernel
theorem dX12_liveAhead_51 : decode cX12_liveAhead 51 = .ok (.aload_n 0, 1) := by decide +kernel
theorem dX12_liveAhead_52 : decode cX12_liveAhead 52 = .ok (.getfield 23, 3) := by decide +kernel
theorem dX12_liveAhead_55 : decode cX12_liveAhead 55 = .ok (.iload 4, 2) := by decide +kernel
theorem dX12_liveAhead_57 : decode cX12_liveAhead 57 = .ok (.iaload, 1) := by decide +kernel
theorem dX12_liveAhead_58 : decode cX12_liveAhead 58 = .ok (.bipush 115, 2) := by decide +kernel
theorem dX12_liveAhead_60 : decode cX12_liveAhead 60 = .ok (.if_icmp .ne 45, 3) := by decide +kernel
theorem dX12_liveAhead_63 : decode cX12_liveAhead 63 = .ok (.aload_n 0, 1) := by decide +kernel
theorem dX12_liveAhead_64 : decode cX12_liveAhead 64 = .ok (.getfield 130, 3) := by decide +kernel
theorem dX12_liveAhead_67 : decode cX12_liveAhead 67 = .ok (.iload 4, 2) := by decide +kernel
theorem dX12_liveAhead_69 : decode cX12_liveAhead 69 = .ok (.iload_n 3, 1) := by decide +kernel
theorem dX12_liveAhead_70 : decode cX12_liveAhead 70 = .ok (.aload_n 0, 1) := by decide +kernel
theorem dX12_liveAhead_71 : decode cX12_liveAhead 71 = .ok (.getfield 26, 3) := by decide +kernel
theorem dX12_liveAhead_74 : decode cX12_liveAhead 74 = .ok (.iload 4, 2) := by decide +kernel
theorem dX12_liveAhead_76 : decode cX12_liveAhead 76 = .ok (.iaload, 1) := by decide +kernel
theorem dX12_liveAhead_77 : decode cX12_liveAhead 77 = .ok (.ishr, 1) := by decide +kernel
theorem dX12_liveAhead_78 : decode cX12_liveAhead 78 = .ok (.iconst 1, 1) := by decide +kernel
theorem dX12_liveAhead_79 : decode cX12_liveAhead 79 = .ok (.iand, 1) := by decide +kernel
theorem dX12_liveAhead_80 : decode cX12_liveAhead 80 = .ok (.ifCond .ne 7, 3) := by decide +kernel
theorem dX12_liveAhead_83 : decode cX12_liveAhead 83 = .ok (.iconst 1, 1) := by decide +kernel
theorem dX12_liveAhead_84 : decode cX12_liveAhead 84 = .ok (.goto 4, 3) := by decide +kernel
theorem dX12_liveAhead_87 : decode cX12_liveAhead 87 = .ok (.iconst 0, 1) := by decide +kernel
theorem dX12_liveAhead_88 : decode cX12_liveAhead 88 = .ok (.bastore, 1) := by decide +kernel
theorem dX12_liveAhead_89 : decode cX12_liveAhead 89 = .ok (.iload_n 3, 1) := by decide +kernel
theorem dX12_liveAhead_90 : decode cX12_liveAhead 90 = .ok (.iconst 1, 1) := by decide +kernel
theorem dX12_liveAhead_91 : decode cX12_liveAhead 91 = .ok (.aload_n 0, 1) := by decide +kernel
theorem dX12_liveAhead_92 : decode cX12_liveAhead 92 = .ok (.getfield 26, 3) := by decide +kernel
theorem dX12_liveAhead_95 : decode cX12_liveAhead 95 = .ok (.iload 4, 2) := by decide +kernel
theorem dX12_liveAhead_97 : decode cX12_liveAhead 97 = .ok (.iaload, 1) := by decide +kernel
theorem dX12_liveAhead_98 : decode cX12_liveAhead 98 = .ok (.ishl, 1) := by decide +kernel
theorem dX12_liveAhead_99 : decode cX12_liveAhead 99 = .ok (.iconst (-1), 1) := by decide +kernel
theorem dX12_liveAhead_100 : decode cX12_liveAhead 100 = .ok (.ixor, 1) := by decide +kernel
theorem dX12_liveAhead_101 : decode cX12_liveAhead 101 = .ok (.iand, 1) := by decide +kernel
theorem dX12_liveAhead_102 : decode cX12_liveAhead 102 = .ok (.iload_n 2, 1) := by decide +kernel
theorem dX12_liveAhead_103 : decode cX12_liveAhead 103 = .ok (.ior, 1) := by decide +kernel
theorem dX12_liveAhead_104 : decode cX12_liveAhead 104 = .ok (.istore_n 3, 1) := by decide +kernel
theorem dX12_liveAhead_105 : decode cX12_liveAhead 105 = .ok (.aload_n 0, 1) := by decide +kernel
theorem dX12_liveAhead_106 : decode cX12_liveAhead 106 = .ok (.getfield 23, 3) := by decide +kernel
theorem dX12_liveAhead_109 : decode cX12_liveAhead 109 = .ok (.iload 4, 2) := by decide +kernel
theorem dX12_liveAhead_111 : decode cX12_liveAhead 111 = .ok (.iaload, 1) := by decide +kernel
theorem dX12_liveAhead_112 : decode cX12_liveAhead 112 = .ok (.bipush 108, 2) := by decide +kernel
theorem dX12_liveAhead_114 : decode cX12_liveAhead 114 = .ok (.if_icmp .ne 15, 3) := by decide +kernel
theorem dX12_liveAhead_117 : decode cX12_liveAhead 117 = .ok (.iload_n 3, 1) := by decide +kernel
theorem dX12_liveAhead_118 : decode cX12_liveAhead 118 = .ok (.iconst 1, 1) := by decide +kernel
theorem dX12_liveAhead_119 : decode cX12_liveAhead 119 = .ok (.aload_n 0, 1) := by decide +kernel
theorem dX12_liveAhead_120 : decode cX12_liveAhead 120 = .ok (.getfield 26, 3) := by decide +kernel
theorem dX12_liveAhead_123 : decode cX12_liveAhead 123 = .ok (.iload 4, 2) := by decide +kernel
theorem dX12_liveAhead_125 : decode cX12_liveAhead 125 = .ok (.iaload, 1) := by decide +kernel
theorem dX12_liveAhead_126 : decode cX12_liveAhead 126 = .ok (.ishl, 1) := by decide +kernel
theorem dX12_liveAhead_127 : decode cX12_liveAhead 127 = .ok (.ior, 1) := by decide +kernel
theorem dX12_liveAhead_128 : decode cX12_liveAhead 128 = .ok (.istore_n 3, 1) := by decide +kernel
theorem dX12_liveAhead_129 : decode cX12_liveAhead 129 = .ok (.iinc 4 (-1), 3) := by decide +kernel
theorem dX12_liveAhead_132 : decode cX12_liveAhead 132 = .ok (.goto (-92), 3) := by decide +kernel
theorem dX12_liveAhead_135 : decode cX12_liveAhead 135 = .ok (.iload_n 3, 1) := by decide +kernel
theorem dX12_liveAhead_136 : decode cX12_liveAhead 136 = .ok (.iload_n 2, 1) := by decide +kernel
theorem dX12_liveAhead_137 : decode cX12_liveAhead 137 = .ok (.ior, 1) := by decide +kernel
theorem dX12_liveAhead_138 : decode cX12_liveAhead 138 = .ok (.ireturn, 1) := by decide +kernel
theorem dX12_laysLive_0 : decode cX12_laysLive 0 = .ok (.iconst 0, 1) := by decide +kernel
theorem dX12_laysLive_1 : decode cX12_laysLive 1 = .ok (.istore_n 1, 1) := by decide +kernel
theorem dX12_laysLive_2 : decode cX12_laysLive 2 = .ok (.iload_n 1, 1) := by decide +kernel
theorem dX12_laysLive_3 : decode cX12_laysLive 3 = .ok (.aload_n 0, 1) := by decide +kernel
theorem dX12_laysLive_4 : decode cX12_laysLive 4 = .ok (.getfield 299, 3) := by decide +kernel
theorem dX12_laysLive_7 : decode cX12_laysLive 7 = .ok (.if_icmp .ge 16, 3) := by decide +kernel
theorem dX12_laysLive_10 : decode cX12_laysLive 10 = .ok (.aload_n 0, 1) := by decide +kernel
theorem dX12_laysLive_11 : decode cX12_laysLive 11 = .ok (.getfield 124, 3) := by decide +kernel
theorem dX12_laysLive_14 : decode cX12_laysLive 14 = .ok (.iload_n 1, 1) := by decide +kernel
theorem dX12_laysLive_15 : decode cX12_laysLive 15 = .ok (.iconst 0, 1) := by decide +kernel
theorem dX12_laysLive_16 : decode cX12_laysLive 16 = .ok (.iastore, 1) := by decide +kernel
theorem dX12_laysLive_17 : decode cX12_laysLive 17 = .ok (.iinc 1 1, 3) := by decide +kernel
theorem dX12_laysLive_20 : decode cX12_laysLive 20 = .ok (.goto (-18), 3) := by decide +kernel
theorem dX12_laysLive_23 : decode cX12_laysLive 23 = .ok (.iconst 0, 1) := by decide +kernel
theorem dX12_laysLive_24 : decode cX12_laysLive 24 = .ok (.istore_n 1, 1) := by decide +kernel
theorem dX12_laysLive_25 : decode cX12_laysLive 25 = .ok (.iload_n 1, 1) := by decide +kernel
theorem dX12_laysLive_26 : decode cX12_laysLive 26 = .ok (.bipush 40, 2) := by decide +kernel
theorem dX12_laysLive_28 : decode cX12_laysLive 28 = .ok (.if_icmp .ge 16, 3) := by decide +kernel
theorem dX12_laysLive_31 : decode cX12_laysLive 31 = .ok (.aload_n 0, 1) := by decide +kernel
theorem dX12_laysLive_32 : decode cX12_laysLive 32 = .ok (.getfield 130, 3) := by decide +kernel
theorem dX12_laysLive_35 : decode cX12_laysLive 35 = .ok (.iload_n 1, 1) := by decide +kernel
theorem dX12_laysLive_36 : decode cX12_laysLive 36 = .ok (.iconst 0, 1) := by decide +kernel
theorem dX12_laysLive_37 : decode cX12_laysLive 37 = .ok (.bastore, 1) := by decide +kernel
theorem dX12_laysLive_38 : decode cX12_laysLive 38 = .ok (.iinc 1 1, 3) := by decide +kernel
theorem dX12_laysLive_41 : decode cX12_laysLive 41 = .ok (.goto (-16), 3) := by decide +kernel
theorem dX12_laysLive_44 : decode cX12_laysLive 44 = .ok (.iconst 1, 1) := by decide +kernel
theorem dX12_laysLive_45 : decode cX12_laysLive 45 = .ok (.istore_n 1, 1) := by decide +kernel
theorem dX12_laysLive_46 : decode cX12_laysLive 46 = .ok (.iload_n 1, 1) := by decide +kernel
theorem dX12_laysLive_47 : decode cX12_laysLive 47 = .ok (.ifCond .eq 58, 3) := by decide +kernel
theorem dX12_laysLive_50 : decode cX12_laysLive 50 = .ok (.iconst 0, 1) := by decide +kernel
theorem dX12_laysLive_51 : decode cX12_laysLive 51 = .ok (.istore_n 1, 1) := by decide +kernel
theorem dX12_laysLive_52 : decode cX12_laysLive 52 = .ok (.aload_n 0, 1) := by decide +kernel
theorem dX12_laysLive_53 : decode cX12_laysLive 53 = .ok (.getfield 299, 3) := by decide +kernel
theorem dX12_laysLive_56 : decode cX12_laysLive 56 = .ok (.iconst 1, 1) := by decide +kernel
theorem dX12_laysLive_57 : decode cX12_laysLive 57 = .ok (.isub, 1) := by decide +kernel
theorem dX12_laysLive_58 : decode cX12_laysLive 58 = .ok (.istore_n 2, 1) := by decide +kernel
theorem dX12_laysLive_59 : decode cX12_laysLive 59 = .ok (.iload_n 2, 1) := by decide +kernel
theorem dX12_laysLive_60 : decode cX12_laysLive 60 = .ok (.ifCond .lt 42, 3) := by decide +kernel
theorem dX12_laysLive_63 : decode cX12_laysLive 63 = .ok (.aload_n 0, 1) := by decide +kernel
theorem dX12_laysLive_64 : decode cX12_laysLive 64 = .ok (.iload_n 2, 1) := by decide +kernel
theorem dX12_laysLive_65 : decode cX12_laysLive 65 = .ok (.invokevirtual 476, 3) := by decide +kernel
theorem dX12_laysLive_68 : decode cX12_laysLive 68 = .ok (.istore_n 3, 1) := by decide +kernel
theorem dX12_laysLive_69 : decode cX12_laysLive 69 = .ok (.iload_n 1, 1) := by decide +kernel
theorem dX12_laysLive_70 : decode cX12_laysLive 70 = .ok (.ifCond .ne 13, 3) := by decide +kernel
theorem dX12_laysLive_73 : decode cX12_laysLive 73 = .ok (.iload_n 3, 1) := by decide +kernel
theorem dX12_laysLive_74 : decode cX12_laysLive 74 = .ok (.aload_n 0, 1) := by decide +kernel
theorem dX12_laysLive_75 : decode cX12_laysLive 75 = .ok (.getfield 124, 3) := by decide +kernel
theorem dX12_laysLive_78 : decode cX12_laysLive 78 = .ok (.iload_n 2, 1) := by decide +kernel
theorem dX12_laysLive_79 : decode cX12_laysLive 79 = .ok (.iaload, 1) := by decide +kernel
theorem dX12_laysLive_80 : decode cX12_laysLive 80 = .ok (.if_icmp .eq 7, 3) := by decide +kernel
theorem dX12_laysLive_83 : decode cX12_laysLive 83 = .ok (.iconst 1, 1) := by decide +kernel
theorem dX12_laysLive_84 : decode cX12_laysLive 84 = .ok (.goto 4, 3) := by decide +kernel
theorem dX12_laysLive_87 : decode cX12_laysLive 87 = .ok (.iconst 0, 1) := by decide +kernel
theorem dX12_laysLive_88 : decode cX12_laysLive 88 = .ok (.istore_n 1, 1) := by decide +kernel
theorem dX12_laysLive_89 : decode cX12_laysLive 89 = .ok (.aload_n 0, 1) := by decide +kernel
theorem dX12_laysLive_90 : decode cX12_laysLive 90 = .ok (.getfield 124, 3) := by decide +kernel
theorem dX12_laysLive_93 : decode cX12_laysLive 93 = .ok (.iload_n 2, 1) := by decide +kernel
theorem dX12_laysLive_94 : decode cX12_laysLive 94 = .ok (.iload_n 3, 1) := by decide +kernel
theorem dX12_laysLive_95 : decode cX12_laysLive 95 = .ok (.iastore, 1) := by decide +kernel
theorem dX12_laysLive_96 : decode cX12_laysLive 96 = .ok (.iinc 2 (-1), 3) := by decide +kernel
theorem dX12_laysLive_99 : decode cX12_laysLive 99 = .ok (.goto (-40), 3) := by decide +kernel
theorem dX12_laysLive_102 : decode cX12_laysLive 102 = .ok (.goto (-56), 3) := by decide +kernel
theorem dX12_laysLive_105 : decode cX12_laysLive 105 = .ok (.iconst 0, 1) := by decide +kernel
theorem dX12_laysLive_106 : decode cX12_laysLive 106 = .ok (.istore_n 2, 1) := by decide +kernel
theorem dX12_laysLive_107 : decode cX12_laysLive 107 = .ok (.iload_n 2, 1) := by decide +kernel
theorem dX12_laysLive_108 : decode cX12_laysLive 108 = .ok (.aload_n 0, 1) := by decide +kernel
theorem dX12_laysLive_109 : decode cX12_laysLive 109 = .ok (.getfield 299, 3) := by decide +kernel
theorem dX12_laysLive_112 : decode cX12_laysLive 112 = .ok (.if_icmp .ge 20, 3) := by decide +kernel
theorem dX12_laysLive_115 : decode cX12_laysLive 115 = .ok (.aload_n 0, 1) := by decide +kernel
theorem dX12_laysLive_116 : decode cX12_laysLive 116 = .ok (.getfield 127, 3) := by decide +kernel
theorem dX12_laysLive_119 : decode cX12_laysLive 119 = .ok (.iload_n 2, 1) := by decide +kernel
theorem dX12_laysLive_120 : decode cX12_laysLive 120 = .ok (.aload_n 0, 1) := by decide +kernel
theorem dX12_laysLive_121 : decode cX12_laysLive 121 = .ok (.iload_n 2, 1) := by decide +kernel
theorem dX12_laysLive_122 : decode cX12_laysLive 122 = .ok (.invokevirtual 473, 3) := by decide +kernel
theorem dX12_laysLive_125 : decode cX12_laysLive 125 = .ok (.iastore, 1) := by decide +kernel
theorem dX12_laysLive_126 : decode cX12_laysLive 126 = .ok (.iinc 2 1, 3) := by decide +kernel
theorem dX12_laysLive_129 : decode cX12_laysLive 129 = .ok (.goto (-22), 3) := by decide +kernel
theorem dX12_laysLive_132 : decode cX12_laysLive 132 = .ok (.return_, 1) := by decide +kernel
theorem dX12_line_0 : decode cX12_line 0 = .ok (.aload_n 0, 1) := by decide +kernel
theorem dX12_line_1 : decode cX12_line 1 = .ok (.getfield 133, 3) := by decide +kernel
theorem dX12_line_4 : decode cX12_line 4 = .ok (.aload_n 0, 1) := by decide +kernel
theorem dX12_line_5 : decode cX12_line 5 = .ok (.getfield 479, 3) := by decide +kernel
theorem dX12_line_8 : decode cX12_line 8 = .ok (.iload_n 1, 1) := by decide +kernel
theorem dX12_line_9 : decode cX12_line 9 = .ok (.iastore, 1) := by decide +kernel
theorem dX12_line_10 : decode cX12_line 10 = .ok (.aload_n 0, 1) := by decide +kernel
theorem dX12_line_11 : decode cX12_line 11 = .ok (.getfield 136, 3) := by decide +kernel
theorem dX12_line_14 : decode cX12_line 14 = .ok (.aload_n 0, 1) := by decide +kernel
theorem dX12_line_15 : decode cX12_line 15 = .ok (.getfield 479, 3) := by decide +kernel
theorem dX12_line_18 : decode cX12_line 18 = .ok (.iload_n 2, 1) := by decide +kernel
theorem dX12_line_19 : decode cX12_line 19 = .ok (.iastore, 1) := by decide +kernel
theorem dX12_line_20 : decode cX12_line 20 = .ok (.aload_n 0, 1) := by decide +kernel
theorem dX12_line_21 : decode cX12_line 21 = .ok (.getfield 142, 3) := by decide +kernel
theorem dX12_line_24 : decode cX12_line 24 = .ok (.aload_n 0, 1) := by decide +kernel
theorem dX12_line_25 : decode cX12_line 25 = .ok (.getfield 479, 3) := by decide +kernel
theorem dX12_line_28 : decode cX12_line 28 = .ok (.iload_n 3, 1) := by decide +kernel
theorem dX12_line_29 : decode cX12_line 29 = .ok (.iastore, 1) := by decide +kernel
theorem dX12_line_30 : decode cX12_line 30 = .ok (.aload_n 0, 1) := by decide +kernel
theorem dX12_line_31 : decode cX12_line 31 = .ok (.getfield 139, 3) := by decide +kernel
theorem dX12_line_34 : decode cX12_line 34 = .ok (.aload_n 0, 1) := by decide +kernel
theorem dX12_line_35 : decode cX12_line 35 = .ok (.getfield 479, 3) := by decide +kernel
theorem dX12_line_38 : decode cX12_line 38 = .ok (.aload_n 0, 1) := by decide +kernel
theorem dX12_line_39 : decode cX12_line 39 = .ok (.getfield 482, 3) := by decide +kernel
theorem dX12_line_42 : decode cX12_line 42 = .ok (.iastore, 1) := by decide +kernel
theorem dX12_line_43 : decode cX12_line 43 = .ok (.aload_n 0, 1) := by decide +kernel
theorem dX12_line_44 : decode cX12_line 44 = .ok (.dup, 1) := by decide +kernel
theorem dX12_line_45 : decode cX12_line 45 = .ok (.getfield 479, 3) := by decide +kernel
theorem dX12_line_48 : decode cX12_line 48 = .ok (.iconst 1, 1) := by decide +kernel
theorem dX12_line_49 : decode cX12_line 49 = .ok (.iadd, 1) := by decide +kernel
theorem dX12_line_50 : decode cX12_line 50 = .ok (.putfield 479, 3) := by decide +kernel
theorem dX12_line_53 : decode cX12_line 53 = .ok (.return_, 1) := by decide +kernel
theorem dX12_opens_0 : decode cX12_opens 0 = .ok (.aload_n 0, 1) := by decide +kernel
theorem dX12_opens_1 : decode cX12_opens 1 = .ok (.iload_n 1, 1) := by decide +kernel
theorem dX12_opens_2 : decode cX12_opens 2 = .ok (.iload_n 2, 1) := by decide +kernel
theorem dX12_opens_3 : decode cX12_opens 3 = .ok (.iconst (-1), 1) := by decide +kernel
theorem dX12_opens_4 : decode cX12_opens 4 = .ok (.invokevirtual 485, 3) := by decide +kernel
theorem dX12_opens_7 : decode cX12_opens 7 = .ok (.aload_n 0, 1) := by decide +kernel
theorem dX12_opens_8 : decode cX12_opens 8 = .ok (.dup, 1) := by decide +kernel
theorem dX12_opens_9 : decode cX12_opens 9 = .ok (.getfield 482, 3) := by decide +kernel
theorem dX12_opens_12 : decode cX12_opens 12 = .ok (.iconst 1, 1) := by decide +kernel
theorem dX12_opens_13 : decode cX12_opens 13 = .ok (.iadd, 1) := by decide +kernel
theorem dX12_opens_14 : decode cX12_opens 14 = .ok (.putfield 482, 3) := by decide +kernel
theorem dX12_opens_17 : decode cX12_opens 17 = .ok (.return_, 1) := by decide +kernel
theorem dX12_closes_0 : decode cX12_closes 0 = .ok (.aload_n 0, 1) := by decide +kernel
theorem dX12_closes_1 : decode cX12_closes 1 = .ok (.dup, 1) := by decide +kernel
theorem dX12_closes_2 : decode cX12_closes 2 = .ok (.getfield 482, 3) := by decide +kernel
theorem dX12_closes_5 : decode cX12_closes 5 = .ok (.iconst 1, 1) := by decide +kernel
theorem dX12_closes_6 : decode cX12_closes 6 = .ok (.isub, 1) := by decide +kernel
theorem dX12_closes_7 : decode cX12_closes 7 = .ok (.putfield 482, 3) := by decide +kernel
theorem dX12_closes_10 : decode cX12_closes 10 = .ok (.aload_n 0, 1) := by decide +kernel
theorem dX12_closes_11 : decode cX12_closes 11 = .ok (.iconst 5, 1) := by decide +kernel
theorem dX12_closes_12 : decode cX12_closes 12 = .ok (.iload_n 1, 1) := by decide +kernel
theorem dX12_closes_13 : decode cX12_closes 13 = .ok (.iload_n 2, 1) := by decide +kernel
theorem dX12_closes_14 : decode cX12_closes 14 = .ok (.invokevirtual 485, 3) := by decide +kernel
theorem dX12_closes_17 : decode cX12_closes 17 = .ok (.return_, 1) := by decide +kernel
theorem dX12_tells__0 : decode cX12_tells_ 0 = .ok (.aload_n 0, 1) := by decide +kernel
theorem dX12_tells__1 : decode cX12_tells_ 1 = .ok (.getfield 79, 3) := by decide +kernel
theorem dX12_tells__4 : decode cX12_tells_ 4 = .ok (.iload_n 1, 1) := by decide +kernel
theorem dX12_tells__5 : decode cX12_tells_ 5 = .ok (.laload, 1) := by decide +kernel
theorem dX12_tells__6 : decode cX12_tells_ 6 = .ok (.lconst 0, 1) := by decide +kernel
theorem dX12_tells__7 : decode cX12_tells_ 7 = .ok (.lcmp, 1) := by decide +kernel
theorem dX12_tells__8 : decode cX12_tells_ 8 = .ok (.ifCond .eq 9, 3) := by decide +kernel
theorem dX12_tells__11 : decode cX12_tells_ 11 = .ok (.aload_n 0, 1) := by decide +kernel
theorem dX12_tells__12 : decode cX12_tells_ 12 = .ok (.iconst 1, 1) := by decide +kernel
theorem dX12_tells__13 : decode cX12_tells_ 13 = .ok (.iload_n 1, 1) := by decide +kernel
theorem dX12_tells__14 : decode cX12_tells_ 14 = .ok (.invokevirtual 488, 3) := by decide +kernel
theorem dX12_tells__17 : decode cX12_tells_ 17 = .ok (.aload_n 0, 1) := by decide +kernel
theorem dX12_tells__18 : decode cX12_tells_ 18 = .ok (.iload_n 1, 1) := by decide +kernel
theorem dX12_tells__19 : decode cX12_tells_ 19 = .ok (.aload_n 0, 1) := by decide +kernel
theorem dX12_tells__20 : decode cX12_tells_ 20 = .ok (.getfield 299, 3) := by decide +kernel
theorem dX12_tells__23 : decode cX12_tells_ 23 = .ok (.invokevirtual 491, 3) := by decide +kernel
theorem dX12_tells__26 : decode cX12_tells_ 26 = .ok (.aload_n 0, 1) := by decide +kernel
theorem dX12_tells__27 : decode cX12_tells_ 27 = .ok (.getfield 79, 3) := by decide +kernel
theorem dX12_tells__30 : decode cX12_tells_ 30 = .ok (.iload_n 1, 1) := by decide +kernel
theorem dX12_tells__31 : decode cX12_tells_ 31 = .ok (.laload, 1) := by decide +kernel
theorem dX12_tells__32 : decode cX12_tells_ 32 = .ok (.lconst 0, 1) := by decide +kernel
theorem dX12_tells__33 : decode cX12_tells_ 33 = .ok (.lcmp, 1) := by decide +kernel
theorem dX12_tells__34 : decode cX12_tells_ 34 = .ok (.ifCond .eq 9, 3) := by decide +kernel
theorem dX12_tells__37 : decode cX12_tells_ 37 = .ok (.aload_n 0, 1) := by decide +kernel
theorem dX12_tells__38 : decode cX12_tells_ 38 = .ok (.iload_n 1, 1) := by decide +kernel
theorem dX12_tells__39 : decode cX12_tells_ 39 = .ok (.iconst 1, 1) := by decide +kernel
theorem dX12_tells__40 : decode cX12_tells_ 40 = .ok (.invokevirtual 494, 3) := by decide +kernel
theorem dX12_tells__43 : decode cX12_tells_ 43 = .ok (.return_, 1) := by decide +kernel
theorem dX12_merges_0 : decode cX12_merges 0 = .ok (.iconst (-1), 1) := by decide +kernel
theorem dX12_merges_1 : decode cX12_merges 1 = .ok (.istore_n 3, 1) := by decide +kernel
theorem dX12_merges_2 : decode cX12_merges 2 = .ok (.iconst 0, 1) := by decide +kernel
theorem dX12_merges_3 : decode cX12_merges 3 = .ok (.istore 4, 2) := by decide +kernel
theorem dX12_merges_5 : decode cX12_merges 5 = .ok (.iload 4, 2) := by decide +kernel
theorem dX12_merges_7 : decode cX12_merges 7 = .ok (.aload_n 0, 1) := by decide +kernel
theorem dX12_merges_8 : decode cX12_merges 8 = .ok (.getfield 299, 3) := by decide +kernel
theorem dX12_merges_11 : decode cX12_merges 11 = .ok (.if_icmp .ge 64, 3) := by decide +kernel
theorem dX12_merges_14 : decode cX12_merges 14 = .ok (.aload_n 0, 1) := by decide +kernel
theorem dX12_merges_15 : decode cX12_merges 15 = .ok (.getfield 85, 3) := by decide +kernel
theorem dX12_merges_18 : decode cX12_merges 18 = .ok (.iload 4, 2) := by decide +kernel
theorem dX12_merges_20 : decode cX12_merges 20 = .ok (.iaload, 1) := by decide +kernel
theorem dX12_merges_21 : decode cX12_merges 21 = .ok (.iload_n 1, 1) := by decide +kernel
theorem dX12_merges_22 : decode cX12_merges 22 = .ok (.if_icmp .ne 47, 3) := by decide +kernel
theorem dX12_merges_25 : decode cX12_merges 25 = .ok (.aload_n 0, 1) := by decide +kernel
theorem dX12_merges_26 : decode cX12_merges 26 = .ok (.iload 4, 2) := by decide +kernel
theorem dX12_merges_28 : decode cX12_merges 28 = .ok (.invokevirtual 497, 3) := by decide +kernel
theorem dX12_merges_31 : decode cX12_merges 31 = .ok (.ifCond .eq 38, 3) := by decide +kernel
theorem dX12_merges_34 : decode cX12_merges 34 = .ok (.aload_n 0, 1) := by decide +kernel
theorem dX12_merges_35 : decode cX12_merges 35 = .ok (.getfield 82, 3) := by decide +kernel
theorem dX12_merges_38 : decode cX12_merges 38 = .ok (.iload 4, 2) := by decide +kernel
theorem dX12_merges_40 : decode cX12_merges 40 = .ok (.iaload, 1) := by decide +kernel
theorem dX12_merges_41 : decode cX12_merges 41 = .ok (.iload_n 2, 1) := by decide +kernel
theorem dX12_merges_42 : decode cX12_merges 42 = .ok (.if_icmp .ge 27, 3) := by decide +kernel
theorem dX12_merges_45 : decode cX12_merges 45 = .ok (.iload_n 3, 1) := by decide +kernel
theorem dX12_merges_46 : decode cX12_merges 46 = .ok (.iconst (-1), 1) := by decide +kernel
theorem dX12_merges_47 : decode cX12_merges 47 = .ok (.if_icmp .eq 19, 3) := by decide +kernel
theorem dX12_merges_50 : decode cX12_merges 50 = .ok (.aload_n 0, 1) := by decide +kernel
theorem dX12_merges_51 : decode cX12_merges 51 = .ok (.getfield 82, 3) := by decide +kernel
theorem dX12_merges_54 : decode cX12_merges 54 = .ok (.iload 4, 2) := by decide +kernel
theorem dX12_merges_56 : decode cX12_merges 56 = .ok (.iaload, 1) := by decide +kernel
theorem dX12_merges_57 : decode cX12_merges 57 = .ok (.aload_n 0, 1) := by decide +kernel
theorem dX12_merges_58 : decode cX12_merges 58 = .ok (.getfield 82, 3) := by decide +kernel
theorem dX12_merges_61 : decode cX12_merges 61 = .ok (.iload_n 3, 1) := by decide +kernel
theorem dX12_merges_62 : decode cX12_merges 62 = .ok (.iaload, 1) := by decide +kernel
theorem dX12_merges_63 : decode cX12_merges 63 = .ok (.if_icmp .le 6, 3) := by decide +kernel
theorem dX12_merges_66 : decode cX12_merges 66 = .ok (.iload 4, 2) := by decide +kernel
theorem dX12_merges_68 : decode cX12_merges 68 = .ok (.istore_n 3, 1) := by decide +kernel
theorem dX12_merges_69 : decode cX12_merges 69 = .ok (.iinc 4 1, 3) := by decide +kernel
theorem dX12_merges_72 : decode cX12_merges 72 = .ok (.goto (-67), 3) := by decide +kernel
theorem dX12_merges_75 : decode cX12_merges 75 = .ok (.iload_n 3, 1) := by decide +kernel
theorem dX12_merges_76 : decode cX12_merges 76 = .ok (.iconst (-1), 1) := by decide +kernel
theorem dX12_merges_77 : decode cX12_merges 77 = .ok (.if_icmp .ne 9, 3) := by decide +kernel
theorem dX12_merges_80 : decode cX12_merges 80 = .ok (.aload_n 0, 1) := by decide +kernel
theorem dX12_merges_81 : decode cX12_merges 81 = .ok (.iload_n 1, 1) := by decide +kernel
theorem dX12_merges_82 : decode cX12_merges 82 = .ok (.invokevirtual 500, 3) := by decide +kernel
theorem dX12_merges_85 : decode cX12_merges 85 = .ok (.return_, 1) := by decide +kernel
theorem dX12_merges_86 : decode cX12_merges 86 = .ok (.aload_n 0, 1) := by decide +kernel
theorem dX12_merges_87 : decode cX12_merges 87 = .ok (.iconst 2, 1) := by decide +kernel
theorem dX12_merges_88 : decode cX12_merges 88 = .ok (.iload_n 3, 1) := by decide +kernel
theorem dX12_merges_89 : decode cX12_merges 89 = .ok (.invokevirtual 488, 3) := by decide +kernel
theorem dX12_merges_92 : decode cX12_merges 92 = .ok (.aload_n 0, 1) := by decide +kernel
theorem dX12_merges_93 : decode cX12_merges 93 = .ok (.iload_n 1, 1) := by decide +kernel
theorem dX12_merges_94 : decode cX12_merges 94 = .ok (.aload_n 0, 1) := by decide +kernel
theorem dX12_merges_95 : decode cX12_merges 95 = .ok (.getfield 82, 3) := by decide +kernel
theorem dX12_merges_98 : decode cX12_merges 98 = .ok (.iload_n 3, 1) := by decide +kernel
theorem dX12_merges_99 : decode cX12_merges 99 = .ok (.iaload, 1) := by decide +kernel
theorem dX12_merges_100 : decode cX12_merges 100 = .ok (.invokevirtual 491, 3) := by decide +kernel
theorem dX12_merges_103 : decode cX12_merges 103 = .ok (.aload_n 0, 1) := by decide +kernel
theorem dX12_merges_104 : decode cX12_merges 104 = .ok (.iload_n 3, 1) := by decide +kernel
theorem dX12_merges_105 : decode cX12_merges 105 = .ok (.iconst 2, 1) := by decide +kernel
theorem dX12_merges_106 : decode cX12_merges 106 = .ok (.invokevirtual 494, 3) := by decide +kernel
theorem dX12_merges_109 : decode cX12_merges 109 = .ok (.aload_n 0, 1) := by decide +kernel
theorem dX12_merges_110 : decode cX12_merges 110 = .ok (.iload_n 3, 1) := by decide +kernel
theorem dX12_merges_111 : decode cX12_merges 111 = .ok (.invokevirtual 503, 3) := by decide +kernel
theorem dX12_merges_114 : decode cX12_merges 114 = .ok (.return_, 1) := by decide +kernel
theorem dX12_inner_0 : decode cX12_inner 0 = .ok (.aload_n 0, 1) := by decide +kernel
theorem dX12_inner_1 : decode cX12_inner 1 = .ok (.bipush 11, 2) := by decide +kernel
theorem dX12_inner_3 : decode cX12_inner 3 = .ok (.iload_n 1, 1) := by decide +kernel
theorem dX12_inner_4 : decode cX12_inner 4 = .ok (.iconst (-1), 1) := by decide +kernel
theorem dX12_inner_5 : decode cX12_inner 5 = .ok (.invokevirtual 485, 3) := by decide +kernel
theorem dX12_inner_8 : decode cX12_inner 8 = .ok (.aload_n 0, 1) := by decide +kernel
theorem dX12_inner_9 : decode cX12_inner 9 = .ok (.getfield 56, 3) := by decide +kernel
theorem dX12_inner_12 : decode cX12_inner 12 = .ok (.iload_n 1, 1) := by decide +kernel
theorem dX12_inner_13 : decode cX12_inner 13 = .ok (.iaload, 1) := by decide +kernel
theorem dX12_inner_14 : decode cX12_inner 14 = .ok (.iconst (-1), 1) := by decide +kernel
theorem dX12_inner_15 : decode cX12_inner 15 = .ok (.if_icmp .eq 7, 3) := by decide +kernel
theorem dX12_inner_18 : decode cX12_inner 18 = .ok (.iconst 1, 1) := by decide +kernel
theorem dX12_inner_19 : decode cX12_inner 19 = .ok (.goto 4, 3) := by decide +kernel
theorem dX12_inner_22 : decode cX12_inner 22 = .ok (.iconst 0, 1) := by decide +kernel
theorem dX12_inner_23 : decode cX12_inner 23 = .ok (.istore_n 2, 1) := by decide +kernel
theorem dX12_inner_24 : decode cX12_inner 24 = .ok (.iload_n 2, 1) := by decide +kernel
theorem dX12_inner_25 : decode cX12_inner 25 = .ok (.ifCond .eq 10, 3) := by decide +kernel
theorem dX12_inner_28 : decode cX12_inner 28 = .ok (.aload_n 0, 1) := by decide +kernel
theorem dX12_inner_29 : decode cX12_inner 29 = .ok (.bipush 9, 2) := by decide +kernel
theorem dX12_inner_31 : decode cX12_inner 31 = .ok (.iload_n 1, 1) := by decide +kernel
theorem dX12_inner_32 : decode cX12_inner 32 = .ok (.invokevirtual 488, 3) := by decide +kernel
theorem dX12_inner_35 : decode cX12_inner 35 = .ok (.aload_n 0, 1) := by decide +kernel
theorem dX12_inner_36 : decode cX12_inner 36 = .ok (.getfield 106, 3) := by decide +kernel
theorem dX12_inner_39 : decode cX12_inner 39 = .ok (.iload_n 1, 1) := by decide +kernel
theorem dX12_inner_40 : decode cX12_inner 40 = .ok (.iaload, 1) := by decide +kernel
theorem dX12_inner_41 : decode cX12_inner 41 = .ok (.istore_n 3, 1) := by decide +kernel
theorem dX12_inner_42 : decode cX12_inner 42 = .ok (.iload_n 3, 1) := by decide +kernel
theorem dX12_inner_43 : decode cX12_inner 43 = .ok (.aload_n 0, 1) := by decide +kernel
theorem dX12_inner_44 : decode cX12_inner 44 = .ok (.getfield 106, 3) := by decide +kernel
theorem dX12_inner_47 : decode cX12_inner 47 = .ok (.iload_n 1, 1) := by decide +kernel
theorem dX12_inner_48 : decode cX12_inner 48 = .ok (.iconst 1, 1) := by decide +kernel
theorem dX12_inner_49 : decode cX12_inner 49 = .ok (.iadd, 1) := by decide +kernel
theorem dX12_inner_50 : decode cX12_inner 50 = .ok (.iaload, 1) := by decide +kernel
theorem dX12_inner_51 : decode cX12_inner 51 = .ok (.if_icmp .ge 16, 3) := by decide +kernel
theorem dX12_inner_54 : decode cX12_inner 54 = .ok (.aload_n 0, 1) := by decide +kernel
theorem dX12_inner_55 : decode cX12_inner 55 = .ok (.iconst 0, 1) := by decide +kernel
theorem dX12_inner_56 : decode cX12_inner 56 = .ok (.iload_n 1, 1) := by decide +kernel
theorem dX12_inner_57 : decode cX12_inner 57 = .ok (.iload_n 3, 1) := by decide +kernel
theorem dX12_inner_58 : decode cX12_inner 58 = .ok (.invokevirtual 485, 3) := by decide +kernel
theorem dX12_inner_61 : decode cX12_inner 61 = .ok (.iinc 3 1, 3) := by decide +kernel
theorem dX12_inner_64 : decode cX12_inner 64 = .ok (.goto (-22), 3) := by decide +kernel
theorem dX12_inner_67 : decode cX12_inner 67 = .ok (.iload_n 2, 1) := by decide +kernel
theorem dX12_inner_68 : decode cX12_inner 68 = .ok (.ifCond .eq 26, 3) := by decide +kernel
theorem dX12_inner_71 : decode cX12_inner 71 = .ok (.aload_n 0, 1) := by decide +kernel
theorem dX12_inner_72 : decode cX12_inner 72 = .ok (.dup, 1) := by decide +kernel
theorem dX12_inner_73 : decode cX12_inner 73 = .ok (.getfield 482, 3) := by decide +kernel
theorem dX12_inner_76 : decode cX12_inner 76 = .ok (.iconst 1, 1) := by decide +kernel
theorem dX12_inner_77 : decode cX12_inner 77 = .ok (.isub, 1) := by decide +kernel
theorem dX12_inner_78 : decode cX12_inner 78 = .ok (.putfield 482, 3) := by decide +kernel
theorem dX12_inner_81 : decode cX12_inner 81 = .ok (.aload_n 0, 1) := by decide +kernel
theorem dX12_inner_82 : decode cX12_inner 82 = .ok (.bipush 10, 2) := by decide +kernel
theorem dX12_inner_84 : decode cX12_inner 84 = .ok (.aload_n 0, 1) := by decide +kernel
theorem dX12_inner_85 : decode cX12_inner 85 = .ok (.getfield 56, 3) := by decide +kernel
theorem dX12_inner_88 : decode cX12_inner 88 = .ok (.iload_n 1, 1) := by decide +kernel
theorem dX12_inner_89 : decode cX12_inner 89 = .ok (.iaload, 1) := by decide +kernel
theorem dX12_inner_90 : decode cX12_inner 90 = .ok (.iload_n 1, 1) := by decide +kernel
theorem dX12_inner_91 : decode cX12_inner 91 = .ok (.invokevirtual 485, 3) := by decide +kernel
theorem dX12_inner_94 : decode cX12_inner 94 = .ok (.aload_n 0, 1) := by decide +kernel
theorem dX12_inner_95 : decode cX12_inner 95 = .ok (.getfield 23, 3) := by decide +kernel
theorem dX12_inner_98 : decode cX12_inner 98 = .ok (.aload_n 0, 1) := by decide +kernel
theorem dX12_inner_99 : decode cX12_inner 99 = .ok (.getfield 50, 3) := by decide +kernel
theorem dX12_inner_102 : decode cX12_inner 102 = .ok (.iload_n 1, 1) := by decide +kernel
theorem dX12_inner_103 : decode cX12_inner 103 = .ok (.iaload, 1) := by decide +kernel
theorem dX12_inner_104 : decode cX12_inner 104 = .ok (.iaload, 1) := by decide +kernel
theorem dX12_inner_105 : decode cX12_inner 105 = .ok (.istore_n 3, 1) := by decide +kernel
theorem dX12_inner_106 : decode cX12_inner 106 = .ok (.aload_n 0, 1) := by decide +kernel
theorem dX12_inner_107 : decode cX12_inner 107 = .ok (.iload_n 1, 1) := by decide +kernel
theorem dX12_inner_108 : decode cX12_inner 108 = .ok (.invokevirtual 456, 3) := by decide +kernel
theorem dX12_inner_111 : decode cX12_inner 111 = .ok (.ifCond .eq 73, 3) := by decide +kernel
theorem dX12_inner_114 : decode cX12_inner 114 = .ok (.aload_n 0, 1) := by decide +kernel
theorem dX12_inner_115 : decode cX12_inner 115 = .ok (.iconst 3, 1) := by decide +kernel
theorem dX12_inner_116 : decode cX12_inner 116 = .ok (.iload_n 1, 1) := by decide +kernel
theorem dX12_inner_117 : decode cX12_inner 117 = .ok (.invokevirtual 488, 3) := by decide +kernel
theorem dX12_inner_120 : decode cX12_inner 120 = .ok (.aload_n 0, 1) := by decide +kernel
theorem dX12_inner_121 : decode cX12_inner 121 = .ok (.iload_n 1, 1) := by decide +kernel
theorem dX12_inner_122 : decode cX12_inner 122 = .ok (.aload_n 0, 1) := by decide +kernel
theorem dX12_inner_123 : decode cX12_inner 123 = .ok (.getfield 53, 3) := by decide +kernel
theorem dX12_inner_126 : decode cX12_inner 126 = .ok (.aload_n 0, 1) := by decide +kernel
theorem dX12_inner_127 : decode cX12_inner 127 = .ok (.getfield 50, 3) := by decide +kernel
theorem dX12_inner_130 : decode cX12_inner 130 = .ok (.iload_n 1, 1) := by decide +kernel
theorem dX12_inner_131 : decode cX12_inner 131 = .ok (.iaload, 1) := by decide +kernel
theorem dX12_inner_132 : decode cX12_inner 132 = .ok (.iconst 1, 1) := by decide +kernel
theorem dX12_inner_133 : decode cX12_inner 133 = .ok (.iadd, 1) := by decide +kernel
theorem dX12_inner_134 : decode cX12_inner 134 = .ok (.iaload, 1) := by decide +kernel
theorem dX12_inner_135 : decode cX12_inner 135 = .ok (.invokevirtual 505, 3) := by decide +kernel
theorem dX12_inner_138 : decode cX12_inner 138 = .ok (.aload_n 0, 1) := by decide +kernel
theorem dX12_inner_139 : decode cX12_inner 139 = .ok (.dup, 1) := by decide +kernel
theorem dX12_inner_140 : decode cX12_inner 140 = .ok (.getfield 482, 3) := by decide +kernel
theorem dX12_inner_143 : decode cX12_inner 143 = .ok (.iconst 1, 1) := by decide +kernel
theorem dX12_inner_144 : decode cX12_inner 144 = .ok (.isub, 1) := by decide +kernel
theorem dX12_inner_145 : decode cX12_inner 145 = .ok (.putfield 482, 3) := by decide +kernel
theorem dX12_inner_148 : decode cX12_inner 148 = .ok (.aload_n 0, 1) := by decide +kernel
theorem dX12_inner_149 : decode cX12_inner 149 = .ok (.iconst 4, 1) := by decide +kernel
theorem dX12_inner_150 : decode cX12_inner 150 = .ok (.iload_n 1, 1) := by decide +kernel
theorem dX12_inner_151 : decode cX12_inner 151 = .ok (.invokevirtual 488, 3) := by decide +kernel
theorem dX12_inner_154 : decode cX12_inner 154 = .ok (.aload_n 0, 1) := by decide +kernel
theorem dX12_inner_155 : decode cX12_inner 155 = .ok (.iload_n 1, 1) := by decide +kernel
theorem dX12_inner_156 : decode cX12_inner 156 = .ok (.aload_n 0, 1) := by decide +kernel
theorem dX12_inner_157 : decode cX12_inner 157 = .ok (.getfield 53, 3) := by decide +kernel
theorem dX12_inner_160 : decode cX12_inner 160 = .ok (.aload_n 0, 1) := by decide +kernel
theorem dX12_inner_161 : decode cX12_inner 161 = .ok (.getfield 26, 3) := by decide +kernel
theorem dX12_inner_164 : decode cX12_inner 164 = .ok (.aload_n 0, 1) := by decide +kernel
theorem dX12_inner_165 : decode cX12_inner 165 = .ok (.getfield 50, 3) := by decide +kernel
theorem dX12_inner_168 : decode cX12_inner 168 = .ok (.iload_n 1, 1) := by decide +kernel
theorem dX12_inner_169 : decode cX12_inner 169 = .ok (.iaload, 1) := by decide +kernel
theorem dX12_inner_170 : decode cX12_inner 170 = .ok (.iaload, 1) := by decide +kernel
theorem dX12_inner_171 : decode cX12_inner 171 = .ok (.iaload, 1) := by decide +kernel
theorem dX12_inner_172 : decode cX12_inner 172 = .ok (.invokevirtual 505, 3) := by decide +kernel
theorem dX12_inner_175 : decode cX12_inner 175 = .ok (.aload_n 0, 1) := by decide +kernel
theorem dX12_inner_176 : decode cX12_inner 176 = .ok (.iload_n 1, 1) := by decide +kernel
theorem dX12_inner_177 : decode cX12_inner 177 = .ok (.iconst 3, 1) := by decide +kernel
theorem dX12_inner_178 : decode cX12_inner 178 = .ok (.invokevirtual 494, 3) := by decide +kernel
theorem dX12_inner_181 : decode cX12_inner 181 = .ok (.goto 58, 3) := by decide +kernel
theorem dX12_inner_184 : decode cX12_inner 184 = .ok (.iload_n 3, 1) := by decide +kernel
theorem dX12_inner_185 : decode cX12_inner 185 = .ok (.bipush 103, 2) := by decide +kernel
theorem dX12_inner_187 : decode cX12_inner 187 = .ok (.if_icmp .ne 27, 3) := by decide +kernel
theorem dX12_inner_190 : decode cX12_inner 190 = .ok (.aload_n 0, 1) := by decide +kernel
theorem dX12_inner_191 : decode cX12_inner 191 = .ok (.iload_n 1, 1) := by decide +kernel
theorem dX12_inner_192 : decode cX12_inner 192 = .ok (.aload_n 0, 1) := by decide +kernel
theorem dX12_inner_193 : decode cX12_inner 193 = .ok (.getfield 53, 3) := by decide +kernel
theorem dX12_inner_196 : decode cX12_inner 196 = .ok (.aload_n 0, 1) := by decide +kernel
theorem dX12_inner_197 : decode cX12_inner 197 = .ok (.getfield 26, 3) := by decide +kernel
theorem dX12_inner_200 : decode cX12_inner 200 = .ok (.aload_n 0, 1) := by decide +kernel
theorem dX12_inner_201 : decode cX12_inner 201 = .ok (.getfield 50, 3) := by decide +kernel
theorem dX12_inner_204 : decode cX12_inner 204 = .ok (.iload_n 1, 1) := by decide +kernel
theorem dX12_inner_205 : decode cX12_inner 205 = .ok (.iaload, 1) := by decide +kernel
theorem dX12_inner_206 : decode cX12_inner 206 = .ok (.iaload, 1) := by decide +kernel
theorem dX12_inner_207 : decode cX12_inner 207 = .ok (.iaload, 1) := by decide +kernel
theorem dX12_inner_208 : decode cX12_inner 208 = .ok (.invokevirtual 505, 3) := by decide +kernel
theorem dX12_inner_211 : decode cX12_inner 211 = .ok (.goto 28, 3) := by decide +kernel
theorem dX12_inner_214 : decode cX12_inner 214 = .ok (.iload_n 3, 1) := by decide +kernel
theorem dX12_inner_215 : decode cX12_inner 215 = .ok (.invokestatic 272, 3) := by decide +kernel
theorem dX12_inner_218 : decode cX12_inner 218 = .ok (.ifCond .eq 21, 3) := by decide +kernel
theorem dX12_inner_221 : decode cX12_inner 221 = .ok (.aload_n 0, 1) := by decide +kernel
theorem dX12_inner_222 : decode cX12_inner 222 = .ok (.iload_n 1, 1) := by decide +kernel
theorem dX12_inner_223 : decode cX12_inner 223 = .ok (.aload_n 0, 1) := by decide +kernel
theorem dX12_inner_224 : decode cX12_inner 224 = .ok (.getfield 53, 3) := by decide +kernel
theorem dX12_inner_227 : decode cX12_inner 227 = .ok (.aload_n 0, 1) := by decide +kernel
theorem dX12_inner_228 : decode cX12_inner 228 = .ok (.getfield 50, 3) := by decide +kernel
theorem dX12_inner_231 : decode cX12_inner 231 = .ok (.iload_n 1, 1) := by decide +kernel
theorem dX12_inner_232 : decode cX12_inner 232 = .ok (.iaload, 1) := by decide +kernel
theorem dX12_inner_233 : decode cX12_inner 233 = .ok (.iconst 1, 1) := by decide +kernel
theorem dX12_inner_234 : decode cX12_inner 234 = .ok (.iadd, 1) := by decide +kernel
theorem dX12_inner_235 : decode cX12_inner 235 = .ok (.iaload, 1) := by decide +kernel
theorem dX12_inner_236 : decode cX12_inner 236 = .ok (.invokevirtual 505, 3) := by decide +kernel
theorem dX12_inner_239 : decode cX12_inner 239 = .ok (.return_, 1) := by decide +kernel
theorem dX12_edgeOf_0 : decode cX12_edgeOf 0 = .ok (.iconst 0, 1) := by decide +kernel
theorem dX12_edgeOf_1 : decode cX12_edgeOf 1 = .ok (.istore_n 3, 1) := by decide +kernel
theorem dX12_edgeOf_2 : decode cX12_edgeOf 2 = .ok (.aload_n 0, 1) := by decide +kernel
theorem dX12_edgeOf_3 : decode cX12_edgeOf 3 = .ok (.getfield 59, 3) := by decide +kernel
theorem dX12_edgeOf_6 : decode cX12_edgeOf 6 = .ok (.iload_n 3, 1) := by decide +kernel
theorem dX12_edgeOf_7 : decode cX12_edgeOf 7 = .ok (.iaload, 1) := by decide +kernel
theorem dX12_edgeOf_8 : decode cX12_edgeOf 8 = .ok (.iload_n 1, 1) := by decide +kernel
theorem dX12_edgeOf_9 : decode cX12_edgeOf 9 = .ok (.if_icmp .ne 13, 3) := by decide +kernel
theorem dX12_edgeOf_12 : decode cX12_edgeOf 12 = .ok (.aload_n 0, 1) := by decide +kernel
theorem dX12_edgeOf_13 : decode cX12_edgeOf 13 = .ok (.getfield 62, 3) := by decide +kernel
theorem dX12_edgeOf_16 : decode cX12_edgeOf 16 = .ok (.iload_n 3, 1) := by decide +kernel
theorem dX12_edgeOf_17 : decode cX12_edgeOf 17 = .ok (.iaload, 1) := by decide +kernel
theorem dX12_edgeOf_18 : decode cX12_edgeOf 18 = .ok (.iload_n 2, 1) := by decide +kernel
theorem dX12_edgeOf_19 : decode cX12_edgeOf 19 = .ok (.if_icmp .eq 9, 3) := by decide +kernel
theorem dX12_edgeOf_22 : decode cX12_edgeOf 22 = .ok (.iinc 3 1, 3) := by decide +kernel
theorem dX12_edgeOf_25 : decode cX12_edgeOf 25 = .ok (.goto (-23), 3) := by decide +kernel
theorem dX12_edgeOf_28 : decode cX12_edgeOf 28 = .ok (.iload_n 3, 1) := by decide +kernel
theorem dX12_edgeOf_29 : decode cX12_edgeOf 29 = .ok (.ireturn, 1) := by decide +kernel
theorem dX12_goes_0 : decode cX12_goes 0 = .ok (.aload_n 0, 1) := by decide +kernel
theorem dX12_goes_1 : decode cX12_goes 1 = .ok (.iload_n 1, 1) := by decide +kernel
theorem dX12_goes_2 : decode cX12_goes 2 = .ok (.iload_n 2, 1) := by decide +kernel
theorem dX12_goes_3 : decode cX12_goes 3 = .ok (.invokevirtual 508, 3) := by decide +kernel
theorem dX12_goes_6 : decode cX12_goes 6 = .ok (.istore_n 3, 1) := by decide +kernel
theorem dX12_goes_7 : decode cX12_goes 7 = .ok (.aload_n 0, 1) := by decide +kernel
theorem dX12_goes_8 : decode cX12_goes 8 = .ok (.getfield 69, 3) := by decide +kernel
theorem dX12_goes_11 : decode cX12_goes 11 = .ok (.iload_n 3, 1) := by decide +kernel
theorem dX12_goes_12 : decode cX12_goes 12 = .ok (.baload, 1) := by decide +kernel
theorem dX12_goes_13 : decode cX12_goes 13 = .ok (.ifCond .eq 14, 3) := by decide +kernel
theorem dX12_goes_16 : decode cX12_goes 16 = .ok (.aload_n 0, 1) := by decide +kernel
theorem dX12_goes_17 : decode cX12_goes 17 = .ok (.bipush 8, 2) := by decide +kernel
theorem dX12_goes_19 : decode cX12_goes 19 = .ok (.iload_n 2, 1) := by decide +kernel
theorem dX12_goes_20 : decode cX12_goes 20 = .ok (.iconst (-1), 1) := by decide +kernel
theorem dX12_goes_21 : decode cX12_goes 21 = .ok (.invokevirtual 485, 3) := by decide +kernel
theorem dX12_goes_24 : decode cX12_goes 24 = .ok (.goto 47, 3) := by decide +kernel
theorem dX12_goes_27 : decode cX12_goes 27 = .ok (.aload_n 0, 1) := by decide +kernel
theorem dX12_goes_28 : decode cX12_goes 28 = .ok (.getfield 72, 3) := by decide +kernel
theorem dX12_goes_31 : decode cX12_goes 31 = .ok (.iload_n 3, 1) := by decide +kernel
theorem dX12_goes_32 : decode cX12_goes 32 = .ok (.baload, 1) := by decide +kernel
theorem dX12_goes_33 : decode cX12_goes 33 = .ok (.ifCond .eq 14, 3) := by decide +kernel
theorem dX12_goes_36 : decode cX12_goes 36 = .ok (.aload_n 0, 1) := by decide +kernel
theorem dX12_goes_37 : decode cX12_goes 37 = .ok (.bipush 7, 2) := by decide +kernel
theorem dX12_goes_39 : decode cX12_goes 39 = .ok (.iload_n 2, 1) := by decide +kernel
theorem dX12_goes_40 : decode cX12_goes 40 = .ok (.iconst (-1), 1) := by decide +kernel
theorem dX12_goes_41 : decode cX12_goes 41 = .ok (.invokevirtual 485, 3) := by decide +kernel
theorem dX12_goes_44 : decode cX12_goes 44 = .ok (.goto 27, 3) := by decide +kernel
theorem dX12_goes_47 : decode cX12_goes 47 = .ok (.aload_n 0, 1) := by decide +kernel
theorem dX12_goes_48 : decode cX12_goes 48 = .ok (.iload_n 2, 1) := by decide +kernel
theorem dX12_goes_49 : decode cX12_goes 49 = .ok (.invokevirtual 497, 3) := by decide +kernel
theorem dX12_goes_52 : decode cX12_goes 52 = .ok (.ifCond .eq 14, 3) := by decide +kernel
theorem dX12_goes_55 : decode cX12_goes 55 = .ok (.aload_n 0, 1) := by decide +kernel
theorem dX12_goes_56 : decode cX12_goes 56 = .ok (.bipush 6, 2) := by decide +kernel
theorem dX12_goes_58 : decode cX12_goes 58 = .ok (.iload_n 2, 1) := by decide +kernel
theorem dX12_goes_59 : decode cX12_goes 59 = .ok (.iconst (-1), 1) := by decide +kernel
theorem dX12_goes_60 : decode cX12_goes 60 = .ok (.invokevirtual 485, 3) := by decide +kernel
theorem dX12_goes_63 : decode cX12_goes 63 = .ok (.goto 8, 3) := by decide +kernel
theorem dX12_goes_66 : decode cX12_goes 66 = .ok (.aload_n 0, 1) := by decide +kernel
theorem dX12_goes_67 : decode cX12_goes 67 = .ok (.iload_n 2, 1) := by decide +kernel
theorem dX12_goes_68 : decode cX12_goes 68 = .ok (.invokevirtual 503, 3) := by decide +kernel
theorem dX12_goes_71 : decode cX12_goes 71 = .ok (.return_, 1) := by decide +kernel
theorem dX12_endOfIf_0 : decode cX12_endOfIf 0 = .ok (.iload_n 1, 1) := by decide +kernel
theorem dX12_endOfIf_1 : decode cX12_endOfIf 1 = .ok (.iconst 1, 1) := by decide +kernel
theorem dX12_endOfIf_2 : decode cX12_endOfIf 2 = .ok (.iadd, 1) := by decide +kernel
theorem dX12_endOfIf_3 : decode cX12_endOfIf 3 = .ok (.istore_n 2, 1) := by decide +kernel
theorem dX12_endOfIf_4 : decode cX12_endOfIf 4 = .ok (.aload_n 0, 1) := by decide +kernel
theorem dX12_endOfIf_5 : decode cX12_endOfIf 5 = .ok (.getfield 133, 3) := by decide +kernel
theorem dX12_endOfIf_8 : decode cX12_endOfIf 8 = .ok (.iload_n 2, 1) := by decide +kernel
theorem dX12_endOfIf_9 : decode cX12_endOfIf 9 = .ok (.iaload, 1) := by decide +kernel
theorem dX12_endOfIf_10 : decode cX12_endOfIf 10 = .ok (.iconst 5, 1) := by decide +kernel
theorem dX12_endOfIf_11 : decode cX12_endOfIf 11 = .ok (.if_icmp .ne 28, 3) := by decide +kernel
theorem dX12_endOfIf_14 : decode cX12_endOfIf 14 = .ok (.aload_n 0, 1) := by decide +kernel
theorem dX12_endOfIf_15 : decode cX12_endOfIf 15 = .ok (.getfield 142, 3) := by decide +kernel
theorem dX12_endOfIf_18 : decode cX12_endOfIf 18 = .ok (.iload_n 2, 1) := by decide +kernel
theorem dX12_endOfIf_19 : decode cX12_endOfIf 19 = .ok (.iaload, 1) := by decide +kernel
theorem dX12_endOfIf_20 : decode cX12_endOfIf 20 = .ok (.iconst 3, 1) := by decide +kernel
theorem dX12_endOfIf_21 : decode cX12_endOfIf 21 = .ok (.if_icmp .ne 18, 3) := by decide +kernel
theorem dX12_endOfIf_24 : decode cX12_endOfIf 24 = .ok (.aload_n 0, 1) := by decide +kernel
theorem dX12_endOfIf_25 : decode cX12_endOfIf 25 = .ok (.getfield 136, 3) := by decide +kernel
theorem dX12_endOfIf_28 : decode cX12_endOfIf 28 = .ok (.iload_n 2, 1) := by decide +kernel
theorem dX12_endOfIf_29 : decode cX12_endOfIf 29 = .ok (.iaload, 1) := by decide +kernel
theorem dX12_endOfIf_30 : decode cX12_endOfIf 30 = .ok (.aload_n 0, 1) := by decide +kernel
theorem dX12_endOfIf_31 : decode cX12_endOfIf 31 = .ok (.getfield 136, 3) := by decide +kernel
theorem dX12_endOfIf_34 : decode cX12_endOfIf 34 = .ok (.iload_n 1, 1) := by decide +kernel
theorem dX12_endOfIf_35 : decode cX12_endOfIf 35 = .ok (.iaload, 1) := by decide +kernel
theorem dX12_endOfIf_36 : decode cX12_endOfIf 36 = .ok (.if_icmp .eq 9, 3) := by decide +kernel
theorem dX12_endOfIf_39 : decode cX12_endOfIf 39 = .ok (.iinc 2 1, 3) := by decide +kernel
theorem dX12_endOfIf_42 : decode cX12_endOfIf 42 = .ok (.goto (-38), 3) := by decide +kernel
theorem dX12_endOfIf_45 : decode cX12_endOfIf 45 = .ok (.iload_n 2, 1) := by decide +kernel
theorem dX12_endOfIf_46 : decode cX12_endOfIf 46 = .ok (.ireturn, 1) := by decide +kernel
theorem dX12_isIdle_0 : decode cX12_isIdle 0 = .ok (.iload_n 1, 1) := by decide +kernel
theorem dX12_isIdle_1 : decode cX12_isIdle 1 = .ok (.iconst 1, 1) := by decide +kernel
theorem dX12_isIdle_2 : decode cX12_isIdle 2 = .ok (.iadd, 1) := by decide +kernel
theorem dX12_isIdle_3 : decode cX12_isIdle 3 = .ok (.istore_n 2, 1) := by decide +kernel
theorem dX12_isIdle_4 : decode cX12_isIdle 4 = .ok (.iload_n 2, 1) := by decide +kernel
theorem dX12_isIdle_5 : decode cX12_isIdle 5 = .ok (.aload_n 0, 1) := by decide +kernel
theorem dX12_isIdle_6 : decode cX12_isIdle 6 = .ok (.getfield 479, 3) := by decide +kernel
theorem dX12_isIdle_9 : decode cX12_isIdle 9 = .ok (.if_icmp .ge 87, 3) := by decide +kernel
theorem dX12_isIdle_12 : decode cX12_isIdle 12 = .ok (.aload_n 0, 1) := by decide +kernel
theorem dX12_isIdle_13 : decode cX12_isIdle 13 = .ok (.getfield 133, 3) := by decide +kernel
theorem dX12_isIdle_16 : decode cX12_isIdle 16 = .ok (.iload_n 2, 1) := by decide +kernel
theorem dX12_isIdle_17 : decode cX12_isIdle 17 = .ok (.iaload, 1) := by decide +kernel
theorem dX12_isIdle_18 : decode cX12_isIdle 18 = .ok (.iconst 5, 1) := by decide +kernel
theorem dX12_isIdle_19 : decode cX12_isIdle 19 = .ok (.if_icmp .eq 13, 3) := by decide +kernel
theorem dX12_isIdle_22 : decode cX12_isIdle 22 = .ok (.aload_n 0, 1) := by decide +kernel
theorem dX12_isIdle_23 : decode cX12_isIdle 23 = .ok (.getfield 133, 3) := by decide +kernel
theorem dX12_isIdle_26 : decode cX12_isIdle 26 = .ok (.iload_n 2, 1) := by decide +kernel
theorem dX12_isIdle_27 : decode cX12_isIdle 27 = .ok (.iaload, 1) := by decide +kernel
theorem dX12_isIdle_28 : decode cX12_isIdle 28 = .ok (.iconst 4, 1) := by decide +kernel
theorem dX12_isIdle_29 : decode cX12_isIdle 29 = .ok (.if_icmp .ne 67, 3) := by decide +kernel
theorem dX12_isIdle_32 : decode cX12_isIdle 32 = .ok (.aload_n 0, 1) := by decide +kernel
theorem dX12_isIdle_33 : decode cX12_isIdle 33 = .ok (.getfield 133, 3) := by decide +kernel
theorem dX12_isIdle_36 : decode cX12_isIdle 36 = .ok (.iload_n 2, 1) := by decide +kernel
theorem dX12_isIdle_37 : decode cX12_isIdle 37 = .ok (.iaload, 1) := by decide +kernel
theorem dX12_isIdle_38 : decode cX12_isIdle 38 = .ok (.iconst 5, 1) := by decide +kernel
theorem dX12_isIdle_39 : decode cX12_isIdle 39 = .ok (.if_icmp .ne 30, 3) := by decide +kernel
theorem dX12_isIdle_42 : decode cX12_isIdle 42 = .ok (.aload_n 0, 1) := by decide +kernel
theorem dX12_isIdle_43 : decode cX12_isIdle 43 = .ok (.getfield 142, 3) := by decide +kernel
theorem dX12_isIdle_46 : decode cX12_isIdle 46 = .ok (.iload_n 2, 1) := by decide +kernel
theorem dX12_isIdle_47 : decode cX12_isIdle 47 = .ok (.iaload, 1) := by decide +kernel
theorem dX12_isIdle_48 : decode cX12_isIdle 48 = .ok (.iconst 2, 1) := by decide +kernel
theorem dX12_isIdle_49 : decode cX12_isIdle 49 = .ok (.if_icmp .ne 20, 3) := by decide +kernel
theorem dX12_isIdle_52 : decode cX12_isIdle 52 = .ok (.aload_n 0, 1) := by decide +kernel
theorem dX12_isIdle_53 : decode cX12_isIdle 53 = .ok (.getfield 136, 3) := by decide +kernel
theorem dX12_isIdle_56 : decode cX12_isIdle 56 = .ok (.iload_n 2, 1) := by decide +kernel
theorem dX12_isIdle_57 : decode cX12_isIdle 57 = .ok (.iaload, 1) := by decide +kernel
theorem dX12_isIdle_58 : decode cX12_isIdle 58 = .ok (.aload_n 0, 1) := by decide +kernel
theorem dX12_isIdle_59 : decode cX12_isIdle 59 = .ok (.getfield 136, 3) := by decide +kernel
theorem dX12_isIdle_62 : decode cX12_isIdle 62 = .ok (.iload_n 1, 1) := by decide +kernel
theorem dX12_isIdle_63 : decode cX12_isIdle 63 = .ok (.iaload, 1) := by decide +kernel
theorem dX12_isIdle_64 : decode cX12_isIdle 64 = .ok (.if_icmp .ne 5, 3) := by decide +kernel
theorem dX12_isIdle_67 : decode cX12_isIdle 67 = .ok (.iconst 1, 1) := by decide +kernel
theorem dX12_isIdle_68 : decode cX12_isIdle 68 = .ok (.ireturn, 1) := by decide +kernel
theorem dX12_isIdle_69 : decode cX12_isIdle 69 = .ok (.aload_n 0, 1) := by decide +kernel
theorem dX12_isIdle_70 : decode cX12_isIdle 70 = .ok (.getfield 133, 3) := by decide +kernel
theorem dX12_isIdle_73 : decode cX12_isIdle 73 = .ok (.iload_n 2, 1) := by decide +kernel
theorem dX12_isIdle_74 : decode cX12_isIdle 74 = .ok (.iaload, 1) := by decide +kernel
theorem dX12_isIdle_75 : decode cX12_isIdle 75 = .ok (.iconst 4, 1) := by decide +kernel
theorem dX12_isIdle_76 : decode cX12_isIdle 76 = .ok (.if_icmp .ne 13, 3) := by decide +kernel
theorem dX12_isIdle_79 : decode cX12_isIdle 79 = .ok (.aload_n 0, 1) := by decide +kernel
theorem dX12_isIdle_80 : decode cX12_isIdle 80 = .ok (.iload_n 2, 1) := by decide +kernel
theorem dX12_isIdle_81 : decode cX12_isIdle 81 = .ok (.invokevirtual 511, 3) := by decide +kernel
theorem dX12_isIdle_84 : decode cX12_isIdle 84 = .ok (.iconst 1, 1) := by decide +kernel
theorem dX12_isIdle_85 : decode cX12_isIdle 85 = .ok (.iadd, 1) := by decide +kernel
theorem dX12_isIdle_86 : decode cX12_isIdle 86 = .ok (.goto 6, 3) := by decide +kernel
theorem dX12_isIdle_89 : decode cX12_isIdle 89 = .ok (.iload_n 2, 1) := by decide +kernel
theorem dX12_isIdle_90 : decode cX12_isIdle 90 = .ok (.iconst 1, 1) := by decide +kernel
theorem dX12_isIdle_91 : decode cX12_isIdle 91 = .ok (.iadd, 1) := by decide +kernel
theorem dX12_isIdle_92 : decode cX12_isIdle 92 = .ok (.istore_n 2, 1) := by decide +kernel
theorem dX12_isIdle_93 : decode cX12_isIdle 93 = .ok (.goto (-89), 3) := by decide +kernel
theorem dX12_isIdle_96 : decode cX12_isIdle 96 = .ok (.iconst 0, 1) := by decide +kernel
theorem dX12_isIdle_97 : decode cX12_isIdle 97 = .ok (.ireturn, 1) := by decide +kernel
theorem dX12_thins_0 : decode cX12_thins 0 = .ok (.iconst 0, 1) := by decide +kernel
theorem dX12_thins_1 : decode cX12_thins 1 = .ok (.istore_n 1, 1) := by decide +kernel
theorem dX12_thins_2 : decode cX12_thins 2 = .ok (.iconst 0, 1) := by decide +kernel
theorem dX12_thins_3 : decode cX12_thins 3 = .ok (.istore_n 2, 1) := by decide +kernel
theorem dX12_thins_4 : decode cX12_thins 4 = .ok (.iload_n 2, 1) := by decide +kernel
theorem dX12_thins_5 : decode cX12_thins 5 = .ok (.aload_n 0, 1) := by decide +kernel
theorem dX12_thins_6 : decode cX12_thins 6 = .ok (.getfield 479, 3) := by decide +kernel
theorem dX12_thins_9 : decode cX12_thins 9 = .ok (.if_icmp .ge 72, 3) := by decide +kernel
theorem dX12_thins_12 : decode cX12_thins 12 = .ok (.aload_n 0, 1) := by decide +kernel
theorem dX12_thins_13 : decode cX12_thins 13 = .ok (.getfield 145, 3) := by decide +kernel
theorem dX12_thins_16 : decode cX12_thins 16 = .ok (.iload_n 2, 1) := by decide +kernel
theorem dX12_thins_17 : decode cX12_thins 17 = .ok (.baload, 1) := by decide +kernel
theorem dX12_thins_18 : decode cX12_thins 18 = .ok (.ifCond .eq 6, 3) := by decide +kernel
theorem dX12_thins_21 : decode cX12_thins 21 = .ok (.goto 54, 3) := by decide +kernel
theorem dX12_thins_24 : decode cX12_thins 24 = .ok (.aload_n 0, 1) := by decide +kernel
theorem dX12_thins_25 : decode cX12_thins 25 = .ok (.getfield 133, 3) := by decide +kernel
theorem dX12_thins_28 : decode cX12_thins 28 = .ok (.iload_n 1, 1) := by decide +kernel
theorem dX12_thins_29 : decode cX12_thins 29 = .ok (.aload_n 0, 1) := by decide +kernel
theorem dX12_thins_30 : decode cX12_thins 30 = .ok (.getfield 133, 3) := by decide +kernel
theorem dX12_thins_33 : decode cX12_thins 33 = .ok (.iload_n 2, 1) := by decide +kernel
theorem dX12_thins_34 : decode cX12_thins 34 = .ok (.iaload, 1) := by decide +kernel
theorem dX12_thins_35 : decode cX12_thins 35 = .ok (.iastore, 1) := by decide +kernel
theorem dX12_thins_36 : decode cX12_thins 36 = .ok (.aload_n 0, 1) := by decide +kernel
theorem dX12_thins_37 : decode cX12_thins 37 = .ok (.getfield 136, 3) := by decide +kernel
theorem dX12_thins_40 : decode cX12_thins 40 = .ok (.iload_n 1, 1) := by decide +kernel
theorem dX12_thins_41 : decode cX12_thins 41 = .ok (.aload_n 0, 1) := by decide +kernel
theorem dX12_thins_42 : decode cX12_thins 42 = .ok (.getfield 136, 3) := by decide +kernel
theorem dX12_thins_45 : decode cX12_thins 45 = .ok (.iload_n 2, 1) := by decide +kernel
theorem dX12_thins_46 : decode cX12_thins 46 = .ok (.iaload, 1) := by decide +kernel
theorem dX12_thins_47 : decode cX12_thins 47 = .ok (.iastore, 1) := by decide +kernel
theorem dX12_thins_48 : decode cX12_thins 48 = .ok (.aload_n 0, 1) := by decide +kernel
theorem dX12_thins_49 : decode cX12_thins 49 = .ok (.getfield 142, 3) := by decide +kernel
theorem dX12_thins_52 : decode cX12_thins 52 = .ok (.iload_n 1, 1) := by decide +kernel
theorem dX12_thins_53 : decode cX12_thins 53 = .ok (.aload_n 0, 1) := by decide +kernel
theorem dX12_thins_54 : decode cX12_thins 54 = .ok (.getfield 142, 3) := by decide +kernel
theorem dX12_thins_57 : decode cX12_thins 57 = .ok (.iload_n 2, 1) := by decide +kernel
theorem dX12_thins_58 : decode cX12_thins 58 = .ok (.iaload, 1) := by decide +kernel
theorem dX12_thins_59 : decode cX12_thins 59 = .ok (.iastore, 1) := by decide +kernel
theorem dX12_thins_60 : decode cX12_thins 60 = .ok (.aload_n 0, 1) := by decide +kernel
theorem dX12_thins_61 : decode cX12_thins 61 = .ok (.getfield 139, 3) := by decide +kernel
theorem dX12_thins_64 : decode cX12_thins 64 = .ok (.iload_n 1, 1) := by decide +kernel
theorem dX12_thins_65 : decode cX12_thins 65 = .ok (.aload_n 0, 1) := by decide +kernel
theorem dX12_thins_66 : decode cX12_thins 66 = .ok (.getfield 139, 3) := by decide +kernel
theorem dX12_thins_69 : decode cX12_thins 69 = .ok (.iload_n 2, 1) := by decide +kernel
theorem dX12_thins_70 : decode cX12_thins 70 = .ok (.iaload, 1) := by decide +kernel
theorem dX12_thins_71 : decode cX12_thins 71 = .ok (.iastore, 1) := by decide +kernel
theorem dX12_thins_72 : decode cX12_thins 72 = .ok (.iinc 1 1, 3) := by decide +kernel
theorem dX12_thins_75 : decode cX12_thins 75 = .ok (.iinc 2 1, 3) := by decide +kernel
theorem dX12_thins_78 : decode cX12_thins 78 = .ok (.goto (-74), 3) := by decide +kernel
theorem dX12_thins_81 : decode cX12_thins 81 = .ok (.aload_n 0, 1) := by decide +kernel
theorem dX12_thins_82 : decode cX12_thins 82 = .ok (.iload_n 1, 1) := by decide +kernel
theorem dX12_thins_83 : decode cX12_thins 83 = .ok (.putfield 479, 3) := by decide +kernel
theorem dX12_thins_86 : decode cX12_thins 86 = .ok (.return_, 1) := by decide +kernel
theorem dX12_laysLines_0 : decode cX12_laysLines 0 = .ok (.aload_n 0, 1) := by decide +kernel
theorem dX12_laysLines_1 : decode cX12_laysLines 1 = .ok (.iconst 0, 1) := by decide +kernel
theorem dX12_laysLines_2 : decode cX12_laysLines 2 = .ok (.putfield 479, 3) := by decide +kernel
theorem dX12_laysLines_5 : decode cX12_laysLines 5 = .ok (.aload_n 0, 1) := by decide +kernel
theorem dX12_laysLines_6 : decode cX12_laysLines 6 = .ok (.iconst 0, 1) := by decide +kernel
theorem dX12_laysLines_7 : decode cX12_laysLines 7 = .ok (.putfield 482, 3) := by decide +kernel
theorem dX12_laysLines_10 : decode cX12_laysLines 10 = .ok (.aload_n 0, 1) := by decide +kernel
theorem dX12_laysLines_11 : decode cX12_laysLines 11 = .ok (.getfield 358, 3) := by decide +kernel
theorem dX12_laysLines_14 : decode cX12_laysLines 14 = .ok (.iconst (-1), 1) := by decide +kernel
theorem dX12_laysLines_15 : decode cX12_laysLines 15 = .ok (.if_icmp .ne 4, 3) := by decide +kernel
theorem dX12_laysLines_18 : decode cX12_laysLines 18 = .ok (.return_, 1) := by decide +kernel
theorem dX12_laysLines_19 : decode cX12_laysLines 19 = .ok (.aload_n 0, 1) := by decide +kernel
theorem dX12_laysLines_20 : decode cX12_laysLines 20 = .ok (.iconst 0, 1) := by decide +kernel
theorem dX12_laysLines_21 : decode cX12_laysLines 21 = .ok (.invokevirtual 503, 3) := by decide +kernel
theorem dX12_laysLines_24 : decode cX12_laysLines 24 = .ok (.iconst 0, 1) := by decide +kernel
theorem dX12_laysLines_25 : decode cX12_laysLines 25 = .ok (.istore_n 1, 1) := by decide +kernel
theorem dX12_laysLines_26 : decode cX12_laysLines 26 = .ok (.iload_n 1, 1) := by decide +kernel
theorem dX12_laysLines_27 : decode cX12_laysLines 27 = .ok (.aload_n 0, 1) := by decide +kernel
theorem dX12_laysLines_28 : decode cX12_laysLines 28 = .ok (.getfield 479, 3) := by decide +kernel
theorem dX12_laysLines_31 : decode cX12_laysLines 31 = .ok (.if_icmp .ge 39, 3) := by decide +kernel
theorem dX12_laysLines_34 : decode cX12_laysLines 34 = .ok (.aload_n 0, 1) := by decide +kernel
theorem dX12_laysLines_35 : decode cX12_laysLines 35 = .ok (.getfield 145, 3) := by decide +kernel
theorem dX12_laysLines_38 : decode cX12_laysLines 38 = .ok (.iload_n 1, 1) := by decide +kernel
theorem dX12_laysLines_39 : decode cX12_laysLines 39 = .ok (.aload_n 0, 1) := by decide +kernel
theorem dX12_laysLines_40 : decode cX12_laysLines 40 = .ok (.getfield 133, 3) := by decide +kernel
theorem dX12_laysLines_43 : decode cX12_laysLines 43 = .ok (.iload_n 1, 1) := by decide +kernel
theorem dX12_laysLines_44 : decode cX12_laysLines 44 = .ok (.iaload, 1) := by decide +kernel
theorem dX12_laysLines_45 : decode cX12_laysLines 45 = .ok (.bipush 6, 2) := by decide +kernel
theorem dX12_laysLines_47 : decode cX12_laysLines 47 = .ok (.if_icmp .ne 15, 3) := by decide +kernel
theorem dX12_laysLines_50 : decode cX12_laysLines 50 = .ok (.aload_n 0, 1) := by decide +kernel
theorem dX12_laysLines_51 : decode cX12_laysLines 51 = .ok (.iload_n 1, 1) := by decide +kernel
theorem dX12_laysLines_52 : decode cX12_laysLines 52 = .ok (.invokevirtual 514, 3) := by decide +kernel
theorem dX12_laysLines_55 : decode cX12_laysLines 55 = .ok (.ifCond .eq 7, 3) := by decide +kernel
theorem dX12_laysLines_58 : decode cX12_laysLines 58 = .ok (.iconst 1, 1) := by decide +kernel
theorem dX12_laysLines_59 : decode cX12_laysLines 59 = .ok (.goto 4, 3) := by decide +kernel
theorem dX12_laysLines_62 : decode cX12_laysLines 62 = .ok (.iconst 0, 1) := by decide +kernel
theorem dX12_laysLines_63 : decode cX12_laysLines 63 = .ok (.bastore, 1) := by decide +kernel
theorem dX12_laysLines_64 : decode cX12_laysLines 64 = .ok (.iinc 1 1, 3) := by decide +kernel
theorem dX12_laysLines_67 : decode cX12_laysLines 67 = .ok (.goto (-41), 3) := by decide +kernel
theorem dX12_laysLines_70 : decode cX12_laysLines 70 = .ok (.aload_n 0, 1) := by decide +kernel
theorem dX12_laysLines_71 : decode cX12_laysLines 71 = .ok (.invokevirtual 517, 3) := by decide +kernel
theorem dX12_laysLines_74 : decode cX12_laysLines 74 = .ok (.iconst 0, 1) := by decide +kernel
theorem dX12_laysLines_75 : decode cX12_laysLines 75 = .ok (.istore_n 1, 1) := by decide +kernel
theorem dX12_laysLines_76 : decode cX12_laysLines 76 = .ok (.iload_n 1, 1) := by decide +kernel
theorem dX12_laysLines_77 : decode cX12_laysLines 77 = .ok (.aload_n 0, 1) := by decide +kernel
theorem dX12_laysLines_78 : decode cX12_laysLines 78 = .ok (.getfield 479, 3) := by decide +kernel
theorem dX12_laysLines_81 : decode cX12_laysLines 81 = .ok (.if_icmp .ge 42, 3) := by decide +kernel
theorem dX12_laysLines_84 : decode cX12_laysLines 84 = .ok (.aload_n 0, 1) := by decide +kernel
theorem dX12_laysLines_85 : decode cX12_laysLines 85 = .ok (.getfield 145, 3) := by decide +kernel
theorem dX12_laysLines_88 : decode cX12_laysLines 88 = .ok (.iload_n 1, 1) := by decide +kernel
theorem dX12_laysLines_89 : decode cX12_laysLines 89 = .ok (.aload_n 0, 1) := by decide +kernel
theorem dX12_laysLines_90 : decode cX12_laysLines 90 = .ok (.getfield 133, 3) := by decide +kernel
theorem dX12_laysLines_93 : decode cX12_laysLines 93 = .ok (.iload_n 1, 1) := by decide +kernel
theorem dX12_laysLines_94 : decode cX12_laysLines 94 = .ok (.iaload, 1) := by decide +kernel
theorem dX12_laysLines_95 : decode cX12_laysLines 95 = .ok (.iconst 4, 1) := by decide +kernel
theorem dX12_laysLines_96 : decode cX12_laysLines 96 = .ok (.if_icmp .ne 19, 3) := by decide +kernel
theorem dX12_laysLines_99 : decode cX12_laysLines 99 = .ok (.aload_n 0, 1) := by decide +kernel
theorem dX12_laysLines_100 : decode cX12_laysLines 100 = .ok (.getfield 133, 3) := by decide +kernel
theorem dX12_laysLines_103 : decode cX12_laysLines 103 = .ok (.iload_n 1, 1) := by decide +kernel
theorem dX12_laysLines_104 : decode cX12_laysLines 104 = .ok (.iconst 1, 1) := by decide +kernel
theorem dX12_laysLines_105 : decode cX12_laysLines 105 = .ok (.iadd, 1) := by decide +kernel
theorem dX12_laysLines_106 : decode cX12_laysLines 106 = .ok (.iaload, 1) := by decide +kernel
theorem dX12_laysLines_107 : decode cX12_laysLines 107 = .ok (.iconst 5, 1) := by decide +kernel
theorem dX12_laysLines_108 : decode cX12_laysLines 108 = .ok (.if_icmp .ne 7, 3) := by decide +kernel
theorem dX12_laysLines_111 : decode cX12_laysLines 111 = .ok (.iconst 1, 1) := by decide +kernel
theorem dX12_laysLines_112 : decode cX12_laysLines 112 = .ok (.goto 4, 3) := by decide +kernel
theorem dX12_laysLines_115 : decode cX12_laysLines 115 = .ok (.iconst 0, 1) := by decide +kernel
theorem dX12_laysLines_116 : decode cX12_laysLines 116 = .ok (.bastore, 1) := by decide +kernel
theorem dX12_laysLines_117 : decode cX12_laysLines 117 = .ok (.iinc 1 1, 3) := by decide +kernel
theorem dX12_laysLines_120 : decode cX12_laysLines 120 = .ok (.goto (-44), 3) := by decide +kernel
theorem dX12_laysLines_123 : decode cX12_laysLines 123 = .ok (.aload_n 0, 1) := by decide +kernel
theorem dX12_laysLines_124 : decode cX12_laysLines 124 = .ok (.invokevirtual 517, 3) := by decide +kernel
theorem dX12_laysLines_127 : decode cX12_laysLines 127 = .ok (.return_, 1) := by decide +kernel
theorem dX12_lays__0 : decode cX12_lays_ 0 = .ok (.aload_n 0, 1) := by decide +kernel
theorem dX12_lays__1 : decode cX12_lays_ 1 = .ok (.invokevirtual 520, 3) := by decide +kernel
theorem dX12_lays__4 : decode cX12_lays_ 4 = .ok (.aload_n 0, 1) := by decide +kernel
theorem dX12_lays__5 : decode cX12_lays_ 5 = .ok (.invokevirtual 523, 3) := by decide +kernel
theorem dX12_lays__8 : decode cX12_lays_ 8 = .ok (.aload_n 0, 1) := by decide +kernel
theorem dX12_lays__9 : decode cX12_lays_ 9 = .ok (.invokevirtual 526, 3) := by decide +kernel
theorem dX12_lays__12 : decode cX12_lays_ 12 = .ok (.aload_n 0, 1) := by decide +kernel
theorem dX12_lays__13 : decode cX12_lays_ 13 = .ok (.invokevirtual 529, 3) := by decide +kernel
theorem dX12_lays__16 : decode cX12_lays_ 16 = .ok (.aload_n 0, 1) := by decide +kernel
theorem dX12_lays__17 : decode cX12_lays_ 17 = .ok (.invokevirtual 532, 3) := by decide +kernel
theorem dX12_lays__20 : decode cX12_lays_ 20 = .ok (.aload_n 0, 1) := by decide +kernel
theorem dX12_lays__21 : decode cX12_lays_ 21 = .ok (.invokevirtual 535, 3) := by decide +kernel
theorem dX12_lays__24 : decode cX12_lays_ 24 = .ok (.aload_n 0, 1) := by decide +kernel
theorem dX12_lays__25 : decode cX12_lays_ 25 = .ok (.invokevirtual 538, 3) := by decide +kernel
theorem dX12_lays__28 : decode cX12_lays_ 28 = .ok (.aload_n 0, 1) := by decide +kernel
theorem dX12_lays__29 : decode cX12_lays_ 29 = .ok (.invokevirtual 541, 3) := by decide +kernel
theorem dX12_lays__32 : decode cX12_lays_ 32 = .ok (.aload_n 0, 1) := by decide +kernel
theorem dX12_lays__33 : decode cX12_lays_ 33 = .ok (.invokevirtual 544, 3) := by decide +kernel
theorem dX12_lays__36 : decode cX12_lays_ 36 = .ok (.aload_n 0, 1) := by decide +kernel
theorem dX12_lays__37 : decode cX12_lays_ 37 = .ok (.invokevirtual 547, 3) := by decide +kernel
theorem dX12_lays__40 : decode cX12_lays_ 40 = .ok (.return_, 1) := by decide +kernel
theorem dX12_writes_0 : decode cX12_writes 0 = .ok (.aload_n 0, 1) := by decide +kernel
theorem dX12_writes_1 : decode cX12_writes 1 = .ok (.getfield 148, 3) := by decide +kernel
theorem dX12_writes_4 : decode cX12_writes 4 = .ok (.aload_n 0, 1) := by decide +kernel
theorem dX12_writes_5 : decode cX12_writes 5 = .ok (.getfield 550, 3) := by decide +kernel
theorem dX12_writes_8 : decode cX12_writes 8 = .ok (.iload_n 1, 1) := by decide +kernel
theorem dX12_writes_9 : decode cX12_writes 9 = .ok (.iastore, 1) := by decide +kernel
theorem dX12_writes_10 : decode cX12_writes 10 = .ok (.aload_n 0, 1) := by decide +kernel
theorem dX12_writes_11 : decode cX12_writes 11 = .ok (.dup, 1) := by decide +kernel
theorem dX12_writes_12 : decode cX12_writes 12 = .ok (.getfield 550, 3) := by decide +kernel
theorem dX12_writes_15 : decode cX12_writes 15 = .ok (.iconst 1, 1) := by decide +kernel
theorem dX12_writes_16 : decode cX12_writes 16 = .ok (.iadd, 1) := by decide +kernel
theorem dX12_writes_17 : decode cX12_writes 17 = .ok (.putfield 550, 3) := by decide +kernel
theorem dX12_writes_20 : decode cX12_writes 20 = .ok (.return_, 1) := by decide +kernel
theorem dX12_writesWord_0 : decode cX12_writesWord 0 = .ok (.iconst 0, 1) := by decide +kernel
theorem dX12_writesWord_1 : decode cX12_writesWord 1 = .ok (.istore_n 2, 1) := by decide +kernel
theorem dX12_writesWord_2 : decode cX12_writesWord 2 = .ok (.iload_n 2, 1) := by decide +kernel
theorem dX12_writesWord_3 : decode cX12_writesWord 3 = .ok (.aload_n 1, 1) := by decide +kernel
theorem dX12_writesWord_4 : decode cX12_writesWord 4 = .ok (.invokevirtual 208, 3) := by decide +kernel
theorem dX12_writesWord_7 : decode cX12_writesWord 7 = .ok (.if_icmp .ge 18, 3) := by decide +kernel
theorem dX12_writesWord_10 : decode cX12_writesWord 10 = .ok (.aload_n 0, 1) := by decide +kernel
theorem dX12_writesWord_11 : decode cX12_writesWord 11 = .ok (.aload_n 1, 1) := by decide +kernel
theorem dX12_writesWord_12 : decode cX12_writesWord 12 = .ok (.iload_n 2, 1) := by decide +kernel
theorem dX12_writesWord_13 : decode cX12_writesWord 13 = .ok (.invokevirtual 212, 3) := by decide +kernel
theorem dX12_writesWord_16 : decode cX12_writesWord 16 = .ok (.invokevirtual 553, 3) := by decide +kernel
theorem dX12_writesWord_19 : decode cX12_writesWord 19 = .ok (.iinc 2 1, 3) := by decide +kernel
theorem dX12_writesWord_22 : decode cX12_writesWord 22 = .ok (.goto (-20), 3) := by decide +kernel
theorem dX12_writesWord_25 : decode cX12_writesWord 25 = .ok (.return_, 1) := by decide +kernel
theorem dX12_writesNumber_0 : decode cX12_writesNumber 0 = .ok (.iload_n 1, 1) := by decide +kernel
theorem dX12_writesNumber_1 : decode cX12_writesNumber 1 = .ok (.bipush 9, 2) := by decide +kernel
theorem dX12_writesNumber_3 : decode cX12_writesNumber 3 = .ok (.if_icmp .le 11, 3) := by decide +kernel
theorem dX12_writesNumber_6 : decode cX12_writesNumber 6 = .ok (.aload_n 0, 1) := by decide +kernel
theorem dX12_writesNumber_7 : decode cX12_writesNumber 7 = .ok (.iload_n 1, 1) := by decide +kernel
theorem dX12_writesNumber_8 : decode cX12_writesNumber 8 = .ok (.bipush 10, 2) := by decide +kernel
theorem dX12_writesNumber_10 : decode cX12_writesNumber 10 = .ok (.idiv, 1) := by decide +kernel
theorem dX12_writesNumber_11 : decode cX12_writesNumber 11 = .ok (.invokevirtual 556, 3) := by decide +kernel
theorem dX12_writesNumber_14 : decode cX12_writesNumber 14 = .ok (.aload_n 0, 1) := by decide +kernel
theorem dX12_writesNumber_15 : decode cX12_writesNumber 15 = .ok (.bipush 48, 2) := by decide +kernel
theorem dX12_writesNumber_17 : decode cX12_writesNumber 17 = .ok (.iload_n 1, 1) := by decide +kernel
theorem dX12_writesNumber_18 : decode cX12_writesNumber 18 = .ok (.bipush 10, 2) := by decide +kernel
theorem dX12_writesNumber_20 : decode cX12_writesNumber 20 = .ok (.irem, 1) := by decide +kernel
theorem dX12_writesNumber_21 : decode cX12_writesNumber 21 = .ok (.iadd, 1) := by decide +kernel
theorem dX12_writesNumber_22 : decode cX12_writesNumber 22 = .ok (.invokevirtual 553, 3) := by decide +kernel
theorem dX12_writesNumber_25 : decode cX12_writesNumber 25 = .ok (.return_, 1) := by decide +kernel
theorem dX12_writesName_0 : decode cX12_writesName 0 = .ok (.aload_n 0, 1) := by decide +kernel
theorem dX12_writesName_1 : decode cX12_writesName 1 = .ok (.iload_n 1, 1) := by decide +kernel
theorem dX12_writesName_2 : decode cX12_writesName 2 = .ok (.invokevirtual 553, 3) := by decide +kernel
theorem dX12_writesName_5 : decode cX12_writesName 5 = .ok (.aload_n 0, 1) := by decide +kernel
theorem dX12_writesName_6 : decode cX12_writesName 6 = .ok (.iload_n 2, 1) := by decide +kernel
theorem dX12_writesName_7 : decode cX12_writesName 7 = .ok (.invokevirtual 556, 3) := by decide +kernel
theorem dX12_writesName_10 : decode cX12_writesName 10 = .ok (.return_, 1) := by decide +kernel
theorem dX12_spells_0 : decode cX12_spells 0 = .ok (.aload_n 0, 1) := by decide +kernel
theorem dX12_spells_1 : decode cX12_spells 1 = .ok (.getfield 88, 3) := by decide +kernel
theorem dX12_spells_4 : decode cX12_spells 4 = .ok (.iload_n 1, 1) := by decide +kernel
theorem dX12_spells_5 : decode cX12_spells 5 = .ok (.iaload, 1) := by decide +kernel
theorem dX12_spells_6 : decode cX12_spells 6 = .ok (.tableswitch 135 0 6 #[42, 53, 67, 80, 93, 101, 118], 42) := by decide +kernel
theorem dX12_spells_48 : decode cX12_spells 48 = .ok (.aload_n 0, 1) := by decide +kernel
theorem dX12_spells_49 : decode cX12_spells 49 = .ok (.aload_n 0, 1) := by decide +kernel
theorem dX12_spells_50 : decode cX12_spells 50 = .ok (.getfield 91, 3) := by decide +kernel
theorem dX12_spells_53 : decode cX12_spells 53 = .ok (.iload_n 1, 1) := by decide +kernel
theorem dX12_spells_54 : decode cX12_spells 54 = .ok (.iaload, 1) := by decide +kernel
theorem dX12_spells_55 : decode cX12_spells 55 = .ok (.invokevirtual 556, 3) := by decide +kernel
theorem dX12_spells_58 : decode cX12_spells 58 = .ok (.return_, 1) := by decide +kernel
theorem dX12_spells_59 : decode cX12_spells 59 = .ok (.aload_n 0, 1) := by decide +kernel
theorem dX12_spells_60 : decode cX12_spells 60 = .ok (.bipush 97, 2) := by decide +kernel
theorem dX12_spells_62 : decode cX12_spells 62 = .ok (.aload_n 0, 1) := by decide +kernel
theorem dX12_spells_63 : decode cX12_spells 63 = .ok (.getfield 91, 3) := by decide +kernel
theorem dX12_spells_66 : decode cX12_spells 66 = .ok (.iload_n 1, 1) := by decide +kernel
theorem dX12_spells_67 : decode cX12_spells 67 = .ok (.iaload, 1) := by decide +kernel
theorem dX12_spells_68 : decode cX12_spells 68 = .ok (.iadd, 1) := by decide +kernel
theorem dX12_spells_69 : decode cX12_spells 69 = .ok (.invokevirtual 553, 3) := by decide +kernel
theorem dX12_spells_72 : decode cX12_spells 72 = .ok (.return_, 1) := by decide +kernel
theorem dX12_spells_73 : decode cX12_spells 73 = .ok (.aload_n 0, 1) := by decide +kernel
theorem dX12_spells_74 : decode cX12_spells 74 = .ok (.bipush 116, 2) := by decide +kernel
theorem dX12_spells_76 : decode cX12_spells 76 = .ok (.aload_n 0, 1) := by decide +kernel
theorem dX12_spells_77 : decode cX12_spells 77 = .ok (.getfield 91, 3) := by decide +kernel
theorem dX12_spells_80 : decode cX12_spells 80 = .ok (.iload_n 1, 1) := by decide +kernel
theorem dX12_spells_81 : decode cX12_spells 81 = .ok (.iaload, 1) := by decide +kernel
theorem dX12_spells_82 : decode cX12_spells 82 = .ok (.invokevirtual 559, 3) := by decide +kernel
theorem dX12_spells_85 : decode cX12_spells 85 = .ok (.return_, 1) := by decide +kernel
theorem dX12_spells_86 : decode cX12_spells 86 = .ok (.aload_n 0, 1) := by decide +kernel
theorem dX12_spells_87 : decode cX12_spells 87 = .ok (.bipush 120, 2) := by decide +kernel
theorem dX12_spells_89 : decode cX12_spells 89 = .ok (.aload_n 0, 1) := by decide +kernel
theorem dX12_spells_90 : decode cX12_spells 90 = .ok (.getfield 91, 3) := by decide +kernel
theorem dX12_spells_93 : decode cX12_spells 93 = .ok (.iload_n 1, 1) := by decide +kernel
theorem dX12_spells_94 : decode cX12_spells 94 = .ok (.iaload, 1) := by decide +kernel
theorem dX12_spells_95 : decode cX12_spells 95 = .ok (.invokevirtual 559, 3) := by decide +kernel
theorem dX12_spells_98 : decode cX12_spells 98 = .ok (.return_, 1) := by decide +kernel
theorem dX12_spells_99 : decode cX12_spells 99 = .ok (.aload_n 0, 1) := by decide +kernel
theorem dX12_spells_100 : decode cX12_spells 100 = .ok (.ldc_w 562, 3) := by decide +kernel
theorem dX12_spells_103 : decode cX12_spells 103 = .ok (.invokevirtual 564, 3) := by decide +kernel
theorem dX12_spells_106 : decode cX12_spells 106 = .ok (.return_, 1) := by decide +kernel
theorem dX12_spells_107 : decode cX12_spells 107 = .ok (.aload_n 0, 1) := by decide +kernel
theorem dX12_spells_108 : decode cX12_spells 108 = .ok (.bipush 33, 2) := by decide +kernel
theorem dX12_spells_110 : decode cX12_spells 110 = .ok (.invokevirtual 553, 3) := by decide +kernel
theorem dX12_spells_113 : decode cX12_spells 113 = .ok (.aload_n 0, 1) := by decide +kernel
theorem dX12_spells_114 : decode cX12_spells 114 = .ok (.aload_n 0, 1) := by decide +kernel
theorem dX12_spells_115 : decode cX12_spells 115 = .ok (.getfield 91, 3) := by decide +kernel
theorem dX12_spells_118 : decode cX12_spells 118 = .ok (.iload_n 1, 1) := by decide +kernel
theorem dX12_spells_119 : decode cX12_spells 119 = .ok (.iaload, 1) := by decide +kernel
theorem dX12_spells_120 : decode cX12_spells 120 = .ok (.invokevirtual 568, 3) := by decide +kernel
theorem dX12_spells_123 : decode cX12_spells 123 = .ok (.return_, 1) := by decide +kernel
theorem dX12_spells_124 : decode cX12_spells 124 = .ok (.aload_n 0, 1) := by decide +kernel
theorem dX12_spells_125 : decode cX12_spells 125 = .ok (.bipush 45, 2) := by decide +kernel
theorem dX12_spells_127 : decode cX12_spells 127 = .ok (.invokevirtual 553, 3) := by decide +kernel
theorem dX12_spells_130 : decode cX12_spells 130 = .ok (.aload_n 0, 1) := by decide +kernel
theorem dX12_spells_131 : decode cX12_spells 131 = .ok (.aload_n 0, 1) := by decide +kernel
theorem dX12_spells_132 : decode cX12_spells 132 = .ok (.getfield 91, 3) := by decide +kernel
theorem dX12_spells_135 : decode cX12_spells 135 = .ok (.iload_n 1, 1) := by decide +kernel
theorem dX12_spells_136 : decode cX12_spells 136 = .ok (.iaload, 1) := by decide +kernel
theorem dX12_spells_137 : decode cX12_spells 137 = .ok (.invokevirtual 568, 3) := by decide +kernel
theorem dX12_spells_140 : decode cX12_spells 140 = .ok (.return_, 1) := by decide +kernel
theorem dX12_spells_141 : decode cX12_spells 141 = .ok (.aload_n 0, 1) := by decide +kernel
theorem dX12_spells_142 : decode cX12_spells 142 = .ok (.bipush 40, 2) := by decide +kernel
theorem dX12_spells_144 : decode cX12_spells 144 = .ok (.invokevirtual 553, 3) := by decide +kernel
theorem dX12_spells_147 : decode cX12_spells 147 = .ok (.aload_n 0, 1) := by decide +kernel
theorem dX12_spells_148 : decode cX12_spells 148 = .ok (.aload_n 0, 1) := by decide +kernel
theorem dX12_spells_149 : decode cX12_spells 149 = .ok (.getfield 91, 3) := by decide +kernel
theorem dX12_spells_152 : decode cX12_spells 152 = .ok (.iload_n 1, 1) := by decide +kernel
theorem dX12_spells_153 : decode cX12_spells 153 = .ok (.iaload, 1) := by decide +kernel
theorem dX12_spells_154 : decode cX12_spells 154 = .ok (.invokevirtual 568, 3) := by decide +kernel
theorem dX12_spells_157 : decode cX12_spells 157 = .ok (.aload_n 0, 1) := by decide +kernel
theorem dX12_spells_158 : decode cX12_spells 158 = .ok (.aload_n 0, 1) := by decide +kernel
theorem dX12_spells_159 : decode cX12_spells 159 = .ok (.getfield 88, 3) := by decide +kernel
theorem dX12_spells_162 : decode cX12_spells 162 = .ok (.iload_n 1, 1) := by decide +kernel
theorem dX12_spells_163 : decode cX12_spells 163 = .ok (.iaload, 1) := by decide +kernel
theorem dX12_spells_164 : decode cX12_spells 164 = .ok (.invokevirtual 553, 3) := by decide +kernel
theorem dX12_spells_167 : decode cX12_spells 167 = .ok (.aload_n 0, 1) := by decide +kernel
theorem dX12_spells_168 : decode cX12_spells 168 = .ok (.aload_n 0, 1) := by decide +kernel
theorem dX12_spells_169 : decode cX12_spells 169 = .ok (.getfield 94, 3) := by decide +kernel
theorem dX12_spells_172 : decode cX12_spells 172 = .ok (.iload_n 1, 1) := by decide +kernel
theorem dX12_spells_173 : decode cX12_spells 173 = .ok (.iaload, 1) := by decide +kernel
theorem dX12_spells_174 : decode cX12_spells 174 = .ok (.invokevirtual 568, 3) := by decide +kernel
theorem dX12_spells_177 : decode cX12_spells 177 = .ok (.aload_n 0, 1) := by decide +kernel
theorem dX12_spells_178 : decode cX12_spells 178 = .ok (.bipush 41, 2) := by decide +kernel
theorem dX12_spells_180 : decode cX12_spells 180 = .ok (.invokevirtual 553, 3) := by decide +kernel
theorem dX12_spells_183 : decode cX12_spells 183 = .ok (.return_, 1) := by decide +kernel
theorem dX12_spellsStatement_0 : decode cX12_spellsStatement 0 = .ok (.aload_n 0, 1) := by decide +kernel
theorem dX12_spellsStatement_1 : decode cX12_spellsStatement 1 = .ok (.getfield 97, 3) := by decide +kernel
theorem dX12_spellsStatement_4 : decode cX12_spellsStatement 4 = .ok (.iload_n 1, 1) := by decide +kernel
theorem dX12_spellsStatement_5 : decode cX12_spellsStatement 5 = .ok (.iaload, 1) := by decide +kernel
theorem dX12_spellsStatement_6 : decode cX12_spellsStatement 6 = .ok (.tableswitch 118 0 6 #[42, 58, 73, 88, 118, 98, 108], 42) := by decide +kernel
theorem dX12_spellsStatement_48 : decode cX12_spellsStatement 48 = .ok (.aload_n 0, 1) := by decide +kernel
theorem dX12_spellsStatement_49 : decode cX12_spellsStatement 49 = .ok (.bipush 97, 2) := by decide +kernel
theorem dX12_spellsStatement_51 : decode cX12_spellsStatement 51 = .ok (.aload_n 0, 1) := by decide +kernel
theorem dX12_spellsStatement_52 : decode cX12_spellsStatement 52 = .ok (.getfield 100, 3) := by decide +kernel
theorem dX12_spellsStatement_55 : decode cX12_spellsStatement 55 = .ok (.iload_n 1, 1) := by decide +kernel
theorem dX12_spellsStatement_56 : decode cX12_spellsStatement 56 = .ok (.iaload, 1) := by decide +kernel
theorem dX12_spellsStatement_57 : decode cX12_spellsStatement 57 = .ok (.iadd, 1) := by decide +kernel
theorem dX12_spellsStatement_58 : decode cX12_spellsStatement 58 = .ok (.invokevirtual 553, 3) := by decide +kernel
theorem dX12_spellsStatement_61 : decode cX12_spellsStatement 61 = .ok (.goto 63, 3) := by decide +kernel
theorem dX12_spellsStatement_64 : decode cX12_spellsStatement 64 = .ok (.aload_n 0, 1) := by decide +kernel
theorem dX12_spellsStatement_65 : decode cX12_spellsStatement 65 = .ok (.bipush 116, 2) := by decide +kernel
theorem dX12_spellsStatement_67 : decode cX12_spellsStatement 67 = .ok (.aload_n 0, 1) := by decide +kernel
theorem dX12_spellsStatement_68 : decode cX12_spellsStatement 68 = .ok (.getfield 100, 3) := by decide +kernel
theorem dX12_spellsStatement_71 : decode cX12_spellsStatement 71 = .ok (.iload_n 1, 1) := by decide +kernel
theorem dX12_spellsStatement_72 : decode cX12_spellsStatement 72 = .ok (.iaload, 1) := by decide +kernel
theorem dX12_spellsStatement_73 : decode cX12_spellsStatement 73 = .ok (.invokevirtual 559, 3) := by decide +kernel
theorem dX12_spellsStatement_76 : decode cX12_spellsStatement 76 = .ok (.goto 48, 3) := by decide +kernel
theorem dX12_spellsStatement_79 : decode cX12_spellsStatement 79 = .ok (.aload_n 0, 1) := by decide +kernel
theorem dX12_spellsStatement_80 : decode cX12_spellsStatement 80 = .ok (.bipush 120, 2) := by decide +kernel
theorem dX12_spellsStatement_82 : decode cX12_spellsStatement 82 = .ok (.aload_n 0, 1) := by decide +kernel
theorem dX12_spellsStatement_83 : decode cX12_spellsStatement 83 = .ok (.getfield 100, 3) := by decide +kernel
theorem dX12_spellsStatement_86 : decode cX12_spellsStatement 86 = .ok (.iload_n 1, 1) := by decide +kernel
theorem dX12_spellsStatement_87 : decode cX12_spellsStatement 87 = .ok (.iaload, 1) := by decide +kernel
theorem dX12_spellsStatement_88 : decode cX12_spellsStatement 88 = .ok (.invokevirtual 559, 3) := by decide +kernel
theorem dX12_spellsStatement_91 : decode cX12_spellsStatement 91 = .ok (.goto 33, 3) := by decide +kernel
theorem dX12_spellsStatement_94 : decode cX12_spellsStatement 94 = .ok (.aload_n 0, 1) := by decide +kernel
theorem dX12_spellsStatement_95 : decode cX12_spellsStatement 95 = .ok (.ldc_w 570, 3) := by decide +kernel
theorem dX12_spellsStatement_98 : decode cX12_spellsStatement 98 = .ok (.invokevirtual 564, 3) := by decide +kernel
theorem dX12_spellsStatement_101 : decode cX12_spellsStatement 101 = .ok (.goto 23, 3) := by decide +kernel
theorem dX12_spellsStatement_104 : decode cX12_spellsStatement 104 = .ok (.aload_n 0, 1) := by decide +kernel
theorem dX12_spellsStatement_105 : decode cX12_spellsStatement 105 = .ok (.ldc_w 572, 3) := by decide +kernel
theorem dX12_spellsStatement_108 : decode cX12_spellsStatement 108 = .ok (.invokevirtual 564, 3) := by decide +kernel
theorem dX12_spellsStatement_111 : decode cX12_spellsStatement 111 = .ok (.goto 13, 3) := by decide +kernel
theorem dX12_spellsStatement_114 : decode cX12_spellsStatement 114 = .ok (.aload_n 0, 1) := by decide +kernel
theorem dX12_spellsStatement_115 : decode cX12_spellsStatement 115 = .ok (.ldc_w 574, 3) := by decide +kernel
theorem dX12_spellsStatement_118 : decode cX12_spellsStatement 118 = .ok (.invokevirtual 564, 3) := by decide +kernel
theorem dX12_spellsStatement_121 : decode cX12_spellsStatement 121 = .ok (.goto 3, 3) := by decide +kernel
theorem dX12_spellsStatement_124 : decode cX12_spellsStatement 124 = .ok (.aload_n 0, 1) := by decide +kernel
theorem dX12_spellsStatement_125 : decode cX12_spellsStatement 125 = .ok (.getfield 97, 3) := by decide +kernel
theorem dX12_spellsStatement_128 : decode cX12_spellsStatement 128 = .ok (.iload_n 1, 1) := by decide +kernel
theorem dX12_spellsStatement_129 : decode cX12_spellsStatement 129 = .ok (.iaload, 1) := by decide +kernel
theorem dX12_spellsStatement_130 : decode cX12_spellsStatement 130 = .ok (.iconst 3, 1) := by decide +kernel
theorem dX12_spellsStatement_131 : decode cX12_spellsStatement 131 = .ok (.if_icmp .ge 9, 3) := by decide +kernel
theorem dX12_spellsStatement_134 : decode cX12_spellsStatement 134 = .ok (.aload_n 0, 1) := by decide +kernel
theorem dX12_spellsStatement_135 : decode cX12_spellsStatement 135 = .ok (.bipush 61, 2) := by decide +kernel
theorem dX12_spellsStatement_137 : decode cX12_spellsStatement 137 = .ok (.invokevirtual 553, 3) := by decide +kernel
theorem dX12_spellsStatement_140 : decode cX12_spellsStatement 140 = .ok (.aload_n 0, 1) := by decide +kernel
theorem dX12_spellsStatement_141 : decode cX12_spellsStatement 141 = .ok (.getfield 103, 3) := by decide +kernel
theorem dX12_spellsStatement_144 : decode cX12_spellsStatement 144 = .ok (.iload_n 1, 1) := by decide +kernel
theorem dX12_spellsStatement_145 : decode cX12_spellsStatement 145 = .ok (.iaload, 1) := by decide +kernel
theorem dX12_spellsStatement_146 : decode cX12_spellsStatement 146 = .ok (.iconst (-1), 1) := by decide +kernel
theorem dX12_spellsStatement_147 : decode cX12_spellsStatement 147 = .ok (.if_icmp .eq 13, 3) := by decide +kernel
theorem dX12_spellsStatement_150 : decode cX12_spellsStatement 150 = .ok (.aload_n 0, 1) := by decide +kernel
theorem dX12_spellsStatement_151 : decode cX12_spellsStatement 151 = .ok (.aload_n 0, 1) := by decide +kernel
theorem dX12_spellsStatement_152 : decode cX12_spellsStatement 152 = .ok (.getfield 103, 3) := by decide +kernel
theorem dX12_spellsStatement_155 : decode cX12_spellsStatement 155 = .ok (.iload_n 1, 1) := by decide +kernel
theorem dX12_spellsStatement_156 : decode cX12_spellsStatement 156 = .ok (.iaload, 1) := by decide +kernel
theorem dX12_spellsStatement_157 : decode cX12_spellsStatement 157 = .ok (.invokevirtual 568, 3) := by decide +kernel
theorem dX12_spellsStatement_160 : decode cX12_spellsStatement 160 = .ok (.aload_n 0, 1) := by decide +kernel
theorem dX12_spellsStatement_161 : decode cX12_spellsStatement 161 = .ok (.bipush 59, 2) := by decide +kernel
theorem dX12_spellsStatement_163 : decode cX12_spellsStatement 163 = .ok (.invokevirtual 553, 3) := by decide +kernel
theorem dX12_spellsStatement_166 : decode cX12_spellsStatement 166 = .ok (.return_, 1) := by decide +kernel
theorem dX12_spellsBlock_0 : decode cX12_spellsBlock 0 = .ok (.aload_n 0, 1) := by decide +kernel
theorem dX12_spellsBlock_1 : decode cX12_spellsBlock 1 = .ok (.aload_n 1, 1) := by decide +kernel
theorem dX12_spellsBlock_2 : decode cX12_spellsBlock 2 = .ok (.invokevirtual 564, 3) := by decide +kernel
theorem dX12_spellsBlock_5 : decode cX12_spellsBlock 5 = .ok (.aload_n 0, 1) := by decide +kernel
theorem dX12_spellsBlock_6 : decode cX12_spellsBlock 6 = .ok (.bipush 66, 2) := by decide +kernel
theorem dX12_spellsBlock_8 : decode cX12_spellsBlock 8 = .ok (.iload_n 2, 1) := by decide +kernel
theorem dX12_spellsBlock_9 : decode cX12_spellsBlock 9 = .ok (.invokevirtual 559, 3) := by decide +kernel
theorem dX12_spellsBlock_12 : decode cX12_spellsBlock 12 = .ok (.aload_n 0, 1) := by decide +kernel
theorem dX12_spellsBlock_13 : decode cX12_spellsBlock 13 = .ok (.iload_n 3, 1) := by decide +kernel
theorem dX12_spellsBlock_14 : decode cX12_spellsBlock 14 = .ok (.invokevirtual 553, 3) := by decide +kernel
theorem dX12_spellsBlock_17 : decode cX12_spellsBlock 17 = .ok (.return_, 1) := by decide +kernel
theorem dX12_spellsLine_0 : decode cX12_spellsLine 0 = .ok (.aload_n 0, 1) := by decide +kernel
theorem dX12_spellsLine_1 : decode cX12_spellsLine 1 = .ok (.iconst 0, 1) := by decide +kernel
theorem dX12_spellsLine_2 : decode cX12_spellsLine 2 = .ok (.putfield 550, 3) := by decide +kernel
theorem dX12_spellsLine_5 : decode cX12_spellsLine 5 = .ok (.aload_n 0, 1) := by decide +kernel
theorem dX12_spellsLine_6 : decode cX12_spellsLine 6 = .ok (.getfield 136, 3) := by decide +kernel
theorem dX12_spellsLine_9 : decode cX12_spellsLine 9 = .ok (.iload_n 1, 1) := by decide +kernel
theorem dX12_spellsLine_10 : decode cX12_spellsLine 10 = .ok (.iaload, 1) := by decide +kernel
theorem dX12_spellsLine_11 : decode cX12_spellsLine 11 = .ok (.istore_n 2, 1) := by decide +kernel
theorem dX12_spellsLine_12 : decode cX12_spellsLine 12 = .ok (.aload_n 0, 1) := by decide +kernel
theorem dX12_spellsLine_13 : decode cX12_spellsLine 13 = .ok (.getfield 133, 3) := by decide +kernel
theorem dX12_spellsLine_16 : decode cX12_spellsLine 16 = .ok (.iload_n 1, 1) := by decide +kernel
theorem dX12_spellsLine_17 : decode cX12_spellsLine 17 = .ok (.iaload, 1) := by decide +kernel
theorem dX12_spellsLine_18 : decode cX12_spellsLine 18 = .ok (.tableswitch 182 0 10 #[58, 69, 80, 91, 115, 123, 130, 141, 152, 163, 171], 58) := by decide +kernel
theorem dX12_spellsLine_76 : decode cX12_spellsLine 76 = .ok (.aload_n 0, 1) := by decide +kernel
theorem dX12_spellsLine_77 : decode cX12_spellsLine 77 = .ok (.aload_n 0, 1) := by decide +kernel
theorem dX12_spellsLine_78 : decode cX12_spellsLine 78 = .ok (.getfield 142, 3) := by decide +kernel
theorem dX12_spellsLine_81 : decode cX12_spellsLine 81 = .ok (.iload_n 1, 1) := by decide +kernel
theorem dX12_spellsLine_82 : decode cX12_spellsLine 82 = .ok (.iaload, 1) := by decide +kernel
theorem dX12_spellsLine_83 : decode cX12_spellsLine 83 = .ok (.invokevirtual 576, 3) := by decide +kernel
theorem dX12_spellsLine_86 : decode cX12_spellsLine 86 = .ok (.return_, 1) := by decide +kernel
theorem dX12_spellsLine_87 : decode cX12_spellsLine 87 = .ok (.aload_n 0, 1) := by decide +kernel
theorem dX12_spellsLine_88 : decode cX12_spellsLine 88 = .ok (.ldc_w 579, 3) := by decide +kernel
theorem dX12_spellsLine_91 : decode cX12_spellsLine 91 = .ok (.iload_n 2, 1) := by decide +kernel
theorem dX12_spellsLine_92 : decode cX12_spellsLine 92 = .ok (.bipush 123, 2) := by decide +kernel
theorem dX12_spellsLine_94 : decode cX12_spellsLine 94 = .ok (.invokevirtual 581, 3) := by decide +kernel
theorem dX12_spellsLine_97 : decode cX12_spellsLine 97 = .ok (.return_, 1) := by decide +kernel
theorem dX12_spellsLine_98 : decode cX12_spellsLine 98 = .ok (.aload_n 0, 1) := by decide +kernel
theorem dX12_spellsLine_99 : decode cX12_spellsLine 99 = .ok (.ldc_w 585, 3) := by decide +kernel
theorem dX12_spellsLine_102 : decode cX12_spellsLine 102 = .ok (.iload_n 2, 1) := by decide +kernel
theorem dX12_spellsLine_103 : decode cX12_spellsLine 103 = .ok (.bipush 123, 2) := by decide +kernel
theorem dX12_spellsLine_105 : decode cX12_spellsLine 105 = .ok (.invokevirtual 581, 3) := by decide +kernel
theorem dX12_spellsLine_108 : decode cX12_spellsLine 108 = .ok (.return_, 1) := by decide +kernel
theorem dX12_spellsLine_109 : decode cX12_spellsLine 109 = .ok (.aload_n 0, 1) := by decide +kernel
theorem dX12_spellsLine_110 : decode cX12_spellsLine 110 = .ok (.ldc_w 587, 3) := by decide +kernel
theorem dX12_spellsLine_113 : decode cX12_spellsLine 113 = .ok (.invokevirtual 564, 3) := by decide +kernel
theorem dX12_spellsLine_116 : decode cX12_spellsLine 116 = .ok (.aload_n 0, 1) := by decide +kernel
theorem dX12_spellsLine_117 : decode cX12_spellsLine 117 = .ok (.aload_n 0, 1) := by decide +kernel
theorem dX12_spellsLine_118 : decode cX12_spellsLine 118 = .ok (.getfield 109, 3) := by decide +kernel
theorem dX12_spellsLine_121 : decode cX12_spellsLine 121 = .ok (.iload_n 2, 1) := by decide +kernel
theorem dX12_spellsLine_122 : decode cX12_spellsLine 122 = .ok (.iaload, 1) := by decide +kernel
theorem dX12_spellsLine_123 : decode cX12_spellsLine 123 = .ok (.invokevirtual 568, 3) := by decide +kernel
theorem dX12_spellsLine_126 : decode cX12_spellsLine 126 = .ok (.aload_n 0, 1) := by decide +kernel
theorem dX12_spellsLine_127 : decode cX12_spellsLine 127 = .ok (.bipush 123, 2) := by decide +kernel
theorem dX12_spellsLine_129 : decode cX12_spellsLine 129 = .ok (.invokevirtual 553, 3) := by decide +kernel
theorem dX12_spellsLine_132 : decode cX12_spellsLine 132 = .ok (.return_, 1) := by decide +kernel
theorem dX12_spellsLine_133 : decode cX12_spellsLine 133 = .ok (.aload_n 0, 1) := by decide +kernel
theorem dX12_spellsLine_134 : decode cX12_spellsLine 134 = .ok (.ldc_w 589, 3) := by decide +kernel
theorem dX12_spellsLine_137 : decode cX12_spellsLine 137 = .ok (.invokevirtual 564, 3) := by decide +kernel
theorem dX12_spellsLine_140 : decode cX12_spellsLine 140 = .ok (.return_, 1) := by decide +kernel
theorem dX12_spellsLine_141 : decode cX12_spellsLine 141 = .ok (.aload_n 0, 1) := by decide +kernel
theorem dX12_spellsLine_142 : decode cX12_spellsLine 142 = .ok (.bipush 125, 2) := by decide +kernel
theorem dX12_spellsLine_144 : decode cX12_spellsLine 144 = .ok (.invokevirtual 553, 3) := by decide +kernel
theorem dX12_spellsLine_147 : decode cX12_spellsLine 147 = .ok (.return_, 1) := by decide +kernel
theorem dX12_spellsLine_148 : decode cX12_spellsLine 148 = .ok (.aload_n 0, 1) := by decide +kernel
theorem dX12_spellsLine_149 : decode cX12_spellsLine 149 = .ok (.ldc_w 591, 3) := by decide +kernel
theorem dX12_spellsLine_152 : decode cX12_spellsLine 152 = .ok (.iload_n 2, 1) := by decide +kernel
theorem dX12_spellsLine_153 : decode cX12_spellsLine 153 = .ok (.bipush 59, 2) := by decide +kernel
theorem dX12_spellsLine_155 : decode cX12_spellsLine 155 = .ok (.invokevirtual 581, 3) := by decide +kernel
theorem dX12_spellsLine_158 : decode cX12_spellsLine 158 = .ok (.return_, 1) := by decide +kernel
theorem dX12_spellsLine_159 : decode cX12_spellsLine 159 = .ok (.aload_n 0, 1) := by decide +kernel
theorem dX12_spellsLine_160 : decode cX12_spellsLine 160 = .ok (.ldc_w 593, 3) := by decide +kernel
theorem dX12_spellsLine_163 : decode cX12_spellsLine 163 = .ok (.iload_n 2, 1) := by decide +kernel
theorem dX12_spellsLine_164 : decode cX12_spellsLine 164 = .ok (.bipush 59, 2) := by decide +kernel
theorem dX12_spellsLine_166 : decode cX12_spellsLine 166 = .ok (.invokevirtual 581, 3) := by decide +kernel
theorem dX12_spellsLine_169 : decode cX12_spellsLine 169 = .ok (.return_, 1) := by decide +kernel
theorem dX12_spellsLine_170 : decode cX12_spellsLine 170 = .ok (.aload_n 0, 1) := by decide +kernel
theorem dX12_spellsLine_171 : decode cX12_spellsLine 171 = .ok (.ldc_w 595, 3) := by decide +kernel
theorem dX12_spellsLine_174 : decode cX12_spellsLine 174 = .ok (.iload_n 2, 1) := by decide +kernel
theorem dX12_spellsLine_175 : decode cX12_spellsLine 175 = .ok (.bipush 59, 2) := by decide +kernel
theorem dX12_spellsLine_177 : decode cX12_spellsLine 177 = .ok (.invokevirtual 581, 3) := by decide +kernel
theorem dX12_spellsLine_180 : decode cX12_spellsLine 180 = .ok (.return_, 1) := by decide +kernel
theorem dX12_spellsLine_181 : decode cX12_spellsLine 181 = .ok (.aload_n 0, 1) := by decide +kernel
theorem dX12_spellsLine_182 : decode cX12_spellsLine 182 = .ok (.ldc_w 597, 3) := by decide +kernel
theorem dX12_spellsLine_185 : decode cX12_spellsLine 185 = .ok (.invokevirtual 564, 3) := by decide +kernel
theorem dX12_spellsLine_188 : decode cX12_spellsLine 188 = .ok (.return_, 1) := by decide +kernel
theorem dX12_spellsLine_189 : decode cX12_spellsLine 189 = .ok (.aload_n 0, 1) := by decide +kernel
theorem dX12_spellsLine_190 : decode cX12_spellsLine 190 = .ok (.ldc_w 599, 3) := by decide +kernel
theorem dX12_spellsLine_193 : decode cX12_spellsLine 193 = .ok (.iload_n 2, 1) := by decide +kernel
theorem dX12_spellsLine_194 : decode cX12_spellsLine 194 = .ok (.bipush 59, 2) := by decide +kernel
theorem dX12_spellsLine_196 : decode cX12_spellsLine 196 = .ok (.invokevirtual 581, 3) := by decide +kernel
theorem dX12_spellsLine_199 : decode cX12_spellsLine 199 = .ok (.return_, 1) := by decide +kernel
theorem dX12_spellsLine_200 : decode cX12_spellsLine 200 = .ok (.aload_n 0, 1) := by decide +kernel
theorem dX12_spellsLine_201 : decode cX12_spellsLine 201 = .ok (.ldc_w 601, 3) := by decide +kernel
theorem dX12_spellsLine_204 : decode cX12_spellsLine 204 = .ok (.iload_n 2, 1) := by decide +kernel
theorem dX12_spellsLine_205 : decode cX12_spellsLine 205 = .ok (.bipush 58, 2) := by decide +kernel
theorem dX12_spellsLine_207 : decode cX12_spellsLine 207 = .ok (.invokevirtual 581, 3) := by decide +kernel
theorem dX12_spellsLine_210 : decode cX12_spellsLine 210 = .ok (.return_, 1) := by decide +kernel
theorem dX12_told_0 : decode cX12_told 0 = .ok (.iload_n 1, 1) := by decide +kernel
theorem dX12_told_1 : decode cX12_told 1 = .ok (.iconst (-1), 1) := by decide +kernel
theorem dX12_told_2 : decode cX12_told 2 = .ok (.if_icmp .ne 10, 3) := by decide +kernel
theorem dX12_told_5 : decode cX12_told 5 = .ok (.aload_n 0, 1) := by decide +kernel
theorem dX12_told_6 : decode cX12_told 6 = .ok (.getfield 550, 3) := by decide +kernel
theorem dX12_told_9 : decode cX12_told 9 = .ok (.goto 29, 3) := by decide +kernel
theorem dX12_told_12 : decode cX12_told 12 = .ok (.iload_n 1, 1) := by decide +kernel
theorem dX12_told_13 : decode cX12_told 13 = .ok (.i2l, 1) := by decide +kernel
theorem dX12_told_14 : decode cX12_told 14 = .ok (.lconst 0, 1) := by decide +kernel
theorem dX12_told_15 : decode cX12_told 15 = .ok (.aload_n 0, 1) := by decide +kernel
theorem dX12_told_16 : decode cX12_told 16 = .ok (.getfield 550, 3) := by decide +kernel
theorem dX12_told_19 : decode cX12_told 19 = .ok (.iconst 1, 1) := by decide +kernel
theorem dX12_told_20 : decode cX12_told 20 = .ok (.isub, 1) := by decide +kernel
theorem dX12_told_21 : decode cX12_told 21 = .ok (.i2l, 1) := by decide +kernel
theorem dX12_told_22 : decode cX12_told 22 = .ok (.invokestatic 312, 3) := by decide +kernel
theorem dX12_told_25 : decode cX12_told 25 = .ok (.ifCond .eq 12, 3) := by decide +kernel
theorem dX12_told_28 : decode cX12_told 28 = .ok (.aload_n 0, 1) := by decide +kernel
theorem dX12_told_29 : decode cX12_told 29 = .ok (.getfield 148, 3) := by decide +kernel
theorem dX12_told_32 : decode cX12_told 32 = .ok (.iload_n 1, 1) := by decide +kernel
theorem dX12_told_33 : decode cX12_told 33 = .ok (.iaload, 1) := by decide +kernel
theorem dX12_told_34 : decode cX12_told 34 = .ok (.goto 4, 3) := by decide +kernel
theorem dX12_told_37 : decode cX12_told 37 = .ok (.iconst (-1), 1) := by decide +kernel
theorem dX12_told_38 : decode cX12_told 38 = .ok (.ireturn, 1) := by decide +kernel
theorem dX12_isLine_0 : decode cX12_isLine 0 = .ok (.aload_n 0, 1) := by decide +kernel
theorem dX12_isLine_1 : decode cX12_isLine 1 = .ok (.getfield 292, 3) := by decide +kernel
theorem dX12_isLine_4 : decode cX12_isLine 4 = .ok (.ifCond .eq 31, 3) := by decide +kernel
theorem dX12_isLine_7 : decode cX12_isLine 7 = .ok (.aload_n 0, 1) := by decide +kernel
theorem dX12_isLine_8 : decode cX12_isLine 8 = .ok (.getfield 358, 3) := by decide +kernel
theorem dX12_isLine_11 : decode cX12_isLine 11 = .ok (.iconst (-1), 1) := by decide +kernel
theorem dX12_isLine_12 : decode cX12_isLine 12 = .ok (.if_icmp .eq 23, 3) := by decide +kernel
theorem dX12_isLine_15 : decode cX12_isLine 15 = .ok (.iload_n 1, 1) := by decide +kernel
theorem dX12_isLine_16 : decode cX12_isLine 16 = .ok (.i2l, 1) := by decide +kernel
theorem dX12_isLine_17 : decode cX12_isLine 17 = .ok (.lconst 0, 1) := by decide +kernel
theorem dX12_isLine_18 : decode cX12_isLine 18 = .ok (.aload_n 0, 1) := by decide +kernel
theorem dX12_isLine_19 : decode cX12_isLine 19 = .ok (.getfield 479, 3) := by decide +kernel
theorem dX12_isLine_22 : decode cX12_isLine 22 = .ok (.iconst 1, 1) := by decide +kernel
theorem dX12_isLine_23 : decode cX12_isLine 23 = .ok (.isub, 1) := by decide +kernel
theorem dX12_isLine_24 : decode cX12_isLine 24 = .ok (.i2l, 1) := by decide +kernel
theorem dX12_isLine_25 : decode cX12_isLine 25 = .ok (.invokestatic 312, 3) := by decide +kernel
theorem dX12_isLine_28 : decode cX12_isLine 28 = .ok (.ifCond .eq 7, 3) := by decide +kernel
theorem dX12_isLine_31 : decode cX12_isLine 31 = .ok (.iconst 1, 1) := by decide +kernel
theorem dX12_isLine_32 : decode cX12_isLine 32 = .ok (.goto 4, 3) := by decide +kernel
theorem dX12_isLine_35 : decode cX12_isLine 35 = .ok (.iconst 0, 1) := by decide +kernel
theorem dX12_isLine_36 : decode cX12_isLine 36 = .ok (.ireturn, 1) := by decide +kernel
theorem dX12_spell_0 : decode cX12_spell 0 = .ok (.aload_n 0, 1) := by decide +kernel
theorem dX12_spell_1 : decode cX12_spell 1 = .ok (.iconst 0, 1) := by decide +kernel
theorem dX12_spell_2 : decode cX12_spell 2 = .ok (.putfield 169, 3) := by decide +kernel
theorem dX12_spell_5 : decode cX12_spell 5 = .ok (.aload_n 0, 1) := by decide +kernel
theorem dX12_spell_6 : decode cX12_spell 6 = .ok (.iload_n 1, 1) := by decide +kernel
theorem dX12_spell_7 : decode cX12_spell 7 = .ok (.invokevirtual 603, 3) := by decide +kernel
theorem dX12_spell_10 : decode cX12_spell 10 = .ok (.ifCond .ne 5, 3) := by decide +kernel
theorem dX12_spell_13 : decode cX12_spell 13 = .ok (.iconst (-1), 1) := by decide +kernel
theorem dX12_spell_14 : decode cX12_spell 14 = .ok (.ireturn, 1) := by decide +kernel
theorem dX12_spell_15 : decode cX12_spell 15 = .ok (.aload_n 0, 1) := by decide +kernel
theorem dX12_spell_16 : decode cX12_spell 16 = .ok (.iload_n 1, 1) := by decide +kernel
theorem dX12_spell_17 : decode cX12_spell 17 = .ok (.invokevirtual 606, 3) := by decide +kernel
theorem dX12_spell_20 : decode cX12_spell 20 = .ok (.aload_n 0, 1) := by decide +kernel
theorem dX12_spell_21 : decode cX12_spell 21 = .ok (.iload_n 2, 1) := by decide +kernel
theorem dX12_spell_22 : decode cX12_spell 22 = .ok (.invokevirtual 609, 3) := by decide +kernel
theorem dX12_spell_25 : decode cX12_spell 25 = .ok (.ireturn, 1) := by decide +kernel
theorem dX12_line__0 : decode cX12_line_ 0 = .ok (.aload_n 0, 1) := by decide +kernel
theorem dX12_line__1 : decode cX12_line_ 1 = .ok (.iconst 0, 1) := by decide +kernel
theorem dX12_line__2 : decode cX12_line_ 2 = .ok (.putfield 169, 3) := by decide +kernel
theorem dX12_line__5 : decode cX12_line_ 5 = .ok (.aload_n 0, 1) := by decide +kernel
theorem dX12_line__6 : decode cX12_line_ 6 = .ok (.iload_n 1, 1) := by decide +kernel
theorem dX12_line__7 : decode cX12_line_ 7 = .ok (.invokevirtual 603, 3) := by decide +kernel
theorem dX12_line__10 : decode cX12_line_ 10 = .ok (.ifCond .eq 15, 3) := by decide +kernel
theorem dX12_line__13 : decode cX12_line_ 13 = .ok (.iload_n 2, 1) := by decide +kernel
theorem dX12_line__14 : decode cX12_line_ 14 = .ok (.i2l, 1) := by decide +kernel
theorem dX12_line__15 : decode cX12_line_ 15 = .ok (.lconst 0, 1) := by decide +kernel
theorem dX12_line__16 : decode cX12_line_ 16 = .ok (.ldc2_w 612, 3) := by decide +kernel
theorem dX12_line__19 : decode cX12_line_ 19 = .ok (.invokestatic 312, 3) := by decide +kernel
theorem dX12_line__22 : decode cX12_line_ 22 = .ok (.ifCond .ne 7, 3) := by decide +kernel
theorem dX12_line__25 : decode cX12_line_ 25 = .ok (.ldc_w 614, 3) := by decide +kernel
theorem dX12_line__28 : decode cX12_line_ 28 = .ok (.ireturn, 1) := by decide +kernel
theorem dX12_line__29 : decode cX12_line_ 29 = .ok (.iload_n 2, 1) := by decide +kernel
theorem dX12_line__30 : decode cX12_line_ 30 = .ok (.ifCond .ne 12, 3) := by decide +kernel
theorem dX12_line__33 : decode cX12_line_ 33 = .ok (.aload_n 0, 1) := by decide +kernel
theorem dX12_line__34 : decode cX12_line_ 34 = .ok (.getfield 133, 3) := by decide +kernel
theorem dX12_line__37 : decode cX12_line_ 37 = .ok (.iload_n 1, 1) := by decide +kernel
theorem dX12_line__38 : decode cX12_line_ 38 = .ok (.iaload, 1) := by decide +kernel
theorem dX12_line__39 : decode cX12_line_ 39 = .ok (.goto 23, 3) := by decide +kernel
theorem dX12_line__42 : decode cX12_line_ 42 = .ok (.iload_n 2, 1) := by decide +kernel
theorem dX12_line__43 : decode cX12_line_ 43 = .ok (.iconst 1, 1) := by decide +kernel
theorem dX12_line__44 : decode cX12_line_ 44 = .ok (.if_icmp .ne 12, 3) := by decide +kernel
theorem dX12_line__47 : decode cX12_line_ 47 = .ok (.aload_n 0, 1) := by decide +kernel
theorem dX12_line__48 : decode cX12_line_ 48 = .ok (.getfield 136, 3) := by decide +kernel
theorem dX12_line__51 : decode cX12_line_ 51 = .ok (.iload_n 1, 1) := by decide +kernel
theorem dX12_line__52 : decode cX12_line_ 52 = .ok (.iaload, 1) := by decide +kernel
theorem dX12_line__53 : decode cX12_line_ 53 = .ok (.goto 9, 3) := by decide +kernel
theorem dX12_line__56 : decode cX12_line_ 56 = .ok (.aload_n 0, 1) := by decide +kernel
theorem dX12_line__57 : decode cX12_line_ 57 = .ok (.getfield 139, 3) := by decide +kernel
theorem dX12_line__60 : decode cX12_line_ 60 = .ok (.iload_n 1, 1) := by decide +kernel
theorem dX12_line__61 : decode cX12_line_ 61 = .ok (.iaload, 1) := by decide +kernel
theorem dX12_line__62 : decode cX12_line_ 62 = .ok (.ireturn, 1) := by decide +kernel
theorem dX12_isBlock_0 : decode cX12_isBlock 0 = .ok (.aload_n 0, 1) := by decide +kernel
theorem dX12_isBlock_1 : decode cX12_isBlock 1 = .ok (.getfield 292, 3) := by decide +kernel
theorem dX12_isBlock_4 : decode cX12_isBlock 4 = .ok (.ifCond .eq 23, 3) := by decide +kernel
theorem dX12_isBlock_7 : decode cX12_isBlock 7 = .ok (.iload_n 1, 1) := by decide +kernel
theorem dX12_isBlock_8 : decode cX12_isBlock 8 = .ok (.i2l, 1) := by decide +kernel
theorem dX12_isBlock_9 : decode cX12_isBlock 9 = .ok (.lconst 0, 1) := by decide +kernel
theorem dX12_isBlock_10 : decode cX12_isBlock 10 = .ok (.aload_n 0, 1) := by decide +kernel
theorem dX12_isBlock_11 : decode cX12_isBlock 11 = .ok (.getfield 299, 3) := by decide +kernel
theorem dX12_isBlock_14 : decode cX12_isBlock 14 = .ok (.iconst 1, 1) := by decide +kernel
theorem dX12_isBlock_15 : decode cX12_isBlock 15 = .ok (.isub, 1) := by decide +kernel
theorem dX12_isBlock_16 : decode cX12_isBlock 16 = .ok (.i2l, 1) := by decide +kernel
theorem dX12_isBlock_17 : decode cX12_isBlock 17 = .ok (.invokestatic 312, 3) := by decide +kernel
theorem dX12_isBlock_20 : decode cX12_isBlock 20 = .ok (.ifCond .eq 7, 3) := by decide +kernel
theorem dX12_isBlock_23 : decode cX12_isBlock 23 = .ok (.iconst 1, 1) := by decide +kernel
theorem dX12_isBlock_24 : decode cX12_isBlock 24 = .ok (.goto 4, 3) := by decide +kernel
theorem dX12_isBlock_27 : decode cX12_isBlock 27 = .ok (.iconst 0, 1) := by decide +kernel
theorem dX12_isBlock_28 : decode cX12_isBlock 28 = .ok (.ireturn, 1) := by decide +kernel
theorem dX12_condition_0 : decode cX12_condition 0 = .ok (.aload_n 0, 1) := by decide +kernel
theorem dX12_condition_1 : decode cX12_condition 1 = .ok (.iconst 0, 1) := by decide +kernel
theorem dX12_condition_2 : decode cX12_condition 2 = .ok (.putfield 169, 3) := by decide +kernel
theorem dX12_condition_5 : decode cX12_condition 5 = .ok (.aload_n 0, 1) := by decide +kernel
theorem dX12_condition_6 : decode cX12_condition 6 = .ok (.iload_n 1, 1) := by decide +kernel
theorem dX12_condition_7 : decode cX12_condition 7 = .ok (.invokevirtual 615, 3) := by decide +kernel
theorem dX12_condition_10 : decode cX12_condition 10 = .ok (.ifCond .eq 13, 3) := by decide +kernel
theorem dX12_condition_13 : decode cX12_condition 13 = .ok (.aload_n 0, 1) := by decide +kernel
theorem dX12_condition_14 : decode cX12_condition 14 = .ok (.getfield 109, 3) := by decide +kernel
theorem dX12_condition_17 : decode cX12_condition 17 = .ok (.iload_n 1, 1) := by decide +kernel
theorem dX12_condition_18 : decode cX12_condition 18 = .ok (.iaload, 1) := by decide +kernel
theorem dX12_condition_19 : decode cX12_condition 19 = .ok (.iconst (-1), 1) := by decide +kernel
theorem dX12_condition_20 : decode cX12_condition 20 = .ok (.if_icmp .ne 5, 3) := by decide +kernel
theorem dX12_condition_23 : decode cX12_condition 23 = .ok (.iconst (-1), 1) := by decide +kernel
theorem dX12_condition_24 : decode cX12_condition 24 = .ok (.ireturn, 1) := by decide +kernel
theorem dX12_condition_25 : decode cX12_condition 25 = .ok (.aload_n 0, 1) := by decide +kernel
theorem dX12_condition_26 : decode cX12_condition 26 = .ok (.iconst 0, 1) := by decide +kernel
theorem dX12_condition_27 : decode cX12_condition 27 = .ok (.putfield 550, 3) := by decide +kernel
theorem dX12_condition_30 : decode cX12_condition 30 = .ok (.aload_n 0, 1) := by decide +kernel
theorem dX12_condition_31 : decode cX12_condition 31 = .ok (.aload_n 0, 1) := by decide +kernel
theorem dX12_condition_32 : decode cX12_condition 32 = .ok (.getfield 109, 3) := by decide +kernel
theorem dX12_condition_35 : decode cX12_condition 35 = .ok (.iload_n 1, 1) := by decide +kernel
theorem dX12_condition_36 : decode cX12_condition 36 = .ok (.iaload, 1) := by decide +kernel
theorem dX12_condition_37 : decode cX12_condition 37 = .ok (.invokevirtual 568, 3) := by decide +kernel
theorem dX12_condition_40 : decode cX12_condition 40 = .ok (.aload_n 0, 1) := by decide +kernel
theorem dX12_condition_41 : decode cX12_condition 41 = .ok (.iload_n 2, 1) := by decide +kernel
theorem dX12_condition_42 : decode cX12_condition 42 = .ok (.invokevirtual 609, 3) := by decide +kernel
theorem dX12_condition_45 : decode cX12_condition 45 = .ok (.ireturn, 1) := by decide +kernel
theorem dX12_statement_0 : decode cX12_statement 0 = .ok (.aload_n 0, 1) := by decide +kernel
theorem dX12_statement_1 : decode cX12_statement 1 = .ok (.iconst 0, 1) := by decide +kernel
theorem dX12_statement_2 : decode cX12_statement 2 = .ok (.putfield 169, 3) := by decide +kernel
theorem dX12_statement_5 : decode cX12_statement 5 = .ok (.aload_n 0, 1) := by decide +kernel
theorem dX12_statement_6 : decode cX12_statement 6 = .ok (.iload_n 1, 1) := by decide +kernel
theorem dX12_statement_7 : decode cX12_statement 7 = .ok (.invokevirtual 615, 3) := by decide +kernel
theorem dX12_statement_10 : decode cX12_statement 10 = .ok (.ifCond .eq 42, 3) := by decide +kernel
theorem dX12_statement_13 : decode cX12_statement 13 = .ok (.iload_n 2, 1) := by decide +kernel
theorem dX12_statement_14 : decode cX12_statement 14 = .ok (.i2l, 1) := by decide +kernel
theorem dX12_statement_15 : decode cX12_statement 15 = .ok (.lconst 0, 1) := by decide +kernel
theorem dX12_statement_16 : decode cX12_statement 16 = .ok (.aload_n 0, 1) := by decide +kernel
theorem dX12_statement_17 : decode cX12_statement 17 = .ok (.getfield 106, 3) := by decide +kernel
theorem dX12_statement_20 : decode cX12_statement 20 = .ok (.iload_n 1, 1) := by decide +kernel
theorem dX12_statement_21 : decode cX12_statement 21 = .ok (.iconst 1, 1) := by decide +kernel
theorem dX12_statement_22 : decode cX12_statement 22 = .ok (.iadd, 1) := by decide +kernel
theorem dX12_statement_23 : decode cX12_statement 23 = .ok (.iaload, 1) := by decide +kernel
theorem dX12_statement_24 : decode cX12_statement 24 = .ok (.aload_n 0, 1) := by decide +kernel
theorem dX12_statement_25 : decode cX12_statement 25 = .ok (.getfield 106, 3) := by decide +kernel
theorem dX12_statement_28 : decode cX12_statement 28 = .ok (.iload_n 1, 1) := by decide +kernel
theorem dX12_statement_29 : decode cX12_statement 29 = .ok (.iaload, 1) := by decide +kernel
theorem dX12_statement_30 : decode cX12_statement 30 = .ok (.isub, 1) := by decide +kernel
theorem dX12_statement_31 : decode cX12_statement 31 = .ok (.iconst 1, 1) := by decide +kernel
theorem dX12_statement_32 : decode cX12_statement 32 = .ok (.isub, 1) := by decide +kernel
theorem dX12_statement_33 : decode cX12_statement 33 = .ok (.i2l, 1) := by decide +kernel
theorem dX12_statement_34 : decode cX12_statement 34 = .ok (.invokestatic 312, 3) := by decide +kernel
theorem dX12_statement_37 : decode cX12_statement 37 = .ok (.ifCond .eq 15, 3) := by decide +kernel
theorem dX12_statement_40 : decode cX12_statement 40 = .ok (.iload_n 3, 1) := by decide +kernel
theorem dX12_statement_41 : decode cX12_statement 41 = .ok (.i2l, 1) := by decide +kernel
theorem dX12_statement_42 : decode cX12_statement 42 = .ok (.lconst 0, 1) := by decide +kernel
theorem dX12_statement_43 : decode cX12_statement 43 = .ok (.ldc2_w 618, 3) := by decide +kernel
theorem dX12_statement_46 : decode cX12_statement 46 = .ok (.invokestatic 312, 3) := by decide +kernel
theorem dX12_statement_49 : decode cX12_statement 49 = .ok (.ifCond .ne 7, 3) := by decide +kernel
theorem dX12_statement_52 : decode cX12_statement 52 = .ok (.ldc_w 614, 3) := by decide +kernel
theorem dX12_statement_55 : decode cX12_statement 55 = .ok (.ireturn, 1) := by decide +kernel
theorem dX12_statement_56 : decode cX12_statement 56 = .ok (.aload_n 0, 1) := by decide +kernel
theorem dX12_statement_57 : decode cX12_statement 57 = .ok (.getfield 106, 3) := by decide +kernel
theorem dX12_statement_60 : decode cX12_statement 60 = .ok (.iload_n 1, 1) := by decide +kernel
theorem dX12_statement_61 : decode cX12_statement 61 = .ok (.iaload, 1) := by decide +kernel
theorem dX12_statement_62 : decode cX12_statement 62 = .ok (.iload_n 2, 1) := by decide +kernel
theorem dX12_statement_63 : decode cX12_statement 63 = .ok (.iadd, 1) := by decide +kernel
theorem dX12_statement_64 : decode cX12_statement 64 = .ok (.istore 4, 2) := by decide +kernel
theorem dX12_statement_66 : decode cX12_statement 66 = .ok (.aload_n 0, 1) := by decide +kernel
theorem dX12_statement_67 : decode cX12_statement 67 = .ok (.getfield 103, 3) := by decide +kernel
theorem dX12_statement_70 : decode cX12_statement 70 = .ok (.iload 4, 2) := by decide +kernel
theorem dX12_statement_72 : decode cX12_statement 72 = .ok (.iaload, 1) := by decide +kernel
theorem dX12_statement_73 : decode cX12_statement 73 = .ok (.istore 5, 2) := by decide +kernel
theorem dX12_statement_75 : decode cX12_statement 75 = .ok (.iload_n 3, 1) := by decide +kernel
theorem dX12_statement_76 : decode cX12_statement 76 = .ok (.ifCond .ne 11, 3) := by decide +kernel
theorem dX12_statement_79 : decode cX12_statement 79 = .ok (.aload_n 0, 1) := by decide +kernel
theorem dX12_statement_80 : decode cX12_statement 80 = .ok (.getfield 97, 3) := by decide +kernel
theorem dX12_statement_83 : decode cX12_statement 83 = .ok (.iload 4, 2) := by decide +kernel
theorem dX12_statement_85 : decode cX12_statement 85 = .ok (.iaload, 1) := by decide +kernel
theorem dX12_statement_86 : decode cX12_statement 86 = .ok (.ireturn, 1) := by decide +kernel
theorem dX12_statement_87 : decode cX12_statement 87 = .ok (.iload_n 3, 1) := by decide +kernel
theorem dX12_statement_88 : decode cX12_statement 88 = .ok (.iconst 1, 1) := by decide +kernel
theorem dX12_statement_89 : decode cX12_statement 89 = .ok (.if_icmp .ne 11, 3) := by decide +kernel
theorem dX12_statement_92 : decode cX12_statement 92 = .ok (.aload_n 0, 1) := by decide +kernel
theorem dX12_statement_93 : decode cX12_statement 93 = .ok (.getfield 100, 3) := by decide +kernel
theorem dX12_statement_96 : decode cX12_statement 96 = .ok (.iload 4, 2) := by decide +kernel
theorem dX12_statement_98 : decode cX12_statement 98 = .ok (.iaload, 1) := by decide +kernel
theorem dX12_statement_99 : decode cX12_statement 99 = .ok (.ireturn, 1) := by decide +kernel
theorem dX12_statement_100 : decode cX12_statement 100 = .ok (.iload 5, 2) := by decide +kernel
theorem dX12_statement_102 : decode cX12_statement 102 = .ok (.iconst (-1), 1) := by decide +kernel
theorem dX12_statement_103 : decode cX12_statement 103 = .ok (.if_icmp .ne 5, 3) := by decide +kernel
theorem dX12_statement_106 : decode cX12_statement 106 = .ok (.iconst 0, 1) := by decide +kernel
theorem dX12_statement_107 : decode cX12_statement 107 = .ok (.ireturn, 1) := by decide +kernel
theorem dX12_statement_108 : decode cX12_statement 108 = .ok (.aload_n 0, 1) := by decide +kernel
theorem dX12_statement_109 : decode cX12_statement 109 = .ok (.iconst 0, 1) := by decide +kernel
theorem dX12_statement_110 : decode cX12_statement 110 = .ok (.putfield 550, 3) := by decide +kernel
theorem dX12_statement_113 : decode cX12_statement 113 = .ok (.aload_n 0, 1) := by decide +kernel
theorem dX12_statement_114 : decode cX12_statement 114 = .ok (.iload 5, 2) := by decide +kernel
theorem dX12_statement_116 : decode cX12_statement 116 = .ok (.invokevirtual 568, 3) := by decide +kernel
theorem dX12_statement_119 : decode cX12_statement 119 = .ok (.iload_n 3, 1) := by decide +kernel
theorem dX12_statement_120 : decode cX12_statement 120 = .ok (.iconst 2, 1) := by decide +kernel
theorem dX12_statement_121 : decode cX12_statement 121 = .ok (.if_icmp .ne 10, 3) := by decide +kernel
theorem dX12_statement_124 : decode cX12_statement 124 = .ok (.aload_n 0, 1) := by decide +kernel
theorem dX12_statement_125 : decode cX12_statement 125 = .ok (.getfield 550, 3) := by decide +kernel
theorem dX12_statement_128 : decode cX12_statement 128 = .ok (.goto 31, 3) := by decide +kernel
theorem dX12_statement_131 : decode cX12_statement 131 = .ok (.iload_n 3, 1) := by decide +kernel
theorem dX12_statement_132 : decode cX12_statement 132 = .ok (.iconst 3, 1) := by decide +kernel
theorem dX12_statement_133 : decode cX12_statement 133 = .ok (.if_icmp .ne 20, 3) := by decide +kernel
theorem dX12_statement_136 : decode cX12_statement 136 = .ok (.aload_n 0, 1) := by decide +kernel
theorem dX12_statement_137 : decode cX12_statement 137 = .ok (.iload 5, 2) := by decide +kernel
theorem dX12_statement_139 : decode cX12_statement 139 = .ok (.invokevirtual 384, 3) := by decide +kernel
theorem dX12_statement_142 : decode cX12_statement 142 = .ok (.ifCond .eq 7, 3) := by decide +kernel
theorem dX12_statement_145 : decode cX12_statement 145 = .ok (.iconst 1, 1) := by decide +kernel
theorem dX12_statement_146 : decode cX12_statement 146 = .ok (.goto 13, 3) := by decide +kernel
theorem dX12_statement_149 : decode cX12_statement 149 = .ok (.iconst 0, 1) := by decide +kernel
theorem dX12_statement_150 : decode cX12_statement 150 = .ok (.goto 9, 3) := by decide +kernel
theorem dX12_statement_153 : decode cX12_statement 153 = .ok (.aload_n 0, 1) := by decide +kernel
theorem dX12_statement_154 : decode cX12_statement 154 = .ok (.iload 5, 2) := by decide +kernel
theorem dX12_statement_156 : decode cX12_statement 156 = .ok (.invokevirtual 401, 3) := by decide +kernel
theorem dX12_statement_159 : decode cX12_statement 159 = .ok (.ireturn, 1) := by decide +kernel
theorem dX12_countLoops_0 : decode cX12_countLoops 0 = .ok (.iconst 0, 1) := by decide +kernel
theorem dX12_countLoops_1 : decode cX12_countLoops 1 = .ok (.istore_n 1, 1) := by decide +kernel
theorem dX12_countLoops_2 : decode cX12_countLoops 2 = .ok (.iconst 0, 1) := by decide +kernel
theorem dX12_countLoops_3 : decode cX12_countLoops 3 = .ok (.istore_n 2, 1) := by decide +kernel
theorem dX12_countLoops_4 : decode cX12_countLoops 4 = .ok (.iload_n 2, 1) := by decide +kernel
theorem dX12_countLoops_5 : decode cX12_countLoops 5 = .ok (.aload_n 0, 1) := by decide +kernel
theorem dX12_countLoops_6 : decode cX12_countLoops 6 = .ok (.getfield 299, 3) := by decide +kernel
theorem dX12_countLoops_9 : decode cX12_countLoops 9 = .ok (.if_icmp .ge 28, 3) := by decide +kernel
theorem dX12_countLoops_12 : decode cX12_countLoops 12 = .ok (.iload_n 1, 1) := by decide +kernel
theorem dX12_countLoops_13 : decode cX12_countLoops 13 = .ok (.aload_n 0, 1) := by decide +kernel
theorem dX12_countLoops_14 : decode cX12_countLoops 14 = .ok (.getfield 79, 3) := by decide +kernel
theorem dX12_countLoops_17 : decode cX12_countLoops 17 = .ok (.iload_n 2, 1) := by decide +kernel
theorem dX12_countLoops_18 : decode cX12_countLoops 18 = .ok (.laload, 1) := by decide +kernel
theorem dX12_countLoops_19 : decode cX12_countLoops 19 = .ok (.lconst 0, 1) := by decide +kernel
theorem dX12_countLoops_20 : decode cX12_countLoops 20 = .ok (.lcmp, 1) := by decide +kernel
theorem dX12_countLoops_21 : decode cX12_countLoops 21 = .ok (.ifCond .ne 7, 3) := by decide +kernel
theorem dX12_countLoops_24 : decode cX12_countLoops 24 = .ok (.iconst 0, 1) := by decide +kernel
theorem dX12_countLoops_25 : decode cX12_countLoops 25 = .ok (.goto 4, 3) := by decide +kernel
theorem dX12_countLoops_28 : decode cX12_countLoops 28 = .ok (.iconst 1, 1) := by decide +kernel
theorem dX12_countLoops_29 : decode cX12_countLoops 29 = .ok (.iadd, 1) := by decide +kernel
theorem dX12_countLoops_30 : decode cX12_countLoops 30 = .ok (.istore_n 1, 1) := by decide +kernel
theorem dX12_countLoops_31 : decode cX12_countLoops 31 = .ok (.iinc 2 1, 3) := by decide +kernel
theorem dX12_countLoops_34 : decode cX12_countLoops 34 = .ok (.goto (-30), 3) := by decide +kernel
theorem dX12_countLoops_37 : decode cX12_countLoops 37 = .ok (.iload_n 1, 1) := by decide +kernel
theorem dX12_countLoops_38 : decode cX12_countLoops 38 = .ok (.ireturn, 1) := by decide +kernel
theorem dX12_countMerges_0 : decode cX12_countMerges 0 = .ok (.iconst 0, 1) := by decide +kernel
theorem dX12_countMerges_1 : decode cX12_countMerges 1 = .ok (.istore_n 1, 1) := by decide +kernel
theorem dX12_countMerges_2 : decode cX12_countMerges 2 = .ok (.iconst 0, 1) := by decide +kernel
theorem dX12_countMerges_3 : decode cX12_countMerges 3 = .ok (.istore_n 2, 1) := by decide +kernel
theorem dX12_countMerges_4 : decode cX12_countMerges 4 = .ok (.iload_n 2, 1) := by decide +kernel
theorem dX12_countMerges_5 : decode cX12_countMerges 5 = .ok (.aload_n 0, 1) := by decide +kernel
theorem dX12_countMerges_6 : decode cX12_countMerges 6 = .ok (.getfield 299, 3) := by decide +kernel
theorem dX12_countMerges_9 : decode cX12_countMerges 9 = .ok (.if_icmp .ge 25, 3) := by decide +kernel
theorem dX12_countMerges_12 : decode cX12_countMerges 12 = .ok (.iload_n 1, 1) := by decide +kernel
theorem dX12_countMerges_13 : decode cX12_countMerges 13 = .ok (.aload_n 0, 1) := by decide +kernel
theorem dX12_countMerges_14 : decode cX12_countMerges 14 = .ok (.iload_n 2, 1) := by decide +kernel
theorem dX12_countMerges_15 : decode cX12_countMerges 15 = .ok (.invokevirtual 497, 3) := by decide +kernel
theorem dX12_countMerges_18 : decode cX12_countMerges 18 = .ok (.ifCond .eq 7, 3) := by decide +kernel
theorem dX12_countMerges_21 : decode cX12_countMerges 21 = .ok (.iconst 1, 1) := by decide +kernel
theorem dX12_countMerges_22 : decode cX12_countMerges 22 = .ok (.goto 4, 3) := by decide +kernel
theorem dX12_countMerges_25 : decode cX12_countMerges 25 = .ok (.iconst 0, 1) := by decide +kernel
theorem dX12_countMerges_26 : decode cX12_countMerges 26 = .ok (.iadd, 1) := by decide +kernel
theorem dX12_countMerges_27 : decode cX12_countMerges 27 = .ok (.istore_n 1, 1) := by decide +kernel
theorem dX12_countMerges_28 : decode cX12_countMerges 28 = .ok (.iinc 2 1, 3) := by decide +kernel
theorem dX12_countMerges_31 : decode cX12_countMerges 31 = .ok (.goto (-27), 3) := by decide +kernel
theorem dX12_countMerges_34 : decode cX12_countMerges 34 = .ok (.iload_n 1, 1) := by decide +kernel
theorem dX12_countMerges_35 : decode cX12_countMerges 35 = .ok (.ireturn, 1) := by decide +kernel
theorem dX12_countDead_0 : decode cX12_countDead 0 = .ok (.iconst 0, 1) := by decide +kernel
theorem dX12_countDead_1 : decode cX12_countDead 1 = .ok (.istore_n 1, 1) := by decide +kernel
theorem dX12_countDead_2 : decode cX12_countDead 2 = .ok (.iconst 0, 1) := by decide +kernel
theorem dX12_countDead_3 : decode cX12_countDead 3 = .ok (.istore_n 2, 1) := by decide +kernel
theorem dX12_countDead_4 : decode cX12_countDead 4 = .ok (.iload_n 2, 1) := by decide +kernel
theorem dX12_countDead_5 : decode cX12_countDead 5 = .ok (.aload_n 0, 1) := by decide +kernel
theorem dX12_countDead_6 : decode cX12_countDead 6 = .ok (.getfield 286, 3) := by decide +kernel
theorem dX12_countDead_9 : decode cX12_countDead 9 = .ok (.if_icmp .ge 26, 3) := by decide +kernel
theorem dX12_countDead_12 : decode cX12_countDead 12 = .ok (.iload_n 1, 1) := by decide +kernel
theorem dX12_countDead_13 : decode cX12_countDead 13 = .ok (.aload_n 0, 1) := by decide +kernel
theorem dX12_countDead_14 : decode cX12_countDead 14 = .ok (.getfield 130, 3) := by decide +kernel
theorem dX12_countDead_17 : decode cX12_countDead 17 = .ok (.iload_n 2, 1) := by decide +kernel
theorem dX12_countDead_18 : decode cX12_countDead 18 = .ok (.baload, 1) := by decide +kernel
theorem dX12_countDead_19 : decode cX12_countDead 19 = .ok (.ifCond .eq 7, 3) := by decide +kernel
theorem dX12_countDead_22 : decode cX12_countDead 22 = .ok (.iconst 1, 1) := by decide +kernel
theorem dX12_countDead_23 : decode cX12_countDead 23 = .ok (.goto 4, 3) := by decide +kernel
theorem dX12_countDead_26 : decode cX12_countDead 26 = .ok (.iconst 0, 1) := by decide +kernel
theorem dX12_countDead_27 : decode cX12_countDead 27 = .ok (.iadd, 1) := by decide +kernel
theorem dX12_countDead_28 : decode cX12_countDead 28 = .ok (.istore_n 1, 1) := by decide +kernel
theorem dX12_countDead_29 : decode cX12_countDead 29 = .ok (.iinc 2 1, 3) := by decide +kernel
theorem dX12_countDead_32 : decode cX12_countDead 32 = .ok (.goto (-28), 3) := by decide +kernel
theorem dX12_countDead_35 : decode cX12_countDead 35 = .ok (.iload_n 1, 1) := by decide +kernel
theorem dX12_countDead_36 : decode cX12_countDead 36 = .ok (.ireturn, 1) := by decide +kernel
theorem dX12_meets_0 : decode cX12_meets 0 = .ok (.aload_n 0, 1) := by decide +kernel
theorem dX12_meets_1 : decode cX12_meets 1 = .ok (.iload_n 1, 1) := by decide +kernel
theorem dX12_meets_2 : decode cX12_meets 2 = .ok (.invokevirtual 381, 3) := by decide +kernel
theorem dX12_meets_5 : decode cX12_meets 5 = .ok (.ifCond .ne 11, 3) := by decide +kernel
theorem dX12_meets_8 : decode cX12_meets 8 = .ok (.aload_n 0, 1) := by decide +kernel
theorem dX12_meets_9 : decode cX12_meets 9 = .ok (.iload_n 1, 1) := by decide +kernel
theorem dX12_meets_10 : decode cX12_meets 10 = .ok (.invokevirtual 387, 3) := by decide +kernel
theorem dX12_meets_13 : decode cX12_meets 13 = .ok (.ifCond .eq 13, 3) := by decide +kernel
theorem dX12_meets_16 : decode cX12_meets 16 = .ok (.aload_n 0, 1) := by decide +kernel
theorem dX12_meets_17 : decode cX12_meets 17 = .ok (.aload_n 0, 1) := by decide +kernel
theorem dX12_meets_18 : decode cX12_meets 18 = .ok (.getfield 91, 3) := by decide +kernel
theorem dX12_meets_21 : decode cX12_meets 21 = .ok (.iload_n 1, 1) := by decide +kernel
theorem dX12_meets_22 : decode cX12_meets 22 = .ok (.iaload, 1) := by decide +kernel
theorem dX12_meets_23 : decode cX12_meets 23 = .ok (.invokevirtual 620, 3) := by decide +kernel
theorem dX12_meets_26 : decode cX12_meets 26 = .ok (.aload_n 0, 1) := by decide +kernel
theorem dX12_meets_27 : decode cX12_meets 27 = .ok (.iload_n 1, 1) := by decide +kernel
theorem dX12_meets_28 : decode cX12_meets 28 = .ok (.invokevirtual 387, 3) := by decide +kernel
theorem dX12_meets_31 : decode cX12_meets 31 = .ok (.ifCond .eq 13, 3) := by decide +kernel
theorem dX12_meets_34 : decode cX12_meets 34 = .ok (.aload_n 0, 1) := by decide +kernel
theorem dX12_meets_35 : decode cX12_meets 35 = .ok (.aload_n 0, 1) := by decide +kernel
theorem dX12_meets_36 : decode cX12_meets 36 = .ok (.getfield 94, 3) := by decide +kernel
theorem dX12_meets_39 : decode cX12_meets 39 = .ok (.iload_n 1, 1) := by decide +kernel
theorem dX12_meets_40 : decode cX12_meets 40 = .ok (.iaload, 1) := by decide +kernel
theorem dX12_meets_41 : decode cX12_meets 41 = .ok (.invokevirtual 620, 3) := by decide +kernel
theorem dX12_meets_44 : decode cX12_meets 44 = .ok (.aload_n 0, 1) := by decide +kernel
theorem dX12_meets_45 : decode cX12_meets 45 = .ok (.iload_n 1, 1) := by decide +kernel
theorem dX12_meets_46 : decode cX12_meets 46 = .ok (.invokevirtual 428, 3) := by decide +kernel
theorem dX12_meets_49 : decode cX12_meets 49 = .ok (.ifCond .eq 4, 3) := by decide +kernel
theorem dX12_meets_52 : decode cX12_meets 52 = .ok (.return_, 1) := by decide +kernel
theorem dX12_meets_53 : decode cX12_meets 53 = .ok (.iconst 0, 1) := by decide +kernel
theorem dX12_meets_54 : decode cX12_meets 54 = .ok (.istore_n 2, 1) := by decide +kernel
theorem dX12_meets_55 : decode cX12_meets 55 = .ok (.iload_n 2, 1) := by decide +kernel
theorem dX12_meets_56 : decode cX12_meets 56 = .ok (.aload_n 0, 1) := by decide +kernel
theorem dX12_meets_57 : decode cX12_meets 57 = .ok (.getfield 623, 3) := by decide +kernel
theorem dX12_meets_60 : decode cX12_meets 60 = .ok (.if_icmp .ge 24, 3) := by decide +kernel
theorem dX12_meets_63 : decode cX12_meets 63 = .ok (.aload_n 0, 1) := by decide +kernel
theorem dX12_meets_64 : decode cX12_meets 64 = .ok (.aload_n 0, 1) := by decide +kernel
theorem dX12_meets_65 : decode cX12_meets 65 = .ok (.getfield 151, 3) := by decide +kernel
theorem dX12_meets_68 : decode cX12_meets 68 = .ok (.iload_n 2, 1) := by decide +kernel
theorem dX12_meets_69 : decode cX12_meets 69 = .ok (.iaload, 1) := by decide +kernel
theorem dX12_meets_70 : decode cX12_meets 70 = .ok (.iload_n 1, 1) := by decide +kernel
theorem dX12_meets_71 : decode cX12_meets 71 = .ok (.invokevirtual 404, 3) := by decide +kernel
theorem dX12_meets_74 : decode cX12_meets 74 = .ok (.ifCond .eq 4, 3) := by decide +kernel
theorem dX12_meets_77 : decode cX12_meets 77 = .ok (.return_, 1) := by decide +kernel
theorem dX12_meets_78 : decode cX12_meets 78 = .ok (.iinc 2 1, 3) := by decide +kernel
theorem dX12_meets_81 : decode cX12_meets 81 = .ok (.goto (-26), 3) := by decide +kernel
theorem dX12_meets_84 : decode cX12_meets 84 = .ok (.aload_n 0, 1) := by decide +kernel
theorem dX12_meets_85 : decode cX12_meets 85 = .ok (.getfield 151, 3) := by decide +kernel
theorem dX12_meets_88 : decode cX12_meets 88 = .ok (.aload_n 0, 1) := by decide +kernel
theorem dX12_meets_89 : decode cX12_meets 89 = .ok (.getfield 623, 3) := by decide +kernel
theorem dX12_meets_92 : decode cX12_meets 92 = .ok (.iload_n 1, 1) := by decide +kernel
theorem dX12_meets_93 : decode cX12_meets 93 = .ok (.iastore, 1) := by decide +kernel
theorem dX12_meets_94 : decode cX12_meets 94 = .ok (.aload_n 0, 1) := by decide +kernel
theorem dX12_meets_95 : decode cX12_meets 95 = .ok (.dup, 1) := by decide +kernel
theorem dX12_meets_96 : decode cX12_meets 96 = .ok (.getfield 623, 3) := by decide +kernel
theorem dX12_meets_99 : decode cX12_meets 99 = .ok (.iconst 1, 1) := by decide +kernel
theorem dX12_meets_100 : decode cX12_meets 100 = .ok (.iadd, 1) := by decide +kernel
theorem dX12_meets_101 : decode cX12_meets 101 = .ok (.putfield 623, 3) := by decide +kernel
theorem dX12_meets_104 : decode cX12_meets 104 = .ok (.return_, 1) := by decide +kernel
theorem dX12_unlike_0 : decode cX12_unlike 0 = .ok (.aload_n 0, 1) := by decide +kernel
theorem dX12_unlike_1 : decode cX12_unlike 1 = .ok (.iconst 0, 1) := by decide +kernel
theorem dX12_unlike_2 : decode cX12_unlike 2 = .ok (.putfield 623, 3) := by decide +kernel
theorem dX12_unlike_5 : decode cX12_unlike 5 = .ok (.iconst 0, 1) := by decide +kernel
theorem dX12_unlike_6 : decode cX12_unlike 6 = .ok (.istore_n 1, 1) := by decide +kernel
theorem dX12_unlike_7 : decode cX12_unlike 7 = .ok (.iload_n 1, 1) := by decide +kernel
theorem dX12_unlike_8 : decode cX12_unlike 8 = .ok (.aload_n 0, 1) := by decide +kernel
theorem dX12_unlike_9 : decode cX12_unlike 9 = .ok (.getfield 407, 3) := by decide +kernel
theorem dX12_unlike_12 : decode cX12_unlike 12 = .ok (.if_icmp .ge 29, 3) := by decide +kernel
theorem dX12_unlike_15 : decode cX12_unlike 15 = .ok (.aload_n 0, 1) := by decide +kernel
theorem dX12_unlike_16 : decode cX12_unlike 16 = .ok (.getfield 103, 3) := by decide +kernel
theorem dX12_unlike_19 : decode cX12_unlike 19 = .ok (.iload_n 1, 1) := by decide +kernel
theorem dX12_unlike_20 : decode cX12_unlike 20 = .ok (.iaload, 1) := by decide +kernel
theorem dX12_unlike_21 : decode cX12_unlike 21 = .ok (.iconst (-1), 1) := by decide +kernel
theorem dX12_unlike_22 : decode cX12_unlike 22 = .ok (.if_icmp .eq 13, 3) := by decide +kernel
theorem dX12_unlike_25 : decode cX12_unlike 25 = .ok (.aload_n 0, 1) := by decide +kernel
theorem dX12_unlike_26 : decode cX12_unlike 26 = .ok (.aload_n 0, 1) := by decide +kernel
theorem dX12_unlike_27 : decode cX12_unlike 27 = .ok (.getfield 103, 3) := by decide +kernel
theorem dX12_unlike_30 : decode cX12_unlike 30 = .ok (.iload_n 1, 1) := by decide +kernel
theorem dX12_unlike_31 : decode cX12_unlike 31 = .ok (.iaload, 1) := by decide +kernel
theorem dX12_unlike_32 : decode cX12_unlike 32 = .ok (.invokevirtual 620, 3) := by decide +kernel
theorem dX12_unlike_35 : decode cX12_unlike 35 = .ok (.iinc 1 1, 3) := by decide +kernel
theorem dX12_unlike_38 : decode cX12_unlike 38 = .ok (.goto (-31), 3) := by decide +kernel
theorem dX12_unlike_41 : decode cX12_unlike 41 = .ok (.iconst 0, 1) := by decide +kernel
theorem dX12_unlike_42 : decode cX12_unlike 42 = .ok (.istore_n 1, 1) := by decide +kernel
theorem dX12_unlike_43 : decode cX12_unlike 43 = .ok (.iload_n 1, 1) := by decide +kernel
theorem dX12_unlike_44 : decode cX12_unlike 44 = .ok (.aload_n 0, 1) := by decide +kernel
theorem dX12_unlike_45 : decode cX12_unlike 45 = .ok (.getfield 299, 3) := by decide +kernel
theorem dX12_unlike_48 : decode cX12_unlike 48 = .ok (.if_icmp .ge 29, 3) := by decide +kernel
theorem dX12_unlike_51 : decode cX12_unlike 51 = .ok (.aload_n 0, 1) := by decide +kernel
theorem dX12_unlike_52 : decode cX12_unlike 52 = .ok (.getfield 109, 3) := by decide +kernel
theorem dX12_unlike_55 : decode cX12_unlike 55 = .ok (.iload_n 1, 1) := by decide +kernel
theorem dX12_unlike_56 : decode cX12_unlike 56 = .ok (.iaload, 1) := by decide +kernel
theorem dX12_unlike_57 : decode cX12_unlike 57 = .ok (.iconst (-1), 1) := by decide +kernel
theorem dX12_unlike_58 : decode cX12_unlike 58 = .ok (.if_icmp .eq 13, 3) := by decide +kernel
theorem dX12_unlike_61 : decode cX12_unlike 61 = .ok (.aload_n 0, 1) := by decide +kernel
theorem dX12_unlike_62 : decode cX12_unlike 62 = .ok (.aload_n 0, 1) := by decide +kernel
theorem dX12_unlike_63 : decode cX12_unlike 63 = .ok (.getfield 109, 3) := by decide +kernel
theorem dX12_unlike_66 : decode cX12_unlike 66 = .ok (.iload_n 1, 1) := by decide +kernel
theorem dX12_unlike_67 : decode cX12_unlike 67 = .ok (.iaload, 1) := by decide +kernel
theorem dX12_unlike_68 : decode cX12_unlike 68 = .ok (.invokevirtual 620, 3) := by decide +kernel
theorem dX12_unlike_71 : decode cX12_unlike 71 = .ok (.iinc 1 1, 3) := by decide +kernel
theorem dX12_unlike_74 : decode cX12_unlike 74 = .ok (.goto (-31), 3) := by decide +kernel
theorem dX12_unlike_77 : decode cX12_unlike 77 = .ok (.aload_n 0, 1) := by decide +kernel
theorem dX12_unlike_78 : decode cX12_unlike 78 = .ok (.getfield 623, 3) := by decide +kernel
theorem dX12_unlike_81 : decode cX12_unlike 81 = .ok (.ireturn, 1) := by decide +kernel
theorem dX12_count_0 : decode cX12_count 0 = .ok (.aload_n 0, 1) := by decide +kernel
theorem dX12_count_1 : decode cX12_count 1 = .ok (.iconst 0, 1) := by decide +kernel
theorem dX12_count_2 : decode cX12_count 2 = .ok (.putfield 169, 3) := by decide +kernel
theorem dX12_count_5 : decode cX12_count 5 = .ok (.iload_n 1, 1) := by decide +kernel
theorem dX12_count_6 : decode cX12_count 6 = .ok (.bipush 12, 2) := by decide +kernel
theorem dX12_count_8 : decode cX12_count 8 = .ok (.if_icmp .ne 8, 3) := by decide +kernel
theorem dX12_count_11 : decode cX12_count 11 = .ok (.aload_n 0, 1) := by decide +kernel
theorem dX12_count_12 : decode cX12_count 12 = .ok (.getfield 177, 3) := by decide +kernel
theorem dX12_count_15 : decode cX12_count 15 = .ok (.ireturn, 1) := by decide +kernel
theorem dX12_count_16 : decode cX12_count 16 = .ok (.aload_n 0, 1) := by decide +kernel
theorem dX12_count_17 : decode cX12_count 17 = .ok (.getfield 292, 3) := by decide +kernel
theorem dX12_count_20 : decode cX12_count 20 = .ok (.ifCond .ne 7, 3) := by decide +kernel
theorem dX12_count_23 : decode cX12_count 23 = .ok (.ldc_w 614, 3) := by decide +kernel
theorem dX12_count_26 : decode cX12_count 26 = .ok (.ireturn, 1) := by decide +kernel
theorem dX12_count_27 : decode cX12_count 27 = .ok (.iload_n 1, 1) := by decide +kernel
theorem dX12_count_28 : decode cX12_count 28 = .ok (.tableswitch 166 0 14 #[76, 81, 86, 91, 96, 101, 106, 111, 124, 141, 146, 151, 166, 156, 161], 76) := by decide +kernel
theorem dX12_count_104 : decode cX12_count 104 = .ok (.aload_n 0, 1) := by decide +kernel
theorem dX12_count_105 : decode cX12_count 105 = .ok (.getfield 286, 3) := by decide +kernel
theorem dX12_count_108 : decode cX12_count 108 = .ok (.ireturn, 1) := by decide +kernel
theorem dX12_count_109 : decode cX12_count 109 = .ok (.aload_n 0, 1) := by decide +kernel
theorem dX12_count_110 : decode cX12_count 110 = .ok (.getfield 299, 3) := by decide +kernel
theorem dX12_count_113 : decode cX12_count 113 = .ok (.ireturn, 1) := by decide +kernel
theorem dX12_count_114 : decode cX12_count 114 = .ok (.aload_n 0, 1) := by decide +kernel
theorem dX12_count_115 : decode cX12_count 115 = .ok (.getfield 327, 3) := by decide +kernel
theorem dX12_count_118 : decode cX12_count 118 = .ok (.ireturn, 1) := by decide +kernel
theorem dX12_count_119 : decode cX12_count 119 = .ok (.aload_n 0, 1) := by decide +kernel
theorem dX12_count_120 : decode cX12_count 120 = .ok (.getfield 289, 3) := by decide +kernel
theorem dX12_count_123 : decode cX12_count 123 = .ok (.ireturn, 1) := by decide +kernel
theorem dX12_count_124 : decode cX12_count 124 = .ok (.aload_n 0, 1) := by decide +kernel
theorem dX12_count_125 : decode cX12_count 125 = .ok (.invokevirtual 626, 3) := by decide +kernel
theorem dX12_count_128 : decode cX12_count 128 = .ok (.ireturn, 1) := by decide +kernel
theorem dX12_count_129 : decode cX12_count 129 = .ok (.aload_n 0, 1) := by decide +kernel
theorem dX12_count_130 : decode cX12_count 130 = .ok (.invokevirtual 629, 3) := by decide +kernel
theorem dX12_count_133 : decode cX12_count 133 = .ok (.ireturn, 1) := by decide +kernel
theorem dX12_count_134 : decode cX12_count 134 = .ok (.aload_n 0, 1) := by decide +kernel
theorem dX12_count_135 : decode cX12_count 135 = .ok (.getfield 358, 3) := by decide +kernel
theorem dX12_count_138 : decode cX12_count 138 = .ok (.ireturn, 1) := by decide +kernel
theorem dX12_count_139 : decode cX12_count 139 = .ok (.aload_n 0, 1) := by decide +kernel
theorem dX12_count_140 : decode cX12_count 140 = .ok (.getfield 355, 3) := by decide +kernel
theorem dX12_count_143 : decode cX12_count 143 = .ok (.ifCond .eq 7, 3) := by decide +kernel
theorem dX12_count_146 : decode cX12_count 146 = .ok (.iconst 1, 1) := by decide +kernel
theorem dX12_count_147 : decode cX12_count 147 = .ok (.goto 4, 3) := by decide +kernel
theorem dX12_count_150 : decode cX12_count 150 = .ok (.iconst 0, 1) := by decide +kernel
theorem dX12_count_151 : decode cX12_count 151 = .ok (.ireturn, 1) := by decide +kernel
theorem dX12_count_152 : decode cX12_count 152 = .ok (.aload_n 0, 1) := by decide +kernel
theorem dX12_count_153 : decode cX12_count 153 = .ok (.getfield 358, 3) := by decide +kernel
theorem dX12_count_156 : decode cX12_count 156 = .ok (.iconst (-1), 1) := by decide +kernel
theorem dX12_count_157 : decode cX12_count 157 = .ok (.if_icmp .ne 7, 3) := by decide +kernel
theorem dX12_count_160 : decode cX12_count 160 = .ok (.iconst (-1), 1) := by decide +kernel
theorem dX12_count_161 : decode cX12_count 161 = .ok (.goto 7, 3) := by decide +kernel
theorem dX12_count_164 : decode cX12_count 164 = .ok (.aload_n 0, 1) := by decide +kernel
theorem dX12_count_165 : decode cX12_count 165 = .ok (.getfield 479, 3) := by decide +kernel
theorem dX12_count_168 : decode cX12_count 168 = .ok (.ireturn, 1) := by decide +kernel
theorem dX12_count_169 : decode cX12_count 169 = .ok (.aload_n 0, 1) := by decide +kernel
theorem dX12_count_170 : decode cX12_count 170 = .ok (.getfield 407, 3) := by decide +kernel
theorem dX12_count_173 : decode cX12_count 173 = .ok (.ireturn, 1) := by decide +kernel
theorem dX12_count_174 : decode cX12_count 174 = .ok (.aload_n 0, 1) := by decide +kernel
theorem dX12_count_175 : decode cX12_count 175 = .ok (.getfield 410, 3) := by decide +kernel
theorem dX12_count_178 : decode cX12_count 178 = .ok (.ireturn, 1) := by decide +kernel
theorem dX12_count_179 : decode cX12_count 179 = .ok (.aload_n 0, 1) := by decide +kernel
theorem dX12_count_180 : decode cX12_count 180 = .ok (.getfield 447, 3) := by decide +kernel
theorem dX12_count_183 : decode cX12_count 183 = .ok (.ireturn, 1) := by decide +kernel
theorem dX12_count_184 : decode cX12_count 184 = .ok (.aload_n 0, 1) := by decide +kernel
theorem dX12_count_185 : decode cX12_count 185 = .ok (.invokevirtual 632, 3) := by decide +kernel
theorem dX12_count_188 : decode cX12_count 188 = .ok (.ireturn, 1) := by decide +kernel
theorem dX12_count_189 : decode cX12_count 189 = .ok (.aload_n 0, 1) := by decide +kernel
theorem dX12_count_190 : decode cX12_count 190 = .ok (.invokevirtual 635, 3) := by decide +kernel
theorem dX12_count_193 : decode cX12_count 193 = .ok (.ireturn, 1) := by decide +kernel
theorem dX12_count_194 : decode cX12_count 194 = .ok (.ldc_w 614, 3) := by decide +kernel
theorem dX12_count_197 : decode cX12_count 197 = .ok (.ireturn, 1) := by decide +kernel
theorem dX12_instruction__0 : decode cX12_instruction_ 0 = .ok (.aload_n 0, 1) := by decide +kernel
theorem dX12_instruction__1 : decode cX12_instruction_ 1 = .ok (.aload_n 0, 1) := by decide +kernel
theorem dX12_instruction__2 : decode cX12_instruction_ 2 = .ok (.getfield 292, 3) := by decide +kernel
theorem dX12_instruction__5 : decode cX12_instruction_ 5 = .ok (.ifCond .eq 35, 3) := by decide +kernel
theorem dX12_instruction__8 : decode cX12_instruction_ 8 = .ok (.iload_n 1, 1) := by decide +kernel
theorem dX12_instruction__9 : decode cX12_instruction_ 9 = .ok (.i2l, 1) := by decide +kernel
theorem dX12_instruction__10 : decode cX12_instruction_ 10 = .ok (.lconst 0, 1) := by decide +kernel
theorem dX12_instruction__11 : decode cX12_instruction_ 11 = .ok (.aload_n 0, 1) := by decide +kernel
theorem dX12_instruction__12 : decode cX12_instruction_ 12 = .ok (.getfield 286, 3) := by decide +kernel
theorem dX12_instruction__15 : decode cX12_instruction_ 15 = .ok (.iconst 1, 1) := by decide +kernel
theorem dX12_instruction__16 : decode cX12_instruction_ 16 = .ok (.isub, 1) := by decide +kernel
theorem dX12_instruction__17 : decode cX12_instruction_ 17 = .ok (.i2l, 1) := by decide +kernel
theorem dX12_instruction__18 : decode cX12_instruction_ 18 = .ok (.invokestatic 312, 3) := by decide +kernel
theorem dX12_instruction__21 : decode cX12_instruction_ 21 = .ok (.ifCond .eq 19, 3) := by decide +kernel
theorem dX12_instruction__24 : decode cX12_instruction_ 24 = .ok (.iload_n 2, 1) := by decide +kernel
theorem dX12_instruction__25 : decode cX12_instruction_ 25 = .ok (.i2l, 1) := by decide +kernel
theorem dX12_instruction__26 : decode cX12_instruction_ 26 = .ok (.lconst 0, 1) := by decide +kernel
theorem dX12_instruction__27 : decode cX12_instruction_ 27 = .ok (.ldc2_w 638, 3) := by decide +kernel
theorem dX12_instruction__30 : decode cX12_instruction_ 30 = .ok (.invokestatic 312, 3) := by decide +kernel
theorem dX12_instruction__33 : decode cX12_instruction_ 33 = .ok (.ifCond .eq 7, 3) := by decide +kernel
theorem dX12_instruction__36 : decode cX12_instruction_ 36 = .ok (.iconst 0, 1) := by decide +kernel
theorem dX12_instruction__37 : decode cX12_instruction_ 37 = .ok (.goto 4, 3) := by decide +kernel
theorem dX12_instruction__40 : decode cX12_instruction_ 40 = .ok (.iconst 1, 1) := by decide +kernel
theorem dX12_instruction__41 : decode cX12_instruction_ 41 = .ok (.putfield 169, 3) := by decide +kernel
theorem dX12_instruction__44 : decode cX12_instruction_ 44 = .ok (.aload_n 0, 1) := by decide +kernel
theorem dX12_instruction__45 : decode cX12_instruction_ 45 = .ok (.getfield 169, 3) := by decide +kernel
theorem dX12_instruction__48 : decode cX12_instruction_ 48 = .ok (.ifCond .le 5, 3) := by decide +kernel
theorem dX12_instruction__51 : decode cX12_instruction_ 51 = .ok (.iconst 0, 1) := by decide +kernel
theorem dX12_instruction__52 : decode cX12_instruction_ 52 = .ok (.ireturn, 1) := by decide +kernel
theorem dX12_instruction__53 : decode cX12_instruction_ 53 = .ok (.iload_n 2, 1) := by decide +kernel
theorem dX12_instruction__54 : decode cX12_instruction_ 54 = .ok (.tableswitch 75 0 4 #[34, 41, 48, 55, 62], 34) := by decide +kernel
theorem dX12_instruction__88 : decode cX12_instruction_ 88 = .ok (.aload_n 0, 1) := by decide +kernel
theorem dX12_instruction__89 : decode cX12_instruction_ 89 = .ok (.getfield 23, 3) := by decide +kernel
theorem dX12_instruction__92 : decode cX12_instruction_ 92 = .ok (.iload_n 1, 1) := by decide +kernel
theorem dX12_instruction__93 : decode cX12_instruction_ 93 = .ok (.iaload, 1) := by decide +kernel
theorem dX12_instruction__94 : decode cX12_instruction_ 94 = .ok (.ireturn, 1) := by decide +kernel
theorem dX12_instruction__95 : decode cX12_instruction_ 95 = .ok (.aload_n 0, 1) := by decide +kernel
theorem dX12_instruction__96 : decode cX12_instruction_ 96 = .ok (.getfield 26, 3) := by decide +kernel
theorem dX12_instruction__99 : decode cX12_instruction_ 99 = .ok (.iload_n 1, 1) := by decide +kernel
theorem dX12_instruction__100 : decode cX12_instruction_ 100 = .ok (.iaload, 1) := by decide +kernel
theorem dX12_instruction__101 : decode cX12_instruction_ 101 = .ok (.ireturn, 1) := by decide +kernel
theorem dX12_instruction__102 : decode cX12_instruction_ 102 = .ok (.aload_n 0, 1) := by decide +kernel
theorem dX12_instruction__103 : decode cX12_instruction_ 103 = .ok (.getfield 44, 3) := by decide +kernel
theorem dX12_instruction__106 : decode cX12_instruction_ 106 = .ok (.iload_n 1, 1) := by decide +kernel
theorem dX12_instruction__107 : decode cX12_instruction_ 107 = .ok (.iaload, 1) := by decide +kernel
theorem dX12_instruction__108 : decode cX12_instruction_ 108 = .ok (.ireturn, 1) := by decide +kernel
theorem dX12_instruction__109 : decode cX12_instruction_ 109 = .ok (.aload_n 0, 1) := by decide +kernel
theorem dX12_instruction__110 : decode cX12_instruction_ 110 = .ok (.getfield 53, 3) := by decide +kernel
theorem dX12_instruction__113 : decode cX12_instruction_ 113 = .ok (.iload_n 1, 1) := by decide +kernel
theorem dX12_instruction__114 : decode cX12_instruction_ 114 = .ok (.iaload, 1) := by decide +kernel
theorem dX12_instruction__115 : decode cX12_instruction_ 115 = .ok (.ireturn, 1) := by decide +kernel
theorem dX12_instruction__116 : decode cX12_instruction_ 116 = .ok (.aload_n 0, 1) := by decide +kernel
theorem dX12_instruction__117 : decode cX12_instruction_ 117 = .ok (.getfield 29, 3) := by decide +kernel
theorem dX12_instruction__120 : decode cX12_instruction_ 120 = .ok (.aload_n 0, 1) := by decide +kernel
theorem dX12_instruction__121 : decode cX12_instruction_ 121 = .ok (.getfield 289, 3) := by decide +kernel
theorem dX12_instruction__124 : decode cX12_instruction_ 124 = .ok (.iload_n 1, 1) := by decide +kernel
theorem dX12_instruction__125 : decode cX12_instruction_ 125 = .ok (.invokestatic 279, 3) := by decide +kernel
theorem dX12_instruction__128 : decode cX12_instruction_ 128 = .ok (.ireturn, 1) := by decide +kernel
theorem dX12_instruction__129 : decode cX12_instruction_ 129 = .ok (.aload_n 0, 1) := by decide +kernel
theorem dX12_instruction__130 : decode cX12_instruction_ 130 = .ok (.getfield 130, 3) := by decide +kernel
theorem dX12_instruction__133 : decode cX12_instruction_ 133 = .ok (.iload_n 1, 1) := by decide +kernel
theorem dX12_instruction__134 : decode cX12_instruction_ 134 = .ok (.baload, 1) := by decide +kernel
theorem dX12_instruction__135 : decode cX12_instruction_ 135 = .ok (.ifCond .eq 7, 3) := by decide +kernel
theorem dX12_instruction__138 : decode cX12_instruction_ 138 = .ok (.iconst 1, 1) := by decide +kernel
theorem dX12_instruction__139 : decode cX12_instruction_ 139 = .ok (.goto 4, 3) := by decide +kernel
theorem dX12_instruction__142 : decode cX12_instruction_ 142 = .ok (.iconst 0, 1) := by decide +kernel
theorem dX12_instruction__143 : decode cX12_instruction_ 143 = .ok (.ireturn, 1) := by decide +kernel
theorem dX12_loopsOf_0 : decode cX12_loopsOf 0 = .ok (.iconst 0, 1) := by decide +kernel
theorem dX12_loopsOf_1 : decode cX12_loopsOf 1 = .ok (.istore_n 2, 1) := by decide +kernel
theorem dX12_loopsOf_2 : decode cX12_loopsOf 2 = .ok (.iconst 0, 1) := by decide +kernel
theorem dX12_loopsOf_3 : decode cX12_loopsOf 3 = .ok (.istore_n 3, 1) := by decide +kernel
theorem dX12_loopsOf_4 : decode cX12_loopsOf 4 = .ok (.iload_n 3, 1) := by decide +kernel
theorem dX12_loopsOf_5 : decode cX12_loopsOf 5 = .ok (.aload_n 0, 1) := by decide +kernel
theorem dX12_loopsOf_6 : decode cX12_loopsOf 6 = .ok (.getfield 299, 3) := by decide +kernel
theorem dX12_loopsOf_9 : decode cX12_loopsOf 9 = .ok (.if_icmp .ge 30, 3) := by decide +kernel
theorem dX12_loopsOf_12 : decode cX12_loopsOf 12 = .ok (.iload_n 2, 1) := by decide +kernel
theorem dX12_loopsOf_13 : decode cX12_loopsOf 13 = .ok (.aload_n 0, 1) := by decide +kernel
theorem dX12_loopsOf_14 : decode cX12_loopsOf 14 = .ok (.getfield 79, 3) := by decide +kernel
theorem dX12_loopsOf_17 : decode cX12_loopsOf 17 = .ok (.iload_n 3, 1) := by decide +kernel
theorem dX12_loopsOf_18 : decode cX12_loopsOf 18 = .ok (.laload, 1) := by decide +kernel
theorem dX12_loopsOf_19 : decode cX12_loopsOf 19 = .ok (.iload_n 1, 1) := by decide +kernel
theorem dX12_loopsOf_20 : decode cX12_loopsOf 20 = .ok (.invokestatic 173, 3) := by decide +kernel
theorem dX12_loopsOf_23 : decode cX12_loopsOf 23 = .ok (.ifCond .eq 7, 3) := by decide +kernel
theorem dX12_loopsOf_26 : decode cX12_loopsOf 26 = .ok (.iconst 1, 1) := by decide +kernel
theorem dX12_loopsOf_27 : decode cX12_loopsOf 27 = .ok (.goto 4, 3) := by decide +kernel
theorem dX12_loopsOf_30 : decode cX12_loopsOf 30 = .ok (.iconst 0, 1) := by decide +kernel
theorem dX12_loopsOf_31 : decode cX12_loopsOf 31 = .ok (.iadd, 1) := by decide +kernel
theorem dX12_loopsOf_32 : decode cX12_loopsOf 32 = .ok (.istore_n 2, 1) := by decide +kernel
theorem dX12_loopsOf_33 : decode cX12_loopsOf 33 = .ok (.iinc 3 1, 3) := by decide +kernel
theorem dX12_loopsOf_36 : decode cX12_loopsOf 36 = .ok (.goto (-32), 3) := by decide +kernel
theorem dX12_loopsOf_39 : decode cX12_loopsOf 39 = .ok (.iload_n 2, 1) := by decide +kernel
theorem dX12_loopsOf_40 : decode cX12_loopsOf 40 = .ok (.ireturn, 1) := by decide +kernel
theorem dX12_innermost_0 : decode cX12_innermost 0 = .ok (.iconst (-1), 1) := by decide +kernel
theorem dX12_innermost_1 : decode cX12_innermost 1 = .ok (.istore_n 2, 1) := by decide +kernel
theorem dX12_innermost_2 : decode cX12_innermost 2 = .ok (.iconst 0, 1) := by decide +kernel
theorem dX12_innermost_3 : decode cX12_innermost 3 = .ok (.istore_n 3, 1) := by decide +kernel
theorem dX12_innermost_4 : decode cX12_innermost 4 = .ok (.iload_n 3, 1) := by decide +kernel
theorem dX12_innermost_5 : decode cX12_innermost 5 = .ok (.aload_n 0, 1) := by decide +kernel
theorem dX12_innermost_6 : decode cX12_innermost 6 = .ok (.getfield 299, 3) := by decide +kernel
theorem dX12_innermost_9 : decode cX12_innermost 9 = .ok (.if_icmp .ge 50, 3) := by decide +kernel
theorem dX12_innermost_12 : decode cX12_innermost 12 = .ok (.aload_n 0, 1) := by decide +kernel
theorem dX12_innermost_13 : decode cX12_innermost 13 = .ok (.getfield 79, 3) := by decide +kernel
theorem dX12_innermost_16 : decode cX12_innermost 16 = .ok (.iload_n 3, 1) := by decide +kernel
theorem dX12_innermost_17 : decode cX12_innermost 17 = .ok (.laload, 1) := by decide +kernel
theorem dX12_innermost_18 : decode cX12_innermost 18 = .ok (.iload_n 1, 1) := by decide +kernel
theorem dX12_innermost_19 : decode cX12_innermost 19 = .ok (.invokestatic 173, 3) := by decide +kernel
theorem dX12_innermost_22 : decode cX12_innermost 22 = .ok (.ifCond .eq 31, 3) := by decide +kernel
theorem dX12_innermost_25 : decode cX12_innermost 25 = .ok (.iload_n 2, 1) := by decide +kernel
theorem dX12_innermost_26 : decode cX12_innermost 26 = .ok (.iconst (-1), 1) := by decide +kernel
theorem dX12_innermost_27 : decode cX12_innermost 27 = .ok (.if_icmp .eq 24, 3) := by decide +kernel
theorem dX12_innermost_30 : decode cX12_innermost 30 = .ok (.aload_n 0, 1) := by decide +kernel
theorem dX12_innermost_31 : decode cX12_innermost 31 = .ok (.getfield 79, 3) := by decide +kernel
theorem dX12_innermost_34 : decode cX12_innermost 34 = .ok (.iload_n 3, 1) := by decide +kernel
theorem dX12_innermost_35 : decode cX12_innermost 35 = .ok (.laload, 1) := by decide +kernel
theorem dX12_innermost_36 : decode cX12_innermost 36 = .ok (.invokestatic 640, 3) := by decide +kernel
theorem dX12_innermost_39 : decode cX12_innermost 39 = .ok (.aload_n 0, 1) := by decide +kernel
theorem dX12_innermost_40 : decode cX12_innermost 40 = .ok (.getfield 79, 3) := by decide +kernel
theorem dX12_innermost_43 : decode cX12_innermost 43 = .ok (.iload_n 2, 1) := by decide +kernel
theorem dX12_innermost_44 : decode cX12_innermost 44 = .ok (.laload, 1) := by decide +kernel
theorem dX12_innermost_45 : decode cX12_innermost 45 = .ok (.invokestatic 640, 3) := by decide +kernel
theorem dX12_innermost_48 : decode cX12_innermost 48 = .ok (.if_icmp .ge 5, 3) := by decide +kernel
theorem dX12_innermost_51 : decode cX12_innermost 51 = .ok (.iload_n 3, 1) := by decide +kernel
theorem dX12_innermost_52 : decode cX12_innermost 52 = .ok (.istore_n 2, 1) := by decide +kernel
theorem dX12_innermost_53 : decode cX12_innermost 53 = .ok (.iinc 3 1, 3) := by decide +kernel
theorem dX12_innermost_56 : decode cX12_innermost 56 = .ok (.goto (-52), 3) := by decide +kernel
theorem dX12_innermost_59 : decode cX12_innermost 59 = .ok (.iload_n 2, 1) := by decide +kernel
theorem dX12_innermost_60 : decode cX12_innermost 60 = .ok (.ireturn, 1) := by decide +kernel
theorem dX12_block_0 : decode cX12_block 0 = .ok (.aload_n 0, 1) := by decide +kernel
theorem dX12_block_1 : decode cX12_block 1 = .ok (.aload_n 0, 1) := by decide +kernel
theorem dX12_block_2 : decode cX12_block 2 = .ok (.iload_n 1, 1) := by decide +kernel
theorem dX12_block_3 : decode cX12_block 3 = .ok (.invokevirtual 615, 3) := by decide +kernel
theorem dX12_block_6 : decode cX12_block 6 = .ok (.ifCond .eq 19, 3) := by decide +kernel
theorem dX12_block_9 : decode cX12_block 9 = .ok (.iload_n 2, 1) := by decide +kernel
theorem dX12_block_10 : decode cX12_block 10 = .ok (.i2l, 1) := by decide +kernel
theorem dX12_block_11 : decode cX12_block 11 = .ok (.lconst 0, 1) := by decide +kernel
theorem dX12_block_12 : decode cX12_block 12 = .ok (.ldc2_w 644, 3) := by decide +kernel
theorem dX12_block_15 : decode cX12_block 15 = .ok (.invokestatic 312, 3) := by decide +kernel
theorem dX12_block_18 : decode cX12_block 18 = .ok (.ifCond .eq 7, 3) := by decide +kernel
theorem dX12_block_21 : decode cX12_block 21 = .ok (.iconst 0, 1) := by decide +kernel
theorem dX12_block_22 : decode cX12_block 22 = .ok (.goto 4, 3) := by decide +kernel
theorem dX12_block_25 : decode cX12_block 25 = .ok (.iconst 1, 1) := by decide +kernel
theorem dX12_block_26 : decode cX12_block 26 = .ok (.putfield 169, 3) := by decide +kernel
theorem dX12_block_29 : decode cX12_block 29 = .ok (.aload_n 0, 1) := by decide +kernel
theorem dX12_block_30 : decode cX12_block 30 = .ok (.getfield 169, 3) := by decide +kernel
theorem dX12_block_33 : decode cX12_block 33 = .ok (.ifCond .le 5, 3) := by decide +kernel
theorem dX12_block_36 : decode cX12_block 36 = .ok (.iconst 0, 1) := by decide +kernel
theorem dX12_block_37 : decode cX12_block 37 = .ok (.ireturn, 1) := by decide +kernel
theorem dX12_block_38 : decode cX12_block 38 = .ok (.iload_n 2, 1) := by decide +kernel
theorem dX12_block_39 : decode cX12_block 39 = .ok (.tableswitch 174 0 11 #[61, 68, 75, 87, 94, 101, 107, 113, 127, 144, 160, 167], 61) := by decide +kernel
theorem dX12_block_100 : decode cX12_block 100 = .ok (.aload_n 0, 1) := by decide +kernel
theorem dX12_block_101 : decode cX12_block 101 = .ok (.getfield 47, 3) := by decide +kernel
theorem dX12_block_104 : decode cX12_block 104 = .ok (.iload_n 1, 1) := by decide +kernel
theorem dX12_block_105 : decode cX12_block 105 = .ok (.iaload, 1) := by decide +kernel
theorem dX12_block_106 : decode cX12_block 106 = .ok (.ireturn, 1) := by decide +kernel
theorem dX12_block_107 : decode cX12_block 107 = .ok (.aload_n 0, 1) := by decide +kernel
theorem dX12_block_108 : decode cX12_block 108 = .ok (.getfield 50, 3) := by decide +kernel
theorem dX12_block_111 : decode cX12_block 111 = .ok (.iload_n 1, 1) := by decide +kernel
theorem dX12_block_112 : decode cX12_block 112 = .ok (.iaload, 1) := by decide +kernel
theorem dX12_block_113 : decode cX12_block 113 = .ok (.ireturn, 1) := by decide +kernel
theorem dX12_block_114 : decode cX12_block 114 = .ok (.aload_n 0, 1) := by decide +kernel
theorem dX12_block_115 : decode cX12_block 115 = .ok (.getfield 44, 3) := by decide +kernel
theorem dX12_block_118 : decode cX12_block 118 = .ok (.aload_n 0, 1) := by decide +kernel
theorem dX12_block_119 : decode cX12_block 119 = .ok (.getfield 47, 3) := by decide +kernel
theorem dX12_block_122 : decode cX12_block 122 = .ok (.iload_n 1, 1) := by decide +kernel
theorem dX12_block_123 : decode cX12_block 123 = .ok (.iaload, 1) := by decide +kernel
theorem dX12_block_124 : decode cX12_block 124 = .ok (.iaload, 1) := by decide +kernel
theorem dX12_block_125 : decode cX12_block 125 = .ok (.ireturn, 1) := by decide +kernel
theorem dX12_block_126 : decode cX12_block 126 = .ok (.aload_n 0, 1) := by decide +kernel
theorem dX12_block_127 : decode cX12_block 127 = .ok (.getfield 82, 3) := by decide +kernel
theorem dX12_block_130 : decode cX12_block 130 = .ok (.iload_n 1, 1) := by decide +kernel
theorem dX12_block_131 : decode cX12_block 131 = .ok (.iaload, 1) := by decide +kernel
theorem dX12_block_132 : decode cX12_block 132 = .ok (.ireturn, 1) := by decide +kernel
theorem dX12_block_133 : decode cX12_block 133 = .ok (.aload_n 0, 1) := by decide +kernel
theorem dX12_block_134 : decode cX12_block 134 = .ok (.getfield 85, 3) := by decide +kernel
theorem dX12_block_137 : decode cX12_block 137 = .ok (.iload_n 1, 1) := by decide +kernel
theorem dX12_block_138 : decode cX12_block 138 = .ok (.iaload, 1) := by decide +kernel
theorem dX12_block_139 : decode cX12_block 139 = .ok (.ireturn, 1) := by decide +kernel
theorem dX12_block_140 : decode cX12_block 140 = .ok (.aload_n 0, 1) := by decide +kernel
theorem dX12_block_141 : decode cX12_block 141 = .ok (.iload_n 1, 1) := by decide +kernel
theorem dX12_block_142 : decode cX12_block 142 = .ok (.invokevirtual 646, 3) := by decide +kernel
theorem dX12_block_145 : decode cX12_block 145 = .ok (.ireturn, 1) := by decide +kernel
theorem dX12_block_146 : decode cX12_block 146 = .ok (.aload_n 0, 1) := by decide +kernel
theorem dX12_block_147 : decode cX12_block 147 = .ok (.iload_n 1, 1) := by decide +kernel
theorem dX12_block_148 : decode cX12_block 148 = .ok (.invokevirtual 649, 3) := by decide +kernel
theorem dX12_block_151 : decode cX12_block 151 = .ok (.ireturn, 1) := by decide +kernel
theorem dX12_block_152 : decode cX12_block 152 = .ok (.aload_n 0, 1) := by decide +kernel
theorem dX12_block_153 : decode cX12_block 153 = .ok (.iload_n 1, 1) := by decide +kernel
theorem dX12_block_154 : decode cX12_block 154 = .ok (.invokevirtual 497, 3) := by decide +kernel
theorem dX12_block_157 : decode cX12_block 157 = .ok (.ifCond .eq 7, 3) := by decide +kernel
theorem dX12_block_160 : decode cX12_block 160 = .ok (.iconst 1, 1) := by decide +kernel
theorem dX12_block_161 : decode cX12_block 161 = .ok (.goto 4, 3) := by decide +kernel
theorem dX12_block_164 : decode cX12_block 164 = .ok (.iconst 0, 1) := by decide +kernel
theorem dX12_block_165 : decode cX12_block 165 = .ok (.ireturn, 1) := by decide +kernel
theorem dX12_block_166 : decode cX12_block 166 = .ok (.aload_n 0, 1) := by decide +kernel
theorem dX12_block_167 : decode cX12_block 167 = .ok (.getfield 79, 3) := by decide +kernel
theorem dX12_block_170 : decode cX12_block 170 = .ok (.iload_n 1, 1) := by decide +kernel
theorem dX12_block_171 : decode cX12_block 171 = .ok (.laload, 1) := by decide +kernel
theorem dX12_block_172 : decode cX12_block 172 = .ok (.lconst 0, 1) := by decide +kernel
theorem dX12_block_173 : decode cX12_block 173 = .ok (.lcmp, 1) := by decide +kernel
theorem dX12_block_174 : decode cX12_block 174 = .ok (.ifCond .ne 7, 3) := by decide +kernel
theorem dX12_block_177 : decode cX12_block 177 = .ok (.iconst 0, 1) := by decide +kernel
theorem dX12_block_178 : decode cX12_block 178 = .ok (.goto 4, 3) := by decide +kernel
theorem dX12_block_181 : decode cX12_block 181 = .ok (.iconst 1, 1) := by decide +kernel
theorem dX12_block_182 : decode cX12_block 182 = .ok (.ireturn, 1) := by decide +kernel
theorem dX12_block_183 : decode cX12_block 183 = .ok (.aload_n 0, 1) := by decide +kernel
theorem dX12_block_184 : decode cX12_block 184 = .ok (.getfield 106, 3) := by decide +kernel
theorem dX12_block_187 : decode cX12_block 187 = .ok (.iload_n 1, 1) := by decide +kernel
theorem dX12_block_188 : decode cX12_block 188 = .ok (.iconst 1, 1) := by decide +kernel
theorem dX12_block_189 : decode cX12_block 189 = .ok (.iadd, 1) := by decide +kernel
theorem dX12_block_190 : decode cX12_block 190 = .ok (.iaload, 1) := by decide +kernel
theorem dX12_block_191 : decode cX12_block 191 = .ok (.aload_n 0, 1) := by decide +kernel
theorem dX12_block_192 : decode cX12_block 192 = .ok (.getfield 106, 3) := by decide +kernel
theorem dX12_block_195 : decode cX12_block 195 = .ok (.iload_n 1, 1) := by decide +kernel
theorem dX12_block_196 : decode cX12_block 196 = .ok (.iaload, 1) := by decide +kernel
theorem dX12_block_197 : decode cX12_block 197 = .ok (.isub, 1) := by decide +kernel
theorem dX12_block_198 : decode cX12_block 198 = .ok (.ireturn, 1) := by decide +kernel
theorem dX12_block_199 : decode cX12_block 199 = .ok (.aload_n 0, 1) := by decide +kernel
theorem dX12_block_200 : decode cX12_block 200 = .ok (.getfield 124, 3) := by decide +kernel
theorem dX12_block_203 : decode cX12_block 203 = .ok (.iload_n 1, 1) := by decide +kernel
theorem dX12_block_204 : decode cX12_block 204 = .ok (.iaload, 1) := by decide +kernel
theorem dX12_block_205 : decode cX12_block 205 = .ok (.ireturn, 1) := by decide +kernel
theorem dX12_block_206 : decode cX12_block 206 = .ok (.aload_n 0, 1) := by decide +kernel
theorem dX12_block_207 : decode cX12_block 207 = .ok (.getfield 127, 3) := by decide +kernel
theorem dX12_block_210 : decode cX12_block 210 = .ok (.iload_n 1, 1) := by decide +kernel
theorem dX12_block_211 : decode cX12_block 211 = .ok (.iaload, 1) := by decide +kernel
theorem dX12_block_212 : decode cX12_block 212 = .ok (.ireturn, 1) := by decide +kernel
theorem dX12_block_213 : decode cX12_block 213 = .ok (.aload_n 0, 1) := by decide +kernel
theorem dX12_block_214 : decode cX12_block 214 = .ok (.getfield 56, 3) := by decide +kernel
theorem dX12_block_217 : decode cX12_block 217 = .ok (.iload_n 1, 1) := by decide +kernel
theorem dX12_block_218 : decode cX12_block 218 = .ok (.iaload, 1) := by decide +kernel
theorem dX12_block_219 : decode cX12_block 219 = .ok (.ireturn, 1) := by decide +kernel
theorem dX12_edge_0 : decode cX12_edge 0 = .ok (.aload_n 0, 1) := by decide +kernel
theorem dX12_edge_1 : decode cX12_edge 1 = .ok (.iconst 0, 1) := by decide +kernel
theorem dX12_edge_2 : decode cX12_edge 2 = .ok (.putfield 169, 3) := by decide +kernel
theorem dX12_edge_5 : decode cX12_edge 5 = .ok (.aload_n 0, 1) := by decide +kernel
theorem dX12_edge_6 : decode cX12_edge 6 = .ok (.getfield 292, 3) := by decide +kernel
theorem dX12_edge_9 : decode cX12_edge 9 = .ok (.ifCond .eq 31, 3) := by decide +kernel
theorem dX12_edge_12 : decode cX12_edge 12 = .ok (.iload_n 1, 1) := by decide +kernel
theorem dX12_edge_13 : decode cX12_edge 13 = .ok (.i2l, 1) := by decide +kernel
theorem dX12_edge_14 : decode cX12_edge 14 = .ok (.lconst 0, 1) := by decide +kernel
theorem dX12_edge_15 : decode cX12_edge 15 = .ok (.aload_n 0, 1) := by decide +kernel
theorem dX12_edge_16 : decode cX12_edge 16 = .ok (.getfield 327, 3) := by decide +kernel
theorem dX12_edge_19 : decode cX12_edge 19 = .ok (.iconst 1, 1) := by decide +kernel
theorem dX12_edge_20 : decode cX12_edge 20 = .ok (.isub, 1) := by decide +kernel
theorem dX12_edge_21 : decode cX12_edge 21 = .ok (.i2l, 1) := by decide +kernel
theorem dX12_edge_22 : decode cX12_edge 22 = .ok (.invokestatic 312, 3) := by decide +kernel
theorem dX12_edge_25 : decode cX12_edge 25 = .ok (.ifCond .eq 15, 3) := by decide +kernel
theorem dX12_edge_28 : decode cX12_edge 28 = .ok (.iload_n 2, 1) := by decide +kernel
theorem dX12_edge_29 : decode cX12_edge 29 = .ok (.i2l, 1) := by decide +kernel
theorem dX12_edge_30 : decode cX12_edge 30 = .ok (.lconst 0, 1) := by decide +kernel
theorem dX12_edge_31 : decode cX12_edge 31 = .ok (.ldc2_w 618, 3) := by decide +kernel
theorem dX12_edge_34 : decode cX12_edge 34 = .ok (.invokestatic 312, 3) := by decide +kernel
theorem dX12_edge_37 : decode cX12_edge 37 = .ok (.ifCond .ne 7, 3) := by decide +kernel
theorem dX12_edge_40 : decode cX12_edge 40 = .ok (.ldc_w 614, 3) := by decide +kernel
theorem dX12_edge_43 : decode cX12_edge 43 = .ok (.ireturn, 1) := by decide +kernel
theorem dX12_edge_44 : decode cX12_edge 44 = .ok (.iload_n 2, 1) := by decide +kernel
theorem dX12_edge_45 : decode cX12_edge 45 = .ok (.tableswitch 75 0 3 #[31, 38, 45, 60], 31) := by decide +kernel
theorem dX12_edge_76 : decode cX12_edge 76 = .ok (.aload_n 0, 1) := by decide +kernel
theorem dX12_edge_77 : decode cX12_edge 77 = .ok (.getfield 59, 3) := by decide +kernel
theorem dX12_edge_80 : decode cX12_edge 80 = .ok (.iload_n 1, 1) := by decide +kernel
theorem dX12_edge_81 : decode cX12_edge 81 = .ok (.iaload, 1) := by decide +kernel
theorem dX12_edge_82 : decode cX12_edge 82 = .ok (.ireturn, 1) := by decide +kernel
theorem dX12_edge_83 : decode cX12_edge 83 = .ok (.aload_n 0, 1) := by decide +kernel
theorem dX12_edge_84 : decode cX12_edge 84 = .ok (.getfield 62, 3) := by decide +kernel
theorem dX12_edge_87 : decode cX12_edge 87 = .ok (.iload_n 1, 1) := by decide +kernel
theorem dX12_edge_88 : decode cX12_edge 88 = .ok (.iaload, 1) := by decide +kernel
theorem dX12_edge_89 : decode cX12_edge 89 = .ok (.ireturn, 1) := by decide +kernel
theorem dX12_edge_90 : decode cX12_edge 90 = .ok (.aload_n 0, 1) := by decide +kernel
theorem dX12_edge_91 : decode cX12_edge 91 = .ok (.getfield 72, 3) := by decide +kernel
theorem dX12_edge_94 : decode cX12_edge 94 = .ok (.iload_n 1, 1) := by decide +kernel
theorem dX12_edge_95 : decode cX12_edge 95 = .ok (.baload, 1) := by decide +kernel
theorem dX12_edge_96 : decode cX12_edge 96 = .ok (.ifCond .eq 7, 3) := by decide +kernel
theorem dX12_edge_99 : decode cX12_edge 99 = .ok (.iconst 1, 1) := by decide +kernel
theorem dX12_edge_100 : decode cX12_edge 100 = .ok (.goto 4, 3) := by decide +kernel
theorem dX12_edge_103 : decode cX12_edge 103 = .ok (.iconst 0, 1) := by decide +kernel
theorem dX12_edge_104 : decode cX12_edge 104 = .ok (.ireturn, 1) := by decide +kernel
theorem dX12_edge_105 : decode cX12_edge 105 = .ok (.aload_n 0, 1) := by decide +kernel
theorem dX12_edge_106 : decode cX12_edge 106 = .ok (.getfield 69, 3) := by decide +kernel
theorem dX12_edge_109 : decode cX12_edge 109 = .ok (.iload_n 1, 1) := by decide +kernel
theorem dX12_edge_110 : decode cX12_edge 110 = .ok (.baload, 1) := by decide +kernel
theorem dX12_edge_111 : decode cX12_edge 111 = .ok (.ifCond .eq 7, 3) := by decide +kernel
theorem dX12_edge_114 : decode cX12_edge 114 = .ok (.iconst 1, 1) := by decide +kernel
theorem dX12_edge_115 : decode cX12_edge 115 = .ok (.goto 4, 3) := by decide +kernel
theorem dX12_edge_118 : decode cX12_edge 118 = .ok (.iconst 0, 1) := by decide +kernel
theorem dX12_edge_119 : decode cX12_edge 119 = .ok (.ireturn, 1) := by decide +kernel
theorem dX12_edge_120 : decode cX12_edge 120 = .ok (.aload_n 0, 1) := by decide +kernel
theorem dX12_edge_121 : decode cX12_edge 121 = .ok (.getfield 65, 3) := by decide +kernel
theorem dX12_edge_124 : decode cX12_edge 124 = .ok (.iload_n 1, 1) := by decide +kernel
theorem dX12_edge_125 : decode cX12_edge 125 = .ok (.baload, 1) := by decide +kernel
theorem dX12_edge_126 : decode cX12_edge 126 = .ok (.ifCond .eq 7, 3) := by decide +kernel
theorem dX12_edge_129 : decode cX12_edge 129 = .ok (.iconst 1, 1) := by decide +kernel
theorem dX12_edge_130 : decode cX12_edge 130 = .ok (.goto 4, 3) := by decide +kernel
theorem dX12_edge_133 : decode cX12_edge 133 = .ok (.iconst 0, 1) := by decide +kernel
theorem dX12_edge_134 : decode cX12_edge 134 = .ok (.ireturn, 1) := by decide +kernel
theorem dX12_dominates_0 : decode cX12_dominates 0 = .ok (.aload_n 0, 1) := by decide +kernel
theorem dX12_dominates_1 : decode cX12_dominates 1 = .ok (.iconst 0, 1) := by decide +kernel
theorem dX12_dominates_2 : decode cX12_dominates 2 = .ok (.putfield 169, 3) := by decide +kernel
theorem dX12_dominates_5 : decode cX12_dominates 5 = .ok (.aload_n 0, 1) := by decide +kernel
theorem dX12_dominates_6 : decode cX12_dominates 6 = .ok (.iload_n 1, 1) := by decide +kernel
theorem dX12_dominates_7 : decode cX12_dominates 7 = .ok (.invokevirtual 615, 3) := by decide +kernel
theorem dX12_dominates_10 : decode cX12_dominates 10 = .ok (.ifCond .eq 28, 3) := by decide +kernel
theorem dX12_dominates_13 : decode cX12_dominates 13 = .ok (.aload_n 0, 1) := by decide +kernel
theorem dX12_dominates_14 : decode cX12_dominates 14 = .ok (.iload_n 2, 1) := by decide +kernel
theorem dX12_dominates_15 : decode cX12_dominates 15 = .ok (.invokevirtual 615, 3) := by decide +kernel
theorem dX12_dominates_18 : decode cX12_dominates 18 = .ok (.ifCond .eq 20, 3) := by decide +kernel
theorem dX12_dominates_21 : decode cX12_dominates 21 = .ok (.aload_n 0, 1) := by decide +kernel
theorem dX12_dominates_22 : decode cX12_dominates 22 = .ok (.getfield 75, 3) := by decide +kernel
theorem dX12_dominates_25 : decode cX12_dominates 25 = .ok (.iload_n 2, 1) := by decide +kernel
theorem dX12_dominates_26 : decode cX12_dominates 26 = .ok (.laload, 1) := by decide +kernel
theorem dX12_dominates_27 : decode cX12_dominates 27 = .ok (.iload_n 1, 1) := by decide +kernel
theorem dX12_dominates_28 : decode cX12_dominates 28 = .ok (.invokestatic 173, 3) := by decide +kernel
theorem dX12_dominates_31 : decode cX12_dominates 31 = .ok (.ifCond .eq 7, 3) := by decide +kernel
theorem dX12_dominates_34 : decode cX12_dominates 34 = .ok (.iconst 1, 1) := by decide +kernel
theorem dX12_dominates_35 : decode cX12_dominates 35 = .ok (.goto 4, 3) := by decide +kernel
theorem dX12_dominates_38 : decode cX12_dominates 38 = .ok (.iconst 0, 1) := by decide +kernel
theorem dX12_dominates_39 : decode cX12_dominates 39 = .ok (.ireturn, 1) := by decide +kernel
theorem dX12_loop_0 : decode cX12_loop 0 = .ok (.aload_n 0, 1) := by decide +kernel
theorem dX12_loop_1 : decode cX12_loop 1 = .ok (.iconst 0, 1) := by decide +kernel
theorem dX12_loop_2 : decode cX12_loop 2 = .ok (.putfield 169, 3) := by decide +kernel
theorem dX12_loop_5 : decode cX12_loop 5 = .ok (.aload_n 0, 1) := by decide +kernel
theorem dX12_loop_6 : decode cX12_loop 6 = .ok (.iload_n 1, 1) := by decide +kernel
theorem dX12_loop_7 : decode cX12_loop 7 = .ok (.invokevirtual 615, 3) := by decide +kernel
theorem dX12_loop_10 : decode cX12_loop 10 = .ok (.ifCond .eq 23, 3) := by decide +kernel
theorem dX12_loop_13 : decode cX12_loop 13 = .ok (.aload_n 0, 1) := by decide +kernel
theorem dX12_loop_14 : decode cX12_loop 14 = .ok (.getfield 79, 3) := by decide +kernel
theorem dX12_loop_17 : decode cX12_loop 17 = .ok (.iload_n 1, 1) := by decide +kernel
theorem dX12_loop_18 : decode cX12_loop 18 = .ok (.laload, 1) := by decide +kernel
theorem dX12_loop_19 : decode cX12_loop 19 = .ok (.lconst 0, 1) := by decide +kernel
theorem dX12_loop_20 : decode cX12_loop 20 = .ok (.lcmp, 1) := by decide +kernel
theorem dX12_loop_21 : decode cX12_loop 21 = .ok (.ifCond .eq 12, 3) := by decide +kernel
theorem dX12_loop_24 : decode cX12_loop 24 = .ok (.aload_n 0, 1) := by decide +kernel
theorem dX12_loop_25 : decode cX12_loop 25 = .ok (.getfield 79, 3) := by decide +kernel
theorem dX12_loop_28 : decode cX12_loop 28 = .ok (.iload_n 1, 1) := by decide +kernel
theorem dX12_loop_29 : decode cX12_loop 29 = .ok (.laload, 1) := by decide +kernel
theorem dX12_loop_30 : decode cX12_loop 30 = .ok (.goto 6, 3) := by decide +kernel
theorem dX12_loop_33 : decode cX12_loop 33 = .ok (.ldc2_w 652, 3) := by decide +kernel
theorem dX12_loop_36 : decode cX12_loop 36 = .ok (.lreturn, 1) := by decide +kernel
theorem dX12_type_0 : decode cX12_type 0 = .ok (.aload_n 0, 1) := by decide +kernel
theorem dX12_type_1 : decode cX12_type 1 = .ok (.iconst 0, 1) := by decide +kernel
theorem dX12_type_2 : decode cX12_type 2 = .ok (.putfield 169, 3) := by decide +kernel
theorem dX12_type_5 : decode cX12_type 5 = .ok (.aload_n 0, 1) := by decide +kernel
theorem dX12_type_6 : decode cX12_type 6 = .ok (.getfield 292, 3) := by decide +kernel
theorem dX12_type_9 : decode cX12_type 9 = .ok (.ifCond .eq 52, 3) := by decide +kernel
theorem dX12_type_12 : decode cX12_type 12 = .ok (.iload_n 1, 1) := by decide +kernel
theorem dX12_type_13 : decode cX12_type 13 = .ok (.i2l, 1) := by decide +kernel
theorem dX12_type_14 : decode cX12_type 14 = .ok (.lconst 0, 1) := by decide +kernel
theorem dX12_type_15 : decode cX12_type 15 = .ok (.ldc2_w 612, 3) := by decide +kernel
theorem dX12_type_18 : decode cX12_type 18 = .ok (.invokestatic 312, 3) := by decide +kernel
theorem dX12_type_21 : decode cX12_type 21 = .ok (.ifCond .eq 40, 3) := by decide +kernel
theorem dX12_type_24 : decode cX12_type 24 = .ok (.iload_n 2, 1) := by decide +kernel
theorem dX12_type_25 : decode cX12_type 25 = .ok (.i2l, 1) := by decide +kernel
theorem dX12_type_26 : decode cX12_type 26 = .ok (.lconst 0, 1) := by decide +kernel
theorem dX12_type_27 : decode cX12_type 27 = .ok (.iload_n 1, 1) := by decide +kernel
theorem dX12_type_28 : decode cX12_type 28 = .ok (.ifCond .ne 8, 3) := by decide +kernel
theorem dX12_type_31 : decode cX12_type 31 = .ok (.bipush 6, 2) := by decide +kernel
theorem dX12_type_33 : decode cX12_type 33 = .ok (.goto 19, 3) := by decide +kernel
theorem dX12_type_36 : decode cX12_type 36 = .ok (.iload_n 1, 1) := by decide +kernel
theorem dX12_type_37 : decode cX12_type 37 = .ok (.iconst 1, 1) := by decide +kernel
theorem dX12_type_38 : decode cX12_type 38 = .ok (.if_icmp .ne 10, 3) := by decide +kernel
theorem dX12_type_41 : decode cX12_type 41 = .ok (.aload_n 0, 1) := by decide +kernel
theorem dX12_type_42 : decode cX12_type 42 = .ok (.getfield 447, 3) := by decide +kernel
theorem dX12_type_45 : decode cX12_type 45 = .ok (.goto 7, 3) := by decide +kernel
theorem dX12_type_48 : decode cX12_type 48 = .ok (.aload_n 0, 1) := by decide +kernel
theorem dX12_type_49 : decode cX12_type 49 = .ok (.getfield 410, 3) := by decide +kernel
theorem dX12_type_52 : decode cX12_type 52 = .ok (.iconst 1, 1) := by decide +kernel
theorem dX12_type_53 : decode cX12_type 53 = .ok (.isub, 1) := by decide +kernel
theorem dX12_type_54 : decode cX12_type 54 = .ok (.i2l, 1) := by decide +kernel
theorem dX12_type_55 : decode cX12_type 55 = .ok (.invokestatic 312, 3) := by decide +kernel
theorem dX12_type_58 : decode cX12_type 58 = .ok (.ifCond .ne 5, 3) := by decide +kernel
theorem dX12_type_61 : decode cX12_type 61 = .ok (.iconst (-1), 1) := by decide +kernel
theorem dX12_type_62 : decode cX12_type 62 = .ok (.ireturn, 1) := by decide +kernel
theorem dX12_type_63 : decode cX12_type 63 = .ok (.iload_n 1, 1) := by decide +kernel
theorem dX12_type_64 : decode cX12_type 64 = .ok (.ifCond .ne 15, 3) := by decide +kernel
theorem dX12_type_67 : decode cX12_type 67 = .ok (.aload_n 0, 1) := by decide +kernel
theorem dX12_type_68 : decode cX12_type 68 = .ok (.getfield 115, 3) := by decide +kernel
theorem dX12_type_71 : decode cX12_type 71 = .ok (.iload_n 2, 1) := by decide +kernel
theorem dX12_type_72 : decode cX12_type 72 = .ok (.baload, 1) := by decide +kernel
theorem dX12_type_73 : decode cX12_type 73 = .ok (.ifCond .eq 36, 3) := by decide +kernel
theorem dX12_type_76 : decode cX12_type 76 = .ok (.goto 29, 3) := by decide +kernel
theorem dX12_type_79 : decode cX12_type 79 = .ok (.iload_n 1, 1) := by decide +kernel
theorem dX12_type_80 : decode cX12_type 80 = .ok (.iconst 1, 1) := by decide +kernel
theorem dX12_type_81 : decode cX12_type 81 = .ok (.if_icmp .ne 15, 3) := by decide +kernel
theorem dX12_type_84 : decode cX12_type 84 = .ok (.aload_n 0, 1) := by decide +kernel
theorem dX12_type_85 : decode cX12_type 85 = .ok (.getfield 118, 3) := by decide +kernel
theorem dX12_type_88 : decode cX12_type 88 = .ok (.iload_n 2, 1) := by decide +kernel
theorem dX12_type_89 : decode cX12_type 89 = .ok (.baload, 1) := by decide +kernel
theorem dX12_type_90 : decode cX12_type 90 = .ok (.ifCond .eq 19, 3) := by decide +kernel
theorem dX12_type_93 : decode cX12_type 93 = .ok (.goto 12, 3) := by decide +kernel
theorem dX12_type_96 : decode cX12_type 96 = .ok (.aload_n 0, 1) := by decide +kernel
theorem dX12_type_97 : decode cX12_type 97 = .ok (.getfield 121, 3) := by decide +kernel
theorem dX12_type_100 : decode cX12_type 100 = .ok (.iload_n 2, 1) := by decide +kernel
theorem dX12_type_101 : decode cX12_type 101 = .ok (.baload, 1) := by decide +kernel
theorem dX12_type_102 : decode cX12_type 102 = .ok (.ifCond .eq 7, 3) := by decide +kernel
theorem dX12_type_105 : decode cX12_type 105 = .ok (.iconst 1, 1) := by decide +kernel
theorem dX12_type_106 : decode cX12_type 106 = .ok (.goto 4, 3) := by decide +kernel
theorem dX12_type_109 : decode cX12_type 109 = .ok (.iconst 0, 1) := by decide +kernel
theorem dX12_type_110 : decode cX12_type 110 = .ok (.ireturn, 1) := by decide +kernel
theorem dX12_comesTo_0 : decode cX12_comesTo 0 = .ok (.aload_n 0, 1) := by decide +kernel
theorem dX12_comesTo_1 : decode cX12_comesTo 1 = .ok (.iconst 0, 1) := by decide +kernel
theorem dX12_comesTo_2 : decode cX12_comesTo 2 = .ok (.putfield 169, 3) := by decide +kernel
theorem dX12_comesTo_5 : decode cX12_comesTo 5 = .ok (.aload_n 0, 1) := by decide +kernel
theorem dX12_comesTo_6 : decode cX12_comesTo 6 = .ok (.iload_n 1, 1) := by decide +kernel
theorem dX12_comesTo_7 : decode cX12_comesTo 7 = .ok (.invokevirtual 615, 3) := by decide +kernel
theorem dX12_comesTo_10 : decode cX12_comesTo 10 = .ok (.ifCond .ne 7, 3) := by decide +kernel
theorem dX12_comesTo_13 : decode cX12_comesTo 13 = .ok (.ldc2_w 652, 3) := by decide +kernel
theorem dX12_comesTo_16 : decode cX12_comesTo 16 = .ok (.lreturn, 1) := by decide +kernel
theorem dX12_comesTo_17 : decode cX12_comesTo 17 = .ok (.lconst 0, 1) := by decide +kernel
theorem dX12_comesTo_18 : decode cX12_comesTo 18 = .ok (.lstore_n 2, 1) := by decide +kernel
theorem dX12_comesTo_19 : decode cX12_comesTo 19 = .ok (.iconst 1, 1) := by decide +kernel
theorem dX12_comesTo_20 : decode cX12_comesTo 20 = .ok (.istore 4, 2) := by decide +kernel
theorem dX12_comesTo_22 : decode cX12_comesTo 22 = .ok (.iload 4, 2) := by decide +kernel
theorem dX12_comesTo_24 : decode cX12_comesTo 24 = .ok (.ifCond .eq 84, 3) := by decide +kernel
theorem dX12_comesTo_27 : decode cX12_comesTo 27 = .ok (.iconst 0, 1) := by decide +kernel
theorem dX12_comesTo_28 : decode cX12_comesTo 28 = .ok (.istore 4, 2) := by decide +kernel
theorem dX12_comesTo_30 : decode cX12_comesTo 30 = .ok (.iconst 0, 1) := by decide +kernel
theorem dX12_comesTo_31 : decode cX12_comesTo 31 = .ok (.istore 5, 2) := by decide +kernel
theorem dX12_comesTo_33 : decode cX12_comesTo 33 = .ok (.iload 5, 2) := by decide +kernel
theorem dX12_comesTo_35 : decode cX12_comesTo 35 = .ok (.aload_n 0, 1) := by decide +kernel
theorem dX12_comesTo_36 : decode cX12_comesTo 36 = .ok (.getfield 327, 3) := by decide +kernel
theorem dX12_comesTo_39 : decode cX12_comesTo 39 = .ok (.if_icmp .ge 66, 3) := by decide +kernel
theorem dX12_comesTo_42 : decode cX12_comesTo 42 = .ok (.aload_n 0, 1) := by decide +kernel
theorem dX12_comesTo_43 : decode cX12_comesTo 43 = .ok (.getfield 62, 3) := by decide +kernel
theorem dX12_comesTo_46 : decode cX12_comesTo 46 = .ok (.iload 5, 2) := by decide +kernel
theorem dX12_comesTo_48 : decode cX12_comesTo 48 = .ok (.iaload, 1) := by decide +kernel
theorem dX12_comesTo_49 : decode cX12_comesTo 49 = .ok (.iload_n 1, 1) := by decide +kernel
theorem dX12_comesTo_50 : decode cX12_comesTo 50 = .ok (.if_icmp .eq 17, 3) := by decide +kernel
theorem dX12_comesTo_53 : decode cX12_comesTo 53 = .ok (.lload_n 2, 1) := by decide +kernel
theorem dX12_comesTo_54 : decode cX12_comesTo 54 = .ok (.aload_n 0, 1) := by decide +kernel
theorem dX12_comesTo_55 : decode cX12_comesTo 55 = .ok (.getfield 62, 3) := by decide +kernel
theorem dX12_comesTo_58 : decode cX12_comesTo 58 = .ok (.iload 5, 2) := by decide +kernel
theorem dX12_comesTo_60 : decode cX12_comesTo 60 = .ok (.iaload, 1) := by decide +kernel
theorem dX12_comesTo_61 : decode cX12_comesTo 61 = .ok (.invokestatic 173, 3) := by decide +kernel
theorem dX12_comesTo_64 : decode cX12_comesTo 64 = .ok (.ifCond .eq 35, 3) := by decide +kernel
theorem dX12_comesTo_67 : decode cX12_comesTo 67 = .ok (.lload_n 2, 1) := by decide +kernel
theorem dX12_comesTo_68 : decode cX12_comesTo 68 = .ok (.aload_n 0, 1) := by decide +kernel
theorem dX12_comesTo_69 : decode cX12_comesTo 69 = .ok (.getfield 59, 3) := by decide +kernel
theorem dX12_comesTo_72 : decode cX12_comesTo 72 = .ok (.iload 5, 2) := by decide +kernel
theorem dX12_comesTo_74 : decode cX12_comesTo 74 = .ok (.iaload, 1) := by decide +kernel
theorem dX12_comesTo_75 : decode cX12_comesTo 75 = .ok (.invokestatic 173, 3) := by decide +kernel
theorem dX12_comesTo_78 : decode cX12_comesTo 78 = .ok (.ifCond .eq 6, 3) := by decide +kernel
theorem dX12_comesTo_81 : decode cX12_comesTo 81 = .ok (.goto 18, 3) := by decide +kernel
theorem dX12_comesTo_84 : decode cX12_comesTo 84 = .ok (.lload_n 2, 1) := by decide +kernel
theorem dX12_comesTo_85 : decode cX12_comesTo 85 = .ok (.lconst 1, 1) := by decide +kernel
theorem dX12_comesTo_86 : decode cX12_comesTo 86 = .ok (.aload_n 0, 1) := by decide +kernel
theorem dX12_comesTo_87 : decode cX12_comesTo 87 = .ok (.getfield 59, 3) := by decide +kernel
theorem dX12_comesTo_90 : decode cX12_comesTo 90 = .ok (.iload 5, 2) := by decide +kernel
theorem dX12_comesTo_92 : decode cX12_comesTo 92 = .ok (.iaload, 1) := by decide +kernel
theorem dX12_comesTo_93 : decode cX12_comesTo 93 = .ok (.lshl, 1) := by decide +kernel
theorem dX12_comesTo_94 : decode cX12_comesTo 94 = .ok (.lor, 1) := by decide +kernel
theorem dX12_comesTo_95 : decode cX12_comesTo 95 = .ok (.lstore_n 2, 1) := by decide +kernel
theorem dX12_comesTo_96 : decode cX12_comesTo 96 = .ok (.iconst 1, 1) := by decide +kernel
theorem dX12_comesTo_97 : decode cX12_comesTo 97 = .ok (.istore 4, 2) := by decide +kernel
theorem dX12_comesTo_99 : decode cX12_comesTo 99 = .ok (.iinc 5 1, 3) := by decide +kernel
theorem dX12_comesTo_102 : decode cX12_comesTo 102 = .ok (.goto (-69), 3) := by decide +kernel
theorem dX12_comesTo_105 : decode cX12_comesTo 105 = .ok (.goto (-83), 3) := by decide +kernel
theorem dX12_comesTo_108 : decode cX12_comesTo 108 = .ok (.lload_n 2, 1) := by decide +kernel
theorem dX12_comesTo_109 : decode cX12_comesTo 109 = .ok (.lreturn, 1) := by decide +kernel
theorem dX12_far_0 : decode cX12_far 0 = .ok (.aload_n 0, 1) := by decide +kernel
theorem dX12_far_1 : decode cX12_far 1 = .ok (.iconst 0, 1) := by decide +kernel
theorem dX12_far_2 : decode cX12_far 2 = .ok (.putfield 169, 3) := by decide +kernel
theorem dX12_far_5 : decode cX12_far 5 = .ok (.aload_n 0, 1) := by decide +kernel
theorem dX12_far_6 : decode cX12_far 6 = .ok (.iload_n 1, 1) := by decide +kernel
theorem dX12_far_7 : decode cX12_far 7 = .ok (.invokevirtual 615, 3) := by decide +kernel
theorem dX12_far_10 : decode cX12_far 10 = .ok (.ifCond .eq 11, 3) := by decide +kernel
theorem dX12_far_13 : decode cX12_far 13 = .ok (.aload_n 0, 1) := by decide +kernel
theorem dX12_far_14 : decode cX12_far 14 = .ok (.iload_n 2, 1) := by decide +kernel
theorem dX12_far_15 : decode cX12_far 15 = .ok (.invokevirtual 615, 3) := by decide +kernel
theorem dX12_far_18 : decode cX12_far 18 = .ok (.ifCond .ne 5, 3) := by decide +kernel
theorem dX12_far_21 : decode cX12_far 21 = .ok (.iconst (-1), 1) := by decide +kernel
theorem dX12_far_22 : decode cX12_far 22 = .ok (.ireturn, 1) := by decide +kernel
theorem dX12_far_23 : decode cX12_far 23 = .ok (.lconst 1, 1) := by decide +kernel
theorem dX12_far_24 : decode cX12_far 24 = .ok (.iload_n 1, 1) := by decide +kernel
theorem dX12_far_25 : decode cX12_far 25 = .ok (.lshl, 1) := by decide +kernel
theorem dX12_far_26 : decode cX12_far 26 = .ok (.lstore_n 3, 1) := by decide +kernel
theorem dX12_far_27 : decode cX12_far 27 = .ok (.iconst 0, 1) := by decide +kernel
theorem dX12_far_28 : decode cX12_far 28 = .ok (.istore 5, 2) := by decide +kernel
theorem dX12_far_30 : decode cX12_far 30 = .ok (.lload_n 3, 1) := by decide +kernel
theorem dX12_far_31 : decode cX12_far 31 = .ok (.iload_n 2, 1) := by decide +kernel
theorem dX12_far_32 : decode cX12_far 32 = .ok (.invokestatic 173, 3) := by decide +kernel
theorem dX12_far_35 : decode cX12_far 35 = .ok (.ifCond .ne 70, 3) := by decide +kernel
theorem dX12_far_38 : decode cX12_far 38 = .ok (.lload_n 3, 1) := by decide +kernel
theorem dX12_far_39 : decode cX12_far 39 = .ok (.lstore 6, 2) := by decide +kernel
theorem dX12_far_41 : decode cX12_far 41 = .ok (.iconst 0, 1) := by decide +kernel
theorem dX12_far_42 : decode cX12_far 42 = .ok (.istore 8, 2) := by decide +kernel
theorem dX12_far_44 : decode cX12_far 44 = .ok (.iload 8, 2) := by decide +kernel
theorem dX12_far_46 : decode cX12_far 46 = .ok (.aload_n 0, 1) := by decide +kernel
theorem dX12_far_47 : decode cX12_far 47 = .ok (.getfield 327, 3) := by decide +kernel
theorem dX12_far_50 : decode cX12_far 50 = .ok (.if_icmp .ge 37, 3) := by decide +kernel
theorem dX12_far_53 : decode cX12_far 53 = .ok (.lload_n 3, 1) := by decide +kernel
theorem dX12_far_54 : decode cX12_far 54 = .ok (.aload_n 0, 1) := by decide +kernel
theorem dX12_far_55 : decode cX12_far 55 = .ok (.getfield 59, 3) := by decide +kernel
theorem dX12_far_58 : decode cX12_far 58 = .ok (.iload 8, 2) := by decide +kernel
theorem dX12_far_60 : decode cX12_far 60 = .ok (.iaload, 1) := by decide +kernel
theorem dX12_far_61 : decode cX12_far 61 = .ok (.invokestatic 173, 3) := by decide +kernel
theorem dX12_far_64 : decode cX12_far 64 = .ok (.ifCond .eq 17, 3) := by decide +kernel
theorem dX12_far_67 : decode cX12_far 67 = .ok (.lload 6, 2) := by decide +kernel
theorem dX12_far_69 : decode cX12_far 69 = .ok (.lconst 1, 1) := by decide +kernel
theorem dX12_far_70 : decode cX12_far 70 = .ok (.aload_n 0, 1) := by decide +kernel
theorem dX12_far_71 : decode cX12_far 71 = .ok (.getfield 62, 3) := by decide +kernel
theorem dX12_far_74 : decode cX12_far 74 = .ok (.iload 8, 2) := by decide +kernel
theorem dX12_far_76 : decode cX12_far 76 = .ok (.iaload, 1) := by decide +kernel
theorem dX12_far_77 : decode cX12_far 77 = .ok (.lshl, 1) := by decide +kernel
theorem dX12_far_78 : decode cX12_far 78 = .ok (.lor, 1) := by decide +kernel
theorem dX12_far_79 : decode cX12_far 79 = .ok (.lstore 6, 2) := by decide +kernel
theorem dX12_far_81 : decode cX12_far 81 = .ok (.iinc 8 1, 3) := by decide +kernel
theorem dX12_far_84 : decode cX12_far 84 = .ok (.goto (-40), 3) := by decide +kernel
theorem dX12_far_87 : decode cX12_far 87 = .ok (.lload 6, 2) := by decide +kernel
theorem dX12_far_89 : decode cX12_far 89 = .ok (.lload_n 3, 1) := by decide +kernel
theorem dX12_far_90 : decode cX12_far 90 = .ok (.lcmp, 1) := by decide +kernel
theorem dX12_far_91 : decode cX12_far 91 = .ok (.ifCond .ne 5, 3) := by decide +kernel
theorem dX12_far_94 : decode cX12_far 94 = .ok (.iconst (-1), 1) := by decide +kernel
theorem dX12_far_95 : decode cX12_far 95 = .ok (.ireturn, 1) := by decide +kernel
theorem dX12_far_96 : decode cX12_far 96 = .ok (.lload 6, 2) := by decide +kernel
theorem dX12_far_98 : decode cX12_far 98 = .ok (.lstore_n 3, 1) := by decide +kernel
theorem dX12_far_99 : decode cX12_far 99 = .ok (.iinc 5 1, 3) := by decide +kernel
theorem dX12_far_102 : decode cX12_far 102 = .ok (.goto (-72), 3) := by decide +kernel
theorem dX12_far_105 : decode cX12_far 105 = .ok (.iload 5, 2) := by decide +kernel
theorem dX12_far_107 : decode cX12_far 107 = .ok (.ireturn, 1) := by decide +kernel
theorem dX12_mostLines_0 : decode cX12_mostLines 0 = .ok (.iconst 0, 1) := by decide +kernel
theorem dX12_mostLines_1 : decode cX12_mostLines 1 = .ok (.istore_n 2, 1) := by decide +kernel
theorem dX12_mostLines_2 : decode cX12_mostLines 2 = .ok (.iconst 0, 1) := by decide +kernel
theorem dX12_mostLines_3 : decode cX12_mostLines 3 = .ok (.istore_n 3, 1) := by decide +kernel
theorem dX12_mostLines_4 : decode cX12_mostLines 4 = .ok (.iload_n 3, 1) := by decide +kernel
theorem dX12_mostLines_5 : decode cX12_mostLines 5 = .ok (.aload_n 0, 1) := by decide +kernel
theorem dX12_mostLines_6 : decode cX12_mostLines 6 = .ok (.getfield 479, 3) := by decide +kernel
theorem dX12_mostLines_9 : decode cX12_mostLines 9 = .ok (.if_icmp .ge 27, 3) := by decide +kernel
theorem dX12_mostLines_12 : decode cX12_mostLines 12 = .ok (.iload_n 2, 1) := by decide +kernel
theorem dX12_mostLines_13 : decode cX12_mostLines 13 = .ok (.aload_n 0, 1) := by decide +kernel
theorem dX12_mostLines_14 : decode cX12_mostLines 14 = .ok (.getfield 133, 3) := by decide +kernel
theorem dX12_mostLines_17 : decode cX12_mostLines 17 = .ok (.iload_n 3, 1) := by decide +kernel
theorem dX12_mostLines_18 : decode cX12_mostLines 18 = .ok (.iaload, 1) := by decide +kernel
theorem dX12_mostLines_19 : decode cX12_mostLines 19 = .ok (.iload_n 1, 1) := by decide +kernel
theorem dX12_mostLines_20 : decode cX12_mostLines 20 = .ok (.if_icmp .ne 7, 3) := by decide +kernel
theorem dX12_mostLines_23 : decode cX12_mostLines 23 = .ok (.iconst 1, 1) := by decide +kernel
theorem dX12_mostLines_24 : decode cX12_mostLines 24 = .ok (.goto 4, 3) := by decide +kernel
theorem dX12_mostLines_27 : decode cX12_mostLines 27 = .ok (.iconst 0, 1) := by decide +kernel
theorem dX12_mostLines_28 : decode cX12_mostLines 28 = .ok (.iadd, 1) := by decide +kernel
theorem dX12_mostLines_29 : decode cX12_mostLines 29 = .ok (.istore_n 2, 1) := by decide +kernel
theorem dX12_mostLines_30 : decode cX12_mostLines 30 = .ok (.iinc 3 1, 3) := by decide +kernel
theorem dX12_mostLines_33 : decode cX12_mostLines 33 = .ok (.goto (-29), 3) := by decide +kernel
theorem dX12_mostLines_36 : decode cX12_mostLines 36 = .ok (.iload_n 2, 1) := by decide +kernel
theorem dX12_mostLines_37 : decode cX12_mostLines 37 = .ok (.ireturn, 1) := by decide +kernel
theorem dX12_deepest_0 : decode cX12_deepest 0 = .ok (.iconst 0, 1) := by decide +kernel
theorem dX12_deepest_1 : decode cX12_deepest 1 = .ok (.istore_n 1, 1) := by decide +kernel
theorem dX12_deepest_2 : decode cX12_deepest 2 = .ok (.iconst 0, 1) := by decide +kernel
theorem dX12_deepest_3 : decode cX12_deepest 3 = .ok (.istore_n 2, 1) := by decide +kernel
theorem dX12_deepest_4 : decode cX12_deepest 4 = .ok (.iload_n 2, 1) := by decide +kernel
theorem dX12_deepest_5 : decode cX12_deepest 5 = .ok (.aload_n 0, 1) := by decide +kernel
theorem dX12_deepest_6 : decode cX12_deepest 6 = .ok (.getfield 479, 3) := by decide +kernel
theorem dX12_deepest_9 : decode cX12_deepest 9 = .ok (.if_icmp .ge 20, 3) := by decide +kernel
theorem dX12_deepest_12 : decode cX12_deepest 12 = .ok (.iload_n 1, 1) := by decide +kernel
theorem dX12_deepest_13 : decode cX12_deepest 13 = .ok (.aload_n 0, 1) := by decide +kernel
theorem dX12_deepest_14 : decode cX12_deepest 14 = .ok (.getfield 139, 3) := by decide +kernel
theorem dX12_deepest_17 : decode cX12_deepest 17 = .ok (.iload_n 2, 1) := by decide +kernel
theorem dX12_deepest_18 : decode cX12_deepest 18 = .ok (.iaload, 1) := by decide +kernel
theorem dX12_deepest_19 : decode cX12_deepest 19 = .ok (.invokestatic 450, 3) := by decide +kernel
theorem dX12_deepest_22 : decode cX12_deepest 22 = .ok (.istore_n 1, 1) := by decide +kernel
theorem dX12_deepest_23 : decode cX12_deepest 23 = .ok (.iinc 2 1, 3) := by decide +kernel
theorem dX12_deepest_26 : decode cX12_deepest 26 = .ok (.goto (-22), 3) := by decide +kernel
theorem dX12_deepest_29 : decode cX12_deepest 29 = .ok (.iload_n 1, 1) := by decide +kernel
theorem dX12_deepest_30 : decode cX12_deepest 30 = .ok (.ireturn, 1) := by decide +kernel
theorem dX12_mostLoops_0 : decode cX12_mostLoops 0 = .ok (.iconst 0, 1) := by decide +kernel
theorem dX12_mostLoops_1 : decode cX12_mostLoops 1 = .ok (.istore_n 1, 1) := by decide +kernel
theorem dX12_mostLoops_2 : decode cX12_mostLoops 2 = .ok (.iconst 0, 1) := by decide +kernel
theorem dX12_mostLoops_3 : decode cX12_mostLoops 3 = .ok (.istore_n 2, 1) := by decide +kernel
theorem dX12_mostLoops_4 : decode cX12_mostLoops 4 = .ok (.iload_n 2, 1) := by decide +kernel
theorem dX12_mostLoops_5 : decode cX12_mostLoops 5 = .ok (.aload_n 0, 1) := by decide +kernel
theorem dX12_mostLoops_6 : decode cX12_mostLoops 6 = .ok (.getfield 299, 3) := by decide +kernel
theorem dX12_mostLoops_9 : decode cX12_mostLoops 9 = .ok (.if_icmp .ge 19, 3) := by decide +kernel
theorem dX12_mostLoops_12 : decode cX12_mostLoops 12 = .ok (.iload_n 1, 1) := by decide +kernel
theorem dX12_mostLoops_13 : decode cX12_mostLoops 13 = .ok (.aload_n 0, 1) := by decide +kernel
theorem dX12_mostLoops_14 : decode cX12_mostLoops 14 = .ok (.iload_n 2, 1) := by decide +kernel
theorem dX12_mostLoops_15 : decode cX12_mostLoops 15 = .ok (.invokevirtual 649, 3) := by decide +kernel
theorem dX12_mostLoops_18 : decode cX12_mostLoops 18 = .ok (.invokestatic 450, 3) := by decide +kernel
theorem dX12_mostLoops_21 : decode cX12_mostLoops 21 = .ok (.istore_n 1, 1) := by decide +kernel
theorem dX12_mostLoops_22 : decode cX12_mostLoops 22 = .ok (.iinc 2 1, 3) := by decide +kernel
theorem dX12_mostLoops_25 : decode cX12_mostLoops 25 = .ok (.goto (-21), 3) := by decide +kernel
theorem dX12_mostLoops_28 : decode cX12_mostLoops 28 = .ok (.iload_n 1, 1) := by decide +kernel
theorem dX12_mostLoops_29 : decode cX12_mostLoops 29 = .ok (.ireturn, 1) := by decide +kernel
theorem dX12_mostWithin_0 : decode cX12_mostWithin 0 = .ok (.iconst 0, 1) := by decide +kernel
theorem dX12_mostWithin_1 : decode cX12_mostWithin 1 = .ok (.istore_n 1, 1) := by decide +kernel
theorem dX12_mostWithin_2 : decode cX12_mostWithin 2 = .ok (.iconst 0, 1) := by decide +kernel
theorem dX12_mostWithin_3 : decode cX12_mostWithin 3 = .ok (.istore_n 2, 1) := by decide +kernel
theorem dX12_mostWithin_4 : decode cX12_mostWithin 4 = .ok (.iload_n 2, 1) := by decide +kernel
theorem dX12_mostWithin_5 : decode cX12_mostWithin 5 = .ok (.aload_n 0, 1) := by decide +kernel
theorem dX12_mostWithin_6 : decode cX12_mostWithin 6 = .ok (.getfield 407, 3) := by decide +kernel
theorem dX12_mostWithin_9 : decode cX12_mostWithin 9 = .ok (.if_icmp .ge 34, 3) := by decide +kernel
theorem dX12_mostWithin_12 : decode cX12_mostWithin 12 = .ok (.aload_n 0, 1) := by decide +kernel
theorem dX12_mostWithin_13 : decode cX12_mostWithin 13 = .ok (.getfield 103, 3) := by decide +kernel
theorem dX12_mostWithin_16 : decode cX12_mostWithin 16 = .ok (.iload_n 2, 1) := by decide +kernel
theorem dX12_mostWithin_17 : decode cX12_mostWithin 17 = .ok (.iaload, 1) := by decide +kernel
theorem dX12_mostWithin_18 : decode cX12_mostWithin 18 = .ok (.iconst (-1), 1) := by decide +kernel
theorem dX12_mostWithin_19 : decode cX12_mostWithin 19 = .ok (.if_icmp .eq 18, 3) := by decide +kernel
theorem dX12_mostWithin_22 : decode cX12_mostWithin 22 = .ok (.iload_n 1, 1) := by decide +kernel
theorem dX12_mostWithin_23 : decode cX12_mostWithin 23 = .ok (.aload_n 0, 1) := by decide +kernel
theorem dX12_mostWithin_24 : decode cX12_mostWithin 24 = .ok (.aload_n 0, 1) := by decide +kernel
theorem dX12_mostWithin_25 : decode cX12_mostWithin 25 = .ok (.getfield 103, 3) := by decide +kernel
theorem dX12_mostWithin_28 : decode cX12_mostWithin 28 = .ok (.iload_n 2, 1) := by decide +kernel
theorem dX12_mostWithin_29 : decode cX12_mostWithin 29 = .ok (.iaload, 1) := by decide +kernel
theorem dX12_mostWithin_30 : decode cX12_mostWithin 30 = .ok (.invokevirtual 401, 3) := by decide +kernel
theorem dX12_mostWithin_33 : decode cX12_mostWithin 33 = .ok (.invokestatic 450, 3) := by decide +kernel
theorem dX12_mostWithin_36 : decode cX12_mostWithin 36 = .ok (.istore_n 1, 1) := by decide +kernel
theorem dX12_mostWithin_37 : decode cX12_mostWithin 37 = .ok (.iinc 2 1, 3) := by decide +kernel
theorem dX12_mostWithin_40 : decode cX12_mostWithin 40 = .ok (.goto (-36), 3) := by decide +kernel
theorem dX12_mostWithin_43 : decode cX12_mostWithin 43 = .ok (.iload_n 1, 1) := by decide +kernel
theorem dX12_mostWithin_44 : decode cX12_mostWithin 44 = .ok (.ireturn, 1) := by decide +kernel
theorem dX12_mostOnStack_0 : decode cX12_mostOnStack 0 = .ok (.iconst 0, 1) := by decide +kernel
theorem dX12_mostOnStack_1 : decode cX12_mostOnStack 1 = .ok (.istore_n 1, 1) := by decide +kernel
theorem dX12_mostOnStack_2 : decode cX12_mostOnStack 2 = .ok (.iconst 0, 1) := by decide +kernel
theorem dX12_mostOnStack_3 : decode cX12_mostOnStack 3 = .ok (.istore_n 2, 1) := by decide +kernel
theorem dX12_mostOnStack_4 : decode cX12_mostOnStack 4 = .ok (.iload_n 2, 1) := by decide +kernel
theorem dX12_mostOnStack_5 : decode cX12_mostOnStack 5 = .ok (.aload_n 0, 1) := by decide +kernel
theorem dX12_mostOnStack_6 : decode cX12_mostOnStack 6 = .ok (.getfield 286, 3) := by decide +kernel
theorem dX12_mostOnStack_9 : decode cX12_mostOnStack 9 = .ok (.if_icmp .ge 57, 3) := by decide +kernel
theorem dX12_mostOnStack_12 : decode cX12_mostOnStack 12 = .ok (.aload_n 0, 1) := by decide +kernel
theorem dX12_mostOnStack_13 : decode cX12_mostOnStack 13 = .ok (.iload_n 2, 1) := by decide +kernel
theorem dX12_mostOnStack_14 : decode cX12_mostOnStack 14 = .ok (.invokevirtual 321, 3) := by decide +kernel
theorem dX12_mostOnStack_17 : decode cX12_mostOnStack 17 = .ok (.ifCond .eq 43, 3) := by decide +kernel
theorem dX12_mostOnStack_20 : decode cX12_mostOnStack 20 = .ok (.iload_n 1, 1) := by decide +kernel
theorem dX12_mostOnStack_21 : decode cX12_mostOnStack 21 = .ok (.aload_n 0, 1) := by decide +kernel
theorem dX12_mostOnStack_22 : decode cX12_mostOnStack 22 = .ok (.getfield 44, 3) := by decide +kernel
theorem dX12_mostOnStack_25 : decode cX12_mostOnStack 25 = .ok (.iload_n 2, 1) := by decide +kernel
theorem dX12_mostOnStack_26 : decode cX12_mostOnStack 26 = .ok (.iaload, 1) := by decide +kernel
theorem dX12_mostOnStack_27 : decode cX12_mostOnStack 27 = .ok (.aload_n 0, 1) := by decide +kernel
theorem dX12_mostOnStack_28 : decode cX12_mostOnStack 28 = .ok (.getfield 44, 3) := by decide +kernel
theorem dX12_mostOnStack_31 : decode cX12_mostOnStack 31 = .ok (.iload_n 2, 1) := by decide +kernel
theorem dX12_mostOnStack_32 : decode cX12_mostOnStack 32 = .ok (.iaload, 1) := by decide +kernel
theorem dX12_mostOnStack_33 : decode cX12_mostOnStack 33 = .ok (.aload_n 0, 1) := by decide +kernel
theorem dX12_mostOnStack_34 : decode cX12_mostOnStack 34 = .ok (.getfield 23, 3) := by decide +kernel
theorem dX12_mostOnStack_37 : decode cX12_mostOnStack 37 = .ok (.iload_n 2, 1) := by decide +kernel
theorem dX12_mostOnStack_38 : decode cX12_mostOnStack 38 = .ok (.iaload, 1) := by decide +kernel
theorem dX12_mostOnStack_39 : decode cX12_mostOnStack 39 = .ok (.invokestatic 266, 3) := by decide +kernel
theorem dX12_mostOnStack_42 : decode cX12_mostOnStack 42 = .ok (.isub, 1) := by decide +kernel
theorem dX12_mostOnStack_43 : decode cX12_mostOnStack 43 = .ok (.aload_n 0, 1) := by decide +kernel
theorem dX12_mostOnStack_44 : decode cX12_mostOnStack 44 = .ok (.getfield 23, 3) := by decide +kernel
theorem dX12_mostOnStack_47 : decode cX12_mostOnStack 47 = .ok (.iload_n 2, 1) := by decide +kernel
theorem dX12_mostOnStack_48 : decode cX12_mostOnStack 48 = .ok (.iaload, 1) := by decide +kernel
theorem dX12_mostOnStack_49 : decode cX12_mostOnStack 49 = .ok (.invokestatic 269, 3) := by decide +kernel
theorem dX12_mostOnStack_52 : decode cX12_mostOnStack 52 = .ok (.iadd, 1) := by decide +kernel
theorem dX12_mostOnStack_53 : decode cX12_mostOnStack 53 = .ok (.invokestatic 450, 3) := by decide +kernel
theorem dX12_mostOnStack_56 : decode cX12_mostOnStack 56 = .ok (.invokestatic 450, 3) := by decide +kernel
theorem dX12_mostOnStack_59 : decode cX12_mostOnStack 59 = .ok (.istore_n 1, 1) := by decide +kernel
theorem dX12_mostOnStack_60 : decode cX12_mostOnStack 60 = .ok (.iinc 2 1, 3) := by decide +kernel
theorem dX12_mostOnStack_63 : decode cX12_mostOnStack 63 = .ok (.goto (-59), 3) := by decide +kernel
theorem dX12_mostOnStack_66 : decode cX12_mostOnStack 66 = .ok (.iload_n 1, 1) := by decide +kernel
theorem dX12_mostOnStack_67 : decode cX12_mostOnStack 67 = .ok (.ireturn, 1) := by decide +kernel
theorem dX12_longestBlock_0 : decode cX12_longestBlock 0 = .ok (.iconst 0, 1) := by decide +kernel
theorem dX12_longestBlock_1 : decode cX12_longestBlock 1 = .ok (.istore_n 1, 1) := by decide +kernel
theorem dX12_longestBlock_2 : decode cX12_longestBlock 2 = .ok (.iconst 1, 1) := by decide +kernel
theorem dX12_longestBlock_3 : decode cX12_longestBlock 3 = .ok (.istore_n 2, 1) := by decide +kernel
theorem dX12_longestBlock_4 : decode cX12_longestBlock 4 = .ok (.iload_n 2, 1) := by decide +kernel
theorem dX12_longestBlock_5 : decode cX12_longestBlock 5 = .ok (.aload_n 0, 1) := by decide +kernel
theorem dX12_longestBlock_6 : decode cX12_longestBlock 6 = .ok (.getfield 299, 3) := by decide +kernel
theorem dX12_longestBlock_9 : decode cX12_longestBlock 9 = .ok (.if_icmp .ge 44, 3) := by decide +kernel
theorem dX12_longestBlock_12 : decode cX12_longestBlock 12 = .ok (.aload_n 0, 1) := by decide +kernel
theorem dX12_longestBlock_13 : decode cX12_longestBlock 13 = .ok (.getfield 106, 3) := by decide +kernel
theorem dX12_longestBlock_16 : decode cX12_longestBlock 16 = .ok (.iload_n 2, 1) := by decide +kernel
theorem dX12_longestBlock_17 : decode cX12_longestBlock 17 = .ok (.iconst 1, 1) := by decide +kernel
theorem dX12_longestBlock_18 : decode cX12_longestBlock 18 = .ok (.iadd, 1) := by decide +kernel
theorem dX12_longestBlock_19 : decode cX12_longestBlock 19 = .ok (.iaload, 1) := by decide +kernel
theorem dX12_longestBlock_20 : decode cX12_longestBlock 20 = .ok (.aload_n 0, 1) := by decide +kernel
theorem dX12_longestBlock_21 : decode cX12_longestBlock 21 = .ok (.getfield 106, 3) := by decide +kernel
theorem dX12_longestBlock_24 : decode cX12_longestBlock 24 = .ok (.iload_n 2, 1) := by decide +kernel
theorem dX12_longestBlock_25 : decode cX12_longestBlock 25 = .ok (.iaload, 1) := by decide +kernel
theorem dX12_longestBlock_26 : decode cX12_longestBlock 26 = .ok (.isub, 1) := by decide +kernel
theorem dX12_longestBlock_27 : decode cX12_longestBlock 27 = .ok (.aload_n 0, 1) := by decide +kernel
theorem dX12_longestBlock_28 : decode cX12_longestBlock 28 = .ok (.getfield 106, 3) := by decide +kernel
theorem dX12_longestBlock_31 : decode cX12_longestBlock 31 = .ok (.iload_n 1, 1) := by decide +kernel
theorem dX12_longestBlock_32 : decode cX12_longestBlock 32 = .ok (.iconst 1, 1) := by decide +kernel
theorem dX12_longestBlock_33 : decode cX12_longestBlock 33 = .ok (.iadd, 1) := by decide +kernel
theorem dX12_longestBlock_34 : decode cX12_longestBlock 34 = .ok (.iaload, 1) := by decide +kernel
theorem dX12_longestBlock_35 : decode cX12_longestBlock 35 = .ok (.aload_n 0, 1) := by decide +kernel
theorem dX12_longestBlock_36 : decode cX12_longestBlock 36 = .ok (.getfield 106, 3) := by decide +kernel
theorem dX12_longestBlock_39 : decode cX12_longestBlock 39 = .ok (.iload_n 1, 1) := by decide +kernel
theorem dX12_longestBlock_40 : decode cX12_longestBlock 40 = .ok (.iaload, 1) := by decide +kernel
theorem dX12_longestBlock_41 : decode cX12_longestBlock 41 = .ok (.isub, 1) := by decide +kernel
theorem dX12_longestBlock_42 : decode cX12_longestBlock 42 = .ok (.if_icmp .le 5, 3) := by decide +kernel
theorem dX12_longestBlock_45 : decode cX12_longestBlock 45 = .ok (.iload_n 2, 1) := by decide +kernel
theorem dX12_longestBlock_46 : decode cX12_longestBlock 46 = .ok (.istore_n 1, 1) := by decide +kernel
theorem dX12_longestBlock_47 : decode cX12_longestBlock 47 = .ok (.iinc 2 1, 3) := by decide +kernel
theorem dX12_longestBlock_50 : decode cX12_longestBlock 50 = .ok (.goto (-46), 3) := by decide +kernel
theorem dX12_longestBlock_53 : decode cX12_longestBlock 53 = .ok (.iload_n 1, 1) := by decide +kernel
theorem dX12_longestBlock_54 : decode cX12_longestBlock 54 = .ok (.ireturn, 1) := by decide +kernel
theorem dX12_truths_0 : decode cX12_truths 0 = .ok (.iconst 0, 1) := by decide +kernel
theorem dX12_truths_1 : decode cX12_truths 1 = .ok (.istore_n 1, 1) := by decide +kernel
theorem dX12_truths_2 : decode cX12_truths 2 = .ok (.iconst 0, 1) := by decide +kernel
theorem dX12_truths_3 : decode cX12_truths 3 = .ok (.istore_n 2, 1) := by decide +kernel
theorem dX12_truths_4 : decode cX12_truths 4 = .ok (.iload_n 2, 1) := by decide +kernel
theorem dX12_truths_5 : decode cX12_truths 5 = .ok (.bipush 6, 2) := by decide +kernel
theorem dX12_truths_7 : decode cX12_truths 7 = .ok (.if_icmp .ge 26, 3) := by decide +kernel
theorem dX12_truths_10 : decode cX12_truths 10 = .ok (.iload_n 1, 1) := by decide +kernel
theorem dX12_truths_11 : decode cX12_truths 11 = .ok (.aload_n 0, 1) := by decide +kernel
theorem dX12_truths_12 : decode cX12_truths 12 = .ok (.getfield 115, 3) := by decide +kernel
theorem dX12_truths_15 : decode cX12_truths 15 = .ok (.iload_n 2, 1) := by decide +kernel
theorem dX12_truths_16 : decode cX12_truths 16 = .ok (.baload, 1) := by decide +kernel
theorem dX12_truths_17 : decode cX12_truths 17 = .ok (.ifCond .eq 7, 3) := by decide +kernel
theorem dX12_truths_20 : decode cX12_truths 20 = .ok (.iconst 1, 1) := by decide +kernel
theorem dX12_truths_21 : decode cX12_truths 21 = .ok (.goto 4, 3) := by decide +kernel
theorem dX12_truths_24 : decode cX12_truths 24 = .ok (.iconst 0, 1) := by decide +kernel
theorem dX12_truths_25 : decode cX12_truths 25 = .ok (.iadd, 1) := by decide +kernel
theorem dX12_truths_26 : decode cX12_truths 26 = .ok (.istore_n 1, 1) := by decide +kernel
theorem dX12_truths_27 : decode cX12_truths 27 = .ok (.iinc 2 1, 3) := by decide +kernel
theorem dX12_truths_30 : decode cX12_truths 30 = .ok (.goto (-26), 3) := by decide +kernel
theorem dX12_truths_33 : decode cX12_truths 33 = .ok (.iconst 0, 1) := by decide +kernel
theorem dX12_truths_34 : decode cX12_truths 34 = .ok (.istore_n 2, 1) := by decide +kernel
theorem dX12_truths_35 : decode cX12_truths 35 = .ok (.iload_n 2, 1) := by decide +kernel
theorem dX12_truths_36 : decode cX12_truths 36 = .ok (.aload_n 0, 1) := by decide +kernel
theorem dX12_truths_37 : decode cX12_truths 37 = .ok (.getfield 447, 3) := by decide +kernel
theorem dX12_truths_40 : decode cX12_truths 40 = .ok (.if_icmp .ge 26, 3) := by decide +kernel
theorem dX12_truths_43 : decode cX12_truths 43 = .ok (.iload_n 1, 1) := by decide +kernel
theorem dX12_truths_44 : decode cX12_truths 44 = .ok (.aload_n 0, 1) := by decide +kernel
theorem dX12_truths_45 : decode cX12_truths 45 = .ok (.getfield 118, 3) := by decide +kernel
theorem dX12_truths_48 : decode cX12_truths 48 = .ok (.iload_n 2, 1) := by decide +kernel
theorem dX12_truths_49 : decode cX12_truths 49 = .ok (.baload, 1) := by decide +kernel
theorem dX12_truths_50 : decode cX12_truths 50 = .ok (.ifCond .eq 7, 3) := by decide +kernel
theorem dX12_truths_53 : decode cX12_truths 53 = .ok (.iconst 1, 1) := by decide +kernel
theorem dX12_truths_54 : decode cX12_truths 54 = .ok (.goto 4, 3) := by decide +kernel
theorem dX12_truths_57 : decode cX12_truths 57 = .ok (.iconst 0, 1) := by decide +kernel
theorem dX12_truths_58 : decode cX12_truths 58 = .ok (.iadd, 1) := by decide +kernel
theorem dX12_truths_59 : decode cX12_truths 59 = .ok (.istore_n 1, 1) := by decide +kernel
theorem dX12_truths_60 : decode cX12_truths 60 = .ok (.iinc 2 1, 3) := by decide +kernel
theorem dX12_truths_63 : decode cX12_truths 63 = .ok (.goto (-28), 3) := by decide +kernel
theorem dX12_truths_66 : decode cX12_truths 66 = .ok (.iconst 0, 1) := by decide +kernel
theorem dX12_truths_67 : decode cX12_truths 67 = .ok (.istore_n 2, 1) := by decide +kernel
theorem dX12_truths_68 : decode cX12_truths 68 = .ok (.iload_n 2, 1) := by decide +kernel
theorem dX12_truths_69 : decode cX12_truths 69 = .ok (.aload_n 0, 1) := by decide +kernel
theorem dX12_truths_70 : decode cX12_truths 70 = .ok (.getfield 410, 3) := by decide +kernel
theorem dX12_truths_73 : decode cX12_truths 73 = .ok (.if_icmp .ge 26, 3) := by decide +kernel
theorem dX12_truths_76 : decode cX12_truths 76 = .ok (.iload_n 1, 1) := by decide +kernel
theorem dX12_truths_77 : decode cX12_truths 77 = .ok (.aload_n 0, 1) := by decide +kernel
theorem dX12_truths_78 : decode cX12_truths 78 = .ok (.getfield 121, 3) := by decide +kernel
theorem dX12_truths_81 : decode cX12_truths 81 = .ok (.iload_n 2, 1) := by decide +kernel
theorem dX12_truths_82 : decode cX12_truths 82 = .ok (.baload, 1) := by decide +kernel
theorem dX12_truths_83 : decode cX12_truths 83 = .ok (.ifCond .eq 7, 3) := by decide +kernel
theorem dX12_truths_86 : decode cX12_truths 86 = .ok (.iconst 1, 1) := by decide +kernel
theorem dX12_truths_87 : decode cX12_truths 87 = .ok (.goto 4, 3) := by decide +kernel
theorem dX12_truths_90 : decode cX12_truths 90 = .ok (.iconst 0, 1) := by decide +kernel
theorem dX12_truths_91 : decode cX12_truths 91 = .ok (.iadd, 1) := by decide +kernel
theorem dX12_truths_92 : decode cX12_truths 92 = .ok (.istore_n 1, 1) := by decide +kernel
theorem dX12_truths_93 : decode cX12_truths 93 = .ok (.iinc 2 1, 3) := by decide +kernel
theorem dX12_truths_96 : decode cX12_truths 96 = .ok (.goto (-28), 3) := by decide +kernel
theorem dX12_truths_99 : decode cX12_truths 99 = .ok (.iload_n 1, 1) := by decide +kernel
theorem dX12_truths_100 : decode cX12_truths 100 = .ok (.ireturn, 1) := by decide +kernel
theorem dX12_most_0 : decode cX12_most 0 = .ok (.aload_n 0, 1) := by decide +kernel
theorem dX12_most_1 : decode cX12_most 1 = .ok (.iconst 0, 1) := by decide +kernel
theorem dX12_most_2 : decode cX12_most 2 = .ok (.putfield 169, 3) := by decide +kernel
theorem dX12_most_5 : decode cX12_most 5 = .ok (.aload_n 0, 1) := by decide +kernel
theorem dX12_most_6 : decode cX12_most 6 = .ok (.getfield 292, 3) := by decide +kernel
theorem dX12_most_9 : decode cX12_most 9 = .ok (.ifCond .ne 7, 3) := by decide +kernel
theorem dX12_most_12 : decode cX12_most 12 = .ok (.ldc_w 614, 3) := by decide +kernel
theorem dX12_most_15 : decode cX12_most 15 = .ok (.ireturn, 1) := by decide +kernel
theorem dX12_most_16 : decode cX12_most 16 = .ok (.iload_n 1, 1) := by decide +kernel
theorem dX12_most_17 : decode cX12_most 17 = .ok (.tableswitch 127 0 7 #[47, 52, 69, 88, 107, 112, 117, 122], 47) := by decide +kernel
theorem dX12_most_64 : decode cX12_most 64 = .ok (.aload_n 0, 1) := by decide +kernel
theorem dX12_most_65 : decode cX12_most 65 = .ok (.invokevirtual 654, 3) := by decide +kernel
theorem dX12_most_68 : decode cX12_most 68 = .ok (.ireturn, 1) := by decide +kernel
theorem dX12_most_69 : decode cX12_most 69 = .ok (.aload_n 0, 1) := by decide +kernel
theorem dX12_most_70 : decode cX12_most 70 = .ok (.getfield 358, 3) := by decide +kernel
theorem dX12_most_73 : decode cX12_most 73 = .ok (.iconst (-1), 1) := by decide +kernel
theorem dX12_most_74 : decode cX12_most 74 = .ok (.if_icmp .ne 7, 3) := by decide +kernel
theorem dX12_most_77 : decode cX12_most 77 = .ok (.iconst (-1), 1) := by decide +kernel
theorem dX12_most_78 : decode cX12_most 78 = .ok (.goto 7, 3) := by decide +kernel
theorem dX12_most_81 : decode cX12_most 81 = .ok (.aload_n 0, 1) := by decide +kernel
theorem dX12_most_82 : decode cX12_most 82 = .ok (.invokevirtual 657, 3) := by decide +kernel
theorem dX12_most_85 : decode cX12_most 85 = .ok (.ireturn, 1) := by decide +kernel
theorem dX12_most_86 : decode cX12_most 86 = .ok (.aload_n 0, 1) := by decide +kernel
theorem dX12_most_87 : decode cX12_most 87 = .ok (.getfield 358, 3) := by decide +kernel
theorem dX12_most_90 : decode cX12_most 90 = .ok (.iconst (-1), 1) := by decide +kernel
theorem dX12_most_91 : decode cX12_most 91 = .ok (.if_icmp .ne 7, 3) := by decide +kernel
theorem dX12_most_94 : decode cX12_most 94 = .ok (.iconst (-1), 1) := by decide +kernel
theorem dX12_most_95 : decode cX12_most 95 = .ok (.goto 9, 3) := by decide +kernel
theorem dX12_most_98 : decode cX12_most 98 = .ok (.aload_n 0, 1) := by decide +kernel
theorem dX12_most_99 : decode cX12_most 99 = .ok (.bipush 6, 2) := by decide +kernel
theorem dX12_most_101 : decode cX12_most 101 = .ok (.invokevirtual 660, 3) := by decide +kernel
theorem dX12_most_104 : decode cX12_most 104 = .ok (.ireturn, 1) := by decide +kernel
theorem dX12_most_105 : decode cX12_most 105 = .ok (.aload_n 0, 1) := by decide +kernel
theorem dX12_most_106 : decode cX12_most 106 = .ok (.getfield 358, 3) := by decide +kernel
theorem dX12_most_109 : decode cX12_most 109 = .ok (.iconst (-1), 1) := by decide +kernel
theorem dX12_most_110 : decode cX12_most 110 = .ok (.if_icmp .ne 7, 3) := by decide +kernel
theorem dX12_most_113 : decode cX12_most 113 = .ok (.iconst (-1), 1) := by decide +kernel
theorem dX12_most_114 : decode cX12_most 114 = .ok (.goto 9, 3) := by decide +kernel
theorem dX12_most_117 : decode cX12_most 117 = .ok (.aload_n 0, 1) := by decide +kernel
theorem dX12_most_118 : decode cX12_most 118 = .ok (.bipush 7, 2) := by decide +kernel
theorem dX12_most_120 : decode cX12_most 120 = .ok (.invokevirtual 660, 3) := by decide +kernel
theorem dX12_most_123 : decode cX12_most 123 = .ok (.ireturn, 1) := by decide +kernel
theorem dX12_most_124 : decode cX12_most 124 = .ok (.aload_n 0, 1) := by decide +kernel
theorem dX12_most_125 : decode cX12_most 125 = .ok (.invokevirtual 663, 3) := by decide +kernel
theorem dX12_most_128 : decode cX12_most 128 = .ok (.ireturn, 1) := by decide +kernel
theorem dX12_most_129 : decode cX12_most 129 = .ok (.aload_n 0, 1) := by decide +kernel
theorem dX12_most_130 : decode cX12_most 130 = .ok (.invokevirtual 666, 3) := by decide +kernel
theorem dX12_most_133 : decode cX12_most 133 = .ok (.ireturn, 1) := by decide +kernel
theorem dX12_most_134 : decode cX12_most 134 = .ok (.aload_n 0, 1) := by decide +kernel
theorem dX12_most_135 : decode cX12_most 135 = .ok (.invokevirtual 669, 3) := by decide +kernel
theorem dX12_most_138 : decode cX12_most 138 = .ok (.ireturn, 1) := by decide +kernel
theorem dX12_most_139 : decode cX12_most 139 = .ok (.aload_n 0, 1) := by decide +kernel
theorem dX12_most_140 : decode cX12_most 140 = .ok (.invokevirtual 672, 3) := by decide +kernel
theorem dX12_most_143 : decode cX12_most 143 = .ok (.ireturn, 1) := by decide +kernel
theorem dX12_most_144 : decode cX12_most 144 = .ok (.ldc_w 614, 3) := by decide +kernel
theorem dX12_most_147 : decode cX12_most 147 = .ok (.ireturn, 1) := by decide +kernel
theorem dX12_begins_0 : decode cX12_begins 0 = .ok (.iconst 0, 1) := by decide +kernel
theorem dX12_begins_1 : decode cX12_begins 1 = .ok (.istore 5, 2) := by decide +kernel
theorem dX12_begins_3 : decode cX12_begins 3 = .ok (.iload 5, 2) := by decide +kernel
theorem dX12_begins_5 : decode cX12_begins 5 = .ok (.bipush 6, 2) := by decide +kernel
theorem dX12_begins_7 : decode cX12_begins 7 = .ok (.if_icmp .ge 36, 3) := by decide +kernel
theorem dX12_begins_10 : decode cX12_begins 10 = .ok (.aload_n 0, 1) := by decide +kernel
theorem dX12_begins_11 : decode cX12_begins 11 = .ok (.getfield 154, 3) := by decide +kernel
theorem dX12_begins_14 : decode cX12_begins 14 = .ok (.iload 5, 2) := by decide +kernel
theorem dX12_begins_16 : decode cX12_begins 16 = .ok (.iload 5, 2) := by decide +kernel
theorem dX12_begins_18 : decode cX12_begins 18 = .ok (.ifCond .ne 7, 3) := by decide +kernel
theorem dX12_begins_21 : decode cX12_begins 21 = .ok (.iload_n 1, 1) := by decide +kernel
theorem dX12_begins_22 : decode cX12_begins 22 = .ok (.goto 14, 3) := by decide +kernel
theorem dX12_begins_25 : decode cX12_begins 25 = .ok (.iload 5, 2) := by decide +kernel
theorem dX12_begins_27 : decode cX12_begins 27 = .ok (.iconst 1, 1) := by decide +kernel
theorem dX12_begins_28 : decode cX12_begins 28 = .ok (.if_icmp .ne 7, 3) := by decide +kernel
theorem dX12_begins_31 : decode cX12_begins 31 = .ok (.iload_n 2, 1) := by decide +kernel
theorem dX12_begins_32 : decode cX12_begins 32 = .ok (.goto 4, 3) := by decide +kernel
theorem dX12_begins_35 : decode cX12_begins 35 = .ok (.iconst 0, 1) := by decide +kernel
theorem dX12_begins_36 : decode cX12_begins 36 = .ok (.iastore, 1) := by decide +kernel
theorem dX12_begins_37 : decode cX12_begins 37 = .ok (.iinc 5 1, 3) := by decide +kernel
theorem dX12_begins_40 : decode cX12_begins 40 = .ok (.goto (-37), 3) := by decide +kernel
theorem dX12_begins_43 : decode cX12_begins 43 = .ok (.aload_n 0, 1) := by decide +kernel
theorem dX12_begins_44 : decode cX12_begins 44 = .ok (.iconst 0, 1) := by decide +kernel
theorem dX12_begins_45 : decode cX12_begins 45 = .ok (.putfield 675, 3) := by decide +kernel
theorem dX12_begins_48 : decode cX12_begins 48 = .ok (.aload_n 0, 1) := by decide +kernel
theorem dX12_begins_49 : decode cX12_begins 49 = .ok (.iconst 0, 1) := by decide +kernel
theorem dX12_begins_50 : decode cX12_begins 50 = .ok (.putfield 678, 3) := by decide +kernel
theorem dX12_begins_53 : decode cX12_begins 53 = .ok (.aload_n 0, 1) := by decide +kernel
theorem dX12_begins_54 : decode cX12_begins 54 = .ok (.iconst 0, 1) := by decide +kernel
theorem dX12_begins_55 : decode cX12_begins 55 = .ok (.putfield 681, 3) := by decide +kernel
theorem dX12_begins_58 : decode cX12_begins 58 = .ok (.aload_n 0, 1) := by decide +kernel
theorem dX12_begins_59 : decode cX12_begins 59 = .ok (.iconst (-1), 1) := by decide +kernel
theorem dX12_begins_60 : decode cX12_begins 60 = .ok (.putfield 684, 3) := by decide +kernel
theorem dX12_begins_63 : decode cX12_begins 63 = .ok (.aload_n 0, 1) := by decide +kernel
theorem dX12_begins_64 : decode cX12_begins 64 = .ok (.iconst 0, 1) := by decide +kernel
theorem dX12_begins_65 : decode cX12_begins 65 = .ok (.putfield 687, 3) := by decide +kernel
theorem dX12_begins_68 : decode cX12_begins 68 = .ok (.aload_n 0, 1) := by decide +kernel
theorem dX12_begins_69 : decode cX12_begins 69 = .ok (.iload_n 3, 1) := by decide +kernel
theorem dX12_begins_70 : decode cX12_begins 70 = .ok (.putfield 690, 3) := by decide +kernel
theorem dX12_begins_73 : decode cX12_begins 73 = .ok (.aload_n 0, 1) := by decide +kernel
theorem dX12_begins_74 : decode cX12_begins 74 = .ok (.iload 4, 2) := by decide +kernel
theorem dX12_begins_76 : decode cX12_begins 76 = .ok (.putfield 693, 3) := by decide +kernel
theorem dX12_begins_79 : decode cX12_begins 79 = .ok (.return_, 1) := by decide +kernel
theorem dX12_input_0 : decode cX12_input 0 = .ok (.aload_n 0, 1) := by decide +kernel
theorem dX12_input_1 : decode cX12_input 1 = .ok (.aload_n 0, 1) := by decide +kernel
theorem dX12_input_2 : decode cX12_input 2 = .ok (.getfield 690, 3) := by decide +kernel
theorem dX12_input_5 : decode cX12_input 5 = .ok (.ldc_w 696, 3) := by decide +kernel
theorem dX12_input_8 : decode cX12_input 8 = .ok (.imul, 1) := by decide +kernel
theorem dX12_input_9 : decode cX12_input 9 = .ok (.sipush 12345, 3) := by decide +kernel
theorem dX12_input_12 : decode cX12_input 12 = .ok (.iadd, 1) := by decide +kernel
theorem dX12_input_13 : decode cX12_input 13 = .ok (.putfield 690, 3) := by decide +kernel
theorem dX12_input_16 : decode cX12_input 16 = .ok (.aload_n 0, 1) := by decide +kernel
theorem dX12_input_17 : decode cX12_input 17 = .ok (.dup, 1) := by decide +kernel
theorem dX12_input_18 : decode cX12_input 18 = .ok (.getfield 678, 3) := by decide +kernel
theorem dX12_input_21 : decode cX12_input 21 = .ok (.iconst 1, 1) := by decide +kernel
theorem dX12_input_22 : decode cX12_input 22 = .ok (.iadd, 1) := by decide +kernel
theorem dX12_input_23 : decode cX12_input 23 = .ok (.putfield 678, 3) := by decide +kernel
theorem dX12_input_26 : decode cX12_input 26 = .ok (.aload_n 0, 1) := by decide +kernel
theorem dX12_input_27 : decode cX12_input 27 = .ok (.getfield 690, 3) := by decide +kernel
theorem dX12_input_30 : decode cX12_input 30 = .ok (.bipush 16, 2) := by decide +kernel
theorem dX12_input_32 : decode cX12_input 32 = .ok (.iushr, 1) := by decide +kernel
theorem dX12_input_33 : decode cX12_input 33 = .ok (.sipush 32767, 3) := by decide +kernel
theorem dX12_input_36 : decode cX12_input 36 = .ok (.iand, 1) := by decide +kernel
theorem dX12_input_37 : decode cX12_input 37 = .ok (.iconst 5, 1) := by decide +kernel
theorem dX12_input_38 : decode cX12_input 38 = .ok (.irem, 1) := by decide +kernel
theorem dX12_input_39 : decode cX12_input 39 = .ok (.ireturn, 1) := by decide +kernel
theorem dX12_outputs_0 : decode cX12_outputs 0 = .ok (.aload_n 0, 1) := by decide +kernel
theorem dX12_outputs_1 : decode cX12_outputs 1 = .ok (.getfield 157, 3) := by decide +kernel
theorem dX12_outputs_4 : decode cX12_outputs 4 = .ok (.aload_n 0, 1) := by decide +kernel
theorem dX12_outputs_5 : decode cX12_outputs 5 = .ok (.getfield 675, 3) := by decide +kernel
theorem dX12_outputs_8 : decode cX12_outputs 8 = .ok (.iload_n 1, 1) := by decide +kernel
theorem dX12_outputs_9 : decode cX12_outputs 9 = .ok (.iastore, 1) := by decide +kernel
theorem dX12_outputs_10 : decode cX12_outputs 10 = .ok (.aload_n 0, 1) := by decide +kernel
