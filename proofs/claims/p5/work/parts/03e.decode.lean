theorem dX12_isText_21 : decode cX12_isText 21 = .ok (.iconst (-1), 1) := by decide +kernel
theorem dX12_isText_22 : decode cX12_isText 22 = .ok (.if_icmp .eq 27, 3) := by decide +kernel
theorem dX12_isText_25 : decode cX12_isText 25 = .ok (.iload_n 1, 1) := by decide +kernel
theorem dX12_isText_26 : decode cX12_isText 26 = .ok (.bipush 104, 2) := by decide +kernel
theorem dX12_isText_28 : decode cX12_isText 28 = .ok (.if_icmp .eq 21, 3) := by decide +kernel
theorem dX12_isText_31 : decode cX12_isText 31 = .ok (.aload_n 0, 1) := by decide +kernel
theorem dX12_isText_32 : decode cX12_isText 32 = .ok (.iload_n 1, 1) := by decide +kernel
theorem dX12_isText_33 : decode cX12_isText 33 = .ok (.invokevirtual 236, 3) := by decide +kernel
theorem dX12_isText_36 : decode cX12_isText 36 = .ok (.ifCond .ne 5, 3) := by decide +kernel
theorem dX12_isText_39 : decode cX12_isText 39 = .ok (.iconst 0, 1) := by decide +kernel
theorem dX12_isText_40 : decode cX12_isText 40 = .ok (.ireturn, 1) := by decide +kernel
theorem dX12_isText_41 : decode cX12_isText 41 = .ok (.aload_n 0, 1) := by decide +kernel
theorem dX12_isText_42 : decode cX12_isText 42 = .ok (.invokevirtual 195, 3) := by decide +kernel
theorem dX12_isText_45 : decode cX12_isText 45 = .ok (.istore_n 1, 1) := by decide +kernel
theorem dX12_isText_46 : decode cX12_isText 46 = .ok (.goto (-26), 3) := by decide +kernel
theorem dX12_isText_49 : decode cX12_isText 49 = .ok (.aload_n 0, 1) := by decide +kernel
theorem dX12_isText_50 : decode cX12_isText 50 = .ok (.getfield 216, 3) := by decide +kernel
theorem dX12_isText_53 : decode cX12_isText 53 = .ok (.ifCond .ne 5, 3) := by decide +kernel
theorem dX12_isText_56 : decode cX12_isText 56 = .ok (.iconst 0, 1) := by decide +kernel
theorem dX12_isText_57 : decode cX12_isText 57 = .ok (.ireturn, 1) := by decide +kernel
theorem dX12_isText_58 : decode cX12_isText 58 = .ok (.iload_n 1, 1) := by decide +kernel
theorem dX12_isText_59 : decode cX12_isText 59 = .ok (.bipush 104, 2) := by decide +kernel
theorem dX12_isText_61 : decode cX12_isText 61 = .ok (.if_icmp .ne 20, 3) := by decide +kernel
theorem dX12_isText_64 : decode cX12_isText 64 = .ok (.aload_n 0, 1) := by decide +kernel
theorem dX12_isText_65 : decode cX12_isText 65 = .ok (.invokevirtual 239, 3) := by decide +kernel
theorem dX12_isText_68 : decode cX12_isText 68 = .ok (.ifCond .ne 5, 3) := by decide +kernel
theorem dX12_isText_71 : decode cX12_isText 71 = .ok (.iconst 0, 1) := by decide +kernel
theorem dX12_isText_72 : decode cX12_isText 72 = .ok (.ireturn, 1) := by decide +kernel
theorem dX12_isText_73 : decode cX12_isText 73 = .ok (.aload_n 0, 1) := by decide +kernel
theorem dX12_isText_74 : decode cX12_isText 74 = .ok (.invokevirtual 195, 3) := by decide +kernel
theorem dX12_isText_77 : decode cX12_isText 77 = .ok (.istore_n 1, 1) := by decide +kernel
theorem dX12_isText_78 : decode cX12_isText 78 = .ok (.goto (-20), 3) := by decide +kernel
theorem dX12_isText_81 : decode cX12_isText 81 = .ok (.iload_n 1, 1) := by decide +kernel
theorem dX12_isText_82 : decode cX12_isText 82 = .ok (.iconst (-1), 1) := by decide +kernel
theorem dX12_isText_83 : decode cX12_isText 83 = .ok (.if_icmp .ne 7, 3) := by decide +kernel
theorem dX12_isText_86 : decode cX12_isText 86 = .ok (.iconst 1, 1) := by decide +kernel
theorem dX12_isText_87 : decode cX12_isText 87 = .ok (.goto 4, 3) := by decide +kernel
theorem dX12_isText_90 : decode cX12_isText 90 = .ok (.iconst 0, 1) := by decide +kernel
theorem dX12_isText_91 : decode cX12_isText 91 = .ok (.ireturn, 1) := by decide +kernel
theorem dX12_fault_0 : decode cX12_fault 0 = .ok (.aload_n 0, 1) := by decide +kernel
theorem dX12_fault_1 : decode cX12_fault 1 = .ok (.iconst 0, 1) := by decide +kernel
theorem dX12_fault_2 : decode cX12_fault 2 = .ok (.putfield 169, 3) := by decide +kernel
theorem dX12_fault_5 : decode cX12_fault 5 = .ok (.aload_n 0, 1) := by decide +kernel
theorem dX12_fault_6 : decode cX12_fault 6 = .ok (.invokevirtual 241, 3) := by decide +kernel
theorem dX12_fault_9 : decode cX12_fault 9 = .ok (.ifCond .eq 7, 3) := by decide +kernel
theorem dX12_fault_12 : decode cX12_fault 12 = .ok (.iconst (-1), 1) := by decide +kernel
theorem dX12_fault_13 : decode cX12_fault 13 = .ok (.goto 7, 3) := by decide +kernel
theorem dX12_fault_16 : decode cX12_fault 16 = .ok (.aload_n 0, 1) := by decide +kernel
theorem dX12_fault_17 : decode cX12_fault 17 = .ok (.getfield 188, 3) := by decide +kernel
theorem dX12_fault_20 : decode cX12_fault 20 = .ok (.ireturn, 1) := by decide +kernel
theorem dX12_pops_0 : decode cX12_pops 0 = .ok (.iload_n 0, 1) := by decide +kernel
theorem dX12_pops_1 : decode cX12_pops 1 = .ok (.ldc 244, 2) := by decide +kernel
theorem dX12_pops_3 : decode cX12_pops 3 = .ok (.invokestatic 204, 3) := by decide +kernel
theorem dX12_pops_6 : decode cX12_pops 6 = .ok (.ifCond .eq 5, 3) := by decide +kernel
theorem dX12_pops_9 : decode cX12_pops 9 = .ok (.iconst 2, 1) := by decide +kernel
theorem dX12_pops_10 : decode cX12_pops 10 = .ok (.ireturn, 1) := by decide +kernel
theorem dX12_pops_11 : decode cX12_pops 11 = .ok (.iload_n 0, 1) := by decide +kernel
theorem dX12_pops_12 : decode cX12_pops 12 = .ok (.ldc 246, 2) := by decide +kernel
theorem dX12_pops_14 : decode cX12_pops 14 = .ok (.invokestatic 204, 3) := by decide +kernel
theorem dX12_pops_17 : decode cX12_pops 17 = .ok (.ifCond .eq 7, 3) := by decide +kernel
theorem dX12_pops_20 : decode cX12_pops 20 = .ok (.iconst 1, 1) := by decide +kernel
theorem dX12_pops_21 : decode cX12_pops 21 = .ok (.goto 4, 3) := by decide +kernel
theorem dX12_pops_24 : decode cX12_pops 24 = .ok (.iconst 0, 1) := by decide +kernel
theorem dX12_pops_25 : decode cX12_pops 25 = .ok (.ireturn, 1) := by decide +kernel
theorem dX12_pushes_0 : decode cX12_pushes 0 = .ok (.iload_n 0, 1) := by decide +kernel
theorem dX12_pushes_1 : decode cX12_pushes 1 = .ok (.bipush 100, 2) := by decide +kernel
theorem dX12_pushes_3 : decode cX12_pushes 3 = .ok (.if_icmp .eq 9, 3) := by decide +kernel
theorem dX12_pushes_6 : decode cX12_pushes 6 = .ok (.iload_n 0, 1) := by decide +kernel
theorem dX12_pushes_7 : decode cX12_pushes 7 = .ok (.bipush 119, 2) := by decide +kernel
theorem dX12_pushes_9 : decode cX12_pushes 9 = .ok (.if_icmp .ne 5, 3) := by decide +kernel
theorem dX12_pushes_12 : decode cX12_pushes 12 = .ok (.iconst 2, 1) := by decide +kernel
theorem dX12_pushes_13 : decode cX12_pushes 13 = .ok (.ireturn, 1) := by decide +kernel
theorem dX12_pushes_14 : decode cX12_pushes 14 = .ok (.iload_n 0, 1) := by decide +kernel
theorem dX12_pushes_15 : decode cX12_pushes 15 = .ok (.ldc 248, 2) := by decide +kernel
theorem dX12_pushes_17 : decode cX12_pushes 17 = .ok (.invokestatic 204, 3) := by decide +kernel
theorem dX12_pushes_20 : decode cX12_pushes 20 = .ok (.ifCond .eq 7, 3) := by decide +kernel
theorem dX12_pushes_23 : decode cX12_pushes 23 = .ok (.iconst 1, 1) := by decide +kernel
theorem dX12_pushes_24 : decode cX12_pushes 24 = .ok (.goto 4, 3) := by decide +kernel
theorem dX12_pushes_27 : decode cX12_pushes 27 = .ok (.iconst 0, 1) := by decide +kernel
theorem dX12_pushes_28 : decode cX12_pushes 28 = .ok (.ireturn, 1) := by decide +kernel
theorem dX12_canThrow_0 : decode cX12_canThrow 0 = .ok (.iload_n 0, 1) := by decide +kernel
theorem dX12_canThrow_1 : decode cX12_canThrow 1 = .ok (.ldc 250, 2) := by decide +kernel
theorem dX12_canThrow_3 : decode cX12_canThrow 3 = .ok (.invokestatic 204, 3) := by decide +kernel
theorem dX12_canThrow_6 : decode cX12_canThrow 6 = .ok (.ireturn, 1) := by decide +kernel
theorem dX12_goesOn_0 : decode cX12_goesOn 0 = .ok (.iload_n 0, 1) := by decide +kernel
theorem dX12_goesOn_1 : decode cX12_goesOn 1 = .ok (.ldc 252, 2) := by decide +kernel
theorem dX12_goesOn_3 : decode cX12_goesOn 3 = .ok (.invokestatic 204, 3) := by decide +kernel
theorem dX12_goesOn_6 : decode cX12_goesOn 6 = .ok (.ifCond .ne 7, 3) := by decide +kernel
theorem dX12_goesOn_9 : decode cX12_goesOn 9 = .ok (.iconst 1, 1) := by decide +kernel
theorem dX12_goesOn_10 : decode cX12_goesOn 10 = .ok (.goto 4, 3) := by decide +kernel
theorem dX12_goesOn_13 : decode cX12_goesOn 13 = .ok (.iconst 0, 1) := by decide +kernel
theorem dX12_goesOn_14 : decode cX12_goesOn 14 = .ok (.ireturn, 1) := by decide +kernel
theorem dX12_goesTo_0 : decode cX12_goesTo 0 = .ok (.iload_n 0, 1) := by decide +kernel
theorem dX12_goesTo_1 : decode cX12_goesTo 1 = .ok (.bipush 103, 2) := by decide +kernel
theorem dX12_goesTo_3 : decode cX12_goesTo 3 = .ok (.if_icmp .eq 9, 3) := by decide +kernel
theorem dX12_goesTo_6 : decode cX12_goesTo 6 = .ok (.iload_n 0, 1) := by decide +kernel
theorem dX12_goesTo_7 : decode cX12_goesTo 7 = .ok (.bipush 122, 2) := by decide +kernel
theorem dX12_goesTo_9 : decode cX12_goesTo 9 = .ok (.if_icmp .ne 7, 3) := by decide +kernel
theorem dX12_goesTo_12 : decode cX12_goesTo 12 = .ok (.iconst 1, 1) := by decide +kernel
theorem dX12_goesTo_13 : decode cX12_goesTo 13 = .ok (.goto 4, 3) := by decide +kernel
theorem dX12_goesTo_16 : decode cX12_goesTo 16 = .ok (.iconst 0, 1) := by decide +kernel
theorem dX12_goesTo_17 : decode cX12_goesTo 17 = .ok (.ireturn, 1) := by decide +kernel
theorem dX12_handlerOf_0 : decode cX12_handlerOf 0 = .ok (.iconst 0, 1) := by decide +kernel
theorem dX12_handlerOf_1 : decode cX12_handlerOf 1 = .ok (.istore_n 3, 1) := by decide +kernel
theorem dX12_handlerOf_2 : decode cX12_handlerOf 2 = .ok (.iload_n 3, 1) := by decide +kernel
theorem dX12_handlerOf_3 : decode cX12_handlerOf 3 = .ok (.iload_n 1, 1) := by decide +kernel
theorem dX12_handlerOf_4 : decode cX12_handlerOf 4 = .ok (.if_icmp .ge 31, 3) := by decide +kernel
theorem dX12_handlerOf_7 : decode cX12_handlerOf 7 = .ok (.iload_n 2, 1) := by decide +kernel
theorem dX12_handlerOf_8 : decode cX12_handlerOf 8 = .ok (.aload_n 0, 1) := by decide +kernel
theorem dX12_handlerOf_9 : decode cX12_handlerOf 9 = .ok (.iconst 3, 1) := by decide +kernel
theorem dX12_handlerOf_10 : decode cX12_handlerOf 10 = .ok (.iload_n 3, 1) := by decide +kernel
theorem dX12_handlerOf_11 : decode cX12_handlerOf 11 = .ok (.imul, 1) := by decide +kernel
theorem dX12_handlerOf_12 : decode cX12_handlerOf 12 = .ok (.iaload, 1) := by decide +kernel
theorem dX12_handlerOf_13 : decode cX12_handlerOf 13 = .ok (.if_icmp .lt 16, 3) := by decide +kernel
theorem dX12_handlerOf_16 : decode cX12_handlerOf 16 = .ok (.iload_n 2, 1) := by decide +kernel
theorem dX12_handlerOf_17 : decode cX12_handlerOf 17 = .ok (.aload_n 0, 1) := by decide +kernel
theorem dX12_handlerOf_18 : decode cX12_handlerOf 18 = .ok (.iconst 3, 1) := by decide +kernel
theorem dX12_handlerOf_19 : decode cX12_handlerOf 19 = .ok (.iload_n 3, 1) := by decide +kernel
theorem dX12_handlerOf_20 : decode cX12_handlerOf 20 = .ok (.imul, 1) := by decide +kernel
theorem dX12_handlerOf_21 : decode cX12_handlerOf 21 = .ok (.iconst 1, 1) := by decide +kernel
theorem dX12_handlerOf_22 : decode cX12_handlerOf 22 = .ok (.iadd, 1) := by decide +kernel
theorem dX12_handlerOf_23 : decode cX12_handlerOf 23 = .ok (.iaload, 1) := by decide +kernel
theorem dX12_handlerOf_24 : decode cX12_handlerOf 24 = .ok (.if_icmp .ge 5, 3) := by decide +kernel
theorem dX12_handlerOf_27 : decode cX12_handlerOf 27 = .ok (.iload_n 3, 1) := by decide +kernel
theorem dX12_handlerOf_28 : decode cX12_handlerOf 28 = .ok (.ireturn, 1) := by decide +kernel
theorem dX12_handlerOf_29 : decode cX12_handlerOf 29 = .ok (.iinc 3 1, 3) := by decide +kernel
theorem dX12_handlerOf_32 : decode cX12_handlerOf 32 = .ok (.goto (-30), 3) := by decide +kernel
theorem dX12_handlerOf_35 : decode cX12_handlerOf 35 = .ok (.iconst (-1), 1) := by decide +kernel
theorem dX12_handlerOf_36 : decode cX12_handlerOf 36 = .ok (.ireturn, 1) := by decide +kernel
theorem dX12_wrong_0 : decode cX12_wrong 0 = .ok (.iconst 0, 1) := by decide +kernel
theorem dX12_wrong_1 : decode cX12_wrong 1 = .ok (.istore_n 1, 1) := by decide +kernel
theorem dX12_wrong_2 : decode cX12_wrong 2 = .ok (.iload_n 1, 1) := by decide +kernel
theorem dX12_wrong_3 : decode cX12_wrong 3 = .ok (.aload_n 0, 1) := by decide +kernel
theorem dX12_wrong_4 : decode cX12_wrong 4 = .ok (.getfield 254, 3) := by decide +kernel
theorem dX12_wrong_7 : decode cX12_wrong 7 = .ok (.if_icmp .ge 37, 3) := by decide +kernel
theorem dX12_wrong_10 : decode cX12_wrong 10 = .ok (.aload_n 0, 1) := by decide +kernel
theorem dX12_wrong_11 : decode cX12_wrong 11 = .ok (.getfield 32, 3) := by decide +kernel
theorem dX12_wrong_14 : decode cX12_wrong 14 = .ok (.iload_n 1, 1) := by decide +kernel
theorem dX12_wrong_15 : decode cX12_wrong 15 = .ok (.iaload, 1) := by decide +kernel
theorem dX12_wrong_16 : decode cX12_wrong 16 = .ok (.invokestatic 257, 3) := by decide +kernel
theorem dX12_wrong_19 : decode cX12_wrong 19 = .ok (.ifCond .eq 19, 3) := by decide +kernel
theorem dX12_wrong_22 : decode cX12_wrong 22 = .ok (.aload_n 0, 1) := by decide +kernel
theorem dX12_wrong_23 : decode cX12_wrong 23 = .ok (.getfield 35, 3) := by decide +kernel
theorem dX12_wrong_26 : decode cX12_wrong 26 = .ok (.iload_n 1, 1) := by decide +kernel
theorem dX12_wrong_27 : decode cX12_wrong 27 = .ok (.iaload, 1) := by decide +kernel
theorem dX12_wrong_28 : decode cX12_wrong 28 = .ok (.aload_n 0, 1) := by decide +kernel
theorem dX12_wrong_29 : decode cX12_wrong 29 = .ok (.getfield 254, 3) := by decide +kernel
theorem dX12_wrong_32 : decode cX12_wrong 32 = .ok (.if_icmp .lt 6, 3) := by decide +kernel
theorem dX12_wrong_35 : decode cX12_wrong 35 = .ok (.bipush (-2), 2) := by decide +kernel
theorem dX12_wrong_37 : decode cX12_wrong 37 = .ok (.ireturn, 1) := by decide +kernel
theorem dX12_wrong_38 : decode cX12_wrong 38 = .ok (.iinc 1 1, 3) := by decide +kernel
theorem dX12_wrong_41 : decode cX12_wrong 41 = .ok (.goto (-39), 3) := by decide +kernel
theorem dX12_wrong_44 : decode cX12_wrong 44 = .ok (.iconst 0, 1) := by decide +kernel
theorem dX12_wrong_45 : decode cX12_wrong 45 = .ok (.istore_n 1, 1) := by decide +kernel
theorem dX12_wrong_46 : decode cX12_wrong 46 = .ok (.iload_n 1, 1) := by decide +kernel
theorem dX12_wrong_47 : decode cX12_wrong 47 = .ok (.aload_n 0, 1) := by decide +kernel
theorem dX12_wrong_48 : decode cX12_wrong 48 = .ok (.getfield 260, 3) := by decide +kernel
theorem dX12_wrong_51 : decode cX12_wrong 51 = .ok (.if_icmp .ge 67, 3) := by decide +kernel
theorem dX12_wrong_54 : decode cX12_wrong 54 = .ok (.aload_n 0, 1) := by decide +kernel
theorem dX12_wrong_55 : decode cX12_wrong 55 = .ok (.getfield 38, 3) := by decide +kernel
theorem dX12_wrong_58 : decode cX12_wrong 58 = .ok (.iconst 3, 1) := by decide +kernel
theorem dX12_wrong_59 : decode cX12_wrong 59 = .ok (.iload_n 1, 1) := by decide +kernel
theorem dX12_wrong_60 : decode cX12_wrong 60 = .ok (.imul, 1) := by decide +kernel
theorem dX12_wrong_61 : decode cX12_wrong 61 = .ok (.iaload, 1) := by decide +kernel
theorem dX12_wrong_62 : decode cX12_wrong 62 = .ok (.aload_n 0, 1) := by decide +kernel
theorem dX12_wrong_63 : decode cX12_wrong 63 = .ok (.getfield 38, 3) := by decide +kernel
theorem dX12_wrong_66 : decode cX12_wrong 66 = .ok (.iconst 3, 1) := by decide +kernel
theorem dX12_wrong_67 : decode cX12_wrong 67 = .ok (.iload_n 1, 1) := by decide +kernel
theorem dX12_wrong_68 : decode cX12_wrong 68 = .ok (.imul, 1) := by decide +kernel
theorem dX12_wrong_69 : decode cX12_wrong 69 = .ok (.iconst 1, 1) := by decide +kernel
theorem dX12_wrong_70 : decode cX12_wrong 70 = .ok (.iadd, 1) := by decide +kernel
theorem dX12_wrong_71 : decode cX12_wrong 71 = .ok (.iaload, 1) := by decide +kernel
theorem dX12_wrong_72 : decode cX12_wrong 72 = .ok (.if_icmp .ge 37, 3) := by decide +kernel
theorem dX12_wrong_75 : decode cX12_wrong 75 = .ok (.aload_n 0, 1) := by decide +kernel
theorem dX12_wrong_76 : decode cX12_wrong 76 = .ok (.getfield 38, 3) := by decide +kernel
theorem dX12_wrong_79 : decode cX12_wrong 79 = .ok (.iconst 3, 1) := by decide +kernel
theorem dX12_wrong_80 : decode cX12_wrong 80 = .ok (.iload_n 1, 1) := by decide +kernel
theorem dX12_wrong_81 : decode cX12_wrong 81 = .ok (.imul, 1) := by decide +kernel
theorem dX12_wrong_82 : decode cX12_wrong 82 = .ok (.iconst 1, 1) := by decide +kernel
theorem dX12_wrong_83 : decode cX12_wrong 83 = .ok (.iadd, 1) := by decide +kernel
theorem dX12_wrong_84 : decode cX12_wrong 84 = .ok (.iaload, 1) := by decide +kernel
theorem dX12_wrong_85 : decode cX12_wrong 85 = .ok (.aload_n 0, 1) := by decide +kernel
theorem dX12_wrong_86 : decode cX12_wrong 86 = .ok (.getfield 254, 3) := by decide +kernel
theorem dX12_wrong_89 : decode cX12_wrong 89 = .ok (.if_icmp .gt 20, 3) := by decide +kernel
theorem dX12_wrong_92 : decode cX12_wrong 92 = .ok (.aload_n 0, 1) := by decide +kernel
theorem dX12_wrong_93 : decode cX12_wrong 93 = .ok (.getfield 38, 3) := by decide +kernel
theorem dX12_wrong_96 : decode cX12_wrong 96 = .ok (.iconst 3, 1) := by decide +kernel
theorem dX12_wrong_97 : decode cX12_wrong 97 = .ok (.iload_n 1, 1) := by decide +kernel
theorem dX12_wrong_98 : decode cX12_wrong 98 = .ok (.imul, 1) := by decide +kernel
theorem dX12_wrong_99 : decode cX12_wrong 99 = .ok (.iconst 2, 1) := by decide +kernel
theorem dX12_wrong_100 : decode cX12_wrong 100 = .ok (.iadd, 1) := by decide +kernel
theorem dX12_wrong_101 : decode cX12_wrong 101 = .ok (.iaload, 1) := by decide +kernel
theorem dX12_wrong_102 : decode cX12_wrong 102 = .ok (.aload_n 0, 1) := by decide +kernel
theorem dX12_wrong_103 : decode cX12_wrong 103 = .ok (.getfield 254, 3) := by decide +kernel
theorem dX12_wrong_106 : decode cX12_wrong 106 = .ok (.if_icmp .lt 6, 3) := by decide +kernel
theorem dX12_wrong_109 : decode cX12_wrong 109 = .ok (.bipush (-2), 2) := by decide +kernel
theorem dX12_wrong_111 : decode cX12_wrong 111 = .ok (.ireturn, 1) := by decide +kernel
theorem dX12_wrong_112 : decode cX12_wrong 112 = .ok (.iinc 1 1, 3) := by decide +kernel
theorem dX12_wrong_115 : decode cX12_wrong 115 = .ok (.goto (-69), 3) := by decide +kernel
theorem dX12_wrong_118 : decode cX12_wrong 118 = .ok (.iconst 0, 1) := by decide +kernel
theorem dX12_wrong_119 : decode cX12_wrong 119 = .ok (.istore_n 1, 1) := by decide +kernel
theorem dX12_wrong_120 : decode cX12_wrong 120 = .ok (.iload_n 1, 1) := by decide +kernel
theorem dX12_wrong_121 : decode cX12_wrong 121 = .ok (.bipush 40, 2) := by decide +kernel
theorem dX12_wrong_123 : decode cX12_wrong 123 = .ok (.if_icmp .ge 16, 3) := by decide +kernel
theorem dX12_wrong_126 : decode cX12_wrong 126 = .ok (.aload_n 0, 1) := by decide +kernel
theorem dX12_wrong_127 : decode cX12_wrong 127 = .ok (.getfield 41, 3) := by decide +kernel
theorem dX12_wrong_130 : decode cX12_wrong 130 = .ok (.iload_n 1, 1) := by decide +kernel
theorem dX12_wrong_131 : decode cX12_wrong 131 = .ok (.iconst (-1), 1) := by decide +kernel
theorem dX12_wrong_132 : decode cX12_wrong 132 = .ok (.iastore, 1) := by decide +kernel
theorem dX12_wrong_133 : decode cX12_wrong 133 = .ok (.iinc 1 1, 3) := by decide +kernel
theorem dX12_wrong_136 : decode cX12_wrong 136 = .ok (.goto (-16), 3) := by decide +kernel
theorem dX12_wrong_139 : decode cX12_wrong 139 = .ok (.aload_n 0, 1) := by decide +kernel
theorem dX12_wrong_140 : decode cX12_wrong 140 = .ok (.getfield 41, 3) := by decide +kernel
theorem dX12_wrong_143 : decode cX12_wrong 143 = .ok (.iconst 0, 1) := by decide +kernel
theorem dX12_wrong_144 : decode cX12_wrong 144 = .ok (.iconst 0, 1) := by decide +kernel
theorem dX12_wrong_145 : decode cX12_wrong 145 = .ok (.iastore, 1) := by decide +kernel
theorem dX12_wrong_146 : decode cX12_wrong 146 = .ok (.lconst 0, 1) := by decide +kernel
theorem dX12_wrong_147 : decode cX12_wrong 147 = .ok (.lstore_n 1, 1) := by decide +kernel
theorem dX12_wrong_148 : decode cX12_wrong 148 = .ok (.iconst 0, 1) := by decide +kernel
theorem dX12_wrong_149 : decode cX12_wrong 149 = .ok (.istore_n 3, 1) := by decide +kernel
theorem dX12_wrong_150 : decode cX12_wrong 150 = .ok (.iload_n 3, 1) := by decide +kernel
theorem dX12_wrong_151 : decode cX12_wrong 151 = .ok (.aload_n 0, 1) := by decide +kernel
theorem dX12_wrong_152 : decode cX12_wrong 152 = .ok (.getfield 254, 3) := by decide +kernel
theorem dX12_wrong_155 : decode cX12_wrong 155 = .ok (.if_icmp .ge 27, 3) := by decide +kernel
theorem dX12_wrong_158 : decode cX12_wrong 158 = .ok (.aload_n 0, 1) := by decide +kernel
theorem dX12_wrong_159 : decode cX12_wrong 159 = .ok (.getfield 41, 3) := by decide +kernel
theorem dX12_wrong_162 : decode cX12_wrong 162 = .ok (.iload_n 3, 1) := by decide +kernel
theorem dX12_wrong_163 : decode cX12_wrong 163 = .ok (.iaload, 1) := by decide +kernel
theorem dX12_wrong_164 : decode cX12_wrong 164 = .ok (.iconst (-1), 1) := by decide +kernel
theorem dX12_wrong_165 : decode cX12_wrong 165 = .ok (.if_icmp .eq 11, 3) := by decide +kernel
theorem dX12_wrong_168 : decode cX12_wrong 168 = .ok (.lload_n 1, 1) := by decide +kernel
theorem dX12_wrong_169 : decode cX12_wrong 169 = .ok (.iload_n 3, 1) := by decide +kernel
theorem dX12_wrong_170 : decode cX12_wrong 170 = .ok (.invokestatic 173, 3) := by decide +kernel
theorem dX12_wrong_173 : decode cX12_wrong 173 = .ok (.ifCond .eq 9, 3) := by decide +kernel
theorem dX12_wrong_176 : decode cX12_wrong 176 = .ok (.iinc 3 1, 3) := by decide +kernel
theorem dX12_wrong_179 : decode cX12_wrong 179 = .ok (.goto (-29), 3) := by decide +kernel
theorem dX12_wrong_182 : decode cX12_wrong 182 = .ok (.iload_n 3, 1) := by decide +kernel
theorem dX12_wrong_183 : decode cX12_wrong 183 = .ok (.aload_n 0, 1) := by decide +kernel
theorem dX12_wrong_184 : decode cX12_wrong 184 = .ok (.getfield 254, 3) := by decide +kernel
theorem dX12_wrong_187 : decode cX12_wrong 187 = .ok (.if_icmp .ne 5, 3) := by decide +kernel
theorem dX12_wrong_190 : decode cX12_wrong 190 = .ok (.iconst 0, 1) := by decide +kernel
theorem dX12_wrong_191 : decode cX12_wrong 191 = .ok (.ireturn, 1) := by decide +kernel
theorem dX12_wrong_192 : decode cX12_wrong 192 = .ok (.lload_n 1, 1) := by decide +kernel
theorem dX12_wrong_193 : decode cX12_wrong 193 = .ok (.lconst 1, 1) := by decide +kernel
theorem dX12_wrong_194 : decode cX12_wrong 194 = .ok (.iload_n 3, 1) := by decide +kernel
theorem dX12_wrong_195 : decode cX12_wrong 195 = .ok (.lshl, 1) := by decide +kernel
theorem dX12_wrong_196 : decode cX12_wrong 196 = .ok (.lor, 1) := by decide +kernel
theorem dX12_wrong_197 : decode cX12_wrong 197 = .ok (.lstore_n 1, 1) := by decide +kernel
theorem dX12_wrong_198 : decode cX12_wrong 198 = .ok (.aload_n 0, 1) := by decide +kernel
theorem dX12_wrong_199 : decode cX12_wrong 199 = .ok (.iload_n 3, 1) := by decide +kernel
theorem dX12_wrong_200 : decode cX12_wrong 200 = .ok (.invokevirtual 263, 3) := by decide +kernel
theorem dX12_wrong_203 : decode cX12_wrong 203 = .ok (.istore 4, 2) := by decide +kernel
theorem dX12_wrong_205 : decode cX12_wrong 205 = .ok (.iload 4, 2) := by decide +kernel
theorem dX12_wrong_207 : decode cX12_wrong 207 = .ok (.ifCond .ge 6, 3) := by decide +kernel
theorem dX12_wrong_210 : decode cX12_wrong 210 = .ok (.iload 4, 2) := by decide +kernel
theorem dX12_wrong_212 : decode cX12_wrong 212 = .ok (.ireturn, 1) := by decide +kernel
theorem dX12_wrong_213 : decode cX12_wrong 213 = .ok (.goto (-65), 3) := by decide +kernel
theorem dX12_goesThrough_0 : decode cX12_goesThrough 0 = .ok (.aload_n 0, 1) := by decide +kernel
theorem dX12_goesThrough_1 : decode cX12_goesThrough 1 = .ok (.getfield 32, 3) := by decide +kernel
theorem dX12_goesThrough_4 : decode cX12_goesThrough 4 = .ok (.iload_n 1, 1) := by decide +kernel
theorem dX12_goesThrough_5 : decode cX12_goesThrough 5 = .ok (.iaload, 1) := by decide +kernel
theorem dX12_goesThrough_6 : decode cX12_goesThrough 6 = .ok (.istore_n 2, 1) := by decide +kernel
theorem dX12_goesThrough_7 : decode cX12_goesThrough 7 = .ok (.aload_n 0, 1) := by decide +kernel
theorem dX12_goesThrough_8 : decode cX12_goesThrough 8 = .ok (.getfield 41, 3) := by decide +kernel
theorem dX12_goesThrough_11 : decode cX12_goesThrough 11 = .ok (.iload_n 1, 1) := by decide +kernel
theorem dX12_goesThrough_12 : decode cX12_goesThrough 12 = .ok (.iaload, 1) := by decide +kernel
theorem dX12_goesThrough_13 : decode cX12_goesThrough 13 = .ok (.iload_n 2, 1) := by decide +kernel
theorem dX12_goesThrough_14 : decode cX12_goesThrough 14 = .ok (.invokestatic 266, 3) := by decide +kernel
theorem dX12_goesThrough_17 : decode cX12_goesThrough 17 = .ok (.if_icmp .ge 6, 3) := by decide +kernel
theorem dX12_goesThrough_20 : decode cX12_goesThrough 20 = .ok (.bipush (-4), 2) := by decide +kernel
theorem dX12_goesThrough_22 : decode cX12_goesThrough 22 = .ok (.ireturn, 1) := by decide +kernel
theorem dX12_goesThrough_23 : decode cX12_goesThrough 23 = .ok (.aload_n 0, 1) := by decide +kernel
theorem dX12_goesThrough_24 : decode cX12_goesThrough 24 = .ok (.getfield 41, 3) := by decide +kernel
theorem dX12_goesThrough_27 : decode cX12_goesThrough 27 = .ok (.iload_n 1, 1) := by decide +kernel
theorem dX12_goesThrough_28 : decode cX12_goesThrough 28 = .ok (.iaload, 1) := by decide +kernel
theorem dX12_goesThrough_29 : decode cX12_goesThrough 29 = .ok (.iload_n 2, 1) := by decide +kernel
theorem dX12_goesThrough_30 : decode cX12_goesThrough 30 = .ok (.invokestatic 266, 3) := by decide +kernel
theorem dX12_goesThrough_33 : decode cX12_goesThrough 33 = .ok (.isub, 1) := by decide +kernel
theorem dX12_goesThrough_34 : decode cX12_goesThrough 34 = .ok (.iload_n 2, 1) := by decide +kernel
theorem dX12_goesThrough_35 : decode cX12_goesThrough 35 = .ok (.invokestatic 269, 3) := by decide +kernel
theorem dX12_goesThrough_38 : decode cX12_goesThrough 38 = .ok (.iadd, 1) := by decide +kernel
theorem dX12_goesThrough_39 : decode cX12_goesThrough 39 = .ok (.istore_n 3, 1) := by decide +kernel
theorem dX12_goesThrough_40 : decode cX12_goesThrough 40 = .ok (.iload_n 3, 1) := by decide +kernel
theorem dX12_goesThrough_41 : decode cX12_goesThrough 41 = .ok (.bipush 6, 2) := by decide +kernel
theorem dX12_goesThrough_43 : decode cX12_goesThrough 43 = .ok (.if_icmp .le 6, 3) := by decide +kernel
theorem dX12_goesThrough_46 : decode cX12_goesThrough 46 = .ok (.bipush (-5), 2) := by decide +kernel
theorem dX12_goesThrough_48 : decode cX12_goesThrough 48 = .ok (.ireturn, 1) := by decide +kernel
theorem dX12_goesThrough_49 : decode cX12_goesThrough 49 = .ok (.iload_n 2, 1) := by decide +kernel
theorem dX12_goesThrough_50 : decode cX12_goesThrough 50 = .ok (.invokestatic 272, 3) := by decide +kernel
theorem dX12_goesThrough_53 : decode cX12_goesThrough 53 = .ok (.ifCond .eq 30, 3) := by decide +kernel
theorem dX12_goesThrough_56 : decode cX12_goesThrough 56 = .ok (.iload_n 1, 1) := by decide +kernel
theorem dX12_goesThrough_57 : decode cX12_goesThrough 57 = .ok (.iconst 1, 1) := by decide +kernel
theorem dX12_goesThrough_58 : decode cX12_goesThrough 58 = .ok (.iadd, 1) := by decide +kernel
theorem dX12_goesThrough_59 : decode cX12_goesThrough 59 = .ok (.aload_n 0, 1) := by decide +kernel
theorem dX12_goesThrough_60 : decode cX12_goesThrough 60 = .ok (.getfield 254, 3) := by decide +kernel
theorem dX12_goesThrough_63 : decode cX12_goesThrough 63 = .ok (.if_icmp .ne 6, 3) := by decide +kernel
theorem dX12_goesThrough_66 : decode cX12_goesThrough 66 = .ok (.bipush (-3), 2) := by decide +kernel
theorem dX12_goesThrough_68 : decode cX12_goesThrough 68 = .ok (.ireturn, 1) := by decide +kernel
theorem dX12_goesThrough_69 : decode cX12_goesThrough 69 = .ok (.aload_n 0, 1) := by decide +kernel
theorem dX12_goesThrough_70 : decode cX12_goesThrough 70 = .ok (.iload_n 1, 1) := by decide +kernel
theorem dX12_goesThrough_71 : decode cX12_goesThrough 71 = .ok (.iconst 1, 1) := by decide +kernel
theorem dX12_goesThrough_72 : decode cX12_goesThrough 72 = .ok (.iadd, 1) := by decide +kernel
theorem dX12_goesThrough_73 : decode cX12_goesThrough 73 = .ok (.iload_n 3, 1) := by decide +kernel
theorem dX12_goesThrough_74 : decode cX12_goesThrough 74 = .ok (.invokevirtual 275, 3) := by decide +kernel
theorem dX12_goesThrough_77 : decode cX12_goesThrough 77 = .ok (.ifCond .ne 6, 3) := by decide +kernel
theorem dX12_goesThrough_80 : decode cX12_goesThrough 80 = .ok (.bipush (-6), 2) := by decide +kernel
theorem dX12_goesThrough_82 : decode cX12_goesThrough 82 = .ok (.ireturn, 1) := by decide +kernel
theorem dX12_goesThrough_83 : decode cX12_goesThrough 83 = .ok (.iload_n 2, 1) := by decide +kernel
theorem dX12_goesThrough_84 : decode cX12_goesThrough 84 = .ok (.invokestatic 257, 3) := by decide +kernel
theorem dX12_goesThrough_87 : decode cX12_goesThrough 87 = .ok (.ifCond .eq 20, 3) := by decide +kernel
theorem dX12_goesThrough_90 : decode cX12_goesThrough 90 = .ok (.aload_n 0, 1) := by decide +kernel
theorem dX12_goesThrough_91 : decode cX12_goesThrough 91 = .ok (.aload_n 0, 1) := by decide +kernel
theorem dX12_goesThrough_92 : decode cX12_goesThrough 92 = .ok (.getfield 35, 3) := by decide +kernel
theorem dX12_goesThrough_95 : decode cX12_goesThrough 95 = .ok (.iload_n 1, 1) := by decide +kernel
theorem dX12_goesThrough_96 : decode cX12_goesThrough 96 = .ok (.iaload, 1) := by decide +kernel
theorem dX12_goesThrough_97 : decode cX12_goesThrough 97 = .ok (.iload_n 3, 1) := by decide +kernel
theorem dX12_goesThrough_98 : decode cX12_goesThrough 98 = .ok (.invokevirtual 275, 3) := by decide +kernel
theorem dX12_goesThrough_101 : decode cX12_goesThrough 101 = .ok (.ifCond .ne 6, 3) := by decide +kernel
theorem dX12_goesThrough_104 : decode cX12_goesThrough 104 = .ok (.bipush (-6), 2) := by decide +kernel
theorem dX12_goesThrough_106 : decode cX12_goesThrough 106 = .ok (.ireturn, 1) := by decide +kernel
theorem dX12_goesThrough_107 : decode cX12_goesThrough 107 = .ok (.aload_n 0, 1) := by decide +kernel
theorem dX12_goesThrough_108 : decode cX12_goesThrough 108 = .ok (.getfield 38, 3) := by decide +kernel
theorem dX12_goesThrough_111 : decode cX12_goesThrough 111 = .ok (.aload_n 0, 1) := by decide +kernel
theorem dX12_goesThrough_112 : decode cX12_goesThrough 112 = .ok (.getfield 260, 3) := by decide +kernel
theorem dX12_goesThrough_115 : decode cX12_goesThrough 115 = .ok (.iload_n 1, 1) := by decide +kernel
theorem dX12_goesThrough_116 : decode cX12_goesThrough 116 = .ok (.invokestatic 279, 3) := by decide +kernel
theorem dX12_goesThrough_119 : decode cX12_goesThrough 119 = .ok (.istore 4, 2) := by decide +kernel
theorem dX12_goesThrough_121 : decode cX12_goesThrough 121 = .ok (.iload_n 2, 1) := by decide +kernel
theorem dX12_goesThrough_122 : decode cX12_goesThrough 122 = .ok (.invokestatic 283, 3) := by decide +kernel
theorem dX12_goesThrough_125 : decode cX12_goesThrough 125 = .ok (.ifCond .eq 33, 3) := by decide +kernel
theorem dX12_goesThrough_128 : decode cX12_goesThrough 128 = .ok (.iload 4, 2) := by decide +kernel
theorem dX12_goesThrough_130 : decode cX12_goesThrough 130 = .ok (.iconst (-1), 1) := by decide +kernel
theorem dX12_goesThrough_131 : decode cX12_goesThrough 131 = .ok (.if_icmp .eq 27, 3) := by decide +kernel
theorem dX12_goesThrough_134 : decode cX12_goesThrough 134 = .ok (.aload_n 0, 1) := by decide +kernel
theorem dX12_goesThrough_135 : decode cX12_goesThrough 135 = .ok (.aload_n 0, 1) := by decide +kernel
theorem dX12_goesThrough_136 : decode cX12_goesThrough 136 = .ok (.getfield 38, 3) := by decide +kernel
theorem dX12_goesThrough_139 : decode cX12_goesThrough 139 = .ok (.iconst 3, 1) := by decide +kernel
theorem dX12_goesThrough_140 : decode cX12_goesThrough 140 = .ok (.iload 4, 2) := by decide +kernel
theorem dX12_goesThrough_142 : decode cX12_goesThrough 142 = .ok (.imul, 1) := by decide +kernel
theorem dX12_goesThrough_143 : decode cX12_goesThrough 143 = .ok (.iconst 2, 1) := by decide +kernel
theorem dX12_goesThrough_144 : decode cX12_goesThrough 144 = .ok (.iadd, 1) := by decide +kernel
theorem dX12_goesThrough_145 : decode cX12_goesThrough 145 = .ok (.iaload, 1) := by decide +kernel
theorem dX12_goesThrough_146 : decode cX12_goesThrough 146 = .ok (.iconst 1, 1) := by decide +kernel
theorem dX12_goesThrough_147 : decode cX12_goesThrough 147 = .ok (.invokevirtual 275, 3) := by decide +kernel
theorem dX12_goesThrough_150 : decode cX12_goesThrough 150 = .ok (.ifCond .ne 8, 3) := by decide +kernel
theorem dX12_goesThrough_153 : decode cX12_goesThrough 153 = .ok (.bipush (-6), 2) := by decide +kernel
theorem dX12_goesThrough_155 : decode cX12_goesThrough 155 = .ok (.goto 4, 3) := by decide +kernel
theorem dX12_goesThrough_158 : decode cX12_goesThrough 158 = .ok (.iconst 0, 1) := by decide +kernel
theorem dX12_goesThrough_159 : decode cX12_goesThrough 159 = .ok (.ireturn, 1) := by decide +kernel
theorem dX12_comes_0 : decode cX12_comes 0 = .ok (.aload_n 0, 1) := by decide +kernel
theorem dX12_comes_1 : decode cX12_comes 1 = .ok (.getfield 41, 3) := by decide +kernel
theorem dX12_comes_4 : decode cX12_comes 4 = .ok (.iload_n 1, 1) := by decide +kernel
theorem dX12_comes_5 : decode cX12_comes 5 = .ok (.iaload, 1) := by decide +kernel
theorem dX12_comes_6 : decode cX12_comes 6 = .ok (.iconst (-1), 1) := by decide +kernel
theorem dX12_comes_7 : decode cX12_comes 7 = .ok (.if_icmp .ne 10, 3) := by decide +kernel
theorem dX12_comes_10 : decode cX12_comes 10 = .ok (.aload_n 0, 1) := by decide +kernel
theorem dX12_comes_11 : decode cX12_comes 11 = .ok (.getfield 41, 3) := by decide +kernel
theorem dX12_comes_14 : decode cX12_comes 14 = .ok (.iload_n 1, 1) := by decide +kernel
theorem dX12_comes_15 : decode cX12_comes 15 = .ok (.iload_n 2, 1) := by decide +kernel
theorem dX12_comes_16 : decode cX12_comes 16 = .ok (.iastore, 1) := by decide +kernel
theorem dX12_comes_17 : decode cX12_comes 17 = .ok (.aload_n 0, 1) := by decide +kernel
theorem dX12_comes_18 : decode cX12_comes 18 = .ok (.getfield 41, 3) := by decide +kernel
theorem dX12_comes_21 : decode cX12_comes 21 = .ok (.iload_n 1, 1) := by decide +kernel
theorem dX12_comes_22 : decode cX12_comes 22 = .ok (.iaload, 1) := by decide +kernel
theorem dX12_comes_23 : decode cX12_comes 23 = .ok (.iload_n 2, 1) := by decide +kernel
theorem dX12_comes_24 : decode cX12_comes 24 = .ok (.if_icmp .ne 7, 3) := by decide +kernel
theorem dX12_comes_27 : decode cX12_comes 27 = .ok (.iconst 1, 1) := by decide +kernel
theorem dX12_comes_28 : decode cX12_comes 28 = .ok (.goto 4, 3) := by decide +kernel
theorem dX12_comes_31 : decode cX12_comes 31 = .ok (.iconst 0, 1) := by decide +kernel
theorem dX12_comes_32 : decode cX12_comes 32 = .ok (.ireturn, 1) := by decide +kernel
theorem dX12_tries_0 : decode cX12_tries 0 = .ok (.iconst 0, 1) := by decide +kernel
theorem dX12_tries_1 : decode cX12_tries 1 = .ok (.istore 6, 2) := by decide +kernel
theorem dX12_tries_3 : decode cX12_tries 3 = .ok (.iload 6, 2) := by decide +kernel
theorem dX12_tries_5 : decode cX12_tries 5 = .ok (.bipush 40, 2) := by decide +kernel
theorem dX12_tries_7 : decode cX12_tries 7 = .ok (.if_icmp .ge 31, 3) := by decide +kernel
theorem dX12_tries_10 : decode cX12_tries 10 = .ok (.aload_n 0, 1) := by decide +kernel
theorem dX12_tries_11 : decode cX12_tries 11 = .ok (.getfield 32, 3) := by decide +kernel
theorem dX12_tries_14 : decode cX12_tries 14 = .ok (.iload 6, 2) := by decide +kernel
theorem dX12_tries_16 : decode cX12_tries 16 = .ok (.aload_n 1, 1) := by decide +kernel
theorem dX12_tries_17 : decode cX12_tries 17 = .ok (.iload 6, 2) := by decide +kernel
theorem dX12_tries_19 : decode cX12_tries 19 = .ok (.iaload, 1) := by decide +kernel
theorem dX12_tries_20 : decode cX12_tries 20 = .ok (.iastore, 1) := by decide +kernel
theorem dX12_tries_21 : decode cX12_tries 21 = .ok (.aload_n 0, 1) := by decide +kernel
theorem dX12_tries_22 : decode cX12_tries 22 = .ok (.getfield 35, 3) := by decide +kernel
theorem dX12_tries_25 : decode cX12_tries 25 = .ok (.iload 6, 2) := by decide +kernel
theorem dX12_tries_27 : decode cX12_tries 27 = .ok (.aload_n 2, 1) := by decide +kernel
theorem dX12_tries_28 : decode cX12_tries 28 = .ok (.iload 6, 2) := by decide +kernel
theorem dX12_tries_30 : decode cX12_tries 30 = .ok (.iaload, 1) := by decide +kernel
theorem dX12_tries_31 : decode cX12_tries 31 = .ok (.iastore, 1) := by decide +kernel
theorem dX12_tries_32 : decode cX12_tries 32 = .ok (.iinc 6 1, 3) := by decide +kernel
theorem dX12_tries_35 : decode cX12_tries 35 = .ok (.goto (-32), 3) := by decide +kernel
theorem dX12_tries_38 : decode cX12_tries 38 = .ok (.iconst 0, 1) := by decide +kernel
theorem dX12_tries_39 : decode cX12_tries 39 = .ok (.istore 6, 2) := by decide +kernel
theorem dX12_tries_41 : decode cX12_tries 41 = .ok (.iload 6, 2) := by decide +kernel
theorem dX12_tries_43 : decode cX12_tries 43 = .ok (.bipush 9, 2) := by decide +kernel
theorem dX12_tries_45 : decode cX12_tries 45 = .ok (.if_icmp .ge 21, 3) := by decide +kernel
theorem dX12_tries_48 : decode cX12_tries 48 = .ok (.aload_n 0, 1) := by decide +kernel
theorem dX12_tries_49 : decode cX12_tries 49 = .ok (.getfield 38, 3) := by decide +kernel
theorem dX12_tries_52 : decode cX12_tries 52 = .ok (.iload 6, 2) := by decide +kernel
theorem dX12_tries_54 : decode cX12_tries 54 = .ok (.aload 4, 2) := by decide +kernel
theorem dX12_tries_56 : decode cX12_tries 56 = .ok (.iload 6, 2) := by decide +kernel
theorem dX12_tries_58 : decode cX12_tries 58 = .ok (.iaload, 1) := by decide +kernel
theorem dX12_tries_59 : decode cX12_tries 59 = .ok (.iastore, 1) := by decide +kernel
theorem dX12_tries_60 : decode cX12_tries 60 = .ok (.iinc 6 1, 3) := by decide +kernel
theorem dX12_tries_63 : decode cX12_tries 63 = .ok (.goto (-22), 3) := by decide +kernel
theorem dX12_tries_66 : decode cX12_tries 66 = .ok (.aload_n 0, 1) := by decide +kernel
theorem dX12_tries_67 : decode cX12_tries 67 = .ok (.iload_n 3, 1) := by decide +kernel
theorem dX12_tries_68 : decode cX12_tries 68 = .ok (.putfield 254, 3) := by decide +kernel
theorem dX12_tries_71 : decode cX12_tries 71 = .ok (.aload_n 0, 1) := by decide +kernel
theorem dX12_tries_72 : decode cX12_tries 72 = .ok (.iload 5, 2) := by decide +kernel
theorem dX12_tries_74 : decode cX12_tries 74 = .ok (.putfield 260, 3) := by decide +kernel
theorem dX12_tries_77 : decode cX12_tries 77 = .ok (.return_, 1) := by decide +kernel
theorem dX12_takes_0 : decode cX12_takes 0 = .ok (.iconst 0, 1) := by decide +kernel
theorem dX12_takes_1 : decode cX12_takes 1 = .ok (.istore_n 1, 1) := by decide +kernel
theorem dX12_takes_2 : decode cX12_takes 2 = .ok (.iload_n 1, 1) := by decide +kernel
theorem dX12_takes_3 : decode cX12_takes 3 = .ok (.bipush 40, 2) := by decide +kernel
theorem dX12_takes_5 : decode cX12_takes 5 = .ok (.if_icmp .ge 45, 3) := by decide +kernel
theorem dX12_takes_8 : decode cX12_takes 8 = .ok (.aload_n 0, 1) := by decide +kernel
theorem dX12_takes_9 : decode cX12_takes 9 = .ok (.getfield 23, 3) := by decide +kernel
theorem dX12_takes_12 : decode cX12_takes 12 = .ok (.iload_n 1, 1) := by decide +kernel
theorem dX12_takes_13 : decode cX12_takes 13 = .ok (.aload_n 0, 1) := by decide +kernel
theorem dX12_takes_14 : decode cX12_takes 14 = .ok (.getfield 32, 3) := by decide +kernel
theorem dX12_takes_17 : decode cX12_takes 17 = .ok (.iload_n 1, 1) := by decide +kernel
theorem dX12_takes_18 : decode cX12_takes 18 = .ok (.iaload, 1) := by decide +kernel
theorem dX12_takes_19 : decode cX12_takes 19 = .ok (.iastore, 1) := by decide +kernel
theorem dX12_takes_20 : decode cX12_takes 20 = .ok (.aload_n 0, 1) := by decide +kernel
theorem dX12_takes_21 : decode cX12_takes 21 = .ok (.getfield 26, 3) := by decide +kernel
theorem dX12_takes_24 : decode cX12_takes 24 = .ok (.iload_n 1, 1) := by decide +kernel
theorem dX12_takes_25 : decode cX12_takes 25 = .ok (.aload_n 0, 1) := by decide +kernel
theorem dX12_takes_26 : decode cX12_takes 26 = .ok (.getfield 35, 3) := by decide +kernel
theorem dX12_takes_29 : decode cX12_takes 29 = .ok (.iload_n 1, 1) := by decide +kernel
theorem dX12_takes_30 : decode cX12_takes 30 = .ok (.iaload, 1) := by decide +kernel
theorem dX12_takes_31 : decode cX12_takes 31 = .ok (.iastore, 1) := by decide +kernel
theorem dX12_takes_32 : decode cX12_takes 32 = .ok (.aload_n 0, 1) := by decide +kernel
theorem dX12_takes_33 : decode cX12_takes 33 = .ok (.getfield 44, 3) := by decide +kernel
theorem dX12_takes_36 : decode cX12_takes 36 = .ok (.iload_n 1, 1) := by decide +kernel
theorem dX12_takes_37 : decode cX12_takes 37 = .ok (.aload_n 0, 1) := by decide +kernel
theorem dX12_takes_38 : decode cX12_takes 38 = .ok (.getfield 41, 3) := by decide +kernel
theorem dX12_takes_41 : decode cX12_takes 41 = .ok (.iload_n 1, 1) := by decide +kernel
theorem dX12_takes_42 : decode cX12_takes 42 = .ok (.iaload, 1) := by decide +kernel
theorem dX12_takes_43 : decode cX12_takes 43 = .ok (.iastore, 1) := by decide +kernel
theorem dX12_takes_44 : decode cX12_takes 44 = .ok (.iinc 1 1, 3) := by decide +kernel
theorem dX12_takes_47 : decode cX12_takes 47 = .ok (.goto (-45), 3) := by decide +kernel
theorem dX12_takes_50 : decode cX12_takes 50 = .ok (.iconst 0, 1) := by decide +kernel
theorem dX12_takes_51 : decode cX12_takes 51 = .ok (.istore_n 1, 1) := by decide +kernel
theorem dX12_takes_52 : decode cX12_takes 52 = .ok (.iload_n 1, 1) := by decide +kernel
theorem dX12_takes_53 : decode cX12_takes 53 = .ok (.bipush 9, 2) := by decide +kernel
theorem dX12_takes_55 : decode cX12_takes 55 = .ok (.if_icmp .ge 21, 3) := by decide +kernel
theorem dX12_takes_58 : decode cX12_takes 58 = .ok (.aload_n 0, 1) := by decide +kernel
theorem dX12_takes_59 : decode cX12_takes 59 = .ok (.getfield 29, 3) := by decide +kernel
theorem dX12_takes_62 : decode cX12_takes 62 = .ok (.iload_n 1, 1) := by decide +kernel
theorem dX12_takes_63 : decode cX12_takes 63 = .ok (.aload_n 0, 1) := by decide +kernel
theorem dX12_takes_64 : decode cX12_takes 64 = .ok (.getfield 38, 3) := by decide +kernel
theorem dX12_takes_67 : decode cX12_takes 67 = .ok (.iload_n 1, 1) := by decide +kernel
theorem dX12_takes_68 : decode cX12_takes 68 = .ok (.iaload, 1) := by decide +kernel
theorem dX12_takes_69 : decode cX12_takes 69 = .ok (.iastore, 1) := by decide +kernel
theorem dX12_takes_70 : decode cX12_takes 70 = .ok (.iinc 1 1, 3) := by decide +kernel
theorem dX12_takes_73 : decode cX12_takes 73 = .ok (.goto (-21), 3) := by decide +kernel
theorem dX12_takes_76 : decode cX12_takes 76 = .ok (.aload_n 0, 1) := by decide +kernel
theorem dX12_takes_77 : decode cX12_takes 77 = .ok (.aload_n 0, 1) := by decide +kernel
theorem dX12_takes_78 : decode cX12_takes 78 = .ok (.getfield 254, 3) := by decide +kernel
theorem dX12_takes_81 : decode cX12_takes 81 = .ok (.putfield 286, 3) := by decide +kernel
theorem dX12_takes_84 : decode cX12_takes 84 = .ok (.aload_n 0, 1) := by decide +kernel
theorem dX12_takes_85 : decode cX12_takes 85 = .ok (.aload_n 0, 1) := by decide +kernel
theorem dX12_takes_86 : decode cX12_takes 86 = .ok (.getfield 260, 3) := by decide +kernel
theorem dX12_takes_89 : decode cX12_takes 89 = .ok (.putfield 289, 3) := by decide +kernel
theorem dX12_takes_92 : decode cX12_takes 92 = .ok (.aload_n 0, 1) := by decide +kernel
theorem dX12_takes_93 : decode cX12_takes 93 = .ok (.iconst 1, 1) := by decide +kernel
theorem dX12_takes_94 : decode cX12_takes 94 = .ok (.putfield 292, 3) := by decide +kernel
theorem dX12_takes_97 : decode cX12_takes 97 = .ok (.aload_n 0, 1) := by decide +kernel
theorem dX12_takes_98 : decode cX12_takes 98 = .ok (.invokevirtual 296, 3) := by decide +kernel
theorem dX12_takes_101 : decode cX12_takes 101 = .ok (.aload_n 0, 1) := by decide +kernel
theorem dX12_takes_102 : decode cX12_takes 102 = .ok (.getfield 299, 3) := by decide +kernel
theorem dX12_takes_105 : decode cX12_takes 105 = .ok (.ireturn, 1) := by decide +kernel
theorem dX12_code_0 : decode cX12_code 0 = .ok (.aload_n 0, 1) := by decide +kernel
theorem dX12_code_1 : decode cX12_code 1 = .ok (.iconst 0, 1) := by decide +kernel
theorem dX12_code_2 : decode cX12_code 2 = .ok (.putfield 169, 3) := by decide +kernel
theorem dX12_code_5 : decode cX12_code 5 = .ok (.aload_n 0, 1) := by decide +kernel
theorem dX12_code_6 : decode cX12_code 6 = .ok (.invokevirtual 241, 3) := by decide +kernel
theorem dX12_code_9 : decode cX12_code 9 = .ok (.ifCond .ne 5, 3) := by decide +kernel
theorem dX12_code_12 : decode cX12_code 12 = .ok (.iconst (-1), 1) := by decide +kernel
theorem dX12_code_13 : decode cX12_code 13 = .ok (.ireturn, 1) := by decide +kernel
theorem dX12_code_14 : decode cX12_code 14 = .ok (.aload_n 0, 1) := by decide +kernel
theorem dX12_code_15 : decode cX12_code 15 = .ok (.aload_n 0, 1) := by decide +kernel
theorem dX12_code_16 : decode cX12_code 16 = .ok (.getfield 13, 3) := by decide +kernel
theorem dX12_code_19 : decode cX12_code 19 = .ok (.aload_n 0, 1) := by decide +kernel
theorem dX12_code_20 : decode cX12_code 20 = .ok (.getfield 17, 3) := by decide +kernel
theorem dX12_code_23 : decode cX12_code 23 = .ok (.aload_n 0, 1) := by decide +kernel
theorem dX12_code_24 : decode cX12_code 24 = .ok (.getfield 216, 3) := by decide +kernel
theorem dX12_code_27 : decode cX12_code 27 = .ok (.aload_n 0, 1) := by decide +kernel
theorem dX12_code_28 : decode cX12_code 28 = .ok (.getfield 20, 3) := by decide +kernel
theorem dX12_code_31 : decode cX12_code 31 = .ok (.aload_n 0, 1) := by decide +kernel
theorem dX12_code_32 : decode cX12_code 32 = .ok (.getfield 230, 3) := by decide +kernel
theorem dX12_code_35 : decode cX12_code 35 = .ok (.invokevirtual 302, 3) := by decide +kernel
theorem dX12_code_38 : decode cX12_code 38 = .ok (.aload_n 0, 1) := by decide +kernel
theorem dX12_code_39 : decode cX12_code 39 = .ok (.invokevirtual 306, 3) := by decide +kernel
theorem dX12_code_42 : decode cX12_code 42 = .ok (.istore_n 1, 1) := by decide +kernel
theorem dX12_code_43 : decode cX12_code 43 = .ok (.iload_n 1, 1) := by decide +kernel
theorem dX12_code_44 : decode cX12_code 44 = .ok (.ifCond .ge 5, 3) := by decide +kernel
theorem dX12_code_47 : decode cX12_code 47 = .ok (.iload_n 1, 1) := by decide +kernel
theorem dX12_code_48 : decode cX12_code 48 = .ok (.ireturn, 1) := by decide +kernel
theorem dX12_code_49 : decode cX12_code 49 = .ok (.aload_n 0, 1) := by decide +kernel
theorem dX12_code_50 : decode cX12_code 50 = .ok (.iconst 0, 1) := by decide +kernel
theorem dX12_code_51 : decode cX12_code 51 = .ok (.putfield 177, 3) := by decide +kernel
theorem dX12_code_54 : decode cX12_code 54 = .ok (.aload_n 0, 1) := by decide +kernel
theorem dX12_code_55 : decode cX12_code 55 = .ok (.invokevirtual 309, 3) := by decide +kernel
theorem dX12_code_58 : decode cX12_code 58 = .ok (.ireturn, 1) := by decide +kernel
theorem dX12_isCode_0 : decode cX12_isCode 0 = .ok (.iload_n 0, 1) := by decide +kernel
theorem dX12_isCode_1 : decode cX12_isCode 1 = .ok (.invokestatic 219, 3) := by decide +kernel
theorem dX12_isCode_4 : decode cX12_isCode 4 = .ok (.ifCond .eq 13, 3) := by decide +kernel
theorem dX12_isCode_7 : decode cX12_isCode 7 = .ok (.iload_n 1, 1) := by decide +kernel
theorem dX12_isCode_8 : decode cX12_isCode 8 = .ok (.ifCond .ne 7, 3) := by decide +kernel
theorem dX12_isCode_11 : decode cX12_isCode 11 = .ok (.iconst 1, 1) := by decide +kernel
theorem dX12_isCode_12 : decode cX12_isCode 12 = .ok (.goto 4, 3) := by decide +kernel
theorem dX12_isCode_15 : decode cX12_isCode 15 = .ok (.iconst 0, 1) := by decide +kernel
theorem dX12_isCode_16 : decode cX12_isCode 16 = .ok (.ireturn, 1) := by decide +kernel
theorem dX12_isCode_17 : decode cX12_isCode 17 = .ok (.iload_n 0, 1) := by decide +kernel
theorem dX12_isCode_18 : decode cX12_isCode 18 = .ok (.bipush 107, 2) := by decide +kernel
theorem dX12_isCode_20 : decode cX12_isCode 20 = .ok (.if_icmp .ne 9, 3) := by decide +kernel
theorem dX12_isCode_23 : decode cX12_isCode 23 = .ok (.sipush 999, 3) := by decide +kernel
theorem dX12_isCode_26 : decode cX12_isCode 26 = .ok (.goto 37, 3) := by decide +kernel
theorem dX12_isCode_29 : decode cX12_isCode 29 = .ok (.iload_n 0, 1) := by decide +kernel
theorem dX12_isCode_30 : decode cX12_isCode 30 = .ok (.bipush 108, 2) := by decide +kernel
theorem dX12_isCode_32 : decode cX12_isCode 32 = .ok (.if_icmp .eq 9, 3) := by decide +kernel
theorem dX12_isCode_35 : decode cX12_isCode 35 = .ok (.iload_n 0, 1) := by decide +kernel
theorem dX12_isCode_36 : decode cX12_isCode 36 = .ok (.bipush 115, 2) := by decide +kernel
theorem dX12_isCode_38 : decode cX12_isCode 38 = .ok (.if_icmp .ne 7, 3) := by decide +kernel
theorem dX12_isCode_41 : decode cX12_isCode 41 = .ok (.iconst 5, 1) := by decide +kernel
theorem dX12_isCode_42 : decode cX12_isCode 42 = .ok (.goto 21, 3) := by decide +kernel
theorem dX12_isCode_45 : decode cX12_isCode 45 = .ok (.iload_n 0, 1) := by decide +kernel
theorem dX12_isCode_46 : decode cX12_isCode 46 = .ok (.bipush 103, 2) := by decide +kernel
theorem dX12_isCode_48 : decode cX12_isCode 48 = .ok (.if_icmp .eq 9, 3) := by decide +kernel
theorem dX12_isCode_51 : decode cX12_isCode 51 = .ok (.iload_n 0, 1) := by decide +kernel
theorem dX12_isCode_52 : decode cX12_isCode 52 = .ok (.bipush 122, 2) := by decide +kernel
theorem dX12_isCode_54 : decode cX12_isCode 54 = .ok (.if_icmp .ne 8, 3) := by decide +kernel
theorem dX12_isCode_57 : decode cX12_isCode 57 = .ok (.bipush 39, 2) := by decide +kernel
theorem dX12_isCode_59 : decode cX12_isCode 59 = .ok (.goto 4, 3) := by decide +kernel
theorem dX12_isCode_62 : decode cX12_isCode 62 = .ok (.iconst (-1), 1) := by decide +kernel
theorem dX12_isCode_63 : decode cX12_isCode 63 = .ok (.istore_n 2, 1) := by decide +kernel
theorem dX12_isCode_64 : decode cX12_isCode 64 = .ok (.iload_n 1, 1) := by decide +kernel
theorem dX12_isCode_65 : decode cX12_isCode 65 = .ok (.i2l, 1) := by decide +kernel
theorem dX12_isCode_66 : decode cX12_isCode 66 = .ok (.lconst 0, 1) := by decide +kernel
theorem dX12_isCode_67 : decode cX12_isCode 67 = .ok (.iload_n 2, 1) := by decide +kernel
theorem dX12_isCode_68 : decode cX12_isCode 68 = .ok (.i2l, 1) := by decide +kernel
theorem dX12_isCode_69 : decode cX12_isCode 69 = .ok (.invokestatic 312, 3) := by decide +kernel
theorem dX12_isCode_72 : decode cX12_isCode 72 = .ok (.ireturn, 1) := by decide +kernel
theorem dX12_put_0 : decode cX12_put 0 = .ok (.aload_n 0, 1) := by decide +kernel
theorem dX12_put_1 : decode cX12_put 1 = .ok (.iconst 0, 1) := by decide +kernel
theorem dX12_put_2 : decode cX12_put 2 = .ok (.putfield 169, 3) := by decide +kernel
theorem dX12_put_5 : decode cX12_put 5 = .ok (.aload_n 0, 1) := by decide +kernel
theorem dX12_put_6 : decode cX12_put 6 = .ok (.getfield 292, 3) := by decide +kernel
theorem dX12_put_9 : decode cX12_put 9 = .ok (.ifCond .eq 27, 3) := by decide +kernel
theorem dX12_put_12 : decode cX12_put 12 = .ok (.iload_n 1, 1) := by decide +kernel
theorem dX12_put_13 : decode cX12_put 13 = .ok (.i2l, 1) := by decide +kernel
theorem dX12_put_14 : decode cX12_put 14 = .ok (.lconst 0, 1) := by decide +kernel
theorem dX12_put_15 : decode cX12_put 15 = .ok (.aload_n 0, 1) := by decide +kernel
theorem dX12_put_16 : decode cX12_put 16 = .ok (.getfield 286, 3) := by decide +kernel
theorem dX12_put_19 : decode cX12_put 19 = .ok (.iconst 1, 1) := by decide +kernel
theorem dX12_put_20 : decode cX12_put 20 = .ok (.isub, 1) := by decide +kernel
theorem dX12_put_21 : decode cX12_put 21 = .ok (.i2l, 1) := by decide +kernel
theorem dX12_put_22 : decode cX12_put 22 = .ok (.invokestatic 312, 3) := by decide +kernel
theorem dX12_put_25 : decode cX12_put 25 = .ok (.ifCond .eq 11, 3) := by decide +kernel
theorem dX12_put_28 : decode cX12_put 28 = .ok (.iload_n 2, 1) := by decide +kernel
theorem dX12_put_29 : decode cX12_put 29 = .ok (.iload_n 3, 1) := by decide +kernel
theorem dX12_put_30 : decode cX12_put 30 = .ok (.invokestatic 316, 3) := by decide +kernel
theorem dX12_put_33 : decode cX12_put 33 = .ok (.ifCond .ne 5, 3) := by decide +kernel
theorem dX12_put_36 : decode cX12_put 36 = .ok (.iconst (-1), 1) := by decide +kernel
theorem dX12_put_37 : decode cX12_put 37 = .ok (.ireturn, 1) := by decide +kernel
theorem dX12_put_38 : decode cX12_put 38 = .ok (.aload_n 0, 1) := by decide +kernel
theorem dX12_put_39 : decode cX12_put 39 = .ok (.aload_n 0, 1) := by decide +kernel
theorem dX12_put_40 : decode cX12_put 40 = .ok (.getfield 23, 3) := by decide +kernel
theorem dX12_put_43 : decode cX12_put 43 = .ok (.aload_n 0, 1) := by decide +kernel
theorem dX12_put_44 : decode cX12_put 44 = .ok (.getfield 26, 3) := by decide +kernel
theorem dX12_put_47 : decode cX12_put 47 = .ok (.aload_n 0, 1) := by decide +kernel
theorem dX12_put_48 : decode cX12_put 48 = .ok (.getfield 286, 3) := by decide +kernel
theorem dX12_put_51 : decode cX12_put 51 = .ok (.aload_n 0, 1) := by decide +kernel
theorem dX12_put_52 : decode cX12_put 52 = .ok (.getfield 29, 3) := by decide +kernel
theorem dX12_put_55 : decode cX12_put 55 = .ok (.aload_n 0, 1) := by decide +kernel
theorem dX12_put_56 : decode cX12_put 56 = .ok (.getfield 289, 3) := by decide +kernel
theorem dX12_put_59 : decode cX12_put 59 = .ok (.invokevirtual 302, 3) := by decide +kernel
theorem dX12_put_62 : decode cX12_put 62 = .ok (.aload_n 0, 1) := by decide +kernel
theorem dX12_put_63 : decode cX12_put 63 = .ok (.getfield 32, 3) := by decide +kernel
theorem dX12_put_66 : decode cX12_put 66 = .ok (.iload_n 1, 1) := by decide +kernel
theorem dX12_put_67 : decode cX12_put 67 = .ok (.iload_n 2, 1) := by decide +kernel
theorem dX12_put_68 : decode cX12_put 68 = .ok (.iastore, 1) := by decide +kernel
theorem dX12_put_69 : decode cX12_put 69 = .ok (.aload_n 0, 1) := by decide +kernel
theorem dX12_put_70 : decode cX12_put 70 = .ok (.getfield 35, 3) := by decide +kernel
theorem dX12_put_73 : decode cX12_put 73 = .ok (.iload_n 1, 1) := by decide +kernel
theorem dX12_put_74 : decode cX12_put 74 = .ok (.iload_n 3, 1) := by decide +kernel
theorem dX12_put_75 : decode cX12_put 75 = .ok (.iastore, 1) := by decide +kernel
theorem dX12_put_76 : decode cX12_put 76 = .ok (.aload_n 0, 1) := by decide +kernel
theorem dX12_put_77 : decode cX12_put 77 = .ok (.invokevirtual 306, 3) := by decide +kernel
theorem dX12_put_80 : decode cX12_put 80 = .ok (.istore 4, 2) := by decide +kernel
theorem dX12_put_82 : decode cX12_put 82 = .ok (.iload 4, 2) := by decide +kernel
theorem dX12_put_84 : decode cX12_put 84 = .ok (.ifCond .ge 8, 3) := by decide +kernel
theorem dX12_put_87 : decode cX12_put 87 = .ok (.iload 4, 2) := by decide +kernel
theorem dX12_put_89 : decode cX12_put 89 = .ok (.goto 7, 3) := by decide +kernel
theorem dX12_put_92 : decode cX12_put 92 = .ok (.aload_n 0, 1) := by decide +kernel
theorem dX12_put_93 : decode cX12_put 93 = .ok (.invokevirtual 309, 3) := by decide +kernel
theorem dX12_put_96 : decode cX12_put 96 = .ok (.ireturn, 1) := by decide +kernel
theorem dX12_isCome_0 : decode cX12_isCome 0 = .ok (.aload_n 0, 1) := by decide +kernel
theorem dX12_isCome_1 : decode cX12_isCome 1 = .ok (.getfield 44, 3) := by decide +kernel
theorem dX12_isCome_4 : decode cX12_isCome 4 = .ok (.iload_n 1, 1) := by decide +kernel
theorem dX12_isCome_5 : decode cX12_isCome 5 = .ok (.iaload, 1) := by decide +kernel
theorem dX12_isCome_6 : decode cX12_isCome 6 = .ok (.iconst (-1), 1) := by decide +kernel
theorem dX12_isCome_7 : decode cX12_isCome 7 = .ok (.if_icmp .eq 7, 3) := by decide +kernel
theorem dX12_isCome_10 : decode cX12_isCome 10 = .ok (.iconst 1, 1) := by decide +kernel
theorem dX12_isCome_11 : decode cX12_isCome 11 = .ok (.goto 4, 3) := by decide +kernel
theorem dX12_isCome_14 : decode cX12_isCome 14 = .ok (.iconst 0, 1) := by decide +kernel
theorem dX12_isCome_15 : decode cX12_isCome 15 = .ok (.ireturn, 1) := by decide +kernel
theorem dX12_isCutAhead_0 : decode cX12_isCutAhead 0 = .ok (.iload_n 1, 1) := by decide +kernel
theorem dX12_isCutAhead_1 : decode cX12_isCutAhead 1 = .ok (.ifCond .le 32, 3) := by decide +kernel
theorem dX12_isCutAhead_4 : decode cX12_isCutAhead 4 = .ok (.aload_n 0, 1) := by decide +kernel
theorem dX12_isCutAhead_5 : decode cX12_isCutAhead 5 = .ok (.getfield 23, 3) := by decide +kernel
theorem dX12_isCutAhead_8 : decode cX12_isCutAhead 8 = .ok (.iload_n 1, 1) := by decide +kernel
theorem dX12_isCutAhead_9 : decode cX12_isCutAhead 9 = .ok (.iconst 1, 1) := by decide +kernel
theorem dX12_isCutAhead_10 : decode cX12_isCutAhead 10 = .ok (.isub, 1) := by decide +kernel
theorem dX12_isCutAhead_11 : decode cX12_isCutAhead 11 = .ok (.iaload, 1) := by decide +kernel
theorem dX12_isCutAhead_12 : decode cX12_isCutAhead 12 = .ok (.ldc_w 319, 3) := by decide +kernel
theorem dX12_isCutAhead_15 : decode cX12_isCutAhead 15 = .ok (.invokestatic 204, 3) := by decide +kernel
theorem dX12_isCutAhead_18 : decode cX12_isCutAhead 18 = .ok (.ifCond .ne 13, 3) := by decide +kernel
theorem dX12_isCutAhead_21 : decode cX12_isCutAhead 21 = .ok (.aload_n 0, 1) := by decide +kernel
theorem dX12_isCutAhead_22 : decode cX12_isCutAhead 22 = .ok (.iload_n 1, 1) := by decide +kernel
theorem dX12_isCutAhead_23 : decode cX12_isCutAhead 23 = .ok (.iconst 1, 1) := by decide +kernel
theorem dX12_isCutAhead_24 : decode cX12_isCutAhead 24 = .ok (.isub, 1) := by decide +kernel
theorem dX12_isCutAhead_25 : decode cX12_isCutAhead 25 = .ok (.invokevirtual 321, 3) := by decide +kernel
theorem dX12_isCutAhead_28 : decode cX12_isCutAhead 28 = .ok (.ifCond .ne 5, 3) := by decide +kernel
theorem dX12_isCutAhead_31 : decode cX12_isCutAhead 31 = .ok (.iconst 1, 1) := by decide +kernel
theorem dX12_isCutAhead_32 : decode cX12_isCutAhead 32 = .ok (.ireturn, 1) := by decide +kernel
theorem dX12_isCutAhead_33 : decode cX12_isCutAhead 33 = .ok (.iconst 0, 1) := by decide +kernel
theorem dX12_isCutAhead_34 : decode cX12_isCutAhead 34 = .ok (.istore_n 2, 1) := by decide +kernel
theorem dX12_isCutAhead_35 : decode cX12_isCutAhead 35 = .ok (.iload_n 2, 1) := by decide +kernel
theorem dX12_isCutAhead_36 : decode cX12_isCutAhead 36 = .ok (.aload_n 0, 1) := by decide +kernel
theorem dX12_isCutAhead_37 : decode cX12_isCutAhead 37 = .ok (.getfield 286, 3) := by decide +kernel
theorem dX12_isCutAhead_40 : decode cX12_isCutAhead 40 = .ok (.if_icmp .ge 41, 3) := by decide +kernel
theorem dX12_isCutAhead_43 : decode cX12_isCutAhead 43 = .ok (.aload_n 0, 1) := by decide +kernel
theorem dX12_isCutAhead_44 : decode cX12_isCutAhead 44 = .ok (.iload_n 2, 1) := by decide +kernel
theorem dX12_isCutAhead_45 : decode cX12_isCutAhead 45 = .ok (.invokevirtual 321, 3) := by decide +kernel
theorem dX12_isCutAhead_48 : decode cX12_isCutAhead 48 = .ok (.ifCond .eq 27, 3) := by decide +kernel
theorem dX12_isCutAhead_51 : decode cX12_isCutAhead 51 = .ok (.aload_n 0, 1) := by decide +kernel
theorem dX12_isCutAhead_52 : decode cX12_isCutAhead 52 = .ok (.getfield 23, 3) := by decide +kernel
theorem dX12_isCutAhead_55 : decode cX12_isCutAhead 55 = .ok (.iload_n 2, 1) := by decide +kernel
theorem dX12_isCutAhead_56 : decode cX12_isCutAhead 56 = .ok (.iaload, 1) := by decide +kernel
theorem dX12_isCutAhead_57 : decode cX12_isCutAhead 57 = .ok (.invokestatic 257, 3) := by decide +kernel
theorem dX12_isCutAhead_60 : decode cX12_isCutAhead 60 = .ok (.ifCond .eq 15, 3) := by decide +kernel
theorem dX12_isCutAhead_63 : decode cX12_isCutAhead 63 = .ok (.aload_n 0, 1) := by decide +kernel
theorem dX12_isCutAhead_64 : decode cX12_isCutAhead 64 = .ok (.getfield 26, 3) := by decide +kernel
theorem dX12_isCutAhead_67 : decode cX12_isCutAhead 67 = .ok (.iload_n 2, 1) := by decide +kernel
theorem dX12_isCutAhead_68 : decode cX12_isCutAhead 68 = .ok (.iaload, 1) := by decide +kernel
theorem dX12_isCutAhead_69 : decode cX12_isCutAhead 69 = .ok (.iload_n 1, 1) := by decide +kernel
theorem dX12_isCutAhead_70 : decode cX12_isCutAhead 70 = .ok (.if_icmp .ne 5, 3) := by decide +kernel
theorem dX12_isCutAhead_73 : decode cX12_isCutAhead 73 = .ok (.iconst 1, 1) := by decide +kernel
theorem dX12_isCutAhead_74 : decode cX12_isCutAhead 74 = .ok (.ireturn, 1) := by decide +kernel
theorem dX12_isCutAhead_75 : decode cX12_isCutAhead 75 = .ok (.iinc 2 1, 3) := by decide +kernel
theorem dX12_isCutAhead_78 : decode cX12_isCutAhead 78 = .ok (.goto (-43), 3) := by decide +kernel
theorem dX12_isCutAhead_81 : decode cX12_isCutAhead 81 = .ok (.iconst 0, 1) := by decide +kernel
theorem dX12_isCutAhead_82 : decode cX12_isCutAhead 82 = .ok (.istore_n 2, 1) := by decide +kernel
theorem dX12_isCutAhead_83 : decode cX12_isCutAhead 83 = .ok (.iload_n 2, 1) := by decide +kernel
theorem dX12_isCutAhead_84 : decode cX12_isCutAhead 84 = .ok (.iconst 3, 1) := by decide +kernel
theorem dX12_isCutAhead_85 : decode cX12_isCutAhead 85 = .ok (.aload_n 0, 1) := by decide +kernel
theorem dX12_isCutAhead_86 : decode cX12_isCutAhead 86 = .ok (.getfield 289, 3) := by decide +kernel
theorem dX12_isCutAhead_89 : decode cX12_isCutAhead 89 = .ok (.imul, 1) := by decide +kernel
theorem dX12_isCutAhead_90 : decode cX12_isCutAhead 90 = .ok (.if_icmp .ge 21, 3) := by decide +kernel
theorem dX12_isCutAhead_93 : decode cX12_isCutAhead 93 = .ok (.aload_n 0, 1) := by decide +kernel
theorem dX12_isCutAhead_94 : decode cX12_isCutAhead 94 = .ok (.getfield 29, 3) := by decide +kernel
theorem dX12_isCutAhead_97 : decode cX12_isCutAhead 97 = .ok (.iload_n 2, 1) := by decide +kernel
theorem dX12_isCutAhead_98 : decode cX12_isCutAhead 98 = .ok (.iaload, 1) := by decide +kernel
theorem dX12_isCutAhead_99 : decode cX12_isCutAhead 99 = .ok (.iload_n 1, 1) := by decide +kernel
theorem dX12_isCutAhead_100 : decode cX12_isCutAhead 100 = .ok (.if_icmp .ne 5, 3) := by decide +kernel
theorem dX12_isCutAhead_103 : decode cX12_isCutAhead 103 = .ok (.iconst 1, 1) := by decide +kernel
theorem dX12_isCutAhead_104 : decode cX12_isCutAhead 104 = .ok (.ireturn, 1) := by decide +kernel
theorem dX12_isCutAhead_105 : decode cX12_isCutAhead 105 = .ok (.iinc 2 1, 3) := by decide +kernel
theorem dX12_isCutAhead_108 : decode cX12_isCutAhead 108 = .ok (.goto (-25), 3) := by decide +kernel
theorem dX12_isCutAhead_111 : decode cX12_isCutAhead 111 = .ok (.iload_n 1, 1) := by decide +kernel
theorem dX12_isCutAhead_112 : decode cX12_isCutAhead 112 = .ok (.ifCond .ne 7, 3) := by decide +kernel
theorem dX12_isCutAhead_115 : decode cX12_isCutAhead 115 = .ok (.iconst 1, 1) := by decide +kernel
theorem dX12_isCutAhead_116 : decode cX12_isCutAhead 116 = .ok (.goto 4, 3) := by decide +kernel
theorem dX12_isCutAhead_119 : decode cX12_isCutAhead 119 = .ok (.iconst 0, 1) := by decide +kernel
theorem dX12_isCutAhead_120 : decode cX12_isCutAhead 120 = .ok (.ireturn, 1) := by decide +kernel
theorem dX12_laysBlocks_0 : decode cX12_laysBlocks 0 = .ok (.aload_n 0, 1) := by decide +kernel
theorem dX12_laysBlocks_1 : decode cX12_laysBlocks 1 = .ok (.iconst 0, 1) := by decide +kernel
theorem dX12_laysBlocks_2 : decode cX12_laysBlocks 2 = .ok (.putfield 299, 3) := by decide +kernel
theorem dX12_laysBlocks_5 : decode cX12_laysBlocks 5 = .ok (.iconst 0, 1) := by decide +kernel
theorem dX12_laysBlocks_6 : decode cX12_laysBlocks 6 = .ok (.istore_n 1, 1) := by decide +kernel
theorem dX12_laysBlocks_7 : decode cX12_laysBlocks 7 = .ok (.iload_n 1, 1) := by decide +kernel
theorem dX12_laysBlocks_8 : decode cX12_laysBlocks 8 = .ok (.aload_n 0, 1) := by decide +kernel
theorem dX12_laysBlocks_9 : decode cX12_laysBlocks 9 = .ok (.getfield 286, 3) := by decide +kernel
theorem dX12_laysBlocks_12 : decode cX12_laysBlocks 12 = .ok (.if_icmp .ge 79, 3) := by decide +kernel
theorem dX12_laysBlocks_15 : decode cX12_laysBlocks 15 = .ok (.aload_n 0, 1) := by decide +kernel
theorem dX12_laysBlocks_16 : decode cX12_laysBlocks 16 = .ok (.getfield 53, 3) := by decide +kernel
theorem dX12_laysBlocks_19 : decode cX12_laysBlocks 19 = .ok (.iload_n 1, 1) := by decide +kernel
theorem dX12_laysBlocks_20 : decode cX12_laysBlocks 20 = .ok (.iconst (-1), 1) := by decide +kernel
theorem dX12_laysBlocks_21 : decode cX12_laysBlocks 21 = .ok (.iastore, 1) := by decide +kernel
theorem dX12_laysBlocks_22 : decode cX12_laysBlocks 22 = .ok (.aload_n 0, 1) := by decide +kernel
theorem dX12_laysBlocks_23 : decode cX12_laysBlocks 23 = .ok (.iload_n 1, 1) := by decide +kernel
theorem dX12_laysBlocks_24 : decode cX12_laysBlocks 24 = .ok (.invokevirtual 321, 3) := by decide +kernel
theorem dX12_laysBlocks_27 : decode cX12_laysBlocks 27 = .ok (.ifCond .ne 6, 3) := by decide +kernel
theorem dX12_laysBlocks_30 : decode cX12_laysBlocks 30 = .ok (.goto 55, 3) := by decide +kernel
theorem dX12_laysBlocks_33 : decode cX12_laysBlocks 33 = .ok (.aload_n 0, 1) := by decide +kernel
theorem dX12_laysBlocks_34 : decode cX12_laysBlocks 34 = .ok (.iload_n 1, 1) := by decide +kernel
theorem dX12_laysBlocks_35 : decode cX12_laysBlocks 35 = .ok (.invokevirtual 324, 3) := by decide +kernel
theorem dX12_laysBlocks_38 : decode cX12_laysBlocks 38 = .ok (.ifCond .eq 23, 3) := by decide +kernel
theorem dX12_laysBlocks_41 : decode cX12_laysBlocks 41 = .ok (.aload_n 0, 1) := by decide +kernel
theorem dX12_laysBlocks_42 : decode cX12_laysBlocks 42 = .ok (.getfield 47, 3) := by decide +kernel
theorem dX12_laysBlocks_45 : decode cX12_laysBlocks 45 = .ok (.aload_n 0, 1) := by decide +kernel
theorem dX12_laysBlocks_46 : decode cX12_laysBlocks 46 = .ok (.getfield 299, 3) := by decide +kernel
theorem dX12_laysBlocks_49 : decode cX12_laysBlocks 49 = .ok (.iload_n 1, 1) := by decide +kernel
theorem dX12_laysBlocks_50 : decode cX12_laysBlocks 50 = .ok (.iastore, 1) := by decide +kernel
theorem dX12_laysBlocks_51 : decode cX12_laysBlocks 51 = .ok (.aload_n 0, 1) := by decide +kernel
theorem dX12_laysBlocks_52 : decode cX12_laysBlocks 52 = .ok (.dup, 1) := by decide +kernel
theorem dX12_laysBlocks_53 : decode cX12_laysBlocks 53 = .ok (.getfield 299, 3) := by decide +kernel
theorem dX12_laysBlocks_56 : decode cX12_laysBlocks 56 = .ok (.iconst 1, 1) := by decide +kernel
theorem dX12_laysBlocks_57 : decode cX12_laysBlocks 57 = .ok (.iadd, 1) := by decide +kernel
theorem dX12_laysBlocks_58 : decode cX12_laysBlocks 58 = .ok (.putfield 299, 3) := by decide +kernel
theorem dX12_laysBlocks_61 : decode cX12_laysBlocks 61 = .ok (.aload_n 0, 1) := by decide +kernel
theorem dX12_laysBlocks_62 : decode cX12_laysBlocks 62 = .ok (.getfield 53, 3) := by decide +kernel
theorem dX12_laysBlocks_65 : decode cX12_laysBlocks 65 = .ok (.iload_n 1, 1) := by decide +kernel
theorem dX12_laysBlocks_66 : decode cX12_laysBlocks 66 = .ok (.aload_n 0, 1) := by decide +kernel
theorem dX12_laysBlocks_67 : decode cX12_laysBlocks 67 = .ok (.getfield 299, 3) := by decide +kernel
theorem dX12_laysBlocks_70 : decode cX12_laysBlocks 70 = .ok (.iconst 1, 1) := by decide +kernel
theorem dX12_laysBlocks_71 : decode cX12_laysBlocks 71 = .ok (.isub, 1) := by decide +kernel
theorem dX12_laysBlocks_72 : decode cX12_laysBlocks 72 = .ok (.iastore, 1) := by decide +kernel
theorem dX12_laysBlocks_73 : decode cX12_laysBlocks 73 = .ok (.aload_n 0, 1) := by decide +kernel
theorem dX12_laysBlocks_74 : decode cX12_laysBlocks 74 = .ok (.getfield 50, 3) := by decide +kernel
theorem dX12_laysBlocks_77 : decode cX12_laysBlocks 77 = .ok (.aload_n 0, 1) := by decide +kernel
theorem dX12_laysBlocks_78 : decode cX12_laysBlocks 78 = .ok (.getfield 299, 3) := by decide +kernel
theorem dX12_laysBlocks_81 : decode cX12_laysBlocks 81 = .ok (.iconst 1, 1) := by decide +kernel
theorem dX12_laysBlocks_82 : decode cX12_laysBlocks 82 = .ok (.isub, 1) := by decide +kernel
theorem dX12_laysBlocks_83 : decode cX12_laysBlocks 83 = .ok (.iload_n 1, 1) := by decide +kernel
theorem dX12_laysBlocks_84 : decode cX12_laysBlocks 84 = .ok (.iastore, 1) := by decide +kernel
theorem dX12_laysBlocks_85 : decode cX12_laysBlocks 85 = .ok (.iinc 1 1, 3) := by decide +kernel
theorem dX12_laysBlocks_88 : decode cX12_laysBlocks 88 = .ok (.goto (-81), 3) := by decide +kernel
theorem dX12_laysBlocks_91 : decode cX12_laysBlocks 91 = .ok (.return_, 1) := by decide +kernel
theorem dX12_laysEdge_0 : decode cX12_laysEdge 0 = .ok (.iconst 0, 1) := by decide +kernel
theorem dX12_laysEdge_1 : decode cX12_laysEdge 1 = .ok (.istore 4, 2) := by decide +kernel
theorem dX12_laysEdge_3 : decode cX12_laysEdge 3 = .ok (.iload 4, 2) := by decide +kernel
theorem dX12_laysEdge_5 : decode cX12_laysEdge 5 = .ok (.aload_n 0, 1) := by decide +kernel
theorem dX12_laysEdge_6 : decode cX12_laysEdge 6 = .ok (.getfield 327, 3) := by decide +kernel
theorem dX12_laysEdge_9 : decode cX12_laysEdge 9 = .ok (.if_icmp .ge 61, 3) := by decide +kernel
theorem dX12_laysEdge_12 : decode cX12_laysEdge 12 = .ok (.aload_n 0, 1) := by decide +kernel
theorem dX12_laysEdge_13 : decode cX12_laysEdge 13 = .ok (.getfield 59, 3) := by decide +kernel
theorem dX12_laysEdge_16 : decode cX12_laysEdge 16 = .ok (.iload 4, 2) := by decide +kernel
theorem dX12_laysEdge_18 : decode cX12_laysEdge 18 = .ok (.iaload, 1) := by decide +kernel
theorem dX12_laysEdge_19 : decode cX12_laysEdge 19 = .ok (.iload_n 1, 1) := by decide +kernel
theorem dX12_laysEdge_20 : decode cX12_laysEdge 20 = .ok (.if_icmp .ne 44, 3) := by decide +kernel
theorem dX12_laysEdge_23 : decode cX12_laysEdge 23 = .ok (.aload_n 0, 1) := by decide +kernel
theorem dX12_laysEdge_24 : decode cX12_laysEdge 24 = .ok (.getfield 62, 3) := by decide +kernel
theorem dX12_laysEdge_27 : decode cX12_laysEdge 27 = .ok (.iload 4, 2) := by decide +kernel
theorem dX12_laysEdge_29 : decode cX12_laysEdge 29 = .ok (.iaload, 1) := by decide +kernel
theorem dX12_laysEdge_30 : decode cX12_laysEdge 30 = .ok (.iload_n 2, 1) := by decide +kernel
theorem dX12_laysEdge_31 : decode cX12_laysEdge 31 = .ok (.if_icmp .eq 6, 3) := by decide +kernel
theorem dX12_laysEdge_34 : decode cX12_laysEdge 34 = .ok (.goto 30, 3) := by decide +kernel
theorem dX12_laysEdge_37 : decode cX12_laysEdge 37 = .ok (.aload_n 0, 1) := by decide +kernel
theorem dX12_laysEdge_38 : decode cX12_laysEdge 38 = .ok (.getfield 65, 3) := by decide +kernel
theorem dX12_laysEdge_41 : decode cX12_laysEdge 41 = .ok (.iload 4, 2) := by decide +kernel
theorem dX12_laysEdge_43 : decode cX12_laysEdge 43 = .ok (.aload_n 0, 1) := by decide +kernel
theorem dX12_laysEdge_44 : decode cX12_laysEdge 44 = .ok (.getfield 65, 3) := by decide +kernel
theorem dX12_laysEdge_47 : decode cX12_laysEdge 47 = .ok (.iload 4, 2) := by decide +kernel
theorem dX12_laysEdge_49 : decode cX12_laysEdge 49 = .ok (.baload, 1) := by decide +kernel
theorem dX12_laysEdge_50 : decode cX12_laysEdge 50 = .ok (.ifCond .ne 7, 3) := by decide +kernel
theorem dX12_laysEdge_53 : decode cX12_laysEdge 53 = .ok (.iload_n 3, 1) := by decide +kernel
theorem dX12_laysEdge_54 : decode cX12_laysEdge 54 = .ok (.ifCond .eq 7, 3) := by decide +kernel
theorem dX12_laysEdge_57 : decode cX12_laysEdge 57 = .ok (.iconst 1, 1) := by decide +kernel
theorem dX12_laysEdge_58 : decode cX12_laysEdge 58 = .ok (.goto 4, 3) := by decide +kernel
theorem dX12_laysEdge_61 : decode cX12_laysEdge 61 = .ok (.iconst 0, 1) := by decide +kernel
theorem dX12_laysEdge_62 : decode cX12_laysEdge 62 = .ok (.bastore, 1) := by decide +kernel
theorem dX12_laysEdge_63 : decode cX12_laysEdge 63 = .ok (.return_, 1) := by decide +kernel
theorem dX12_laysEdge_64 : decode cX12_laysEdge 64 = .ok (.iinc 4 1, 3) := by decide +kernel
theorem dX12_laysEdge_67 : decode cX12_laysEdge 67 = .ok (.goto (-64), 3) := by decide +kernel
theorem dX12_laysEdge_70 : decode cX12_laysEdge 70 = .ok (.aload_n 0, 1) := by decide +kernel
theorem dX12_laysEdge_71 : decode cX12_laysEdge 71 = .ok (.getfield 59, 3) := by decide +kernel
theorem dX12_laysEdge_74 : decode cX12_laysEdge 74 = .ok (.aload_n 0, 1) := by decide +kernel
theorem dX12_laysEdge_75 : decode cX12_laysEdge 75 = .ok (.getfield 327, 3) := by decide +kernel
theorem dX12_laysEdge_78 : decode cX12_laysEdge 78 = .ok (.iload_n 1, 1) := by decide +kernel
theorem dX12_laysEdge_79 : decode cX12_laysEdge 79 = .ok (.iastore, 1) := by decide +kernel
theorem dX12_laysEdge_80 : decode cX12_laysEdge 80 = .ok (.aload_n 0, 1) := by decide +kernel
theorem dX12_laysEdge_81 : decode cX12_laysEdge 81 = .ok (.getfield 62, 3) := by decide +kernel
theorem dX12_laysEdge_84 : decode cX12_laysEdge 84 = .ok (.aload_n 0, 1) := by decide +kernel
theorem dX12_laysEdge_85 : decode cX12_laysEdge 85 = .ok (.getfield 327, 3) := by decide +kernel
theorem dX12_laysEdge_88 : decode cX12_laysEdge 88 = .ok (.iload_n 2, 1) := by decide +kernel
theorem dX12_laysEdge_89 : decode cX12_laysEdge 89 = .ok (.iastore, 1) := by decide +kernel
theorem dX12_laysEdge_90 : decode cX12_laysEdge 90 = .ok (.aload_n 0, 1) := by decide +kernel
theorem dX12_laysEdge_91 : decode cX12_laysEdge 91 = .ok (.getfield 65, 3) := by decide +kernel
theorem dX12_laysEdge_94 : decode cX12_laysEdge 94 = .ok (.aload_n 0, 1) := by decide +kernel
theorem dX12_laysEdge_95 : decode cX12_laysEdge 95 = .ok (.getfield 327, 3) := by decide +kernel
theorem dX12_laysEdge_98 : decode cX12_laysEdge 98 = .ok (.iload_n 3, 1) := by decide +kernel
theorem dX12_laysEdge_99 : decode cX12_laysEdge 99 = .ok (.bastore, 1) := by decide +kernel
theorem dX12_laysEdge_100 : decode cX12_laysEdge 100 = .ok (.aload_n 0, 1) := by decide +kernel
theorem dX12_laysEdge_101 : decode cX12_laysEdge 101 = .ok (.dup, 1) := by decide +kernel
theorem dX12_laysEdge_102 : decode cX12_laysEdge 102 = .ok (.getfield 327, 3) := by decide +kernel
theorem dX12_laysEdge_105 : decode cX12_laysEdge 105 = .ok (.iconst 1, 1) := by decide +kernel
theorem dX12_laysEdge_106 : decode cX12_laysEdge 106 = .ok (.iadd, 1) := by decide +kernel
theorem dX12_laysEdge_107 : decode cX12_laysEdge 107 = .ok (.putfield 327, 3) := by decide +kernel
theorem dX12_laysEdge_110 : decode cX12_laysEdge 110 = .ok (.return_, 1) := by decide +kernel
theorem dX12_laysEdges_0 : decode cX12_laysEdges 0 = .ok (.aload_n 0, 1) := by decide +kernel
theorem dX12_laysEdges_1 : decode cX12_laysEdges 1 = .ok (.iconst 0, 1) := by decide +kernel
theorem dX12_laysEdges_2 : decode cX12_laysEdges 2 = .ok (.putfield 327, 3) := by decide +kernel
theorem dX12_laysEdges_5 : decode cX12_laysEdges 5 = .ok (.iconst 0, 1) := by decide +kernel
theorem dX12_laysEdges_6 : decode cX12_laysEdges 6 = .ok (.istore_n 1, 1) := by decide +kernel
theorem dX12_laysEdges_7 : decode cX12_laysEdges 7 = .ok (.iload_n 1, 1) := by decide +kernel
theorem dX12_laysEdges_8 : decode cX12_laysEdges 8 = .ok (.aload_n 0, 1) := by decide +kernel
theorem dX12_laysEdges_9 : decode cX12_laysEdges 9 = .ok (.getfield 299, 3) := by decide +kernel
theorem dX12_laysEdges_12 : decode cX12_laysEdges 12 = .ok (.if_icmp .ge 182, 3) := by decide +kernel
theorem dX12_laysEdges_15 : decode cX12_laysEdges 15 = .ok (.aload_n 0, 1) := by decide +kernel
theorem dX12_laysEdges_16 : decode cX12_laysEdges 16 = .ok (.getfield 23, 3) := by decide +kernel
theorem dX12_laysEdges_19 : decode cX12_laysEdges 19 = .ok (.aload_n 0, 1) := by decide +kernel
theorem dX12_laysEdges_20 : decode cX12_laysEdges 20 = .ok (.getfield 50, 3) := by decide +kernel
theorem dX12_laysEdges_23 : decode cX12_laysEdges 23 = .ok (.iload_n 1, 1) := by decide +kernel
theorem dX12_laysEdges_24 : decode cX12_laysEdges 24 = .ok (.iaload, 1) := by decide +kernel
theorem dX12_laysEdges_25 : decode cX12_laysEdges 25 = .ok (.iaload, 1) := by decide +kernel
theorem dX12_laysEdges_26 : decode cX12_laysEdges 26 = .ok (.istore_n 2, 1) := by decide +kernel
theorem dX12_laysEdges_27 : decode cX12_laysEdges 27 = .ok (.iload_n 2, 1) := by decide +kernel
theorem dX12_laysEdges_28 : decode cX12_laysEdges 28 = .ok (.invokestatic 272, 3) := by decide +kernel
theorem dX12_laysEdges_31 : decode cX12_laysEdges 31 = .ok (.ifCond .eq 22, 3) := by decide +kernel
theorem dX12_laysEdges_34 : decode cX12_laysEdges 34 = .ok (.aload_n 0, 1) := by decide +kernel
theorem dX12_laysEdges_35 : decode cX12_laysEdges 35 = .ok (.iload_n 1, 1) := by decide +kernel
theorem dX12_laysEdges_36 : decode cX12_laysEdges 36 = .ok (.aload_n 0, 1) := by decide +kernel
theorem dX12_laysEdges_37 : decode cX12_laysEdges 37 = .ok (.getfield 53, 3) := by decide +kernel
theorem dX12_laysEdges_40 : decode cX12_laysEdges 40 = .ok (.aload_n 0, 1) := by decide +kernel
theorem dX12_laysEdges_41 : decode cX12_laysEdges 41 = .ok (.getfield 50, 3) := by decide +kernel
theorem dX12_laysEdges_44 : decode cX12_laysEdges 44 = .ok (.iload_n 1, 1) := by decide +kernel
theorem dX12_laysEdges_45 : decode cX12_laysEdges 45 = .ok (.iaload, 1) := by decide +kernel
theorem dX12_laysEdges_46 : decode cX12_laysEdges 46 = .ok (.iconst 1, 1) := by decide +kernel
theorem dX12_laysEdges_47 : decode cX12_laysEdges 47 = .ok (.iadd, 1) := by decide +kernel
theorem dX12_laysEdges_48 : decode cX12_laysEdges 48 = .ok (.iaload, 1) := by decide +kernel
theorem dX12_laysEdges_49 : decode cX12_laysEdges 49 = .ok (.iconst 0, 1) := by decide +kernel
theorem dX12_laysEdges_50 : decode cX12_laysEdges 50 = .ok (.invokevirtual 330, 3) := by decide +kernel
theorem dX12_laysEdges_53 : decode cX12_laysEdges 53 = .ok (.iload_n 2, 1) := by decide +kernel
theorem dX12_laysEdges_54 : decode cX12_laysEdges 54 = .ok (.invokestatic 257, 3) := by decide +kernel
theorem dX12_laysEdges_57 : decode cX12_laysEdges 57 = .ok (.ifCond .eq 25, 3) := by decide +kernel
theorem dX12_laysEdges_60 : decode cX12_laysEdges 60 = .ok (.aload_n 0, 1) := by decide +kernel
theorem dX12_laysEdges_61 : decode cX12_laysEdges 61 = .ok (.iload_n 1, 1) := by decide +kernel
theorem dX12_laysEdges_62 : decode cX12_laysEdges 62 = .ok (.aload_n 0, 1) := by decide +kernel
theorem dX12_laysEdges_63 : decode cX12_laysEdges 63 = .ok (.getfield 53, 3) := by decide +kernel
theorem dX12_laysEdges_66 : decode cX12_laysEdges 66 = .ok (.aload_n 0, 1) := by decide +kernel
theorem dX12_laysEdges_67 : decode cX12_laysEdges 67 = .ok (.getfield 26, 3) := by decide +kernel
theorem dX12_laysEdges_70 : decode cX12_laysEdges 70 = .ok (.aload_n 0, 1) := by decide +kernel
theorem dX12_laysEdges_71 : decode cX12_laysEdges 71 = .ok (.getfield 50, 3) := by decide +kernel
theorem dX12_laysEdges_74 : decode cX12_laysEdges 74 = .ok (.iload_n 1, 1) := by decide +kernel
theorem dX12_laysEdges_75 : decode cX12_laysEdges 75 = .ok (.iaload, 1) := by decide +kernel
theorem dX12_laysEdges_76 : decode cX12_laysEdges 76 = .ok (.iaload, 1) := by decide +kernel
theorem dX12_laysEdges_77 : decode cX12_laysEdges 77 = .ok (.iaload, 1) := by decide +kernel
theorem dX12_laysEdges_78 : decode cX12_laysEdges 78 = .ok (.iconst 0, 1) := by decide +kernel
theorem dX12_laysEdges_79 : decode cX12_laysEdges 79 = .ok (.invokevirtual 330, 3) := by decide +kernel
theorem dX12_laysEdges_82 : decode cX12_laysEdges 82 = .ok (.aload_n 0, 1) := by decide +kernel
theorem dX12_laysEdges_83 : decode cX12_laysEdges 83 = .ok (.getfield 56, 3) := by decide +kernel
theorem dX12_laysEdges_86 : decode cX12_laysEdges 86 = .ok (.iload_n 1, 1) := by decide +kernel
theorem dX12_laysEdges_87 : decode cX12_laysEdges 87 = .ok (.iconst (-1), 1) := by decide +kernel
theorem dX12_laysEdges_88 : decode cX12_laysEdges 88 = .ok (.iastore, 1) := by decide +kernel
theorem dX12_laysEdges_89 : decode cX12_laysEdges 89 = .ok (.aload_n 0, 1) := by decide +kernel
theorem dX12_laysEdges_90 : decode cX12_laysEdges 90 = .ok (.getfield 47, 3) := by decide +kernel
theorem dX12_laysEdges_93 : decode cX12_laysEdges 93 = .ok (.iload_n 1, 1) := by decide +kernel
theorem dX12_laysEdges_94 : decode cX12_laysEdges 94 = .ok (.iaload, 1) := by decide +kernel
theorem dX12_laysEdges_95 : decode cX12_laysEdges 95 = .ok (.istore_n 3, 1) := by decide +kernel
theorem dX12_laysEdges_96 : decode cX12_laysEdges 96 = .ok (.iload_n 3, 1) := by decide +kernel
theorem dX12_laysEdges_97 : decode cX12_laysEdges 97 = .ok (.aload_n 0, 1) := by decide +kernel
theorem dX12_laysEdges_98 : decode cX12_laysEdges 98 = .ok (.getfield 50, 3) := by decide +kernel
theorem dX12_laysEdges_101 : decode cX12_laysEdges 101 = .ok (.iload_n 1, 1) := by decide +kernel
theorem dX12_laysEdges_102 : decode cX12_laysEdges 102 = .ok (.iaload, 1) := by decide +kernel
theorem dX12_laysEdges_103 : decode cX12_laysEdges 103 = .ok (.if_icmp .gt 63, 3) := by decide +kernel
theorem dX12_laysEdges_106 : decode cX12_laysEdges 106 = .ok (.aload_n 0, 1) := by decide +kernel
theorem dX12_laysEdges_107 : decode cX12_laysEdges 107 = .ok (.getfield 29, 3) := by decide +kernel
theorem dX12_laysEdges_110 : decode cX12_laysEdges 110 = .ok (.aload_n 0, 1) := by decide +kernel
theorem dX12_laysEdges_111 : decode cX12_laysEdges 111 = .ok (.getfield 289, 3) := by decide +kernel
theorem dX12_laysEdges_114 : decode cX12_laysEdges 114 = .ok (.iload_n 3, 1) := by decide +kernel
theorem dX12_laysEdges_115 : decode cX12_laysEdges 115 = .ok (.invokestatic 279, 3) := by decide +kernel
theorem dX12_laysEdges_118 : decode cX12_laysEdges 118 = .ok (.istore 4, 2) := by decide +kernel
theorem dX12_laysEdges_120 : decode cX12_laysEdges 120 = .ok (.aload_n 0, 1) := by decide +kernel
theorem dX12_laysEdges_121 : decode cX12_laysEdges 121 = .ok (.getfield 23, 3) := by decide +kernel
theorem dX12_laysEdges_124 : decode cX12_laysEdges 124 = .ok (.iload_n 3, 1) := by decide +kernel
theorem dX12_laysEdges_125 : decode cX12_laysEdges 125 = .ok (.iaload, 1) := by decide +kernel
theorem dX12_laysEdges_126 : decode cX12_laysEdges 126 = .ok (.invokestatic 283, 3) := by decide +kernel
theorem dX12_laysEdges_129 : decode cX12_laysEdges 129 = .ok (.ifCond .eq 31, 3) := by decide +kernel
theorem dX12_laysEdges_132 : decode cX12_laysEdges 132 = .ok (.iload 4, 2) := by decide +kernel
theorem dX12_laysEdges_134 : decode cX12_laysEdges 134 = .ok (.iconst (-1), 1) := by decide +kernel
theorem dX12_laysEdges_135 : decode cX12_laysEdges 135 = .ok (.if_icmp .eq 25, 3) := by decide +kernel
theorem dX12_laysEdges_138 : decode cX12_laysEdges 138 = .ok (.aload_n 0, 1) := by decide +kernel
theorem dX12_laysEdges_139 : decode cX12_laysEdges 139 = .ok (.getfield 56, 3) := by decide +kernel
theorem dX12_laysEdges_142 : decode cX12_laysEdges 142 = .ok (.iload_n 1, 1) := by decide +kernel
theorem dX12_laysEdges_143 : decode cX12_laysEdges 143 = .ok (.aload_n 0, 1) := by decide +kernel
theorem dX12_laysEdges_144 : decode cX12_laysEdges 144 = .ok (.getfield 53, 3) := by decide +kernel
theorem dX12_laysEdges_147 : decode cX12_laysEdges 147 = .ok (.aload_n 0, 1) := by decide +kernel
theorem dX12_laysEdges_148 : decode cX12_laysEdges 148 = .ok (.getfield 29, 3) := by decide +kernel
theorem dX12_laysEdges_151 : decode cX12_laysEdges 151 = .ok (.iconst 3, 1) := by decide +kernel
theorem dX12_laysEdges_152 : decode cX12_laysEdges 152 = .ok (.iload 4, 2) := by decide +kernel
theorem dX12_laysEdges_154 : decode cX12_laysEdges 154 = .ok (.imul, 1) := by decide +kernel
theorem dX12_laysEdges_155 : decode cX12_laysEdges 155 = .ok (.iconst 2, 1) := by decide +kernel
theorem dX12_laysEdges_156 : decode cX12_laysEdges 156 = .ok (.iadd, 1) := by decide +kernel
theorem dX12_laysEdges_157 : decode cX12_laysEdges 157 = .ok (.iaload, 1) := by decide +kernel
theorem dX12_laysEdges_158 : decode cX12_laysEdges 158 = .ok (.iaload, 1) := by decide +kernel
theorem dX12_laysEdges_159 : decode cX12_laysEdges 159 = .ok (.iastore, 1) := by decide +kernel
theorem dX12_laysEdges_160 : decode cX12_laysEdges 160 = .ok (.iinc 3 1, 3) := by decide +kernel
theorem dX12_laysEdges_163 : decode cX12_laysEdges 163 = .ok (.goto (-67), 3) := by decide +kernel
theorem dX12_laysEdges_166 : decode cX12_laysEdges 166 = .ok (.aload_n 0, 1) := by decide +kernel
theorem dX12_laysEdges_167 : decode cX12_laysEdges 167 = .ok (.getfield 56, 3) := by decide +kernel
theorem dX12_laysEdges_170 : decode cX12_laysEdges 170 = .ok (.iload_n 1, 1) := by decide +kernel
theorem dX12_laysEdges_171 : decode cX12_laysEdges 171 = .ok (.iaload, 1) := by decide +kernel
theorem dX12_laysEdges_172 : decode cX12_laysEdges 172 = .ok (.iconst (-1), 1) := by decide +kernel
theorem dX12_laysEdges_173 : decode cX12_laysEdges 173 = .ok (.if_icmp .eq 15, 3) := by decide +kernel
theorem dX12_laysEdges_176 : decode cX12_laysEdges 176 = .ok (.aload_n 0, 1) := by decide +kernel
theorem dX12_laysEdges_177 : decode cX12_laysEdges 177 = .ok (.iload_n 1, 1) := by decide +kernel
theorem dX12_laysEdges_178 : decode cX12_laysEdges 178 = .ok (.aload_n 0, 1) := by decide +kernel
theorem dX12_laysEdges_179 : decode cX12_laysEdges 179 = .ok (.getfield 56, 3) := by decide +kernel
theorem dX12_laysEdges_182 : decode cX12_laysEdges 182 = .ok (.iload_n 1, 1) := by decide +kernel
theorem dX12_laysEdges_183 : decode cX12_laysEdges 183 = .ok (.iaload, 1) := by decide +kernel
theorem dX12_laysEdges_184 : decode cX12_laysEdges 184 = .ok (.iconst 1, 1) := by decide +kernel
theorem dX12_laysEdges_185 : decode cX12_laysEdges 185 = .ok (.invokevirtual 330, 3) := by decide +kernel
theorem dX12_laysEdges_188 : decode cX12_laysEdges 188 = .ok (.iinc 1 1, 3) := by decide +kernel
theorem dX12_laysEdges_191 : decode cX12_laysEdges 191 = .ok (.goto (-184), 3) := by decide +kernel
theorem dX12_laysEdges_194 : decode cX12_laysEdges 194 = .ok (.return_, 1) := by decide +kernel
theorem dX12_reached_0 : decode cX12_reached 0 = .ok (.lconst 1, 1) := by decide +kernel
theorem dX12_reached_1 : decode cX12_reached 1 = .ok (.iload_n 1, 1) := by decide +kernel
theorem dX12_reached_2 : decode cX12_reached 2 = .ok (.lshl, 1) := by decide +kernel
theorem dX12_reached_3 : decode cX12_reached 3 = .ok (.lstore 4, 2) := by decide +kernel
theorem dX12_reached_5 : decode cX12_reached 5 = .ok (.iconst 1, 1) := by decide +kernel
theorem dX12_reached_6 : decode cX12_reached 6 = .ok (.istore 6, 2) := by decide +kernel
theorem dX12_reached_8 : decode cX12_reached 8 = .ok (.iload 6, 2) := by decide +kernel
theorem dX12_reached_10 : decode cX12_reached 10 = .ok (.ifCond .eq 101, 3) := by decide +kernel
theorem dX12_reached_13 : decode cX12_reached 13 = .ok (.iconst 0, 1) := by decide +kernel
theorem dX12_reached_14 : decode cX12_reached 14 = .ok (.istore 6, 2) := by decide +kernel
theorem dX12_reached_16 : decode cX12_reached 16 = .ok (.iconst 0, 1) := by decide +kernel
theorem dX12_reached_17 : decode cX12_reached 17 = .ok (.istore 7, 2) := by decide +kernel
theorem dX12_reached_19 : decode cX12_reached 19 = .ok (.iload 7, 2) := by decide +kernel
theorem dX12_reached_21 : decode cX12_reached 21 = .ok (.aload_n 0, 1) := by decide +kernel
theorem dX12_reached_22 : decode cX12_reached 22 = .ok (.getfield 327, 3) := by decide +kernel
theorem dX12_reached_25 : decode cX12_reached 25 = .ok (.if_icmp .ge 83, 3) := by decide +kernel
theorem dX12_reached_28 : decode cX12_reached 28 = .ok (.aload_n 0, 1) := by decide +kernel
theorem dX12_reached_29 : decode cX12_reached 29 = .ok (.getfield 69, 3) := by decide +kernel
theorem dX12_reached_32 : decode cX12_reached 32 = .ok (.iload 7, 2) := by decide +kernel
theorem dX12_reached_34 : decode cX12_reached 34 = .ok (.baload, 1) := by decide +kernel
theorem dX12_reached_35 : decode cX12_reached 35 = .ok (.ifCond .ne 67, 3) := by decide +kernel
theorem dX12_reached_38 : decode cX12_reached 38 = .ok (.lload 4, 2) := by decide +kernel
theorem dX12_reached_40 : decode cX12_reached 40 = .ok (.aload_n 0, 1) := by decide +kernel
theorem dX12_reached_41 : decode cX12_reached 41 = .ok (.getfield 59, 3) := by decide +kernel
theorem dX12_reached_44 : decode cX12_reached 44 = .ok (.iload 7, 2) := by decide +kernel
theorem dX12_reached_46 : decode cX12_reached 46 = .ok (.iaload, 1) := by decide +kernel
theorem dX12_reached_47 : decode cX12_reached 47 = .ok (.invokestatic 173, 3) := by decide +kernel
theorem dX12_reached_50 : decode cX12_reached 50 = .ok (.ifCond .eq 52, 3) := by decide +kernel
theorem dX12_reached_53 : decode cX12_reached 53 = .ok (.lload 4, 2) := by decide +kernel
theorem dX12_reached_55 : decode cX12_reached 55 = .ok (.aload_n 0, 1) := by decide +kernel
theorem dX12_reached_56 : decode cX12_reached 56 = .ok (.getfield 62, 3) := by decide +kernel
theorem dX12_reached_59 : decode cX12_reached 59 = .ok (.iload 7, 2) := by decide +kernel
theorem dX12_reached_61 : decode cX12_reached 61 = .ok (.iaload, 1) := by decide +kernel
theorem dX12_reached_62 : decode cX12_reached 62 = .ok (.invokestatic 173, 3) := by decide +kernel
theorem dX12_reached_65 : decode cX12_reached 65 = .ok (.ifCond .ne 37, 3) := by decide +kernel
theorem dX12_reached_68 : decode cX12_reached 68 = .ok (.lload_n 2, 1) := by decide +kernel
theorem dX12_reached_69 : decode cX12_reached 69 = .ok (.aload_n 0, 1) := by decide +kernel
theorem dX12_reached_70 : decode cX12_reached 70 = .ok (.getfield 62, 3) := by decide +kernel
theorem dX12_reached_73 : decode cX12_reached 73 = .ok (.iload 7, 2) := by decide +kernel
theorem dX12_reached_75 : decode cX12_reached 75 = .ok (.iaload, 1) := by decide +kernel
theorem dX12_reached_76 : decode cX12_reached 76 = .ok (.invokestatic 173, 3) := by decide +kernel
theorem dX12_reached_79 : decode cX12_reached 79 = .ok (.ifCond .eq 6, 3) := by decide +kernel
theorem dX12_reached_82 : decode cX12_reached 82 = .ok (.goto 20, 3) := by decide +kernel
theorem dX12_reached_85 : decode cX12_reached 85 = .ok (.lload 4, 2) := by decide +kernel
theorem dX12_reached_87 : decode cX12_reached 87 = .ok (.lconst 1, 1) := by decide +kernel
theorem dX12_reached_88 : decode cX12_reached 88 = .ok (.aload_n 0, 1) := by decide +kernel
theorem dX12_reached_89 : decode cX12_reached 89 = .ok (.getfield 62, 3) := by decide +kernel
theorem dX12_reached_92 : decode cX12_reached 92 = .ok (.iload 7, 2) := by decide +kernel
theorem dX12_reached_94 : decode cX12_reached 94 = .ok (.iaload, 1) := by decide +kernel
theorem dX12_reached_95 : decode cX12_reached 95 = .ok (.lshl, 1) := by decide +kernel
theorem dX12_reached_96 : decode cX12_reached 96 = .ok (.lor, 1) := by decide +kernel
theorem dX12_reached_97 : decode cX12_reached 97 = .ok (.lstore 4, 2) := by decide +kernel
theorem dX12_reached_99 : decode cX12_reached 99 = .ok (.iconst 1, 1) := by decide +kernel
theorem dX12_reached_100 : decode cX12_reached 100 = .ok (.istore 6, 2) := by decide +kernel
theorem dX12_reached_102 : decode cX12_reached 102 = .ok (.iinc 7 1, 3) := by decide +kernel
theorem dX12_reached_105 : decode cX12_reached 105 = .ok (.goto (-86), 3) := by decide +kernel
theorem dX12_reached_108 : decode cX12_reached 108 = .ok (.goto (-100), 3) := by decide +kernel
theorem dX12_reached_111 : decode cX12_reached 111 = .ok (.lload 4, 2) := by decide +kernel
theorem dX12_reached_113 : decode cX12_reached 113 = .ok (.lreturn, 1) := by decide +kernel
theorem dX12_all_0 : decode cX12_all 0 = .ok (.lconst 1, 1) := by decide +kernel
theorem dX12_all_1 : decode cX12_all 1 = .ok (.aload_n 0, 1) := by decide +kernel
theorem dX12_all_2 : decode cX12_all 2 = .ok (.getfield 299, 3) := by decide +kernel
theorem dX12_all_5 : decode cX12_all 5 = .ok (.lshl, 1) := by decide +kernel
theorem dX12_all_6 : decode cX12_all 6 = .ok (.lconst 1, 1) := by decide +kernel
theorem dX12_all_7 : decode cX12_all 7 = .ok (.lsub, 1) := by decide +kernel
theorem dX12_all_8 : decode cX12_all 8 = .ok (.lreturn, 1) := by decide +kernel
theorem dX12_laysDominators_0 : decode cX12_laysDominators 0 = .ok (.iconst 0, 1) := by decide +kernel
theorem dX12_laysDominators_1 : decode cX12_laysDominators 1 = .ok (.istore_n 1, 1) := by decide +kernel
theorem dX12_laysDominators_2 : decode cX12_laysDominators 2 = .ok (.iload_n 1, 1) := by decide +kernel
theorem dX12_laysDominators_3 : decode cX12_laysDominators 3 = .ok (.aload_n 0, 1) := by decide +kernel
theorem dX12_laysDominators_4 : decode cX12_laysDominators 4 = .ok (.getfield 299, 3) := by decide +kernel
theorem dX12_laysDominators_7 : decode cX12_laysDominators 7 = .ok (.if_icmp .ge 16, 3) := by decide +kernel
theorem dX12_laysDominators_10 : decode cX12_laysDominators 10 = .ok (.aload_n 0, 1) := by decide +kernel
theorem dX12_laysDominators_11 : decode cX12_laysDominators 11 = .ok (.getfield 75, 3) := by decide +kernel
theorem dX12_laysDominators_14 : decode cX12_laysDominators 14 = .ok (.iload_n 1, 1) := by decide +kernel
theorem dX12_laysDominators_15 : decode cX12_laysDominators 15 = .ok (.lconst 0, 1) := by decide +kernel
theorem dX12_laysDominators_16 : decode cX12_laysDominators 16 = .ok (.lastore, 1) := by decide +kernel
theorem dX12_laysDominators_17 : decode cX12_laysDominators 17 = .ok (.iinc 1 1, 3) := by decide +kernel
theorem dX12_laysDominators_20 : decode cX12_laysDominators 20 = .ok (.goto (-18), 3) := by decide +kernel
theorem dX12_laysDominators_23 : decode cX12_laysDominators 23 = .ok (.iconst 0, 1) := by decide +kernel
theorem dX12_laysDominators_24 : decode cX12_laysDominators 24 = .ok (.istore_n 1, 1) := by decide +kernel
theorem dX12_laysDominators_25 : decode cX12_laysDominators 25 = .ok (.iload_n 1, 1) := by decide +kernel
theorem dX12_laysDominators_26 : decode cX12_laysDominators 26 = .ok (.aload_n 0, 1) := by decide +kernel
theorem dX12_laysDominators_27 : decode cX12_laysDominators 27 = .ok (.getfield 299, 3) := by decide +kernel
theorem dX12_laysDominators_30 : decode cX12_laysDominators 30 = .ok (.if_icmp .ge 66, 3) := by decide +kernel
theorem dX12_laysDominators_33 : decode cX12_laysDominators 33 = .ok (.iload_n 1, 1) := by decide +kernel
theorem dX12_laysDominators_34 : decode cX12_laysDominators 34 = .ok (.ifCond .ne 7, 3) := by decide +kernel
theorem dX12_laysDominators_37 : decode cX12_laysDominators 37 = .ok (.lconst 0, 1) := by decide +kernel
theorem dX12_laysDominators_38 : decode cX12_laysDominators 38 = .ok (.goto 11, 3) := by decide +kernel
theorem dX12_laysDominators_41 : decode cX12_laysDominators 41 = .ok (.aload_n 0, 1) := by decide +kernel
theorem dX12_laysDominators_42 : decode cX12_laysDominators 42 = .ok (.iconst 0, 1) := by decide +kernel
theorem dX12_laysDominators_43 : decode cX12_laysDominators 43 = .ok (.lconst 1, 1) := by decide +kernel
theorem dX12_laysDominators_44 : decode cX12_laysDominators 44 = .ok (.iload_n 1, 1) := by decide +kernel
theorem dX12_laysDominators_45 : decode cX12_laysDominators 45 = .ok (.lshl, 1) := by decide +kernel
theorem dX12_laysDominators_46 : decode cX12_laysDominators 46 = .ok (.invokevirtual 334, 3) := by decide +kernel
theorem dX12_laysDominators_49 : decode cX12_laysDominators 49 = .ok (.lstore_n 2, 1) := by decide +kernel
theorem dX12_laysDominators_50 : decode cX12_laysDominators 50 = .ok (.iconst 0, 1) := by decide +kernel
theorem dX12_laysDominators_51 : decode cX12_laysDominators 51 = .ok (.istore 4, 2) := by decide +kernel
theorem dX12_laysDominators_53 : decode cX12_laysDominators 53 = .ok (.iload 4, 2) := by decide +kernel
theorem dX12_laysDominators_55 : decode cX12_laysDominators 55 = .ok (.aload_n 0, 1) := by decide +kernel
theorem dX12_laysDominators_56 : decode cX12_laysDominators 56 = .ok (.getfield 299, 3) := by decide +kernel
theorem dX12_laysDominators_59 : decode cX12_laysDominators 59 = .ok (.if_icmp .ge 31, 3) := by decide +kernel
theorem dX12_laysDominators_62 : decode cX12_laysDominators 62 = .ok (.lload_n 2, 1) := by decide +kernel
theorem dX12_laysDominators_63 : decode cX12_laysDominators 63 = .ok (.iload 4, 2) := by decide +kernel
theorem dX12_laysDominators_65 : decode cX12_laysDominators 65 = .ok (.invokestatic 173, 3) := by decide +kernel
theorem dX12_laysDominators_68 : decode cX12_laysDominators 68 = .ok (.ifCond .ne 16, 3) := by decide +kernel
theorem dX12_laysDominators_71 : decode cX12_laysDominators 71 = .ok (.aload_n 0, 1) := by decide +kernel
theorem dX12_laysDominators_72 : decode cX12_laysDominators 72 = .ok (.getfield 75, 3) := by decide +kernel
theorem dX12_laysDominators_75 : decode cX12_laysDominators 75 = .ok (.iload 4, 2) := by decide +kernel
theorem dX12_laysDominators_77 : decode cX12_laysDominators 77 = .ok (.dup2, 1) := by decide +kernel
theorem dX12_laysDominators_78 : decode cX12_laysDominators 78 = .ok (.laload, 1) := by decide +kernel
theorem dX12_laysDominators_79 : decode cX12_laysDominators 79 = .ok (.lconst 1, 1) := by decide +kernel
theorem dX12_laysDominators_80 : decode cX12_laysDominators 80 = .ok (.iload_n 1, 1) := by decide +kernel
theorem dX12_laysDominators_81 : decode cX12_laysDominators 81 = .ok (.lshl, 1) := by decide +kernel
theorem dX12_laysDominators_82 : decode cX12_laysDominators 82 = .ok (.lor, 1) := by decide +kernel
theorem dX12_laysDominators_83 : decode cX12_laysDominators 83 = .ok (.lastore, 1) := by decide +kernel
theorem dX12_laysDominators_84 : decode cX12_laysDominators 84 = .ok (.iinc 4 1, 3) := by decide +kernel
theorem dX12_laysDominators_87 : decode cX12_laysDominators 87 = .ok (.goto (-34), 3) := by decide +kernel
theorem dX12_laysDominators_90 : decode cX12_laysDominators 90 = .ok (.iinc 1 1, 3) := by decide +kernel
theorem dX12_laysDominators_93 : decode cX12_laysDominators 93 = .ok (.goto (-68), 3) := by decide +kernel
theorem dX12_laysDominators_96 : decode cX12_laysDominators 96 = .ok (.iconst 0, 1) := by decide +kernel
theorem dX12_laysDominators_97 : decode cX12_laysDominators 97 = .ok (.istore_n 1, 1) := by decide +kernel
theorem dX12_laysDominators_98 : decode cX12_laysDominators 98 = .ok (.iload_n 1, 1) := by decide +kernel
theorem dX12_laysDominators_99 : decode cX12_laysDominators 99 = .ok (.aload_n 0, 1) := by decide +kernel
theorem dX12_laysDominators_100 : decode cX12_laysDominators 100 = .ok (.getfield 327, 3) := by decide +kernel
theorem dX12_laysDominators_103 : decode cX12_laysDominators 103 = .ok (.if_icmp .ge 52, 3) := by decide +kernel
theorem dX12_laysDominators_106 : decode cX12_laysDominators 106 = .ok (.aload_n 0, 1) := by decide +kernel
theorem dX12_laysDominators_107 : decode cX12_laysDominators 107 = .ok (.getfield 72, 3) := by decide +kernel
theorem dX12_laysDominators_110 : decode cX12_laysDominators 110 = .ok (.iload_n 1, 1) := by decide +kernel
theorem dX12_laysDominators_111 : decode cX12_laysDominators 111 = .ok (.aload_n 0, 1) := by decide +kernel
theorem dX12_laysDominators_112 : decode cX12_laysDominators 112 = .ok (.getfield 69, 3) := by decide +kernel
theorem dX12_laysDominators_115 : decode cX12_laysDominators 115 = .ok (.iload_n 1, 1) := by decide +kernel
theorem dX12_laysDominators_116 : decode cX12_laysDominators 116 = .ok (.baload, 1) := by decide +kernel
theorem dX12_laysDominators_117 : decode cX12_laysDominators 117 = .ok (.ifCond .ne 30, 3) := by decide +kernel
theorem dX12_laysDominators_120 : decode cX12_laysDominators 120 = .ok (.aload_n 0, 1) := by decide +kernel
theorem dX12_laysDominators_121 : decode cX12_laysDominators 121 = .ok (.getfield 75, 3) := by decide +kernel
theorem dX12_laysDominators_124 : decode cX12_laysDominators 124 = .ok (.aload_n 0, 1) := by decide +kernel
theorem dX12_laysDominators_125 : decode cX12_laysDominators 125 = .ok (.getfield 59, 3) := by decide +kernel
theorem dX12_laysDominators_128 : decode cX12_laysDominators 128 = .ok (.iload_n 1, 1) := by decide +kernel
theorem dX12_laysDominators_129 : decode cX12_laysDominators 129 = .ok (.iaload, 1) := by decide +kernel
theorem dX12_laysDominators_130 : decode cX12_laysDominators 130 = .ok (.laload, 1) := by decide +kernel
theorem dX12_laysDominators_131 : decode cX12_laysDominators 131 = .ok (.aload_n 0, 1) := by decide +kernel
theorem dX12_laysDominators_132 : decode cX12_laysDominators 132 = .ok (.getfield 62, 3) := by decide +kernel
theorem dX12_laysDominators_135 : decode cX12_laysDominators 135 = .ok (.iload_n 1, 1) := by decide +kernel
theorem dX12_laysDominators_136 : decode cX12_laysDominators 136 = .ok (.iaload, 1) := by decide +kernel
theorem dX12_laysDominators_137 : decode cX12_laysDominators 137 = .ok (.invokestatic 173, 3) := by decide +kernel
theorem dX12_laysDominators_140 : decode cX12_laysDominators 140 = .ok (.ifCond .eq 7, 3) := by decide +kernel
theorem dX12_laysDominators_143 : decode cX12_laysDominators 143 = .ok (.iconst 1, 1) := by decide +kernel
theorem dX12_laysDominators_144 : decode cX12_laysDominators 144 = .ok (.goto 4, 3) := by decide +kernel
theorem dX12_laysDominators_147 : decode cX12_laysDominators 147 = .ok (.iconst 0, 1) := by decide +kernel
theorem dX12_laysDominators_148 : decode cX12_laysDominators 148 = .ok (.bastore, 1) := by decide +kernel
theorem dX12_laysDominators_149 : decode cX12_laysDominators 149 = .ok (.iinc 1 1, 3) := by decide +kernel
theorem dX12_laysDominators_152 : decode cX12_laysDominators 152 = .ok (.goto (-54), 3) := by decide +kernel
theorem dX12_laysDominators_155 : decode cX12_laysDominators 155 = .ok (.return_, 1) := by decide +kernel
theorem dX12_isReduced_0 : decode cX12_isReduced 0 = .ok (.lconst 0, 1) := by decide +kernel
theorem dX12_isReduced_1 : decode cX12_isReduced 1 = .ok (.lstore_n 1, 1) := by decide +kernel
theorem dX12_isReduced_2 : decode cX12_isReduced 2 = .ok (.iconst 1, 1) := by decide +kernel
theorem dX12_isReduced_3 : decode cX12_isReduced 3 = .ok (.istore_n 3, 1) := by decide +kernel
theorem dX12_isReduced_4 : decode cX12_isReduced 4 = .ok (.iload_n 3, 1) := by decide +kernel
theorem dX12_isReduced_5 : decode cX12_isReduced 5 = .ok (.ifCond .eq 57, 3) := by decide +kernel
theorem dX12_isReduced_8 : decode cX12_isReduced 8 = .ok (.iconst 0, 1) := by decide +kernel
theorem dX12_isReduced_9 : decode cX12_isReduced 9 = .ok (.istore_n 3, 1) := by decide +kernel
theorem dX12_isReduced_10 : decode cX12_isReduced 10 = .ok (.iconst 0, 1) := by decide +kernel
theorem dX12_isReduced_11 : decode cX12_isReduced 11 = .ok (.istore 4, 2) := by decide +kernel
theorem dX12_isReduced_13 : decode cX12_isReduced 13 = .ok (.iload 4, 2) := by decide +kernel
theorem dX12_isReduced_15 : decode cX12_isReduced 15 = .ok (.aload_n 0, 1) := by decide +kernel
theorem dX12_isReduced_16 : decode cX12_isReduced 16 = .ok (.getfield 299, 3) := by decide +kernel
theorem dX12_isReduced_19 : decode cX12_isReduced 19 = .ok (.if_icmp .ge 40, 3) := by decide +kernel
theorem dX12_isReduced_22 : decode cX12_isReduced 22 = .ok (.lload_n 1, 1) := by decide +kernel
theorem dX12_isReduced_23 : decode cX12_isReduced 23 = .ok (.iload 4, 2) := by decide +kernel
theorem dX12_isReduced_25 : decode cX12_isReduced 25 = .ok (.invokestatic 173, 3) := by decide +kernel
theorem dX12_isReduced_28 : decode cX12_isReduced 28 = .ok (.ifCond .ne 25, 3) := by decide +kernel
theorem dX12_isReduced_31 : decode cX12_isReduced 31 = .ok (.aload_n 0, 1) := by decide +kernel
theorem dX12_isReduced_32 : decode cX12_isReduced 32 = .ok (.iload 4, 2) := by decide +kernel
theorem dX12_isReduced_34 : decode cX12_isReduced 34 = .ok (.lload_n 1, 1) := by decide +kernel
theorem dX12_isReduced_35 : decode cX12_isReduced 35 = .ok (.invokevirtual 338, 3) := by decide +kernel
theorem dX12_isReduced_38 : decode cX12_isReduced 38 = .ok (.ifCond .ne 6, 3) := by decide +kernel
theorem dX12_isReduced_41 : decode cX12_isReduced 41 = .ok (.goto 12, 3) := by decide +kernel
theorem dX12_isReduced_44 : decode cX12_isReduced 44 = .ok (.lload_n 1, 1) := by decide +kernel
theorem dX12_isReduced_45 : decode cX12_isReduced 45 = .ok (.lconst 1, 1) := by decide +kernel
theorem dX12_isReduced_46 : decode cX12_isReduced 46 = .ok (.iload 4, 2) := by decide +kernel
theorem dX12_isReduced_48 : decode cX12_isReduced 48 = .ok (.lshl, 1) := by decide +kernel
theorem dX12_isReduced_49 : decode cX12_isReduced 49 = .ok (.lor, 1) := by decide +kernel
theorem dX12_isReduced_50 : decode cX12_isReduced 50 = .ok (.lstore_n 1, 1) := by decide +kernel
theorem dX12_isReduced_51 : decode cX12_isReduced 51 = .ok (.iconst 1, 1) := by decide +kernel
theorem dX12_isReduced_52 : decode cX12_isReduced 52 = .ok (.istore_n 3, 1) := by decide +kernel
theorem dX12_isReduced_53 : decode cX12_isReduced 53 = .ok (.iinc 4 1, 3) := by decide +kernel
theorem dX12_isReduced_56 : decode cX12_isReduced 56 = .ok (.goto (-43), 3) := by decide +kernel
theorem dX12_isReduced_59 : decode cX12_isReduced 59 = .ok (.goto (-55), 3) := by decide +kernel
theorem dX12_isReduced_62 : decode cX12_isReduced 62 = .ok (.lload_n 1, 1) := by decide +kernel
theorem dX12_isReduced_63 : decode cX12_isReduced 63 = .ok (.aload_n 0, 1) := by decide +kernel
theorem dX12_isReduced_64 : decode cX12_isReduced 64 = .ok (.invokevirtual 342, 3) := by decide +kernel
theorem dX12_isReduced_67 : decode cX12_isReduced 67 = .ok (.lcmp, 1) := by decide +kernel
theorem dX12_isReduced_68 : decode cX12_isReduced 68 = .ok (.ifCond .ne 7, 3) := by decide +kernel
theorem dX12_isReduced_71 : decode cX12_isReduced 71 = .ok (.iconst 1, 1) := by decide +kernel
theorem dX12_isReduced_72 : decode cX12_isReduced 72 = .ok (.goto 4, 3) := by decide +kernel
theorem dX12_isReduced_75 : decode cX12_isReduced 75 = .ok (.iconst 0, 1) := by decide +kernel
theorem dX12_isReduced_76 : decode cX12_isReduced 76 = .ok (.ireturn, 1) := by decide +kernel
theorem dX12_isEntry_0 : decode cX12_isEntry 0 = .ok (.iconst 0, 1) := by decide +kernel
theorem dX12_isEntry_1 : decode cX12_isEntry 1 = .ok (.istore 4, 2) := by decide +kernel
theorem dX12_isEntry_3 : decode cX12_isEntry 3 = .ok (.iload 4, 2) := by decide +kernel
theorem dX12_isEntry_5 : decode cX12_isEntry 5 = .ok (.aload_n 0, 1) := by decide +kernel
theorem dX12_isEntry_6 : decode cX12_isEntry 6 = .ok (.getfield 327, 3) := by decide +kernel
theorem dX12_isEntry_9 : decode cX12_isEntry 9 = .ok (.if_icmp .ge 56, 3) := by decide +kernel
theorem dX12_isEntry_12 : decode cX12_isEntry 12 = .ok (.aload_n 0, 1) := by decide +kernel
theorem dX12_isEntry_13 : decode cX12_isEntry 13 = .ok (.getfield 62, 3) := by decide +kernel
theorem dX12_isEntry_16 : decode cX12_isEntry 16 = .ok (.iload 4, 2) := by decide +kernel
theorem dX12_isEntry_18 : decode cX12_isEntry 18 = .ok (.iaload, 1) := by decide +kernel
theorem dX12_isEntry_19 : decode cX12_isEntry 19 = .ok (.iload_n 1, 1) := by decide +kernel
theorem dX12_isEntry_20 : decode cX12_isEntry 20 = .ok (.if_icmp .ne 39, 3) := by decide +kernel
theorem dX12_isEntry_23 : decode cX12_isEntry 23 = .ok (.aload_n 0, 1) := by decide +kernel
theorem dX12_isEntry_24 : decode cX12_isEntry 24 = .ok (.getfield 69, 3) := by decide +kernel
theorem dX12_isEntry_27 : decode cX12_isEntry 27 = .ok (.iload 4, 2) := by decide +kernel
theorem dX12_isEntry_29 : decode cX12_isEntry 29 = .ok (.baload, 1) := by decide +kernel
theorem dX12_isEntry_30 : decode cX12_isEntry 30 = .ok (.ifCond .ne 29, 3) := by decide +kernel
theorem dX12_isEntry_33 : decode cX12_isEntry 33 = .ok (.aload_n 0, 1) := by decide +kernel
theorem dX12_isEntry_34 : decode cX12_isEntry 34 = .ok (.getfield 72, 3) := by decide +kernel
theorem dX12_isEntry_37 : decode cX12_isEntry 37 = .ok (.iload 4, 2) := by decide +kernel
theorem dX12_isEntry_39 : decode cX12_isEntry 39 = .ok (.baload, 1) := by decide +kernel
theorem dX12_isEntry_40 : decode cX12_isEntry 40 = .ok (.ifCond .ne 19, 3) := by decide +kernel
theorem dX12_isEntry_43 : decode cX12_isEntry 43 = .ok (.lload_n 2, 1) := by decide +kernel
theorem dX12_isEntry_44 : decode cX12_isEntry 44 = .ok (.aload_n 0, 1) := by decide +kernel
theorem dX12_isEntry_45 : decode cX12_isEntry 45 = .ok (.getfield 59, 3) := by decide +kernel
theorem dX12_isEntry_48 : decode cX12_isEntry 48 = .ok (.iload 4, 2) := by decide +kernel
theorem dX12_isEntry_50 : decode cX12_isEntry 50 = .ok (.iaload, 1) := by decide +kernel
theorem dX12_isEntry_51 : decode cX12_isEntry 51 = .ok (.invokestatic 173, 3) := by decide +kernel
theorem dX12_isEntry_54 : decode cX12_isEntry 54 = .ok (.ifCond .ne 5, 3) := by decide +kernel
theorem dX12_isEntry_57 : decode cX12_isEntry 57 = .ok (.iconst 0, 1) := by decide +kernel
theorem dX12_isEntry_58 : decode cX12_isEntry 58 = .ok (.ireturn, 1) := by decide +kernel
theorem dX12_isEntry_59 : decode cX12_isEntry 59 = .ok (.iinc 4 1, 3) := by decide +kernel
theorem dX12_isEntry_62 : decode cX12_isEntry 62 = .ok (.goto (-59), 3) := by decide +kernel
theorem dX12_isEntry_65 : decode cX12_isEntry 65 = .ok (.iconst 1, 1) := by decide +kernel
theorem dX12_isEntry_66 : decode cX12_isEntry 66 = .ok (.ireturn, 1) := by decide +kernel
theorem dX12_isGoodSo_0 : decode cX12_isGoodSo 0 = .ok (.aload_n 0, 1) := by decide +kernel
theorem dX12_isGoodSo_1 : decode cX12_isGoodSo 1 = .ok (.iconst 0, 1) := by decide +kernel
theorem dX12_isGoodSo_2 : decode cX12_isGoodSo 2 = .ok (.lconst 0, 1) := by decide +kernel
theorem dX12_isGoodSo_3 : decode cX12_isGoodSo 3 = .ok (.invokevirtual 334, 3) := by decide +kernel
theorem dX12_isGoodSo_6 : decode cX12_isGoodSo 6 = .ok (.aload_n 0, 1) := by decide +kernel
theorem dX12_isGoodSo_7 : decode cX12_isGoodSo 7 = .ok (.invokevirtual 342, 3) := by decide +kernel
theorem dX12_isGoodSo_10 : decode cX12_isGoodSo 10 = .ok (.lcmp, 1) := by decide +kernel
theorem dX12_isGoodSo_11 : decode cX12_isGoodSo 11 = .ok (.ifCond .eq 5, 3) := by decide +kernel
theorem dX12_isGoodSo_14 : decode cX12_isGoodSo 14 = .ok (.iconst 0, 1) := by decide +kernel
theorem dX12_isGoodSo_15 : decode cX12_isGoodSo 15 = .ok (.ireturn, 1) := by decide +kernel
theorem dX12_isGoodSo_16 : decode cX12_isGoodSo 16 = .ok (.aload_n 0, 1) := by decide +kernel
theorem dX12_isGoodSo_17 : decode cX12_isGoodSo 17 = .ok (.invokevirtual 346, 3) := by decide +kernel
theorem dX12_isGoodSo_20 : decode cX12_isGoodSo 20 = .ok (.aload_n 0, 1) := by decide +kernel
theorem dX12_isGoodSo_21 : decode cX12_isGoodSo 21 = .ok (.invokevirtual 349, 3) := by decide +kernel
theorem dX12_isGoodSo_24 : decode cX12_isGoodSo 24 = .ok (.ireturn, 1) := by decide +kernel
theorem dX12_laysJumps_0 : decode cX12_laysJumps 0 = .ok (.iconst 0, 1) := by decide +kernel
theorem dX12_laysJumps_1 : decode cX12_laysJumps 1 = .ok (.istore_n 1, 1) := by decide +kernel
theorem dX12_laysJumps_2 : decode cX12_laysJumps 2 = .ok (.iload_n 1, 1) := by decide +kernel
theorem dX12_laysJumps_3 : decode cX12_laysJumps 3 = .ok (.aload_n 0, 1) := by decide +kernel
theorem dX12_laysJumps_4 : decode cX12_laysJumps 4 = .ok (.getfield 327, 3) := by decide +kernel
theorem dX12_laysJumps_7 : decode cX12_laysJumps 7 = .ok (.if_icmp .ge 16, 3) := by decide +kernel
theorem dX12_laysJumps_10 : decode cX12_laysJumps 10 = .ok (.aload_n 0, 1) := by decide +kernel
theorem dX12_laysJumps_11 : decode cX12_laysJumps 11 = .ok (.getfield 69, 3) := by decide +kernel
theorem dX12_laysJumps_14 : decode cX12_laysJumps 14 = .ok (.iload_n 1, 1) := by decide +kernel
theorem dX12_laysJumps_15 : decode cX12_laysJumps 15 = .ok (.iconst 0, 1) := by decide +kernel
theorem dX12_laysJumps_16 : decode cX12_laysJumps 16 = .ok (.bastore, 1) := by decide +kernel
theorem dX12_laysJumps_17 : decode cX12_laysJumps 17 = .ok (.iinc 1 1, 3) := by decide +kernel
theorem dX12_laysJumps_20 : decode cX12_laysJumps 20 = .ok (.goto (-18), 3) := by decide +kernel
theorem dX12_laysJumps_23 : decode cX12_laysJumps 23 = .ok (.aload_n 0, 1) := by decide +kernel
theorem dX12_laysJumps_24 : decode cX12_laysJumps 24 = .ok (.aload_n 0, 1) := by decide +kernel
theorem dX12_laysJumps_25 : decode cX12_laysJumps 25 = .ok (.invokevirtual 352, 3) := by decide +kernel
theorem dX12_laysJumps_28 : decode cX12_laysJumps 28 = .ok (.putfield 355, 3) := by decide +kernel
theorem dX12_laysJumps_31 : decode cX12_laysJumps 31 = .ok (.aload_n 0, 1) := by decide +kernel
theorem dX12_laysJumps_32 : decode cX12_laysJumps 32 = .ok (.iconst 0, 1) := by decide +kernel
theorem dX12_laysJumps_33 : decode cX12_laysJumps 33 = .ok (.putfield 358, 3) := by decide +kernel
theorem dX12_laysJumps_36 : decode cX12_laysJumps 36 = .ok (.aload_n 0, 1) := by decide +kernel
theorem dX12_laysJumps_37 : decode cX12_laysJumps 37 = .ok (.getfield 355, 3) := by decide +kernel
theorem dX12_laysJumps_40 : decode cX12_laysJumps 40 = .ok (.ifCond .eq 4, 3) := by decide +kernel
theorem dX12_laysJumps_43 : decode cX12_laysJumps 43 = .ok (.return_, 1) := by decide +kernel
theorem dX12_laysJumps_44 : decode cX12_laysJumps 44 = .ok (.aload_n 0, 1) := by decide +kernel
theorem dX12_laysJumps_45 : decode cX12_laysJumps 45 = .ok (.iconst 1, 1) := by decide +kernel
theorem dX12_laysJumps_46 : decode cX12_laysJumps 46 = .ok (.putfield 358, 3) := by decide +kernel
theorem dX12_laysJumps_49 : decode cX12_laysJumps 49 = .ok (.aload_n 0, 1) := by decide +kernel
theorem dX12_laysJumps_50 : decode cX12_laysJumps 50 = .ok (.getfield 358, 3) := by decide +kernel
theorem dX12_laysJumps_53 : decode cX12_laysJumps 53 = .ok (.iconst 2, 1) := by decide +kernel
theorem dX12_laysJumps_54 : decode cX12_laysJumps 54 = .ok (.if_icmp .gt 85, 3) := by decide +kernel
theorem dX12_laysJumps_57 : decode cX12_laysJumps 57 = .ok (.iconst 0, 1) := by decide +kernel
theorem dX12_laysJumps_58 : decode cX12_laysJumps 58 = .ok (.istore_n 1, 1) := by decide +kernel
theorem dX12_laysJumps_59 : decode cX12_laysJumps 59 = .ok (.iload_n 1, 1) := by decide +kernel
theorem dX12_laysJumps_60 : decode cX12_laysJumps 60 = .ok (.aload_n 0, 1) := by decide +kernel
theorem dX12_laysJumps_61 : decode cX12_laysJumps 61 = .ok (.getfield 327, 3) := by decide +kernel
theorem dX12_laysJumps_64 : decode cX12_laysJumps 64 = .ok (.if_icmp .ge 62, 3) := by decide +kernel
theorem dX12_laysJumps_67 : decode cX12_laysJumps 67 = .ok (.aload_n 0, 1) := by decide +kernel
theorem dX12_laysJumps_68 : decode cX12_laysJumps 68 = .ok (.getfield 65, 3) := by decide +kernel
theorem dX12_laysJumps_71 : decode cX12_laysJumps 71 = .ok (.iload_n 1, 1) := by decide +kernel
theorem dX12_laysJumps_72 : decode cX12_laysJumps 72 = .ok (.baload, 1) := by decide +kernel
theorem dX12_laysJumps_73 : decode cX12_laysJumps 73 = .ok (.ifCond .eq 6, 3) := by decide +kernel
theorem dX12_laysJumps_76 : decode cX12_laysJumps 76 = .ok (.goto 44, 3) := by decide +kernel
theorem dX12_laysJumps_79 : decode cX12_laysJumps 79 = .ok (.aload_n 0, 1) := by decide +kernel
theorem dX12_laysJumps_80 : decode cX12_laysJumps 80 = .ok (.getfield 69, 3) := by decide +kernel
theorem dX12_laysJumps_83 : decode cX12_laysJumps 83 = .ok (.iload_n 1, 1) := by decide +kernel
theorem dX12_laysJumps_84 : decode cX12_laysJumps 84 = .ok (.iconst 1, 1) := by decide +kernel
theorem dX12_laysJumps_85 : decode cX12_laysJumps 85 = .ok (.bastore, 1) := by decide +kernel
theorem dX12_laysJumps_86 : decode cX12_laysJumps 86 = .ok (.aload_n 0, 1) := by decide +kernel
theorem dX12_laysJumps_87 : decode cX12_laysJumps 87 = .ok (.getfield 358, 3) := by decide +kernel
theorem dX12_laysJumps_90 : decode cX12_laysJumps 90 = .ok (.iconst 1, 1) := by decide +kernel
theorem dX12_laysJumps_91 : decode cX12_laysJumps 91 = .ok (.if_icmp .ne 13, 3) := by decide +kernel
theorem dX12_laysJumps_94 : decode cX12_laysJumps 94 = .ok (.aload_n 0, 1) := by decide +kernel
theorem dX12_laysJumps_95 : decode cX12_laysJumps 95 = .ok (.invokevirtual 352, 3) := by decide +kernel
theorem dX12_laysJumps_98 : decode cX12_laysJumps 98 = .ok (.ifCond .eq 15, 3) := by decide +kernel
theorem dX12_laysJumps_101 : decode cX12_laysJumps 101 = .ok (.goto 11, 3) := by decide +kernel
theorem dX12_laysJumps_104 : decode cX12_laysJumps 104 = .ok (.aload_n 0, 1) := by decide +kernel
theorem dX12_laysJumps_105 : decode cX12_laysJumps 105 = .ok (.iload_n 1, 1) := by decide +kernel
theorem dX12_laysJumps_106 : decode cX12_laysJumps 106 = .ok (.invokevirtual 361, 3) := by decide +kernel
theorem dX12_laysJumps_109 : decode cX12_laysJumps 109 = .ok (.ifCond .eq 4, 3) := by decide +kernel
theorem dX12_laysJumps_112 : decode cX12_laysJumps 112 = .ok (.return_, 1) := by decide +kernel
theorem dX12_laysJumps_113 : decode cX12_laysJumps 113 = .ok (.aload_n 0, 1) := by decide +kernel
theorem dX12_laysJumps_114 : decode cX12_laysJumps 114 = .ok (.getfield 69, 3) := by decide +kernel
theorem dX12_laysJumps_117 : decode cX12_laysJumps 117 = .ok (.iload_n 1, 1) := by decide +kernel
theorem dX12_laysJumps_118 : decode cX12_laysJumps 118 = .ok (.iconst 0, 1) := by decide +kernel
theorem dX12_laysJumps_119 : decode cX12_laysJumps 119 = .ok (.bastore, 1) := by decide +kernel
theorem dX12_laysJumps_120 : decode cX12_laysJumps 120 = .ok (.iinc 1 1, 3) := by decide +kernel
theorem dX12_laysJumps_123 : decode cX12_laysJumps 123 = .ok (.goto (-64), 3) := by decide +kernel
theorem dX12_laysJumps_126 : decode cX12_laysJumps 126 = .ok (.aload_n 0, 1) := by decide +kernel
theorem dX12_laysJumps_127 : decode cX12_laysJumps 127 = .ok (.dup, 1) := by decide +kernel
theorem dX12_laysJumps_128 : decode cX12_laysJumps 128 = .ok (.getfield 358, 3) := by decide +kernel
theorem dX12_laysJumps_131 : decode cX12_laysJumps 131 = .ok (.iconst 1, 1) := by decide +kernel
theorem dX12_laysJumps_132 : decode cX12_laysJumps 132 = .ok (.iadd, 1) := by decide +kernel
theorem dX12_laysJumps_133 : decode cX12_laysJumps 133 = .ok (.putfield 358, 3) := by decide +kernel
theorem dX12_laysJumps_136 : decode cX12_laysJumps 136 = .ok (.goto (-87), 3) := by decide +kernel
theorem dX12_laysJumps_139 : decode cX12_laysJumps 139 = .ok (.aload_n 0, 1) := by decide +kernel
theorem dX12_laysJumps_140 : decode cX12_laysJumps 140 = .ok (.iconst (-1), 1) := by decide +kernel
theorem dX12_laysJumps_141 : decode cX12_laysJumps 141 = .ok (.putfield 358, 3) := by decide +kernel
theorem dX12_laysJumps_144 : decode cX12_laysJumps 144 = .ok (.aload_n 0, 1) := by decide +kernel
theorem dX12_laysJumps_145 : decode cX12_laysJumps 145 = .ok (.invokevirtual 346, 3) := by decide +kernel
theorem dX12_laysJumps_148 : decode cX12_laysJumps 148 = .ok (.return_, 1) := by decide +kernel
theorem dX12_hasSecond_0 : decode cX12_hasSecond 0 = .ok (.iload_n 1, 1) := by decide +kernel
theorem dX12_hasSecond_1 : decode cX12_hasSecond 1 = .ok (.iconst 1, 1) := by decide +kernel
theorem dX12_hasSecond_2 : decode cX12_hasSecond 2 = .ok (.iadd, 1) := by decide +kernel
theorem dX12_hasSecond_3 : decode cX12_hasSecond 3 = .ok (.istore_n 2, 1) := by decide +kernel
theorem dX12_hasSecond_4 : decode cX12_hasSecond 4 = .ok (.iload_n 2, 1) := by decide +kernel
theorem dX12_hasSecond_5 : decode cX12_hasSecond 5 = .ok (.aload_n 0, 1) := by decide +kernel
theorem dX12_hasSecond_6 : decode cX12_hasSecond 6 = .ok (.getfield 327, 3) := by decide +kernel
theorem dX12_hasSecond_9 : decode cX12_hasSecond 9 = .ok (.if_icmp .ge 44, 3) := by decide +kernel
theorem dX12_hasSecond_12 : decode cX12_hasSecond 12 = .ok (.aload_n 0, 1) := by decide +kernel
theorem dX12_hasSecond_13 : decode cX12_hasSecond 13 = .ok (.getfield 65, 3) := by decide +kernel
theorem dX12_hasSecond_16 : decode cX12_hasSecond 16 = .ok (.iload_n 2, 1) := by decide +kernel
theorem dX12_hasSecond_17 : decode cX12_hasSecond 17 = .ok (.baload, 1) := by decide +kernel
theorem dX12_hasSecond_18 : decode cX12_hasSecond 18 = .ok (.ifCond .eq 6, 3) := by decide +kernel
theorem dX12_hasSecond_21 : decode cX12_hasSecond 21 = .ok (.goto 26, 3) := by decide +kernel
theorem dX12_hasSecond_24 : decode cX12_hasSecond 24 = .ok (.aload_n 0, 1) := by decide +kernel
theorem dX12_hasSecond_25 : decode cX12_hasSecond 25 = .ok (.getfield 69, 3) := by decide +kernel
theorem dX12_hasSecond_28 : decode cX12_hasSecond 28 = .ok (.iload_n 2, 1) := by decide +kernel
theorem dX12_hasSecond_29 : decode cX12_hasSecond 29 = .ok (.iconst 1, 1) := by decide +kernel
theorem dX12_hasSecond_30 : decode cX12_hasSecond 30 = .ok (.bastore, 1) := by decide +kernel
theorem dX12_hasSecond_31 : decode cX12_hasSecond 31 = .ok (.aload_n 0, 1) := by decide +kernel
theorem dX12_hasSecond_32 : decode cX12_hasSecond 32 = .ok (.invokevirtual 352, 3) := by decide +kernel
theorem dX12_hasSecond_35 : decode cX12_hasSecond 35 = .ok (.ifCond .eq 5, 3) := by decide +kernel
theorem dX12_hasSecond_38 : decode cX12_hasSecond 38 = .ok (.iconst 1, 1) := by decide +kernel
theorem dX12_hasSecond_39 : decode cX12_hasSecond 39 = .ok (.ireturn, 1) := by decide +kernel
theorem dX12_hasSecond_40 : decode cX12_hasSecond 40 = .ok (.aload_n 0, 1) := by decide +kernel
theorem dX12_hasSecond_41 : decode cX12_hasSecond 41 = .ok (.getfield 69, 3) := by decide +kernel
theorem dX12_hasSecond_44 : decode cX12_hasSecond 44 = .ok (.iload_n 2, 1) := by decide +kernel
theorem dX12_hasSecond_45 : decode cX12_hasSecond 45 = .ok (.iconst 0, 1) := by decide +kernel
theorem dX12_hasSecond_46 : decode cX12_hasSecond 46 = .ok (.bastore, 1) := by decide +kernel
theorem dX12_hasSecond_47 : decode cX12_hasSecond 47 = .ok (.iinc 2 1, 3) := by decide +kernel
theorem dX12_hasSecond_50 : decode cX12_hasSecond 50 = .ok (.goto (-46), 3) := by decide +kernel
theorem dX12_hasSecond_53 : decode cX12_hasSecond 53 = .ok (.iconst 0, 1) := by decide +kernel
theorem dX12_hasSecond_54 : decode cX12_hasSecond 54 = .ok (.ireturn, 1) := by decide +kernel
theorem dX12_laysOrder_0 : decode cX12_laysOrder 0 = .ok (.aload_n 0, 1) := by decide +kernel
theorem dX12_laysOrder_1 : decode cX12_laysOrder 1 = .ok (.lconst 0, 1) := by decide +kernel
theorem dX12_laysOrder_2 : decode cX12_laysOrder 2 = .ok (.putfield 364, 3) := by decide +kernel
theorem dX12_laysOrder_5 : decode cX12_laysOrder 5 = .ok (.aload_n 0, 1) := by decide +kernel
theorem dX12_laysOrder_6 : decode cX12_laysOrder 6 = .ok (.aload_n 0, 1) := by decide +kernel
theorem dX12_laysOrder_7 : decode cX12_laysOrder 7 = .ok (.getfield 299, 3) := by decide +kernel
theorem dX12_laysOrder_10 : decode cX12_laysOrder 10 = .ok (.putfield 368, 3) := by decide +kernel
theorem dX12_laysOrder_13 : decode cX12_laysOrder 13 = .ok (.aload_n 0, 1) := by decide +kernel
theorem dX12_laysOrder_14 : decode cX12_laysOrder 14 = .ok (.iconst 0, 1) := by decide +kernel
theorem dX12_laysOrder_15 : decode cX12_laysOrder 15 = .ok (.invokevirtual 371, 3) := by decide +kernel
theorem dX12_laysOrder_18 : decode cX12_laysOrder 18 = .ok (.return_, 1) := by decide +kernel
theorem dX12_leaves_0 : decode cX12_leaves 0 = .ok (.aload_n 0, 1) := by decide +kernel
theorem dX12_leaves_1 : decode cX12_leaves 1 = .ok (.dup, 1) := by decide +kernel
theorem dX12_leaves_2 : decode cX12_leaves 2 = .ok (.getfield 364, 3) := by decide +kernel
theorem dX12_leaves_5 : decode cX12_leaves 5 = .ok (.lconst 1, 1) := by decide +kernel
theorem dX12_leaves_6 : decode cX12_leaves 6 = .ok (.iload_n 1, 1) := by decide +kernel
theorem dX12_leaves_7 : decode cX12_leaves 7 = .ok (.lshl, 1) := by decide +kernel
theorem dX12_leaves_8 : decode cX12_leaves 8 = .ok (.lor, 1) := by decide +kernel
theorem dX12_leaves_9 : decode cX12_leaves 9 = .ok (.putfield 364, 3) := by decide +kernel
theorem dX12_leaves_12 : decode cX12_leaves 12 = .ok (.iconst 0, 1) := by decide +kernel
theorem dX12_leaves_13 : decode cX12_leaves 13 = .ok (.istore_n 2, 1) := by decide +kernel
theorem dX12_leaves_14 : decode cX12_leaves 14 = .ok (.iload_n 2, 1) := by decide +kernel
theorem dX12_leaves_15 : decode cX12_leaves 15 = .ok (.aload_n 0, 1) := by decide +kernel
theorem dX12_leaves_16 : decode cX12_leaves 16 = .ok (.getfield 327, 3) := by decide +kernel
theorem dX12_leaves_19 : decode cX12_leaves 19 = .ok (.if_icmp .ge 54, 3) := by decide +kernel
theorem dX12_leaves_22 : decode cX12_leaves 22 = .ok (.aload_n 0, 1) := by decide +kernel
theorem dX12_leaves_23 : decode cX12_leaves 23 = .ok (.getfield 59, 3) := by decide +kernel
theorem dX12_leaves_26 : decode cX12_leaves 26 = .ok (.iload_n 2, 1) := by decide +kernel
theorem dX12_leaves_27 : decode cX12_leaves 27 = .ok (.iaload, 1) := by decide +kernel
theorem dX12_leaves_28 : decode cX12_leaves 28 = .ok (.iload_n 1, 1) := by decide +kernel
theorem dX12_leaves_29 : decode cX12_leaves 29 = .ok (.if_icmp .ne 38, 3) := by decide +kernel
theorem dX12_leaves_32 : decode cX12_leaves 32 = .ok (.aload_n 0, 1) := by decide +kernel
theorem dX12_leaves_33 : decode cX12_leaves 33 = .ok (.getfield 69, 3) := by decide +kernel
theorem dX12_leaves_36 : decode cX12_leaves 36 = .ok (.iload_n 2, 1) := by decide +kernel
theorem dX12_leaves_37 : decode cX12_leaves 37 = .ok (.baload, 1) := by decide +kernel
theorem dX12_leaves_38 : decode cX12_leaves 38 = .ok (.ifCond .ne 29, 3) := by decide +kernel
theorem dX12_leaves_41 : decode cX12_leaves 41 = .ok (.aload_n 0, 1) := by decide +kernel
theorem dX12_leaves_42 : decode cX12_leaves 42 = .ok (.getfield 364, 3) := by decide +kernel
theorem dX12_leaves_45 : decode cX12_leaves 45 = .ok (.aload_n 0, 1) := by decide +kernel
theorem dX12_leaves_46 : decode cX12_leaves 46 = .ok (.getfield 62, 3) := by decide +kernel
theorem dX12_leaves_49 : decode cX12_leaves 49 = .ok (.iload_n 2, 1) := by decide +kernel
theorem dX12_leaves_50 : decode cX12_leaves 50 = .ok (.iaload, 1) := by decide +kernel
theorem dX12_leaves_51 : decode cX12_leaves 51 = .ok (.invokestatic 173, 3) := by decide +kernel
theorem dX12_leaves_54 : decode cX12_leaves 54 = .ok (.ifCond .ne 13, 3) := by decide +kernel
theorem dX12_leaves_57 : decode cX12_leaves 57 = .ok (.aload_n 0, 1) := by decide +kernel
theorem dX12_leaves_58 : decode cX12_leaves 58 = .ok (.aload_n 0, 1) := by decide +kernel
theorem dX12_leaves_59 : decode cX12_leaves 59 = .ok (.getfield 62, 3) := by decide +kernel
theorem dX12_leaves_62 : decode cX12_leaves 62 = .ok (.iload_n 2, 1) := by decide +kernel
theorem dX12_leaves_63 : decode cX12_leaves 63 = .ok (.iaload, 1) := by decide +kernel
theorem dX12_leaves_64 : decode cX12_leaves 64 = .ok (.invokevirtual 371, 3) := by decide +kernel
theorem dX12_leaves_67 : decode cX12_leaves 67 = .ok (.iinc 2 1, 3) := by decide +kernel
theorem dX12_leaves_70 : decode cX12_leaves 70 = .ok (.goto (-56), 3) := by decide +kernel
theorem dX12_leaves_73 : decode cX12_leaves 73 = .ok (.aload_n 0, 1) := by decide +kernel
theorem dX12_leaves_74 : decode cX12_leaves 74 = .ok (.dup, 1) := by decide +kernel
theorem dX12_leaves_75 : decode cX12_leaves 75 = .ok (.getfield 368, 3) := by decide +kernel
theorem dX12_leaves_78 : decode cX12_leaves 78 = .ok (.iconst 1, 1) := by decide +kernel
theorem dX12_leaves_79 : decode cX12_leaves 79 = .ok (.isub, 1) := by decide +kernel
theorem dX12_leaves_80 : decode cX12_leaves 80 = .ok (.putfield 368, 3) := by decide +kernel
theorem dX12_leaves_83 : decode cX12_leaves 83 = .ok (.aload_n 0, 1) := by decide +kernel
theorem dX12_leaves_84 : decode cX12_leaves 84 = .ok (.getfield 82, 3) := by decide +kernel
theorem dX12_leaves_87 : decode cX12_leaves 87 = .ok (.iload_n 1, 1) := by decide +kernel
theorem dX12_leaves_88 : decode cX12_leaves 88 = .ok (.aload_n 0, 1) := by decide +kernel
theorem dX12_leaves_89 : decode cX12_leaves 89 = .ok (.getfield 368, 3) := by decide +kernel
theorem dX12_leaves_92 : decode cX12_leaves 92 = .ok (.iastore, 1) := by decide +kernel
theorem dX12_leaves_93 : decode cX12_leaves 93 = .ok (.return_, 1) := by decide +kernel
theorem dX12_laysAbove_0 : decode cX12_laysAbove 0 = .ok (.iconst 0, 1) := by decide +kernel
theorem dX12_laysAbove_1 : decode cX12_laysAbove 1 = .ok (.istore_n 1, 1) := by decide +kernel
theorem dX12_laysAbove_2 : decode cX12_laysAbove 2 = .ok (.iload_n 1, 1) := by decide +kernel
theorem dX12_laysAbove_3 : decode cX12_laysAbove 3 = .ok (.aload_n 0, 1) := by decide +kernel
theorem dX12_laysAbove_4 : decode cX12_laysAbove 4 = .ok (.getfield 299, 3) := by decide +kernel
theorem dX12_laysAbove_7 : decode cX12_laysAbove 7 = .ok (.if_icmp .ge 85, 3) := by decide +kernel
theorem dX12_laysAbove_10 : decode cX12_laysAbove 10 = .ok (.aload_n 0, 1) := by decide +kernel
theorem dX12_laysAbove_11 : decode cX12_laysAbove 11 = .ok (.getfield 85, 3) := by decide +kernel
theorem dX12_laysAbove_14 : decode cX12_laysAbove 14 = .ok (.iload_n 1, 1) := by decide +kernel
theorem dX12_laysAbove_15 : decode cX12_laysAbove 15 = .ok (.iconst (-1), 1) := by decide +kernel
theorem dX12_laysAbove_16 : decode cX12_laysAbove 16 = .ok (.iastore, 1) := by decide +kernel
theorem dX12_laysAbove_17 : decode cX12_laysAbove 17 = .ok (.iconst 0, 1) := by decide +kernel
theorem dX12_laysAbove_18 : decode cX12_laysAbove 18 = .ok (.istore_n 2, 1) := by decide +kernel
theorem dX12_laysAbove_19 : decode cX12_laysAbove 19 = .ok (.iload_n 2, 1) := by decide +kernel
theorem dX12_laysAbove_20 : decode cX12_laysAbove 20 = .ok (.aload_n 0, 1) := by decide +kernel
theorem dX12_laysAbove_21 : decode cX12_laysAbove 21 = .ok (.getfield 299, 3) := by decide +kernel
theorem dX12_laysAbove_24 : decode cX12_laysAbove 24 = .ok (.if_icmp .ge 62, 3) := by decide +kernel
theorem dX12_laysAbove_27 : decode cX12_laysAbove 27 = .ok (.iload_n 2, 1) := by decide +kernel
theorem dX12_laysAbove_28 : decode cX12_laysAbove 28 = .ok (.iload_n 1, 1) := by decide +kernel
theorem dX12_laysAbove_29 : decode cX12_laysAbove 29 = .ok (.if_icmp .eq 51, 3) := by decide +kernel
theorem dX12_laysAbove_32 : decode cX12_laysAbove 32 = .ok (.aload_n 0, 1) := by decide +kernel
theorem dX12_laysAbove_33 : decode cX12_laysAbove 33 = .ok (.getfield 75, 3) := by decide +kernel
theorem dX12_laysAbove_36 : decode cX12_laysAbove 36 = .ok (.iload_n 1, 1) := by decide +kernel
theorem dX12_laysAbove_37 : decode cX12_laysAbove 37 = .ok (.laload, 1) := by decide +kernel
theorem dX12_laysAbove_38 : decode cX12_laysAbove 38 = .ok (.iload_n 2, 1) := by decide +kernel
theorem dX12_laysAbove_39 : decode cX12_laysAbove 39 = .ok (.invokestatic 173, 3) := by decide +kernel
theorem dX12_laysAbove_42 : decode cX12_laysAbove 42 = .ok (.ifCond .eq 38, 3) := by decide +kernel
theorem dX12_laysAbove_45 : decode cX12_laysAbove 45 = .ok (.aload_n 0, 1) := by decide +kernel
theorem dX12_laysAbove_46 : decode cX12_laysAbove 46 = .ok (.getfield 85, 3) := by decide +kernel
theorem dX12_laysAbove_49 : decode cX12_laysAbove 49 = .ok (.iload_n 1, 1) := by decide +kernel
theorem dX12_laysAbove_50 : decode cX12_laysAbove 50 = .ok (.iaload, 1) := by decide +kernel
theorem dX12_laysAbove_51 : decode cX12_laysAbove 51 = .ok (.iconst (-1), 1) := by decide +kernel
theorem dX12_laysAbove_52 : decode cX12_laysAbove 52 = .ok (.if_icmp .eq 21, 3) := by decide +kernel
theorem dX12_laysAbove_55 : decode cX12_laysAbove 55 = .ok (.aload_n 0, 1) := by decide +kernel
theorem dX12_laysAbove_56 : decode cX12_laysAbove 56 = .ok (.getfield 75, 3) := by decide +kernel
theorem dX12_laysAbove_59 : decode cX12_laysAbove 59 = .ok (.iload_n 2, 1) := by decide +kernel
theorem dX12_laysAbove_60 : decode cX12_laysAbove 60 = .ok (.laload, 1) := by decide +kernel
theorem dX12_laysAbove_61 : decode cX12_laysAbove 61 = .ok (.aload_n 0, 1) := by decide +kernel
theorem dX12_laysAbove_62 : decode cX12_laysAbove 62 = .ok (.getfield 85, 3) := by decide +kernel
theorem dX12_laysAbove_65 : decode cX12_laysAbove 65 = .ok (.iload_n 1, 1) := by decide +kernel
theorem dX12_laysAbove_66 : decode cX12_laysAbove 66 = .ok (.iaload, 1) := by decide +kernel
theorem dX12_laysAbove_67 : decode cX12_laysAbove 67 = .ok (.invokestatic 173, 3) := by decide +kernel
theorem dX12_laysAbove_70 : decode cX12_laysAbove 70 = .ok (.ifCond .eq 10, 3) := by decide +kernel
theorem dX12_laysAbove_73 : decode cX12_laysAbove 73 = .ok (.aload_n 0, 1) := by decide +kernel
theorem dX12_laysAbove_74 : decode cX12_laysAbove 74 = .ok (.getfield 85, 3) := by decide +kernel
theorem dX12_laysAbove_77 : decode cX12_laysAbove 77 = .ok (.iload_n 1, 1) := by decide +kernel
theorem dX12_laysAbove_78 : decode cX12_laysAbove 78 = .ok (.iload_n 2, 1) := by decide +kernel
theorem dX12_laysAbove_79 : decode cX12_laysAbove 79 = .ok (.iastore, 1) := by decide +kernel
theorem dX12_laysAbove_80 : decode cX12_laysAbove 80 = .ok (.iinc 2 1, 3) := by decide +kernel
theorem dX12_laysAbove_83 : decode cX12_laysAbove 83 = .ok (.goto (-64), 3) := by decide +kernel
theorem dX12_laysAbove_86 : decode cX12_laysAbove 86 = .ok (.iinc 1 1, 3) := by decide +kernel
theorem dX12_laysAbove_89 : decode cX12_laysAbove 89 = .ok (.goto (-87), 3) := by decide +kernel
theorem dX12_laysAbove_92 : decode cX12_laysAbove 92 = .ok (.return_, 1) := by decide +kernel
theorem dX12_laysLoops_0 : decode cX12_laysLoops 0 = .ok (.iconst 0, 1) := by decide +kernel
theorem dX12_laysLoops_1 : decode cX12_laysLoops 1 = .ok (.istore_n 1, 1) := by decide +kernel
theorem dX12_laysLoops_2 : decode cX12_laysLoops 2 = .ok (.iload_n 1, 1) := by decide +kernel
theorem dX12_laysLoops_3 : decode cX12_laysLoops 3 = .ok (.aload_n 0, 1) := by decide +kernel
theorem dX12_laysLoops_4 : decode cX12_laysLoops 4 = .ok (.getfield 299, 3) := by decide +kernel
theorem dX12_laysLoops_7 : decode cX12_laysLoops 7 = .ok (.if_icmp .ge 75, 3) := by decide +kernel
theorem dX12_laysLoops_10 : decode cX12_laysLoops 10 = .ok (.aload_n 0, 1) := by decide +kernel
theorem dX12_laysLoops_11 : decode cX12_laysLoops 11 = .ok (.getfield 79, 3) := by decide +kernel
theorem dX12_laysLoops_14 : decode cX12_laysLoops 14 = .ok (.iload_n 1, 1) := by decide +kernel
theorem dX12_laysLoops_15 : decode cX12_laysLoops 15 = .ok (.lconst 0, 1) := by decide +kernel
theorem dX12_laysLoops_16 : decode cX12_laysLoops 16 = .ok (.lastore, 1) := by decide +kernel
theorem dX12_laysLoops_17 : decode cX12_laysLoops 17 = .ok (.iconst 0, 1) := by decide +kernel
theorem dX12_laysLoops_18 : decode cX12_laysLoops 18 = .ok (.istore_n 2, 1) := by decide +kernel
theorem dX12_laysLoops_19 : decode cX12_laysLoops 19 = .ok (.iload_n 2, 1) := by decide +kernel
theorem dX12_laysLoops_20 : decode cX12_laysLoops 20 = .ok (.aload_n 0, 1) := by decide +kernel
theorem dX12_laysLoops_21 : decode cX12_laysLoops 21 = .ok (.getfield 327, 3) := by decide +kernel
theorem dX12_laysLoops_24 : decode cX12_laysLoops 24 = .ok (.if_icmp .ge 52, 3) := by decide +kernel
theorem dX12_laysLoops_27 : decode cX12_laysLoops 27 = .ok (.aload_n 0, 1) := by decide +kernel
theorem dX12_laysLoops_28 : decode cX12_laysLoops 28 = .ok (.getfield 72, 3) := by decide +kernel
theorem dX12_laysLoops_31 : decode cX12_laysLoops 31 = .ok (.iload_n 2, 1) := by decide +kernel
theorem dX12_laysLoops_32 : decode cX12_laysLoops 32 = .ok (.baload, 1) := by decide +kernel
theorem dX12_laysLoops_33 : decode cX12_laysLoops 33 = .ok (.ifCond .eq 37, 3) := by decide +kernel
theorem dX12_laysLoops_36 : decode cX12_laysLoops 36 = .ok (.aload_n 0, 1) := by decide +kernel
theorem dX12_laysLoops_37 : decode cX12_laysLoops 37 = .ok (.getfield 62, 3) := by decide +kernel
theorem dX12_laysLoops_40 : decode cX12_laysLoops 40 = .ok (.iload_n 2, 1) := by decide +kernel
theorem dX12_laysLoops_41 : decode cX12_laysLoops 41 = .ok (.iaload, 1) := by decide +kernel
theorem dX12_laysLoops_42 : decode cX12_laysLoops 42 = .ok (.iload_n 1, 1) := by decide +kernel
theorem dX12_laysLoops_43 : decode cX12_laysLoops 43 = .ok (.if_icmp .ne 27, 3) := by decide +kernel
theorem dX12_laysLoops_46 : decode cX12_laysLoops 46 = .ok (.aload_n 0, 1) := by decide +kernel
theorem dX12_laysLoops_47 : decode cX12_laysLoops 47 = .ok (.getfield 79, 3) := by decide +kernel
theorem dX12_laysLoops_50 : decode cX12_laysLoops 50 = .ok (.iload_n 1, 1) := by decide +kernel
theorem dX12_laysLoops_51 : decode cX12_laysLoops 51 = .ok (.dup2, 1) := by decide +kernel
theorem dX12_laysLoops_52 : decode cX12_laysLoops 52 = .ok (.laload, 1) := by decide +kernel
theorem dX12_laysLoops_53 : decode cX12_laysLoops 53 = .ok (.lconst 1, 1) := by decide +kernel
theorem dX12_laysLoops_54 : decode cX12_laysLoops 54 = .ok (.iload_n 1, 1) := by decide +kernel
theorem dX12_laysLoops_55 : decode cX12_laysLoops 55 = .ok (.lshl, 1) := by decide +kernel
theorem dX12_laysLoops_56 : decode cX12_laysLoops 56 = .ok (.aload_n 0, 1) := by decide +kernel
theorem dX12_laysLoops_57 : decode cX12_laysLoops 57 = .ok (.aload_n 0, 1) := by decide +kernel
theorem dX12_laysLoops_58 : decode cX12_laysLoops 58 = .ok (.getfield 59, 3) := by decide +kernel
theorem dX12_laysLoops_61 : decode cX12_laysLoops 61 = .ok (.iload_n 2, 1) := by decide +kernel
theorem dX12_laysLoops_62 : decode cX12_laysLoops 62 = .ok (.iaload, 1) := by decide +kernel
theorem dX12_laysLoops_63 : decode cX12_laysLoops 63 = .ok (.iload_n 1, 1) := by decide +kernel
theorem dX12_laysLoops_64 : decode cX12_laysLoops 64 = .ok (.invokevirtual 374, 3) := by decide +kernel
theorem dX12_laysLoops_67 : decode cX12_laysLoops 67 = .ok (.lor, 1) := by decide +kernel
theorem dX12_laysLoops_68 : decode cX12_laysLoops 68 = .ok (.lor, 1) := by decide +kernel
theorem dX12_laysLoops_69 : decode cX12_laysLoops 69 = .ok (.lastore, 1) := by decide +kernel
theorem dX12_laysLoops_70 : decode cX12_laysLoops 70 = .ok (.iinc 2 1, 3) := by decide +kernel
theorem dX12_laysLoops_73 : decode cX12_laysLoops 73 = .ok (.goto (-54), 3) := by decide +kernel
theorem dX12_laysLoops_76 : decode cX12_laysLoops 76 = .ok (.iinc 1 1, 3) := by decide +kernel
theorem dX12_laysLoops_79 : decode cX12_laysLoops 79 = .ok (.goto (-77), 3) := by decide +kernel
theorem dX12_laysLoops_82 : decode cX12_laysLoops 82 = .ok (.return_, 1) := by decide +kernel
theorem dX12_comeTo_0 : decode cX12_comeTo 0 = .ok (.lconst 1, 1) := by decide +kernel
theorem dX12_comeTo_1 : decode cX12_comeTo 1 = .ok (.iload_n 1, 1) := by decide +kernel
theorem dX12_comeTo_2 : decode cX12_comeTo 2 = .ok (.lshl, 1) := by decide +kernel
theorem dX12_comeTo_3 : decode cX12_comeTo 3 = .ok (.lstore_n 3, 1) := by decide +kernel
theorem dX12_comeTo_4 : decode cX12_comeTo 4 = .ok (.iload_n 1, 1) := by decide +kernel
theorem dX12_comeTo_5 : decode cX12_comeTo 5 = .ok (.iload_n 2, 1) := by decide +kernel
theorem dX12_comeTo_6 : decode cX12_comeTo 6 = .ok (.if_icmp .eq 7, 3) := by decide +kernel
theorem dX12_comeTo_9 : decode cX12_comeTo 9 = .ok (.iconst 1, 1) := by decide +kernel
theorem dX12_comeTo_10 : decode cX12_comeTo 10 = .ok (.goto 4, 3) := by decide +kernel
theorem dX12_comeTo_13 : decode cX12_comeTo 13 = .ok (.iconst 0, 1) := by decide +kernel
theorem dX12_comeTo_14 : decode cX12_comeTo 14 = .ok (.istore 5, 2) := by decide +kernel
theorem dX12_comeTo_16 : decode cX12_comeTo 16 = .ok (.iload 5, 2) := by decide +kernel
theorem dX12_comeTo_18 : decode cX12_comeTo 18 = .ok (.ifCond .eq 94, 3) := by decide +kernel
theorem dX12_comeTo_21 : decode cX12_comeTo 21 = .ok (.iconst 0, 1) := by decide +kernel
theorem dX12_comeTo_22 : decode cX12_comeTo 22 = .ok (.istore 5, 2) := by decide +kernel
theorem dX12_comeTo_24 : decode cX12_comeTo 24 = .ok (.iconst 0, 1) := by decide +kernel
theorem dX12_comeTo_25 : decode cX12_comeTo 25 = .ok (.istore 6, 2) := by decide +kernel
theorem dX12_comeTo_27 : decode cX12_comeTo 27 = .ok (.iload 6, 2) := by decide +kernel
theorem dX12_comeTo_29 : decode cX12_comeTo 29 = .ok (.aload_n 0, 1) := by decide +kernel
theorem dX12_comeTo_30 : decode cX12_comeTo 30 = .ok (.getfield 327, 3) := by decide +kernel
theorem dX12_comeTo_33 : decode cX12_comeTo 33 = .ok (.if_icmp .ge 76, 3) := by decide +kernel
theorem dX12_comeTo_36 : decode cX12_comeTo 36 = .ok (.aload_n 0, 1) := by decide +kernel
theorem dX12_comeTo_37 : decode cX12_comeTo 37 = .ok (.getfield 69, 3) := by decide +kernel
theorem dX12_comeTo_40 : decode cX12_comeTo 40 = .ok (.iload 6, 2) := by decide +kernel
theorem dX12_comeTo_42 : decode cX12_comeTo 42 = .ok (.baload, 1) := by decide +kernel
theorem dX12_comeTo_43 : decode cX12_comeTo 43 = .ok (.ifCond .ne 60, 3) := by decide +kernel
theorem dX12_comeTo_46 : decode cX12_comeTo 46 = .ok (.lload_n 3, 1) := by decide +kernel
theorem dX12_comeTo_47 : decode cX12_comeTo 47 = .ok (.aload_n 0, 1) := by decide +kernel
theorem dX12_comeTo_48 : decode cX12_comeTo 48 = .ok (.getfield 62, 3) := by decide +kernel
theorem dX12_comeTo_51 : decode cX12_comeTo 51 = .ok (.iload 6, 2) := by decide +kernel
theorem dX12_comeTo_53 : decode cX12_comeTo 53 = .ok (.iaload, 1) := by decide +kernel
theorem dX12_comeTo_54 : decode cX12_comeTo 54 = .ok (.invokestatic 173, 3) := by decide +kernel
theorem dX12_comeTo_57 : decode cX12_comeTo 57 = .ok (.ifCond .eq 46, 3) := by decide +kernel
theorem dX12_comeTo_60 : decode cX12_comeTo 60 = .ok (.lload_n 3, 1) := by decide +kernel
theorem dX12_comeTo_61 : decode cX12_comeTo 61 = .ok (.aload_n 0, 1) := by decide +kernel
theorem dX12_comeTo_62 : decode cX12_comeTo 62 = .ok (.getfield 59, 3) := by decide +kernel
theorem dX12_comeTo_65 : decode cX12_comeTo 65 = .ok (.iload 6, 2) := by decide +kernel
theorem dX12_comeTo_67 : decode cX12_comeTo 67 = .ok (.iaload, 1) := by decide +kernel
theorem dX12_comeTo_68 : decode cX12_comeTo 68 = .ok (.invokestatic 173, 3) := by decide +kernel
theorem dX12_comeTo_71 : decode cX12_comeTo 71 = .ok (.ifCond .ne 32, 3) := by decide +kernel
theorem dX12_comeTo_74 : decode cX12_comeTo 74 = .ok (.aload_n 0, 1) := by decide +kernel
theorem dX12_comeTo_75 : decode cX12_comeTo 75 = .ok (.getfield 59, 3) := by decide +kernel
theorem dX12_comeTo_78 : decode cX12_comeTo 78 = .ok (.iload 6, 2) := by decide +kernel
theorem dX12_comeTo_80 : decode cX12_comeTo 80 = .ok (.iaload, 1) := by decide +kernel
theorem dX12_comeTo_81 : decode cX12_comeTo 81 = .ok (.iload_n 2, 1) := by decide +kernel
theorem dX12_comeTo_82 : decode cX12_comeTo 82 = .ok (.if_icmp .ne 6, 3) := by decide +kernel
theorem dX12_comeTo_85 : decode cX12_comeTo 85 = .ok (.goto 18, 3) := by decide +kernel
theorem dX12_comeTo_88 : decode cX12_comeTo 88 = .ok (.lload_n 3, 1) := by decide +kernel
theorem dX12_comeTo_89 : decode cX12_comeTo 89 = .ok (.lconst 1, 1) := by decide +kernel
theorem dX12_comeTo_90 : decode cX12_comeTo 90 = .ok (.aload_n 0, 1) := by decide +kernel
theorem dX12_comeTo_91 : decode cX12_comeTo 91 = .ok (.getfield 59, 3) := by decide +kernel
theorem dX12_comeTo_94 : decode cX12_comeTo 94 = .ok (.iload 6, 2) := by decide +kernel
theorem dX12_comeTo_96 : decode cX12_comeTo 96 = .ok (.iaload, 1) := by decide +kernel
theorem dX12_comeTo_97 : decode cX12_comeTo 97 = .ok (.lshl, 1) := by decide +kernel
theorem dX12_comeTo_98 : decode cX12_comeTo 98 = .ok (.lor, 1) := by decide +kernel
theorem dX12_comeTo_99 : decode cX12_comeTo 99 = .ok (.lstore_n 3, 1) := by decide +kernel
theorem dX12_comeTo_100 : decode cX12_comeTo 100 = .ok (.iconst 1, 1) := by decide +kernel
theorem dX12_comeTo_101 : decode cX12_comeTo 101 = .ok (.istore 5, 2) := by decide +kernel
theorem dX12_comeTo_103 : decode cX12_comeTo 103 = .ok (.iinc 6 1, 3) := by decide +kernel
theorem dX12_comeTo_106 : decode cX12_comeTo 106 = .ok (.goto (-79), 3) := by decide +kernel
theorem dX12_comeTo_109 : decode cX12_comeTo 109 = .ok (.goto (-93), 3) := by decide +kernel
theorem dX12_comeTo_112 : decode cX12_comeTo 112 = .ok (.lload_n 3, 1) := by decide +kernel
theorem dX12_comeTo_113 : decode cX12_comeTo 113 = .ok (.lreturn, 1) := by decide +kernel
theorem dX12_isMerge_0 : decode cX12_isMerge 0 = .ok (.iconst 0, 1) := by decide +kernel
theorem dX12_isMerge_1 : decode cX12_isMerge 1 = .ok (.istore_n 2, 1) := by decide +kernel
theorem dX12_isMerge_2 : decode cX12_isMerge 2 = .ok (.iconst 0, 1) := by decide +kernel
theorem dX12_isMerge_3 : decode cX12_isMerge 3 = .ok (.istore_n 3, 1) := by decide +kernel
theorem dX12_isMerge_4 : decode cX12_isMerge 4 = .ok (.iload_n 3, 1) := by decide +kernel
theorem dX12_isMerge_5 : decode cX12_isMerge 5 = .ok (.aload_n 0, 1) := by decide +kernel
theorem dX12_isMerge_6 : decode cX12_isMerge 6 = .ok (.getfield 327, 3) := by decide +kernel
theorem dX12_isMerge_9 : decode cX12_isMerge 9 = .ok (.if_icmp .ge 59, 3) := by decide +kernel
theorem dX12_isMerge_12 : decode cX12_isMerge 12 = .ok (.aload_n 0, 1) := by decide +kernel
theorem dX12_isMerge_13 : decode cX12_isMerge 13 = .ok (.getfield 62, 3) := by decide +kernel
theorem dX12_isMerge_16 : decode cX12_isMerge 16 = .ok (.iload_n 3, 1) := by decide +kernel
theorem dX12_isMerge_17 : decode cX12_isMerge 17 = .ok (.iaload, 1) := by decide +kernel
theorem dX12_isMerge_18 : decode cX12_isMerge 18 = .ok (.iload_n 1, 1) := by decide +kernel
theorem dX12_isMerge_19 : decode cX12_isMerge 19 = .ok (.if_icmp .ne 43, 3) := by decide +kernel
theorem dX12_isMerge_22 : decode cX12_isMerge 22 = .ok (.aload_n 0, 1) := by decide +kernel
theorem dX12_isMerge_23 : decode cX12_isMerge 23 = .ok (.getfield 69, 3) := by decide +kernel
theorem dX12_isMerge_26 : decode cX12_isMerge 26 = .ok (.iload_n 3, 1) := by decide +kernel
theorem dX12_isMerge_27 : decode cX12_isMerge 27 = .ok (.baload, 1) := by decide +kernel
theorem dX12_isMerge_28 : decode cX12_isMerge 28 = .ok (.ifCond .eq 6, 3) := by decide +kernel
theorem dX12_isMerge_31 : decode cX12_isMerge 31 = .ok (.goto 31, 3) := by decide +kernel
theorem dX12_isMerge_34 : decode cX12_isMerge 34 = .ok (.aload_n 0, 1) := by decide +kernel
theorem dX12_isMerge_35 : decode cX12_isMerge 35 = .ok (.getfield 65, 3) := by decide +kernel
theorem dX12_isMerge_38 : decode cX12_isMerge 38 = .ok (.iload_n 3, 1) := by decide +kernel
theorem dX12_isMerge_39 : decode cX12_isMerge 39 = .ok (.baload, 1) := by decide +kernel
theorem dX12_isMerge_40 : decode cX12_isMerge 40 = .ok (.ifCond .eq 5, 3) := by decide +kernel
theorem dX12_isMerge_43 : decode cX12_isMerge 43 = .ok (.iconst 1, 1) := by decide +kernel
theorem dX12_isMerge_44 : decode cX12_isMerge 44 = .ok (.ireturn, 1) := by decide +kernel
theorem dX12_isMerge_45 : decode cX12_isMerge 45 = .ok (.iload_n 2, 1) := by decide +kernel
theorem dX12_isMerge_46 : decode cX12_isMerge 46 = .ok (.aload_n 0, 1) := by decide +kernel
theorem dX12_isMerge_47 : decode cX12_isMerge 47 = .ok (.getfield 72, 3) := by decide +kernel
theorem dX12_isMerge_50 : decode cX12_isMerge 50 = .ok (.iload_n 3, 1) := by decide +kernel
theorem dX12_isMerge_51 : decode cX12_isMerge 51 = .ok (.baload, 1) := by decide +kernel
theorem dX12_isMerge_52 : decode cX12_isMerge 52 = .ok (.ifCond .eq 7, 3) := by decide +kernel
theorem dX12_isMerge_55 : decode cX12_isMerge 55 = .ok (.iconst 0, 1) := by decide +kernel
theorem dX12_isMerge_56 : decode cX12_isMerge 56 = .ok (.goto 4, 3) := by decide +kernel
theorem dX12_isMerge_59 : decode cX12_isMerge 59 = .ok (.iconst 1, 1) := by decide +kernel
theorem dX12_isMerge_60 : decode cX12_isMerge 60 = .ok (.iadd, 1) := by decide +kernel
theorem dX12_isMerge_61 : decode cX12_isMerge 61 = .ok (.istore_n 2, 1) := by decide +kernel
theorem dX12_isMerge_62 : decode cX12_isMerge 62 = .ok (.iinc 3 1, 3) := by decide +kernel
theorem dX12_isMerge_65 : decode cX12_isMerge 65 = .ok (.goto (-61), 3) := by decide +kernel
theorem dX12_isMerge_68 : decode cX12_isMerge 68 = .ok (.iload_n 2, 1) := by decide +kernel
theorem dX12_isMerge_69 : decode cX12_isMerge 69 = .ok (.iconst 1, 1) := by decide +kernel
theorem dX12_isMerge_70 : decode cX12_isMerge 70 = .ok (.if_icmp .le 7, 3) := by decide +kernel
theorem dX12_isMerge_73 : decode cX12_isMerge 73 = .ok (.iconst 1, 1) := by decide +kernel
theorem dX12_isMerge_74 : decode cX12_isMerge 74 = .ok (.goto 4, 3) := by decide +kernel
theorem dX12_isMerge_77 : decode cX12_isMerge 77 = .ok (.iconst 0, 1) := by decide +kernel
theorem dX12_isMerge_78 : decode cX12_isMerge 78 = .ok (.ireturn, 1) := by decide +kernel
theorem dX12_makes_0 : decode cX12_makes 0 = .ok (.aload_n 0, 1) := by decide +kernel
theorem dX12_makes_1 : decode cX12_makes 1 = .ok (.getfield 88, 3) := by decide +kernel
theorem dX12_makes_4 : decode cX12_makes 4 = .ok (.aload_n 0, 1) := by decide +kernel
theorem dX12_makes_5 : decode cX12_makes 5 = .ok (.getfield 378, 3) := by decide +kernel
theorem dX12_makes_8 : decode cX12_makes 8 = .ok (.iload_n 1, 1) := by decide +kernel
theorem dX12_makes_9 : decode cX12_makes 9 = .ok (.iastore, 1) := by decide +kernel
theorem dX12_makes_10 : decode cX12_makes 10 = .ok (.aload_n 0, 1) := by decide +kernel
theorem dX12_makes_11 : decode cX12_makes 11 = .ok (.getfield 91, 3) := by decide +kernel
theorem dX12_makes_14 : decode cX12_makes 14 = .ok (.aload_n 0, 1) := by decide +kernel
theorem dX12_makes_15 : decode cX12_makes 15 = .ok (.getfield 378, 3) := by decide +kernel
theorem dX12_makes_18 : decode cX12_makes 18 = .ok (.iload_n 2, 1) := by decide +kernel
theorem dX12_makes_19 : decode cX12_makes 19 = .ok (.iastore, 1) := by decide +kernel
theorem dX12_makes_20 : decode cX12_makes 20 = .ok (.aload_n 0, 1) := by decide +kernel
theorem dX12_makes_21 : decode cX12_makes 21 = .ok (.getfield 94, 3) := by decide +kernel
theorem dX12_makes_24 : decode cX12_makes 24 = .ok (.aload_n 0, 1) := by decide +kernel
theorem dX12_makes_25 : decode cX12_makes 25 = .ok (.getfield 378, 3) := by decide +kernel
theorem dX12_makes_28 : decode cX12_makes 28 = .ok (.iload_n 3, 1) := by decide +kernel
theorem dX12_makes_29 : decode cX12_makes 29 = .ok (.iastore, 1) := by decide +kernel
theorem dX12_makes_30 : decode cX12_makes 30 = .ok (.aload_n 0, 1) := by decide +kernel
theorem dX12_makes_31 : decode cX12_makes 31 = .ok (.dup, 1) := by decide +kernel
theorem dX12_makes_32 : decode cX12_makes 32 = .ok (.getfield 378, 3) := by decide +kernel
theorem dX12_makes_35 : decode cX12_makes 35 = .ok (.iconst 1, 1) := by decide +kernel
theorem dX12_makes_36 : decode cX12_makes 36 = .ok (.iadd, 1) := by decide +kernel
theorem dX12_makes_37 : decode cX12_makes 37 = .ok (.putfield 378, 3) := by decide +kernel
theorem dX12_makes_40 : decode cX12_makes 40 = .ok (.aload_n 0, 1) := by decide +kernel
theorem dX12_makes_41 : decode cX12_makes 41 = .ok (.getfield 378, 3) := by decide +kernel
theorem dX12_makes_44 : decode cX12_makes 44 = .ok (.iconst 1, 1) := by decide +kernel
theorem dX12_makes_45 : decode cX12_makes 45 = .ok (.isub, 1) := by decide +kernel
theorem dX12_makes_46 : decode cX12_makes 46 = .ok (.ireturn, 1) := by decide +kernel
theorem dX12_isBoth_0 : decode cX12_isBoth 0 = .ok (.aload_n 0, 1) := by decide +kernel
theorem dX12_isBoth_1 : decode cX12_isBoth 1 = .ok (.getfield 88, 3) := by decide +kernel
theorem dX12_isBoth_4 : decode cX12_isBoth 4 = .ok (.iload_n 1, 1) := by decide +kernel
theorem dX12_isBoth_5 : decode cX12_isBoth 5 = .ok (.iaload, 1) := by decide +kernel
theorem dX12_isBoth_6 : decode cX12_isBoth 6 = .ok (.bipush 6, 2) := by decide +kernel
theorem dX12_isBoth_8 : decode cX12_isBoth 8 = .ok (.if_icmp .le 7, 3) := by decide +kernel
theorem dX12_isBoth_11 : decode cX12_isBoth 11 = .ok (.iconst 1, 1) := by decide +kernel
theorem dX12_isBoth_12 : decode cX12_isBoth 12 = .ok (.goto 4, 3) := by decide +kernel
theorem dX12_isBoth_15 : decode cX12_isBoth 15 = .ok (.iconst 0, 1) := by decide +kernel
theorem dX12_isBoth_16 : decode cX12_isBoth 16 = .ok (.ireturn, 1) := by decide +kernel
theorem dX12_isOne_0 : decode cX12_isOne 0 = .ok (.aload_n 0, 1) := by decide +kernel
theorem dX12_isOne_1 : decode cX12_isOne 1 = .ok (.getfield 88, 3) := by decide +kernel
theorem dX12_isOne_4 : decode cX12_isOne 4 = .ok (.iload_n 1, 1) := by decide +kernel
theorem dX12_isOne_5 : decode cX12_isOne 5 = .ok (.iaload, 1) := by decide +kernel
theorem dX12_isOne_6 : decode cX12_isOne 6 = .ok (.iconst 5, 1) := by decide +kernel
theorem dX12_isOne_7 : decode cX12_isOne 7 = .ok (.if_icmp .eq 14, 3) := by decide +kernel
theorem dX12_isOne_10 : decode cX12_isOne 10 = .ok (.aload_n 0, 1) := by decide +kernel
theorem dX12_isOne_11 : decode cX12_isOne 11 = .ok (.getfield 88, 3) := by decide +kernel
theorem dX12_isOne_14 : decode cX12_isOne 14 = .ok (.iload_n 1, 1) := by decide +kernel
theorem dX12_isOne_15 : decode cX12_isOne 15 = .ok (.iaload, 1) := by decide +kernel
theorem dX12_isOne_16 : decode cX12_isOne 16 = .ok (.bipush 6, 2) := by decide +kernel
theorem dX12_isOne_18 : decode cX12_isOne 18 = .ok (.if_icmp .ne 7, 3) := by decide +kernel
theorem dX12_isOne_21 : decode cX12_isOne 21 = .ok (.iconst 1, 1) := by decide +kernel
theorem dX12_isOne_22 : decode cX12_isOne 22 = .ok (.goto 4, 3) := by decide +kernel
theorem dX12_isOne_25 : decode cX12_isOne 25 = .ok (.iconst 0, 1) := by decide +kernel
theorem dX12_isOne_26 : decode cX12_isOne 26 = .ok (.ireturn, 1) := by decide +kernel
theorem dX12_isName_0 : decode cX12_isName 0 = .ok (.aload_n 0, 1) := by decide +kernel
theorem dX12_isName_1 : decode cX12_isName 1 = .ok (.getfield 88, 3) := by decide +kernel
theorem dX12_isName_4 : decode cX12_isName 4 = .ok (.iload_n 1, 1) := by decide +kernel
theorem dX12_isName_5 : decode cX12_isName 5 = .ok (.iaload, 1) := by decide +kernel
theorem dX12_isName_6 : decode cX12_isName 6 = .ok (.iconst 1, 1) := by decide +kernel
theorem dX12_isName_7 : decode cX12_isName 7 = .ok (.if_icmp .eq 23, 3) := by decide +kernel
theorem dX12_isName_10 : decode cX12_isName 10 = .ok (.aload_n 0, 1) := by decide +kernel
theorem dX12_isName_11 : decode cX12_isName 11 = .ok (.getfield 88, 3) := by decide +kernel
theorem dX12_isName_14 : decode cX12_isName 14 = .ok (.iload_n 1, 1) := by decide +kernel
theorem dX12_isName_15 : decode cX12_isName 15 = .ok (.iaload, 1) := by decide +kernel
theorem dX12_isName_16 : decode cX12_isName 16 = .ok (.iconst 2, 1) := by decide +kernel
theorem dX12_isName_17 : decode cX12_isName 17 = .ok (.if_icmp .eq 13, 3) := by decide +kernel
theorem dX12_isName_20 : decode cX12_isName 20 = .ok (.aload_n 0, 1) := by decide +kernel
theorem dX12_isName_21 : decode cX12_isName 21 = .ok (.getfield 88, 3) := by decide +kernel
theorem dX12_isName_24 : decode cX12_isName 24 = .ok (.iload_n 1, 1) := by decide +kernel
theorem dX12_isName_25 : decode cX12_isName 25 = .ok (.iaload, 1) := by decide +kernel
theorem dX12_isName_26 : decode cX12_isName 26 = .ok (.iconst 3, 1) := by decide +kernel
theorem dX12_isName_27 : decode cX12_isName 27 = .ok (.if_icmp .ne 7, 3) := by decide +kernel
theorem dX12_isName_30 : decode cX12_isName 30 = .ok (.iconst 1, 1) := by decide +kernel
theorem dX12_isName_31 : decode cX12_isName 31 = .ok (.goto 4, 3) := by decide +kernel
theorem dX12_isName_34 : decode cX12_isName 34 = .ok (.iconst 0, 1) := by decide +kernel
theorem dX12_isName_35 : decode cX12_isName 35 = .ok (.ireturn, 1) := by decide +kernel
theorem dX12_hasEffects_0 : decode cX12_hasEffects 0 = .ok (.aload_n 0, 1) := by decide +kernel
theorem dX12_hasEffects_1 : decode cX12_hasEffects 1 = .ok (.iload_n 1, 1) := by decide +kernel
theorem dX12_hasEffects_2 : decode cX12_hasEffects 2 = .ok (.invokevirtual 381, 3) := by decide +kernel
theorem dX12_hasEffects_5 : decode cX12_hasEffects 5 = .ok (.ifCond .eq 14, 3) := by decide +kernel
theorem dX12_hasEffects_8 : decode cX12_hasEffects 8 = .ok (.aload_n 0, 1) := by decide +kernel
theorem dX12_hasEffects_9 : decode cX12_hasEffects 9 = .ok (.aload_n 0, 1) := by decide +kernel
theorem dX12_hasEffects_10 : decode cX12_hasEffects 10 = .ok (.getfield 91, 3) := by decide +kernel
theorem dX12_hasEffects_13 : decode cX12_hasEffects 13 = .ok (.iload_n 1, 1) := by decide +kernel
theorem dX12_hasEffects_14 : decode cX12_hasEffects 14 = .ok (.iaload, 1) := by decide +kernel
theorem dX12_hasEffects_15 : decode cX12_hasEffects 15 = .ok (.invokevirtual 384, 3) := by decide +kernel
theorem dX12_hasEffects_18 : decode cX12_hasEffects 18 = .ok (.ireturn, 1) := by decide +kernel
theorem dX12_hasEffects_19 : decode cX12_hasEffects 19 = .ok (.aload_n 0, 1) := by decide +kernel
theorem dX12_hasEffects_20 : decode cX12_hasEffects 20 = .ok (.iload_n 1, 1) := by decide +kernel
theorem dX12_hasEffects_21 : decode cX12_hasEffects 21 = .ok (.invokevirtual 387, 3) := by decide +kernel
theorem dX12_hasEffects_24 : decode cX12_hasEffects 24 = .ok (.ifCond .ne 19, 3) := by decide +kernel
theorem dX12_hasEffects_27 : decode cX12_hasEffects 27 = .ok (.aload_n 0, 1) := by decide +kernel
theorem dX12_hasEffects_28 : decode cX12_hasEffects 28 = .ok (.getfield 88, 3) := by decide +kernel
theorem dX12_hasEffects_31 : decode cX12_hasEffects 31 = .ok (.iload_n 1, 1) := by decide +kernel
theorem dX12_hasEffects_32 : decode cX12_hasEffects 32 = .ok (.iaload, 1) := by decide +kernel
theorem dX12_hasEffects_33 : decode cX12_hasEffects 33 = .ok (.iconst 4, 1) := by decide +kernel
theorem dX12_hasEffects_34 : decode cX12_hasEffects 34 = .ok (.if_icmp .ne 7, 3) := by decide +kernel
theorem dX12_hasEffects_37 : decode cX12_hasEffects 37 = .ok (.iconst 1, 1) := by decide +kernel
theorem dX12_hasEffects_38 : decode cX12_hasEffects 38 = .ok (.goto 4, 3) := by decide +kernel
theorem dX12_hasEffects_41 : decode cX12_hasEffects 41 = .ok (.iconst 0, 1) := by decide +kernel
theorem dX12_hasEffects_42 : decode cX12_hasEffects 42 = .ok (.ireturn, 1) := by decide +kernel
theorem dX12_hasEffects_43 : decode cX12_hasEffects 43 = .ok (.aload_n 0, 1) := by decide +kernel
theorem dX12_hasEffects_44 : decode cX12_hasEffects 44 = .ok (.getfield 88, 3) := by decide +kernel
theorem dX12_hasEffects_47 : decode cX12_hasEffects 47 = .ok (.iload_n 1, 1) := by decide +kernel
theorem dX12_hasEffects_48 : decode cX12_hasEffects 48 = .ok (.iaload, 1) := by decide +kernel
theorem dX12_hasEffects_49 : decode cX12_hasEffects 49 = .ok (.bipush 47, 2) := by decide +kernel
theorem dX12_hasEffects_51 : decode cX12_hasEffects 51 = .ok (.if_icmp .eq 40, 3) := by decide +kernel
theorem dX12_hasEffects_54 : decode cX12_hasEffects 54 = .ok (.aload_n 0, 1) := by decide +kernel
theorem dX12_hasEffects_55 : decode cX12_hasEffects 55 = .ok (.getfield 88, 3) := by decide +kernel
theorem dX12_hasEffects_58 : decode cX12_hasEffects 58 = .ok (.iload_n 1, 1) := by decide +kernel
theorem dX12_hasEffects_59 : decode cX12_hasEffects 59 = .ok (.iaload, 1) := by decide +kernel
theorem dX12_hasEffects_60 : decode cX12_hasEffects 60 = .ok (.bipush 37, 2) := by decide +kernel
theorem dX12_hasEffects_62 : decode cX12_hasEffects 62 = .ok (.if_icmp .eq 29, 3) := by decide +kernel
theorem dX12_hasEffects_65 : decode cX12_hasEffects 65 = .ok (.aload_n 0, 1) := by decide +kernel
theorem dX12_hasEffects_66 : decode cX12_hasEffects 66 = .ok (.aload_n 0, 1) := by decide +kernel
theorem dX12_hasEffects_67 : decode cX12_hasEffects 67 = .ok (.getfield 91, 3) := by decide +kernel
theorem dX12_hasEffects_70 : decode cX12_hasEffects 70 = .ok (.iload_n 1, 1) := by decide +kernel
theorem dX12_hasEffects_71 : decode cX12_hasEffects 71 = .ok (.iaload, 1) := by decide +kernel
theorem dX12_hasEffects_72 : decode cX12_hasEffects 72 = .ok (.invokevirtual 384, 3) := by decide +kernel
theorem dX12_hasEffects_75 : decode cX12_hasEffects 75 = .ok (.ifCond .ne 16, 3) := by decide +kernel
theorem dX12_hasEffects_78 : decode cX12_hasEffects 78 = .ok (.aload_n 0, 1) := by decide +kernel
theorem dX12_hasEffects_79 : decode cX12_hasEffects 79 = .ok (.aload_n 0, 1) := by decide +kernel
theorem dX12_hasEffects_80 : decode cX12_hasEffects 80 = .ok (.getfield 94, 3) := by decide +kernel
theorem dX12_hasEffects_83 : decode cX12_hasEffects 83 = .ok (.iload_n 1, 1) := by decide +kernel
theorem dX12_hasEffects_84 : decode cX12_hasEffects 84 = .ok (.iaload, 1) := by decide +kernel
theorem dX12_hasEffects_85 : decode cX12_hasEffects 85 = .ok (.invokevirtual 384, 3) := by decide +kernel
theorem dX12_hasEffects_88 : decode cX12_hasEffects 88 = .ok (.ifCond .eq 7, 3) := by decide +kernel
theorem dX12_hasEffects_91 : decode cX12_hasEffects 91 = .ok (.iconst 1, 1) := by decide +kernel
theorem dX12_hasEffects_92 : decode cX12_hasEffects 92 = .ok (.goto 4, 3) := by decide +kernel
theorem dX12_hasEffects_95 : decode cX12_hasEffects 95 = .ok (.iconst 0, 1) := by decide +kernel
theorem dX12_hasEffects_96 : decode cX12_hasEffects 96 = .ok (.ireturn, 1) := by decide +kernel
theorem dX12_hasName_0 : decode cX12_hasName 0 = .ok (.aload_n 0, 1) := by decide +kernel
theorem dX12_hasName_1 : decode cX12_hasName 1 = .ok (.iload_n 1, 1) := by decide +kernel
theorem dX12_hasName_2 : decode cX12_hasName 2 = .ok (.invokevirtual 381, 3) := by decide +kernel
theorem dX12_hasName_5 : decode cX12_hasName 5 = .ok (.ifCond .eq 16, 3) := by decide +kernel
theorem dX12_hasName_8 : decode cX12_hasName 8 = .ok (.aload_n 0, 1) := by decide +kernel
theorem dX12_hasName_9 : decode cX12_hasName 9 = .ok (.aload_n 0, 1) := by decide +kernel
theorem dX12_hasName_10 : decode cX12_hasName 10 = .ok (.getfield 91, 3) := by decide +kernel
theorem dX12_hasName_13 : decode cX12_hasName 13 = .ok (.iload_n 1, 1) := by decide +kernel
theorem dX12_hasName_14 : decode cX12_hasName 14 = .ok (.iaload, 1) := by decide +kernel
theorem dX12_hasName_15 : decode cX12_hasName 15 = .ok (.iload_n 2, 1) := by decide +kernel
theorem dX12_hasName_16 : decode cX12_hasName 16 = .ok (.iload_n 3, 1) := by decide +kernel
theorem dX12_hasName_17 : decode cX12_hasName 17 = .ok (.invokevirtual 390, 3) := by decide +kernel
theorem dX12_hasName_20 : decode cX12_hasName 20 = .ok (.ireturn, 1) := by decide +kernel
theorem dX12_hasName_21 : decode cX12_hasName 21 = .ok (.aload_n 0, 1) := by decide +kernel
theorem dX12_hasName_22 : decode cX12_hasName 22 = .ok (.iload_n 1, 1) := by decide +kernel
theorem dX12_hasName_23 : decode cX12_hasName 23 = .ok (.invokevirtual 387, 3) := by decide +kernel
theorem dX12_hasName_26 : decode cX12_hasName 26 = .ok (.ifCond .eq 39, 3) := by decide +kernel
theorem dX12_hasName_29 : decode cX12_hasName 29 = .ok (.aload_n 0, 1) := by decide +kernel
theorem dX12_hasName_30 : decode cX12_hasName 30 = .ok (.aload_n 0, 1) := by decide +kernel
theorem dX12_hasName_31 : decode cX12_hasName 31 = .ok (.getfield 91, 3) := by decide +kernel
theorem dX12_hasName_34 : decode cX12_hasName 34 = .ok (.iload_n 1, 1) := by decide +kernel
theorem dX12_hasName_35 : decode cX12_hasName 35 = .ok (.iaload, 1) := by decide +kernel
theorem dX12_hasName_36 : decode cX12_hasName 36 = .ok (.iload_n 2, 1) := by decide +kernel
theorem dX12_hasName_37 : decode cX12_hasName 37 = .ok (.iload_n 3, 1) := by decide +kernel
theorem dX12_hasName_38 : decode cX12_hasName 38 = .ok (.invokevirtual 390, 3) := by decide +kernel
theorem dX12_hasName_41 : decode cX12_hasName 41 = .ok (.ifCond .ne 18, 3) := by decide +kernel
theorem dX12_hasName_44 : decode cX12_hasName 44 = .ok (.aload_n 0, 1) := by decide +kernel
theorem dX12_hasName_45 : decode cX12_hasName 45 = .ok (.aload_n 0, 1) := by decide +kernel
theorem dX12_hasName_46 : decode cX12_hasName 46 = .ok (.getfield 94, 3) := by decide +kernel
theorem dX12_hasName_49 : decode cX12_hasName 49 = .ok (.iload_n 1, 1) := by decide +kernel
theorem dX12_hasName_50 : decode cX12_hasName 50 = .ok (.iaload, 1) := by decide +kernel
theorem dX12_hasName_51 : decode cX12_hasName 51 = .ok (.iload_n 2, 1) := by decide +kernel
theorem dX12_hasName_52 : decode cX12_hasName 52 = .ok (.iload_n 3, 1) := by decide +kernel
theorem dX12_hasName_53 : decode cX12_hasName 53 = .ok (.invokevirtual 390, 3) := by decide +kernel
theorem dX12_hasName_56 : decode cX12_hasName 56 = .ok (.ifCond .eq 7, 3) := by decide +kernel
theorem dX12_hasName_59 : decode cX12_hasName 59 = .ok (.iconst 1, 1) := by decide +kernel
theorem dX12_hasName_60 : decode cX12_hasName 60 = .ok (.goto 4, 3) := by decide +kernel
theorem dX12_hasName_63 : decode cX12_hasName 63 = .ok (.iconst 0, 1) := by decide +kernel
theorem dX12_hasName_64 : decode cX12_hasName 64 = .ok (.ireturn, 1) := by decide +kernel
theorem dX12_hasName_65 : decode cX12_hasName 65 = .ok (.aload_n 0, 1) := by decide +kernel
theorem dX12_hasName_66 : decode cX12_hasName 66 = .ok (.getfield 88, 3) := by decide +kernel
theorem dX12_hasName_69 : decode cX12_hasName 69 = .ok (.iload_n 1, 1) := by decide +kernel
theorem dX12_hasName_70 : decode cX12_hasName 70 = .ok (.iaload, 1) := by decide +kernel
theorem dX12_hasName_71 : decode cX12_hasName 71 = .ok (.iload_n 2, 1) := by decide +kernel
theorem dX12_hasName_72 : decode cX12_hasName 72 = .ok (.if_icmp .ne 17, 3) := by decide +kernel
theorem dX12_hasName_75 : decode cX12_hasName 75 = .ok (.aload_n 0, 1) := by decide +kernel
theorem dX12_hasName_76 : decode cX12_hasName 76 = .ok (.getfield 91, 3) := by decide +kernel
theorem dX12_hasName_79 : decode cX12_hasName 79 = .ok (.iload_n 1, 1) := by decide +kernel
theorem dX12_hasName_80 : decode cX12_hasName 80 = .ok (.iaload, 1) := by decide +kernel
theorem dX12_hasName_81 : decode cX12_hasName 81 = .ok (.iload_n 3, 1) := by decide +kernel
theorem dX12_hasName_82 : decode cX12_hasName 82 = .ok (.if_icmp .ne 7, 3) := by decide +kernel
theorem dX12_hasName_85 : decode cX12_hasName 85 = .ok (.iconst 1, 1) := by decide +kernel
theorem dX12_hasName_86 : decode cX12_hasName 86 = .ok (.goto 4, 3) := by decide +kernel
theorem dX12_hasName_89 : decode cX12_hasName 89 = .ok (.iconst 0, 1) := by decide +kernel
theorem dX12_hasName_90 : decode cX12_hasName 90 = .ok (.ireturn, 1) := by decide +kernel
theorem dX12_with_0 : decode cX12_with 0 = .ok (.aload_n 0, 1) := by decide +kernel
theorem dX12_with_1 : decode cX12_with 1 = .ok (.iload_n 1, 1) := by decide +kernel
theorem dX12_with_2 : decode cX12_with 2 = .ok (.invokevirtual 381, 3) := by decide +kernel
theorem dX12_with_5 : decode cX12_with 5 = .ok (.ifCond .eq 27, 3) := by decide +kernel
theorem dX12_with_8 : decode cX12_with 8 = .ok (.aload_n 0, 1) := by decide +kernel
theorem dX12_with_9 : decode cX12_with 9 = .ok (.aload_n 0, 1) := by decide +kernel
theorem dX12_with_10 : decode cX12_with 10 = .ok (.getfield 88, 3) := by decide +kernel
theorem dX12_with_13 : decode cX12_with 13 = .ok (.iload_n 1, 1) := by decide +kernel
theorem dX12_with_14 : decode cX12_with 14 = .ok (.iaload, 1) := by decide +kernel
theorem dX12_with_15 : decode cX12_with 15 = .ok (.aload_n 0, 1) := by decide +kernel
theorem dX12_with_16 : decode cX12_with 16 = .ok (.aload_n 0, 1) := by decide +kernel
theorem dX12_with_17 : decode cX12_with 17 = .ok (.getfield 91, 3) := by decide +kernel
theorem dX12_with_20 : decode cX12_with 20 = .ok (.iload_n 1, 1) := by decide +kernel
theorem dX12_with_21 : decode cX12_with 21 = .ok (.iaload, 1) := by decide +kernel
theorem dX12_with_22 : decode cX12_with 22 = .ok (.iload_n 2, 1) := by decide +kernel
theorem dX12_with_23 : decode cX12_with 23 = .ok (.iload_n 3, 1) := by decide +kernel
theorem dX12_with_24 : decode cX12_with 24 = .ok (.invokevirtual 394, 3) := by decide +kernel
theorem dX12_with_27 : decode cX12_with 27 = .ok (.iconst 0, 1) := by decide +kernel
theorem dX12_with_28 : decode cX12_with 28 = .ok (.invokevirtual 398, 3) := by decide +kernel
theorem dX12_with_31 : decode cX12_with 31 = .ok (.ireturn, 1) := by decide +kernel
theorem dX12_with_32 : decode cX12_with 32 = .ok (.aload_n 0, 1) := by decide +kernel
theorem dX12_with_33 : decode cX12_with 33 = .ok (.iload_n 1, 1) := by decide +kernel
theorem dX12_with_34 : decode cX12_with 34 = .ok (.invokevirtual 387, 3) := by decide +kernel
theorem dX12_with_37 : decode cX12_with 37 = .ok (.ifCond .eq 42, 3) := by decide +kernel
theorem dX12_with_40 : decode cX12_with 40 = .ok (.aload_n 0, 1) := by decide +kernel
theorem dX12_with_41 : decode cX12_with 41 = .ok (.aload_n 0, 1) := by decide +kernel
theorem dX12_with_42 : decode cX12_with 42 = .ok (.getfield 91, 3) := by decide +kernel
theorem dX12_with_45 : decode cX12_with 45 = .ok (.iload_n 1, 1) := by decide +kernel
theorem dX12_with_46 : decode cX12_with 46 = .ok (.iaload, 1) := by decide +kernel
theorem dX12_with_47 : decode cX12_with 47 = .ok (.iload_n 2, 1) := by decide +kernel
theorem dX12_with_48 : decode cX12_with 48 = .ok (.iload_n 3, 1) := by decide +kernel
theorem dX12_with_49 : decode cX12_with 49 = .ok (.invokevirtual 394, 3) := by decide +kernel
theorem dX12_with_52 : decode cX12_with 52 = .ok (.istore 4, 2) := by decide +kernel
theorem dX12_with_54 : decode cX12_with 54 = .ok (.aload_n 0, 1) := by decide +kernel
theorem dX12_with_55 : decode cX12_with 55 = .ok (.aload_n 0, 1) := by decide +kernel
theorem dX12_with_56 : decode cX12_with 56 = .ok (.getfield 88, 3) := by decide +kernel
theorem dX12_with_59 : decode cX12_with 59 = .ok (.iload_n 1, 1) := by decide +kernel
theorem dX12_with_60 : decode cX12_with 60 = .ok (.iaload, 1) := by decide +kernel
theorem dX12_with_61 : decode cX12_with 61 = .ok (.iload 4, 2) := by decide +kernel
theorem dX12_with_63 : decode cX12_with 63 = .ok (.aload_n 0, 1) := by decide +kernel
theorem dX12_with_64 : decode cX12_with 64 = .ok (.aload_n 0, 1) := by decide +kernel
theorem dX12_with_65 : decode cX12_with 65 = .ok (.getfield 94, 3) := by decide +kernel
theorem dX12_with_68 : decode cX12_with 68 = .ok (.iload_n 1, 1) := by decide +kernel
theorem dX12_with_69 : decode cX12_with 69 = .ok (.iaload, 1) := by decide +kernel
theorem dX12_with_70 : decode cX12_with 70 = .ok (.iload_n 2, 1) := by decide +kernel
theorem dX12_with_71 : decode cX12_with 71 = .ok (.iload_n 3, 1) := by decide +kernel
theorem dX12_with_72 : decode cX12_with 72 = .ok (.invokevirtual 394, 3) := by decide +kernel
theorem dX12_with_75 : decode cX12_with 75 = .ok (.invokevirtual 398, 3) := by decide +kernel
theorem dX12_with_78 : decode cX12_with 78 = .ok (.ireturn, 1) := by decide +kernel
theorem dX12_with_79 : decode cX12_with 79 = .ok (.aload_n 0, 1) := by decide +kernel
theorem dX12_with_80 : decode cX12_with 80 = .ok (.getfield 88, 3) := by decide +kernel
theorem dX12_with_83 : decode cX12_with 83 = .ok (.iload_n 1, 1) := by decide +kernel
theorem dX12_with_84 : decode cX12_with 84 = .ok (.iaload, 1) := by decide +kernel
theorem dX12_with_85 : decode cX12_with 85 = .ok (.iconst 2, 1) := by decide +kernel
theorem dX12_with_86 : decode cX12_with 86 = .ok (.if_icmp .ne 23, 3) := by decide +kernel
theorem dX12_with_89 : decode cX12_with 89 = .ok (.aload_n 0, 1) := by decide +kernel
theorem dX12_with_90 : decode cX12_with 90 = .ok (.getfield 91, 3) := by decide +kernel
theorem dX12_with_93 : decode cX12_with 93 = .ok (.iload_n 1, 1) := by decide +kernel
theorem dX12_with_94 : decode cX12_with 94 = .ok (.iaload, 1) := by decide +kernel
theorem dX12_with_95 : decode cX12_with 95 = .ok (.iload_n 2, 1) := by decide +kernel
theorem dX12_with_96 : decode cX12_with 96 = .ok (.if_icmp .ne 13, 3) := by decide +kernel
theorem dX12_with_99 : decode cX12_with 99 = .ok (.aload_n 0, 1) := by decide +kernel
theorem dX12_with_100 : decode cX12_with 100 = .ok (.iconst 3, 1) := by decide +kernel
theorem dX12_with_101 : decode cX12_with 101 = .ok (.iload_n 3, 1) := by decide +kernel
theorem dX12_with_102 : decode cX12_with 102 = .ok (.iconst 0, 1) := by decide +kernel
theorem dX12_with_103 : decode cX12_with 103 = .ok (.invokevirtual 398, 3) := by decide +kernel
theorem dX12_with_106 : decode cX12_with 106 = .ok (.goto 4, 3) := by decide +kernel
theorem dX12_with_109 : decode cX12_with 109 = .ok (.iload_n 1, 1) := by decide +kernel
theorem dX12_with_110 : decode cX12_with 110 = .ok (.ireturn, 1) := by decide +kernel
theorem dX12_within_0 : decode cX12_within 0 = .ok (.aload_n 0, 1) := by decide +kernel
theorem dX12_within_1 : decode cX12_within 1 = .ok (.iload_n 1, 1) := by decide +kernel
theorem dX12_within_2 : decode cX12_within 2 = .ok (.invokevirtual 381, 3) := by decide +kernel
theorem dX12_within_5 : decode cX12_within 5 = .ok (.ifCond .eq 16, 3) := by decide +kernel
theorem dX12_within_8 : decode cX12_within 8 = .ok (.iconst 1, 1) := by decide +kernel
theorem dX12_within_9 : decode cX12_within 9 = .ok (.aload_n 0, 1) := by decide +kernel
theorem dX12_within_10 : decode cX12_within 10 = .ok (.aload_n 0, 1) := by decide +kernel
theorem dX12_within_11 : decode cX12_within 11 = .ok (.getfield 91, 3) := by decide +kernel
theorem dX12_within_14 : decode cX12_within 14 = .ok (.iload_n 1, 1) := by decide +kernel
theorem dX12_within_15 : decode cX12_within 15 = .ok (.iaload, 1) := by decide +kernel
theorem dX12_within_16 : decode cX12_within 16 = .ok (.invokevirtual 401, 3) := by decide +kernel
theorem dX12_within_19 : decode cX12_within 19 = .ok (.iadd, 1) := by decide +kernel
theorem dX12_within_20 : decode cX12_within 20 = .ok (.ireturn, 1) := by decide +kernel
theorem dX12_within_21 : decode cX12_within 21 = .ok (.aload_n 0, 1) := by decide +kernel
theorem dX12_within_22 : decode cX12_within 22 = .ok (.iload_n 1, 1) := by decide +kernel
theorem dX12_within_23 : decode cX12_within 23 = .ok (.invokevirtual 387, 3) := by decide +kernel
theorem dX12_within_26 : decode cX12_within 26 = .ok (.ifCond .eq 29, 3) := by decide +kernel
theorem dX12_within_29 : decode cX12_within 29 = .ok (.iconst 1, 1) := by decide +kernel
theorem dX12_within_30 : decode cX12_within 30 = .ok (.aload_n 0, 1) := by decide +kernel
theorem dX12_within_31 : decode cX12_within 31 = .ok (.aload_n 0, 1) := by decide +kernel
theorem dX12_within_32 : decode cX12_within 32 = .ok (.getfield 91, 3) := by decide +kernel
theorem dX12_within_35 : decode cX12_within 35 = .ok (.iload_n 1, 1) := by decide +kernel
theorem dX12_within_36 : decode cX12_within 36 = .ok (.iaload, 1) := by decide +kernel
theorem dX12_within_37 : decode cX12_within 37 = .ok (.invokevirtual 401, 3) := by decide +kernel
theorem dX12_within_40 : decode cX12_within 40 = .ok (.iadd, 1) := by decide +kernel
theorem dX12_within_41 : decode cX12_within 41 = .ok (.aload_n 0, 1) := by decide +kernel
theorem dX12_within_42 : decode cX12_within 42 = .ok (.aload_n 0, 1) := by decide +kernel
theorem dX12_within_43 : decode cX12_within 43 = .ok (.getfield 94, 3) := by decide +kernel
theorem dX12_within_46 : decode cX12_within 46 = .ok (.iload_n 1, 1) := by decide +kernel
theorem dX12_within_47 : decode cX12_within 47 = .ok (.iaload, 1) := by decide +kernel
theorem dX12_within_48 : decode cX12_within 48 = .ok (.invokevirtual 401, 3) := by decide +kernel
theorem dX12_within_51 : decode cX12_within 51 = .ok (.iadd, 1) := by decide +kernel
theorem dX12_within_52 : decode cX12_within 52 = .ok (.goto 4, 3) := by decide +kernel
theorem dX12_within_55 : decode cX12_within 55 = .ok (.iconst 1, 1) := by decide +kernel
theorem dX12_within_56 : decode cX12_within 56 = .ok (.ireturn, 1) := by decide +kernel
theorem dX12_areAlike_0 : decode cX12_areAlike 0 = .ok (.aload_n 0, 1) := by decide +kernel
theorem dX12_areAlike_1 : decode cX12_areAlike 1 = .ok (.getfield 88, 3) := by decide +kernel
theorem dX12_areAlike_4 : decode cX12_areAlike 4 = .ok (.iload_n 1, 1) := by decide +kernel
theorem dX12_areAlike_5 : decode cX12_areAlike 5 = .ok (.iaload, 1) := by decide +kernel
theorem dX12_areAlike_6 : decode cX12_areAlike 6 = .ok (.aload_n 0, 1) := by decide +kernel
theorem dX12_areAlike_7 : decode cX12_areAlike 7 = .ok (.getfield 88, 3) := by decide +kernel
theorem dX12_areAlike_10 : decode cX12_areAlike 10 = .ok (.iload_n 2, 1) := by decide +kernel
theorem dX12_areAlike_11 : decode cX12_areAlike 11 = .ok (.iaload, 1) := by decide +kernel
theorem dX12_areAlike_12 : decode cX12_areAlike 12 = .ok (.if_icmp .eq 5, 3) := by decide +kernel
theorem dX12_areAlike_15 : decode cX12_areAlike 15 = .ok (.iconst 0, 1) := by decide +kernel
theorem dX12_areAlike_16 : decode cX12_areAlike 16 = .ok (.ireturn, 1) := by decide +kernel
theorem dX12_areAlike_17 : decode cX12_areAlike 17 = .ok (.aload_n 0, 1) := by decide +kernel
theorem dX12_areAlike_18 : decode cX12_areAlike 18 = .ok (.iload_n 1, 1) := by decide +kernel
theorem dX12_areAlike_19 : decode cX12_areAlike 19 = .ok (.invokevirtual 381, 3) := by decide +kernel
theorem dX12_areAlike_22 : decode cX12_areAlike 22 = .ok (.ifCond .eq 20, 3) := by decide +kernel
theorem dX12_areAlike_25 : decode cX12_areAlike 25 = .ok (.aload_n 0, 1) := by decide +kernel
theorem dX12_areAlike_26 : decode cX12_areAlike 26 = .ok (.aload_n 0, 1) := by decide +kernel
theorem dX12_areAlike_27 : decode cX12_areAlike 27 = .ok (.getfield 91, 3) := by decide +kernel
theorem dX12_areAlike_30 : decode cX12_areAlike 30 = .ok (.iload_n 1, 1) := by decide +kernel
theorem dX12_areAlike_31 : decode cX12_areAlike 31 = .ok (.iaload, 1) := by decide +kernel
theorem dX12_areAlike_32 : decode cX12_areAlike 32 = .ok (.aload_n 0, 1) := by decide +kernel
theorem dX12_areAlike_33 : decode cX12_areAlike 33 = .ok (.getfield 91, 3) := by decide +kernel
theorem dX12_areAlike_36 : decode cX12_areAlike 36 = .ok (.iload_n 2, 1) := by decide +kernel
theorem dX12_areAlike_37 : decode cX12_areAlike 37 = .ok (.iaload, 1) := by decide +kernel
theorem dX12_areAlike_38 : decode cX12_areAlike 38 = .ok (.invokevirtual 404, 3) := by decide +kernel
theorem dX12_areAlike_41 : decode cX12_areAlike 41 = .ok (.ireturn, 1) := by decide +kernel
theorem dX12_areAlike_42 : decode cX12_areAlike 42 = .ok (.aload_n 0, 1) := by decide +kernel
theorem dX12_areAlike_43 : decode cX12_areAlike 43 = .ok (.iload_n 1, 1) := by decide +kernel
theorem dX12_areAlike_44 : decode cX12_areAlike 44 = .ok (.invokevirtual 387, 3) := by decide +kernel
theorem dX12_areAlike_47 : decode cX12_areAlike 47 = .ok (.ifCond .eq 49, 3) := by decide +kernel
theorem dX12_areAlike_50 : decode cX12_areAlike 50 = .ok (.aload_n 0, 1) := by decide +kernel
theorem dX12_areAlike_51 : decode cX12_areAlike 51 = .ok (.aload_n 0, 1) := by decide +kernel
theorem dX12_areAlike_52 : decode cX12_areAlike 52 = .ok (.getfield 91, 3) := by decide +kernel
theorem dX12_areAlike_55 : decode cX12_areAlike 55 = .ok (.iload_n 1, 1) := by decide +kernel
theorem dX12_areAlike_56 : decode cX12_areAlike 56 = .ok (.iaload, 1) := by decide +kernel
theorem dX12_areAlike_57 : decode cX12_areAlike 57 = .ok (.aload_n 0, 1) := by decide +kernel
theorem dX12_areAlike_58 : decode cX12_areAlike 58 = .ok (.getfield 91, 3) := by decide +kernel
theorem dX12_areAlike_61 : decode cX12_areAlike 61 = .ok (.iload_n 2, 1) := by decide +kernel
theorem dX12_areAlike_62 : decode cX12_areAlike 62 = .ok (.iaload, 1) := by decide +kernel
theorem dX12_areAlike_63 : decode cX12_areAlike 63 = .ok (.invokevirtual 404, 3) := by decide +kernel
theorem dX12_areAlike_66 : decode cX12_areAlike 66 = .ok (.ifCond .eq 26, 3) := by decide +kernel
theorem dX12_areAlike_69 : decode cX12_areAlike 69 = .ok (.aload_n 0, 1) := by decide +kernel
theorem dX12_areAlike_70 : decode cX12_areAlike 70 = .ok (.aload_n 0, 1) := by decide +kernel
theorem dX12_areAlike_71 : decode cX12_areAlike 71 = .ok (.getfield 94, 3) := by decide +kernel
theorem dX12_areAlike_74 : decode cX12_areAlike 74 = .ok (.iload_n 1, 1) := by decide +kernel
theorem dX12_areAlike_75 : decode cX12_areAlike 75 = .ok (.iaload, 1) := by decide +kernel
theorem dX12_areAlike_76 : decode cX12_areAlike 76 = .ok (.aload_n 0, 1) := by decide +kernel
theorem dX12_areAlike_77 : decode cX12_areAlike 77 = .ok (.getfield 94, 3) := by decide +kernel
theorem dX12_areAlike_80 : decode cX12_areAlike 80 = .ok (.iload_n 2, 1) := by decide +kernel
theorem dX12_areAlike_81 : decode cX12_areAlike 81 = .ok (.iaload, 1) := by decide +kernel
theorem dX12_areAlike_82 : decode cX12_areAlike 82 = .ok (.invokevirtual 404, 3) := by decide +kernel
theorem dX12_areAlike_85 : decode cX12_areAlike 85 = .ok (.ifCond .eq 7, 3) := by decide +kernel
theorem dX12_areAlike_88 : decode cX12_areAlike 88 = .ok (.iconst 1, 1) := by decide +kernel
theorem dX12_areAlike_89 : decode cX12_areAlike 89 = .ok (.goto 27, 3) := by decide +kernel
theorem dX12_areAlike_92 : decode cX12_areAlike 92 = .ok (.iconst 0, 1) := by decide +kernel
theorem dX12_areAlike_93 : decode cX12_areAlike 93 = .ok (.goto 23, 3) := by decide +kernel
theorem dX12_areAlike_96 : decode cX12_areAlike 96 = .ok (.aload_n 0, 1) := by decide +kernel
theorem dX12_areAlike_97 : decode cX12_areAlike 97 = .ok (.getfield 91, 3) := by decide +kernel
theorem dX12_areAlike_100 : decode cX12_areAlike 100 = .ok (.iload_n 1, 1) := by decide +kernel
theorem dX12_areAlike_101 : decode cX12_areAlike 101 = .ok (.iaload, 1) := by decide +kernel
theorem dX12_areAlike_102 : decode cX12_areAlike 102 = .ok (.aload_n 0, 1) := by decide +kernel
theorem dX12_areAlike_103 : decode cX12_areAlike 103 = .ok (.getfield 91, 3) := by decide +kernel
theorem dX12_areAlike_106 : decode cX12_areAlike 106 = .ok (.iload_n 2, 1) := by decide +kernel
theorem dX12_areAlike_107 : decode cX12_areAlike 107 = .ok (.iaload, 1) := by decide +kernel
theorem dX12_areAlike_108 : decode cX12_areAlike 108 = .ok (.if_icmp .ne 7, 3) := by decide +kernel
theorem dX12_areAlike_111 : decode cX12_areAlike 111 = .ok (.iconst 1, 1) := by decide +kernel
theorem dX12_areAlike_112 : decode cX12_areAlike 112 = .ok (.goto 4, 3) := by decide +kernel
theorem dX12_areAlike_115 : decode cX12_areAlike 115 = .ok (.iconst 0, 1) := by decide +kernel
theorem dX12_areAlike_116 : decode cX12_areAlike 116 = .ok (.ireturn, 1) := by decide +kernel
theorem dX12_states_0 : decode cX12_states 0 = .ok (.aload_n 0, 1) := by decide +kernel
theorem dX12_states_1 : decode cX12_states 1 = .ok (.getfield 97, 3) := by decide +kernel
theorem dX12_states_4 : decode cX12_states 4 = .ok (.aload_n 0, 1) := by decide +kernel
theorem dX12_states_5 : decode cX12_states 5 = .ok (.getfield 407, 3) := by decide +kernel
theorem dX12_states_8 : decode cX12_states 8 = .ok (.iload_n 1, 1) := by decide +kernel
theorem dX12_states_9 : decode cX12_states 9 = .ok (.iastore, 1) := by decide +kernel
theorem dX12_states_10 : decode cX12_states 10 = .ok (.aload_n 0, 1) := by decide +kernel
theorem dX12_states_11 : decode cX12_states 11 = .ok (.getfield 100, 3) := by decide +kernel
theorem dX12_states_14 : decode cX12_states 14 = .ok (.aload_n 0, 1) := by decide +kernel
theorem dX12_states_15 : decode cX12_states 15 = .ok (.getfield 407, 3) := by decide +kernel
theorem dX12_states_18 : decode cX12_states 18 = .ok (.iload_n 2, 1) := by decide +kernel
theorem dX12_states_19 : decode cX12_states 19 = .ok (.iastore, 1) := by decide +kernel
theorem dX12_states_20 : decode cX12_states 20 = .ok (.aload_n 0, 1) := by decide +kernel
theorem dX12_states_21 : decode cX12_states 21 = .ok (.getfield 103, 3) := by decide +kernel
theorem dX12_states_24 : decode cX12_states 24 = .ok (.aload_n 0, 1) := by decide +kernel
theorem dX12_states_25 : decode cX12_states 25 = .ok (.getfield 407, 3) := by decide +kernel
theorem dX12_states_28 : decode cX12_states 28 = .ok (.iload_n 3, 1) := by decide +kernel
theorem dX12_states_29 : decode cX12_states 29 = .ok (.iastore, 1) := by decide +kernel
theorem dX12_states_30 : decode cX12_states 30 = .ok (.aload_n 0, 1) := by decide +kernel
theorem dX12_states_31 : decode cX12_states 31 = .ok (.dup, 1) := by decide +kernel
theorem dX12_states_32 : decode cX12_states 32 = .ok (.getfield 407, 3) := by decide +kernel
theorem dX12_states_35 : decode cX12_states 35 = .ok (.iconst 1, 1) := by decide +kernel
theorem dX12_states_36 : decode cX12_states 36 = .ok (.iadd, 1) := by decide +kernel
theorem dX12_states_37 : decode cX12_states 37 = .ok (.putfield 407, 3) := by decide +kernel
theorem dX12_states_40 : decode cX12_states 40 = .ok (.return_, 1) := by decide +kernel
theorem dX12_freshX_0 : decode cX12_freshX 0 = .ok (.aload_n 0, 1) := by decide +kernel
theorem dX12_freshX_1 : decode cX12_freshX 1 = .ok (.iconst 2, 1) := by decide +kernel
theorem dX12_freshX_2 : decode cX12_freshX 2 = .ok (.aload_n 0, 1) := by decide +kernel
theorem dX12_freshX_3 : decode cX12_freshX 3 = .ok (.getfield 410, 3) := by decide +kernel
theorem dX12_freshX_6 : decode cX12_freshX 6 = .ok (.iload_n 1, 1) := by decide +kernel
theorem dX12_freshX_7 : decode cX12_freshX 7 = .ok (.invokevirtual 413, 3) := by decide +kernel
theorem dX12_freshX_10 : decode cX12_freshX 10 = .ok (.aload_n 0, 1) := by decide +kernel
theorem dX12_freshX_11 : decode cX12_freshX 11 = .ok (.dup, 1) := by decide +kernel
theorem dX12_freshX_12 : decode cX12_freshX 12 = .ok (.getfield 410, 3) := by decide +kernel
theorem dX12_freshX_15 : decode cX12_freshX 15 = .ok (.iconst 1, 1) := by decide +kernel
theorem dX12_freshX_16 : decode cX12_freshX 16 = .ok (.iadd, 1) := by decide +kernel
theorem dX12_freshX_17 : decode cX12_freshX 17 = .ok (.putfield 410, 3) := by decide +kernel
theorem dX12_freshX_20 : decode cX12_freshX 20 = .ok (.aload_n 0, 1) := by decide +kernel
theorem dX12_freshX_21 : decode cX12_freshX 21 = .ok (.iconst 3, 1) := by decide +kernel
theorem dX12_freshX_22 : decode cX12_freshX 22 = .ok (.aload_n 0, 1) := by decide +kernel
theorem dX12_freshX_23 : decode cX12_freshX 23 = .ok (.getfield 410, 3) := by decide +kernel
theorem dX12_freshX_26 : decode cX12_freshX 26 = .ok (.iconst 1, 1) := by decide +kernel
theorem dX12_freshX_27 : decode cX12_freshX 27 = .ok (.isub, 1) := by decide +kernel
theorem dX12_freshX_28 : decode cX12_freshX 28 = .ok (.iconst 0, 1) := by decide +kernel
theorem dX12_freshX_29 : decode cX12_freshX 29 = .ok (.invokevirtual 398, 3) := by decide +kernel
theorem dX12_freshX_32 : decode cX12_freshX 32 = .ok (.ireturn, 1) := by decide +kernel
theorem dX12_settles_0 : decode cX12_settles 0 = .ok (.iconst 0, 1) := by decide +kernel
theorem dX12_settles_1 : decode cX12_settles 1 = .ok (.istore_n 3, 1) := by decide +kernel
theorem dX12_settles_2 : decode cX12_settles 2 = .ok (.iload_n 3, 1) := by decide +kernel
theorem dX12_settles_3 : decode cX12_settles 3 = .ok (.iload_n 1, 1) := by decide +kernel
theorem dX12_settles_4 : decode cX12_settles 4 = .ok (.if_icmp .ge 58, 3) := by decide +kernel
theorem dX12_settles_7 : decode cX12_settles 7 = .ok (.aload_n 0, 1) := by decide +kernel
theorem dX12_settles_8 : decode cX12_settles 8 = .ok (.aload_n 0, 1) := by decide +kernel
theorem dX12_settles_9 : decode cX12_settles 9 = .ok (.getfield 112, 3) := by decide +kernel
theorem dX12_settles_12 : decode cX12_settles 12 = .ok (.iload_n 3, 1) := by decide +kernel
theorem dX12_settles_13 : decode cX12_settles 13 = .ok (.iaload, 1) := by decide +kernel
theorem dX12_settles_14 : decode cX12_settles 14 = .ok (.invokevirtual 384, 3) := by decide +kernel
theorem dX12_settles_17 : decode cX12_settles 17 = .ok (.ifCond .ne 23, 3) := by decide +kernel
theorem dX12_settles_20 : decode cX12_settles 20 = .ok (.iload_n 2, 1) := by decide +kernel
theorem dX12_settles_21 : decode cX12_settles 21 = .ok (.iconst (-1), 1) := by decide +kernel
theorem dX12_settles_22 : decode cX12_settles 22 = .ok (.if_icmp .eq 34, 3) := by decide +kernel
theorem dX12_settles_25 : decode cX12_settles 25 = .ok (.aload_n 0, 1) := by decide +kernel
theorem dX12_settles_26 : decode cX12_settles 26 = .ok (.aload_n 0, 1) := by decide +kernel
theorem dX12_settles_27 : decode cX12_settles 27 = .ok (.getfield 112, 3) := by decide +kernel
theorem dX12_settles_30 : decode cX12_settles 30 = .ok (.iload_n 3, 1) := by decide +kernel
theorem dX12_settles_31 : decode cX12_settles 31 = .ok (.iaload, 1) := by decide +kernel
theorem dX12_settles_32 : decode cX12_settles 32 = .ok (.iconst 1, 1) := by decide +kernel
theorem dX12_settles_33 : decode cX12_settles 33 = .ok (.iload_n 2, 1) := by decide +kernel
theorem dX12_settles_34 : decode cX12_settles 34 = .ok (.invokevirtual 390, 3) := by decide +kernel
theorem dX12_settles_37 : decode cX12_settles 37 = .ok (.ifCond .eq 19, 3) := by decide +kernel
theorem dX12_settles_40 : decode cX12_settles 40 = .ok (.aload_n 0, 1) := by decide +kernel
theorem dX12_settles_41 : decode cX12_settles 41 = .ok (.getfield 112, 3) := by decide +kernel
theorem dX12_settles_44 : decode cX12_settles 44 = .ok (.iload_n 3, 1) := by decide +kernel
theorem dX12_settles_45 : decode cX12_settles 45 = .ok (.aload_n 0, 1) := by decide +kernel
theorem dX12_settles_46 : decode cX12_settles 46 = .ok (.aload_n 0, 1) := by decide +kernel
theorem dX12_settles_47 : decode cX12_settles 47 = .ok (.getfield 112, 3) := by decide +kernel
theorem dX12_settles_50 : decode cX12_settles 50 = .ok (.iload_n 3, 1) := by decide +kernel
theorem dX12_settles_51 : decode cX12_settles 51 = .ok (.iaload, 1) := by decide +kernel
theorem dX12_settles_52 : decode cX12_settles 52 = .ok (.invokevirtual 416, 3) := by decide +kernel
theorem dX12_settles_55 : decode cX12_settles 55 = .ok (.iastore, 1) := by decide +kernel
theorem dX12_settles_56 : decode cX12_settles 56 = .ok (.iinc 3 1, 3) := by decide +kernel
theorem dX12_settles_59 : decode cX12_settles 59 = .ok (.goto (-57), 3) := by decide +kernel
theorem dX12_settles_62 : decode cX12_settles 62 = .ok (.return_, 1) := by decide +kernel
theorem dX12_pops__0 : decode cX12_pops_ 0 = .ok (.aload_n 0, 1) := by decide +kernel
theorem dX12_pops__1 : decode cX12_pops_ 1 = .ok (.dup, 1) := by decide +kernel
theorem dX12_pops__2 : decode cX12_pops_ 2 = .ok (.getfield 419, 3) := by decide +kernel
theorem dX12_pops__5 : decode cX12_pops_ 5 = .ok (.iconst 1, 1) := by decide +kernel
theorem dX12_pops__6 : decode cX12_pops_ 6 = .ok (.isub, 1) := by decide +kernel
theorem dX12_pops__7 : decode cX12_pops_ 7 = .ok (.putfield 419, 3) := by decide +kernel
theorem dX12_pops__10 : decode cX12_pops_ 10 = .ok (.aload_n 0, 1) := by decide +kernel
theorem dX12_pops__11 : decode cX12_pops_ 11 = .ok (.getfield 112, 3) := by decide +kernel
theorem dX12_pops__14 : decode cX12_pops_ 14 = .ok (.aload_n 0, 1) := by decide +kernel
theorem dX12_pops__15 : decode cX12_pops_ 15 = .ok (.getfield 419, 3) := by decide +kernel
theorem dX12_pops__18 : decode cX12_pops_ 18 = .ok (.iaload, 1) := by decide +kernel
theorem dX12_pops__19 : decode cX12_pops_ 19 = .ok (.ireturn, 1) := by decide +kernel
theorem dX12_lays_0 : decode cX12_lays 0 = .ok (.aload_n 0, 1) := by decide +kernel
theorem dX12_lays_1 : decode cX12_lays 1 = .ok (.getfield 112, 3) := by decide +kernel
theorem dX12_lays_4 : decode cX12_lays 4 = .ok (.aload_n 0, 1) := by decide +kernel
theorem dX12_lays_5 : decode cX12_lays 5 = .ok (.getfield 419, 3) := by decide +kernel
theorem dX12_lays_8 : decode cX12_lays 8 = .ok (.iload_n 1, 1) := by decide +kernel
theorem dX12_lays_9 : decode cX12_lays 9 = .ok (.iastore, 1) := by decide +kernel
theorem dX12_lays_10 : decode cX12_lays 10 = .ok (.aload_n 0, 1) := by decide +kernel
theorem dX12_lays_11 : decode cX12_lays 11 = .ok (.dup, 1) := by decide +kernel
theorem dX12_lays_12 : decode cX12_lays 12 = .ok (.getfield 419, 3) := by decide +kernel
theorem dX12_lays_15 : decode cX12_lays 15 = .ok (.iconst 1, 1) := by decide +kernel
theorem dX12_lays_16 : decode cX12_lays 16 = .ok (.iadd, 1) := by decide +kernel
theorem dX12_lays_17 : decode cX12_lays 17 = .ok (.putfield 419, 3) := by decide +kernel
theorem dX12_lays_20 : decode cX12_lays 20 = .ok (.return_, 1) := by decide +kernel
theorem dX12_alone_0 : decode cX12_alone 0 = .ok (.aload_n 0, 1) := by decide +kernel
theorem dX12_alone_1 : decode cX12_alone 1 = .ok (.iload_n 1, 1) := by decide +kernel
theorem dX12_alone_2 : decode cX12_alone 2 = .ok (.invokevirtual 384, 3) := by decide +kernel
theorem dX12_alone_5 : decode cX12_alone 5 = .ok (.ifCond .ne 4, 3) := by decide +kernel
theorem dX12_alone_8 : decode cX12_alone 8 = .ok (.return_, 1) := by decide +kernel
theorem dX12_alone_9 : decode cX12_alone 9 = .ok (.aload_n 0, 1) := by decide +kernel
theorem dX12_alone_10 : decode cX12_alone 10 = .ok (.aload_n 0, 1) := by decide +kernel
theorem dX12_alone_11 : decode cX12_alone 11 = .ok (.getfield 419, 3) := by decide +kernel
theorem dX12_alone_14 : decode cX12_alone 14 = .ok (.iconst (-1), 1) := by decide +kernel
theorem dX12_alone_15 : decode cX12_alone 15 = .ok (.invokevirtual 422, 3) := by decide +kernel
theorem dX12_alone_18 : decode cX12_alone 18 = .ok (.aload_n 0, 1) := by decide +kernel
theorem dX12_alone_19 : decode cX12_alone 19 = .ok (.iconst 4, 1) := by decide +kernel
theorem dX12_alone_20 : decode cX12_alone 20 = .ok (.iconst (-1), 1) := by decide +kernel
theorem dX12_alone_21 : decode cX12_alone 21 = .ok (.iload_n 1, 1) := by decide +kernel
theorem dX12_alone_22 : decode cX12_alone 22 = .ok (.invokevirtual 413, 3) := by decide +kernel
theorem dX12_alone_25 : decode cX12_alone 25 = .ok (.return_, 1) := by decide +kernel
theorem dX12_doubles_0 : decode cX12_doubles 0 = .ok (.aload_n 0, 1) := by decide +kernel
theorem dX12_doubles_1 : decode cX12_doubles 1 = .ok (.invokevirtual 426, 3) := by decide +kernel
theorem dX12_doubles_4 : decode cX12_doubles 4 = .ok (.istore_n 1, 1) := by decide +kernel
theorem dX12_doubles_5 : decode cX12_doubles 5 = .ok (.aload_n 0, 1) := by decide +kernel
theorem dX12_doubles_6 : decode cX12_doubles 6 = .ok (.getfield 88, 3) := by decide +kernel
theorem dX12_doubles_9 : decode cX12_doubles 9 = .ok (.iload_n 1, 1) := by decide +kernel
theorem dX12_doubles_10 : decode cX12_doubles 10 = .ok (.iaload, 1) := by decide +kernel
theorem dX12_doubles_11 : decode cX12_doubles 11 = .ok (.ifCond .eq 26, 3) := by decide +kernel
theorem dX12_doubles_14 : decode cX12_doubles 14 = .ok (.aload_n 0, 1) := by decide +kernel
theorem dX12_doubles_15 : decode cX12_doubles 15 = .ok (.iload_n 1, 1) := by decide +kernel
theorem dX12_doubles_16 : decode cX12_doubles 16 = .ok (.invokevirtual 428, 3) := by decide +kernel
theorem dX12_doubles_19 : decode cX12_doubles 19 = .ok (.ifCond .ne 18, 3) := by decide +kernel
theorem dX12_doubles_22 : decode cX12_doubles 22 = .ok (.aload_n 0, 1) := by decide +kernel
theorem dX12_doubles_23 : decode cX12_doubles 23 = .ok (.aload_n 0, 1) := by decide +kernel
theorem dX12_doubles_24 : decode cX12_doubles 24 = .ok (.getfield 419, 3) := by decide +kernel
theorem dX12_doubles_27 : decode cX12_doubles 27 = .ok (.iconst (-1), 1) := by decide +kernel
theorem dX12_doubles_28 : decode cX12_doubles 28 = .ok (.invokevirtual 422, 3) := by decide +kernel
theorem dX12_doubles_31 : decode cX12_doubles 31 = .ok (.aload_n 0, 1) := by decide +kernel
theorem dX12_doubles_32 : decode cX12_doubles 32 = .ok (.iload_n 1, 1) := by decide +kernel
theorem dX12_doubles_33 : decode cX12_doubles 33 = .ok (.invokevirtual 416, 3) := by decide +kernel
theorem dX12_doubles_36 : decode cX12_doubles 36 = .ok (.istore_n 1, 1) := by decide +kernel
theorem dX12_doubles_37 : decode cX12_doubles 37 = .ok (.aload_n 0, 1) := by decide +kernel
theorem dX12_doubles_38 : decode cX12_doubles 38 = .ok (.iload_n 1, 1) := by decide +kernel
theorem dX12_doubles_39 : decode cX12_doubles 39 = .ok (.invokevirtual 431, 3) := by decide +kernel
theorem dX12_doubles_42 : decode cX12_doubles 42 = .ok (.aload_n 0, 1) := by decide +kernel
theorem dX12_doubles_43 : decode cX12_doubles 43 = .ok (.iload_n 1, 1) := by decide +kernel
theorem dX12_doubles_44 : decode cX12_doubles 44 = .ok (.invokevirtual 431, 3) := by decide +kernel
theorem dX12_doubles_47 : decode cX12_doubles 47 = .ok (.return_, 1) := by decide +kernel
theorem dX12_changes_0 : decode cX12_changes 0 = .ok (.aload_n 0, 1) := by decide +kernel
theorem dX12_changes_1 : decode cX12_changes 1 = .ok (.aload_n 0, 1) := by decide +kernel
theorem dX12_changes_2 : decode cX12_changes 2 = .ok (.getfield 112, 3) := by decide +kernel
theorem dX12_changes_5 : decode cX12_changes 5 = .ok (.aload_n 0, 1) := by decide +kernel
theorem dX12_changes_6 : decode cX12_changes 6 = .ok (.getfield 419, 3) := by decide +kernel
theorem dX12_changes_9 : decode cX12_changes 9 = .ok (.iconst 1, 1) := by decide +kernel
theorem dX12_changes_10 : decode cX12_changes 10 = .ok (.isub, 1) := by decide +kernel
theorem dX12_changes_11 : decode cX12_changes 11 = .ok (.iaload, 1) := by decide +kernel
theorem dX12_changes_12 : decode cX12_changes 12 = .ok (.invokevirtual 384, 3) := by decide +kernel
theorem dX12_changes_15 : decode cX12_changes 15 = .ok (.ifCond .eq 32, 3) := by decide +kernel
theorem dX12_changes_18 : decode cX12_changes 18 = .ok (.aload_n 0, 1) := by decide +kernel
theorem dX12_changes_19 : decode cX12_changes 19 = .ok (.aload_n 0, 1) := by decide +kernel
theorem dX12_changes_20 : decode cX12_changes 20 = .ok (.getfield 112, 3) := by decide +kernel
theorem dX12_changes_23 : decode cX12_changes 23 = .ok (.aload_n 0, 1) := by decide +kernel
theorem dX12_changes_24 : decode cX12_changes 24 = .ok (.getfield 419, 3) := by decide +kernel
theorem dX12_changes_27 : decode cX12_changes 27 = .ok (.iconst 2, 1) := by decide +kernel
theorem dX12_changes_28 : decode cX12_changes 28 = .ok (.isub, 1) := by decide +kernel
theorem dX12_changes_29 : decode cX12_changes 29 = .ok (.iaload, 1) := by decide +kernel
theorem dX12_changes_30 : decode cX12_changes 30 = .ok (.invokevirtual 384, 3) := by decide +kernel
theorem dX12_changes_33 : decode cX12_changes 33 = .ok (.ifCond .eq 14, 3) := by decide +kernel
theorem dX12_changes_36 : decode cX12_changes 36 = .ok (.aload_n 0, 1) := by decide +kernel
theorem dX12_changes_37 : decode cX12_changes 37 = .ok (.aload_n 0, 1) := by decide +kernel
theorem dX12_changes_38 : decode cX12_changes 38 = .ok (.getfield 419, 3) := by decide +kernel
theorem dX12_changes_41 : decode cX12_changes 41 = .ok (.iconst 1, 1) := by decide +kernel
theorem dX12_changes_42 : decode cX12_changes 42 = .ok (.isub, 1) := by decide +kernel
theorem dX12_changes_43 : decode cX12_changes 43 = .ok (.iconst (-1), 1) := by decide +kernel
theorem dX12_changes_44 : decode cX12_changes 44 = .ok (.invokevirtual 422, 3) := by decide +kernel
theorem dX12_changes_47 : decode cX12_changes 47 = .ok (.aload_n 0, 1) := by decide +kernel
theorem dX12_changes_48 : decode cX12_changes 48 = .ok (.invokevirtual 426, 3) := by decide +kernel
theorem dX12_changes_51 : decode cX12_changes 51 = .ok (.istore_n 1, 1) := by decide +kernel
theorem dX12_changes_52 : decode cX12_changes 52 = .ok (.aload_n 0, 1) := by decide +kernel
theorem dX12_changes_53 : decode cX12_changes 53 = .ok (.invokevirtual 426, 3) := by decide +kernel
theorem dX12_changes_56 : decode cX12_changes 56 = .ok (.istore_n 2, 1) := by decide +kernel
theorem dX12_changes_57 : decode cX12_changes 57 = .ok (.aload_n 0, 1) := by decide +kernel
theorem dX12_changes_58 : decode cX12_changes 58 = .ok (.iload_n 1, 1) := by decide +kernel
theorem dX12_changes_59 : decode cX12_changes 59 = .ok (.invokevirtual 431, 3) := by decide +kernel
theorem dX12_changes_62 : decode cX12_changes 62 = .ok (.aload_n 0, 1) := by decide +kernel
theorem dX12_changes_63 : decode cX12_changes 63 = .ok (.iload_n 2, 1) := by decide +kernel
theorem dX12_changes_64 : decode cX12_changes 64 = .ok (.invokevirtual 431, 3) := by decide +kernel
theorem dX12_changes_67 : decode cX12_changes 67 = .ok (.return_, 1) := by decide +kernel
theorem dX12_lifts_0 : decode cX12_lifts 0 = .ok (.iload_n 1, 1) := by decide +kernel
theorem dX12_lifts_1 : decode cX12_lifts 1 = .ok (.lookupswitch 161 #[(33, 111), (100, 142), (105, 99), (107, 75), (108, 87), (110, 126), (112, 152), (119, 147)], 75) := by decide +kernel
theorem dX12_lifts_76 : decode cX12_lifts 76 = .ok (.aload_n 0, 1) := by decide +kernel
theorem dX12_lifts_77 : decode cX12_lifts 77 = .ok (.aload_n 0, 1) := by decide +kernel
theorem dX12_lifts_78 : decode cX12_lifts 78 = .ok (.iconst 0, 1) := by decide +kernel
theorem dX12_lifts_79 : decode cX12_lifts 79 = .ok (.iload_n 2, 1) := by decide +kernel
theorem dX12_lifts_80 : decode cX12_lifts 80 = .ok (.iconst 0, 1) := by decide +kernel
theorem dX12_lifts_81 : decode cX12_lifts 81 = .ok (.invokevirtual 398, 3) := by decide +kernel
theorem dX12_lifts_84 : decode cX12_lifts 84 = .ok (.invokevirtual 431, 3) := by decide +kernel
theorem dX12_lifts_87 : decode cX12_lifts 87 = .ok (.return_, 1) := by decide +kernel
theorem dX12_lifts_88 : decode cX12_lifts 88 = .ok (.aload_n 0, 1) := by decide +kernel
theorem dX12_lifts_89 : decode cX12_lifts 89 = .ok (.aload_n 0, 1) := by decide +kernel
theorem dX12_lifts_90 : decode cX12_lifts 90 = .ok (.iconst 1, 1) := by decide +kernel
theorem dX12_lifts_91 : decode cX12_lifts 91 = .ok (.iload_n 2, 1) := by decide +kernel
theorem dX12_lifts_92 : decode cX12_lifts 92 = .ok (.iconst 0, 1) := by decide +kernel
theorem dX12_lifts_93 : decode cX12_lifts 93 = .ok (.invokevirtual 398, 3) := by decide +kernel
theorem dX12_lifts_96 : decode cX12_lifts 96 = .ok (.invokevirtual 431, 3) := by decide +kernel
theorem dX12_lifts_99 : decode cX12_lifts 99 = .ok (.return_, 1) := by decide +kernel
theorem dX12_lifts_100 : decode cX12_lifts 100 = .ok (.aload_n 0, 1) := by decide +kernel
theorem dX12_lifts_101 : decode cX12_lifts 101 = .ok (.aload_n 0, 1) := by decide +kernel
theorem dX12_lifts_102 : decode cX12_lifts 102 = .ok (.iconst 4, 1) := by decide +kernel
theorem dX12_lifts_103 : decode cX12_lifts 103 = .ok (.iconst 0, 1) := by decide +kernel
theorem dX12_lifts_104 : decode cX12_lifts 104 = .ok (.iconst 0, 1) := by decide +kernel
theorem dX12_lifts_105 : decode cX12_lifts 105 = .ok (.invokevirtual 398, 3) := by decide +kernel
theorem dX12_lifts_108 : decode cX12_lifts 108 = .ok (.invokevirtual 431, 3) := by decide +kernel
theorem dX12_lifts_111 : decode cX12_lifts 111 = .ok (.return_, 1) := by decide +kernel
theorem dX12_lifts_112 : decode cX12_lifts 112 = .ok (.aload_n 0, 1) := by decide +kernel
theorem dX12_lifts_113 : decode cX12_lifts 113 = .ok (.aload_n 0, 1) := by decide +kernel
theorem dX12_lifts_114 : decode cX12_lifts 114 = .ok (.iconst 5, 1) := by decide +kernel
theorem dX12_lifts_115 : decode cX12_lifts 115 = .ok (.aload_n 0, 1) := by decide +kernel
theorem dX12_lifts_116 : decode cX12_lifts 116 = .ok (.invokevirtual 426, 3) := by decide +kernel
theorem dX12_lifts_119 : decode cX12_lifts 119 = .ok (.iconst 0, 1) := by decide +kernel
theorem dX12_lifts_120 : decode cX12_lifts 120 = .ok (.invokevirtual 398, 3) := by decide +kernel
theorem dX12_lifts_123 : decode cX12_lifts 123 = .ok (.invokevirtual 431, 3) := by decide +kernel
theorem dX12_lifts_126 : decode cX12_lifts 126 = .ok (.return_, 1) := by decide +kernel
theorem dX12_lifts_127 : decode cX12_lifts 127 = .ok (.aload_n 0, 1) := by decide +kernel
theorem dX12_lifts_128 : decode cX12_lifts 128 = .ok (.aload_n 0, 1) := by decide +kernel
theorem dX12_lifts_129 : decode cX12_lifts 129 = .ok (.bipush 6, 2) := by decide +kernel
theorem dX12_lifts_131 : decode cX12_lifts 131 = .ok (.aload_n 0, 1) := by decide +kernel
theorem dX12_lifts_132 : decode cX12_lifts 132 = .ok (.invokevirtual 426, 3) := by decide +kernel
theorem dX12_lifts_135 : decode cX12_lifts 135 = .ok (.iconst 0, 1) := by decide +kernel
theorem dX12_lifts_136 : decode cX12_lifts 136 = .ok (.invokevirtual 398, 3) := by decide +kernel
theorem dX12_lifts_139 : decode cX12_lifts 139 = .ok (.invokevirtual 431, 3) := by decide +kernel
theorem dX12_lifts_142 : decode cX12_lifts 142 = .ok (.return_, 1) := by decide +kernel
theorem dX12_lifts_143 : decode cX12_lifts 143 = .ok (.aload_n 0, 1) := by decide +kernel
theorem dX12_lifts_144 : decode cX12_lifts 144 = .ok (.invokevirtual 433, 3) := by decide +kernel
theorem dX12_lifts_147 : decode cX12_lifts 147 = .ok (.return_, 1) := by decide +kernel
theorem dX12_lifts_148 : decode cX12_lifts 148 = .ok (.aload_n 0, 1) := by decide +kernel
theorem dX12_lifts_149 : decode cX12_lifts 149 = .ok (.invokevirtual 436, 3) := by decide +kernel
theorem dX12_lifts_152 : decode cX12_lifts 152 = .ok (.return_, 1) := by decide +kernel
theorem dX12_lifts_153 : decode cX12_lifts 153 = .ok (.aload_n 0, 1) := by decide +kernel
theorem dX12_lifts_154 : decode cX12_lifts 154 = .ok (.aload_n 0, 1) := by decide +kernel
theorem dX12_lifts_155 : decode cX12_lifts 155 = .ok (.invokevirtual 426, 3) := by decide +kernel
theorem dX12_lifts_158 : decode cX12_lifts 158 = .ok (.invokevirtual 439, 3) := by decide +kernel
theorem dX12_lifts_161 : decode cX12_lifts 161 = .ok (.return_, 1) := by decide +kernel
theorem dX12_lifts_162 : decode cX12_lifts 162 = .ok (.iload_n 1, 1) := by decide +kernel
theorem dX12_lifts_163 : decode cX12_lifts 163 = .ok (.ldc_w 442, 3) := by decide +kernel
theorem dX12_lifts_166 : decode cX12_lifts 166 = .ok (.invokestatic 204, 3) := by decide +kernel
theorem dX12_lifts_169 : decode cX12_lifts 169 = .ok (.ifCond .eq 25, 3) := by decide +kernel
theorem dX12_lifts_172 : decode cX12_lifts 172 = .ok (.aload_n 0, 1) := by decide +kernel
theorem dX12_lifts_173 : decode cX12_lifts 173 = .ok (.invokevirtual 426, 3) := by decide +kernel
theorem dX12_lifts_176 : decode cX12_lifts 176 = .ok (.istore_n 3, 1) := by decide +kernel
theorem dX12_lifts_177 : decode cX12_lifts 177 = .ok (.aload_n 0, 1) := by decide +kernel
theorem dX12_lifts_178 : decode cX12_lifts 178 = .ok (.aload_n 0, 1) := by decide +kernel
theorem dX12_lifts_179 : decode cX12_lifts 179 = .ok (.iload_n 1, 1) := by decide +kernel
theorem dX12_lifts_180 : decode cX12_lifts 180 = .ok (.aload_n 0, 1) := by decide +kernel
theorem dX12_lifts_181 : decode cX12_lifts 181 = .ok (.invokevirtual 426, 3) := by decide +kernel
theorem dX12_lifts_184 : decode cX12_lifts 184 = .ok (.iload_n 3, 1) := by decide +kernel
theorem dX12_lifts_185 : decode cX12_lifts 185 = .ok (.invokevirtual 398, 3) := by decide +kernel
theorem dX12_lifts_188 : decode cX12_lifts 188 = .ok (.invokevirtual 431, 3) := by decide +kernel
theorem dX12_lifts_191 : decode cX12_lifts 191 = .ok (.goto 9, 3) := by decide +kernel
theorem dX12_lifts_194 : decode cX12_lifts 194 = .ok (.aload_n 0, 1) := by decide +kernel
theorem dX12_lifts_195 : decode cX12_lifts 195 = .ok (.iload_n 1, 1) := by decide +kernel
theorem dX12_lifts_196 : decode cX12_lifts 196 = .ok (.iload_n 2, 1) := by decide +kernel
theorem dX12_lifts_197 : decode cX12_lifts 197 = .ok (.invokevirtual 444, 3) := by decide +kernel
theorem dX12_lifts_200 : decode cX12_lifts 200 = .ok (.return_, 1) := by decide +kernel
theorem dX12_tells_0 : decode cX12_tells 0 = .ok (.iload_n 1, 1) := by decide +kernel
theorem dX12_tells_1 : decode cX12_tells 1 = .ok (.bipush 115, 2) := by decide +kernel
theorem dX12_tells_3 : decode cX12_tells 3 = .ok (.if_icmp .eq 15, 3) := by decide +kernel
theorem dX12_tells_6 : decode cX12_tells 6 = .ok (.iload_n 1, 1) := by decide +kernel
theorem dX12_tells_7 : decode cX12_tells 7 = .ok (.bipush 111, 2) := by decide +kernel
theorem dX12_tells_9 : decode cX12_tells 9 = .ok (.if_icmp .eq 9, 3) := by decide +kernel
theorem dX12_tells_12 : decode cX12_tells 12 = .ok (.iload_n 1, 1) := by decide +kernel
theorem dX12_tells_13 : decode cX12_tells 13 = .ok (.bipush 116, 2) := by decide +kernel
theorem dX12_tells_15 : decode cX12_tells 15 = .ok (.if_icmp .ne 10, 3) := by decide +kernel
theorem dX12_tells_18 : decode cX12_tells 18 = .ok (.aload_n 0, 1) := by decide +kernel
theorem dX12_tells_19 : decode cX12_tells 19 = .ok (.invokevirtual 426, 3) := by decide +kernel
theorem dX12_tells_22 : decode cX12_tells 22 = .ok (.goto 4, 3) := by decide +kernel
theorem dX12_tells_25 : decode cX12_tells 25 = .ok (.iconst (-1), 1) := by decide +kernel
theorem dX12_tells_26 : decode cX12_tells 26 = .ok (.istore_n 3, 1) := by decide +kernel
theorem dX12_tells_27 : decode cX12_tells 27 = .ok (.iload_n 3, 1) := by decide +kernel
theorem dX12_tells_28 : decode cX12_tells 28 = .ok (.iconst (-1), 1) := by decide +kernel
theorem dX12_tells_29 : decode cX12_tells 29 = .ok (.if_icmp .ne 10, 3) := by decide +kernel
theorem dX12_tells_32 : decode cX12_tells 32 = .ok (.iload_n 1, 1) := by decide +kernel
theorem dX12_tells_33 : decode cX12_tells 33 = .ok (.bipush 114, 2) := by decide +kernel
theorem dX12_tells_35 : decode cX12_tells 35 = .ok (.if_icmp .eq 4, 3) := by decide +kernel
theorem dX12_tells_38 : decode cX12_tells 38 = .ok (.return_, 1) := by decide +kernel
theorem dX12_tells_39 : decode cX12_tells 39 = .ok (.aload_n 0, 1) := by decide +kernel
theorem dX12_tells_40 : decode cX12_tells 40 = .ok (.aload_n 0, 1) := by decide +kernel
theorem dX12_tells_41 : decode cX12_tells 41 = .ok (.getfield 419, 3) := by decide +kernel
theorem dX12_tells_44 : decode cX12_tells 44 = .ok (.iload_n 1, 1) := by decide +kernel
theorem dX12_tells_45 : decode cX12_tells 45 = .ok (.bipush 115, 2) := by decide +kernel
theorem dX12_tells_47 : decode cX12_tells 47 = .ok (.if_icmp .ne 7, 3) := by decide +kernel
theorem dX12_tells_50 : decode cX12_tells 50 = .ok (.iload_n 2, 1) := by decide +kernel
theorem dX12_tells_51 : decode cX12_tells 51 = .ok (.goto 4, 3) := by decide +kernel
theorem dX12_tells_54 : decode cX12_tells 54 = .ok (.iconst (-1), 1) := by decide +kernel
theorem dX12_tells_55 : decode cX12_tells 55 = .ok (.invokevirtual 422, 3) := by decide +kernel
theorem dX12_tells_58 : decode cX12_tells 58 = .ok (.aload_n 0, 1) := by decide +kernel
theorem dX12_tells_59 : decode cX12_tells 59 = .ok (.iload_n 1, 1) := by decide +kernel
theorem dX12_tells_60 : decode cX12_tells 60 = .ok (.bipush 115, 2) := by decide +kernel
theorem dX12_tells_62 : decode cX12_tells 62 = .ok (.if_icmp .ne 7, 3) := by decide +kernel
theorem dX12_tells_65 : decode cX12_tells 65 = .ok (.iconst 0, 1) := by decide +kernel
theorem dX12_tells_66 : decode cX12_tells 66 = .ok (.goto 25, 3) := by decide +kernel
theorem dX12_tells_69 : decode cX12_tells 69 = .ok (.iload_n 1, 1) := by decide +kernel
theorem dX12_tells_70 : decode cX12_tells 70 = .ok (.bipush 111, 2) := by decide +kernel
theorem dX12_tells_72 : decode cX12_tells 72 = .ok (.if_icmp .ne 7, 3) := by decide +kernel
theorem dX12_tells_75 : decode cX12_tells 75 = .ok (.iconst 3, 1) := by decide +kernel
theorem dX12_tells_76 : decode cX12_tells 76 = .ok (.goto 15, 3) := by decide +kernel
theorem dX12_tells_79 : decode cX12_tells 79 = .ok (.iload_n 1, 1) := by decide +kernel
theorem dX12_tells_80 : decode cX12_tells 80 = .ok (.bipush 116, 2) := by decide +kernel
theorem dX12_tells_82 : decode cX12_tells 82 = .ok (.if_icmp .ne 7, 3) := by decide +kernel
theorem dX12_tells_85 : decode cX12_tells 85 = .ok (.iconst 5, 1) := by decide +kernel
theorem dX12_tells_86 : decode cX12_tells 86 = .ok (.goto 5, 3) := by decide +kernel
theorem dX12_tells_89 : decode cX12_tells 89 = .ok (.bipush 6, 2) := by decide +kernel
theorem dX12_tells_91 : decode cX12_tells 91 = .ok (.iload_n 1, 1) := by decide +kernel
theorem dX12_tells_92 : decode cX12_tells 92 = .ok (.bipush 115, 2) := by decide +kernel
theorem dX12_tells_94 : decode cX12_tells 94 = .ok (.if_icmp .ne 7, 3) := by decide +kernel
theorem dX12_tells_97 : decode cX12_tells 97 = .ok (.iload_n 2, 1) := by decide +kernel
theorem dX12_tells_98 : decode cX12_tells 98 = .ok (.goto 4, 3) := by decide +kernel
theorem dX12_tells_101 : decode cX12_tells 101 = .ok (.iconst (-1), 1) := by decide +kernel
theorem dX12_tells_102 : decode cX12_tells 102 = .ok (.iload_n 3, 1) := by decide +kernel
theorem dX12_tells_103 : decode cX12_tells 103 = .ok (.invokevirtual 413, 3) := by decide +kernel
theorem dX12_tells_106 : decode cX12_tells 106 = .ok (.return_, 1) := by decide +kernel
theorem dX12_endsBlock_0 : decode cX12_endsBlock 0 = .ok (.iconst 0, 1) := by decide +kernel
theorem dX12_endsBlock_1 : decode cX12_endsBlock 1 = .ok (.istore_n 2, 1) := by decide +kernel
theorem dX12_endsBlock_2 : decode cX12_endsBlock 2 = .ok (.iload_n 2, 1) := by decide +kernel
theorem dX12_endsBlock_3 : decode cX12_endsBlock 3 = .ok (.aload_n 0, 1) := by decide +kernel
theorem dX12_endsBlock_4 : decode cX12_endsBlock 4 = .ok (.getfield 419, 3) := by decide +kernel
theorem dX12_endsBlock_7 : decode cX12_endsBlock 7 = .ok (.if_icmp .ge 224, 3) := by decide +kernel
theorem dX12_endsBlock_10 : decode cX12_endsBlock 10 = .ok (.aload_n 0, 1) := by decide +kernel
theorem dX12_endsBlock_11 : decode cX12_endsBlock 11 = .ok (.getfield 88, 3) := by decide +kernel
theorem dX12_endsBlock_14 : decode cX12_endsBlock 14 = .ok (.aload_n 0, 1) := by decide +kernel
theorem dX12_endsBlock_15 : decode cX12_endsBlock 15 = .ok (.getfield 112, 3) := by decide +kernel
theorem dX12_endsBlock_18 : decode cX12_endsBlock 18 = .ok (.iload_n 2, 1) := by decide +kernel
theorem dX12_endsBlock_19 : decode cX12_endsBlock 19 = .ok (.iaload, 1) := by decide +kernel
theorem dX12_endsBlock_20 : decode cX12_endsBlock 20 = .ok (.iaload, 1) := by decide +kernel
theorem dX12_endsBlock_21 : decode cX12_endsBlock 21 = .ok (.iconst 2, 1) := by decide +kernel
theorem dX12_endsBlock_22 : decode cX12_endsBlock 22 = .ok (.if_icmp .ne 21, 3) := by decide +kernel
theorem dX12_endsBlock_25 : decode cX12_endsBlock 25 = .ok (.aload_n 0, 1) := by decide +kernel
theorem dX12_endsBlock_26 : decode cX12_endsBlock 26 = .ok (.getfield 91, 3) := by decide +kernel
theorem dX12_endsBlock_29 : decode cX12_endsBlock 29 = .ok (.aload_n 0, 1) := by decide +kernel
theorem dX12_endsBlock_30 : decode cX12_endsBlock 30 = .ok (.getfield 112, 3) := by decide +kernel
theorem dX12_endsBlock_33 : decode cX12_endsBlock 33 = .ok (.iload_n 2, 1) := by decide +kernel
theorem dX12_endsBlock_34 : decode cX12_endsBlock 34 = .ok (.iaload, 1) := by decide +kernel
theorem dX12_endsBlock_35 : decode cX12_endsBlock 35 = .ok (.iaload, 1) := by decide +kernel
theorem dX12_endsBlock_36 : decode cX12_endsBlock 36 = .ok (.iload_n 2, 1) := by decide +kernel
theorem dX12_endsBlock_37 : decode cX12_endsBlock 37 = .ok (.if_icmp .ne 6, 3) := by decide +kernel
theorem dX12_endsBlock_40 : decode cX12_endsBlock 40 = .ok (.goto 185, 3) := by decide +kernel
theorem dX12_endsBlock_43 : decode cX12_endsBlock 43 = .ok (.aload_n 0, 1) := by decide +kernel
theorem dX12_endsBlock_44 : decode cX12_endsBlock 44 = .ok (.getfield 109, 3) := by decide +kernel
theorem dX12_endsBlock_47 : decode cX12_endsBlock 47 = .ok (.iload_n 1, 1) := by decide +kernel
theorem dX12_endsBlock_48 : decode cX12_endsBlock 48 = .ok (.iaload, 1) := by decide +kernel
theorem dX12_endsBlock_49 : decode cX12_endsBlock 49 = .ok (.iconst (-1), 1) := by decide +kernel
theorem dX12_endsBlock_50 : decode cX12_endsBlock 50 = .ok (.if_icmp .eq 22, 3) := by decide +kernel
theorem dX12_endsBlock_53 : decode cX12_endsBlock 53 = .ok (.aload_n 0, 1) := by decide +kernel
theorem dX12_endsBlock_54 : decode cX12_endsBlock 54 = .ok (.aload_n 0, 1) := by decide +kernel
theorem dX12_endsBlock_55 : decode cX12_endsBlock 55 = .ok (.getfield 109, 3) := by decide +kernel
theorem dX12_endsBlock_58 : decode cX12_endsBlock 58 = .ok (.iload_n 1, 1) := by decide +kernel
theorem dX12_endsBlock_59 : decode cX12_endsBlock 59 = .ok (.iaload, 1) := by decide +kernel
theorem dX12_endsBlock_60 : decode cX12_endsBlock 60 = .ok (.iconst 2, 1) := by decide +kernel
theorem dX12_endsBlock_61 : decode cX12_endsBlock 61 = .ok (.iload_n 2, 1) := by decide +kernel
theorem dX12_endsBlock_62 : decode cX12_endsBlock 62 = .ok (.invokevirtual 390, 3) := by decide +kernel
theorem dX12_endsBlock_65 : decode cX12_endsBlock 65 = .ok (.ifCond .eq 7, 3) := by decide +kernel
theorem dX12_endsBlock_68 : decode cX12_endsBlock 68 = .ok (.iconst 1, 1) := by decide +kernel
theorem dX12_endsBlock_69 : decode cX12_endsBlock 69 = .ok (.goto 4, 3) := by decide +kernel
theorem dX12_endsBlock_72 : decode cX12_endsBlock 72 = .ok (.iconst 0, 1) := by decide +kernel
theorem dX12_endsBlock_73 : decode cX12_endsBlock 73 = .ok (.istore_n 3, 1) := by decide +kernel
theorem dX12_endsBlock_74 : decode cX12_endsBlock 74 = .ok (.iload_n 2, 1) := by decide +kernel
theorem dX12_endsBlock_75 : decode cX12_endsBlock 75 = .ok (.iconst 1, 1) := by decide +kernel
theorem dX12_endsBlock_76 : decode cX12_endsBlock 76 = .ok (.iadd, 1) := by decide +kernel
theorem dX12_endsBlock_77 : decode cX12_endsBlock 77 = .ok (.istore 4, 2) := by decide +kernel
theorem dX12_endsBlock_79 : decode cX12_endsBlock 79 = .ok (.iload 4, 2) := by decide +kernel
theorem dX12_endsBlock_81 : decode cX12_endsBlock 81 = .ok (.aload_n 0, 1) := by decide +kernel
theorem dX12_endsBlock_82 : decode cX12_endsBlock 82 = .ok (.getfield 419, 3) := by decide +kernel
theorem dX12_endsBlock_85 : decode cX12_endsBlock 85 = .ok (.if_icmp .ge 35, 3) := by decide +kernel
theorem dX12_endsBlock_88 : decode cX12_endsBlock 88 = .ok (.iload_n 3, 1) := by decide +kernel
theorem dX12_endsBlock_89 : decode cX12_endsBlock 89 = .ok (.ifCond .ne 19, 3) := by decide +kernel
theorem dX12_endsBlock_92 : decode cX12_endsBlock 92 = .ok (.aload_n 0, 1) := by decide +kernel
theorem dX12_endsBlock_93 : decode cX12_endsBlock 93 = .ok (.aload_n 0, 1) := by decide +kernel
theorem dX12_endsBlock_94 : decode cX12_endsBlock 94 = .ok (.getfield 112, 3) := by decide +kernel
theorem dX12_endsBlock_97 : decode cX12_endsBlock 97 = .ok (.iload 4, 2) := by decide +kernel
theorem dX12_endsBlock_99 : decode cX12_endsBlock 99 = .ok (.iaload, 1) := by decide +kernel
theorem dX12_endsBlock_100 : decode cX12_endsBlock 100 = .ok (.iconst 2, 1) := by decide +kernel
theorem dX12_endsBlock_101 : decode cX12_endsBlock 101 = .ok (.iload_n 2, 1) := by decide +kernel
theorem dX12_endsBlock_102 : decode cX12_endsBlock 102 = .ok (.invokevirtual 390, 3) := by decide +kernel
theorem dX12_endsBlock_105 : decode cX12_endsBlock 105 = .ok (.ifCond .eq 7, 3) := by decide +kernel
theorem dX12_endsBlock_108 : decode cX12_endsBlock 108 = .ok (.iconst 1, 1) := by decide +kernel
theorem dX12_endsBlock_109 : decode cX12_endsBlock 109 = .ok (.goto 4, 3) := by decide +kernel
theorem dX12_endsBlock_112 : decode cX12_endsBlock 112 = .ok (.iconst 0, 1) := by decide +kernel
theorem dX12_endsBlock_113 : decode cX12_endsBlock 113 = .ok (.istore_n 3, 1) := by decide +kernel
theorem dX12_endsBlock_114 : decode cX12_endsBlock 114 = .ok (.iinc 4 1, 3) := by decide +kernel
theorem dX12_endsBlock_117 : decode cX12_endsBlock 117 = .ok (.goto (-38), 3) := by decide +kernel
theorem dX12_endsBlock_120 : decode cX12_endsBlock 120 = .ok (.iload_n 3, 1) := by decide +kernel
theorem dX12_endsBlock_121 : decode cX12_endsBlock 121 = .ok (.ifCond .eq 92, 3) := by decide +kernel
theorem dX12_endsBlock_124 : decode cX12_endsBlock 124 = .ok (.aload_n 0, 1) := by decide +kernel
theorem dX12_endsBlock_125 : decode cX12_endsBlock 125 = .ok (.getfield 410, 3) := by decide +kernel
theorem dX12_endsBlock_128 : decode cX12_endsBlock 128 = .ok (.istore 4, 2) := by decide +kernel
theorem dX12_endsBlock_130 : decode cX12_endsBlock 130 = .ok (.aload_n 0, 1) := by decide +kernel
theorem dX12_endsBlock_131 : decode cX12_endsBlock 131 = .ok (.aload_n 0, 1) := by decide +kernel
theorem dX12_endsBlock_132 : decode cX12_endsBlock 132 = .ok (.iconst 2, 1) := by decide +kernel
theorem dX12_endsBlock_133 : decode cX12_endsBlock 133 = .ok (.iload_n 2, 1) := by decide +kernel
theorem dX12_endsBlock_134 : decode cX12_endsBlock 134 = .ok (.iconst 0, 1) := by decide +kernel
theorem dX12_endsBlock_135 : decode cX12_endsBlock 135 = .ok (.invokevirtual 398, 3) := by decide +kernel
theorem dX12_endsBlock_138 : decode cX12_endsBlock 138 = .ok (.invokevirtual 416, 3) := by decide +kernel
theorem dX12_endsBlock_141 : decode cX12_endsBlock 141 = .ok (.istore 5, 2) := by decide +kernel
theorem dX12_endsBlock_143 : decode cX12_endsBlock 143 = .ok (.iload_n 2, 1) := by decide +kernel
theorem dX12_endsBlock_144 : decode cX12_endsBlock 144 = .ok (.iconst 1, 1) := by decide +kernel
theorem dX12_endsBlock_145 : decode cX12_endsBlock 145 = .ok (.iadd, 1) := by decide +kernel
theorem dX12_endsBlock_146 : decode cX12_endsBlock 146 = .ok (.istore 6, 2) := by decide +kernel
theorem dX12_endsBlock_148 : decode cX12_endsBlock 148 = .ok (.iload 6, 2) := by decide +kernel
theorem dX12_endsBlock_150 : decode cX12_endsBlock 150 = .ok (.aload_n 0, 1) := by decide +kernel
theorem dX12_endsBlock_151 : decode cX12_endsBlock 151 = .ok (.getfield 419, 3) := by decide +kernel
theorem dX12_endsBlock_154 : decode cX12_endsBlock 154 = .ok (.if_icmp .ge 30, 3) := by decide +kernel
theorem dX12_endsBlock_157 : decode cX12_endsBlock 157 = .ok (.aload_n 0, 1) := by decide +kernel
theorem dX12_endsBlock_158 : decode cX12_endsBlock 158 = .ok (.getfield 112, 3) := by decide +kernel
theorem dX12_endsBlock_161 : decode cX12_endsBlock 161 = .ok (.iload 6, 2) := by decide +kernel
theorem dX12_endsBlock_163 : decode cX12_endsBlock 163 = .ok (.aload_n 0, 1) := by decide +kernel
theorem dX12_endsBlock_164 : decode cX12_endsBlock 164 = .ok (.aload_n 0, 1) := by decide +kernel
theorem dX12_endsBlock_165 : decode cX12_endsBlock 165 = .ok (.getfield 112, 3) := by decide +kernel
theorem dX12_endsBlock_168 : decode cX12_endsBlock 168 = .ok (.iload 6, 2) := by decide +kernel
theorem dX12_endsBlock_170 : decode cX12_endsBlock 170 = .ok (.iaload, 1) := by decide +kernel
theorem dX12_endsBlock_171 : decode cX12_endsBlock 171 = .ok (.iload_n 2, 1) := by decide +kernel
theorem dX12_endsBlock_172 : decode cX12_endsBlock 172 = .ok (.iload 4, 2) := by decide +kernel
theorem dX12_endsBlock_174 : decode cX12_endsBlock 174 = .ok (.invokevirtual 394, 3) := by decide +kernel
theorem dX12_endsBlock_177 : decode cX12_endsBlock 177 = .ok (.iastore, 1) := by decide +kernel
theorem dX12_endsBlock_178 : decode cX12_endsBlock 178 = .ok (.iinc 6 1, 3) := by decide +kernel
theorem dX12_endsBlock_181 : decode cX12_endsBlock 181 = .ok (.goto (-33), 3) := by decide +kernel
theorem dX12_endsBlock_184 : decode cX12_endsBlock 184 = .ok (.aload_n 0, 1) := by decide +kernel
theorem dX12_endsBlock_185 : decode cX12_endsBlock 185 = .ok (.getfield 109, 3) := by decide +kernel
theorem dX12_endsBlock_188 : decode cX12_endsBlock 188 = .ok (.iload_n 1, 1) := by decide +kernel
theorem dX12_endsBlock_189 : decode cX12_endsBlock 189 = .ok (.iaload, 1) := by decide +kernel
theorem dX12_endsBlock_190 : decode cX12_endsBlock 190 = .ok (.iconst (-1), 1) := by decide +kernel
theorem dX12_endsBlock_191 : decode cX12_endsBlock 191 = .ok (.if_icmp .eq 22, 3) := by decide +kernel
theorem dX12_endsBlock_194 : decode cX12_endsBlock 194 = .ok (.aload_n 0, 1) := by decide +kernel
theorem dX12_endsBlock_195 : decode cX12_endsBlock 195 = .ok (.getfield 109, 3) := by decide +kernel
theorem dX12_endsBlock_198 : decode cX12_endsBlock 198 = .ok (.iload_n 1, 1) := by decide +kernel
theorem dX12_endsBlock_199 : decode cX12_endsBlock 199 = .ok (.aload_n 0, 1) := by decide +kernel
theorem dX12_endsBlock_200 : decode cX12_endsBlock 200 = .ok (.aload_n 0, 1) := by decide +kernel
theorem dX12_endsBlock_201 : decode cX12_endsBlock 201 = .ok (.getfield 109, 3) := by decide +kernel
theorem dX12_endsBlock_204 : decode cX12_endsBlock 204 = .ok (.iload_n 1, 1) := by decide +kernel
theorem dX12_endsBlock_205 : decode cX12_endsBlock 205 = .ok (.iaload, 1) := by decide +kernel
theorem dX12_endsBlock_206 : decode cX12_endsBlock 206 = .ok (.iload_n 2, 1) := by decide +kernel
theorem dX12_endsBlock_207 : decode cX12_endsBlock 207 = .ok (.iload 4, 2) := by decide +kernel
theorem dX12_endsBlock_209 : decode cX12_endsBlock 209 = .ok (.invokevirtual 394, 3) := by decide +kernel
theorem dX12_endsBlock_212 : decode cX12_endsBlock 212 = .ok (.iastore, 1) := by decide +kernel
theorem dX12_endsBlock_213 : decode cX12_endsBlock 213 = .ok (.aload_n 0, 1) := by decide +kernel
theorem dX12_endsBlock_214 : decode cX12_endsBlock 214 = .ok (.iconst 1, 1) := by decide +kernel
theorem dX12_endsBlock_215 : decode cX12_endsBlock 215 = .ok (.iload_n 2, 1) := by decide +kernel
theorem dX12_endsBlock_216 : decode cX12_endsBlock 216 = .ok (.aload_n 0, 1) := by decide +kernel
theorem dX12_endsBlock_217 : decode cX12_endsBlock 217 = .ok (.getfield 112, 3) := by decide +kernel
theorem dX12_endsBlock_220 : decode cX12_endsBlock 220 = .ok (.iload_n 2, 1) := by decide +kernel
theorem dX12_endsBlock_221 : decode cX12_endsBlock 221 = .ok (.iaload, 1) := by decide +kernel
theorem dX12_endsBlock_222 : decode cX12_endsBlock 222 = .ok (.invokevirtual 413, 3) := by decide +kernel
theorem dX12_endsBlock_225 : decode cX12_endsBlock 225 = .ok (.iinc 2 1, 3) := by decide +kernel
theorem dX12_endsBlock_228 : decode cX12_endsBlock 228 = .ok (.goto (-226), 3) := by decide +kernel
theorem dX12_endsBlock_231 : decode cX12_endsBlock 231 = .ok (.aload_n 0, 1) := by decide +kernel
theorem dX12_endsBlock_232 : decode cX12_endsBlock 232 = .ok (.getfield 109, 3) := by decide +kernel
theorem dX12_endsBlock_235 : decode cX12_endsBlock 235 = .ok (.iload_n 1, 1) := by decide +kernel
theorem dX12_endsBlock_236 : decode cX12_endsBlock 236 = .ok (.iaload, 1) := by decide +kernel
theorem dX12_endsBlock_237 : decode cX12_endsBlock 237 = .ok (.iconst (-1), 1) := by decide +kernel
theorem dX12_endsBlock_238 : decode cX12_endsBlock 238 = .ok (.if_icmp .eq 32, 3) := by decide +kernel
theorem dX12_endsBlock_241 : decode cX12_endsBlock 241 = .ok (.aload_n 0, 1) := by decide +kernel
theorem dX12_endsBlock_242 : decode cX12_endsBlock 242 = .ok (.aload_n 0, 1) := by decide +kernel
theorem dX12_endsBlock_243 : decode cX12_endsBlock 243 = .ok (.getfield 109, 3) := by decide +kernel
theorem dX12_endsBlock_246 : decode cX12_endsBlock 246 = .ok (.iload_n 1, 1) := by decide +kernel
theorem dX12_endsBlock_247 : decode cX12_endsBlock 247 = .ok (.iaload, 1) := by decide +kernel
theorem dX12_endsBlock_248 : decode cX12_endsBlock 248 = .ok (.invokevirtual 384, 3) := by decide +kernel
theorem dX12_endsBlock_251 : decode cX12_endsBlock 251 = .ok (.ifCond .eq 19, 3) := by decide +kernel
theorem dX12_endsBlock_254 : decode cX12_endsBlock 254 = .ok (.aload_n 0, 1) := by decide +kernel
theorem dX12_endsBlock_255 : decode cX12_endsBlock 255 = .ok (.getfield 109, 3) := by decide +kernel
theorem dX12_endsBlock_258 : decode cX12_endsBlock 258 = .ok (.iload_n 1, 1) := by decide +kernel
theorem dX12_endsBlock_259 : decode cX12_endsBlock 259 = .ok (.aload_n 0, 1) := by decide +kernel
theorem dX12_endsBlock_260 : decode cX12_endsBlock 260 = .ok (.aload_n 0, 1) := by decide +kernel
theorem dX12_endsBlock_261 : decode cX12_endsBlock 261 = .ok (.getfield 109, 3) := by decide +kernel
theorem dX12_endsBlock_264 : decode cX12_endsBlock 264 = .ok (.iload_n 1, 1) := by decide +kernel
theorem dX12_endsBlock_265 : decode cX12_endsBlock 265 = .ok (.iaload, 1) := by decide +kernel
theorem dX12_endsBlock_266 : decode cX12_endsBlock 266 = .ok (.invokevirtual 416, 3) := by decide +kernel
theorem dX12_endsBlock_269 : decode cX12_endsBlock 269 = .ok (.iastore, 1) := by decide +kernel
theorem dX12_endsBlock_270 : decode cX12_endsBlock 270 = .ok (.return_, 1) := by decide +kernel
theorem dX12_isForked_0 : decode cX12_isForked 0 = .ok (.aload_n 0, 1) := by decide +kernel
theorem dX12_isForked_1 : decode cX12_isForked 1 = .ok (.getfield 23, 3) := by decide +kernel
theorem dX12_isForked_4 : decode cX12_isForked 4 = .ok (.aload_n 0, 1) := by decide +kernel
theorem dX12_isForked_5 : decode cX12_isForked 5 = .ok (.getfield 50, 3) := by decide +kernel
theorem dX12_isForked_8 : decode cX12_isForked 8 = .ok (.iload_n 1, 1) := by decide +kernel
theorem dX12_isForked_9 : decode cX12_isForked 9 = .ok (.iaload, 1) := by decide +kernel
theorem dX12_isForked_10 : decode cX12_isForked 10 = .ok (.iaload, 1) := by decide +kernel
theorem dX12_isForked_11 : decode cX12_isForked 11 = .ok (.bipush 122, 2) := by decide +kernel
theorem dX12_isForked_13 : decode cX12_isForked 13 = .ok (.if_icmp .ne 39, 3) := by decide +kernel
theorem dX12_isForked_16 : decode cX12_isForked 16 = .ok (.aload_n 0, 1) := by decide +kernel
theorem dX12_isForked_17 : decode cX12_isForked 17 = .ok (.getfield 53, 3) := by decide +kernel
theorem dX12_isForked_20 : decode cX12_isForked 20 = .ok (.aload_n 0, 1) := by decide +kernel
theorem dX12_isForked_21 : decode cX12_isForked 21 = .ok (.getfield 50, 3) := by decide +kernel
theorem dX12_isForked_24 : decode cX12_isForked 24 = .ok (.iload_n 1, 1) := by decide +kernel
theorem dX12_isForked_25 : decode cX12_isForked 25 = .ok (.iaload, 1) := by decide +kernel
theorem dX12_isForked_26 : decode cX12_isForked 26 = .ok (.iconst 1, 1) := by decide +kernel
theorem dX12_isForked_27 : decode cX12_isForked 27 = .ok (.iadd, 1) := by decide +kernel
theorem dX12_isForked_28 : decode cX12_isForked 28 = .ok (.iaload, 1) := by decide +kernel
theorem dX12_isForked_29 : decode cX12_isForked 29 = .ok (.aload_n 0, 1) := by decide +kernel
theorem dX12_isForked_30 : decode cX12_isForked 30 = .ok (.getfield 53, 3) := by decide +kernel
theorem dX12_isForked_33 : decode cX12_isForked 33 = .ok (.aload_n 0, 1) := by decide +kernel
theorem dX12_isForked_34 : decode cX12_isForked 34 = .ok (.getfield 26, 3) := by decide +kernel
theorem dX12_isForked_37 : decode cX12_isForked 37 = .ok (.aload_n 0, 1) := by decide +kernel
theorem dX12_isForked_38 : decode cX12_isForked 38 = .ok (.getfield 50, 3) := by decide +kernel
theorem dX12_isForked_41 : decode cX12_isForked 41 = .ok (.iload_n 1, 1) := by decide +kernel
theorem dX12_isForked_42 : decode cX12_isForked 42 = .ok (.iaload, 1) := by decide +kernel
theorem dX12_isForked_43 : decode cX12_isForked 43 = .ok (.iaload, 1) := by decide +kernel
theorem dX12_isForked_44 : decode cX12_isForked 44 = .ok (.iaload, 1) := by decide +kernel
theorem dX12_isForked_45 : decode cX12_isForked 45 = .ok (.if_icmp .eq 7, 3) := by decide +kernel
theorem dX12_isForked_48 : decode cX12_isForked 48 = .ok (.iconst 1, 1) := by decide +kernel
theorem dX12_isForked_49 : decode cX12_isForked 49 = .ok (.goto 4, 3) := by decide +kernel
theorem dX12_isForked_52 : decode cX12_isForked 52 = .ok (.iconst 0, 1) := by decide +kernel
theorem dX12_isForked_53 : decode cX12_isForked 53 = .ok (.ireturn, 1) := by decide +kernel
theorem dX12_laysStatements_0 : decode cX12_laysStatements 0 = .ok (.aload_n 0, 1) := by decide +kernel
theorem dX12_laysStatements_1 : decode cX12_laysStatements 1 = .ok (.iconst 0, 1) := by decide +kernel
theorem dX12_laysStatements_2 : decode cX12_laysStatements 2 = .ok (.putfield 407, 3) := by decide +kernel
theorem dX12_laysStatements_5 : decode cX12_laysStatements 5 = .ok (.aload_n 0, 1) := by decide +kernel
theorem dX12_laysStatements_6 : decode cX12_laysStatements 6 = .ok (.iconst 0, 1) := by decide +kernel
theorem dX12_laysStatements_7 : decode cX12_laysStatements 7 = .ok (.putfield 410, 3) := by decide +kernel
theorem dX12_laysStatements_10 : decode cX12_laysStatements 10 = .ok (.aload_n 0, 1) := by decide +kernel
theorem dX12_laysStatements_11 : decode cX12_laysStatements 11 = .ok (.iconst 0, 1) := by decide +kernel
theorem dX12_laysStatements_12 : decode cX12_laysStatements 12 = .ok (.putfield 378, 3) := by decide +kernel
theorem dX12_laysStatements_15 : decode cX12_laysStatements 15 = .ok (.aload_n 0, 1) := by decide +kernel
theorem dX12_laysStatements_16 : decode cX12_laysStatements 16 = .ok (.iconst 0, 1) := by decide +kernel
theorem dX12_laysStatements_17 : decode cX12_laysStatements 17 = .ok (.putfield 447, 3) := by decide +kernel
theorem dX12_laysStatements_20 : decode cX12_laysStatements 20 = .ok (.iconst 0, 1) := by decide +kernel
theorem dX12_laysStatements_21 : decode cX12_laysStatements 21 = .ok (.istore_n 1, 1) := by decide +kernel
theorem dX12_laysStatements_22 : decode cX12_laysStatements 22 = .ok (.iload_n 1, 1) := by decide +kernel
theorem dX12_laysStatements_23 : decode cX12_laysStatements 23 = .ok (.aload_n 0, 1) := by decide +kernel
theorem dX12_laysStatements_24 : decode cX12_laysStatements 24 = .ok (.getfield 299, 3) := by decide +kernel
theorem dX12_laysStatements_27 : decode cX12_laysStatements 27 = .ok (.if_icmp .ge 210, 3) := by decide +kernel
theorem dX12_laysStatements_30 : decode cX12_laysStatements 30 = .ok (.aload_n 0, 1) := by decide +kernel
theorem dX12_laysStatements_31 : decode cX12_laysStatements 31 = .ok (.getfield 106, 3) := by decide +kernel
theorem dX12_laysStatements_34 : decode cX12_laysStatements 34 = .ok (.iload_n 1, 1) := by decide +kernel
theorem dX12_laysStatements_35 : decode cX12_laysStatements 35 = .ok (.aload_n 0, 1) := by decide +kernel
theorem dX12_laysStatements_36 : decode cX12_laysStatements 36 = .ok (.getfield 407, 3) := by decide +kernel
theorem dX12_laysStatements_39 : decode cX12_laysStatements 39 = .ok (.iastore, 1) := by decide +kernel
theorem dX12_laysStatements_40 : decode cX12_laysStatements 40 = .ok (.aload_n 0, 1) := by decide +kernel
theorem dX12_laysStatements_41 : decode cX12_laysStatements 41 = .ok (.getfield 109, 3) := by decide +kernel
theorem dX12_laysStatements_44 : decode cX12_laysStatements 44 = .ok (.iload_n 1, 1) := by decide +kernel
theorem dX12_laysStatements_45 : decode cX12_laysStatements 45 = .ok (.iconst (-1), 1) := by decide +kernel
theorem dX12_laysStatements_46 : decode cX12_laysStatements 46 = .ok (.iastore, 1) := by decide +kernel
theorem dX12_laysStatements_47 : decode cX12_laysStatements 47 = .ok (.aload_n 0, 1) := by decide +kernel
theorem dX12_laysStatements_48 : decode cX12_laysStatements 48 = .ok (.iconst 0, 1) := by decide +kernel
theorem dX12_laysStatements_49 : decode cX12_laysStatements 49 = .ok (.putfield 419, 3) := by decide +kernel
theorem dX12_laysStatements_52 : decode cX12_laysStatements 52 = .ok (.iconst 0, 1) := by decide +kernel
theorem dX12_laysStatements_53 : decode cX12_laysStatements 53 = .ok (.istore_n 2, 1) := by decide +kernel
theorem dX12_laysStatements_54 : decode cX12_laysStatements 54 = .ok (.iload_n 2, 1) := by decide +kernel
theorem dX12_laysStatements_55 : decode cX12_laysStatements 55 = .ok (.aload_n 0, 1) := by decide +kernel
theorem dX12_laysStatements_56 : decode cX12_laysStatements 56 = .ok (.getfield 44, 3) := by decide +kernel
theorem dX12_laysStatements_59 : decode cX12_laysStatements 59 = .ok (.aload_n 0, 1) := by decide +kernel
theorem dX12_laysStatements_60 : decode cX12_laysStatements 60 = .ok (.getfield 47, 3) := by decide +kernel
theorem dX12_laysStatements_63 : decode cX12_laysStatements 63 = .ok (.iload_n 1, 1) := by decide +kernel
theorem dX12_laysStatements_64 : decode cX12_laysStatements 64 = .ok (.iaload, 1) := by decide +kernel
theorem dX12_laysStatements_65 : decode cX12_laysStatements 65 = .ok (.iaload, 1) := by decide +kernel
theorem dX12_laysStatements_66 : decode cX12_laysStatements 66 = .ok (.if_icmp .ge 20, 3) := by decide +kernel
theorem dX12_laysStatements_69 : decode cX12_laysStatements 69 = .ok (.aload_n 0, 1) := by decide +kernel
theorem dX12_laysStatements_70 : decode cX12_laysStatements 70 = .ok (.aload_n 0, 1) := by decide +kernel
theorem dX12_laysStatements_71 : decode cX12_laysStatements 71 = .ok (.iconst 2, 1) := by decide +kernel
theorem dX12_laysStatements_72 : decode cX12_laysStatements 72 = .ok (.iload_n 2, 1) := by decide +kernel
theorem dX12_laysStatements_73 : decode cX12_laysStatements 73 = .ok (.iconst 0, 1) := by decide +kernel
theorem dX12_laysStatements_74 : decode cX12_laysStatements 74 = .ok (.invokevirtual 398, 3) := by decide +kernel
theorem dX12_laysStatements_77 : decode cX12_laysStatements 77 = .ok (.invokevirtual 431, 3) := by decide +kernel
theorem dX12_laysStatements_80 : decode cX12_laysStatements 80 = .ok (.iinc 2 1, 3) := by decide +kernel
theorem dX12_laysStatements_83 : decode cX12_laysStatements 83 = .ok (.goto (-29), 3) := by decide +kernel
theorem dX12_laysStatements_86 : decode cX12_laysStatements 86 = .ok (.aload_n 0, 1) := by decide +kernel
theorem dX12_laysStatements_87 : decode cX12_laysStatements 87 = .ok (.aload_n 0, 1) := by decide +kernel
theorem dX12_laysStatements_88 : decode cX12_laysStatements 88 = .ok (.getfield 447, 3) := by decide +kernel
theorem dX12_laysStatements_91 : decode cX12_laysStatements 91 = .ok (.aload_n 0, 1) := by decide +kernel
theorem dX12_laysStatements_92 : decode cX12_laysStatements 92 = .ok (.getfield 419, 3) := by decide +kernel
theorem dX12_laysStatements_95 : decode cX12_laysStatements 95 = .ok (.invokestatic 450, 3) := by decide +kernel
theorem dX12_laysStatements_98 : decode cX12_laysStatements 98 = .ok (.putfield 447, 3) := by decide +kernel
theorem dX12_laysStatements_101 : decode cX12_laysStatements 101 = .ok (.aload_n 0, 1) := by decide +kernel
theorem dX12_laysStatements_102 : decode cX12_laysStatements 102 = .ok (.getfield 47, 3) := by decide +kernel
theorem dX12_laysStatements_105 : decode cX12_laysStatements 105 = .ok (.iload_n 1, 1) := by decide +kernel
theorem dX12_laysStatements_106 : decode cX12_laysStatements 106 = .ok (.iaload, 1) := by decide +kernel
theorem dX12_laysStatements_107 : decode cX12_laysStatements 107 = .ok (.istore_n 2, 1) := by decide +kernel
theorem dX12_laysStatements_108 : decode cX12_laysStatements 108 = .ok (.iload_n 2, 1) := by decide +kernel
theorem dX12_laysStatements_109 : decode cX12_laysStatements 109 = .ok (.aload_n 0, 1) := by decide +kernel
theorem dX12_laysStatements_110 : decode cX12_laysStatements 110 = .ok (.getfield 50, 3) := by decide +kernel
theorem dX12_laysStatements_113 : decode cX12_laysStatements 113 = .ok (.iload_n 1, 1) := by decide +kernel
theorem dX12_laysStatements_114 : decode cX12_laysStatements 114 = .ok (.iaload, 1) := by decide +kernel
theorem dX12_laysStatements_115 : decode cX12_laysStatements 115 = .ok (.if_icmp .gt 73, 3) := by decide +kernel
theorem dX12_laysStatements_118 : decode cX12_laysStatements 118 = .ok (.aload_n 0, 1) := by decide +kernel
theorem dX12_laysStatements_119 : decode cX12_laysStatements 119 = .ok (.getfield 23, 3) := by decide +kernel
theorem dX12_laysStatements_122 : decode cX12_laysStatements 122 = .ok (.iload_n 2, 1) := by decide +kernel
theorem dX12_laysStatements_123 : decode cX12_laysStatements 123 = .ok (.iaload, 1) := by decide +kernel
theorem dX12_laysStatements_124 : decode cX12_laysStatements 124 = .ok (.bipush 122, 2) := by decide +kernel
theorem dX12_laysStatements_126 : decode cX12_laysStatements 126 = .ok (.if_icmp .ne 24, 3) := by decide +kernel
theorem dX12_laysStatements_129 : decode cX12_laysStatements 129 = .ok (.aload_n 0, 1) := by decide +kernel
theorem dX12_laysStatements_130 : decode cX12_laysStatements 130 = .ok (.iload_n 1, 1) := by decide +kernel
theorem dX12_laysStatements_131 : decode cX12_laysStatements 131 = .ok (.invokevirtual 456, 3) := by decide +kernel
theorem dX12_laysStatements_134 : decode cX12_laysStatements 134 = .ok (.ifCond .eq 16, 3) := by decide +kernel
theorem dX12_laysStatements_137 : decode cX12_laysStatements 137 = .ok (.aload_n 0, 1) := by decide +kernel
theorem dX12_laysStatements_138 : decode cX12_laysStatements 138 = .ok (.getfield 109, 3) := by decide +kernel
theorem dX12_laysStatements_141 : decode cX12_laysStatements 141 = .ok (.iload_n 1, 1) := by decide +kernel
theorem dX12_laysStatements_142 : decode cX12_laysStatements 142 = .ok (.aload_n 0, 1) := by decide +kernel
theorem dX12_laysStatements_143 : decode cX12_laysStatements 143 = .ok (.invokevirtual 426, 3) := by decide +kernel
theorem dX12_laysStatements_146 : decode cX12_laysStatements 146 = .ok (.iastore, 1) := by decide +kernel
theorem dX12_laysStatements_147 : decode cX12_laysStatements 147 = .ok (.goto 35, 3) := by decide +kernel
theorem dX12_laysStatements_150 : decode cX12_laysStatements 150 = .ok (.aload_n 0, 1) := by decide +kernel
theorem dX12_laysStatements_151 : decode cX12_laysStatements 151 = .ok (.aload_n 0, 1) := by decide +kernel
theorem dX12_laysStatements_152 : decode cX12_laysStatements 152 = .ok (.getfield 23, 3) := by decide +kernel
theorem dX12_laysStatements_155 : decode cX12_laysStatements 155 = .ok (.iload_n 2, 1) := by decide +kernel
theorem dX12_laysStatements_156 : decode cX12_laysStatements 156 = .ok (.iaload, 1) := by decide +kernel
theorem dX12_laysStatements_157 : decode cX12_laysStatements 157 = .ok (.bipush 122, 2) := by decide +kernel
theorem dX12_laysStatements_159 : decode cX12_laysStatements 159 = .ok (.if_icmp .ne 8, 3) := by decide +kernel
theorem dX12_laysStatements_162 : decode cX12_laysStatements 162 = .ok (.bipush 112, 2) := by decide +kernel
theorem dX12_laysStatements_164 : decode cX12_laysStatements 164 = .ok (.goto 9, 3) := by decide +kernel
theorem dX12_laysStatements_167 : decode cX12_laysStatements 167 = .ok (.aload_n 0, 1) := by decide +kernel
theorem dX12_laysStatements_168 : decode cX12_laysStatements 168 = .ok (.getfield 23, 3) := by decide +kernel
theorem dX12_laysStatements_171 : decode cX12_laysStatements 171 = .ok (.iload_n 2, 1) := by decide +kernel
theorem dX12_laysStatements_172 : decode cX12_laysStatements 172 = .ok (.iaload, 1) := by decide +kernel
theorem dX12_laysStatements_173 : decode cX12_laysStatements 173 = .ok (.aload_n 0, 1) := by decide +kernel
theorem dX12_laysStatements_174 : decode cX12_laysStatements 174 = .ok (.getfield 26, 3) := by decide +kernel
theorem dX12_laysStatements_177 : decode cX12_laysStatements 177 = .ok (.iload_n 2, 1) := by decide +kernel
theorem dX12_laysStatements_178 : decode cX12_laysStatements 178 = .ok (.iaload, 1) := by decide +kernel
theorem dX12_laysStatements_179 : decode cX12_laysStatements 179 = .ok (.invokevirtual 459, 3) := by decide +kernel
theorem dX12_laysStatements_182 : decode cX12_laysStatements 182 = .ok (.iinc 2 1, 3) := by decide +kernel
theorem dX12_laysStatements_185 : decode cX12_laysStatements 185 = .ok (.goto (-77), 3) := by decide +kernel
theorem dX12_laysStatements_188 : decode cX12_laysStatements 188 = .ok (.aload_n 0, 1) := by decide +kernel
theorem dX12_laysStatements_189 : decode cX12_laysStatements 189 = .ok (.getfield 23, 3) := by decide +kernel
theorem dX12_laysStatements_192 : decode cX12_laysStatements 192 = .ok (.aload_n 0, 1) := by decide +kernel
theorem dX12_laysStatements_193 : decode cX12_laysStatements 193 = .ok (.getfield 50, 3) := by decide +kernel
theorem dX12_laysStatements_196 : decode cX12_laysStatements 196 = .ok (.iload_n 1, 1) := by decide +kernel
theorem dX12_laysStatements_197 : decode cX12_laysStatements 197 = .ok (.iaload, 1) := by decide +kernel
theorem dX12_laysStatements_198 : decode cX12_laysStatements 198 = .ok (.iaload, 1) := by decide +kernel
theorem dX12_laysStatements_199 : decode cX12_laysStatements 199 = .ok (.ldc_w 462, 3) := by decide +kernel
theorem dX12_laysStatements_202 : decode cX12_laysStatements 202 = .ok (.invokestatic 204, 3) := by decide +kernel
theorem dX12_laysStatements_205 : decode cX12_laysStatements 205 = .ok (.ifCond .eq 6, 3) := by decide +kernel
theorem dX12_laysStatements_208 : decode cX12_laysStatements 208 = .ok (.goto 23, 3) := by decide +kernel
theorem dX12_laysStatements_211 : decode cX12_laysStatements 211 = .ok (.aload_n 0, 1) := by decide +kernel
theorem dX12_laysStatements_212 : decode cX12_laysStatements 212 = .ok (.aload_n 0, 1) := by decide +kernel
theorem dX12_laysStatements_213 : decode cX12_laysStatements 213 = .ok (.getfield 447, 3) := by decide +kernel
theorem dX12_laysStatements_216 : decode cX12_laysStatements 216 = .ok (.aload_n 0, 1) := by decide +kernel
theorem dX12_laysStatements_217 : decode cX12_laysStatements 217 = .ok (.getfield 419, 3) := by decide +kernel
theorem dX12_laysStatements_220 : decode cX12_laysStatements 220 = .ok (.invokestatic 450, 3) := by decide +kernel
theorem dX12_laysStatements_223 : decode cX12_laysStatements 223 = .ok (.putfield 447, 3) := by decide +kernel
theorem dX12_laysStatements_226 : decode cX12_laysStatements 226 = .ok (.aload_n 0, 1) := by decide +kernel
theorem dX12_laysStatements_227 : decode cX12_laysStatements 227 = .ok (.iload_n 1, 1) := by decide +kernel
theorem dX12_laysStatements_228 : decode cX12_laysStatements 228 = .ok (.invokevirtual 464, 3) := by decide +kernel
theorem dX12_laysStatements_231 : decode cX12_laysStatements 231 = .ok (.iinc 1 1, 3) := by decide +kernel
theorem dX12_laysStatements_234 : decode cX12_laysStatements 234 = .ok (.goto (-212), 3) := by decide +kernel
theorem dX12_laysStatements_237 : decode cX12_laysStatements 237 = .ok (.aload_n 0, 1) := by decide +kernel
theorem dX12_laysStatements_238 : decode cX12_laysStatements 238 = .ok (.getfield 106, 3) := by decide +kernel
theorem dX12_laysStatements_241 : decode cX12_laysStatements 241 = .ok (.aload_n 0, 1) := by decide +kernel
theorem dX12_laysStatements_242 : decode cX12_laysStatements 242 = .ok (.getfield 299, 3) := by decide +kernel
theorem dX12_laysStatements_245 : decode cX12_laysStatements 245 = .ok (.aload_n 0, 1) := by decide +kernel
theorem dX12_laysStatements_246 : decode cX12_laysStatements 246 = .ok (.getfield 407, 3) := by decide +kernel
theorem dX12_laysStatements_249 : decode cX12_laysStatements 249 = .ok (.iastore, 1) := by decide +kernel
theorem dX12_laysStatements_250 : decode cX12_laysStatements 250 = .ok (.return_, 1) := by decide +kernel
theorem dX12_isTruth_0 : decode cX12_isTruth 0 = .ok (.aload_n 0, 1) := by decide +kernel
theorem dX12_isTruth_1 : decode cX12_isTruth 1 = .ok (.getfield 88, 3) := by decide +kernel
theorem dX12_isTruth_4 : decode cX12_isTruth 4 = .ok (.iload_n 1, 1) := by decide +kernel
theorem dX12_isTruth_5 : decode cX12_isTruth 5 = .ok (.iaload, 1) := by decide +kernel
theorem dX12_isTruth_6 : decode cX12_isTruth 6 = .ok (.tableswitch 82 0 3 #[30, 46, 58, 70], 30) := by decide +kernel
theorem dX12_isTruth_36 : decode cX12_isTruth 36 = .ok (.aload_n 0, 1) := by decide +kernel
theorem dX12_isTruth_37 : decode cX12_isTruth 37 = .ok (.getfield 91, 3) := by decide +kernel
theorem dX12_isTruth_40 : decode cX12_isTruth 40 = .ok (.iload_n 1, 1) := by decide +kernel
theorem dX12_isTruth_41 : decode cX12_isTruth 41 = .ok (.iaload, 1) := by decide +kernel
theorem dX12_isTruth_42 : decode cX12_isTruth 42 = .ok (.iconst 2, 1) := by decide +kernel
theorem dX12_isTruth_43 : decode cX12_isTruth 43 = .ok (.if_icmp .ge 7, 3) := by decide +kernel
theorem dX12_isTruth_46 : decode cX12_isTruth 46 = .ok (.iconst 1, 1) := by decide +kernel
theorem dX12_isTruth_47 : decode cX12_isTruth 47 = .ok (.goto 4, 3) := by decide +kernel
theorem dX12_isTruth_50 : decode cX12_isTruth 50 = .ok (.iconst 0, 1) := by decide +kernel
theorem dX12_isTruth_51 : decode cX12_isTruth 51 = .ok (.ireturn, 1) := by decide +kernel
theorem dX12_isTruth_52 : decode cX12_isTruth 52 = .ok (.aload_n 0, 1) := by decide +kernel
theorem dX12_isTruth_53 : decode cX12_isTruth 53 = .ok (.getfield 115, 3) := by decide +kernel
theorem dX12_isTruth_56 : decode cX12_isTruth 56 = .ok (.aload_n 0, 1) := by decide +kernel
theorem dX12_isTruth_57 : decode cX12_isTruth 57 = .ok (.getfield 91, 3) := by decide +kernel
theorem dX12_isTruth_60 : decode cX12_isTruth 60 = .ok (.iload_n 1, 1) := by decide +kernel
theorem dX12_isTruth_61 : decode cX12_isTruth 61 = .ok (.iaload, 1) := by decide +kernel
theorem dX12_isTruth_62 : decode cX12_isTruth 62 = .ok (.baload, 1) := by decide +kernel
theorem dX12_isTruth_63 : decode cX12_isTruth 63 = .ok (.ireturn, 1) := by decide +kernel
theorem dX12_isTruth_64 : decode cX12_isTruth 64 = .ok (.aload_n 0, 1) := by decide +kernel
theorem dX12_isTruth_65 : decode cX12_isTruth 65 = .ok (.getfield 118, 3) := by decide +kernel
theorem dX12_isTruth_68 : decode cX12_isTruth 68 = .ok (.aload_n 0, 1) := by decide +kernel
theorem dX12_isTruth_69 : decode cX12_isTruth 69 = .ok (.getfield 91, 3) := by decide +kernel
theorem dX12_isTruth_72 : decode cX12_isTruth 72 = .ok (.iload_n 1, 1) := by decide +kernel
theorem dX12_isTruth_73 : decode cX12_isTruth 73 = .ok (.iaload, 1) := by decide +kernel
theorem dX12_isTruth_74 : decode cX12_isTruth 74 = .ok (.baload, 1) := by decide +kernel
theorem dX12_isTruth_75 : decode cX12_isTruth 75 = .ok (.ireturn, 1) := by decide +kernel
theorem dX12_isTruth_76 : decode cX12_isTruth 76 = .ok (.aload_n 0, 1) := by decide +kernel
theorem dX12_isTruth_77 : decode cX12_isTruth 77 = .ok (.getfield 121, 3) := by decide +kernel
theorem dX12_isTruth_80 : decode cX12_isTruth 80 = .ok (.aload_n 0, 1) := by decide +kernel
theorem dX12_isTruth_81 : decode cX12_isTruth 81 = .ok (.getfield 91, 3) := by decide +kernel
theorem dX12_isTruth_84 : decode cX12_isTruth 84 = .ok (.iload_n 1, 1) := by decide +kernel
theorem dX12_isTruth_85 : decode cX12_isTruth 85 = .ok (.iaload, 1) := by decide +kernel
