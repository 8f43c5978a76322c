theorem dX9_append_20 : decode cX9_append 20 = .ok (.getfield 15, 3) := by decide +kernel
theorem dX9_append_23 : decode cX9_append 23 = .ok (.sipush 240, 3) := by decide +kernel
theorem dX9_append_26 : decode cX9_append 26 = .ok (.if_icmp .ge 24, 3) := by decide +kernel
theorem dX9_append_29 : decode cX9_append 29 = .ok (.aload_n 0, 1) := by decide +kernel
theorem dX9_append_30 : decode cX9_append 30 = .ok (.getfield 9, 3) := by decide +kernel
theorem dX9_append_33 : decode cX9_append 33 = .ok (.aload_n 0, 1) := by decide +kernel
theorem dX9_append_34 : decode cX9_append 34 = .ok (.getfield 15, 3) := by decide +kernel
theorem dX9_append_37 : decode cX9_append 37 = .ok (.iload_n 3, 1) := by decide +kernel
theorem dX9_append_38 : decode cX9_append 38 = .ok (.i2b, 1) := by decide +kernel
theorem dX9_append_39 : decode cX9_append 39 = .ok (.bastore, 1) := by decide +kernel
theorem dX9_append_40 : decode cX9_append 40 = .ok (.aload_n 0, 1) := by decide +kernel
theorem dX9_append_41 : decode cX9_append 41 = .ok (.dup, 1) := by decide +kernel
theorem dX9_append_42 : decode cX9_append 42 = .ok (.getfield 15, 3) := by decide +kernel
theorem dX9_append_45 : decode cX9_append 45 = .ok (.iconst 1, 1) := by decide +kernel
theorem dX9_append_46 : decode cX9_append 46 = .ok (.iadd, 1) := by decide +kernel
theorem dX9_append_47 : decode cX9_append 47 = .ok (.putfield 15, 3) := by decide +kernel
theorem dX9_append_50 : decode cX9_append 50 = .ok (.iinc 2 (-8), 3) := by decide +kernel
theorem dX9_append_53 : decode cX9_append 53 = .ok (.goto (-50), 3) := by decide +kernel
theorem dX9_append_56 : decode cX9_append 56 = .ok (.return_, 1) := by decide +kernel
theorem dX9_read_0 : decode cX9_read 0 = .ok (.aload_n 0, 1) := by decide +kernel
theorem dX9_read_1 : decode cX9_read 1 = .ok (.iconst 0, 1) := by decide +kernel
theorem dX9_read_2 : decode cX9_read 2 = .ok (.putfield 19, 3) := by decide +kernel
theorem dX9_read_5 : decode cX9_read 5 = .ok (.aload_n 1, 1) := by decide +kernel
theorem dX9_read_6 : decode cX9_read 6 = .ok (.iconst 0, 1) := by decide +kernel
theorem dX9_read_7 : decode cX9_read 7 = .ok (.putfield 22, 3) := by decide +kernel
theorem dX9_read_10 : decode cX9_read 10 = .ok (.aload_n 1, 1) := by decide +kernel
theorem dX9_read_11 : decode cX9_read 11 = .ok (.iconst 0, 1) := by decide +kernel
theorem dX9_read_12 : decode cX9_read 12 = .ok (.putfield 27, 3) := by decide +kernel
theorem dX9_read_15 : decode cX9_read 15 = .ok (.aload_n 0, 1) := by decide +kernel
theorem dX9_read_16 : decode cX9_read 16 = .ok (.invokevirtual 30, 3) := by decide +kernel
theorem dX9_read_19 : decode cX9_read 19 = .ok (.iconst 0, 1) := by decide +kernel
theorem dX9_read_20 : decode cX9_read 20 = .ok (.istore_n 2, 1) := by decide +kernel
theorem dX9_read_21 : decode cX9_read 21 = .ok (.iload_n 2, 1) := by decide +kernel
theorem dX9_read_22 : decode cX9_read 22 = .ok (.bipush 40, 2) := by decide +kernel
theorem dX9_read_24 : decode cX9_read 24 = .ok (.if_icmp .gt 43, 3) := by decide +kernel
theorem dX9_read_27 : decode cX9_read 27 = .ok (.aload_n 0, 1) := by decide +kernel
theorem dX9_read_28 : decode cX9_read 28 = .ok (.getfield 19, 3) := by decide +kernel
theorem dX9_read_31 : decode cX9_read 31 = .ok (.aload_n 0, 1) := by decide +kernel
theorem dX9_read_32 : decode cX9_read 32 = .ok (.getfield 15, 3) := by decide +kernel
theorem dX9_read_35 : decode cX9_read 35 = .ok (.if_icmp .ge 32, 3) := by decide +kernel
theorem dX9_read_38 : decode cX9_read 38 = .ok (.aload_n 0, 1) := by decide +kernel
theorem dX9_read_39 : decode cX9_read 39 = .ok (.invokevirtual 33, 3) := by decide +kernel
theorem dX9_read_42 : decode cX9_read 42 = .ok (.bipush 104, 2) := by decide +kernel
theorem dX9_read_44 : decode cX9_read 44 = .ok (.if_icmp .eq 23, 3) := by decide +kernel
theorem dX9_read_47 : decode cX9_read 47 = .ok (.aload_n 0, 1) := by decide +kernel
theorem dX9_read_48 : decode cX9_read 48 = .ok (.aload_n 1, 1) := by decide +kernel
theorem dX9_read_49 : decode cX9_read 49 = .ok (.invokevirtual 37, 3) := by decide +kernel
theorem dX9_read_52 : decode cX9_read 52 = .ok (.ifCond .ne 5, 3) := by decide +kernel
theorem dX9_read_55 : decode cX9_read 55 = .ok (.iconst 0, 1) := by decide +kernel
theorem dX9_read_56 : decode cX9_read 56 = .ok (.ireturn, 1) := by decide +kernel
theorem dX9_read_57 : decode cX9_read 57 = .ok (.aload_n 0, 1) := by decide +kernel
theorem dX9_read_58 : decode cX9_read 58 = .ok (.invokevirtual 30, 3) := by decide +kernel
theorem dX9_read_61 : decode cX9_read 61 = .ok (.iinc 2 1, 3) := by decide +kernel
theorem dX9_read_64 : decode cX9_read 64 = .ok (.goto (-43), 3) := by decide +kernel
theorem dX9_read_67 : decode cX9_read 67 = .ok (.aload_n 1, 1) := by decide +kernel
theorem dX9_read_68 : decode cX9_read 68 = .ok (.getfield 22, 3) := by decide +kernel
theorem dX9_read_71 : decode cX9_read 71 = .ok (.ifCond .ne 5, 3) := by decide +kernel
theorem dX9_read_74 : decode cX9_read 74 = .ok (.iconst 0, 1) := by decide +kernel
theorem dX9_read_75 : decode cX9_read 75 = .ok (.ireturn, 1) := by decide +kernel
theorem dX9_read_76 : decode cX9_read 76 = .ok (.iconst 0, 1) := by decide +kernel
theorem dX9_read_77 : decode cX9_read 77 = .ok (.istore_n 2, 1) := by decide +kernel
theorem dX9_read_78 : decode cX9_read 78 = .ok (.iload_n 2, 1) := by decide +kernel
theorem dX9_read_79 : decode cX9_read 79 = .ok (.iconst 3, 1) := by decide +kernel
theorem dX9_read_80 : decode cX9_read 80 = .ok (.if_icmp .gt 34, 3) := by decide +kernel
theorem dX9_read_83 : decode cX9_read 83 = .ok (.aload_n 0, 1) := by decide +kernel
theorem dX9_read_84 : decode cX9_read 84 = .ok (.getfield 19, 3) := by decide +kernel
theorem dX9_read_87 : decode cX9_read 87 = .ok (.aload_n 0, 1) := by decide +kernel
theorem dX9_read_88 : decode cX9_read 88 = .ok (.getfield 15, 3) := by decide +kernel
theorem dX9_read_91 : decode cX9_read 91 = .ok (.if_icmp .ge 23, 3) := by decide +kernel
theorem dX9_read_94 : decode cX9_read 94 = .ok (.aload_n 0, 1) := by decide +kernel
theorem dX9_read_95 : decode cX9_read 95 = .ok (.aload_n 1, 1) := by decide +kernel
theorem dX9_read_96 : decode cX9_read 96 = .ok (.invokevirtual 41, 3) := by decide +kernel
theorem dX9_read_99 : decode cX9_read 99 = .ok (.ifCond .ne 5, 3) := by decide +kernel
theorem dX9_read_102 : decode cX9_read 102 = .ok (.iconst 0, 1) := by decide +kernel
theorem dX9_read_103 : decode cX9_read 103 = .ok (.ireturn, 1) := by decide +kernel
theorem dX9_read_104 : decode cX9_read 104 = .ok (.aload_n 0, 1) := by decide +kernel
theorem dX9_read_105 : decode cX9_read 105 = .ok (.invokevirtual 30, 3) := by decide +kernel
theorem dX9_read_108 : decode cX9_read 108 = .ok (.iinc 2 1, 3) := by decide +kernel
theorem dX9_read_111 : decode cX9_read 111 = .ok (.goto (-33), 3) := by decide +kernel
theorem dX9_read_114 : decode cX9_read 114 = .ok (.iconst 1, 1) := by decide +kernel
theorem dX9_read_115 : decode cX9_read 115 = .ok (.ireturn, 1) := by decide +kernel
theorem dX9_readInstruction_0 : decode cX9_readInstruction 0 = .ok (.aload_n 0, 1) := by decide +kernel
theorem dX9_readInstruction_1 : decode cX9_readInstruction 1 = .ok (.invokevirtual 33, 3) := by decide +kernel
theorem dX9_readInstruction_4 : decode cX9_readInstruction 4 = .ok (.istore_n 2, 1) := by decide +kernel
theorem dX9_readInstruction_5 : decode cX9_readInstruction 5 = .ok (.aload_n 1, 1) := by decide +kernel
theorem dX9_readInstruction_6 : decode cX9_readInstruction 6 = .ok (.getfield 22, 3) := by decide +kernel
theorem dX9_readInstruction_9 : decode cX9_readInstruction 9 = .ok (.bipush 40, 2) := by decide +kernel
theorem dX9_readInstruction_11 : decode cX9_readInstruction 11 = .ok (.if_icmp .ne 5, 3) := by decide +kernel
theorem dX9_readInstruction_14 : decode cX9_readInstruction 14 = .ok (.iconst 0, 1) := by decide +kernel
theorem dX9_readInstruction_15 : decode cX9_readInstruction 15 = .ok (.ireturn, 1) := by decide +kernel
theorem dX9_readInstruction_16 : decode cX9_readInstruction 16 = .ok (.iconst 0, 1) := by decide +kernel
theorem dX9_readInstruction_17 : decode cX9_readInstruction 17 = .ok (.istore_n 3, 1) := by decide +kernel
theorem dX9_readInstruction_18 : decode cX9_readInstruction 18 = .ok (.iload_n 2, 1) := by decide +kernel
theorem dX9_readInstruction_19 : decode cX9_readInstruction 19 = .ok (.invokestatic 44, 3) := by decide +kernel
theorem dX9_readInstruction_22 : decode cX9_readInstruction 22 = .ok (.ifCond .eq 16, 3) := by decide +kernel
theorem dX9_readInstruction_25 : decode cX9_readInstruction 25 = .ok (.aload_n 0, 1) := by decide +kernel
theorem dX9_readInstruction_26 : decode cX9_readInstruction 26 = .ok (.dup, 1) := by decide +kernel
theorem dX9_readInstruction_27 : decode cX9_readInstruction 27 = .ok (.getfield 19, 3) := by decide +kernel
theorem dX9_readInstruction_30 : decode cX9_readInstruction 30 = .ok (.iconst 1, 1) := by decide +kernel
theorem dX9_readInstruction_31 : decode cX9_readInstruction 31 = .ok (.iadd, 1) := by decide +kernel
theorem dX9_readInstruction_32 : decode cX9_readInstruction 32 = .ok (.putfield 19, 3) := by decide +kernel
theorem dX9_readInstruction_35 : decode cX9_readInstruction 35 = .ok (.goto 64, 3) := by decide +kernel
theorem dX9_readInstruction_38 : decode cX9_readInstruction 38 = .ok (.iload_n 2, 1) := by decide +kernel
theorem dX9_readInstruction_39 : decode cX9_readInstruction 39 = .ok (.bipush 107, 2) := by decide +kernel
theorem dX9_readInstruction_41 : decode cX9_readInstruction 41 = .ok (.if_icmp .ne 14, 3) := by decide +kernel
theorem dX9_readInstruction_44 : decode cX9_readInstruction 44 = .ok (.aload_n 0, 1) := by decide +kernel
theorem dX9_readInstruction_45 : decode cX9_readInstruction 45 = .ok (.sipush 999, 3) := by decide +kernel
theorem dX9_readInstruction_48 : decode cX9_readInstruction 48 = .ok (.invokevirtual 48, 3) := by decide +kernel
theorem dX9_readInstruction_51 : decode cX9_readInstruction 51 = .ok (.istore_n 3, 1) := by decide +kernel
theorem dX9_readInstruction_52 : decode cX9_readInstruction 52 = .ok (.goto 47, 3) := by decide +kernel
theorem dX9_readInstruction_55 : decode cX9_readInstruction 55 = .ok (.iload_n 2, 1) := by decide +kernel
theorem dX9_readInstruction_56 : decode cX9_readInstruction 56 = .ok (.bipush 103, 2) := by decide +kernel
theorem dX9_readInstruction_58 : decode cX9_readInstruction 58 = .ok (.if_icmp .eq 9, 3) := by decide +kernel
theorem dX9_readInstruction_61 : decode cX9_readInstruction 61 = .ok (.iload_n 2, 1) := by decide +kernel
theorem dX9_readInstruction_62 : decode cX9_readInstruction 62 = .ok (.bipush 122, 2) := by decide +kernel
theorem dX9_readInstruction_64 : decode cX9_readInstruction 64 = .ok (.if_icmp .ne 13, 3) := by decide +kernel
theorem dX9_readInstruction_67 : decode cX9_readInstruction 67 = .ok (.aload_n 0, 1) := by decide +kernel
theorem dX9_readInstruction_68 : decode cX9_readInstruction 68 = .ok (.bipush 39, 2) := by decide +kernel
theorem dX9_readInstruction_70 : decode cX9_readInstruction 70 = .ok (.invokevirtual 48, 3) := by decide +kernel
theorem dX9_readInstruction_73 : decode cX9_readInstruction 73 = .ok (.istore_n 3, 1) := by decide +kernel
theorem dX9_readInstruction_74 : decode cX9_readInstruction 74 = .ok (.goto 25, 3) := by decide +kernel
theorem dX9_readInstruction_77 : decode cX9_readInstruction 77 = .ok (.iload_n 2, 1) := by decide +kernel
theorem dX9_readInstruction_78 : decode cX9_readInstruction 78 = .ok (.bipush 108, 2) := by decide +kernel
theorem dX9_readInstruction_80 : decode cX9_readInstruction 80 = .ok (.if_icmp .eq 9, 3) := by decide +kernel
theorem dX9_readInstruction_83 : decode cX9_readInstruction 83 = .ok (.iload_n 2, 1) := by decide +kernel
theorem dX9_readInstruction_84 : decode cX9_readInstruction 84 = .ok (.bipush 115, 2) := by decide +kernel
theorem dX9_readInstruction_86 : decode cX9_readInstruction 86 = .ok (.if_icmp .ne 11, 3) := by decide +kernel
theorem dX9_readInstruction_89 : decode cX9_readInstruction 89 = .ok (.aload_n 0, 1) := by decide +kernel
theorem dX9_readInstruction_90 : decode cX9_readInstruction 90 = .ok (.invokevirtual 52, 3) := by decide +kernel
theorem dX9_readInstruction_93 : decode cX9_readInstruction 93 = .ok (.istore_n 3, 1) := by decide +kernel
theorem dX9_readInstruction_94 : decode cX9_readInstruction 94 = .ok (.goto 5, 3) := by decide +kernel
theorem dX9_readInstruction_97 : decode cX9_readInstruction 97 = .ok (.iconst 0, 1) := by decide +kernel
theorem dX9_readInstruction_98 : decode cX9_readInstruction 98 = .ok (.ireturn, 1) := by decide +kernel
theorem dX9_readInstruction_99 : decode cX9_readInstruction 99 = .ok (.iload_n 3, 1) := by decide +kernel
theorem dX9_readInstruction_100 : decode cX9_readInstruction 100 = .ok (.iconst (-1), 1) := by decide +kernel
theorem dX9_readInstruction_101 : decode cX9_readInstruction 101 = .ok (.if_icmp .ne 5, 3) := by decide +kernel
theorem dX9_readInstruction_104 : decode cX9_readInstruction 104 = .ok (.iconst 0, 1) := by decide +kernel
theorem dX9_readInstruction_105 : decode cX9_readInstruction 105 = .ok (.ireturn, 1) := by decide +kernel
theorem dX9_readInstruction_106 : decode cX9_readInstruction 106 = .ok (.aload_n 1, 1) := by decide +kernel
theorem dX9_readInstruction_107 : decode cX9_readInstruction 107 = .ok (.getfield 55, 3) := by decide +kernel
theorem dX9_readInstruction_110 : decode cX9_readInstruction 110 = .ok (.aload_n 1, 1) := by decide +kernel
theorem dX9_readInstruction_111 : decode cX9_readInstruction 111 = .ok (.getfield 22, 3) := by decide +kernel
theorem dX9_readInstruction_114 : decode cX9_readInstruction 114 = .ok (.iload_n 2, 1) := by decide +kernel
theorem dX9_readInstruction_115 : decode cX9_readInstruction 115 = .ok (.iastore, 1) := by decide +kernel
theorem dX9_readInstruction_116 : decode cX9_readInstruction 116 = .ok (.aload_n 1, 1) := by decide +kernel
theorem dX9_readInstruction_117 : decode cX9_readInstruction 117 = .ok (.getfield 59, 3) := by decide +kernel
theorem dX9_readInstruction_120 : decode cX9_readInstruction 120 = .ok (.aload_n 1, 1) := by decide +kernel
theorem dX9_readInstruction_121 : decode cX9_readInstruction 121 = .ok (.getfield 22, 3) := by decide +kernel
theorem dX9_readInstruction_124 : decode cX9_readInstruction 124 = .ok (.iload_n 3, 1) := by decide +kernel
theorem dX9_readInstruction_125 : decode cX9_readInstruction 125 = .ok (.iastore, 1) := by decide +kernel
theorem dX9_readInstruction_126 : decode cX9_readInstruction 126 = .ok (.aload_n 1, 1) := by decide +kernel
theorem dX9_readInstruction_127 : decode cX9_readInstruction 127 = .ok (.dup, 1) := by decide +kernel
theorem dX9_readInstruction_128 : decode cX9_readInstruction 128 = .ok (.getfield 22, 3) := by decide +kernel
theorem dX9_readInstruction_131 : decode cX9_readInstruction 131 = .ok (.iconst 1, 1) := by decide +kernel
theorem dX9_readInstruction_132 : decode cX9_readInstruction 132 = .ok (.iadd, 1) := by decide +kernel
theorem dX9_readInstruction_133 : decode cX9_readInstruction 133 = .ok (.putfield 22, 3) := by decide +kernel
theorem dX9_readInstruction_136 : decode cX9_readInstruction 136 = .ok (.iconst 1, 1) := by decide +kernel
theorem dX9_readInstruction_137 : decode cX9_readInstruction 137 = .ok (.ireturn, 1) := by decide +kernel
theorem dX9_readHandler_0 : decode cX9_readHandler 0 = .ok (.aload_n 0, 1) := by decide +kernel
theorem dX9_readHandler_1 : decode cX9_readHandler 1 = .ok (.invokevirtual 33, 3) := by decide +kernel
theorem dX9_readHandler_4 : decode cX9_readHandler 4 = .ok (.bipush 104, 2) := by decide +kernel
theorem dX9_readHandler_6 : decode cX9_readHandler 6 = .ok (.if_icmp .ne 11, 3) := by decide +kernel
theorem dX9_readHandler_9 : decode cX9_readHandler 9 = .ok (.aload_n 1, 1) := by decide +kernel
theorem dX9_readHandler_10 : decode cX9_readHandler 10 = .ok (.getfield 27, 3) := by decide +kernel
theorem dX9_readHandler_13 : decode cX9_readHandler 13 = .ok (.iconst 3, 1) := by decide +kernel
theorem dX9_readHandler_14 : decode cX9_readHandler 14 = .ok (.if_icmp .ne 5, 3) := by decide +kernel
theorem dX9_readHandler_17 : decode cX9_readHandler 17 = .ok (.iconst 0, 1) := by decide +kernel
theorem dX9_readHandler_18 : decode cX9_readHandler 18 = .ok (.ireturn, 1) := by decide +kernel
theorem dX9_readHandler_19 : decode cX9_readHandler 19 = .ok (.aload_n 0, 1) := by decide +kernel
theorem dX9_readHandler_20 : decode cX9_readHandler 20 = .ok (.bipush 40, 2) := by decide +kernel
theorem dX9_readHandler_22 : decode cX9_readHandler 22 = .ok (.invokevirtual 48, 3) := by decide +kernel
theorem dX9_readHandler_25 : decode cX9_readHandler 25 = .ok (.istore_n 2, 1) := by decide +kernel
theorem dX9_readHandler_26 : decode cX9_readHandler 26 = .ok (.iload_n 2, 1) := by decide +kernel
theorem dX9_readHandler_27 : decode cX9_readHandler 27 = .ok (.iconst (-1), 1) := by decide +kernel
theorem dX9_readHandler_28 : decode cX9_readHandler 28 = .ok (.if_icmp .eq 10, 3) := by decide +kernel
theorem dX9_readHandler_31 : decode cX9_readHandler 31 = .ok (.aload_n 0, 1) := by decide +kernel
theorem dX9_readHandler_32 : decode cX9_readHandler 32 = .ok (.invokevirtual 62, 3) := by decide +kernel
theorem dX9_readHandler_35 : decode cX9_readHandler 35 = .ok (.ifCond .ne 5, 3) := by decide +kernel
theorem dX9_readHandler_38 : decode cX9_readHandler 38 = .ok (.iconst 0, 1) := by decide +kernel
theorem dX9_readHandler_39 : decode cX9_readHandler 39 = .ok (.ireturn, 1) := by decide +kernel
theorem dX9_readHandler_40 : decode cX9_readHandler 40 = .ok (.aload_n 0, 1) := by decide +kernel
theorem dX9_readHandler_41 : decode cX9_readHandler 41 = .ok (.bipush 40, 2) := by decide +kernel
theorem dX9_readHandler_43 : decode cX9_readHandler 43 = .ok (.invokevirtual 48, 3) := by decide +kernel
theorem dX9_readHandler_46 : decode cX9_readHandler 46 = .ok (.istore_n 3, 1) := by decide +kernel
theorem dX9_readHandler_47 : decode cX9_readHandler 47 = .ok (.iload_n 3, 1) := by decide +kernel
theorem dX9_readHandler_48 : decode cX9_readHandler 48 = .ok (.iconst (-1), 1) := by decide +kernel
theorem dX9_readHandler_49 : decode cX9_readHandler 49 = .ok (.if_icmp .eq 10, 3) := by decide +kernel
theorem dX9_readHandler_52 : decode cX9_readHandler 52 = .ok (.aload_n 0, 1) := by decide +kernel
theorem dX9_readHandler_53 : decode cX9_readHandler 53 = .ok (.invokevirtual 62, 3) := by decide +kernel
theorem dX9_readHandler_56 : decode cX9_readHandler 56 = .ok (.ifCond .ne 5, 3) := by decide +kernel
theorem dX9_readHandler_59 : decode cX9_readHandler 59 = .ok (.iconst 0, 1) := by decide +kernel
theorem dX9_readHandler_60 : decode cX9_readHandler 60 = .ok (.ireturn, 1) := by decide +kernel
theorem dX9_readHandler_61 : decode cX9_readHandler 61 = .ok (.aload_n 0, 1) := by decide +kernel
theorem dX9_readHandler_62 : decode cX9_readHandler 62 = .ok (.bipush 40, 2) := by decide +kernel
theorem dX9_readHandler_64 : decode cX9_readHandler 64 = .ok (.invokevirtual 48, 3) := by decide +kernel
theorem dX9_readHandler_67 : decode cX9_readHandler 67 = .ok (.istore 4, 2) := by decide +kernel
theorem dX9_readHandler_69 : decode cX9_readHandler 69 = .ok (.iload 4, 2) := by decide +kernel
theorem dX9_readHandler_71 : decode cX9_readHandler 71 = .ok (.iconst (-1), 1) := by decide +kernel
theorem dX9_readHandler_72 : decode cX9_readHandler 72 = .ok (.if_icmp .ne 5, 3) := by decide +kernel
theorem dX9_readHandler_75 : decode cX9_readHandler 75 = .ok (.iconst 0, 1) := by decide +kernel
theorem dX9_readHandler_76 : decode cX9_readHandler 76 = .ok (.ireturn, 1) := by decide +kernel
theorem dX9_readHandler_77 : decode cX9_readHandler 77 = .ok (.aload_n 1, 1) := by decide +kernel
theorem dX9_readHandler_78 : decode cX9_readHandler 78 = .ok (.getfield 66, 3) := by decide +kernel
theorem dX9_readHandler_81 : decode cX9_readHandler 81 = .ok (.aload_n 1, 1) := by decide +kernel
theorem dX9_readHandler_82 : decode cX9_readHandler 82 = .ok (.getfield 27, 3) := by decide +kernel
theorem dX9_readHandler_85 : decode cX9_readHandler 85 = .ok (.iload_n 2, 1) := by decide +kernel
theorem dX9_readHandler_86 : decode cX9_readHandler 86 = .ok (.iastore, 1) := by decide +kernel
theorem dX9_readHandler_87 : decode cX9_readHandler 87 = .ok (.aload_n 1, 1) := by decide +kernel
theorem dX9_readHandler_88 : decode cX9_readHandler 88 = .ok (.getfield 69, 3) := by decide +kernel
theorem dX9_readHandler_91 : decode cX9_readHandler 91 = .ok (.aload_n 1, 1) := by decide +kernel
theorem dX9_readHandler_92 : decode cX9_readHandler 92 = .ok (.getfield 27, 3) := by decide +kernel
theorem dX9_readHandler_95 : decode cX9_readHandler 95 = .ok (.iload_n 3, 1) := by decide +kernel
theorem dX9_readHandler_96 : decode cX9_readHandler 96 = .ok (.iastore, 1) := by decide +kernel
theorem dX9_readHandler_97 : decode cX9_readHandler 97 = .ok (.aload_n 1, 1) := by decide +kernel
theorem dX9_readHandler_98 : decode cX9_readHandler 98 = .ok (.getfield 72, 3) := by decide +kernel
theorem dX9_readHandler_101 : decode cX9_readHandler 101 = .ok (.aload_n 1, 1) := by decide +kernel
theorem dX9_readHandler_102 : decode cX9_readHandler 102 = .ok (.getfield 27, 3) := by decide +kernel
theorem dX9_readHandler_105 : decode cX9_readHandler 105 = .ok (.iload 4, 2) := by decide +kernel
theorem dX9_readHandler_107 : decode cX9_readHandler 107 = .ok (.iastore, 1) := by decide +kernel
theorem dX9_readHandler_108 : decode cX9_readHandler 108 = .ok (.aload_n 1, 1) := by decide +kernel
theorem dX9_readHandler_109 : decode cX9_readHandler 109 = .ok (.dup, 1) := by decide +kernel
theorem dX9_readHandler_110 : decode cX9_readHandler 110 = .ok (.getfield 27, 3) := by decide +kernel
theorem dX9_readHandler_113 : decode cX9_readHandler 113 = .ok (.iconst 1, 1) := by decide +kernel
theorem dX9_readHandler_114 : decode cX9_readHandler 114 = .ok (.iadd, 1) := by decide +kernel
theorem dX9_readHandler_115 : decode cX9_readHandler 115 = .ok (.putfield 27, 3) := by decide +kernel
theorem dX9_readHandler_118 : decode cX9_readHandler 118 = .ok (.iconst 1, 1) := by decide +kernel
theorem dX9_readHandler_119 : decode cX9_readHandler 119 = .ok (.ireturn, 1) := by decide +kernel
theorem dX9_readNumber_0 : decode cX9_readNumber 0 = .ok (.aload_n 0, 1) := by decide +kernel
theorem dX9_readNumber_1 : decode cX9_readNumber 1 = .ok (.dup, 1) := by decide +kernel
theorem dX9_readNumber_2 : decode cX9_readNumber 2 = .ok (.getfield 19, 3) := by decide +kernel
theorem dX9_readNumber_5 : decode cX9_readNumber 5 = .ok (.iconst 1, 1) := by decide +kernel
theorem dX9_readNumber_6 : decode cX9_readNumber 6 = .ok (.iadd, 1) := by decide +kernel
theorem dX9_readNumber_7 : decode cX9_readNumber 7 = .ok (.putfield 19, 3) := by decide +kernel
theorem dX9_readNumber_10 : decode cX9_readNumber 10 = .ok (.aload_n 0, 1) := by decide +kernel
theorem dX9_readNumber_11 : decode cX9_readNumber 11 = .ok (.invokevirtual 30, 3) := by decide +kernel
theorem dX9_readNumber_14 : decode cX9_readNumber 14 = .ok (.iconst (-1), 1) := by decide +kernel
theorem dX9_readNumber_15 : decode cX9_readNumber 15 = .ok (.istore_n 2, 1) := by decide +kernel
theorem dX9_readNumber_16 : decode cX9_readNumber 16 = .ok (.aload_n 0, 1) := by decide +kernel
theorem dX9_readNumber_17 : decode cX9_readNumber 17 = .ok (.getfield 19, 3) := by decide +kernel
theorem dX9_readNumber_20 : decode cX9_readNumber 20 = .ok (.aload_n 0, 1) := by decide +kernel
theorem dX9_readNumber_21 : decode cX9_readNumber 21 = .ok (.getfield 15, 3) := by decide +kernel
theorem dX9_readNumber_24 : decode cX9_readNumber 24 = .ok (.if_icmp .ge 60, 3) := by decide +kernel
theorem dX9_readNumber_27 : decode cX9_readNumber 27 = .ok (.aload_n 0, 1) := by decide +kernel
theorem dX9_readNumber_28 : decode cX9_readNumber 28 = .ok (.invokevirtual 33, 3) := by decide +kernel
theorem dX9_readNumber_31 : decode cX9_readNumber 31 = .ok (.bipush 48, 2) := by decide +kernel
theorem dX9_readNumber_33 : decode cX9_readNumber 33 = .ok (.if_icmp .lt 51, 3) := by decide +kernel
theorem dX9_readNumber_36 : decode cX9_readNumber 36 = .ok (.aload_n 0, 1) := by decide +kernel
theorem dX9_readNumber_37 : decode cX9_readNumber 37 = .ok (.invokevirtual 33, 3) := by decide +kernel
theorem dX9_readNumber_40 : decode cX9_readNumber 40 = .ok (.bipush 57, 2) := by decide +kernel
theorem dX9_readNumber_42 : decode cX9_readNumber 42 = .ok (.if_icmp .gt 42, 3) := by decide +kernel
theorem dX9_readNumber_45 : decode cX9_readNumber 45 = .ok (.iload_n 2, 1) := by decide +kernel
theorem dX9_readNumber_46 : decode cX9_readNumber 46 = .ok (.iconst 0, 1) := by decide +kernel
theorem dX9_readNumber_47 : decode cX9_readNumber 47 = .ok (.invokestatic 75, 3) := by decide +kernel
theorem dX9_readNumber_50 : decode cX9_readNumber 50 = .ok (.bipush 10, 2) := by decide +kernel
theorem dX9_readNumber_52 : decode cX9_readNumber 52 = .ok (.imul, 1) := by decide +kernel
theorem dX9_readNumber_53 : decode cX9_readNumber 53 = .ok (.aload_n 0, 1) := by decide +kernel
theorem dX9_readNumber_54 : decode cX9_readNumber 54 = .ok (.invokevirtual 33, 3) := by decide +kernel
theorem dX9_readNumber_57 : decode cX9_readNumber 57 = .ok (.iadd, 1) := by decide +kernel
theorem dX9_readNumber_58 : decode cX9_readNumber 58 = .ok (.bipush 48, 2) := by decide +kernel
theorem dX9_readNumber_60 : decode cX9_readNumber 60 = .ok (.isub, 1) := by decide +kernel
theorem dX9_readNumber_61 : decode cX9_readNumber 61 = .ok (.istore_n 3, 1) := by decide +kernel
theorem dX9_readNumber_62 : decode cX9_readNumber 62 = .ok (.iload_n 3, 1) := by decide +kernel
theorem dX9_readNumber_63 : decode cX9_readNumber 63 = .ok (.iload_n 1, 1) := by decide +kernel
theorem dX9_readNumber_64 : decode cX9_readNumber 64 = .ok (.if_icmp .le 5, 3) := by decide +kernel
theorem dX9_readNumber_67 : decode cX9_readNumber 67 = .ok (.iconst (-1), 1) := by decide +kernel
theorem dX9_readNumber_68 : decode cX9_readNumber 68 = .ok (.ireturn, 1) := by decide +kernel
theorem dX9_readNumber_69 : decode cX9_readNumber 69 = .ok (.iload_n 3, 1) := by decide +kernel
theorem dX9_readNumber_70 : decode cX9_readNumber 70 = .ok (.istore_n 2, 1) := by decide +kernel
theorem dX9_readNumber_71 : decode cX9_readNumber 71 = .ok (.aload_n 0, 1) := by decide +kernel
theorem dX9_readNumber_72 : decode cX9_readNumber 72 = .ok (.dup, 1) := by decide +kernel
theorem dX9_readNumber_73 : decode cX9_readNumber 73 = .ok (.getfield 19, 3) := by decide +kernel
theorem dX9_readNumber_76 : decode cX9_readNumber 76 = .ok (.iconst 1, 1) := by decide +kernel
theorem dX9_readNumber_77 : decode cX9_readNumber 77 = .ok (.iadd, 1) := by decide +kernel
theorem dX9_readNumber_78 : decode cX9_readNumber 78 = .ok (.putfield 19, 3) := by decide +kernel
theorem dX9_readNumber_81 : decode cX9_readNumber 81 = .ok (.goto (-65), 3) := by decide +kernel
theorem dX9_readNumber_84 : decode cX9_readNumber 84 = .ok (.iload_n 2, 1) := by decide +kernel
theorem dX9_readNumber_85 : decode cX9_readNumber 85 = .ok (.ireturn, 1) := by decide +kernel
theorem dX9_readLetter_0 : decode cX9_readLetter 0 = .ok (.aload_n 0, 1) := by decide +kernel
theorem dX9_readLetter_1 : decode cX9_readLetter 1 = .ok (.dup, 1) := by decide +kernel
theorem dX9_readLetter_2 : decode cX9_readLetter 2 = .ok (.getfield 19, 3) := by decide +kernel
theorem dX9_readLetter_5 : decode cX9_readLetter 5 = .ok (.iconst 1, 1) := by decide +kernel
theorem dX9_readLetter_6 : decode cX9_readLetter 6 = .ok (.iadd, 1) := by decide +kernel
theorem dX9_readLetter_7 : decode cX9_readLetter 7 = .ok (.putfield 19, 3) := by decide +kernel
theorem dX9_readLetter_10 : decode cX9_readLetter 10 = .ok (.aload_n 0, 1) := by decide +kernel
theorem dX9_readLetter_11 : decode cX9_readLetter 11 = .ok (.invokevirtual 30, 3) := by decide +kernel
theorem dX9_readLetter_14 : decode cX9_readLetter 14 = .ok (.aload_n 0, 1) := by decide +kernel
theorem dX9_readLetter_15 : decode cX9_readLetter 15 = .ok (.getfield 19, 3) := by decide +kernel
theorem dX9_readLetter_18 : decode cX9_readLetter 18 = .ok (.aload_n 0, 1) := by decide +kernel
theorem dX9_readLetter_19 : decode cX9_readLetter 19 = .ok (.getfield 15, 3) := by decide +kernel
theorem dX9_readLetter_22 : decode cX9_readLetter 22 = .ok (.if_icmp .ge 21, 3) := by decide +kernel
theorem dX9_readLetter_25 : decode cX9_readLetter 25 = .ok (.aload_n 0, 1) := by decide +kernel
theorem dX9_readLetter_26 : decode cX9_readLetter 26 = .ok (.invokevirtual 33, 3) := by decide +kernel
theorem dX9_readLetter_29 : decode cX9_readLetter 29 = .ok (.bipush 97, 2) := by decide +kernel
theorem dX9_readLetter_31 : decode cX9_readLetter 31 = .ok (.if_icmp .lt 12, 3) := by decide +kernel
theorem dX9_readLetter_34 : decode cX9_readLetter 34 = .ok (.aload_n 0, 1) := by decide +kernel
theorem dX9_readLetter_35 : decode cX9_readLetter 35 = .ok (.invokevirtual 33, 3) := by decide +kernel
theorem dX9_readLetter_38 : decode cX9_readLetter 38 = .ok (.bipush 102, 2) := by decide +kernel
theorem dX9_readLetter_40 : decode cX9_readLetter 40 = .ok (.if_icmp .le 5, 3) := by decide +kernel
theorem dX9_readLetter_43 : decode cX9_readLetter 43 = .ok (.iconst (-1), 1) := by decide +kernel
theorem dX9_readLetter_44 : decode cX9_readLetter 44 = .ok (.ireturn, 1) := by decide +kernel
theorem dX9_readLetter_45 : decode cX9_readLetter 45 = .ok (.aload_n 0, 1) := by decide +kernel
theorem dX9_readLetter_46 : decode cX9_readLetter 46 = .ok (.dup, 1) := by decide +kernel
theorem dX9_readLetter_47 : decode cX9_readLetter 47 = .ok (.getfield 19, 3) := by decide +kernel
theorem dX9_readLetter_50 : decode cX9_readLetter 50 = .ok (.iconst 1, 1) := by decide +kernel
theorem dX9_readLetter_51 : decode cX9_readLetter 51 = .ok (.iadd, 1) := by decide +kernel
theorem dX9_readLetter_52 : decode cX9_readLetter 52 = .ok (.putfield 19, 3) := by decide +kernel
theorem dX9_readLetter_55 : decode cX9_readLetter 55 = .ok (.aload_n 0, 1) := by decide +kernel
theorem dX9_readLetter_56 : decode cX9_readLetter 56 = .ok (.getfield 9, 3) := by decide +kernel
theorem dX9_readLetter_59 : decode cX9_readLetter 59 = .ok (.aload_n 0, 1) := by decide +kernel
theorem dX9_readLetter_60 : decode cX9_readLetter 60 = .ok (.getfield 19, 3) := by decide +kernel
theorem dX9_readLetter_63 : decode cX9_readLetter 63 = .ok (.iconst 1, 1) := by decide +kernel
theorem dX9_readLetter_64 : decode cX9_readLetter 64 = .ok (.isub, 1) := by decide +kernel
theorem dX9_readLetter_65 : decode cX9_readLetter 65 = .ok (.baload, 1) := by decide +kernel
theorem dX9_readLetter_66 : decode cX9_readLetter 66 = .ok (.bipush 97, 2) := by decide +kernel
theorem dX9_readLetter_68 : decode cX9_readLetter 68 = .ok (.isub, 1) := by decide +kernel
theorem dX9_readLetter_69 : decode cX9_readLetter 69 = .ok (.ireturn, 1) := by decide +kernel
theorem dX9_isAtComma_0 : decode cX9_isAtComma 0 = .ok (.aload_n 0, 1) := by decide +kernel
theorem dX9_isAtComma_1 : decode cX9_isAtComma 1 = .ok (.invokevirtual 30, 3) := by decide +kernel
theorem dX9_isAtComma_4 : decode cX9_isAtComma 4 = .ok (.aload_n 0, 1) := by decide +kernel
theorem dX9_isAtComma_5 : decode cX9_isAtComma 5 = .ok (.getfield 19, 3) := by decide +kernel
theorem dX9_isAtComma_8 : decode cX9_isAtComma 8 = .ok (.aload_n 0, 1) := by decide +kernel
theorem dX9_isAtComma_9 : decode cX9_isAtComma 9 = .ok (.getfield 15, 3) := by decide +kernel
theorem dX9_isAtComma_12 : decode cX9_isAtComma 12 = .ok (.if_icmp .ge 16, 3) := by decide +kernel
theorem dX9_isAtComma_15 : decode cX9_isAtComma 15 = .ok (.aload_n 0, 1) := by decide +kernel
theorem dX9_isAtComma_16 : decode cX9_isAtComma 16 = .ok (.invokevirtual 33, 3) := by decide +kernel
theorem dX9_isAtComma_19 : decode cX9_isAtComma 19 = .ok (.bipush 44, 2) := by decide +kernel
theorem dX9_isAtComma_21 : decode cX9_isAtComma 21 = .ok (.if_icmp .ne 7, 3) := by decide +kernel
theorem dX9_isAtComma_24 : decode cX9_isAtComma 24 = .ok (.iconst 1, 1) := by decide +kernel
theorem dX9_isAtComma_25 : decode cX9_isAtComma 25 = .ok (.goto 4, 3) := by decide +kernel
theorem dX9_isAtComma_28 : decode cX9_isAtComma 28 = .ok (.iconst 0, 1) := by decide +kernel
theorem dX9_isAtComma_29 : decode cX9_isAtComma 29 = .ok (.ireturn, 1) := by decide +kernel
theorem dX9_skipBlanks_0 : decode cX9_skipBlanks 0 = .ok (.aload_n 0, 1) := by decide +kernel
theorem dX9_skipBlanks_1 : decode cX9_skipBlanks 1 = .ok (.getfield 19, 3) := by decide +kernel
theorem dX9_skipBlanks_4 : decode cX9_skipBlanks 4 = .ok (.aload_n 0, 1) := by decide +kernel
theorem dX9_skipBlanks_5 : decode cX9_skipBlanks 5 = .ok (.getfield 15, 3) := by decide +kernel
theorem dX9_skipBlanks_8 : decode cX9_skipBlanks 8 = .ok (.if_icmp .ge 25, 3) := by decide +kernel
theorem dX9_skipBlanks_11 : decode cX9_skipBlanks 11 = .ok (.aload_n 0, 1) := by decide +kernel
theorem dX9_skipBlanks_12 : decode cX9_skipBlanks 12 = .ok (.invokevirtual 33, 3) := by decide +kernel
theorem dX9_skipBlanks_15 : decode cX9_skipBlanks 15 = .ok (.bipush 32, 2) := by decide +kernel
theorem dX9_skipBlanks_17 : decode cX9_skipBlanks 17 = .ok (.if_icmp .ne 16, 3) := by decide +kernel
theorem dX9_skipBlanks_20 : decode cX9_skipBlanks 20 = .ok (.aload_n 0, 1) := by decide +kernel
theorem dX9_skipBlanks_21 : decode cX9_skipBlanks 21 = .ok (.dup, 1) := by decide +kernel
theorem dX9_skipBlanks_22 : decode cX9_skipBlanks 22 = .ok (.getfield 19, 3) := by decide +kernel
theorem dX9_skipBlanks_25 : decode cX9_skipBlanks 25 = .ok (.iconst 1, 1) := by decide +kernel
theorem dX9_skipBlanks_26 : decode cX9_skipBlanks 26 = .ok (.iadd, 1) := by decide +kernel
theorem dX9_skipBlanks_27 : decode cX9_skipBlanks 27 = .ok (.putfield 19, 3) := by decide +kernel
theorem dX9_skipBlanks_30 : decode cX9_skipBlanks 30 = .ok (.goto (-30), 3) := by decide +kernel
theorem dX9_skipBlanks_33 : decode cX9_skipBlanks 33 = .ok (.return_, 1) := by decide +kernel
theorem dX9_current_0 : decode cX9_current 0 = .ok (.aload_n 0, 1) := by decide +kernel
theorem dX9_current_1 : decode cX9_current 1 = .ok (.getfield 19, 3) := by decide +kernel
theorem dX9_current_4 : decode cX9_current 4 = .ok (.aload_n 0, 1) := by decide +kernel
theorem dX9_current_5 : decode cX9_current 5 = .ok (.getfield 15, 3) := by decide +kernel
theorem dX9_current_8 : decode cX9_current 8 = .ok (.if_icmp .ge 19, 3) := by decide +kernel
theorem dX9_current_11 : decode cX9_current 11 = .ok (.aload_n 0, 1) := by decide +kernel
theorem dX9_current_12 : decode cX9_current 12 = .ok (.getfield 9, 3) := by decide +kernel
theorem dX9_current_15 : decode cX9_current 15 = .ok (.aload_n 0, 1) := by decide +kernel
theorem dX9_current_16 : decode cX9_current 16 = .ok (.getfield 19, 3) := by decide +kernel
theorem dX9_current_19 : decode cX9_current 19 = .ok (.baload, 1) := by decide +kernel
theorem dX9_current_20 : decode cX9_current 20 = .ok (.sipush 255, 3) := by decide +kernel
theorem dX9_current_23 : decode cX9_current 23 = .ok (.iand, 1) := by decide +kernel
theorem dX9_current_24 : decode cX9_current 24 = .ok (.goto 4, 3) := by decide +kernel
theorem dX9_current_27 : decode cX9_current 27 = .ok (.iconst 0, 1) := by decide +kernel
theorem dX9_current_28 : decode cX9_current 28 = .ok (.ireturn, 1) := by decide +kernel
theorem dX10_init_0 : decode cX10_init 0 = .ok (.aload_n 0, 1) := by decide +kernel
theorem dX10_init_1 : decode cX10_init 1 = .ok (.invokespecial 3, 3) := by decide +kernel
theorem dX10_init_4 : decode cX10_init 4 = .ok (.aload_n 0, 1) := by decide +kernel
theorem dX10_init_5 : decode cX10_init 5 = .ok (.bipush 6, 2) := by decide +kernel
theorem dX10_init_7 : decode cX10_init 7 = .ok (.newarray .boolean, 2) := by decide +kernel
theorem dX10_init_9 : decode cX10_init 9 = .ok (.putfield 9, 3) := by decide +kernel
theorem dX10_init_12 : decode cX10_init 12 = .ok (.aload_n 0, 1) := by decide +kernel
theorem dX10_init_13 : decode cX10_init 13 = .ok (.bipush 6, 2) := by decide +kernel
theorem dX10_init_15 : decode cX10_init 15 = .ok (.newarray .boolean, 2) := by decide +kernel
theorem dX10_init_17 : decode cX10_init 17 = .ok (.putfield 15, 3) := by decide +kernel
theorem dX10_init_20 : decode cX10_init 20 = .ok (.aload_n 0, 1) := by decide +kernel
theorem dX10_init_21 : decode cX10_init 21 = .ok (.sipush 160, 3) := by decide +kernel
theorem dX10_init_24 : decode cX10_init 24 = .ok (.newarray .boolean, 2) := by decide +kernel
theorem dX10_init_26 : decode cX10_init 26 = .ok (.putfield 18, 3) := by decide +kernel
theorem dX10_init_29 : decode cX10_init 29 = .ok (.aload_n 0, 1) := by decide +kernel
theorem dX10_init_30 : decode cX10_init 30 = .ok (.aload_n 1, 1) := by decide +kernel
theorem dX10_init_31 : decode cX10_init 31 = .ok (.putfield 21, 3) := by decide +kernel
theorem dX10_init_34 : decode cX10_init 34 = .ok (.aload_n 0, 1) := by decide +kernel
theorem dX10_init_35 : decode cX10_init 35 = .ok (.aload_n 2, 1) := by decide +kernel
theorem dX10_init_36 : decode cX10_init 36 = .ok (.putfield 25, 3) := by decide +kernel
theorem dX10_init_39 : decode cX10_init 39 = .ok (.aload_n 0, 1) := by decide +kernel
theorem dX10_init_40 : decode cX10_init 40 = .ok (.aload_n 3, 1) := by decide +kernel
theorem dX10_init_41 : decode cX10_init 41 = .ok (.putfield 29, 3) := by decide +kernel
theorem dX10_init_44 : decode cX10_init 44 = .ok (.return_, 1) := by decide +kernel
theorem dX10_judge_0 : decode cX10_judge 0 = .ok (.aload_n 0, 1) := by decide +kernel
theorem dX10_judge_1 : decode cX10_judge 1 = .ok (.invokevirtual 33, 3) := by decide +kernel
theorem dX10_judge_4 : decode cX10_judge 4 = .ok (.iconst 1, 1) := by decide +kernel
theorem dX10_judge_5 : decode cX10_judge 5 = .ok (.istore_n 1, 1) := by decide +kernel
theorem dX10_judge_6 : decode cX10_judge 6 = .ok (.iconst 0, 1) := by decide +kernel
theorem dX10_judge_7 : decode cX10_judge 7 = .ok (.istore_n 2, 1) := by decide +kernel
theorem dX10_judge_8 : decode cX10_judge 8 = .ok (.iload_n 2, 1) := by decide +kernel
theorem dX10_judge_9 : decode cX10_judge 9 = .ok (.ldc 36, 2) := by decide +kernel
theorem dX10_judge_11 : decode cX10_judge 11 = .ok (.if_icmp .ge 90, 3) := by decide +kernel
theorem dX10_judge_14 : decode cX10_judge 14 = .ok (.iload_n 1, 1) := by decide +kernel
theorem dX10_judge_15 : decode cX10_judge 15 = .ok (.ifCond .eq 86, 3) := by decide +kernel
theorem dX10_judge_18 : decode cX10_judge 18 = .ok (.iconst 0, 1) := by decide +kernel
theorem dX10_judge_19 : decode cX10_judge 19 = .ok (.istore_n 1, 1) := by decide +kernel
theorem dX10_judge_20 : decode cX10_judge 20 = .ok (.iconst 0, 1) := by decide +kernel
theorem dX10_judge_21 : decode cX10_judge 21 = .ok (.istore_n 3, 1) := by decide +kernel
theorem dX10_judge_22 : decode cX10_judge 22 = .ok (.iload_n 3, 1) := by decide +kernel
theorem dX10_judge_23 : decode cX10_judge 23 = .ok (.aload_n 0, 1) := by decide +kernel
theorem dX10_judge_24 : decode cX10_judge 24 = .ok (.getfield 29, 3) := by decide +kernel
theorem dX10_judge_27 : decode cX10_judge 27 = .ok (.getfield 37, 3) := by decide +kernel
theorem dX10_judge_30 : decode cX10_judge 30 = .ok (.if_icmp .ge 65, 3) := by decide +kernel
theorem dX10_judge_33 : decode cX10_judge 33 = .ok (.aload_n 0, 1) := by decide +kernel
theorem dX10_judge_34 : decode cX10_judge 34 = .ok (.getfield 29, 3) := by decide +kernel
theorem dX10_judge_37 : decode cX10_judge 37 = .ok (.getfield 43, 3) := by decide +kernel
theorem dX10_judge_40 : decode cX10_judge 40 = .ok (.iload_n 3, 1) := by decide +kernel
theorem dX10_judge_41 : decode cX10_judge 41 = .ok (.iaload, 1) := by decide +kernel
theorem dX10_judge_42 : decode cX10_judge 42 = .ok (.iconst 2, 1) := by decide +kernel
theorem dX10_judge_43 : decode cX10_judge 43 = .ok (.if_icmp .gt 7, 3) := by decide +kernel
theorem dX10_judge_46 : decode cX10_judge 46 = .ok (.iconst 1, 1) := by decide +kernel
theorem dX10_judge_47 : decode cX10_judge 47 = .ok (.goto 4, 3) := by decide +kernel
theorem dX10_judge_50 : decode cX10_judge 50 = .ok (.iconst 0, 1) := by decide +kernel
theorem dX10_judge_51 : decode cX10_judge 51 = .ok (.istore 4, 2) := by decide +kernel
theorem dX10_judge_53 : decode cX10_judge 53 = .ok (.iload 4, 2) := by decide +kernel
theorem dX10_judge_55 : decode cX10_judge 55 = .ok (.ifCond .eq 34, 3) := by decide +kernel
theorem dX10_judge_58 : decode cX10_judge 58 = .ok (.aload_n 0, 1) := by decide +kernel
theorem dX10_judge_59 : decode cX10_judge 59 = .ok (.aload_n 0, 1) := by decide +kernel
theorem dX10_judge_60 : decode cX10_judge 60 = .ok (.getfield 29, 3) := by decide +kernel
theorem dX10_judge_63 : decode cX10_judge 63 = .ok (.getfield 47, 3) := by decide +kernel
theorem dX10_judge_66 : decode cX10_judge 66 = .ok (.iload_n 3, 1) := by decide +kernel
theorem dX10_judge_67 : decode cX10_judge 67 = .ok (.iaload, 1) := by decide +kernel
theorem dX10_judge_68 : decode cX10_judge 68 = .ok (.invokevirtual 50, 3) := by decide +kernel
theorem dX10_judge_71 : decode cX10_judge 71 = .ok (.ifCond .ne 18, 3) := by decide +kernel
theorem dX10_judge_74 : decode cX10_judge 74 = .ok (.aload_n 0, 1) := by decide +kernel
theorem dX10_judge_75 : decode cX10_judge 75 = .ok (.iload_n 3, 1) := by decide +kernel
theorem dX10_judge_76 : decode cX10_judge 76 = .ok (.invokevirtual 54, 3) := by decide +kernel
theorem dX10_judge_79 : decode cX10_judge 79 = .ok (.ifCond .eq 10, 3) := by decide +kernel
theorem dX10_judge_82 : decode cX10_judge 82 = .ok (.aload_n 0, 1) := by decide +kernel
theorem dX10_judge_83 : decode cX10_judge 83 = .ok (.iload_n 3, 1) := by decide +kernel
theorem dX10_judge_84 : decode cX10_judge 84 = .ok (.invokevirtual 57, 3) := by decide +kernel
theorem dX10_judge_87 : decode cX10_judge 87 = .ok (.iconst 1, 1) := by decide +kernel
theorem dX10_judge_88 : decode cX10_judge 88 = .ok (.istore_n 1, 1) := by decide +kernel
theorem dX10_judge_89 : decode cX10_judge 89 = .ok (.iinc 3 1, 3) := by decide +kernel
theorem dX10_judge_92 : decode cX10_judge 92 = .ok (.goto (-70), 3) := by decide +kernel
theorem dX10_judge_95 : decode cX10_judge 95 = .ok (.iinc 2 1, 3) := by decide +kernel
theorem dX10_judge_98 : decode cX10_judge 98 = .ok (.goto (-90), 3) := by decide +kernel
theorem dX10_judge_101 : decode cX10_judge 101 = .ok (.return_, 1) := by decide +kernel
theorem dX10_assumeAll_0 : decode cX10_assumeAll 0 = .ok (.iconst 0, 1) := by decide +kernel
theorem dX10_assumeAll_1 : decode cX10_assumeAll 1 = .ok (.istore_n 1, 1) := by decide +kernel
theorem dX10_assumeAll_2 : decode cX10_assumeAll 2 = .ok (.iload_n 1, 1) := by decide +kernel
theorem dX10_assumeAll_3 : decode cX10_assumeAll 3 = .ok (.bipush 6, 2) := by decide +kernel
theorem dX10_assumeAll_5 : decode cX10_assumeAll 5 = .ok (.if_icmp .ge 25, 3) := by decide +kernel
theorem dX10_assumeAll_8 : decode cX10_assumeAll 8 = .ok (.aload_n 0, 1) := by decide +kernel
theorem dX10_assumeAll_9 : decode cX10_assumeAll 9 = .ok (.getfield 9, 3) := by decide +kernel
theorem dX10_assumeAll_12 : decode cX10_assumeAll 12 = .ok (.iload_n 1, 1) := by decide +kernel
theorem dX10_assumeAll_13 : decode cX10_assumeAll 13 = .ok (.iload_n 1, 1) := by decide +kernel
theorem dX10_assumeAll_14 : decode cX10_assumeAll 14 = .ok (.iconst 1, 1) := by decide +kernel
theorem dX10_assumeAll_15 : decode cX10_assumeAll 15 = .ok (.if_icmp .le 7, 3) := by decide +kernel
theorem dX10_assumeAll_18 : decode cX10_assumeAll 18 = .ok (.iconst 1, 1) := by decide +kernel
theorem dX10_assumeAll_19 : decode cX10_assumeAll 19 = .ok (.goto 4, 3) := by decide +kernel
theorem dX10_assumeAll_22 : decode cX10_assumeAll 22 = .ok (.iconst 0, 1) := by decide +kernel
theorem dX10_assumeAll_23 : decode cX10_assumeAll 23 = .ok (.bastore, 1) := by decide +kernel
theorem dX10_assumeAll_24 : decode cX10_assumeAll 24 = .ok (.iinc 1 1, 3) := by decide +kernel
theorem dX10_assumeAll_27 : decode cX10_assumeAll 27 = .ok (.goto (-25), 3) := by decide +kernel
theorem dX10_assumeAll_30 : decode cX10_assumeAll 30 = .ok (.iconst 0, 1) := by decide +kernel
theorem dX10_assumeAll_31 : decode cX10_assumeAll 31 = .ok (.istore_n 1, 1) := by decide +kernel
theorem dX10_assumeAll_32 : decode cX10_assumeAll 32 = .ok (.iload_n 1, 1) := by decide +kernel
theorem dX10_assumeAll_33 : decode cX10_assumeAll 33 = .ok (.bipush 6, 2) := by decide +kernel
theorem dX10_assumeAll_35 : decode cX10_assumeAll 35 = .ok (.if_icmp .ge 16, 3) := by decide +kernel
theorem dX10_assumeAll_38 : decode cX10_assumeAll 38 = .ok (.aload_n 0, 1) := by decide +kernel
theorem dX10_assumeAll_39 : decode cX10_assumeAll 39 = .ok (.getfield 15, 3) := by decide +kernel
theorem dX10_assumeAll_42 : decode cX10_assumeAll 42 = .ok (.iload_n 1, 1) := by decide +kernel
theorem dX10_assumeAll_43 : decode cX10_assumeAll 43 = .ok (.iconst 1, 1) := by decide +kernel
theorem dX10_assumeAll_44 : decode cX10_assumeAll 44 = .ok (.bastore, 1) := by decide +kernel
theorem dX10_assumeAll_45 : decode cX10_assumeAll 45 = .ok (.iinc 1 1, 3) := by decide +kernel
theorem dX10_assumeAll_48 : decode cX10_assumeAll 48 = .ok (.goto (-16), 3) := by decide +kernel
theorem dX10_assumeAll_51 : decode cX10_assumeAll 51 = .ok (.iconst 0, 1) := by decide +kernel
theorem dX10_assumeAll_52 : decode cX10_assumeAll 52 = .ok (.istore_n 1, 1) := by decide +kernel
theorem dX10_assumeAll_53 : decode cX10_assumeAll 53 = .ok (.iload_n 1, 1) := by decide +kernel
theorem dX10_assumeAll_54 : decode cX10_assumeAll 54 = .ok (.sipush 160, 3) := by decide +kernel
theorem dX10_assumeAll_57 : decode cX10_assumeAll 57 = .ok (.if_icmp .ge 16, 3) := by decide +kernel
theorem dX10_assumeAll_60 : decode cX10_assumeAll 60 = .ok (.aload_n 0, 1) := by decide +kernel
theorem dX10_assumeAll_61 : decode cX10_assumeAll 61 = .ok (.getfield 18, 3) := by decide +kernel
theorem dX10_assumeAll_64 : decode cX10_assumeAll 64 = .ok (.iload_n 1, 1) := by decide +kernel
theorem dX10_assumeAll_65 : decode cX10_assumeAll 65 = .ok (.iconst 1, 1) := by decide +kernel
theorem dX10_assumeAll_66 : decode cX10_assumeAll 66 = .ok (.bastore, 1) := by decide +kernel
theorem dX10_assumeAll_67 : decode cX10_assumeAll 67 = .ok (.iinc 1 1, 3) := by decide +kernel
theorem dX10_assumeAll_70 : decode cX10_assumeAll 70 = .ok (.goto (-17), 3) := by decide +kernel
theorem dX10_assumeAll_73 : decode cX10_assumeAll 73 = .ok (.iconst 0, 1) := by decide +kernel
theorem dX10_assumeAll_74 : decode cX10_assumeAll 74 = .ok (.istore_n 1, 1) := by decide +kernel
theorem dX10_assumeAll_75 : decode cX10_assumeAll 75 = .ok (.iload_n 1, 1) := by decide +kernel
theorem dX10_assumeAll_76 : decode cX10_assumeAll 76 = .ok (.aload_n 0, 1) := by decide +kernel
theorem dX10_assumeAll_77 : decode cX10_assumeAll 77 = .ok (.getfield 21, 3) := by decide +kernel
theorem dX10_assumeAll_80 : decode cX10_assumeAll 80 = .ok (.getfield 61, 3) := by decide +kernel
theorem dX10_assumeAll_83 : decode cX10_assumeAll 83 = .ok (.if_icmp .ge 28, 3) := by decide +kernel
theorem dX10_assumeAll_86 : decode cX10_assumeAll 86 = .ok (.aload_n 0, 1) := by decide +kernel
theorem dX10_assumeAll_87 : decode cX10_assumeAll 87 = .ok (.getfield 21, 3) := by decide +kernel
theorem dX10_assumeAll_90 : decode cX10_assumeAll 90 = .ok (.getfield 66, 3) := by decide +kernel
theorem dX10_assumeAll_93 : decode cX10_assumeAll 93 = .ok (.iload_n 1, 1) := by decide +kernel
theorem dX10_assumeAll_94 : decode cX10_assumeAll 94 = .ok (.baload, 1) := by decide +kernel
theorem dX10_assumeAll_95 : decode cX10_assumeAll 95 = .ok (.ifCond .eq 10, 3) := by decide +kernel
theorem dX10_assumeAll_98 : decode cX10_assumeAll 98 = .ok (.aload_n 0, 1) := by decide +kernel
theorem dX10_assumeAll_99 : decode cX10_assumeAll 99 = .ok (.getfield 15, 3) := by decide +kernel
theorem dX10_assumeAll_102 : decode cX10_assumeAll 102 = .ok (.iconst 0, 1) := by decide +kernel
theorem dX10_assumeAll_103 : decode cX10_assumeAll 103 = .ok (.iconst 0, 1) := by decide +kernel
theorem dX10_assumeAll_104 : decode cX10_assumeAll 104 = .ok (.bastore, 1) := by decide +kernel
theorem dX10_assumeAll_105 : decode cX10_assumeAll 105 = .ok (.iinc 1 1, 3) := by decide +kernel
theorem dX10_assumeAll_108 : decode cX10_assumeAll 108 = .ok (.goto (-33), 3) := by decide +kernel
theorem dX10_assumeAll_111 : decode cX10_assumeAll 111 = .ok (.return_, 1) := by decide +kernel
theorem dX10_holds_0 : decode cX10_holds 0 = .ok (.aload_n 0, 1) := by decide +kernel
theorem dX10_holds_1 : decode cX10_holds 1 = .ok (.getfield 25, 3) := by decide +kernel
theorem dX10_holds_4 : decode cX10_holds 4 = .ok (.getfield 69, 3) := by decide +kernel
theorem dX10_holds_7 : decode cX10_holds 7 = .ok (.iload_n 1, 1) := by decide +kernel
theorem dX10_holds_8 : decode cX10_holds 8 = .ok (.iaload, 1) := by decide +kernel
theorem dX10_holds_9 : decode cX10_holds 9 = .ok (.istore_n 2, 1) := by decide +kernel
theorem dX10_holds_10 : decode cX10_holds 10 = .ok (.aload_n 0, 1) := by decide +kernel
theorem dX10_holds_11 : decode cX10_holds 11 = .ok (.getfield 25, 3) := by decide +kernel
theorem dX10_holds_14 : decode cX10_holds 14 = .ok (.getfield 74, 3) := by decide +kernel
theorem dX10_holds_17 : decode cX10_holds 17 = .ok (.iload_n 1, 1) := by decide +kernel
theorem dX10_holds_18 : decode cX10_holds 18 = .ok (.iaload, 1) := by decide +kernel
theorem dX10_holds_19 : decode cX10_holds 19 = .ok (.lookupswitch 114 #[(33, 76), (60, 76), (61, 76), (84, 85), (88, 92), (107, 65), (108, 78)], 65) := by decide +kernel
theorem dX10_holds_84 : decode cX10_holds 84 = .ok (.iload_n 2, 1) := by decide +kernel
theorem dX10_holds_85 : decode cX10_holds 85 = .ok (.iconst 1, 1) := by decide +kernel
theorem dX10_holds_86 : decode cX10_holds 86 = .ok (.if_icmp .gt 7, 3) := by decide +kernel
theorem dX10_holds_89 : decode cX10_holds 89 = .ok (.iconst 1, 1) := by decide +kernel
theorem dX10_holds_90 : decode cX10_holds 90 = .ok (.goto 4, 3) := by decide +kernel
theorem dX10_holds_93 : decode cX10_holds 93 = .ok (.iconst 0, 1) := by decide +kernel
theorem dX10_holds_94 : decode cX10_holds 94 = .ok (.ireturn, 1) := by decide +kernel
theorem dX10_holds_95 : decode cX10_holds 95 = .ok (.iconst 1, 1) := by decide +kernel
theorem dX10_holds_96 : decode cX10_holds 96 = .ok (.ireturn, 1) := by decide +kernel
theorem dX10_holds_97 : decode cX10_holds 97 = .ok (.aload_n 0, 1) := by decide +kernel
theorem dX10_holds_98 : decode cX10_holds 98 = .ok (.getfield 9, 3) := by decide +kernel
theorem dX10_holds_101 : decode cX10_holds 101 = .ok (.iload_n 2, 1) := by decide +kernel
theorem dX10_holds_102 : decode cX10_holds 102 = .ok (.baload, 1) := by decide +kernel
theorem dX10_holds_103 : decode cX10_holds 103 = .ok (.ireturn, 1) := by decide +kernel
theorem dX10_holds_104 : decode cX10_holds 104 = .ok (.aload_n 0, 1) := by decide +kernel
theorem dX10_holds_105 : decode cX10_holds 105 = .ok (.getfield 15, 3) := by decide +kernel
theorem dX10_holds_108 : decode cX10_holds 108 = .ok (.iload_n 2, 1) := by decide +kernel
theorem dX10_holds_109 : decode cX10_holds 109 = .ok (.baload, 1) := by decide +kernel
theorem dX10_holds_110 : decode cX10_holds 110 = .ok (.ireturn, 1) := by decide +kernel
theorem dX10_holds_111 : decode cX10_holds 111 = .ok (.iload_n 2, 1) := by decide +kernel
theorem dX10_holds_112 : decode cX10_holds 112 = .ok (.sipush 160, 3) := by decide +kernel
theorem dX10_holds_115 : decode cX10_holds 115 = .ok (.if_icmp .ge 16, 3) := by decide +kernel
theorem dX10_holds_118 : decode cX10_holds 118 = .ok (.aload_n 0, 1) := by decide +kernel
theorem dX10_holds_119 : decode cX10_holds 119 = .ok (.getfield 18, 3) := by decide +kernel
theorem dX10_holds_122 : decode cX10_holds 122 = .ok (.iload_n 2, 1) := by decide +kernel
theorem dX10_holds_123 : decode cX10_holds 123 = .ok (.baload, 1) := by decide +kernel
theorem dX10_holds_124 : decode cX10_holds 124 = .ok (.ifCond .eq 7, 3) := by decide +kernel
theorem dX10_holds_127 : decode cX10_holds 127 = .ok (.iconst 1, 1) := by decide +kernel
theorem dX10_holds_128 : decode cX10_holds 128 = .ok (.goto 4, 3) := by decide +kernel
theorem dX10_holds_131 : decode cX10_holds 131 = .ok (.iconst 0, 1) := by decide +kernel
theorem dX10_holds_132 : decode cX10_holds 132 = .ok (.ireturn, 1) := by decide +kernel
theorem dX10_holds_133 : decode cX10_holds 133 = .ok (.iconst 0, 1) := by decide +kernel
theorem dX10_holds_134 : decode cX10_holds 134 = .ok (.ireturn, 1) := by decide +kernel
theorem dX10_isTaken_0 : decode cX10_isTaken 0 = .ok (.aload_n 0, 1) := by decide +kernel
theorem dX10_isTaken_1 : decode cX10_isTaken 1 = .ok (.getfield 29, 3) := by decide +kernel
theorem dX10_isTaken_4 : decode cX10_isTaken 4 = .ok (.getfield 77, 3) := by decide +kernel
theorem dX10_isTaken_7 : decode cX10_isTaken 7 = .ok (.iload_n 1, 1) := by decide +kernel
theorem dX10_isTaken_8 : decode cX10_isTaken 8 = .ok (.iaload, 1) := by decide +kernel
theorem dX10_isTaken_9 : decode cX10_isTaken 9 = .ok (.istore_n 2, 1) := by decide +kernel
theorem dX10_isTaken_10 : decode cX10_isTaken 10 = .ok (.aload_n 0, 1) := by decide +kernel
theorem dX10_isTaken_11 : decode cX10_isTaken 11 = .ok (.getfield 29, 3) := by decide +kernel
theorem dX10_isTaken_14 : decode cX10_isTaken 14 = .ok (.getfield 43, 3) := by decide +kernel
theorem dX10_isTaken_17 : decode cX10_isTaken 17 = .ok (.iload_n 1, 1) := by decide +kernel
theorem dX10_isTaken_18 : decode cX10_isTaken 18 = .ok (.iaload, 1) := by decide +kernel
theorem dX10_isTaken_19 : decode cX10_isTaken 19 = .ok (.lookupswitch 39 #[(0, 25), (1, 32)], 25) := by decide +kernel
theorem dX10_isTaken_44 : decode cX10_isTaken 44 = .ok (.aload_n 0, 1) := by decide +kernel
theorem dX10_isTaken_45 : decode cX10_isTaken 45 = .ok (.getfield 9, 3) := by decide +kernel
theorem dX10_isTaken_48 : decode cX10_isTaken 48 = .ok (.iload_n 2, 1) := by decide +kernel
theorem dX10_isTaken_49 : decode cX10_isTaken 49 = .ok (.baload, 1) := by decide +kernel
theorem dX10_isTaken_50 : decode cX10_isTaken 50 = .ok (.ireturn, 1) := by decide +kernel
theorem dX10_isTaken_51 : decode cX10_isTaken 51 = .ok (.aload_n 0, 1) := by decide +kernel
theorem dX10_isTaken_52 : decode cX10_isTaken 52 = .ok (.getfield 15, 3) := by decide +kernel
theorem dX10_isTaken_55 : decode cX10_isTaken 55 = .ok (.iload_n 2, 1) := by decide +kernel
theorem dX10_isTaken_56 : decode cX10_isTaken 56 = .ok (.baload, 1) := by decide +kernel
theorem dX10_isTaken_57 : decode cX10_isTaken 57 = .ok (.ireturn, 1) := by decide +kernel
theorem dX10_isTaken_58 : decode cX10_isTaken 58 = .ok (.iload_n 2, 1) := by decide +kernel
theorem dX10_isTaken_59 : decode cX10_isTaken 59 = .ok (.sipush 160, 3) := by decide +kernel
theorem dX10_isTaken_62 : decode cX10_isTaken 62 = .ok (.if_icmp .ge 16, 3) := by decide +kernel
theorem dX10_isTaken_65 : decode cX10_isTaken 65 = .ok (.aload_n 0, 1) := by decide +kernel
theorem dX10_isTaken_66 : decode cX10_isTaken 66 = .ok (.getfield 18, 3) := by decide +kernel
theorem dX10_isTaken_69 : decode cX10_isTaken 69 = .ok (.iload_n 2, 1) := by decide +kernel
theorem dX10_isTaken_70 : decode cX10_isTaken 70 = .ok (.baload, 1) := by decide +kernel
theorem dX10_isTaken_71 : decode cX10_isTaken 71 = .ok (.ifCond .eq 7, 3) := by decide +kernel
theorem dX10_isTaken_74 : decode cX10_isTaken 74 = .ok (.iconst 1, 1) := by decide +kernel
theorem dX10_isTaken_75 : decode cX10_isTaken 75 = .ok (.goto 4, 3) := by decide +kernel
theorem dX10_isTaken_78 : decode cX10_isTaken 78 = .ok (.iconst 0, 1) := by decide +kernel
theorem dX10_isTaken_79 : decode cX10_isTaken 79 = .ok (.ireturn, 1) := by decide +kernel
theorem dX10_deny_0 : decode cX10_deny 0 = .ok (.aload_n 0, 1) := by decide +kernel
theorem dX10_deny_1 : decode cX10_deny 1 = .ok (.getfield 29, 3) := by decide +kernel
theorem dX10_deny_4 : decode cX10_deny 4 = .ok (.getfield 77, 3) := by decide +kernel
theorem dX10_deny_7 : decode cX10_deny 7 = .ok (.iload_n 1, 1) := by decide +kernel
theorem dX10_deny_8 : decode cX10_deny 8 = .ok (.iaload, 1) := by decide +kernel
theorem dX10_deny_9 : decode cX10_deny 9 = .ok (.istore_n 2, 1) := by decide +kernel
theorem dX10_deny_10 : decode cX10_deny 10 = .ok (.aload_n 0, 1) := by decide +kernel
theorem dX10_deny_11 : decode cX10_deny 11 = .ok (.getfield 29, 3) := by decide +kernel
theorem dX10_deny_14 : decode cX10_deny 14 = .ok (.getfield 43, 3) := by decide +kernel
theorem dX10_deny_17 : decode cX10_deny 17 = .ok (.iload_n 1, 1) := by decide +kernel
theorem dX10_deny_18 : decode cX10_deny 18 = .ok (.iaload, 1) := by decide +kernel
theorem dX10_deny_19 : decode cX10_deny 19 = .ok (.lookupswitch 45 #[(0, 25), (1, 35)], 25) := by decide +kernel
theorem dX10_deny_44 : decode cX10_deny 44 = .ok (.aload_n 0, 1) := by decide +kernel
theorem dX10_deny_45 : decode cX10_deny 45 = .ok (.getfield 9, 3) := by decide +kernel
theorem dX10_deny_48 : decode cX10_deny 48 = .ok (.iload_n 2, 1) := by decide +kernel
theorem dX10_deny_49 : decode cX10_deny 49 = .ok (.iconst 0, 1) := by decide +kernel
theorem dX10_deny_50 : decode cX10_deny 50 = .ok (.bastore, 1) := by decide +kernel
theorem dX10_deny_51 : decode cX10_deny 51 = .ok (.goto 20, 3) := by decide +kernel
theorem dX10_deny_54 : decode cX10_deny 54 = .ok (.aload_n 0, 1) := by decide +kernel
theorem dX10_deny_55 : decode cX10_deny 55 = .ok (.getfield 15, 3) := by decide +kernel
theorem dX10_deny_58 : decode cX10_deny 58 = .ok (.iload_n 2, 1) := by decide +kernel
theorem dX10_deny_59 : decode cX10_deny 59 = .ok (.iconst 0, 1) := by decide +kernel
theorem dX10_deny_60 : decode cX10_deny 60 = .ok (.bastore, 1) := by decide +kernel
theorem dX10_deny_61 : decode cX10_deny 61 = .ok (.goto 10, 3) := by decide +kernel
theorem dX10_deny_64 : decode cX10_deny 64 = .ok (.aload_n 0, 1) := by decide +kernel
theorem dX10_deny_65 : decode cX10_deny 65 = .ok (.getfield 18, 3) := by decide +kernel
theorem dX10_deny_68 : decode cX10_deny 68 = .ok (.iload_n 2, 1) := by decide +kernel
theorem dX10_deny_69 : decode cX10_deny 69 = .ok (.iconst 0, 1) := by decide +kernel
theorem dX10_deny_70 : decode cX10_deny 70 = .ok (.bastore, 1) := by decide +kernel
theorem dX10_deny_71 : decode cX10_deny 71 = .ok (.return_, 1) := by decide +kernel
theorem dX10_howMany_0 : decode cX10_howMany 0 = .ok (.iconst 0, 1) := by decide +kernel
theorem dX10_howMany_1 : decode cX10_howMany 1 = .ok (.istore_n 1, 1) := by decide +kernel
theorem dX10_howMany_2 : decode cX10_howMany 2 = .ok (.iconst 0, 1) := by decide +kernel
theorem dX10_howMany_3 : decode cX10_howMany 3 = .ok (.istore_n 2, 1) := by decide +kernel
theorem dX10_howMany_4 : decode cX10_howMany 4 = .ok (.iload_n 2, 1) := by decide +kernel
theorem dX10_howMany_5 : decode cX10_howMany 5 = .ok (.bipush 6, 2) := by decide +kernel
theorem dX10_howMany_7 : decode cX10_howMany 7 = .ok (.if_icmp .ge 21, 3) := by decide +kernel
theorem dX10_howMany_10 : decode cX10_howMany 10 = .ok (.iload_n 1, 1) := by decide +kernel
theorem dX10_howMany_11 : decode cX10_howMany 11 = .ok (.aload_n 0, 1) := by decide +kernel
theorem dX10_howMany_12 : decode cX10_howMany 12 = .ok (.getfield 9, 3) := by decide +kernel
theorem dX10_howMany_15 : decode cX10_howMany 15 = .ok (.iload_n 2, 1) := by decide +kernel
theorem dX10_howMany_16 : decode cX10_howMany 16 = .ok (.baload, 1) := by decide +kernel
theorem dX10_howMany_17 : decode cX10_howMany 17 = .ok (.invokestatic 80, 3) := by decide +kernel
theorem dX10_howMany_20 : decode cX10_howMany 20 = .ok (.iadd, 1) := by decide +kernel
theorem dX10_howMany_21 : decode cX10_howMany 21 = .ok (.istore_n 1, 1) := by decide +kernel
theorem dX10_howMany_22 : decode cX10_howMany 22 = .ok (.iinc 2 1, 3) := by decide +kernel
theorem dX10_howMany_25 : decode cX10_howMany 25 = .ok (.goto (-21), 3) := by decide +kernel
theorem dX10_howMany_28 : decode cX10_howMany 28 = .ok (.iconst 0, 1) := by decide +kernel
theorem dX10_howMany_29 : decode cX10_howMany 29 = .ok (.istore_n 2, 1) := by decide +kernel
theorem dX10_howMany_30 : decode cX10_howMany 30 = .ok (.iload_n 2, 1) := by decide +kernel
theorem dX10_howMany_31 : decode cX10_howMany 31 = .ok (.aload_n 0, 1) := by decide +kernel
theorem dX10_howMany_32 : decode cX10_howMany 32 = .ok (.getfield 21, 3) := by decide +kernel
theorem dX10_howMany_35 : decode cX10_howMany 35 = .ok (.getfield 84, 3) := by decide +kernel
theorem dX10_howMany_38 : decode cX10_howMany 38 = .ok (.if_icmp .ge 21, 3) := by decide +kernel
theorem dX10_howMany_41 : decode cX10_howMany 41 = .ok (.iload_n 1, 1) := by decide +kernel
theorem dX10_howMany_42 : decode cX10_howMany 42 = .ok (.aload_n 0, 1) := by decide +kernel
theorem dX10_howMany_43 : decode cX10_howMany 43 = .ok (.getfield 15, 3) := by decide +kernel
theorem dX10_howMany_46 : decode cX10_howMany 46 = .ok (.iload_n 2, 1) := by decide +kernel
theorem dX10_howMany_47 : decode cX10_howMany 47 = .ok (.baload, 1) := by decide +kernel
theorem dX10_howMany_48 : decode cX10_howMany 48 = .ok (.invokestatic 80, 3) := by decide +kernel
theorem dX10_howMany_51 : decode cX10_howMany 51 = .ok (.iadd, 1) := by decide +kernel
theorem dX10_howMany_52 : decode cX10_howMany 52 = .ok (.istore_n 1, 1) := by decide +kernel
theorem dX10_howMany_53 : decode cX10_howMany 53 = .ok (.iinc 2 1, 3) := by decide +kernel
theorem dX10_howMany_56 : decode cX10_howMany 56 = .ok (.goto (-26), 3) := by decide +kernel
theorem dX10_howMany_59 : decode cX10_howMany 59 = .ok (.iconst 0, 1) := by decide +kernel
theorem dX10_howMany_60 : decode cX10_howMany 60 = .ok (.istore_n 2, 1) := by decide +kernel
theorem dX10_howMany_61 : decode cX10_howMany 61 = .ok (.iload_n 2, 1) := by decide +kernel
theorem dX10_howMany_62 : decode cX10_howMany 62 = .ok (.aload_n 0, 1) := by decide +kernel
theorem dX10_howMany_63 : decode cX10_howMany 63 = .ok (.getfield 29, 3) := by decide +kernel
theorem dX10_howMany_66 : decode cX10_howMany 66 = .ok (.getfield 87, 3) := by decide +kernel
theorem dX10_howMany_69 : decode cX10_howMany 69 = .ok (.if_icmp .ge 21, 3) := by decide +kernel
theorem dX10_howMany_72 : decode cX10_howMany 72 = .ok (.iload_n 1, 1) := by decide +kernel
theorem dX10_howMany_73 : decode cX10_howMany 73 = .ok (.aload_n 0, 1) := by decide +kernel
theorem dX10_howMany_74 : decode cX10_howMany 74 = .ok (.getfield 18, 3) := by decide +kernel
theorem dX10_howMany_77 : decode cX10_howMany 77 = .ok (.iload_n 2, 1) := by decide +kernel
theorem dX10_howMany_78 : decode cX10_howMany 78 = .ok (.baload, 1) := by decide +kernel
theorem dX10_howMany_79 : decode cX10_howMany 79 = .ok (.invokestatic 80, 3) := by decide +kernel
theorem dX10_howMany_82 : decode cX10_howMany 82 = .ok (.iadd, 1) := by decide +kernel
theorem dX10_howMany_83 : decode cX10_howMany 83 = .ok (.istore_n 1, 1) := by decide +kernel
theorem dX10_howMany_84 : decode cX10_howMany 84 = .ok (.iinc 2 1, 3) := by decide +kernel
theorem dX10_howMany_87 : decode cX10_howMany 87 = .ok (.goto (-26), 3) := by decide +kernel
theorem dX10_howMany_90 : decode cX10_howMany 90 = .ok (.iload_n 1, 1) := by decide +kernel
theorem dX10_howMany_91 : decode cX10_howMany 91 = .ok (.ireturn, 1) := by decide +kernel
theorem dX11_init_0 : decode cX11_init 0 = .ok (.aload_n 0, 1) := by decide +kernel
theorem dX11_init_1 : decode cX11_init 1 = .ok (.invokespecial 1, 3) := by decide +kernel
theorem dX11_init_4 : decode cX11_init 4 = .ok (.aload_n 0, 1) := by decide +kernel
theorem dX11_init_5 : decode cX11_init 5 = .ok (.new 7, 3) := by decide +kernel
theorem dX11_init_8 : decode cX11_init 8 = .ok (.dup, 1) := by decide +kernel
theorem dX11_init_9 : decode cX11_init 9 = .ok (.invokespecial 9, 3) := by decide +kernel
theorem dX11_init_12 : decode cX11_init 12 = .ok (.putfield 10, 3) := by decide +kernel
theorem dX11_init_15 : decode cX11_init 15 = .ok (.aload_n 0, 1) := by decide +kernel
theorem dX11_init_16 : decode cX11_init 16 = .ok (.new 16, 3) := by decide +kernel
theorem dX11_init_19 : decode cX11_init 19 = .ok (.dup, 1) := by decide +kernel
theorem dX11_init_20 : decode cX11_init 20 = .ok (.invokespecial 18, 3) := by decide +kernel
theorem dX11_init_23 : decode cX11_init 23 = .ok (.putfield 19, 3) := by decide +kernel
theorem dX11_init_26 : decode cX11_init 26 = .ok (.aload_n 0, 1) := by decide +kernel
theorem dX11_init_27 : decode cX11_init 27 = .ok (.new 16, 3) := by decide +kernel
theorem dX11_init_30 : decode cX11_init 30 = .ok (.dup, 1) := by decide +kernel
theorem dX11_init_31 : decode cX11_init 31 = .ok (.invokespecial 18, 3) := by decide +kernel
theorem dX11_init_34 : decode cX11_init 34 = .ok (.putfield 23, 3) := by decide +kernel
theorem dX11_init_37 : decode cX11_init 37 = .ok (.aload_n 0, 1) := by decide +kernel
theorem dX11_init_38 : decode cX11_init 38 = .ok (.new 26, 3) := by decide +kernel
theorem dX11_init_41 : decode cX11_init 41 = .ok (.dup, 1) := by decide +kernel
theorem dX11_init_42 : decode cX11_init 42 = .ok (.aload_n 0, 1) := by decide +kernel
theorem dX11_init_43 : decode cX11_init 43 = .ok (.getfield 19, 3) := by decide +kernel
theorem dX11_init_46 : decode cX11_init 46 = .ok (.invokespecial 28, 3) := by decide +kernel
theorem dX11_init_49 : decode cX11_init 49 = .ok (.putfield 31, 3) := by decide +kernel
theorem dX11_init_52 : decode cX11_init 52 = .ok (.aload_n 0, 1) := by decide +kernel
theorem dX11_init_53 : decode cX11_init 53 = .ok (.new 35, 3) := by decide +kernel
theorem dX11_init_56 : decode cX11_init 56 = .ok (.dup, 1) := by decide +kernel
theorem dX11_init_57 : decode cX11_init 57 = .ok (.aload_n 0, 1) := by decide +kernel
theorem dX11_init_58 : decode cX11_init 58 = .ok (.getfield 31, 3) := by decide +kernel
theorem dX11_init_61 : decode cX11_init 61 = .ok (.invokespecial 37, 3) := by decide +kernel
theorem dX11_init_64 : decode cX11_init 64 = .ok (.putfield 40, 3) := by decide +kernel
theorem dX11_init_67 : decode cX11_init 67 = .ok (.aload_n 0, 1) := by decide +kernel
theorem dX11_init_68 : decode cX11_init 68 = .ok (.new 44, 3) := by decide +kernel
theorem dX11_init_71 : decode cX11_init 71 = .ok (.dup, 1) := by decide +kernel
theorem dX11_init_72 : decode cX11_init 72 = .ok (.invokespecial 46, 3) := by decide +kernel
theorem dX11_init_75 : decode cX11_init 75 = .ok (.putfield 47, 3) := by decide +kernel
theorem dX11_init_78 : decode cX11_init 78 = .ok (.aload_n 0, 1) := by decide +kernel
theorem dX11_init_79 : decode cX11_init 79 = .ok (.new 51, 3) := by decide +kernel
theorem dX11_init_82 : decode cX11_init 82 = .ok (.dup, 1) := by decide +kernel
theorem dX11_init_83 : decode cX11_init 83 = .ok (.aload_n 0, 1) := by decide +kernel
theorem dX11_init_84 : decode cX11_init 84 = .ok (.getfield 19, 3) := by decide +kernel
theorem dX11_init_87 : decode cX11_init 87 = .ok (.aload_n 0, 1) := by decide +kernel
theorem dX11_init_88 : decode cX11_init 88 = .ok (.getfield 31, 3) := by decide +kernel
theorem dX11_init_91 : decode cX11_init 91 = .ok (.aload_n 0, 1) := by decide +kernel
theorem dX11_init_92 : decode cX11_init 92 = .ok (.getfield 47, 3) := by decide +kernel
theorem dX11_init_95 : decode cX11_init 95 = .ok (.invokespecial 53, 3) := by decide +kernel
theorem dX11_init_98 : decode cX11_init 98 = .ok (.putfield 56, 3) := by decide +kernel
theorem dX11_init_101 : decode cX11_init 101 = .ok (.aload_n 0, 1) := by decide +kernel
theorem dX11_init_102 : decode cX11_init 102 = .ok (.new 60, 3) := by decide +kernel
theorem dX11_init_105 : decode cX11_init 105 = .ok (.dup, 1) := by decide +kernel
theorem dX11_init_106 : decode cX11_init 106 = .ok (.aload_n 0, 1) := by decide +kernel
theorem dX11_init_107 : decode cX11_init 107 = .ok (.getfield 31, 3) := by decide +kernel
theorem dX11_init_110 : decode cX11_init 110 = .ok (.aload_n 0, 1) := by decide +kernel
theorem dX11_init_111 : decode cX11_init 111 = .ok (.getfield 47, 3) := by decide +kernel
theorem dX11_init_114 : decode cX11_init 114 = .ok (.aload_n 0, 1) := by decide +kernel
theorem dX11_init_115 : decode cX11_init 115 = .ok (.getfield 56, 3) := by decide +kernel
theorem dX11_init_118 : decode cX11_init 118 = .ok (.invokespecial 62, 3) := by decide +kernel
theorem dX11_init_121 : decode cX11_init 121 = .ok (.putfield 65, 3) := by decide +kernel
theorem dX11_init_124 : decode cX11_init 124 = .ok (.aload_n 0, 1) := by decide +kernel
theorem dX11_init_125 : decode cX11_init 125 = .ok (.new 69, 3) := by decide +kernel
theorem dX11_init_128 : decode cX11_init 128 = .ok (.dup, 1) := by decide +kernel
theorem dX11_init_129 : decode cX11_init 129 = .ok (.aload_n 0, 1) := by decide +kernel
theorem dX11_init_130 : decode cX11_init 130 = .ok (.getfield 19, 3) := by decide +kernel
theorem dX11_init_133 : decode cX11_init 133 = .ok (.aload_n 0, 1) := by decide +kernel
theorem dX11_init_134 : decode cX11_init 134 = .ok (.getfield 31, 3) := by decide +kernel
theorem dX11_init_137 : decode cX11_init 137 = .ok (.invokespecial 71, 3) := by decide +kernel
theorem dX11_init_140 : decode cX11_init 140 = .ok (.putfield 74, 3) := by decide +kernel
theorem dX11_init_143 : decode cX11_init 143 = .ok (.aload_n 0, 1) := by decide +kernel
theorem dX11_init_144 : decode cX11_init 144 = .ok (.new 78, 3) := by decide +kernel
theorem dX11_init_147 : decode cX11_init 147 = .ok (.dup, 1) := by decide +kernel
theorem dX11_init_148 : decode cX11_init 148 = .ok (.aload_n 0, 1) := by decide +kernel
theorem dX11_init_149 : decode cX11_init 149 = .ok (.getfield 31, 3) := by decide +kernel
theorem dX11_init_152 : decode cX11_init 152 = .ok (.aload_n 0, 1) := by decide +kernel
theorem dX11_init_153 : decode cX11_init 153 = .ok (.getfield 40, 3) := by decide +kernel
theorem dX11_init_156 : decode cX11_init 156 = .ok (.aload_n 0, 1) := by decide +kernel
theorem dX11_init_157 : decode cX11_init 157 = .ok (.getfield 56, 3) := by decide +kernel
theorem dX11_init_160 : decode cX11_init 160 = .ok (.invokespecial 80, 3) := by decide +kernel
theorem dX11_init_163 : decode cX11_init 163 = .ok (.putfield 83, 3) := by decide +kernel
theorem dX11_init_166 : decode cX11_init 166 = .ok (.aload_n 0, 1) := by decide +kernel
theorem dX11_init_167 : decode cX11_init 167 = .ok (.new 87, 3) := by decide +kernel
theorem dX11_init_170 : decode cX11_init 170 = .ok (.dup, 1) := by decide +kernel
theorem dX11_init_171 : decode cX11_init 171 = .ok (.aload_n 0, 1) := by decide +kernel
theorem dX11_init_172 : decode cX11_init 172 = .ok (.getfield 19, 3) := by decide +kernel
theorem dX11_init_175 : decode cX11_init 175 = .ok (.aload_n 0, 1) := by decide +kernel
theorem dX11_init_176 : decode cX11_init 176 = .ok (.getfield 31, 3) := by decide +kernel
theorem dX11_init_179 : decode cX11_init 179 = .ok (.aload_n 0, 1) := by decide +kernel
theorem dX11_init_180 : decode cX11_init 180 = .ok (.getfield 47, 3) := by decide +kernel
theorem dX11_init_183 : decode cX11_init 183 = .ok (.aload_n 0, 1) := by decide +kernel
theorem dX11_init_184 : decode cX11_init 184 = .ok (.getfield 56, 3) := by decide +kernel
theorem dX11_init_187 : decode cX11_init 187 = .ok (.aload_n 0, 1) := by decide +kernel
theorem dX11_init_188 : decode cX11_init 188 = .ok (.getfield 83, 3) := by decide +kernel
theorem dX11_init_191 : decode cX11_init 191 = .ok (.invokespecial 89, 3) := by decide +kernel
theorem dX11_init_194 : decode cX11_init 194 = .ok (.putfield 92, 3) := by decide +kernel
theorem dX11_init_197 : decode cX11_init 197 = .ok (.aload_n 0, 1) := by decide +kernel
theorem dX11_init_198 : decode cX11_init 198 = .ok (.new 96, 3) := by decide +kernel
theorem dX11_init_201 : decode cX11_init 201 = .ok (.dup, 1) := by decide +kernel
theorem dX11_init_202 : decode cX11_init 202 = .ok (.aload_n 0, 1) := by decide +kernel
theorem dX11_init_203 : decode cX11_init 203 = .ok (.getfield 47, 3) := by decide +kernel
theorem dX11_init_206 : decode cX11_init 206 = .ok (.aload_n 0, 1) := by decide +kernel
theorem dX11_init_207 : decode cX11_init 207 = .ok (.getfield 56, 3) := by decide +kernel
theorem dX11_init_210 : decode cX11_init 210 = .ok (.aload_n 0, 1) := by decide +kernel
theorem dX11_init_211 : decode cX11_init 211 = .ok (.getfield 83, 3) := by decide +kernel
theorem dX11_init_214 : decode cX11_init 214 = .ok (.invokespecial 98, 3) := by decide +kernel
theorem dX11_init_217 : decode cX11_init 217 = .ok (.putfield 101, 3) := by decide +kernel
theorem dX11_init_220 : decode cX11_init 220 = .ok (.aload_n 0, 1) := by decide +kernel
theorem dX11_init_221 : decode cX11_init 221 = .ok (.iconst 0, 1) := by decide +kernel
theorem dX11_init_222 : decode cX11_init 222 = .ok (.putfield 105, 3) := by decide +kernel
theorem dX11_init_225 : decode cX11_init 225 = .ok (.return_, 1) := by decide +kernel
theorem dX11_feed_0 : decode cX11_feed 0 = .ok (.iload_n 1, 1) := by decide +kernel
theorem dX11_feed_1 : decode cX11_feed 1 = .ok (.invokestatic 109, 3) := by decide +kernel
theorem dX11_feed_4 : decode cX11_feed 4 = .ok (.iload_n 2, 1) := by decide +kernel
theorem dX11_feed_5 : decode cX11_feed 5 = .ok (.invokestatic 109, 3) := by decide +kernel
theorem dX11_feed_8 : decode cX11_feed 8 = .ok (.iadd, 1) := by decide +kernel
theorem dX11_feed_9 : decode cX11_feed 9 = .ok (.iload_n 3, 1) := by decide +kernel
theorem dX11_feed_10 : decode cX11_feed 10 = .ok (.invokestatic 109, 3) := by decide +kernel
theorem dX11_feed_13 : decode cX11_feed 13 = .ok (.iadd, 1) := by decide +kernel
theorem dX11_feed_14 : decode cX11_feed 14 = .ok (.iload 4, 2) := by decide +kernel
theorem dX11_feed_16 : decode cX11_feed 16 = .ok (.invokestatic 109, 3) := by decide +kernel
theorem dX11_feed_19 : decode cX11_feed 19 = .ok (.iadd, 1) := by decide +kernel
theorem dX11_feed_20 : decode cX11_feed 20 = .ok (.iload 5, 2) := by decide +kernel
theorem dX11_feed_22 : decode cX11_feed 22 = .ok (.invokestatic 109, 3) := by decide +kernel
theorem dX11_feed_25 : decode cX11_feed 25 = .ok (.iadd, 1) := by decide +kernel
theorem dX11_feed_26 : decode cX11_feed 26 = .ok (.istore 6, 2) := by decide +kernel
theorem dX11_feed_28 : decode cX11_feed 28 = .ok (.aload_n 0, 1) := by decide +kernel
theorem dX11_feed_29 : decode cX11_feed 29 = .ok (.getfield 10, 3) := by decide +kernel
theorem dX11_feed_32 : decode cX11_feed 32 = .ok (.getfield 113, 3) := by decide +kernel
theorem dX11_feed_35 : decode cX11_feed 35 = .ok (.iload 6, 2) := by decide +kernel
theorem dX11_feed_37 : decode cX11_feed 37 = .ok (.iadd, 1) := by decide +kernel
theorem dX11_feed_38 : decode cX11_feed 38 = .ok (.sipush 240, 3) := by decide +kernel
theorem dX11_feed_41 : decode cX11_feed 41 = .ok (.if_icmp .le 5, 3) := by decide +kernel
theorem dX11_feed_44 : decode cX11_feed 44 = .ok (.iconst (-1), 1) := by decide +kernel
theorem dX11_feed_45 : decode cX11_feed 45 = .ok (.ireturn, 1) := by decide +kernel
theorem dX11_feed_46 : decode cX11_feed 46 = .ok (.aload_n 0, 1) := by decide +kernel
theorem dX11_feed_47 : decode cX11_feed 47 = .ok (.getfield 10, 3) := by decide +kernel
theorem dX11_feed_50 : decode cX11_feed 50 = .ok (.iload_n 1, 1) := by decide +kernel
theorem dX11_feed_51 : decode cX11_feed 51 = .ok (.invokevirtual 117, 3) := by decide +kernel
theorem dX11_feed_54 : decode cX11_feed 54 = .ok (.aload_n 0, 1) := by decide +kernel
theorem dX11_feed_55 : decode cX11_feed 55 = .ok (.getfield 10, 3) := by decide +kernel
theorem dX11_feed_58 : decode cX11_feed 58 = .ok (.iload_n 2, 1) := by decide +kernel
theorem dX11_feed_59 : decode cX11_feed 59 = .ok (.invokevirtual 117, 3) := by decide +kernel
theorem dX11_feed_62 : decode cX11_feed 62 = .ok (.aload_n 0, 1) := by decide +kernel
theorem dX11_feed_63 : decode cX11_feed 63 = .ok (.getfield 10, 3) := by decide +kernel
theorem dX11_feed_66 : decode cX11_feed 66 = .ok (.iload_n 3, 1) := by decide +kernel
theorem dX11_feed_67 : decode cX11_feed 67 = .ok (.invokevirtual 117, 3) := by decide +kernel
theorem dX11_feed_70 : decode cX11_feed 70 = .ok (.aload_n 0, 1) := by decide +kernel
theorem dX11_feed_71 : decode cX11_feed 71 = .ok (.getfield 10, 3) := by decide +kernel
theorem dX11_feed_74 : decode cX11_feed 74 = .ok (.iload 4, 2) := by decide +kernel
theorem dX11_feed_76 : decode cX11_feed 76 = .ok (.invokevirtual 117, 3) := by decide +kernel
theorem dX11_feed_79 : decode cX11_feed 79 = .ok (.aload_n 0, 1) := by decide +kernel
theorem dX11_feed_80 : decode cX11_feed 80 = .ok (.getfield 10, 3) := by decide +kernel
theorem dX11_feed_83 : decode cX11_feed 83 = .ok (.iload 5, 2) := by decide +kernel
theorem dX11_feed_85 : decode cX11_feed 85 = .ok (.invokevirtual 117, 3) := by decide +kernel
theorem dX11_feed_88 : decode cX11_feed 88 = .ok (.aload_n 0, 1) := by decide +kernel
theorem dX11_feed_89 : decode cX11_feed 89 = .ok (.getfield 10, 3) := by decide +kernel
theorem dX11_feed_92 : decode cX11_feed 92 = .ok (.getfield 113, 3) := by decide +kernel
theorem dX11_feed_95 : decode cX11_feed 95 = .ok (.ireturn, 1) := by decide +kernel
theorem dX11_end_0 : decode cX11_end 0 = .ok (.iload_n 1, 1) := by decide +kernel
theorem dX11_end_1 : decode cX11_end 1 = .ok (.ifCond .lt 14, 3) := by decide +kernel
theorem dX11_end_4 : decode cX11_end 4 = .ok (.iload_n 1, 1) := by decide +kernel
theorem dX11_end_5 : decode cX11_end 5 = .ok (.aload_n 0, 1) := by decide +kernel
theorem dX11_end_6 : decode cX11_end 6 = .ok (.getfield 10, 3) := by decide +kernel
theorem dX11_end_9 : decode cX11_end 9 = .ok (.getfield 113, 3) := by decide +kernel
theorem dX11_end_12 : decode cX11_end 12 = .ok (.if_icmp .le 5, 3) := by decide +kernel
theorem dX11_end_15 : decode cX11_end 15 = .ok (.iconst 0, 1) := by decide +kernel
theorem dX11_end_16 : decode cX11_end 16 = .ok (.ireturn, 1) := by decide +kernel
theorem dX11_end_17 : decode cX11_end 17 = .ok (.aload_n 0, 1) := by decide +kernel
theorem dX11_end_18 : decode cX11_end 18 = .ok (.getfield 10, 3) := by decide +kernel
theorem dX11_end_21 : decode cX11_end 21 = .ok (.iload_n 1, 1) := by decide +kernel
theorem dX11_end_22 : decode cX11_end 22 = .ok (.putfield 113, 3) := by decide +kernel
theorem dX11_end_25 : decode cX11_end 25 = .ok (.iconst 1, 1) := by decide +kernel
theorem dX11_end_26 : decode cX11_end 26 = .ok (.ireturn, 1) := by decide +kernel
theorem dX11_fault_0 : decode cX11_fault 0 = .ok (.aload_n 0, 1) := by decide +kernel
theorem dX11_fault_1 : decode cX11_fault 1 = .ok (.getfield 10, 3) := by decide +kernel
theorem dX11_fault_4 : decode cX11_fault 4 = .ok (.aload_n 0, 1) := by decide +kernel
theorem dX11_fault_5 : decode cX11_fault 5 = .ok (.getfield 23, 3) := by decide +kernel
theorem dX11_fault_8 : decode cX11_fault 8 = .ok (.invokevirtual 121, 3) := by decide +kernel
theorem dX11_fault_11 : decode cX11_fault 11 = .ok (.ifCond .eq 7, 3) := by decide +kernel
theorem dX11_fault_14 : decode cX11_fault 14 = .ok (.iconst (-1), 1) := by decide +kernel
theorem dX11_fault_15 : decode cX11_fault 15 = .ok (.goto 10, 3) := by decide +kernel
theorem dX11_fault_18 : decode cX11_fault 18 = .ok (.aload_n 0, 1) := by decide +kernel
theorem dX11_fault_19 : decode cX11_fault 19 = .ok (.getfield 10, 3) := by decide +kernel
theorem dX11_fault_22 : decode cX11_fault 22 = .ok (.getfield 125, 3) := by decide +kernel
theorem dX11_fault_25 : decode cX11_fault 25 = .ok (.ireturn, 1) := by decide +kernel
theorem dX11_code_0 : decode cX11_code 0 = .ok (.aload_n 0, 1) := by decide +kernel
theorem dX11_code_1 : decode cX11_code 1 = .ok (.getfield 10, 3) := by decide +kernel
theorem dX11_code_4 : decode cX11_code 4 = .ok (.aload_n 0, 1) := by decide +kernel
theorem dX11_code_5 : decode cX11_code 5 = .ok (.getfield 23, 3) := by decide +kernel
theorem dX11_code_8 : decode cX11_code 8 = .ok (.invokevirtual 121, 3) := by decide +kernel
theorem dX11_code_11 : decode cX11_code 11 = .ok (.ifCond .ne 5, 3) := by decide +kernel
theorem dX11_code_14 : decode cX11_code 14 = .ok (.iconst (-1), 1) := by decide +kernel
theorem dX11_code_15 : decode cX11_code 15 = .ok (.ireturn, 1) := by decide +kernel
theorem dX11_code_16 : decode cX11_code 16 = .ok (.aload_n 0, 1) := by decide +kernel
theorem dX11_code_17 : decode cX11_code 17 = .ok (.getfield 23, 3) := by decide +kernel
theorem dX11_code_20 : decode cX11_code 20 = .ok (.invokevirtual 128, 3) := by decide +kernel
theorem dX11_code_23 : decode cX11_code 23 = .ok (.istore_n 1, 1) := by decide +kernel
theorem dX11_code_24 : decode cX11_code 24 = .ok (.iload_n 1, 1) := by decide +kernel
theorem dX11_code_25 : decode cX11_code 25 = .ok (.ifCond .eq 5, 3) := by decide +kernel
theorem dX11_code_28 : decode cX11_code 28 = .ok (.iload_n 1, 1) := by decide +kernel
theorem dX11_code_29 : decode cX11_code 29 = .ok (.ireturn, 1) := by decide +kernel
theorem dX11_code_30 : decode cX11_code 30 = .ok (.aload_n 0, 1) := by decide +kernel
theorem dX11_code_31 : decode cX11_code 31 = .ok (.getfield 10, 3) := by decide +kernel
theorem dX11_code_34 : decode cX11_code 34 = .ok (.iconst 0, 1) := by decide +kernel
theorem dX11_code_35 : decode cX11_code 35 = .ok (.putfield 113, 3) := by decide +kernel
theorem dX11_code_38 : decode cX11_code 38 = .ok (.aload_n 0, 1) := by decide +kernel
theorem dX11_code_39 : decode cX11_code 39 = .ok (.invokevirtual 132, 3) := by decide +kernel
theorem dX11_code_42 : decode cX11_code 42 = .ok (.aload_n 0, 1) := by decide +kernel
theorem dX11_code_43 : decode cX11_code 43 = .ok (.getfield 31, 3) := by decide +kernel
theorem dX11_code_46 : decode cX11_code 46 = .ok (.getfield 135, 3) := by decide +kernel
theorem dX11_code_49 : decode cX11_code 49 = .ok (.ireturn, 1) := by decide +kernel
theorem dX11_put_0 : decode cX11_put 0 = .ok (.aload_n 0, 1) := by decide +kernel
theorem dX11_put_1 : decode cX11_put 1 = .ok (.getfield 105, 3) := by decide +kernel
theorem dX11_put_4 : decode cX11_put 4 = .ok (.ifCond .eq 26, 3) := by decide +kernel
theorem dX11_put_7 : decode cX11_put 7 = .ok (.iload_n 1, 1) := by decide +kernel
theorem dX11_put_8 : decode cX11_put 8 = .ok (.ifCond .lt 22, 3) := by decide +kernel
theorem dX11_put_11 : decode cX11_put 11 = .ok (.iload_n 1, 1) := by decide +kernel
theorem dX11_put_12 : decode cX11_put 12 = .ok (.aload_n 0, 1) := by decide +kernel
theorem dX11_put_13 : decode cX11_put 13 = .ok (.getfield 19, 3) := by decide +kernel
theorem dX11_put_16 : decode cX11_put 16 = .ok (.getfield 138, 3) := by decide +kernel
theorem dX11_put_19 : decode cX11_put 19 = .ok (.if_icmp .ge 11, 3) := by decide +kernel
theorem dX11_put_22 : decode cX11_put 22 = .ok (.iload_n 2, 1) := by decide +kernel
theorem dX11_put_23 : decode cX11_put 23 = .ok (.iload_n 3, 1) := by decide +kernel
theorem dX11_put_24 : decode cX11_put 24 = .ok (.invokestatic 139, 3) := by decide +kernel
theorem dX11_put_27 : decode cX11_put 27 = .ok (.ifCond .ne 5, 3) := by decide +kernel
theorem dX11_put_30 : decode cX11_put 30 = .ok (.iconst (-1), 1) := by decide +kernel
theorem dX11_put_31 : decode cX11_put 31 = .ok (.ireturn, 1) := by decide +kernel
theorem dX11_put_32 : decode cX11_put 32 = .ok (.aload_n 0, 1) := by decide +kernel
theorem dX11_put_33 : decode cX11_put 33 = .ok (.getfield 23, 3) := by decide +kernel
theorem dX11_put_36 : decode cX11_put 36 = .ok (.aload_n 0, 1) := by decide +kernel
theorem dX11_put_37 : decode cX11_put 37 = .ok (.getfield 19, 3) := by decide +kernel
theorem dX11_put_40 : decode cX11_put 40 = .ok (.invokevirtual 143, 3) := by decide +kernel
theorem dX11_put_43 : decode cX11_put 43 = .ok (.aload_n 0, 1) := by decide +kernel
theorem dX11_put_44 : decode cX11_put 44 = .ok (.getfield 23, 3) := by decide +kernel
theorem dX11_put_47 : decode cX11_put 47 = .ok (.getfield 146, 3) := by decide +kernel
theorem dX11_put_50 : decode cX11_put 50 = .ok (.iload_n 1, 1) := by decide +kernel
theorem dX11_put_51 : decode cX11_put 51 = .ok (.iload_n 2, 1) := by decide +kernel
theorem dX11_put_52 : decode cX11_put 52 = .ok (.iastore, 1) := by decide +kernel
theorem dX11_put_53 : decode cX11_put 53 = .ok (.aload_n 0, 1) := by decide +kernel
theorem dX11_put_54 : decode cX11_put 54 = .ok (.getfield 23, 3) := by decide +kernel
theorem dX11_put_57 : decode cX11_put 57 = .ok (.getfield 150, 3) := by decide +kernel
theorem dX11_put_60 : decode cX11_put 60 = .ok (.iload_n 1, 1) := by decide +kernel
theorem dX11_put_61 : decode cX11_put 61 = .ok (.iload_n 3, 1) := by decide +kernel
theorem dX11_put_62 : decode cX11_put 62 = .ok (.iastore, 1) := by decide +kernel
theorem dX11_put_63 : decode cX11_put 63 = .ok (.aload_n 0, 1) := by decide +kernel
theorem dX11_put_64 : decode cX11_put 64 = .ok (.getfield 23, 3) := by decide +kernel
theorem dX11_put_67 : decode cX11_put 67 = .ok (.invokevirtual 128, 3) := by decide +kernel
theorem dX11_put_70 : decode cX11_put 70 = .ok (.istore 4, 2) := by decide +kernel
theorem dX11_put_72 : decode cX11_put 72 = .ok (.iload 4, 2) := by decide +kernel
theorem dX11_put_74 : decode cX11_put 74 = .ok (.ifCond .eq 6, 3) := by decide +kernel
theorem dX11_put_77 : decode cX11_put 77 = .ok (.iload 4, 2) := by decide +kernel
theorem dX11_put_79 : decode cX11_put 79 = .ok (.ireturn, 1) := by decide +kernel
theorem dX11_put_80 : decode cX11_put 80 = .ok (.aload_n 0, 1) := by decide +kernel
theorem dX11_put_81 : decode cX11_put 81 = .ok (.invokevirtual 132, 3) := by decide +kernel
theorem dX11_put_84 : decode cX11_put 84 = .ok (.aload_n 0, 1) := by decide +kernel
theorem dX11_put_85 : decode cX11_put 85 = .ok (.getfield 31, 3) := by decide +kernel
theorem dX11_put_88 : decode cX11_put 88 = .ok (.getfield 135, 3) := by decide +kernel
theorem dX11_put_91 : decode cX11_put 91 = .ok (.ireturn, 1) := by decide +kernel
theorem dX11_count_0 : decode cX11_count 0 = .ok (.iload_n 1, 1) := by decide +kernel
theorem dX11_count_1 : decode cX11_count 1 = .ok (.bipush 12, 2) := by decide +kernel
theorem dX11_count_3 : decode cX11_count 3 = .ok (.if_icmp .ne 11, 3) := by decide +kernel
theorem dX11_count_6 : decode cX11_count 6 = .ok (.aload_n 0, 1) := by decide +kernel
theorem dX11_count_7 : decode cX11_count 7 = .ok (.getfield 10, 3) := by decide +kernel
theorem dX11_count_10 : decode cX11_count 10 = .ok (.getfield 113, 3) := by decide +kernel
theorem dX11_count_13 : decode cX11_count 13 = .ok (.ireturn, 1) := by decide +kernel
theorem dX11_count_14 : decode cX11_count 14 = .ok (.aload_n 0, 1) := by decide +kernel
theorem dX11_count_15 : decode cX11_count 15 = .ok (.getfield 105, 3) := by decide +kernel
theorem dX11_count_18 : decode cX11_count 18 = .ok (.ifCond .ne 6, 3) := by decide +kernel
theorem dX11_count_21 : decode cX11_count 21 = .ok (.ldc 153, 2) := by decide +kernel
theorem dX11_count_23 : decode cX11_count 23 = .ok (.ireturn, 1) := by decide +kernel
theorem dX11_count_24 : decode cX11_count 24 = .ok (.iload_n 1, 1) := by decide +kernel
theorem dX11_count_25 : decode cX11_count 25 = .ok (.tableswitch 232 0 14 #[75, 83, 91, 99, 107, 118, 129, 151, 167, 189, 197, 205, 232, 213, 221], 75) := by decide +kernel
theorem dX11_count_100 : decode cX11_count 100 = .ok (.aload_n 0, 1) := by decide +kernel
theorem dX11_count_101 : decode cX11_count 101 = .ok (.getfield 19, 3) := by decide +kernel
theorem dX11_count_104 : decode cX11_count 104 = .ok (.getfield 138, 3) := by decide +kernel
theorem dX11_count_107 : decode cX11_count 107 = .ok (.ireturn, 1) := by decide +kernel
theorem dX11_count_108 : decode cX11_count 108 = .ok (.aload_n 0, 1) := by decide +kernel
theorem dX11_count_109 : decode cX11_count 109 = .ok (.getfield 31, 3) := by decide +kernel
theorem dX11_count_112 : decode cX11_count 112 = .ok (.getfield 135, 3) := by decide +kernel
theorem dX11_count_115 : decode cX11_count 115 = .ok (.ireturn, 1) := by decide +kernel
theorem dX11_count_116 : decode cX11_count 116 = .ok (.aload_n 0, 1) := by decide +kernel
theorem dX11_count_117 : decode cX11_count 117 = .ok (.getfield 31, 3) := by decide +kernel
theorem dX11_count_120 : decode cX11_count 120 = .ok (.getfield 154, 3) := by decide +kernel
theorem dX11_count_123 : decode cX11_count 123 = .ok (.ireturn, 1) := by decide +kernel
theorem dX11_count_124 : decode cX11_count 124 = .ok (.aload_n 0, 1) := by decide +kernel
theorem dX11_count_125 : decode cX11_count 125 = .ok (.getfield 19, 3) := by decide +kernel
theorem dX11_count_128 : decode cX11_count 128 = .ok (.getfield 157, 3) := by decide +kernel
theorem dX11_count_131 : decode cX11_count 131 = .ok (.ireturn, 1) := by decide +kernel
theorem dX11_count_132 : decode cX11_count 132 = .ok (.aload_n 0, 1) := by decide +kernel
theorem dX11_count_133 : decode cX11_count 133 = .ok (.getfield 40, 3) := by decide +kernel
theorem dX11_count_136 : decode cX11_count 136 = .ok (.getfield 160, 3) := by decide +kernel
theorem dX11_count_139 : decode cX11_count 139 = .ok (.invokestatic 164, 3) := by decide +kernel
theorem dX11_count_142 : decode cX11_count 142 = .ok (.ireturn, 1) := by decide +kernel
theorem dX11_count_143 : decode cX11_count 143 = .ok (.aload_n 0, 1) := by decide +kernel
theorem dX11_count_144 : decode cX11_count 144 = .ok (.getfield 40, 3) := by decide +kernel
theorem dX11_count_147 : decode cX11_count 147 = .ok (.getfield 170, 3) := by decide +kernel
theorem dX11_count_150 : decode cX11_count 150 = .ok (.invokestatic 164, 3) := by decide +kernel
theorem dX11_count_153 : decode cX11_count 153 = .ok (.ireturn, 1) := by decide +kernel
theorem dX11_count_154 : decode cX11_count 154 = .ok (.aload_n 0, 1) := by decide +kernel
theorem dX11_count_155 : decode cX11_count 155 = .ok (.getfield 40, 3) := by decide +kernel
theorem dX11_count_158 : decode cX11_count 158 = .ok (.getfield 173, 3) := by decide +kernel
theorem dX11_count_161 : decode cX11_count 161 = .ok (.ifCond .eq 7, 3) := by decide +kernel
theorem dX11_count_164 : decode cX11_count 164 = .ok (.iconst (-1), 1) := by decide +kernel
theorem dX11_count_165 : decode cX11_count 165 = .ok (.goto 10, 3) := by decide +kernel
theorem dX11_count_168 : decode cX11_count 168 = .ok (.aload_n 0, 1) := by decide +kernel
theorem dX11_count_169 : decode cX11_count 169 = .ok (.getfield 40, 3) := by decide +kernel
theorem dX11_count_172 : decode cX11_count 172 = .ok (.getfield 176, 3) := by decide +kernel
theorem dX11_count_175 : decode cX11_count 175 = .ok (.ireturn, 1) := by decide +kernel
theorem dX11_count_176 : decode cX11_count 176 = .ok (.aload_n 0, 1) := by decide +kernel
theorem dX11_count_177 : decode cX11_count 177 = .ok (.getfield 40, 3) := by decide +kernel
theorem dX11_count_180 : decode cX11_count 180 = .ok (.getfield 179, 3) := by decide +kernel
theorem dX11_count_183 : decode cX11_count 183 = .ok (.ifCond .eq 7, 3) := by decide +kernel
theorem dX11_count_186 : decode cX11_count 186 = .ok (.iconst 1, 1) := by decide +kernel
theorem dX11_count_187 : decode cX11_count 187 = .ok (.goto 4, 3) := by decide +kernel
theorem dX11_count_190 : decode cX11_count 190 = .ok (.iconst 0, 1) := by decide +kernel
theorem dX11_count_191 : decode cX11_count 191 = .ok (.ireturn, 1) := by decide +kernel
theorem dX11_count_192 : decode cX11_count 192 = .ok (.aload_n 0, 1) := by decide +kernel
theorem dX11_count_193 : decode cX11_count 193 = .ok (.getfield 40, 3) := by decide +kernel
theorem dX11_count_196 : decode cX11_count 196 = .ok (.getfield 173, 3) := by decide +kernel
theorem dX11_count_199 : decode cX11_count 199 = .ok (.ifCond .eq 7, 3) := by decide +kernel
theorem dX11_count_202 : decode cX11_count 202 = .ok (.iconst (-1), 1) := by decide +kernel
theorem dX11_count_203 : decode cX11_count 203 = .ok (.goto 10, 3) := by decide +kernel
theorem dX11_count_206 : decode cX11_count 206 = .ok (.aload_n 0, 1) := by decide +kernel
theorem dX11_count_207 : decode cX11_count 207 = .ok (.getfield 83, 3) := by decide +kernel
theorem dX11_count_210 : decode cX11_count 210 = .ok (.getfield 182, 3) := by decide +kernel
theorem dX11_count_213 : decode cX11_count 213 = .ok (.ireturn, 1) := by decide +kernel
theorem dX11_count_214 : decode cX11_count 214 = .ok (.aload_n 0, 1) := by decide +kernel
theorem dX11_count_215 : decode cX11_count 215 = .ok (.getfield 56, 3) := by decide +kernel
theorem dX11_count_218 : decode cX11_count 218 = .ok (.getfield 183, 3) := by decide +kernel
theorem dX11_count_221 : decode cX11_count 221 = .ok (.ireturn, 1) := by decide +kernel
theorem dX11_count_222 : decode cX11_count 222 = .ok (.aload_n 0, 1) := by decide +kernel
theorem dX11_count_223 : decode cX11_count 223 = .ok (.getfield 56, 3) := by decide +kernel
theorem dX11_count_226 : decode cX11_count 226 = .ok (.getfield 184, 3) := by decide +kernel
theorem dX11_count_229 : decode cX11_count 229 = .ok (.ireturn, 1) := by decide +kernel
theorem dX11_count_230 : decode cX11_count 230 = .ok (.aload_n 0, 1) := by decide +kernel
theorem dX11_count_231 : decode cX11_count 231 = .ok (.getfield 31, 3) := by decide +kernel
theorem dX11_count_234 : decode cX11_count 234 = .ok (.getfield 187, 3) := by decide +kernel
theorem dX11_count_237 : decode cX11_count 237 = .ok (.ireturn, 1) := by decide +kernel
theorem dX11_count_238 : decode cX11_count 238 = .ok (.aload_n 0, 1) := by decide +kernel
theorem dX11_count_239 : decode cX11_count 239 = .ok (.getfield 56, 3) := by decide +kernel
theorem dX11_count_242 : decode cX11_count 242 = .ok (.getfield 190, 3) := by decide +kernel
theorem dX11_count_245 : decode cX11_count 245 = .ok (.ireturn, 1) := by decide +kernel
theorem dX11_count_246 : decode cX11_count 246 = .ok (.aload_n 0, 1) := by decide +kernel
theorem dX11_count_247 : decode cX11_count 247 = .ok (.getfield 74, 3) := by decide +kernel
theorem dX11_count_250 : decode cX11_count 250 = .ok (.getfield 193, 3) := by decide +kernel
theorem dX11_count_253 : decode cX11_count 253 = .ok (.invokestatic 164, 3) := by decide +kernel
theorem dX11_count_256 : decode cX11_count 256 = .ok (.ireturn, 1) := by decide +kernel
theorem dX11_count_257 : decode cX11_count 257 = .ok (.ldc 153, 2) := by decide +kernel
theorem dX11_count_259 : decode cX11_count 259 = .ok (.ireturn, 1) := by decide +kernel
theorem dX11_instruction_0 : decode cX11_instruction 0 = .ok (.aload_n 0, 1) := by decide +kernel
theorem dX11_instruction_1 : decode cX11_instruction 1 = .ok (.getfield 105, 3) := by decide +kernel
theorem dX11_instruction_4 : decode cX11_instruction 4 = .ok (.ifCond .eq 27, 3) := by decide +kernel
theorem dX11_instruction_7 : decode cX11_instruction 7 = .ok (.iload_n 1, 1) := by decide +kernel
theorem dX11_instruction_8 : decode cX11_instruction 8 = .ok (.ifCond .lt 23, 3) := by decide +kernel
theorem dX11_instruction_11 : decode cX11_instruction 11 = .ok (.iload_n 1, 1) := by decide +kernel
theorem dX11_instruction_12 : decode cX11_instruction 12 = .ok (.aload_n 0, 1) := by decide +kernel
theorem dX11_instruction_13 : decode cX11_instruction 13 = .ok (.getfield 19, 3) := by decide +kernel
theorem dX11_instruction_16 : decode cX11_instruction 16 = .ok (.getfield 138, 3) := by decide +kernel
theorem dX11_instruction_19 : decode cX11_instruction 19 = .ok (.if_icmp .ge 12, 3) := by decide +kernel
theorem dX11_instruction_22 : decode cX11_instruction 22 = .ok (.iload_n 2, 1) := by decide +kernel
theorem dX11_instruction_23 : decode cX11_instruction 23 = .ok (.ifCond .lt 8, 3) := by decide +kernel
theorem dX11_instruction_26 : decode cX11_instruction 26 = .ok (.iload_n 2, 1) := by decide +kernel
theorem dX11_instruction_27 : decode cX11_instruction 27 = .ok (.iconst 5, 1) := by decide +kernel
theorem dX11_instruction_28 : decode cX11_instruction 28 = .ok (.if_icmp .le 13, 3) := by decide +kernel
theorem dX11_instruction_31 : decode cX11_instruction 31 = .ok (.new 196, 3) := by decide +kernel
theorem dX11_instruction_34 : decode cX11_instruction 34 = .ok (.dup, 1) := by decide +kernel
theorem dX11_instruction_35 : decode cX11_instruction 35 = .ok (.ldc 198, 2) := by decide +kernel
theorem dX11_instruction_37 : decode cX11_instruction 37 = .ok (.invokespecial 200, 3) := by decide +kernel
theorem dX11_instruction_40 : decode cX11_instruction 40 = .ok (.athrow, 1) := by decide +kernel
theorem dX11_instruction_41 : decode cX11_instruction 41 = .ok (.iload_n 2, 1) := by decide +kernel
theorem dX11_instruction_42 : decode cX11_instruction 42 = .ok (.tableswitch 83 0 4 #[34, 44, 54, 64, 74], 34) := by decide +kernel
theorem dX11_instruction_76 : decode cX11_instruction 76 = .ok (.aload_n 0, 1) := by decide +kernel
theorem dX11_instruction_77 : decode cX11_instruction 77 = .ok (.getfield 19, 3) := by decide +kernel
theorem dX11_instruction_80 : decode cX11_instruction 80 = .ok (.getfield 146, 3) := by decide +kernel
theorem dX11_instruction_83 : decode cX11_instruction 83 = .ok (.iload_n 1, 1) := by decide +kernel
theorem dX11_instruction_84 : decode cX11_instruction 84 = .ok (.iaload, 1) := by decide +kernel
theorem dX11_instruction_85 : decode cX11_instruction 85 = .ok (.ireturn, 1) := by decide +kernel
theorem dX11_instruction_86 : decode cX11_instruction 86 = .ok (.aload_n 0, 1) := by decide +kernel
theorem dX11_instruction_87 : decode cX11_instruction 87 = .ok (.getfield 19, 3) := by decide +kernel
theorem dX11_instruction_90 : decode cX11_instruction 90 = .ok (.getfield 150, 3) := by decide +kernel
theorem dX11_instruction_93 : decode cX11_instruction 93 = .ok (.iload_n 1, 1) := by decide +kernel
theorem dX11_instruction_94 : decode cX11_instruction 94 = .ok (.iaload, 1) := by decide +kernel
theorem dX11_instruction_95 : decode cX11_instruction 95 = .ok (.ireturn, 1) := by decide +kernel
theorem dX11_instruction_96 : decode cX11_instruction 96 = .ok (.aload_n 0, 1) := by decide +kernel
theorem dX11_instruction_97 : decode cX11_instruction 97 = .ok (.getfield 19, 3) := by decide +kernel
theorem dX11_instruction_100 : decode cX11_instruction 100 = .ok (.getfield 203, 3) := by decide +kernel
theorem dX11_instruction_103 : decode cX11_instruction 103 = .ok (.iload_n 1, 1) := by decide +kernel
theorem dX11_instruction_104 : decode cX11_instruction 104 = .ok (.iaload, 1) := by decide +kernel
theorem dX11_instruction_105 : decode cX11_instruction 105 = .ok (.ireturn, 1) := by decide +kernel
theorem dX11_instruction_106 : decode cX11_instruction 106 = .ok (.aload_n 0, 1) := by decide +kernel
theorem dX11_instruction_107 : decode cX11_instruction 107 = .ok (.getfield 31, 3) := by decide +kernel
theorem dX11_instruction_110 : decode cX11_instruction 110 = .ok (.getfield 206, 3) := by decide +kernel
theorem dX11_instruction_113 : decode cX11_instruction 113 = .ok (.iload_n 1, 1) := by decide +kernel
theorem dX11_instruction_114 : decode cX11_instruction 114 = .ok (.iaload, 1) := by decide +kernel
theorem dX11_instruction_115 : decode cX11_instruction 115 = .ok (.ireturn, 1) := by decide +kernel
theorem dX11_instruction_116 : decode cX11_instruction 116 = .ok (.aload_n 0, 1) := by decide +kernel
theorem dX11_instruction_117 : decode cX11_instruction 117 = .ok (.getfield 19, 3) := by decide +kernel
theorem dX11_instruction_120 : decode cX11_instruction 120 = .ok (.iload_n 1, 1) := by decide +kernel
theorem dX11_instruction_121 : decode cX11_instruction 121 = .ok (.invokevirtual 209, 3) := by decide +kernel
theorem dX11_instruction_124 : decode cX11_instruction 124 = .ok (.ireturn, 1) := by decide +kernel
theorem dX11_instruction_125 : decode cX11_instruction 125 = .ok (.aload_n 0, 1) := by decide +kernel
theorem dX11_instruction_126 : decode cX11_instruction 126 = .ok (.getfield 74, 3) := by decide +kernel
theorem dX11_instruction_129 : decode cX11_instruction 129 = .ok (.getfield 193, 3) := by decide +kernel
theorem dX11_instruction_132 : decode cX11_instruction 132 = .ok (.iload_n 1, 1) := by decide +kernel
theorem dX11_instruction_133 : decode cX11_instruction 133 = .ok (.invokestatic 212, 3) := by decide +kernel
theorem dX11_instruction_136 : decode cX11_instruction 136 = .ok (.ifCond .eq 7, 3) := by decide +kernel
theorem dX11_instruction_139 : decode cX11_instruction 139 = .ok (.iconst 1, 1) := by decide +kernel
theorem dX11_instruction_140 : decode cX11_instruction 140 = .ok (.goto 4, 3) := by decide +kernel
theorem dX11_instruction_143 : decode cX11_instruction 143 = .ok (.iconst 0, 1) := by decide +kernel
theorem dX11_instruction_144 : decode cX11_instruction 144 = .ok (.ireturn, 1) := by decide +kernel
theorem dX11_block_0 : decode cX11_block 0 = .ok (.aload_n 0, 1) := by decide +kernel
theorem dX11_block_1 : decode cX11_block 1 = .ok (.iload_n 1, 1) := by decide +kernel
theorem dX11_block_2 : decode cX11_block 2 = .ok (.invokevirtual 216, 3) := by decide +kernel
theorem dX11_block_5 : decode cX11_block 5 = .ok (.ifCond .eq 13, 3) := by decide +kernel
theorem dX11_block_8 : decode cX11_block 8 = .ok (.iload_n 2, 1) := by decide +kernel
theorem dX11_block_9 : decode cX11_block 9 = .ok (.ifCond .lt 9, 3) := by decide +kernel
theorem dX11_block_12 : decode cX11_block 12 = .ok (.iload_n 2, 1) := by decide +kernel
theorem dX11_block_13 : decode cX11_block 13 = .ok (.bipush 12, 2) := by decide +kernel
theorem dX11_block_15 : decode cX11_block 15 = .ok (.if_icmp .le 13, 3) := by decide +kernel
theorem dX11_block_18 : decode cX11_block 18 = .ok (.new 196, 3) := by decide +kernel
theorem dX11_block_21 : decode cX11_block 21 = .ok (.dup, 1) := by decide +kernel
theorem dX11_block_22 : decode cX11_block 22 = .ok (.ldc 220, 2) := by decide +kernel
theorem dX11_block_24 : decode cX11_block 24 = .ok (.invokespecial 200, 3) := by decide +kernel
theorem dX11_block_27 : decode cX11_block 27 = .ok (.athrow, 1) := by decide +kernel
theorem dX11_block_28 : decode cX11_block 28 = .ok (.iload_n 2, 1) := by decide +kernel
theorem dX11_block_29 : decode cX11_block 29 = .ok (.tableswitch 221 0 11 #[63, 73, 83, 101, 111, 121, 130, 139, 159, 179, 201, 211], 63) := by decide +kernel
theorem dX11_block_92 : decode cX11_block 92 = .ok (.aload_n 0, 1) := by decide +kernel
theorem dX11_block_93 : decode cX11_block 93 = .ok (.getfield 31, 3) := by decide +kernel
theorem dX11_block_96 : decode cX11_block 96 = .ok (.getfield 222, 3) := by decide +kernel
theorem dX11_block_99 : decode cX11_block 99 = .ok (.iload_n 1, 1) := by decide +kernel
theorem dX11_block_100 : decode cX11_block 100 = .ok (.iaload, 1) := by decide +kernel
theorem dX11_block_101 : decode cX11_block 101 = .ok (.ireturn, 1) := by decide +kernel
theorem dX11_block_102 : decode cX11_block 102 = .ok (.aload_n 0, 1) := by decide +kernel
theorem dX11_block_103 : decode cX11_block 103 = .ok (.getfield 31, 3) := by decide +kernel
theorem dX11_block_106 : decode cX11_block 106 = .ok (.getfield 225, 3) := by decide +kernel
theorem dX11_block_109 : decode cX11_block 109 = .ok (.iload_n 1, 1) := by decide +kernel
theorem dX11_block_110 : decode cX11_block 110 = .ok (.iaload, 1) := by decide +kernel
theorem dX11_block_111 : decode cX11_block 111 = .ok (.ireturn, 1) := by decide +kernel
theorem dX11_block_112 : decode cX11_block 112 = .ok (.aload_n 0, 1) := by decide +kernel
theorem dX11_block_113 : decode cX11_block 113 = .ok (.getfield 19, 3) := by decide +kernel
theorem dX11_block_116 : decode cX11_block 116 = .ok (.getfield 203, 3) := by decide +kernel
theorem dX11_block_119 : decode cX11_block 119 = .ok (.aload_n 0, 1) := by decide +kernel
theorem dX11_block_120 : decode cX11_block 120 = .ok (.getfield 31, 3) := by decide +kernel
theorem dX11_block_123 : decode cX11_block 123 = .ok (.getfield 222, 3) := by decide +kernel
theorem dX11_block_126 : decode cX11_block 126 = .ok (.iload_n 1, 1) := by decide +kernel
theorem dX11_block_127 : decode cX11_block 127 = .ok (.iaload, 1) := by decide +kernel
theorem dX11_block_128 : decode cX11_block 128 = .ok (.iaload, 1) := by decide +kernel
theorem dX11_block_129 : decode cX11_block 129 = .ok (.ireturn, 1) := by decide +kernel
theorem dX11_block_130 : decode cX11_block 130 = .ok (.aload_n 0, 1) := by decide +kernel
theorem dX11_block_131 : decode cX11_block 131 = .ok (.getfield 40, 3) := by decide +kernel
theorem dX11_block_134 : decode cX11_block 134 = .ok (.getfield 228, 3) := by decide +kernel
theorem dX11_block_137 : decode cX11_block 137 = .ok (.iload_n 1, 1) := by decide +kernel
theorem dX11_block_138 : decode cX11_block 138 = .ok (.iaload, 1) := by decide +kernel
theorem dX11_block_139 : decode cX11_block 139 = .ok (.ireturn, 1) := by decide +kernel
theorem dX11_block_140 : decode cX11_block 140 = .ok (.aload_n 0, 1) := by decide +kernel
theorem dX11_block_141 : decode cX11_block 141 = .ok (.getfield 40, 3) := by decide +kernel
theorem dX11_block_144 : decode cX11_block 144 = .ok (.getfield 231, 3) := by decide +kernel
theorem dX11_block_147 : decode cX11_block 147 = .ok (.iload_n 1, 1) := by decide +kernel
theorem dX11_block_148 : decode cX11_block 148 = .ok (.iaload, 1) := by decide +kernel
theorem dX11_block_149 : decode cX11_block 149 = .ok (.ireturn, 1) := by decide +kernel
theorem dX11_block_150 : decode cX11_block 150 = .ok (.aload_n 0, 1) := by decide +kernel
theorem dX11_block_151 : decode cX11_block 151 = .ok (.getfield 40, 3) := by decide +kernel
theorem dX11_block_154 : decode cX11_block 154 = .ok (.iload_n 1, 1) := by decide +kernel
theorem dX11_block_155 : decode cX11_block 155 = .ok (.invokevirtual 234, 3) := by decide +kernel
theorem dX11_block_158 : decode cX11_block 158 = .ok (.ireturn, 1) := by decide +kernel
theorem dX11_block_159 : decode cX11_block 159 = .ok (.aload_n 0, 1) := by decide +kernel
theorem dX11_block_160 : decode cX11_block 160 = .ok (.getfield 40, 3) := by decide +kernel
theorem dX11_block_163 : decode cX11_block 163 = .ok (.iload_n 1, 1) := by decide +kernel
theorem dX11_block_164 : decode cX11_block 164 = .ok (.invokevirtual 237, 3) := by decide +kernel
theorem dX11_block_167 : decode cX11_block 167 = .ok (.ireturn, 1) := by decide +kernel
theorem dX11_block_168 : decode cX11_block 168 = .ok (.aload_n 0, 1) := by decide +kernel
theorem dX11_block_169 : decode cX11_block 169 = .ok (.getfield 40, 3) := by decide +kernel
theorem dX11_block_172 : decode cX11_block 172 = .ok (.getfield 170, 3) := by decide +kernel
theorem dX11_block_175 : decode cX11_block 175 = .ok (.iload_n 1, 1) := by decide +kernel
theorem dX11_block_176 : decode cX11_block 176 = .ok (.invokestatic 212, 3) := by decide +kernel
theorem dX11_block_179 : decode cX11_block 179 = .ok (.ifCond .eq 7, 3) := by decide +kernel
theorem dX11_block_182 : decode cX11_block 182 = .ok (.iconst 1, 1) := by decide +kernel
theorem dX11_block_183 : decode cX11_block 183 = .ok (.goto 4, 3) := by decide +kernel
theorem dX11_block_186 : decode cX11_block 186 = .ok (.iconst 0, 1) := by decide +kernel
theorem dX11_block_187 : decode cX11_block 187 = .ok (.ireturn, 1) := by decide +kernel
theorem dX11_block_188 : decode cX11_block 188 = .ok (.aload_n 0, 1) := by decide +kernel
theorem dX11_block_189 : decode cX11_block 189 = .ok (.getfield 40, 3) := by decide +kernel
theorem dX11_block_192 : decode cX11_block 192 = .ok (.getfield 160, 3) := by decide +kernel
theorem dX11_block_195 : decode cX11_block 195 = .ok (.iload_n 1, 1) := by decide +kernel
theorem dX11_block_196 : decode cX11_block 196 = .ok (.invokestatic 212, 3) := by decide +kernel
theorem dX11_block_199 : decode cX11_block 199 = .ok (.ifCond .eq 7, 3) := by decide +kernel
theorem dX11_block_202 : decode cX11_block 202 = .ok (.iconst 1, 1) := by decide +kernel
theorem dX11_block_203 : decode cX11_block 203 = .ok (.goto 4, 3) := by decide +kernel
theorem dX11_block_206 : decode cX11_block 206 = .ok (.iconst 0, 1) := by decide +kernel
theorem dX11_block_207 : decode cX11_block 207 = .ok (.ireturn, 1) := by decide +kernel
theorem dX11_block_208 : decode cX11_block 208 = .ok (.aload_n 0, 1) := by decide +kernel
theorem dX11_block_209 : decode cX11_block 209 = .ok (.getfield 56, 3) := by decide +kernel
theorem dX11_block_212 : decode cX11_block 212 = .ok (.getfield 240, 3) := by decide +kernel
theorem dX11_block_215 : decode cX11_block 215 = .ok (.iload_n 1, 1) := by decide +kernel
theorem dX11_block_216 : decode cX11_block 216 = .ok (.iconst 1, 1) := by decide +kernel
theorem dX11_block_217 : decode cX11_block 217 = .ok (.iadd, 1) := by decide +kernel
theorem dX11_block_218 : decode cX11_block 218 = .ok (.iaload, 1) := by decide +kernel
theorem dX11_block_219 : decode cX11_block 219 = .ok (.aload_n 0, 1) := by decide +kernel
theorem dX11_block_220 : decode cX11_block 220 = .ok (.getfield 56, 3) := by decide +kernel
theorem dX11_block_223 : decode cX11_block 223 = .ok (.getfield 240, 3) := by decide +kernel
theorem dX11_block_226 : decode cX11_block 226 = .ok (.iload_n 1, 1) := by decide +kernel
theorem dX11_block_227 : decode cX11_block 227 = .ok (.iaload, 1) := by decide +kernel
theorem dX11_block_228 : decode cX11_block 228 = .ok (.isub, 1) := by decide +kernel
theorem dX11_block_229 : decode cX11_block 229 = .ok (.ireturn, 1) := by decide +kernel
theorem dX11_block_230 : decode cX11_block 230 = .ok (.aload_n 0, 1) := by decide +kernel
theorem dX11_block_231 : decode cX11_block 231 = .ok (.getfield 74, 3) := by decide +kernel
theorem dX11_block_234 : decode cX11_block 234 = .ok (.getfield 241, 3) := by decide +kernel
theorem dX11_block_237 : decode cX11_block 237 = .ok (.iload_n 1, 1) := by decide +kernel
theorem dX11_block_238 : decode cX11_block 238 = .ok (.iaload, 1) := by decide +kernel
theorem dX11_block_239 : decode cX11_block 239 = .ok (.ireturn, 1) := by decide +kernel
theorem dX11_block_240 : decode cX11_block 240 = .ok (.aload_n 0, 1) := by decide +kernel
theorem dX11_block_241 : decode cX11_block 241 = .ok (.getfield 74, 3) := by decide +kernel
theorem dX11_block_244 : decode cX11_block 244 = .ok (.getfield 244, 3) := by decide +kernel
theorem dX11_block_247 : decode cX11_block 247 = .ok (.iload_n 1, 1) := by decide +kernel
theorem dX11_block_248 : decode cX11_block 248 = .ok (.iaload, 1) := by decide +kernel
theorem dX11_block_249 : decode cX11_block 249 = .ok (.ireturn, 1) := by decide +kernel
theorem dX11_block_250 : decode cX11_block 250 = .ok (.aload_n 0, 1) := by decide +kernel
theorem dX11_block_251 : decode cX11_block 251 = .ok (.getfield 31, 3) := by decide +kernel
theorem dX11_block_254 : decode cX11_block 254 = .ok (.getfield 247, 3) := by decide +kernel
theorem dX11_block_257 : decode cX11_block 257 = .ok (.iload_n 1, 1) := by decide +kernel
theorem dX11_block_258 : decode cX11_block 258 = .ok (.iaload, 1) := by decide +kernel
theorem dX11_block_259 : decode cX11_block 259 = .ok (.ireturn, 1) := by decide +kernel
theorem dX11_edge_0 : decode cX11_edge 0 = .ok (.aload_n 0, 1) := by decide +kernel
theorem dX11_edge_1 : decode cX11_edge 1 = .ok (.getfield 105, 3) := by decide +kernel
theorem dX11_edge_4 : decode cX11_edge 4 = .ok (.ifCond .eq 18, 3) := by decide +kernel
theorem dX11_edge_7 : decode cX11_edge 7 = .ok (.iload_n 1, 1) := by decide +kernel
theorem dX11_edge_8 : decode cX11_edge 8 = .ok (.ifCond .lt 14, 3) := by decide +kernel
theorem dX11_edge_11 : decode cX11_edge 11 = .ok (.iload_n 1, 1) := by decide +kernel
theorem dX11_edge_12 : decode cX11_edge 12 = .ok (.aload_n 0, 1) := by decide +kernel
theorem dX11_edge_13 : decode cX11_edge 13 = .ok (.getfield 31, 3) := by decide +kernel
theorem dX11_edge_16 : decode cX11_edge 16 = .ok (.getfield 154, 3) := by decide +kernel
theorem dX11_edge_19 : decode cX11_edge 19 = .ok (.if_icmp .lt 6, 3) := by decide +kernel
theorem dX11_edge_22 : decode cX11_edge 22 = .ok (.ldc 153, 2) := by decide +kernel
theorem dX11_edge_24 : decode cX11_edge 24 = .ok (.ireturn, 1) := by decide +kernel
theorem dX11_edge_25 : decode cX11_edge 25 = .ok (.iload_n 2, 1) := by decide +kernel
theorem dX11_edge_26 : decode cX11_edge 26 = .ok (.tableswitch 108 0 4 #[34, 44, 54, 72, 90], 34) := by decide +kernel
theorem dX11_edge_60 : decode cX11_edge 60 = .ok (.aload_n 0, 1) := by decide +kernel
theorem dX11_edge_61 : decode cX11_edge 61 = .ok (.getfield 31, 3) := by decide +kernel
theorem dX11_edge_64 : decode cX11_edge 64 = .ok (.getfield 250, 3) := by decide +kernel
theorem dX11_edge_67 : decode cX11_edge 67 = .ok (.iload_n 1, 1) := by decide +kernel
theorem dX11_edge_68 : decode cX11_edge 68 = .ok (.iaload, 1) := by decide +kernel
theorem dX11_edge_69 : decode cX11_edge 69 = .ok (.ireturn, 1) := by decide +kernel
theorem dX11_edge_70 : decode cX11_edge 70 = .ok (.aload_n 0, 1) := by decide +kernel
theorem dX11_edge_71 : decode cX11_edge 71 = .ok (.getfield 31, 3) := by decide +kernel
theorem dX11_edge_74 : decode cX11_edge 74 = .ok (.getfield 253, 3) := by decide +kernel
theorem dX11_edge_77 : decode cX11_edge 77 = .ok (.iload_n 1, 1) := by decide +kernel
theorem dX11_edge_78 : decode cX11_edge 78 = .ok (.iaload, 1) := by decide +kernel
theorem dX11_edge_79 : decode cX11_edge 79 = .ok (.ireturn, 1) := by decide +kernel
theorem dX11_edge_80 : decode cX11_edge 80 = .ok (.aload_n 0, 1) := by decide +kernel
theorem dX11_edge_81 : decode cX11_edge 81 = .ok (.getfield 40, 3) := by decide +kernel
theorem dX11_edge_84 : decode cX11_edge 84 = .ok (.getfield 256, 3) := by decide +kernel
theorem dX11_edge_87 : decode cX11_edge 87 = .ok (.iload_n 1, 1) := by decide +kernel
theorem dX11_edge_88 : decode cX11_edge 88 = .ok (.baload, 1) := by decide +kernel
theorem dX11_edge_89 : decode cX11_edge 89 = .ok (.ifCond .eq 7, 3) := by decide +kernel
theorem dX11_edge_92 : decode cX11_edge 92 = .ok (.iconst 1, 1) := by decide +kernel
theorem dX11_edge_93 : decode cX11_edge 93 = .ok (.goto 4, 3) := by decide +kernel
theorem dX11_edge_96 : decode cX11_edge 96 = .ok (.iconst 0, 1) := by decide +kernel
theorem dX11_edge_97 : decode cX11_edge 97 = .ok (.ireturn, 1) := by decide +kernel
theorem dX11_edge_98 : decode cX11_edge 98 = .ok (.aload_n 0, 1) := by decide +kernel
theorem dX11_edge_99 : decode cX11_edge 99 = .ok (.getfield 40, 3) := by decide +kernel
theorem dX11_edge_102 : decode cX11_edge 102 = .ok (.getfield 260, 3) := by decide +kernel
theorem dX11_edge_105 : decode cX11_edge 105 = .ok (.iload_n 1, 1) := by decide +kernel
theorem dX11_edge_106 : decode cX11_edge 106 = .ok (.baload, 1) := by decide +kernel
theorem dX11_edge_107 : decode cX11_edge 107 = .ok (.ifCond .eq 7, 3) := by decide +kernel
theorem dX11_edge_110 : decode cX11_edge 110 = .ok (.iconst 1, 1) := by decide +kernel
theorem dX11_edge_111 : decode cX11_edge 111 = .ok (.goto 4, 3) := by decide +kernel
theorem dX11_edge_114 : decode cX11_edge 114 = .ok (.iconst 0, 1) := by decide +kernel
theorem dX11_edge_115 : decode cX11_edge 115 = .ok (.ireturn, 1) := by decide +kernel
theorem dX11_edge_116 : decode cX11_edge 116 = .ok (.aload_n 0, 1) := by decide +kernel
theorem dX11_edge_117 : decode cX11_edge 117 = .ok (.getfield 31, 3) := by decide +kernel
theorem dX11_edge_120 : decode cX11_edge 120 = .ok (.getfield 263, 3) := by decide +kernel
theorem dX11_edge_123 : decode cX11_edge 123 = .ok (.iload_n 1, 1) := by decide +kernel
theorem dX11_edge_124 : decode cX11_edge 124 = .ok (.baload, 1) := by decide +kernel
theorem dX11_edge_125 : decode cX11_edge 125 = .ok (.ifCond .eq 7, 3) := by decide +kernel
theorem dX11_edge_128 : decode cX11_edge 128 = .ok (.iconst 1, 1) := by decide +kernel
theorem dX11_edge_129 : decode cX11_edge 129 = .ok (.goto 4, 3) := by decide +kernel
theorem dX11_edge_132 : decode cX11_edge 132 = .ok (.iconst 0, 1) := by decide +kernel
theorem dX11_edge_133 : decode cX11_edge 133 = .ok (.ireturn, 1) := by decide +kernel
theorem dX11_edge_134 : decode cX11_edge 134 = .ok (.ldc 153, 2) := by decide +kernel
theorem dX11_edge_136 : decode cX11_edge 136 = .ok (.ireturn, 1) := by decide +kernel
theorem dX11_dominates_0 : decode cX11_dominates 0 = .ok (.aload_n 0, 1) := by decide +kernel
theorem dX11_dominates_1 : decode cX11_dominates 1 = .ok (.iload_n 1, 1) := by decide +kernel
theorem dX11_dominates_2 : decode cX11_dominates 2 = .ok (.invokevirtual 216, 3) := by decide +kernel
theorem dX11_dominates_5 : decode cX11_dominates 5 = .ok (.ifCond .eq 31, 3) := by decide +kernel
theorem dX11_dominates_8 : decode cX11_dominates 8 = .ok (.aload_n 0, 1) := by decide +kernel
theorem dX11_dominates_9 : decode cX11_dominates 9 = .ok (.iload_n 2, 1) := by decide +kernel
theorem dX11_dominates_10 : decode cX11_dominates 10 = .ok (.invokevirtual 216, 3) := by decide +kernel
theorem dX11_dominates_13 : decode cX11_dominates 13 = .ok (.ifCond .eq 23, 3) := by decide +kernel
theorem dX11_dominates_16 : decode cX11_dominates 16 = .ok (.aload_n 0, 1) := by decide +kernel
theorem dX11_dominates_17 : decode cX11_dominates 17 = .ok (.getfield 40, 3) := by decide +kernel
theorem dX11_dominates_20 : decode cX11_dominates 20 = .ok (.getfield 266, 3) := by decide +kernel
theorem dX11_dominates_23 : decode cX11_dominates 23 = .ok (.iload_n 2, 1) := by decide +kernel
theorem dX11_dominates_24 : decode cX11_dominates 24 = .ok (.laload, 1) := by decide +kernel
theorem dX11_dominates_25 : decode cX11_dominates 25 = .ok (.iload_n 1, 1) := by decide +kernel
theorem dX11_dominates_26 : decode cX11_dominates 26 = .ok (.invokestatic 212, 3) := by decide +kernel
theorem dX11_dominates_29 : decode cX11_dominates 29 = .ok (.ifCond .eq 7, 3) := by decide +kernel
theorem dX11_dominates_32 : decode cX11_dominates 32 = .ok (.iconst 1, 1) := by decide +kernel
theorem dX11_dominates_33 : decode cX11_dominates 33 = .ok (.goto 4, 3) := by decide +kernel
theorem dX11_dominates_36 : decode cX11_dominates 36 = .ok (.iconst 0, 1) := by decide +kernel
theorem dX11_dominates_37 : decode cX11_dominates 37 = .ok (.ireturn, 1) := by decide +kernel
theorem dX11_loop_0 : decode cX11_loop 0 = .ok (.aload_n 0, 1) := by decide +kernel
theorem dX11_loop_1 : decode cX11_loop 1 = .ok (.iload_n 1, 1) := by decide +kernel
theorem dX11_loop_2 : decode cX11_loop 2 = .ok (.invokevirtual 216, 3) := by decide +kernel
theorem dX11_loop_5 : decode cX11_loop 5 = .ok (.ifCond .eq 29, 3) := by decide +kernel
theorem dX11_loop_8 : decode cX11_loop 8 = .ok (.aload_n 0, 1) := by decide +kernel
theorem dX11_loop_9 : decode cX11_loop 9 = .ok (.getfield 40, 3) := by decide +kernel
theorem dX11_loop_12 : decode cX11_loop 12 = .ok (.getfield 160, 3) := by decide +kernel
theorem dX11_loop_15 : decode cX11_loop 15 = .ok (.iload_n 1, 1) := by decide +kernel
theorem dX11_loop_16 : decode cX11_loop 16 = .ok (.invokestatic 212, 3) := by decide +kernel
theorem dX11_loop_19 : decode cX11_loop 19 = .ok (.ifCond .eq 15, 3) := by decide +kernel
theorem dX11_loop_22 : decode cX11_loop 22 = .ok (.aload_n 0, 1) := by decide +kernel
theorem dX11_loop_23 : decode cX11_loop 23 = .ok (.getfield 40, 3) := by decide +kernel
theorem dX11_loop_26 : decode cX11_loop 26 = .ok (.getfield 270, 3) := by decide +kernel
theorem dX11_loop_29 : decode cX11_loop 29 = .ok (.iload_n 1, 1) := by decide +kernel
theorem dX11_loop_30 : decode cX11_loop 30 = .ok (.laload, 1) := by decide +kernel
theorem dX11_loop_31 : decode cX11_loop 31 = .ok (.goto 6, 3) := by decide +kernel
theorem dX11_loop_34 : decode cX11_loop 34 = .ok (.ldc2_w 273, 3) := by decide +kernel
theorem dX11_loop_37 : decode cX11_loop 37 = .ok (.lreturn, 1) := by decide +kernel
theorem dX11_statement_0 : decode cX11_statement 0 = .ok (.aload_n 0, 1) := by decide +kernel
theorem dX11_statement_1 : decode cX11_statement 1 = .ok (.iload_n 1, 1) := by decide +kernel
theorem dX11_statement_2 : decode cX11_statement 2 = .ok (.invokevirtual 216, 3) := by decide +kernel
theorem dX11_statement_5 : decode cX11_statement 5 = .ok (.ifCond .eq 32, 3) := by decide +kernel
theorem dX11_statement_8 : decode cX11_statement 8 = .ok (.iload_n 2, 1) := by decide +kernel
theorem dX11_statement_9 : decode cX11_statement 9 = .ok (.ifCond .lt 28, 3) := by decide +kernel
theorem dX11_statement_12 : decode cX11_statement 12 = .ok (.iload_n 2, 1) := by decide +kernel
theorem dX11_statement_13 : decode cX11_statement 13 = .ok (.aload_n 0, 1) := by decide +kernel
theorem dX11_statement_14 : decode cX11_statement 14 = .ok (.getfield 56, 3) := by decide +kernel
theorem dX11_statement_17 : decode cX11_statement 17 = .ok (.getfield 240, 3) := by decide +kernel
theorem dX11_statement_20 : decode cX11_statement 20 = .ok (.iload_n 1, 1) := by decide +kernel
theorem dX11_statement_21 : decode cX11_statement 21 = .ok (.iconst 1, 1) := by decide +kernel
theorem dX11_statement_22 : decode cX11_statement 22 = .ok (.iadd, 1) := by decide +kernel
theorem dX11_statement_23 : decode cX11_statement 23 = .ok (.iaload, 1) := by decide +kernel
theorem dX11_statement_24 : decode cX11_statement 24 = .ok (.aload_n 0, 1) := by decide +kernel
theorem dX11_statement_25 : decode cX11_statement 25 = .ok (.getfield 56, 3) := by decide +kernel
theorem dX11_statement_28 : decode cX11_statement 28 = .ok (.getfield 240, 3) := by decide +kernel
theorem dX11_statement_31 : decode cX11_statement 31 = .ok (.iload_n 1, 1) := by decide +kernel
theorem dX11_statement_32 : decode cX11_statement 32 = .ok (.iaload, 1) := by decide +kernel
theorem dX11_statement_33 : decode cX11_statement 33 = .ok (.isub, 1) := by decide +kernel
theorem dX11_statement_34 : decode cX11_statement 34 = .ok (.if_icmp .lt 6, 3) := by decide +kernel
theorem dX11_statement_37 : decode cX11_statement 37 = .ok (.ldc 153, 2) := by decide +kernel
theorem dX11_statement_39 : decode cX11_statement 39 = .ok (.ireturn, 1) := by decide +kernel
theorem dX11_statement_40 : decode cX11_statement 40 = .ok (.aload_n 0, 1) := by decide +kernel
theorem dX11_statement_41 : decode cX11_statement 41 = .ok (.getfield 56, 3) := by decide +kernel
theorem dX11_statement_44 : decode cX11_statement 44 = .ok (.getfield 240, 3) := by decide +kernel
theorem dX11_statement_47 : decode cX11_statement 47 = .ok (.iload_n 1, 1) := by decide +kernel
theorem dX11_statement_48 : decode cX11_statement 48 = .ok (.iaload, 1) := by decide +kernel
theorem dX11_statement_49 : decode cX11_statement 49 = .ok (.iload_n 2, 1) := by decide +kernel
theorem dX11_statement_50 : decode cX11_statement 50 = .ok (.iadd, 1) := by decide +kernel
theorem dX11_statement_51 : decode cX11_statement 51 = .ok (.istore 4, 2) := by decide +kernel
theorem dX11_statement_53 : decode cX11_statement 53 = .ok (.aload_n 0, 1) := by decide +kernel
theorem dX11_statement_54 : decode cX11_statement 54 = .ok (.getfield 56, 3) := by decide +kernel
theorem dX11_statement_57 : decode cX11_statement 57 = .ok (.getfield 275, 3) := by decide +kernel
theorem dX11_statement_60 : decode cX11_statement 60 = .ok (.iload 4, 2) := by decide +kernel
theorem dX11_statement_62 : decode cX11_statement 62 = .ok (.iaload, 1) := by decide +kernel
theorem dX11_statement_63 : decode cX11_statement 63 = .ok (.istore 5, 2) := by decide +kernel
theorem dX11_statement_65 : decode cX11_statement 65 = .ok (.iload_n 3, 1) := by decide +kernel
theorem dX11_statement_66 : decode cX11_statement 66 = .ok (.tableswitch 121 0 4 #[34, 45, 56, 76, 100], 34) := by decide +kernel
theorem dX11_statement_100 : decode cX11_statement 100 = .ok (.aload_n 0, 1) := by decide +kernel
theorem dX11_statement_101 : decode cX11_statement 101 = .ok (.getfield 56, 3) := by decide +kernel
theorem dX11_statement_104 : decode cX11_statement 104 = .ok (.getfield 278, 3) := by decide +kernel
theorem dX11_statement_107 : decode cX11_statement 107 = .ok (.iload 4, 2) := by decide +kernel
theorem dX11_statement_109 : decode cX11_statement 109 = .ok (.iaload, 1) := by decide +kernel
theorem dX11_statement_110 : decode cX11_statement 110 = .ok (.ireturn, 1) := by decide +kernel
theorem dX11_statement_111 : decode cX11_statement 111 = .ok (.aload_n 0, 1) := by decide +kernel
theorem dX11_statement_112 : decode cX11_statement 112 = .ok (.getfield 56, 3) := by decide +kernel
theorem dX11_statement_115 : decode cX11_statement 115 = .ok (.getfield 281, 3) := by decide +kernel
theorem dX11_statement_118 : decode cX11_statement 118 = .ok (.iload 4, 2) := by decide +kernel
theorem dX11_statement_120 : decode cX11_statement 120 = .ok (.iaload, 1) := by decide +kernel
theorem dX11_statement_121 : decode cX11_statement 121 = .ok (.ireturn, 1) := by decide +kernel
theorem dX11_statement_122 : decode cX11_statement 122 = .ok (.iload 5, 2) := by decide +kernel
theorem dX11_statement_124 : decode cX11_statement 124 = .ok (.iconst (-1), 1) := by decide +kernel
theorem dX11_statement_125 : decode cX11_statement 125 = .ok (.if_icmp .ne 7, 3) := by decide +kernel
theorem dX11_statement_128 : decode cX11_statement 128 = .ok (.iconst 0, 1) := by decide +kernel
theorem dX11_statement_129 : decode cX11_statement 129 = .ok (.goto 12, 3) := by decide +kernel
theorem dX11_statement_132 : decode cX11_statement 132 = .ok (.aload_n 0, 1) := by decide +kernel
theorem dX11_statement_133 : decode cX11_statement 133 = .ok (.getfield 101, 3) := by decide +kernel
theorem dX11_statement_136 : decode cX11_statement 136 = .ok (.iload 5, 2) := by decide +kernel
theorem dX11_statement_138 : decode cX11_statement 138 = .ok (.invokevirtual 284, 3) := by decide +kernel
theorem dX11_statement_141 : decode cX11_statement 141 = .ok (.ireturn, 1) := by decide +kernel
theorem dX11_statement_142 : decode cX11_statement 142 = .ok (.iload 5, 2) := by decide +kernel
theorem dX11_statement_144 : decode cX11_statement 144 = .ok (.iconst (-1), 1) := by decide +kernel
theorem dX11_statement_145 : decode cX11_statement 145 = .ok (.if_icmp .eq 19, 3) := by decide +kernel
theorem dX11_statement_148 : decode cX11_statement 148 = .ok (.aload_n 0, 1) := by decide +kernel
theorem dX11_statement_149 : decode cX11_statement 149 = .ok (.getfield 47, 3) := by decide +kernel
theorem dX11_statement_152 : decode cX11_statement 152 = .ok (.iload 5, 2) := by decide +kernel
theorem dX11_statement_154 : decode cX11_statement 154 = .ok (.invokevirtual 287, 3) := by decide +kernel
theorem dX11_statement_157 : decode cX11_statement 157 = .ok (.ifCond .eq 7, 3) := by decide +kernel
theorem dX11_statement_160 : decode cX11_statement 160 = .ok (.iconst 1, 1) := by decide +kernel
theorem dX11_statement_161 : decode cX11_statement 161 = .ok (.goto 4, 3) := by decide +kernel
theorem dX11_statement_164 : decode cX11_statement 164 = .ok (.iconst 0, 1) := by decide +kernel
theorem dX11_statement_165 : decode cX11_statement 165 = .ok (.ireturn, 1) := by decide +kernel
theorem dX11_statement_166 : decode cX11_statement 166 = .ok (.iload 5, 2) := by decide +kernel
theorem dX11_statement_168 : decode cX11_statement 168 = .ok (.iconst (-1), 1) := by decide +kernel
theorem dX11_statement_169 : decode cX11_statement 169 = .ok (.if_icmp .ne 7, 3) := by decide +kernel
theorem dX11_statement_172 : decode cX11_statement 172 = .ok (.iconst 0, 1) := by decide +kernel
theorem dX11_statement_173 : decode cX11_statement 173 = .ok (.goto 13, 3) := by decide +kernel
theorem dX11_statement_176 : decode cX11_statement 176 = .ok (.aload_n 0, 1) := by decide +kernel
theorem dX11_statement_177 : decode cX11_statement 177 = .ok (.getfield 47, 3) := by decide +kernel
theorem dX11_statement_180 : decode cX11_statement 180 = .ok (.getfield 290, 3) := by decide +kernel
theorem dX11_statement_183 : decode cX11_statement 183 = .ok (.iload 5, 2) := by decide +kernel
theorem dX11_statement_185 : decode cX11_statement 185 = .ok (.iaload, 1) := by decide +kernel
theorem dX11_statement_186 : decode cX11_statement 186 = .ok (.ireturn, 1) := by decide +kernel
theorem dX11_statement_187 : decode cX11_statement 187 = .ok (.ldc 153, 2) := by decide +kernel
theorem dX11_statement_189 : decode cX11_statement 189 = .ok (.ireturn, 1) := by decide +kernel
theorem dX11_condition_0 : decode cX11_condition 0 = .ok (.aload_n 0, 1) := by decide +kernel
theorem dX11_condition_1 : decode cX11_condition 1 = .ok (.iload_n 1, 1) := by decide +kernel
theorem dX11_condition_2 : decode cX11_condition 2 = .ok (.invokevirtual 216, 3) := by decide +kernel
theorem dX11_condition_5 : decode cX11_condition 5 = .ok (.ifCond .eq 16, 3) := by decide +kernel
theorem dX11_condition_8 : decode cX11_condition 8 = .ok (.aload_n 0, 1) := by decide +kernel
theorem dX11_condition_9 : decode cX11_condition 9 = .ok (.getfield 56, 3) := by decide +kernel
theorem dX11_condition_12 : decode cX11_condition 12 = .ok (.getfield 293, 3) := by decide +kernel
theorem dX11_condition_15 : decode cX11_condition 15 = .ok (.iload_n 1, 1) := by decide +kernel
theorem dX11_condition_16 : decode cX11_condition 16 = .ok (.iaload, 1) := by decide +kernel
theorem dX11_condition_17 : decode cX11_condition 17 = .ok (.iconst (-1), 1) := by decide +kernel
theorem dX11_condition_18 : decode cX11_condition 18 = .ok (.if_icmp .ne 5, 3) := by decide +kernel
theorem dX11_condition_21 : decode cX11_condition 21 = .ok (.iconst (-1), 1) := by decide +kernel
theorem dX11_condition_22 : decode cX11_condition 22 = .ok (.ireturn, 1) := by decide +kernel
theorem dX11_condition_23 : decode cX11_condition 23 = .ok (.aload_n 0, 1) := by decide +kernel
theorem dX11_condition_24 : decode cX11_condition 24 = .ok (.getfield 101, 3) := by decide +kernel
theorem dX11_condition_27 : decode cX11_condition 27 = .ok (.aload_n 0, 1) := by decide +kernel
theorem dX11_condition_28 : decode cX11_condition 28 = .ok (.getfield 56, 3) := by decide +kernel
theorem dX11_condition_31 : decode cX11_condition 31 = .ok (.getfield 293, 3) := by decide +kernel
theorem dX11_condition_34 : decode cX11_condition 34 = .ok (.iload_n 1, 1) := by decide +kernel
theorem dX11_condition_35 : decode cX11_condition 35 = .ok (.iaload, 1) := by decide +kernel
theorem dX11_condition_36 : decode cX11_condition 36 = .ok (.invokevirtual 284, 3) := by decide +kernel
theorem dX11_condition_39 : decode cX11_condition 39 = .ok (.istore_n 3, 1) := by decide +kernel
theorem dX11_condition_40 : decode cX11_condition 40 = .ok (.iload_n 2, 1) := by decide +kernel
theorem dX11_condition_41 : decode cX11_condition 41 = .ok (.iconst (-1), 1) := by decide +kernel
theorem dX11_condition_42 : decode cX11_condition 42 = .ok (.if_icmp .ne 7, 3) := by decide +kernel
theorem dX11_condition_45 : decode cX11_condition 45 = .ok (.iload_n 3, 1) := by decide +kernel
theorem dX11_condition_46 : decode cX11_condition 46 = .ok (.goto 11, 3) := by decide +kernel
theorem dX11_condition_49 : decode cX11_condition 49 = .ok (.aload_n 0, 1) := by decide +kernel
theorem dX11_condition_50 : decode cX11_condition 50 = .ok (.getfield 101, 3) := by decide +kernel
theorem dX11_condition_53 : decode cX11_condition 53 = .ok (.iload_n 2, 1) := by decide +kernel
theorem dX11_condition_54 : decode cX11_condition 54 = .ok (.invokevirtual 296, 3) := by decide +kernel
theorem dX11_condition_57 : decode cX11_condition 57 = .ok (.ireturn, 1) := by decide +kernel
theorem dX11_line_0 : decode cX11_line 0 = .ok (.aload_n 0, 1) := by decide +kernel
theorem dX11_line_1 : decode cX11_line 1 = .ok (.iload_n 1, 1) := by decide +kernel
theorem dX11_line_2 : decode cX11_line 2 = .ok (.invokevirtual 299, 3) := by decide +kernel
theorem dX11_line_5 : decode cX11_line 5 = .ok (.ifCond .ne 6, 3) := by decide +kernel
theorem dX11_line_8 : decode cX11_line 8 = .ok (.ldc 153, 2) := by decide +kernel
theorem dX11_line_10 : decode cX11_line 10 = .ok (.ireturn, 1) := by decide +kernel
theorem dX11_line_11 : decode cX11_line 11 = .ok (.iload_n 2, 1) := by decide +kernel
theorem dX11_line_12 : decode cX11_line 12 = .ok (.tableswitch 58 0 2 #[28, 38, 48], 28) := by decide +kernel
theorem dX11_line_40 : decode cX11_line 40 = .ok (.aload_n 0, 1) := by decide +kernel
theorem dX11_line_41 : decode cX11_line 41 = .ok (.getfield 83, 3) := by decide +kernel
theorem dX11_line_44 : decode cX11_line 44 = .ok (.getfield 302, 3) := by decide +kernel
theorem dX11_line_47 : decode cX11_line 47 = .ok (.iload_n 1, 1) := by decide +kernel
theorem dX11_line_48 : decode cX11_line 48 = .ok (.iaload, 1) := by decide +kernel
theorem dX11_line_49 : decode cX11_line 49 = .ok (.ireturn, 1) := by decide +kernel
theorem dX11_line_50 : decode cX11_line 50 = .ok (.aload_n 0, 1) := by decide +kernel
theorem dX11_line_51 : decode cX11_line 51 = .ok (.getfield 83, 3) := by decide +kernel
theorem dX11_line_54 : decode cX11_line 54 = .ok (.getfield 303, 3) := by decide +kernel
theorem dX11_line_57 : decode cX11_line 57 = .ok (.iload_n 1, 1) := by decide +kernel
theorem dX11_line_58 : decode cX11_line 58 = .ok (.iaload, 1) := by decide +kernel
theorem dX11_line_59 : decode cX11_line 59 = .ok (.ireturn, 1) := by decide +kernel
theorem dX11_line_60 : decode cX11_line 60 = .ok (.aload_n 0, 1) := by decide +kernel
theorem dX11_line_61 : decode cX11_line 61 = .ok (.getfield 83, 3) := by decide +kernel
theorem dX11_line_64 : decode cX11_line 64 = .ok (.getfield 306, 3) := by decide +kernel
theorem dX11_line_67 : decode cX11_line 67 = .ok (.iload_n 1, 1) := by decide +kernel
theorem dX11_line_68 : decode cX11_line 68 = .ok (.iaload, 1) := by decide +kernel
theorem dX11_line_69 : decode cX11_line 69 = .ok (.ireturn, 1) := by decide +kernel
theorem dX11_line_70 : decode cX11_line 70 = .ok (.ldc 153, 2) := by decide +kernel
theorem dX11_line_72 : decode cX11_line 72 = .ok (.ireturn, 1) := by decide +kernel
theorem dX11_spell_0 : decode cX11_spell 0 = .ok (.aload_n 0, 1) := by decide +kernel
theorem dX11_spell_1 : decode cX11_spell 1 = .ok (.iload_n 1, 1) := by decide +kernel
theorem dX11_spell_2 : decode cX11_spell 2 = .ok (.invokevirtual 299, 3) := by decide +kernel
theorem dX11_spell_5 : decode cX11_spell 5 = .ok (.ifCond .ne 5, 3) := by decide +kernel
theorem dX11_spell_8 : decode cX11_spell 8 = .ok (.iconst (-1), 1) := by decide +kernel
theorem dX11_spell_9 : decode cX11_spell 9 = .ok (.ireturn, 1) := by decide +kernel
theorem dX11_spell_10 : decode cX11_spell 10 = .ok (.aload_n 0, 1) := by decide +kernel
theorem dX11_spell_11 : decode cX11_spell 11 = .ok (.getfield 101, 3) := by decide +kernel
theorem dX11_spell_14 : decode cX11_spell 14 = .ok (.iload_n 1, 1) := by decide +kernel
theorem dX11_spell_15 : decode cX11_spell 15 = .ok (.invokevirtual 307, 3) := by decide +kernel
theorem dX11_spell_18 : decode cX11_spell 18 = .ok (.istore_n 3, 1) := by decide +kernel
theorem dX11_spell_19 : decode cX11_spell 19 = .ok (.iload_n 2, 1) := by decide +kernel
theorem dX11_spell_20 : decode cX11_spell 20 = .ok (.iconst (-1), 1) := by decide +kernel
theorem dX11_spell_21 : decode cX11_spell 21 = .ok (.if_icmp .ne 7, 3) := by decide +kernel
theorem dX11_spell_24 : decode cX11_spell 24 = .ok (.iload_n 3, 1) := by decide +kernel
theorem dX11_spell_25 : decode cX11_spell 25 = .ok (.goto 11, 3) := by decide +kernel
theorem dX11_spell_28 : decode cX11_spell 28 = .ok (.aload_n 0, 1) := by decide +kernel
theorem dX11_spell_29 : decode cX11_spell 29 = .ok (.getfield 101, 3) := by decide +kernel
theorem dX11_spell_32 : decode cX11_spell 32 = .ok (.iload_n 2, 1) := by decide +kernel
theorem dX11_spell_33 : decode cX11_spell 33 = .ok (.invokevirtual 296, 3) := by decide +kernel
theorem dX11_spell_36 : decode cX11_spell 36 = .ok (.ireturn, 1) := by decide +kernel
theorem dX11_type_0 : decode cX11_type 0 = .ok (.aload_n 0, 1) := by decide +kernel
theorem dX11_type_1 : decode cX11_type 1 = .ok (.getfield 105, 3) := by decide +kernel
theorem dX11_type_4 : decode cX11_type 4 = .ok (.ifCond .eq 7, 3) := by decide +kernel
theorem dX11_type_7 : decode cX11_type 7 = .ok (.iload_n 2, 1) := by decide +kernel
theorem dX11_type_8 : decode cX11_type 8 = .ok (.ifCond .ge 5, 3) := by decide +kernel
theorem dX11_type_11 : decode cX11_type 11 = .ok (.iconst (-1), 1) := by decide +kernel
theorem dX11_type_12 : decode cX11_type 12 = .ok (.ireturn, 1) := by decide +kernel
theorem dX11_type_13 : decode cX11_type 13 = .ok (.iload_n 1, 1) := by decide +kernel
theorem dX11_type_14 : decode cX11_type 14 = .ok (.tableswitch 105 0 2 #[26, 49, 77], 26) := by decide +kernel
theorem dX11_type_40 : decode cX11_type 40 = .ok (.iload_n 2, 1) := by decide +kernel
theorem dX11_type_41 : decode cX11_type 41 = .ok (.bipush 6, 2) := by decide +kernel
theorem dX11_type_43 : decode cX11_type 43 = .ok (.if_icmp .ge 18, 3) := by decide +kernel
theorem dX11_type_46 : decode cX11_type 46 = .ok (.aload_n 0, 1) := by decide +kernel
theorem dX11_type_47 : decode cX11_type 47 = .ok (.getfield 65, 3) := by decide +kernel
theorem dX11_type_50 : decode cX11_type 50 = .ok (.getfield 310, 3) := by decide +kernel
theorem dX11_type_53 : decode cX11_type 53 = .ok (.iload_n 2, 1) := by decide +kernel
theorem dX11_type_54 : decode cX11_type 54 = .ok (.baload, 1) := by decide +kernel
theorem dX11_type_55 : decode cX11_type 55 = .ok (.invokestatic 313, 3) := by decide +kernel
theorem dX11_type_58 : decode cX11_type 58 = .ok (.goto 4, 3) := by decide +kernel
theorem dX11_type_61 : decode cX11_type 61 = .ok (.iconst (-1), 1) := by decide +kernel
theorem dX11_type_62 : decode cX11_type 62 = .ok (.ireturn, 1) := by decide +kernel
theorem dX11_type_63 : decode cX11_type 63 = .ok (.iload_n 2, 1) := by decide +kernel
theorem dX11_type_64 : decode cX11_type 64 = .ok (.aload_n 0, 1) := by decide +kernel
theorem dX11_type_65 : decode cX11_type 65 = .ok (.getfield 31, 3) := by decide +kernel
theorem dX11_type_68 : decode cX11_type 68 = .ok (.getfield 187, 3) := by decide +kernel
theorem dX11_type_71 : decode cX11_type 71 = .ok (.if_icmp .ge 18, 3) := by decide +kernel
theorem dX11_type_74 : decode cX11_type 74 = .ok (.aload_n 0, 1) := by decide +kernel
theorem dX11_type_75 : decode cX11_type 75 = .ok (.getfield 65, 3) := by decide +kernel
theorem dX11_type_78 : decode cX11_type 78 = .ok (.getfield 317, 3) := by decide +kernel
theorem dX11_type_81 : decode cX11_type 81 = .ok (.iload_n 2, 1) := by decide +kernel
theorem dX11_type_82 : decode cX11_type 82 = .ok (.baload, 1) := by decide +kernel
theorem dX11_type_83 : decode cX11_type 83 = .ok (.invokestatic 313, 3) := by decide +kernel
theorem dX11_type_86 : decode cX11_type 86 = .ok (.goto 4, 3) := by decide +kernel
theorem dX11_type_89 : decode cX11_type 89 = .ok (.iconst (-1), 1) := by decide +kernel
theorem dX11_type_90 : decode cX11_type 90 = .ok (.ireturn, 1) := by decide +kernel
theorem dX11_type_91 : decode cX11_type 91 = .ok (.iload_n 2, 1) := by decide +kernel
theorem dX11_type_92 : decode cX11_type 92 = .ok (.aload_n 0, 1) := by decide +kernel
theorem dX11_type_93 : decode cX11_type 93 = .ok (.getfield 56, 3) := by decide +kernel
theorem dX11_type_96 : decode cX11_type 96 = .ok (.getfield 184, 3) := by decide +kernel
theorem dX11_type_99 : decode cX11_type 99 = .ok (.if_icmp .ge 18, 3) := by decide +kernel
theorem dX11_type_102 : decode cX11_type 102 = .ok (.aload_n 0, 1) := by decide +kernel
theorem dX11_type_103 : decode cX11_type 103 = .ok (.getfield 65, 3) := by decide +kernel
theorem dX11_type_106 : decode cX11_type 106 = .ok (.getfield 320, 3) := by decide +kernel
theorem dX11_type_109 : decode cX11_type 109 = .ok (.iload_n 2, 1) := by decide +kernel
theorem dX11_type_110 : decode cX11_type 110 = .ok (.baload, 1) := by decide +kernel
theorem dX11_type_111 : decode cX11_type 111 = .ok (.invokestatic 313, 3) := by decide +kernel
theorem dX11_type_114 : decode cX11_type 114 = .ok (.goto 4, 3) := by decide +kernel
theorem dX11_type_117 : decode cX11_type 117 = .ok (.iconst (-1), 1) := by decide +kernel
theorem dX11_type_118 : decode cX11_type 118 = .ok (.ireturn, 1) := by decide +kernel
theorem dX11_type_119 : decode cX11_type 119 = .ok (.iconst (-1), 1) := by decide +kernel
theorem dX11_type_120 : decode cX11_type 120 = .ok (.ireturn, 1) := by decide +kernel
theorem dX11_run_0 : decode cX11_run 0 = .ok (.aload_n 0, 1) := by decide +kernel
theorem dX11_run_1 : decode cX11_run 1 = .ok (.iload_n 1, 1) := by decide +kernel
theorem dX11_run_2 : decode cX11_run 2 = .ok (.iload 5, 2) := by decide +kernel
theorem dX11_run_4 : decode cX11_run 4 = .ok (.invokevirtual 322, 3) := by decide +kernel
theorem dX11_run_7 : decode cX11_run 7 = .ok (.ifCond .eq 15, 3) := by decide +kernel
theorem dX11_run_10 : decode cX11_run 10 = .ok (.iload 6, 2) := by decide +kernel
theorem dX11_run_12 : decode cX11_run 12 = .ok (.ifCond .lt 10, 3) := by decide +kernel
theorem dX11_run_15 : decode cX11_run 15 = .ok (.iload 6, 2) := by decide +kernel
theorem dX11_run_17 : decode cX11_run 17 = .ok (.bipush 11, 2) := by decide +kernel
theorem dX11_run_19 : decode cX11_run 19 = .ok (.if_icmp .le 6, 3) := by decide +kernel
theorem dX11_run_22 : decode cX11_run 22 = .ok (.ldc 153, 2) := by decide +kernel
theorem dX11_run_24 : decode cX11_run 24 = .ok (.ireturn, 1) := by decide +kernel
theorem dX11_run_25 : decode cX11_run 25 = .ok (.aload_n 0, 1) := by decide +kernel
theorem dX11_run_26 : decode cX11_run 26 = .ok (.getfield 92, 3) := by decide +kernel
theorem dX11_run_29 : decode cX11_run 29 = .ok (.iload_n 2, 1) := by decide +kernel
theorem dX11_run_30 : decode cX11_run 30 = .ok (.iload_n 3, 1) := by decide +kernel
theorem dX11_run_31 : decode cX11_run 31 = .ok (.iload 4, 2) := by decide +kernel
theorem dX11_run_33 : decode cX11_run 33 = .ok (.iload 5, 2) := by decide +kernel
theorem dX11_run_35 : decode cX11_run 35 = .ok (.iconst (-1), 1) := by decide +kernel
theorem dX11_run_36 : decode cX11_run 36 = .ok (.invokevirtual 325, 3) := by decide +kernel
theorem dX11_run_39 : decode cX11_run 39 = .ok (.aload_n 0, 1) := by decide +kernel
theorem dX11_run_40 : decode cX11_run 40 = .ok (.iload_n 1, 1) := by decide +kernel
theorem dX11_run_41 : decode cX11_run 41 = .ok (.invokevirtual 328, 3) := by decide +kernel
theorem dX11_run_44 : decode cX11_run 44 = .ok (.iload 6, 2) := by decide +kernel
theorem dX11_run_46 : decode cX11_run 46 = .ok (.tableswitch 125 0 11 #[62, 70, 78, 101, 109, 125, 125, 125, 125, 125, 125, 117], 62) := by decide +kernel
theorem dX11_run_108 : decode cX11_run 108 = .ok (.aload_n 0, 1) := by decide +kernel
theorem dX11_run_109 : decode cX11_run 109 = .ok (.getfield 92, 3) := by decide +kernel
theorem dX11_run_112 : decode cX11_run 112 = .ok (.getfield 331, 3) := by decide +kernel
theorem dX11_run_115 : decode cX11_run 115 = .ok (.ireturn, 1) := by decide +kernel
theorem dX11_run_116 : decode cX11_run 116 = .ok (.aload_n 0, 1) := by decide +kernel
theorem dX11_run_117 : decode cX11_run 117 = .ok (.getfield 92, 3) := by decide +kernel
theorem dX11_run_120 : decode cX11_run 120 = .ok (.getfield 334, 3) := by decide +kernel
theorem dX11_run_123 : decode cX11_run 123 = .ok (.ireturn, 1) := by decide +kernel
theorem dX11_run_124 : decode cX11_run 124 = .ok (.aload_n 0, 1) := by decide +kernel
theorem dX11_run_125 : decode cX11_run 125 = .ok (.getfield 92, 3) := by decide +kernel
theorem dX11_run_128 : decode cX11_run 128 = .ok (.getfield 334, 3) := by decide +kernel
theorem dX11_run_131 : decode cX11_run 131 = .ok (.iconst 1, 1) := by decide +kernel
theorem dX11_run_132 : decode cX11_run 132 = .ok (.if_icmp .ne 13, 3) := by decide +kernel
theorem dX11_run_135 : decode cX11_run 135 = .ok (.aload_n 0, 1) := by decide +kernel
theorem dX11_run_136 : decode cX11_run 136 = .ok (.getfield 92, 3) := by decide +kernel
theorem dX11_run_139 : decode cX11_run 139 = .ok (.getfield 337, 3) := by decide +kernel
theorem dX11_run_142 : decode cX11_run 142 = .ok (.goto 4, 3) := by decide +kernel
theorem dX11_run_145 : decode cX11_run 145 = .ok (.iconst 0, 1) := by decide +kernel
theorem dX11_run_146 : decode cX11_run 146 = .ok (.ireturn, 1) := by decide +kernel
theorem dX11_run_147 : decode cX11_run 147 = .ok (.aload_n 0, 1) := by decide +kernel
theorem dX11_run_148 : decode cX11_run 148 = .ok (.getfield 92, 3) := by decide +kernel
theorem dX11_run_151 : decode cX11_run 151 = .ok (.getfield 340, 3) := by decide +kernel
theorem dX11_run_154 : decode cX11_run 154 = .ok (.ireturn, 1) := by decide +kernel
theorem dX11_run_155 : decode cX11_run 155 = .ok (.aload_n 0, 1) := by decide +kernel
theorem dX11_run_156 : decode cX11_run 156 = .ok (.getfield 92, 3) := by decide +kernel
theorem dX11_run_159 : decode cX11_run 159 = .ok (.getfield 343, 3) := by decide +kernel
theorem dX11_run_162 : decode cX11_run 162 = .ok (.ireturn, 1) := by decide +kernel
theorem dX11_run_163 : decode cX11_run 163 = .ok (.aload_n 0, 1) := by decide +kernel
theorem dX11_run_164 : decode cX11_run 164 = .ok (.getfield 92, 3) := by decide +kernel
theorem dX11_run_167 : decode cX11_run 167 = .ok (.getfield 346, 3) := by decide +kernel
theorem dX11_run_170 : decode cX11_run 170 = .ok (.ireturn, 1) := by decide +kernel
theorem dX11_run_171 : decode cX11_run 171 = .ok (.aload_n 0, 1) := by decide +kernel
theorem dX11_run_172 : decode cX11_run 172 = .ok (.getfield 92, 3) := by decide +kernel
theorem dX11_run_175 : decode cX11_run 175 = .ok (.getfield 349, 3) := by decide +kernel
theorem dX11_run_178 : decode cX11_run 178 = .ok (.iload 6, 2) := by decide +kernel
theorem dX11_run_180 : decode cX11_run 180 = .ok (.iconst 5, 1) := by decide +kernel
theorem dX11_run_181 : decode cX11_run 181 = .ok (.isub, 1) := by decide +kernel
theorem dX11_run_182 : decode cX11_run 182 = .ok (.iaload, 1) := by decide +kernel
theorem dX11_run_183 : decode cX11_run 183 = .ok (.ireturn, 1) := by decide +kernel
theorem dX11_output_0 : decode cX11_output 0 = .ok (.aload_n 0, 1) := by decide +kernel
theorem dX11_output_1 : decode cX11_output 1 = .ok (.iload_n 1, 1) := by decide +kernel
theorem dX11_output_2 : decode cX11_output 2 = .ok (.iload 5, 2) := by decide +kernel
theorem dX11_output_4 : decode cX11_output 4 = .ok (.invokevirtual 322, 3) := by decide +kernel
theorem dX11_output_7 : decode cX11_output 7 = .ok (.ifCond .eq 8, 3) := by decide +kernel
theorem dX11_output_10 : decode cX11_output 10 = .ok (.iload 6, 2) := by decide +kernel
theorem dX11_output_12 : decode cX11_output 12 = .ok (.ifCond .ge 6, 3) := by decide +kernel
theorem dX11_output_15 : decode cX11_output 15 = .ok (.ldc 153, 2) := by decide +kernel
theorem dX11_output_17 : decode cX11_output 17 = .ok (.ireturn, 1) := by decide +kernel
theorem dX11_output_18 : decode cX11_output 18 = .ok (.aload_n 0, 1) := by decide +kernel
theorem dX11_output_19 : decode cX11_output 19 = .ok (.getfield 92, 3) := by decide +kernel
theorem dX11_output_22 : decode cX11_output 22 = .ok (.iload_n 2, 1) := by decide +kernel
theorem dX11_output_23 : decode cX11_output 23 = .ok (.iload_n 3, 1) := by decide +kernel
theorem dX11_output_24 : decode cX11_output 24 = .ok (.iload 4, 2) := by decide +kernel
theorem dX11_output_26 : decode cX11_output 26 = .ok (.iload 5, 2) := by decide +kernel
theorem dX11_output_28 : decode cX11_output 28 = .ok (.iload 6, 2) := by decide +kernel
theorem dX11_output_30 : decode cX11_output 30 = .ok (.invokevirtual 325, 3) := by decide +kernel
theorem dX11_output_33 : decode cX11_output 33 = .ok (.aload_n 0, 1) := by decide +kernel
theorem dX11_output_34 : decode cX11_output 34 = .ok (.iload_n 1, 1) := by decide +kernel
theorem dX11_output_35 : decode cX11_output 35 = .ok (.invokevirtual 328, 3) := by decide +kernel
theorem dX11_output_38 : decode cX11_output 38 = .ok (.iload 6, 2) := by decide +kernel
theorem dX11_output_40 : decode cX11_output 40 = .ok (.aload_n 0, 1) := by decide +kernel
theorem dX11_output_41 : decode cX11_output 41 = .ok (.getfield 92, 3) := by decide +kernel
theorem dX11_output_44 : decode cX11_output 44 = .ok (.getfield 331, 3) := by decide +kernel
theorem dX11_output_47 : decode cX11_output 47 = .ok (.if_icmp .ge 13, 3) := by decide +kernel
theorem dX11_output_50 : decode cX11_output 50 = .ok (.aload_n 0, 1) := by decide +kernel
theorem dX11_output_51 : decode cX11_output 51 = .ok (.getfield 92, 3) := by decide +kernel
theorem dX11_output_54 : decode cX11_output 54 = .ok (.getfield 351, 3) := by decide +kernel
theorem dX11_output_57 : decode cX11_output 57 = .ok (.goto 5, 3) := by decide +kernel
theorem dX11_output_60 : decode cX11_output 60 = .ok (.ldc 153, 2) := by decide +kernel
theorem dX11_output_62 : decode cX11_output 62 = .ok (.ireturn, 1) := by decide +kernel
theorem dX11_comesTo_0 : decode cX11_comesTo 0 = .ok (.aload_n 0, 1) := by decide +kernel
theorem dX11_comesTo_1 : decode cX11_comesTo 1 = .ok (.iload_n 1, 1) := by decide +kernel
theorem dX11_comesTo_2 : decode cX11_comesTo 2 = .ok (.invokevirtual 216, 3) := by decide +kernel
theorem dX11_comesTo_5 : decode cX11_comesTo 5 = .ok (.ifCond .eq 14, 3) := by decide +kernel
theorem dX11_comesTo_8 : decode cX11_comesTo 8 = .ok (.aload_n 0, 1) := by decide +kernel
theorem dX11_comesTo_9 : decode cX11_comesTo 9 = .ok (.getfield 31, 3) := by decide +kernel
theorem dX11_comesTo_12 : decode cX11_comesTo 12 = .ok (.iload_n 1, 1) := by decide +kernel
theorem dX11_comesTo_13 : decode cX11_comesTo 13 = .ok (.invokevirtual 354, 3) := by decide +kernel
theorem dX11_comesTo_16 : decode cX11_comesTo 16 = .ok (.goto 6, 3) := by decide +kernel
theorem dX11_comesTo_19 : decode cX11_comesTo 19 = .ok (.ldc2_w 273, 3) := by decide +kernel
theorem dX11_comesTo_22 : decode cX11_comesTo 22 = .ok (.lreturn, 1) := by decide +kernel
theorem dX11_far_0 : decode cX11_far 0 = .ok (.aload_n 0, 1) := by decide +kernel
theorem dX11_far_1 : decode cX11_far 1 = .ok (.iload_n 1, 1) := by decide +kernel
theorem dX11_far_2 : decode cX11_far 2 = .ok (.invokevirtual 216, 3) := by decide +kernel
theorem dX11_far_5 : decode cX11_far 5 = .ok (.ifCond .eq 23, 3) := by decide +kernel
theorem dX11_far_8 : decode cX11_far 8 = .ok (.aload_n 0, 1) := by decide +kernel
theorem dX11_far_9 : decode cX11_far 9 = .ok (.iload_n 2, 1) := by decide +kernel
theorem dX11_far_10 : decode cX11_far 10 = .ok (.invokevirtual 216, 3) := by decide +kernel
theorem dX11_far_13 : decode cX11_far 13 = .ok (.ifCond .eq 15, 3) := by decide +kernel
theorem dX11_far_16 : decode cX11_far 16 = .ok (.aload_n 0, 1) := by decide +kernel
theorem dX11_far_17 : decode cX11_far 17 = .ok (.getfield 31, 3) := by decide +kernel
theorem dX11_far_20 : decode cX11_far 20 = .ok (.iload_n 1, 1) := by decide +kernel
theorem dX11_far_21 : decode cX11_far 21 = .ok (.iload_n 2, 1) := by decide +kernel
theorem dX11_far_22 : decode cX11_far 22 = .ok (.invokevirtual 358, 3) := by decide +kernel
theorem dX11_far_25 : decode cX11_far 25 = .ok (.goto 4, 3) := by decide +kernel
theorem dX11_far_28 : decode cX11_far 28 = .ok (.iconst (-1), 1) := by decide +kernel
theorem dX11_far_29 : decode cX11_far 29 = .ok (.ireturn, 1) := by decide +kernel
theorem dX11_most_0 : decode cX11_most 0 = .ok (.aload_n 0, 1) := by decide +kernel
theorem dX11_most_1 : decode cX11_most 1 = .ok (.getfield 105, 3) := by decide +kernel
theorem dX11_most_4 : decode cX11_most 4 = .ok (.ifCond .ne 6, 3) := by decide +kernel
theorem dX11_most_7 : decode cX11_most 7 = .ok (.ldc 153, 2) := by decide +kernel
theorem dX11_most_9 : decode cX11_most 9 = .ok (.ireturn, 1) := by decide +kernel
theorem dX11_most_10 : decode cX11_most 10 = .ok (.iload_n 1, 1) := by decide +kernel
theorem dX11_most_11 : decode cX11_most 11 = .ok (.tableswitch 155 0 7 #[45, 53, 75, 99, 123, 131, 139, 147], 45) := by decide +kernel
theorem dX11_most_56 : decode cX11_most 56 = .ok (.aload_n 0, 1) := by decide +kernel
theorem dX11_most_57 : decode cX11_most 57 = .ok (.getfield 40, 3) := by decide +kernel
theorem dX11_most_60 : decode cX11_most 60 = .ok (.invokevirtual 362, 3) := by decide +kernel
theorem dX11_most_63 : decode cX11_most 63 = .ok (.ireturn, 1) := by decide +kernel
theorem dX11_most_64 : decode cX11_most 64 = .ok (.aload_n 0, 1) := by decide +kernel
theorem dX11_most_65 : decode cX11_most 65 = .ok (.getfield 40, 3) := by decide +kernel
theorem dX11_most_68 : decode cX11_most 68 = .ok (.getfield 173, 3) := by decide +kernel
theorem dX11_most_71 : decode cX11_most 71 = .ok (.ifCond .eq 7, 3) := by decide +kernel
theorem dX11_most_74 : decode cX11_most 74 = .ok (.iconst (-1), 1) := by decide +kernel
theorem dX11_most_75 : decode cX11_most 75 = .ok (.goto 10, 3) := by decide +kernel
theorem dX11_most_78 : decode cX11_most 78 = .ok (.aload_n 0, 1) := by decide +kernel
theorem dX11_most_79 : decode cX11_most 79 = .ok (.getfield 83, 3) := by decide +kernel
theorem dX11_most_82 : decode cX11_most 82 = .ok (.invokevirtual 365, 3) := by decide +kernel
theorem dX11_most_85 : decode cX11_most 85 = .ok (.ireturn, 1) := by decide +kernel
theorem dX11_most_86 : decode cX11_most 86 = .ok (.aload_n 0, 1) := by decide +kernel
theorem dX11_most_87 : decode cX11_most 87 = .ok (.getfield 40, 3) := by decide +kernel
theorem dX11_most_90 : decode cX11_most 90 = .ok (.getfield 173, 3) := by decide +kernel
theorem dX11_most_93 : decode cX11_most 93 = .ok (.ifCond .eq 7, 3) := by decide +kernel
theorem dX11_most_96 : decode cX11_most 96 = .ok (.iconst (-1), 1) := by decide +kernel
theorem dX11_most_97 : decode cX11_most 97 = .ok (.goto 12, 3) := by decide +kernel
theorem dX11_most_100 : decode cX11_most 100 = .ok (.aload_n 0, 1) := by decide +kernel
theorem dX11_most_101 : decode cX11_most 101 = .ok (.getfield 83, 3) := by decide +kernel
theorem dX11_most_104 : decode cX11_most 104 = .ok (.bipush 6, 2) := by decide +kernel
theorem dX11_most_106 : decode cX11_most 106 = .ok (.invokevirtual 368, 3) := by decide +kernel
theorem dX11_most_109 : decode cX11_most 109 = .ok (.ireturn, 1) := by decide +kernel
theorem dX11_most_110 : decode cX11_most 110 = .ok (.aload_n 0, 1) := by decide +kernel
theorem dX11_most_111 : decode cX11_most 111 = .ok (.getfield 40, 3) := by decide +kernel
theorem dX11_most_114 : decode cX11_most 114 = .ok (.getfield 173, 3) := by decide +kernel
theorem dX11_most_117 : decode cX11_most 117 = .ok (.ifCond .eq 7, 3) := by decide +kernel
theorem dX11_most_120 : decode cX11_most 120 = .ok (.iconst (-1), 1) := by decide +kernel
theorem dX11_most_121 : decode cX11_most 121 = .ok (.goto 12, 3) := by decide +kernel
theorem dX11_most_124 : decode cX11_most 124 = .ok (.aload_n 0, 1) := by decide +kernel
theorem dX11_most_125 : decode cX11_most 125 = .ok (.getfield 83, 3) := by decide +kernel
theorem dX11_most_128 : decode cX11_most 128 = .ok (.bipush 7, 2) := by decide +kernel
theorem dX11_most_130 : decode cX11_most 130 = .ok (.invokevirtual 368, 3) := by decide +kernel
theorem dX11_most_133 : decode cX11_most 133 = .ok (.ireturn, 1) := by decide +kernel
theorem dX11_most_134 : decode cX11_most 134 = .ok (.aload_n 0, 1) := by decide +kernel
theorem dX11_most_135 : decode cX11_most 135 = .ok (.getfield 56, 3) := by decide +kernel
theorem dX11_most_138 : decode cX11_most 138 = .ok (.invokevirtual 371, 3) := by decide +kernel
theorem dX11_most_141 : decode cX11_most 141 = .ok (.ireturn, 1) := by decide +kernel
theorem dX11_most_142 : decode cX11_most 142 = .ok (.aload_n 0, 1) := by decide +kernel
theorem dX11_most_143 : decode cX11_most 143 = .ok (.getfield 19, 3) := by decide +kernel
theorem dX11_most_146 : decode cX11_most 146 = .ok (.invokevirtual 374, 3) := by decide +kernel
theorem dX11_most_149 : decode cX11_most 149 = .ok (.ireturn, 1) := by decide +kernel
theorem dX11_most_150 : decode cX11_most 150 = .ok (.aload_n 0, 1) := by decide +kernel
theorem dX11_most_151 : decode cX11_most 151 = .ok (.getfield 56, 3) := by decide +kernel
theorem dX11_most_154 : decode cX11_most 154 = .ok (.invokevirtual 377, 3) := by decide +kernel
theorem dX11_most_157 : decode cX11_most 157 = .ok (.ireturn, 1) := by decide +kernel
theorem dX11_most_158 : decode cX11_most 158 = .ok (.aload_n 0, 1) := by decide +kernel
theorem dX11_most_159 : decode cX11_most 159 = .ok (.getfield 65, 3) := by decide +kernel
theorem dX11_most_162 : decode cX11_most 162 = .ok (.invokevirtual 380, 3) := by decide +kernel
theorem dX11_most_165 : decode cX11_most 165 = .ok (.ireturn, 1) := by decide +kernel
theorem dX11_most_166 : decode cX11_most 166 = .ok (.ldc 153, 2) := by decide +kernel
theorem dX11_most_168 : decode cX11_most 168 = .ok (.ireturn, 1) := by decide +kernel
theorem dX11_adoptDraft_0 : decode cX11_adoptDraft 0 = .ok (.aload_n 0, 1) := by decide +kernel
theorem dX11_adoptDraft_1 : decode cX11_adoptDraft 1 = .ok (.getfield 19, 3) := by decide +kernel
theorem dX11_adoptDraft_4 : decode cX11_adoptDraft 4 = .ok (.aload_n 0, 1) := by decide +kernel
theorem dX11_adoptDraft_5 : decode cX11_adoptDraft 5 = .ok (.getfield 23, 3) := by decide +kernel
theorem dX11_adoptDraft_8 : decode cX11_adoptDraft 8 = .ok (.invokevirtual 143, 3) := by decide +kernel
theorem dX11_adoptDraft_11 : decode cX11_adoptDraft 11 = .ok (.aload_n 0, 1) := by decide +kernel
theorem dX11_adoptDraft_12 : decode cX11_adoptDraft 12 = .ok (.getfield 31, 3) := by decide +kernel
theorem dX11_adoptDraft_15 : decode cX11_adoptDraft 15 = .ok (.invokevirtual 383, 3) := by decide +kernel
theorem dX11_adoptDraft_18 : decode cX11_adoptDraft 18 = .ok (.aload_n 0, 1) := by decide +kernel
theorem dX11_adoptDraft_19 : decode cX11_adoptDraft 19 = .ok (.getfield 40, 3) := by decide +kernel
theorem dX11_adoptDraft_22 : decode cX11_adoptDraft 22 = .ok (.invokevirtual 386, 3) := by decide +kernel
theorem dX11_adoptDraft_25 : decode cX11_adoptDraft 25 = .ok (.aload_n 0, 1) := by decide +kernel
theorem dX11_adoptDraft_26 : decode cX11_adoptDraft 26 = .ok (.getfield 56, 3) := by decide +kernel
theorem dX11_adoptDraft_29 : decode cX11_adoptDraft 29 = .ok (.invokevirtual 389, 3) := by decide +kernel
theorem dX11_adoptDraft_32 : decode cX11_adoptDraft 32 = .ok (.aload_n 0, 1) := by decide +kernel
theorem dX11_adoptDraft_33 : decode cX11_adoptDraft 33 = .ok (.getfield 65, 3) := by decide +kernel
theorem dX11_adoptDraft_36 : decode cX11_adoptDraft 36 = .ok (.invokevirtual 392, 3) := by decide +kernel
theorem dX11_adoptDraft_39 : decode cX11_adoptDraft 39 = .ok (.aload_n 0, 1) := by decide +kernel
theorem dX11_adoptDraft_40 : decode cX11_adoptDraft 40 = .ok (.getfield 74, 3) := by decide +kernel
theorem dX11_adoptDraft_43 : decode cX11_adoptDraft 43 = .ok (.invokevirtual 394, 3) := by decide +kernel
theorem dX11_adoptDraft_46 : decode cX11_adoptDraft 46 = .ok (.aload_n 0, 1) := by decide +kernel
theorem dX11_adoptDraft_47 : decode cX11_adoptDraft 47 = .ok (.getfield 83, 3) := by decide +kernel
theorem dX11_adoptDraft_50 : decode cX11_adoptDraft 50 = .ok (.iconst 0, 1) := by decide +kernel
theorem dX11_adoptDraft_51 : decode cX11_adoptDraft 51 = .ok (.putfield 182, 3) := by decide +kernel
theorem dX11_adoptDraft_54 : decode cX11_adoptDraft 54 = .ok (.aload_n 0, 1) := by decide +kernel
theorem dX11_adoptDraft_55 : decode cX11_adoptDraft 55 = .ok (.getfield 40, 3) := by decide +kernel
theorem dX11_adoptDraft_58 : decode cX11_adoptDraft 58 = .ok (.getfield 173, 3) := by decide +kernel
theorem dX11_adoptDraft_61 : decode cX11_adoptDraft 61 = .ok (.ifCond .ne 10, 3) := by decide +kernel
theorem dX11_adoptDraft_64 : decode cX11_adoptDraft 64 = .ok (.aload_n 0, 1) := by decide +kernel
theorem dX11_adoptDraft_65 : decode cX11_adoptDraft 65 = .ok (.getfield 83, 3) := by decide +kernel
theorem dX11_adoptDraft_68 : decode cX11_adoptDraft 68 = .ok (.invokevirtual 397, 3) := by decide +kernel
theorem dX11_adoptDraft_71 : decode cX11_adoptDraft 71 = .ok (.aload_n 0, 1) := by decide +kernel
theorem dX11_adoptDraft_72 : decode cX11_adoptDraft 72 = .ok (.iconst 1, 1) := by decide +kernel
theorem dX11_adoptDraft_73 : decode cX11_adoptDraft 73 = .ok (.putfield 105, 3) := by decide +kernel
theorem dX11_adoptDraft_76 : decode cX11_adoptDraft 76 = .ok (.return_, 1) := by decide +kernel
theorem dX11_isBlock_0 : decode cX11_isBlock 0 = .ok (.aload_n 0, 1) := by decide +kernel
theorem dX11_isBlock_1 : decode cX11_isBlock 1 = .ok (.getfield 105, 3) := by decide +kernel
theorem dX11_isBlock_4 : decode cX11_isBlock 4 = .ok (.ifCond .eq 22, 3) := by decide +kernel
theorem dX11_isBlock_7 : decode cX11_isBlock 7 = .ok (.iload_n 1, 1) := by decide +kernel
theorem dX11_isBlock_8 : decode cX11_isBlock 8 = .ok (.ifCond .lt 18, 3) := by decide +kernel
theorem dX11_isBlock_11 : decode cX11_isBlock 11 = .ok (.iload_n 1, 1) := by decide +kernel
theorem dX11_isBlock_12 : decode cX11_isBlock 12 = .ok (.aload_n 0, 1) := by decide +kernel
theorem dX11_isBlock_13 : decode cX11_isBlock 13 = .ok (.getfield 31, 3) := by decide +kernel
theorem dX11_isBlock_16 : decode cX11_isBlock 16 = .ok (.getfield 135, 3) := by decide +kernel
theorem dX11_isBlock_19 : decode cX11_isBlock 19 = .ok (.if_icmp .ge 7, 3) := by decide +kernel
theorem dX11_isBlock_22 : decode cX11_isBlock 22 = .ok (.iconst 1, 1) := by decide +kernel
theorem dX11_isBlock_23 : decode cX11_isBlock 23 = .ok (.goto 4, 3) := by decide +kernel
theorem dX11_isBlock_26 : decode cX11_isBlock 26 = .ok (.iconst 0, 1) := by decide +kernel
theorem dX11_isBlock_27 : decode cX11_isBlock 27 = .ok (.ireturn, 1) := by decide +kernel
theorem dX11_isLine_0 : decode cX11_isLine 0 = .ok (.aload_n 0, 1) := by decide +kernel
theorem dX11_isLine_1 : decode cX11_isLine 1 = .ok (.getfield 105, 3) := by decide +kernel
theorem dX11_isLine_4 : decode cX11_isLine 4 = .ok (.ifCond .eq 32, 3) := by decide +kernel
theorem dX11_isLine_7 : decode cX11_isLine 7 = .ok (.aload_n 0, 1) := by decide +kernel
theorem dX11_isLine_8 : decode cX11_isLine 8 = .ok (.getfield 40, 3) := by decide +kernel
theorem dX11_isLine_11 : decode cX11_isLine 11 = .ok (.getfield 173, 3) := by decide +kernel
theorem dX11_isLine_14 : decode cX11_isLine 14 = .ok (.ifCond .ne 22, 3) := by decide +kernel
theorem dX11_isLine_17 : decode cX11_isLine 17 = .ok (.iload_n 1, 1) := by decide +kernel
theorem dX11_isLine_18 : decode cX11_isLine 18 = .ok (.ifCond .lt 18, 3) := by decide +kernel
theorem dX11_isLine_21 : decode cX11_isLine 21 = .ok (.iload_n 1, 1) := by decide +kernel
theorem dX11_isLine_22 : decode cX11_isLine 22 = .ok (.aload_n 0, 1) := by decide +kernel
theorem dX11_isLine_23 : decode cX11_isLine 23 = .ok (.getfield 83, 3) := by decide +kernel
theorem dX11_isLine_26 : decode cX11_isLine 26 = .ok (.getfield 182, 3) := by decide +kernel
theorem dX11_isLine_29 : decode cX11_isLine 29 = .ok (.if_icmp .ge 7, 3) := by decide +kernel
theorem dX11_isLine_32 : decode cX11_isLine 32 = .ok (.iconst 1, 1) := by decide +kernel
theorem dX11_isLine_33 : decode cX11_isLine 33 = .ok (.goto 4, 3) := by decide +kernel
theorem dX11_isLine_36 : decode cX11_isLine 36 = .ok (.iconst 0, 1) := by decide +kernel
theorem dX11_isLine_37 : decode cX11_isLine 37 = .ok (.ireturn, 1) := by decide +kernel
theorem dX11_canRun_0 : decode cX11_canRun 0 = .ok (.aload_n 0, 1) := by decide +kernel
theorem dX11_canRun_1 : decode cX11_canRun 1 = .ok (.getfield 105, 3) := by decide +kernel
theorem dX11_canRun_4 : decode cX11_canRun 4 = .ok (.ifCond .eq 15, 3) := by decide +kernel
theorem dX11_canRun_7 : decode cX11_canRun 7 = .ok (.iload_n 2, 1) := by decide +kernel
theorem dX11_canRun_8 : decode cX11_canRun 8 = .ok (.iconst 1, 1) := by decide +kernel
theorem dX11_canRun_9 : decode cX11_canRun 9 = .ok (.if_icmp .lt 10, 3) := by decide +kernel
theorem dX11_canRun_12 : decode cX11_canRun 12 = .ok (.iload_n 2, 1) := by decide +kernel
theorem dX11_canRun_13 : decode cX11_canRun 13 = .ok (.sipush 200, 3) := by decide +kernel
theorem dX11_canRun_16 : decode cX11_canRun 16 = .ok (.if_icmp .le 5, 3) := by decide +kernel
theorem dX11_canRun_19 : decode cX11_canRun 19 = .ok (.iconst 0, 1) := by decide +kernel
theorem dX11_canRun_20 : decode cX11_canRun 20 = .ok (.ireturn, 1) := by decide +kernel
theorem dX11_canRun_21 : decode cX11_canRun 21 = .ok (.iload_n 1, 1) := by decide +kernel
theorem dX11_canRun_22 : decode cX11_canRun 22 = .ok (.ifCond .eq 18, 3) := by decide +kernel
theorem dX11_canRun_25 : decode cX11_canRun 25 = .ok (.iload_n 1, 1) := by decide +kernel
theorem dX11_canRun_26 : decode cX11_canRun 26 = .ok (.iconst 1, 1) := by decide +kernel
theorem dX11_canRun_27 : decode cX11_canRun 27 = .ok (.if_icmp .ne 17, 3) := by decide +kernel
theorem dX11_canRun_30 : decode cX11_canRun 30 = .ok (.aload_n 0, 1) := by decide +kernel
theorem dX11_canRun_31 : decode cX11_canRun 31 = .ok (.getfield 40, 3) := by decide +kernel
theorem dX11_canRun_34 : decode cX11_canRun 34 = .ok (.getfield 173, 3) := by decide +kernel
theorem dX11_canRun_37 : decode cX11_canRun 37 = .ok (.ifCond .ne 7, 3) := by decide +kernel
theorem dX11_canRun_40 : decode cX11_canRun 40 = .ok (.iconst 1, 1) := by decide +kernel
theorem dX11_canRun_41 : decode cX11_canRun 41 = .ok (.goto 4, 3) := by decide +kernel
theorem dX11_canRun_44 : decode cX11_canRun 44 = .ok (.iconst 0, 1) := by decide +kernel
theorem dX11_canRun_45 : decode cX11_canRun 45 = .ok (.ireturn, 1) := by decide +kernel
theorem dX11_goThrough_0 : decode cX11_goThrough 0 = .ok (.iload_n 1, 1) := by decide +kernel
theorem dX11_goThrough_1 : decode cX11_goThrough 1 = .ok (.ifCond .ne 13, 3) := by decide +kernel
theorem dX11_goThrough_4 : decode cX11_goThrough 4 = .ok (.aload_n 0, 1) := by decide +kernel
theorem dX11_goThrough_5 : decode cX11_goThrough 5 = .ok (.getfield 92, 3) := by decide +kernel
theorem dX11_goThrough_8 : decode cX11_goThrough 8 = .ok (.invokevirtual 400, 3) := by decide +kernel
theorem dX11_goThrough_11 : decode cX11_goThrough 11 = .ok (.goto 10, 3) := by decide +kernel
theorem dX11_goThrough_14 : decode cX11_goThrough 14 = .ok (.aload_n 0, 1) := by decide +kernel
theorem dX11_goThrough_15 : decode cX11_goThrough 15 = .ok (.getfield 92, 3) := by decide +kernel
theorem dX11_goThrough_18 : decode cX11_goThrough 18 = .ok (.invokevirtual 403, 3) := by decide +kernel
theorem dX11_goThrough_21 : decode cX11_goThrough 21 = .ok (.return_, 1) := by decide +kernel
theorem dX11_oneIf_0 : decode cX11_oneIf 0 = .ok (.iload_n 0, 1) := by decide +kernel
theorem dX11_oneIf_1 : decode cX11_oneIf 1 = .ok (.ifCond .eq 7, 3) := by decide +kernel
theorem dX11_oneIf_4 : decode cX11_oneIf 4 = .ok (.iconst 1, 1) := by decide +kernel
theorem dX11_oneIf_5 : decode cX11_oneIf 5 = .ok (.goto 4, 3) := by decide +kernel
theorem dX11_oneIf_8 : decode cX11_oneIf 8 = .ok (.iconst 0, 1) := by decide +kernel
theorem dX11_oneIf_9 : decode cX11_oneIf 9 = .ok (.ireturn, 1) := by decide +kernel
theorem dX11_isIn_0 : decode cX11_isIn 0 = .ok (.lload_n 0, 1) := by decide +kernel
theorem dX11_isIn_1 : decode cX11_isIn 1 = .ok (.iload_n 2, 1) := by decide +kernel
theorem dX11_isIn_2 : decode cX11_isIn 2 = .ok (.lushr, 1) := by decide +kernel
theorem dX11_isIn_3 : decode cX11_isIn 3 = .ok (.lconst 1, 1) := by decide +kernel
theorem dX11_isIn_4 : decode cX11_isIn 4 = .ok (.land, 1) := by decide +kernel
theorem dX11_isIn_5 : decode cX11_isIn 5 = .ok (.lconst 0, 1) := by decide +kernel
theorem dX11_isIn_6 : decode cX11_isIn 6 = .ok (.lcmp, 1) := by decide +kernel
theorem dX11_isIn_7 : decode cX11_isIn 7 = .ok (.ifCond .eq 7, 3) := by decide +kernel
theorem dX11_isIn_10 : decode cX11_isIn 10 = .ok (.iconst 1, 1) := by decide +kernel
theorem dX11_isIn_11 : decode cX11_isIn 11 = .ok (.goto 4, 3) := by decide +kernel
theorem dX11_isIn_14 : decode cX11_isIn 14 = .ok (.iconst 0, 1) := by decide +kernel
theorem dX11_isIn_15 : decode cX11_isIn 15 = .ok (.ireturn, 1) := by decide +kernel
theorem dX11_bytesIn_0 : decode cX11_bytesIn 0 = .ok (.iconst 0, 1) := by decide +kernel
theorem dX11_bytesIn_1 : decode cX11_bytesIn 1 = .ok (.istore_n 1, 1) := by decide +kernel
theorem dX11_bytesIn_2 : decode cX11_bytesIn 2 = .ok (.bipush 24, 2) := by decide +kernel
theorem dX11_bytesIn_4 : decode cX11_bytesIn 4 = .ok (.istore_n 2, 1) := by decide +kernel
theorem dX11_bytesIn_5 : decode cX11_bytesIn 5 = .ok (.iload_n 2, 1) := by decide +kernel
theorem dX11_bytesIn_6 : decode cX11_bytesIn 6 = .ok (.ifCond .lt 22, 3) := by decide +kernel
theorem dX11_bytesIn_9 : decode cX11_bytesIn 9 = .ok (.iload_n 0, 1) := by decide +kernel
theorem dX11_bytesIn_10 : decode cX11_bytesIn 10 = .ok (.iload_n 2, 1) := by decide +kernel
theorem dX11_bytesIn_11 : decode cX11_bytesIn 11 = .ok (.iushr, 1) := by decide +kernel
theorem dX11_bytesIn_12 : decode cX11_bytesIn 12 = .ok (.sipush 255, 3) := by decide +kernel
theorem dX11_bytesIn_15 : decode cX11_bytesIn 15 = .ok (.iand, 1) := by decide +kernel
theorem dX11_bytesIn_16 : decode cX11_bytesIn 16 = .ok (.ifCond .eq 6, 3) := by decide +kernel
theorem dX11_bytesIn_19 : decode cX11_bytesIn 19 = .ok (.iinc 1 1, 3) := by decide +kernel
theorem dX11_bytesIn_22 : decode cX11_bytesIn 22 = .ok (.iinc 2 (-8), 3) := by decide +kernel
theorem dX11_bytesIn_25 : decode cX11_bytesIn 25 = .ok (.goto (-20), 3) := by decide +kernel
theorem dX11_bytesIn_28 : decode cX11_bytesIn 28 = .ok (.iload_n 1, 1) := by decide +kernel
theorem dX11_bytesIn_29 : decode cX11_bytesIn 29 = .ok (.ireturn, 1) := by decide +kernel
theorem dX11_isInstruction_0 : decode cX11_isInstruction 0 = .ok (.iload_n 0, 1) := by decide +kernel
theorem dX11_isInstruction_1 : decode cX11_isInstruction 1 = .ok (.lookupswitch 100 #[(103, 84), (107, 51), (108, 68), (115, 68), (122, 84)], 51) := by decide +kernel
theorem dX11_isInstruction_52 : decode cX11_isInstruction 52 = .ok (.iload_n 1, 1) := by decide +kernel
theorem dX11_isInstruction_53 : decode cX11_isInstruction 53 = .ok (.ifCond .lt 14, 3) := by decide +kernel
theorem dX11_isInstruction_56 : decode cX11_isInstruction 56 = .ok (.iload_n 1, 1) := by decide +kernel
theorem dX11_isInstruction_57 : decode cX11_isInstruction 57 = .ok (.sipush 999, 3) := by decide +kernel
theorem dX11_isInstruction_60 : decode cX11_isInstruction 60 = .ok (.if_icmp .gt 7, 3) := by decide +kernel
theorem dX11_isInstruction_63 : decode cX11_isInstruction 63 = .ok (.iconst 1, 1) := by decide +kernel
theorem dX11_isInstruction_64 : decode cX11_isInstruction 64 = .ok (.goto 4, 3) := by decide +kernel
theorem dX11_isInstruction_67 : decode cX11_isInstruction 67 = .ok (.iconst 0, 1) := by decide +kernel
theorem dX11_isInstruction_68 : decode cX11_isInstruction 68 = .ok (.ireturn, 1) := by decide +kernel
theorem dX11_isInstruction_69 : decode cX11_isInstruction 69 = .ok (.iload_n 1, 1) := by decide +kernel
theorem dX11_isInstruction_70 : decode cX11_isInstruction 70 = .ok (.ifCond .lt 13, 3) := by decide +kernel
theorem dX11_isInstruction_73 : decode cX11_isInstruction 73 = .ok (.iload_n 1, 1) := by decide +kernel
theorem dX11_isInstruction_74 : decode cX11_isInstruction 74 = .ok (.bipush 6, 2) := by decide +kernel
theorem dX11_isInstruction_76 : decode cX11_isInstruction 76 = .ok (.if_icmp .ge 7, 3) := by decide +kernel
theorem dX11_isInstruction_79 : decode cX11_isInstruction 79 = .ok (.iconst 1, 1) := by decide +kernel
theorem dX11_isInstruction_80 : decode cX11_isInstruction 80 = .ok (.goto 4, 3) := by decide +kernel
theorem dX11_isInstruction_83 : decode cX11_isInstruction 83 = .ok (.iconst 0, 1) := by decide +kernel
theorem dX11_isInstruction_84 : decode cX11_isInstruction 84 = .ok (.ireturn, 1) := by decide +kernel
theorem dX11_isInstruction_85 : decode cX11_isInstruction 85 = .ok (.iload_n 1, 1) := by decide +kernel
theorem dX11_isInstruction_86 : decode cX11_isInstruction 86 = .ok (.ifCond .lt 13, 3) := by decide +kernel
theorem dX11_isInstruction_89 : decode cX11_isInstruction 89 = .ok (.iload_n 1, 1) := by decide +kernel
theorem dX11_isInstruction_90 : decode cX11_isInstruction 90 = .ok (.bipush 40, 2) := by decide +kernel
theorem dX11_isInstruction_92 : decode cX11_isInstruction 92 = .ok (.if_icmp .ge 7, 3) := by decide +kernel
theorem dX11_isInstruction_95 : decode cX11_isInstruction 95 = .ok (.iconst 1, 1) := by decide +kernel
theorem dX11_isInstruction_96 : decode cX11_isInstruction 96 = .ok (.goto 4, 3) := by decide +kernel
theorem dX11_isInstruction_99 : decode cX11_isInstruction 99 = .ok (.iconst 0, 1) := by decide +kernel
theorem dX11_isInstruction_100 : decode cX11_isInstruction 100 = .ok (.ireturn, 1) := by decide +kernel
theorem dX11_isInstruction_101 : decode cX11_isInstruction 101 = .ok (.iload_n 0, 1) := by decide +kernel
theorem dX11_isInstruction_102 : decode cX11_isInstruction 102 = .ok (.invokestatic 406, 3) := by decide +kernel
theorem dX11_isInstruction_105 : decode cX11_isInstruction 105 = .ok (.ifCond .eq 11, 3) := by decide +kernel
theorem dX11_isInstruction_108 : decode cX11_isInstruction 108 = .ok (.iload_n 1, 1) := by decide +kernel
theorem dX11_isInstruction_109 : decode cX11_isInstruction 109 = .ok (.ifCond .ne 7, 3) := by decide +kernel
theorem dX11_isInstruction_112 : decode cX11_isInstruction 112 = .ok (.iconst 1, 1) := by decide +kernel
theorem dX11_isInstruction_113 : decode cX11_isInstruction 113 = .ok (.goto 4, 3) := by decide +kernel
theorem dX11_isInstruction_116 : decode cX11_isInstruction 116 = .ok (.iconst 0, 1) := by decide +kernel
theorem dX11_isInstruction_117 : decode cX11_isInstruction 117 = .ok (.ireturn, 1) := by decide +kernel
theorem dX11_isBare_0 : decode cX11_isBare 0 = .ok (.iload_n 0, 1) := by decide +kernel
theorem dX11_isBare_1 : decode cX11_isBare 1 = .ok (.lookupswitch 85 #[(33, 83), (100, 83), (105, 83), (110, 83), (111, 83), (112, 83), (114, 83), (116, 83), (119, 83)], 83) := by decide +kernel
theorem dX11_isBare_84 : decode cX11_isBare 84 = .ok (.iconst 1, 1) := by decide +kernel
theorem dX11_isBare_85 : decode cX11_isBare 85 = .ok (.ireturn, 1) := by decide +kernel
theorem dX11_isBare_86 : decode cX11_isBare 86 = .ok (.iload_n 0, 1) := by decide +kernel
theorem dX11_isBare_87 : decode cX11_isBare 87 = .ok (.invokestatic 409, 3) := by decide +kernel
theorem dX11_isBare_90 : decode cX11_isBare 90 = .ok (.ireturn, 1) := by decide +kernel
theorem dX11_isBinary_0 : decode cX11_isBinary 0 = .ok (.iload_n 0, 1) := by decide +kernel
theorem dX11_isBinary_1 : decode cX11_isBinary 1 = .ok (.tableswitch 117 37 61 #[115, 117, 117, 117, 117, 115, 115, 117, 115, 117, 115, 117, 117, 117, 117, 117, 117, 117, 117, 117, 117, 117, 117, 115, 115], 115) := by decide +kernel
theorem dX11_isBinary_116 : decode cX11_isBinary 116 = .ok (.iconst 1, 1) := by decide +kernel
theorem dX11_isBinary_117 : decode cX11_isBinary 117 = .ok (.ireturn, 1) := by decide +kernel
theorem dX11_isBinary_118 : decode cX11_isBinary 118 = .ok (.iconst 0, 1) := by decide +kernel
theorem dX11_isBinary_119 : decode cX11_isBinary 119 = .ok (.ireturn, 1) := by decide +kernel
theorem dX11_isUnary_0 : decode cX11_isUnary 0 = .ok (.iload_n 0, 1) := by decide +kernel
theorem dX11_isUnary_1 : decode cX11_isUnary 1 = .ok (.bipush 33, 2) := by decide +kernel
theorem dX11_isUnary_3 : decode cX11_isUnary 3 = .ok (.if_icmp .eq 9, 3) := by decide +kernel
theorem dX11_isUnary_6 : decode cX11_isUnary 6 = .ok (.iload_n 0, 1) := by decide +kernel
theorem dX11_isUnary_7 : decode cX11_isUnary 7 = .ok (.bipush 110, 2) := by decide +kernel
theorem dX11_isUnary_9 : decode cX11_isUnary 9 = .ok (.if_icmp .ne 7, 3) := by decide +kernel
theorem dX11_isUnary_12 : decode cX11_isUnary 12 = .ok (.iconst 1, 1) := by decide +kernel
theorem dX11_isUnary_13 : decode cX11_isUnary 13 = .ok (.goto 4, 3) := by decide +kernel
theorem dX11_isUnary_16 : decode cX11_isUnary 16 = .ok (.iconst 0, 1) := by decide +kernel
theorem dX11_isUnary_17 : decode cX11_isUnary 17 = .ok (.ireturn, 1) := by decide +kernel
theorem dX11_outcome_0 : decode cX11_outcome 0 = .ok (.iload_n 0, 1) := by decide +kernel
theorem dX11_outcome_1 : decode cX11_outcome 1 = .ok (.tableswitch 199 33 61 #[189, 199, 199, 199, 155, 199, 199, 199, 199, 139, 131, 199, 135, 199, 143, 199, 199, 199, 199, 199, 199, 199, 199, 199, 199, 199, 199, 167, 178], 131) := by decide +kernel
theorem dX11_outcome_132 : decode cX11_outcome 132 = .ok (.iload_n 1, 1) := by decide +kernel
theorem dX11_outcome_133 : decode cX11_outcome 133 = .ok (.iload_n 2, 1) := by decide +kernel
theorem dX11_outcome_134 : decode cX11_outcome 134 = .ok (.iadd, 1) := by decide +kernel
theorem dX11_outcome_135 : decode cX11_outcome 135 = .ok (.ireturn, 1) := by decide +kernel
theorem dX11_outcome_136 : decode cX11_outcome 136 = .ok (.iload_n 1, 1) := by decide +kernel
theorem dX11_outcome_137 : decode cX11_outcome 137 = .ok (.iload_n 2, 1) := by decide +kernel
theorem dX11_outcome_138 : decode cX11_outcome 138 = .ok (.isub, 1) := by decide +kernel
theorem dX11_outcome_139 : decode cX11_outcome 139 = .ok (.ireturn, 1) := by decide +kernel
theorem dX11_outcome_140 : decode cX11_outcome 140 = .ok (.iload_n 1, 1) := by decide +kernel
theorem dX11_outcome_141 : decode cX11_outcome 141 = .ok (.iload_n 2, 1) := by decide +kernel
theorem dX11_outcome_142 : decode cX11_outcome 142 = .ok (.imul, 1) := by decide +kernel
theorem dX11_outcome_143 : decode cX11_outcome 143 = .ok (.ireturn, 1) := by decide +kernel
theorem dX11_outcome_144 : decode cX11_outcome 144 = .ok (.iload_n 2, 1) := by decide +kernel
theorem dX11_outcome_145 : decode cX11_outcome 145 = .ok (.ifCond .ne 7, 3) := by decide +kernel
theorem dX11_outcome_148 : decode cX11_outcome 148 = .ok (.iconst 0, 1) := by decide +kernel
theorem dX11_outcome_149 : decode cX11_outcome 149 = .ok (.goto 6, 3) := by decide +kernel
theorem dX11_outcome_152 : decode cX11_outcome 152 = .ok (.iload_n 1, 1) := by decide +kernel
theorem dX11_outcome_153 : decode cX11_outcome 153 = .ok (.iload_n 2, 1) := by decide +kernel
theorem dX11_outcome_154 : decode cX11_outcome 154 = .ok (.idiv, 1) := by decide +kernel
theorem dX11_outcome_155 : decode cX11_outcome 155 = .ok (.ireturn, 1) := by decide +kernel
theorem dX11_outcome_156 : decode cX11_outcome 156 = .ok (.iload_n 2, 1) := by decide +kernel
theorem dX11_outcome_157 : decode cX11_outcome 157 = .ok (.ifCond .ne 7, 3) := by decide +kernel
theorem dX11_outcome_160 : decode cX11_outcome 160 = .ok (.iconst 0, 1) := by decide +kernel
theorem dX11_outcome_161 : decode cX11_outcome 161 = .ok (.goto 6, 3) := by decide +kernel
theorem dX11_outcome_164 : decode cX11_outcome 164 = .ok (.iload_n 1, 1) := by decide +kernel
theorem dX11_outcome_165 : decode cX11_outcome 165 = .ok (.iload_n 2, 1) := by decide +kernel
theorem dX11_outcome_166 : decode cX11_outcome 166 = .ok (.irem, 1) := by decide +kernel
theorem dX11_outcome_167 : decode cX11_outcome 167 = .ok (.ireturn, 1) := by decide +kernel
theorem dX11_outcome_168 : decode cX11_outcome 168 = .ok (.iload_n 1, 1) := by decide +kernel
theorem dX11_outcome_169 : decode cX11_outcome 169 = .ok (.iload_n 2, 1) := by decide +kernel
theorem dX11_outcome_170 : decode cX11_outcome 170 = .ok (.if_icmp .ge 7, 3) := by decide +kernel
theorem dX11_outcome_173 : decode cX11_outcome 173 = .ok (.iconst 1, 1) := by decide +kernel
theorem dX11_outcome_174 : decode cX11_outcome 174 = .ok (.goto 4, 3) := by decide +kernel
theorem dX11_outcome_177 : decode cX11_outcome 177 = .ok (.iconst 0, 1) := by decide +kernel
theorem dX11_outcome_178 : decode cX11_outcome 178 = .ok (.ireturn, 1) := by decide +kernel
theorem dX11_outcome_179 : decode cX11_outcome 179 = .ok (.iload_n 1, 1) := by decide +kernel
theorem dX11_outcome_180 : decode cX11_outcome 180 = .ok (.iload_n 2, 1) := by decide +kernel
theorem dX11_outcome_181 : decode cX11_outcome 181 = .ok (.if_icmp .ne 7, 3) := by decide +kernel
theorem dX11_outcome_184 : decode cX11_outcome 184 = .ok (.iconst 1, 1) := by decide +kernel
theorem dX11_outcome_185 : decode cX11_outcome 185 = .ok (.goto 4, 3) := by decide +kernel
theorem dX11_outcome_188 : decode cX11_outcome 188 = .ok (.iconst 0, 1) := by decide +kernel
theorem dX11_outcome_189 : decode cX11_outcome 189 = .ok (.ireturn, 1) := by decide +kernel
theorem dX11_outcome_190 : decode cX11_outcome 190 = .ok (.iload_n 1, 1) := by decide +kernel
theorem dX11_outcome_191 : decode cX11_outcome 191 = .ok (.ifCond .ne 7, 3) := by decide +kernel
theorem dX11_outcome_194 : decode cX11_outcome 194 = .ok (.iconst 1, 1) := by decide +kernel
theorem dX11_outcome_195 : decode cX11_outcome 195 = .ok (.goto 4, 3) := by decide +kernel
theorem dX11_outcome_198 : decode cX11_outcome 198 = .ok (.iconst 0, 1) := by decide +kernel
theorem dX11_outcome_199 : decode cX11_outcome 199 = .ok (.ireturn, 1) := by decide +kernel
theorem dX11_outcome_200 : decode cX11_outcome 200 = .ok (.iload_n 1, 1) := by decide +kernel
theorem dX11_outcome_201 : decode cX11_outcome 201 = .ok (.ineg, 1) := by decide +kernel
theorem dX11_outcome_202 : decode cX11_outcome 202 = .ok (.ireturn, 1) := by decide +kernel
theorem dX11_dividesByZero_0 : decode cX11_dividesByZero 0 = .ok (.iload_n 0, 1) := by decide +kernel
theorem dX11_dividesByZero_1 : decode cX11_dividesByZero 1 = .ok (.bipush 47, 2) := by decide +kernel
theorem dX11_dividesByZero_3 : decode cX11_dividesByZero 3 = .ok (.if_icmp .eq 9, 3) := by decide +kernel
theorem dX11_dividesByZero_6 : decode cX11_dividesByZero 6 = .ok (.iload_n 0, 1) := by decide +kernel
theorem dX11_dividesByZero_7 : decode cX11_dividesByZero 7 = .ok (.bipush 37, 2) := by decide +kernel
theorem dX11_dividesByZero_9 : decode cX11_dividesByZero 9 = .ok (.if_icmp .ne 11, 3) := by decide +kernel
theorem dX11_dividesByZero_12 : decode cX11_dividesByZero 12 = .ok (.iload_n 1, 1) := by decide +kernel
theorem dX11_dividesByZero_13 : decode cX11_dividesByZero 13 = .ok (.ifCond .ne 7, 3) := by decide +kernel
theorem dX11_dividesByZero_16 : decode cX11_dividesByZero 16 = .ok (.iconst 1, 1) := by decide +kernel
theorem dX11_dividesByZero_17 : decode cX11_dividesByZero 17 = .ok (.goto 4, 3) := by decide +kernel
theorem dX11_dividesByZero_20 : decode cX11_dividesByZero 20 = .ok (.iconst 0, 1) := by decide +kernel
theorem dX11_dividesByZero_21 : decode cX11_dividesByZero 21 = .ok (.ireturn, 1) := by decide +kernel
theorem dX12_init_0 : decode cX12_init 0 = .ok (.aload_n 0, 1) := by decide +kernel
theorem dX12_init_1 : decode cX12_init 1 = .ok (.invokespecial 1, 3) := by decide +kernel
theorem dX12_init_4 : decode cX12_init 4 = .ok (.aload_n 0, 1) := by decide +kernel
theorem dX12_init_5 : decode cX12_init 5 = .ok (.sipush 240, 3) := by decide +kernel
theorem dX12_init_8 : decode cX12_init 8 = .ok (.newarray .byte, 2) := by decide +kernel
theorem dX12_init_10 : decode cX12_init 10 = .ok (.putfield 9, 3) := by decide +kernel
theorem dX12_init_13 : decode cX12_init 13 = .ok (.aload_n 0, 1) := by decide +kernel
theorem dX12_init_14 : decode cX12_init 14 = .ok (.bipush 40, 2) := by decide +kernel
theorem dX12_init_16 : decode cX12_init 16 = .ok (.newarray .int, 2) := by decide +kernel
theorem dX12_init_18 : decode cX12_init 18 = .ok (.putfield 13, 3) := by decide +kernel
theorem dX12_init_21 : decode cX12_init 21 = .ok (.aload_n 0, 1) := by decide +kernel
theorem dX12_init_22 : decode cX12_init 22 = .ok (.bipush 40, 2) := by decide +kernel
theorem dX12_init_24 : decode cX12_init 24 = .ok (.newarray .int, 2) := by decide +kernel
theorem dX12_init_26 : decode cX12_init 26 = .ok (.putfield 17, 3) := by decide +kernel
theorem dX12_init_29 : decode cX12_init 29 = .ok (.aload_n 0, 1) := by decide +kernel
theorem dX12_init_30 : decode cX12_init 30 = .ok (.bipush 9, 2) := by decide +kernel
theorem dX12_init_32 : decode cX12_init 32 = .ok (.newarray .int, 2) := by decide +kernel
theorem dX12_init_34 : decode cX12_init 34 = .ok (.putfield 20, 3) := by decide +kernel
theorem dX12_init_37 : decode cX12_init 37 = .ok (.aload_n 0, 1) := by decide +kernel
theorem dX12_init_38 : decode cX12_init 38 = .ok (.bipush 40, 2) := by decide +kernel
theorem dX12_init_40 : decode cX12_init 40 = .ok (.newarray .int, 2) := by decide +kernel
theorem dX12_init_42 : decode cX12_init 42 = .ok (.putfield 23, 3) := by decide +kernel
theorem dX12_init_45 : decode cX12_init 45 = .ok (.aload_n 0, 1) := by decide +kernel
theorem dX12_init_46 : decode cX12_init 46 = .ok (.bipush 40, 2) := by decide +kernel
theorem dX12_init_48 : decode cX12_init 48 = .ok (.newarray .int, 2) := by decide +kernel
theorem dX12_init_50 : decode cX12_init 50 = .ok (.putfield 26, 3) := by decide +kernel
theorem dX12_init_53 : decode cX12_init 53 = .ok (.aload_n 0, 1) := by decide +kernel
theorem dX12_init_54 : decode cX12_init 54 = .ok (.bipush 9, 2) := by decide +kernel
theorem dX12_init_56 : decode cX12_init 56 = .ok (.newarray .int, 2) := by decide +kernel
theorem dX12_init_58 : decode cX12_init 58 = .ok (.putfield 29, 3) := by decide +kernel
theorem dX12_init_61 : decode cX12_init 61 = .ok (.aload_n 0, 1) := by decide +kernel
theorem dX12_init_62 : decode cX12_init 62 = .ok (.bipush 40, 2) := by decide +kernel
theorem dX12_init_64 : decode cX12_init 64 = .ok (.newarray .int, 2) := by decide +kernel
theorem dX12_init_66 : decode cX12_init 66 = .ok (.putfield 32, 3) := by decide +kernel
theorem dX12_init_69 : decode cX12_init 69 = .ok (.aload_n 0, 1) := by decide +kernel
theorem dX12_init_70 : decode cX12_init 70 = .ok (.bipush 40, 2) := by decide +kernel
theorem dX12_init_72 : decode cX12_init 72 = .ok (.newarray .int, 2) := by decide +kernel
theorem dX12_init_74 : decode cX12_init 74 = .ok (.putfield 35, 3) := by decide +kernel
theorem dX12_init_77 : decode cX12_init 77 = .ok (.aload_n 0, 1) := by decide +kernel
theorem dX12_init_78 : decode cX12_init 78 = .ok (.bipush 9, 2) := by decide +kernel
theorem dX12_init_80 : decode cX12_init 80 = .ok (.newarray .int, 2) := by decide +kernel
theorem dX12_init_82 : decode cX12_init 82 = .ok (.putfield 38, 3) := by decide +kernel
theorem dX12_init_85 : decode cX12_init 85 = .ok (.aload_n 0, 1) := by decide +kernel
theorem dX12_init_86 : decode cX12_init 86 = .ok (.bipush 40, 2) := by decide +kernel
theorem dX12_init_88 : decode cX12_init 88 = .ok (.newarray .int, 2) := by decide +kernel
theorem dX12_init_90 : decode cX12_init 90 = .ok (.putfield 41, 3) := by decide +kernel
theorem dX12_init_93 : decode cX12_init 93 = .ok (.aload_n 0, 1) := by decide +kernel
theorem dX12_init_94 : decode cX12_init 94 = .ok (.bipush 40, 2) := by decide +kernel
theorem dX12_init_96 : decode cX12_init 96 = .ok (.newarray .int, 2) := by decide +kernel
theorem dX12_init_98 : decode cX12_init 98 = .ok (.putfield 44, 3) := by decide +kernel
theorem dX12_init_101 : decode cX12_init 101 = .ok (.aload_n 0, 1) := by decide +kernel
theorem dX12_init_102 : decode cX12_init 102 = .ok (.bipush 40, 2) := by decide +kernel
theorem dX12_init_104 : decode cX12_init 104 = .ok (.newarray .int, 2) := by decide +kernel
theorem dX12_init_106 : decode cX12_init 106 = .ok (.putfield 47, 3) := by decide +kernel
theorem dX12_init_109 : decode cX12_init 109 = .ok (.aload_n 0, 1) := by decide +kernel
theorem dX12_init_110 : decode cX12_init 110 = .ok (.bipush 40, 2) := by decide +kernel
theorem dX12_init_112 : decode cX12_init 112 = .ok (.newarray .int, 2) := by decide +kernel
theorem dX12_init_114 : decode cX12_init 114 = .ok (.putfield 50, 3) := by decide +kernel
theorem dX12_init_117 : decode cX12_init 117 = .ok (.aload_n 0, 1) := by decide +kernel
theorem dX12_init_118 : decode cX12_init 118 = .ok (.bipush 40, 2) := by decide +kernel
theorem dX12_init_120 : decode cX12_init 120 = .ok (.newarray .int, 2) := by decide +kernel
theorem dX12_init_122 : decode cX12_init 122 = .ok (.putfield 53, 3) := by decide +kernel
theorem dX12_init_125 : decode cX12_init 125 = .ok (.aload_n 0, 1) := by decide +kernel
theorem dX12_init_126 : decode cX12_init 126 = .ok (.bipush 40, 2) := by decide +kernel
theorem dX12_init_128 : decode cX12_init 128 = .ok (.newarray .int, 2) := by decide +kernel
theorem dX12_init_130 : decode cX12_init 130 = .ok (.putfield 56, 3) := by decide +kernel
theorem dX12_init_133 : decode cX12_init 133 = .ok (.aload_n 0, 1) := by decide +kernel
theorem dX12_init_134 : decode cX12_init 134 = .ok (.bipush 120, 2) := by decide +kernel
theorem dX12_init_136 : decode cX12_init 136 = .ok (.newarray .int, 2) := by decide +kernel
theorem dX12_init_138 : decode cX12_init 138 = .ok (.putfield 59, 3) := by decide +kernel
theorem dX12_init_141 : decode cX12_init 141 = .ok (.aload_n 0, 1) := by decide +kernel
theorem dX12_init_142 : decode cX12_init 142 = .ok (.bipush 120, 2) := by decide +kernel
theorem dX12_init_144 : decode cX12_init 144 = .ok (.newarray .int, 2) := by decide +kernel
theorem dX12_init_146 : decode cX12_init 146 = .ok (.putfield 62, 3) := by decide +kernel
theorem dX12_init_149 : decode cX12_init 149 = .ok (.aload_n 0, 1) := by decide +kernel
theorem dX12_init_150 : decode cX12_init 150 = .ok (.bipush 120, 2) := by decide +kernel
theorem dX12_init_152 : decode cX12_init 152 = .ok (.newarray .boolean, 2) := by decide +kernel
theorem dX12_init_154 : decode cX12_init 154 = .ok (.putfield 65, 3) := by decide +kernel
theorem dX12_init_157 : decode cX12_init 157 = .ok (.aload_n 0, 1) := by decide +kernel
theorem dX12_init_158 : decode cX12_init 158 = .ok (.bipush 120, 2) := by decide +kernel
theorem dX12_init_160 : decode cX12_init 160 = .ok (.newarray .boolean, 2) := by decide +kernel
theorem dX12_init_162 : decode cX12_init 162 = .ok (.putfield 69, 3) := by decide +kernel
theorem dX12_init_165 : decode cX12_init 165 = .ok (.aload_n 0, 1) := by decide +kernel
theorem dX12_init_166 : decode cX12_init 166 = .ok (.bipush 120, 2) := by decide +kernel
theorem dX12_init_168 : decode cX12_init 168 = .ok (.newarray .boolean, 2) := by decide +kernel
theorem dX12_init_170 : decode cX12_init 170 = .ok (.putfield 72, 3) := by decide +kernel
theorem dX12_init_173 : decode cX12_init 173 = .ok (.aload_n 0, 1) := by decide +kernel
theorem dX12_init_174 : decode cX12_init 174 = .ok (.bipush 40, 2) := by decide +kernel
theorem dX12_init_176 : decode cX12_init 176 = .ok (.newarray .long, 2) := by decide +kernel
theorem dX12_init_178 : decode cX12_init 178 = .ok (.putfield 75, 3) := by decide +kernel
theorem dX12_init_181 : decode cX12_init 181 = .ok (.aload_n 0, 1) := by decide +kernel
theorem dX12_init_182 : decode cX12_init 182 = .ok (.bipush 40, 2) := by decide +kernel
theorem dX12_init_184 : decode cX12_init 184 = .ok (.newarray .long, 2) := by decide +kernel
theorem dX12_init_186 : decode cX12_init 186 = .ok (.putfield 79, 3) := by decide +kernel
theorem dX12_init_189 : decode cX12_init 189 = .ok (.aload_n 0, 1) := by decide +kernel
theorem dX12_init_190 : decode cX12_init 190 = .ok (.bipush 40, 2) := by decide +kernel
theorem dX12_init_192 : decode cX12_init 192 = .ok (.newarray .int, 2) := by decide +kernel
theorem dX12_init_194 : decode cX12_init 194 = .ok (.putfield 82, 3) := by decide +kernel
theorem dX12_init_197 : decode cX12_init 197 = .ok (.aload_n 0, 1) := by decide +kernel
theorem dX12_init_198 : decode cX12_init 198 = .ok (.bipush 40, 2) := by decide +kernel
theorem dX12_init_200 : decode cX12_init 200 = .ok (.newarray .int, 2) := by decide +kernel
theorem dX12_init_202 : decode cX12_init 202 = .ok (.putfield 85, 3) := by decide +kernel
theorem dX12_init_205 : decode cX12_init 205 = .ok (.aload_n 0, 1) := by decide +kernel
theorem dX12_init_206 : decode cX12_init 206 = .ok (.sipush 6000, 3) := by decide +kernel
theorem dX12_init_209 : decode cX12_init 209 = .ok (.newarray .int, 2) := by decide +kernel
theorem dX12_init_211 : decode cX12_init 211 = .ok (.putfield 88, 3) := by decide +kernel
theorem dX12_init_214 : decode cX12_init 214 = .ok (.aload_n 0, 1) := by decide +kernel
theorem dX12_init_215 : decode cX12_init 215 = .ok (.sipush 6000, 3) := by decide +kernel
theorem dX12_init_218 : decode cX12_init 218 = .ok (.newarray .int, 2) := by decide +kernel
theorem dX12_init_220 : decode cX12_init 220 = .ok (.putfield 91, 3) := by decide +kernel
theorem dX12_init_223 : decode cX12_init 223 = .ok (.aload_n 0, 1) := by decide +kernel
theorem dX12_init_224 : decode cX12_init 224 = .ok (.sipush 6000, 3) := by decide +kernel
theorem dX12_init_227 : decode cX12_init 227 = .ok (.newarray .int, 2) := by decide +kernel
theorem dX12_init_229 : decode cX12_init 229 = .ok (.putfield 94, 3) := by decide +kernel
theorem dX12_init_232 : decode cX12_init 232 = .ok (.aload_n 0, 1) := by decide +kernel
theorem dX12_init_233 : decode cX12_init 233 = .ok (.sipush 400, 3) := by decide +kernel
theorem dX12_init_236 : decode cX12_init 236 = .ok (.newarray .int, 2) := by decide +kernel
theorem dX12_init_238 : decode cX12_init 238 = .ok (.putfield 97, 3) := by decide +kernel
theorem dX12_init_241 : decode cX12_init 241 = .ok (.aload_n 0, 1) := by decide +kernel
theorem dX12_init_242 : decode cX12_init 242 = .ok (.sipush 400, 3) := by decide +kernel
theorem dX12_init_245 : decode cX12_init 245 = .ok (.newarray .int, 2) := by decide +kernel
theorem dX12_init_247 : decode cX12_init 247 = .ok (.putfield 100, 3) := by decide +kernel
theorem dX12_init_250 : decode cX12_init 250 = .ok (.aload_n 0, 1) := by decide +kernel
theorem dX12_init_251 : decode cX12_init 251 = .ok (.sipush 400, 3) := by decide +kernel
theorem dX12_init_254 : decode cX12_init 254 = .ok (.newarray .int, 2) := by decide +kernel
theorem dX12_init_256 : decode cX12_init 256 = .ok (.putfield 103, 3) := by decide +kernel
theorem dX12_init_259 : decode cX12_init 259 = .ok (.aload_n 0, 1) := by decide +kernel
theorem dX12_init_260 : decode cX12_init 260 = .ok (.bipush 41, 2) := by decide +kernel
theorem dX12_init_262 : decode cX12_init 262 = .ok (.newarray .int, 2) := by decide +kernel
theorem dX12_init_264 : decode cX12_init 264 = .ok (.putfield 106, 3) := by decide +kernel
theorem dX12_init_267 : decode cX12_init 267 = .ok (.aload_n 0, 1) := by decide +kernel
theorem dX12_init_268 : decode cX12_init 268 = .ok (.bipush 40, 2) := by decide +kernel
theorem dX12_init_270 : decode cX12_init 270 = .ok (.newarray .int, 2) := by decide +kernel
theorem dX12_init_272 : decode cX12_init 272 = .ok (.putfield 109, 3) := by decide +kernel
theorem dX12_init_275 : decode cX12_init 275 = .ok (.aload_n 0, 1) := by decide +kernel
theorem dX12_init_276 : decode cX12_init 276 = .ok (.bipush 8, 2) := by decide +kernel
theorem dX12_init_278 : decode cX12_init 278 = .ok (.newarray .int, 2) := by decide +kernel
theorem dX12_init_280 : decode cX12_init 280 = .ok (.putfield 112, 3) := by decide +kernel
theorem dX12_init_283 : decode cX12_init 283 = .ok (.aload_n 0, 1) := by decide +kernel
theorem dX12_init_284 : decode cX12_init 284 = .ok (.bipush 6, 2) := by decide +kernel
theorem dX12_init_286 : decode cX12_init 286 = .ok (.newarray .boolean, 2) := by decide +kernel
theorem dX12_init_288 : decode cX12_init 288 = .ok (.putfield 115, 3) := by decide +kernel
theorem dX12_init_291 : decode cX12_init 291 = .ok (.aload_n 0, 1) := by decide +kernel
theorem dX12_init_292 : decode cX12_init 292 = .ok (.bipush 8, 2) := by decide +kernel
theorem dX12_init_294 : decode cX12_init 294 = .ok (.newarray .boolean, 2) := by decide +kernel
theorem dX12_init_296 : decode cX12_init 296 = .ok (.putfield 118, 3) := by decide +kernel
theorem dX12_init_299 : decode cX12_init 299 = .ok (.aload_n 0, 1) := by decide +kernel
theorem dX12_init_300 : decode cX12_init 300 = .ok (.sipush 400, 3) := by decide +kernel
theorem dX12_init_303 : decode cX12_init 303 = .ok (.newarray .boolean, 2) := by decide +kernel
theorem dX12_init_305 : decode cX12_init 305 = .ok (.putfield 121, 3) := by decide +kernel
theorem dX12_init_308 : decode cX12_init 308 = .ok (.aload_n 0, 1) := by decide +kernel
theorem dX12_init_309 : decode cX12_init 309 = .ok (.bipush 40, 2) := by decide +kernel
theorem dX12_init_311 : decode cX12_init 311 = .ok (.newarray .int, 2) := by decide +kernel
theorem dX12_init_313 : decode cX12_init 313 = .ok (.putfield 124, 3) := by decide +kernel
theorem dX12_init_316 : decode cX12_init 316 = .ok (.aload_n 0, 1) := by decide +kernel
theorem dX12_init_317 : decode cX12_init 317 = .ok (.bipush 40, 2) := by decide +kernel
theorem dX12_init_319 : decode cX12_init 319 = .ok (.newarray .int, 2) := by decide +kernel
theorem dX12_init_321 : decode cX12_init 321 = .ok (.putfield 127, 3) := by decide +kernel
theorem dX12_init_324 : decode cX12_init 324 = .ok (.aload_n 0, 1) := by decide +kernel
theorem dX12_init_325 : decode cX12_init 325 = .ok (.bipush 40, 2) := by decide +kernel
theorem dX12_init_327 : decode cX12_init 327 = .ok (.newarray .boolean, 2) := by decide +kernel
theorem dX12_init_329 : decode cX12_init 329 = .ok (.putfield 130, 3) := by decide +kernel
theorem dX12_init_332 : decode cX12_init 332 = .ok (.aload_n 0, 1) := by decide +kernel
theorem dX12_init_333 : decode cX12_init 333 = .ok (.sipush 1400, 3) := by decide +kernel
theorem dX12_init_336 : decode cX12_init 336 = .ok (.newarray .int, 2) := by decide +kernel
theorem dX12_init_338 : decode cX12_init 338 = .ok (.putfield 133, 3) := by decide +kernel
theorem dX12_init_341 : decode cX12_init 341 = .ok (.aload_n 0, 1) := by decide +kernel
theorem dX12_init_342 : decode cX12_init 342 = .ok (.sipush 1400, 3) := by decide +kernel
theorem dX12_init_345 : decode cX12_init 345 = .ok (.newarray .int, 2) := by decide +kernel
theorem dX12_init_347 : decode cX12_init 347 = .ok (.putfield 136, 3) := by decide +kernel
theorem dX12_init_350 : decode cX12_init 350 = .ok (.aload_n 0, 1) := by decide +kernel
theorem dX12_init_351 : decode cX12_init 351 = .ok (.sipush 1400, 3) := by decide +kernel
theorem dX12_init_354 : decode cX12_init 354 = .ok (.newarray .int, 2) := by decide +kernel
theorem dX12_init_356 : decode cX12_init 356 = .ok (.putfield 139, 3) := by decide +kernel
theorem dX12_init_359 : decode cX12_init 359 = .ok (.aload_n 0, 1) := by decide +kernel
theorem dX12_init_360 : decode cX12_init 360 = .ok (.sipush 1400, 3) := by decide +kernel
theorem dX12_init_363 : decode cX12_init 363 = .ok (.newarray .int, 2) := by decide +kernel
theorem dX12_init_365 : decode cX12_init 365 = .ok (.putfield 142, 3) := by decide +kernel
theorem dX12_init_368 : decode cX12_init 368 = .ok (.aload_n 0, 1) := by decide +kernel
theorem dX12_init_369 : decode cX12_init 369 = .ok (.sipush 1400, 3) := by decide +kernel
theorem dX12_init_372 : decode cX12_init 372 = .ok (.newarray .boolean, 2) := by decide +kernel
theorem dX12_init_374 : decode cX12_init 374 = .ok (.putfield 145, 3) := by decide +kernel
theorem dX12_init_377 : decode cX12_init 377 = .ok (.aload_n 0, 1) := by decide +kernel
theorem dX12_init_378 : decode cX12_init 378 = .ok (.sipush 2000, 3) := by decide +kernel
theorem dX12_init_381 : decode cX12_init 381 = .ok (.newarray .int, 2) := by decide +kernel
theorem dX12_init_383 : decode cX12_init 383 = .ok (.putfield 148, 3) := by decide +kernel
theorem dX12_init_386 : decode cX12_init 386 = .ok (.aload_n 0, 1) := by decide +kernel
theorem dX12_init_387 : decode cX12_init 387 = .ok (.sipush 6000, 3) := by decide +kernel
theorem dX12_init_390 : decode cX12_init 390 = .ok (.newarray .int, 2) := by decide +kernel
theorem dX12_init_392 : decode cX12_init 392 = .ok (.putfield 151, 3) := by decide +kernel
theorem dX12_init_395 : decode cX12_init 395 = .ok (.aload_n 0, 1) := by decide +kernel
theorem dX12_init_396 : decode cX12_init 396 = .ok (.bipush 6, 2) := by decide +kernel
theorem dX12_init_398 : decode cX12_init 398 = .ok (.newarray .int, 2) := by decide +kernel
theorem dX12_init_400 : decode cX12_init 400 = .ok (.putfield 154, 3) := by decide +kernel
theorem dX12_init_403 : decode cX12_init 403 = .ok (.aload_n 0, 1) := by decide +kernel
theorem dX12_init_404 : decode cX12_init 404 = .ok (.sipush 8000, 3) := by decide +kernel
theorem dX12_init_407 : decode cX12_init 407 = .ok (.newarray .int, 2) := by decide +kernel
theorem dX12_init_409 : decode cX12_init 409 = .ok (.putfield 157, 3) := by decide +kernel
theorem dX12_init_412 : decode cX12_init 412 = .ok (.aload_n 0, 1) := by decide +kernel
theorem dX12_init_413 : decode cX12_init 413 = .ok (.bipush 8, 2) := by decide +kernel
theorem dX12_init_415 : decode cX12_init 415 = .ok (.newarray .int, 2) := by decide +kernel
theorem dX12_init_417 : decode cX12_init 417 = .ok (.putfield 160, 3) := by decide +kernel
theorem dX12_init_420 : decode cX12_init 420 = .ok (.aload_n 0, 1) := by decide +kernel
theorem dX12_init_421 : decode cX12_init 421 = .ok (.bipush 8, 2) := by decide +kernel
theorem dX12_init_423 : decode cX12_init 423 = .ok (.newarray .int, 2) := by decide +kernel
theorem dX12_init_425 : decode cX12_init 425 = .ok (.putfield 163, 3) := by decide +kernel
theorem dX12_init_428 : decode cX12_init 428 = .ok (.aload_n 0, 1) := by decide +kernel
theorem dX12_init_429 : decode cX12_init 429 = .ok (.sipush 400, 3) := by decide +kernel
theorem dX12_init_432 : decode cX12_init 432 = .ok (.newarray .int, 2) := by decide +kernel
theorem dX12_init_434 : decode cX12_init 434 = .ok (.putfield 166, 3) := by decide +kernel
theorem dX12_init_437 : decode cX12_init 437 = .ok (.return_, 1) := by decide +kernel
theorem dX12_isIn_0 : decode cX12_isIn 0 = .ok (.lload_n 0, 1) := by decide +kernel
theorem dX12_isIn_1 : decode cX12_isIn 1 = .ok (.lload_n 2, 1) := by decide +kernel
theorem dX12_isIn_2 : decode cX12_isIn 2 = .ok (.lcmp, 1) := by decide +kernel
theorem dX12_isIn_3 : decode cX12_isIn 3 = .ok (.ifCond .lt 14, 3) := by decide +kernel
theorem dX12_isIn_6 : decode cX12_isIn 6 = .ok (.lload_n 0, 1) := by decide +kernel
theorem dX12_isIn_7 : decode cX12_isIn 7 = .ok (.lload 4, 2) := by decide +kernel
theorem dX12_isIn_9 : decode cX12_isIn 9 = .ok (.lcmp, 1) := by decide +kernel
theorem dX12_isIn_10 : decode cX12_isIn 10 = .ok (.ifCond .gt 7, 3) := by decide +kernel
theorem dX12_isIn_13 : decode cX12_isIn 13 = .ok (.iconst 1, 1) := by decide +kernel
theorem dX12_isIn_14 : decode cX12_isIn 14 = .ok (.goto 4, 3) := by decide +kernel
theorem dX12_isIn_17 : decode cX12_isIn 17 = .ok (.iconst 0, 1) := by decide +kernel
theorem dX12_isIn_18 : decode cX12_isIn 18 = .ok (.ireturn, 1) := by decide +kernel
theorem dX12_has_0 : decode cX12_has 0 = .ok (.lload_n 0, 1) := by decide +kernel
theorem dX12_has_1 : decode cX12_has 1 = .ok (.iload_n 2, 1) := by decide +kernel
theorem dX12_has_2 : decode cX12_has 2 = .ok (.lshr, 1) := by decide +kernel
theorem dX12_has_3 : decode cX12_has 3 = .ok (.lconst 1, 1) := by decide +kernel
theorem dX12_has_4 : decode cX12_has 4 = .ok (.land, 1) := by decide +kernel
theorem dX12_has_5 : decode cX12_has 5 = .ok (.lconst 1, 1) := by decide +kernel
theorem dX12_has_6 : decode cX12_has 6 = .ok (.lcmp, 1) := by decide +kernel
theorem dX12_has_7 : decode cX12_has 7 = .ok (.ifCond .ne 7, 3) := by decide +kernel
theorem dX12_has_10 : decode cX12_has 10 = .ok (.iconst 1, 1) := by decide +kernel
theorem dX12_has_11 : decode cX12_has 11 = .ok (.goto 4, 3) := by decide +kernel
theorem dX12_has_14 : decode cX12_has 14 = .ok (.iconst 0, 1) := by decide +kernel
theorem dX12_has_15 : decode cX12_has 15 = .ok (.ireturn, 1) := by decide +kernel
theorem dX12_ones_0 : decode cX12_ones 0 = .ok (.iconst 0, 1) := by decide +kernel
theorem dX12_ones_1 : decode cX12_ones 1 = .ok (.istore_n 2, 1) := by decide +kernel
theorem dX12_ones_2 : decode cX12_ones 2 = .ok (.iconst 0, 1) := by decide +kernel
theorem dX12_ones_3 : decode cX12_ones 3 = .ok (.istore_n 3, 1) := by decide +kernel
theorem dX12_ones_4 : decode cX12_ones 4 = .ok (.iload_n 3, 1) := by decide +kernel
theorem dX12_ones_5 : decode cX12_ones 5 = .ok (.bipush 40, 2) := by decide +kernel
theorem dX12_ones_7 : decode cX12_ones 7 = .ok (.if_icmp .ge 25, 3) := by decide +kernel
theorem dX12_ones_10 : decode cX12_ones 10 = .ok (.iload_n 2, 1) := by decide +kernel
theorem dX12_ones_11 : decode cX12_ones 11 = .ok (.lload_n 0, 1) := by decide +kernel
theorem dX12_ones_12 : decode cX12_ones 12 = .ok (.iload_n 3, 1) := by decide +kernel
theorem dX12_ones_13 : decode cX12_ones 13 = .ok (.invokestatic 173, 3) := by decide +kernel
theorem dX12_ones_16 : decode cX12_ones 16 = .ok (.ifCond .eq 7, 3) := by decide +kernel
theorem dX12_ones_19 : decode cX12_ones 19 = .ok (.iconst 1, 1) := by decide +kernel
theorem dX12_ones_20 : decode cX12_ones 20 = .ok (.goto 4, 3) := by decide +kernel
theorem dX12_ones_23 : decode cX12_ones 23 = .ok (.iconst 0, 1) := by decide +kernel
theorem dX12_ones_24 : decode cX12_ones 24 = .ok (.iadd, 1) := by decide +kernel
theorem dX12_ones_25 : decode cX12_ones 25 = .ok (.istore_n 2, 1) := by decide +kernel
theorem dX12_ones_26 : decode cX12_ones 26 = .ok (.iinc 3 1, 3) := by decide +kernel
theorem dX12_ones_29 : decode cX12_ones 29 = .ok (.goto (-25), 3) := by decide +kernel
theorem dX12_ones_32 : decode cX12_ones 32 = .ok (.iload_n 2, 1) := by decide +kernel
theorem dX12_ones_33 : decode cX12_ones 33 = .ok (.ireturn, 1) := by decide +kernel
theorem dX12_bytesOf_0 : decode cX12_bytesOf 0 = .ok (.iconst 0, 1) := by decide +kernel
theorem dX12_bytesOf_1 : decode cX12_bytesOf 1 = .ok (.istore_n 1, 1) := by decide +kernel
theorem dX12_bytesOf_2 : decode cX12_bytesOf 2 = .ok (.iconst 0, 1) := by decide +kernel
theorem dX12_bytesOf_3 : decode cX12_bytesOf 3 = .ok (.istore_n 2, 1) := by decide +kernel
theorem dX12_bytesOf_4 : decode cX12_bytesOf 4 = .ok (.iload_n 2, 1) := by decide +kernel
theorem dX12_bytesOf_5 : decode cX12_bytesOf 5 = .ok (.iconst 4, 1) := by decide +kernel
theorem dX12_bytesOf_6 : decode cX12_bytesOf 6 = .ok (.if_icmp .ge 30, 3) := by decide +kernel
theorem dX12_bytesOf_9 : decode cX12_bytesOf 9 = .ok (.iload_n 1, 1) := by decide +kernel
theorem dX12_bytesOf_10 : decode cX12_bytesOf 10 = .ok (.iload_n 0, 1) := by decide +kernel
theorem dX12_bytesOf_11 : decode cX12_bytesOf 11 = .ok (.bipush 8, 2) := by decide +kernel
theorem dX12_bytesOf_13 : decode cX12_bytesOf 13 = .ok (.iload_n 2, 1) := by decide +kernel
theorem dX12_bytesOf_14 : decode cX12_bytesOf 14 = .ok (.imul, 1) := by decide +kernel
theorem dX12_bytesOf_15 : decode cX12_bytesOf 15 = .ok (.ishr, 1) := by decide +kernel
theorem dX12_bytesOf_16 : decode cX12_bytesOf 16 = .ok (.sipush 255, 3) := by decide +kernel
theorem dX12_bytesOf_19 : decode cX12_bytesOf 19 = .ok (.iand, 1) := by decide +kernel
theorem dX12_bytesOf_20 : decode cX12_bytesOf 20 = .ok (.ifCond .ne 7, 3) := by decide +kernel
theorem dX12_bytesOf_23 : decode cX12_bytesOf 23 = .ok (.iconst 0, 1) := by decide +kernel
theorem dX12_bytesOf_24 : decode cX12_bytesOf 24 = .ok (.goto 4, 3) := by decide +kernel
theorem dX12_bytesOf_27 : decode cX12_bytesOf 27 = .ok (.iconst 1, 1) := by decide +kernel
theorem dX12_bytesOf_28 : decode cX12_bytesOf 28 = .ok (.iadd, 1) := by decide +kernel
theorem dX12_bytesOf_29 : decode cX12_bytesOf 29 = .ok (.istore_n 1, 1) := by decide +kernel
theorem dX12_bytesOf_30 : decode cX12_bytesOf 30 = .ok (.iinc 2 1, 3) := by decide +kernel
theorem dX12_bytesOf_33 : decode cX12_bytesOf 33 = .ok (.goto (-29), 3) := by decide +kernel
theorem dX12_bytesOf_36 : decode cX12_bytesOf 36 = .ok (.iload_n 1, 1) := by decide +kernel
theorem dX12_bytesOf_37 : decode cX12_bytesOf 37 = .ok (.ireturn, 1) := by decide +kernel
theorem dX12_brings_0 : decode cX12_brings 0 = .ok (.bipush 24, 2) := by decide +kernel
theorem dX12_brings_2 : decode cX12_brings 2 = .ok (.istore_n 2, 1) := by decide +kernel
theorem dX12_brings_3 : decode cX12_brings 3 = .ok (.iload_n 2, 1) := by decide +kernel
theorem dX12_brings_4 : decode cX12_brings 4 = .ok (.ifCond .lt 45, 3) := by decide +kernel
theorem dX12_brings_7 : decode cX12_brings 7 = .ok (.iload_n 1, 1) := by decide +kernel
theorem dX12_brings_8 : decode cX12_brings 8 = .ok (.iload_n 2, 1) := by decide +kernel
theorem dX12_brings_9 : decode cX12_brings 9 = .ok (.ishr, 1) := by decide +kernel
theorem dX12_brings_10 : decode cX12_brings 10 = .ok (.sipush 255, 3) := by decide +kernel
theorem dX12_brings_13 : decode cX12_brings 13 = .ok (.iand, 1) := by decide +kernel
theorem dX12_brings_14 : decode cX12_brings 14 = .ok (.istore_n 3, 1) := by decide +kernel
theorem dX12_brings_15 : decode cX12_brings 15 = .ok (.iload_n 3, 1) := by decide +kernel
theorem dX12_brings_16 : decode cX12_brings 16 = .ok (.ifCond .ne 6, 3) := by decide +kernel
theorem dX12_brings_19 : decode cX12_brings 19 = .ok (.goto 24, 3) := by decide +kernel
theorem dX12_brings_22 : decode cX12_brings 22 = .ok (.aload_n 0, 1) := by decide +kernel
theorem dX12_brings_23 : decode cX12_brings 23 = .ok (.getfield 9, 3) := by decide +kernel
theorem dX12_brings_26 : decode cX12_brings 26 = .ok (.aload_n 0, 1) := by decide +kernel
theorem dX12_brings_27 : decode cX12_brings 27 = .ok (.getfield 177, 3) := by decide +kernel
theorem dX12_brings_30 : decode cX12_brings 30 = .ok (.iload_n 3, 1) := by decide +kernel
theorem dX12_brings_31 : decode cX12_brings 31 = .ok (.i2b, 1) := by decide +kernel
theorem dX12_brings_32 : decode cX12_brings 32 = .ok (.bastore, 1) := by decide +kernel
theorem dX12_brings_33 : decode cX12_brings 33 = .ok (.aload_n 0, 1) := by decide +kernel
theorem dX12_brings_34 : decode cX12_brings 34 = .ok (.dup, 1) := by decide +kernel
theorem dX12_brings_35 : decode cX12_brings 35 = .ok (.getfield 177, 3) := by decide +kernel
theorem dX12_brings_38 : decode cX12_brings 38 = .ok (.iconst 1, 1) := by decide +kernel
theorem dX12_brings_39 : decode cX12_brings 39 = .ok (.iadd, 1) := by decide +kernel
theorem dX12_brings_40 : decode cX12_brings 40 = .ok (.putfield 177, 3) := by decide +kernel
theorem dX12_brings_43 : decode cX12_brings 43 = .ok (.iinc 2 (-8), 3) := by decide +kernel
theorem dX12_brings_46 : decode cX12_brings 46 = .ok (.goto (-43), 3) := by decide +kernel
theorem dX12_brings_49 : decode cX12_brings 49 = .ok (.return_, 1) := by decide +kernel
theorem dX12_feed_0 : decode cX12_feed 0 = .ok (.aload_n 0, 1) := by decide +kernel
theorem dX12_feed_1 : decode cX12_feed 1 = .ok (.iconst 0, 1) := by decide +kernel
theorem dX12_feed_2 : decode cX12_feed 2 = .ok (.putfield 169, 3) := by decide +kernel
theorem dX12_feed_5 : decode cX12_feed 5 = .ok (.aload_n 0, 1) := by decide +kernel
theorem dX12_feed_6 : decode cX12_feed 6 = .ok (.getfield 177, 3) := by decide +kernel
theorem dX12_feed_9 : decode cX12_feed 9 = .ok (.iload_n 1, 1) := by decide +kernel
theorem dX12_feed_10 : decode cX12_feed 10 = .ok (.invokestatic 180, 3) := by decide +kernel
theorem dX12_feed_13 : decode cX12_feed 13 = .ok (.iadd, 1) := by decide +kernel
theorem dX12_feed_14 : decode cX12_feed 14 = .ok (.iload_n 2, 1) := by decide +kernel
theorem dX12_feed_15 : decode cX12_feed 15 = .ok (.invokestatic 180, 3) := by decide +kernel
theorem dX12_feed_18 : decode cX12_feed 18 = .ok (.iadd, 1) := by decide +kernel
theorem dX12_feed_19 : decode cX12_feed 19 = .ok (.iload_n 3, 1) := by decide +kernel
theorem dX12_feed_20 : decode cX12_feed 20 = .ok (.invokestatic 180, 3) := by decide +kernel
theorem dX12_feed_23 : decode cX12_feed 23 = .ok (.iadd, 1) := by decide +kernel
theorem dX12_feed_24 : decode cX12_feed 24 = .ok (.iload 4, 2) := by decide +kernel
theorem dX12_feed_26 : decode cX12_feed 26 = .ok (.invokestatic 180, 3) := by decide +kernel
theorem dX12_feed_29 : decode cX12_feed 29 = .ok (.iadd, 1) := by decide +kernel
theorem dX12_feed_30 : decode cX12_feed 30 = .ok (.iload 5, 2) := by decide +kernel
theorem dX12_feed_32 : decode cX12_feed 32 = .ok (.invokestatic 180, 3) := by decide +kernel
theorem dX12_feed_35 : decode cX12_feed 35 = .ok (.iadd, 1) := by decide +kernel
theorem dX12_feed_36 : decode cX12_feed 36 = .ok (.sipush 240, 3) := by decide +kernel
theorem dX12_feed_39 : decode cX12_feed 39 = .ok (.if_icmp .le 5, 3) := by decide +kernel
theorem dX12_feed_42 : decode cX12_feed 42 = .ok (.iconst (-1), 1) := by decide +kernel
theorem dX12_feed_43 : decode cX12_feed 43 = .ok (.ireturn, 1) := by decide +kernel
theorem dX12_feed_44 : decode cX12_feed 44 = .ok (.aload_n 0, 1) := by decide +kernel
theorem dX12_feed_45 : decode cX12_feed 45 = .ok (.iload_n 1, 1) := by decide +kernel
theorem dX12_feed_46 : decode cX12_feed 46 = .ok (.invokevirtual 184, 3) := by decide +kernel
theorem dX12_feed_49 : decode cX12_feed 49 = .ok (.aload_n 0, 1) := by decide +kernel
theorem dX12_feed_50 : decode cX12_feed 50 = .ok (.iload_n 2, 1) := by decide +kernel
theorem dX12_feed_51 : decode cX12_feed 51 = .ok (.invokevirtual 184, 3) := by decide +kernel
theorem dX12_feed_54 : decode cX12_feed 54 = .ok (.aload_n 0, 1) := by decide +kernel
theorem dX12_feed_55 : decode cX12_feed 55 = .ok (.iload_n 3, 1) := by decide +kernel
theorem dX12_feed_56 : decode cX12_feed 56 = .ok (.invokevirtual 184, 3) := by decide +kernel
theorem dX12_feed_59 : decode cX12_feed 59 = .ok (.aload_n 0, 1) := by decide +kernel
theorem dX12_feed_60 : decode cX12_feed 60 = .ok (.iload 4, 2) := by decide +kernel
theorem dX12_feed_62 : decode cX12_feed 62 = .ok (.invokevirtual 184, 3) := by decide +kernel
theorem dX12_feed_65 : decode cX12_feed 65 = .ok (.aload_n 0, 1) := by decide +kernel
theorem dX12_feed_66 : decode cX12_feed 66 = .ok (.iload 5, 2) := by decide +kernel
theorem dX12_feed_68 : decode cX12_feed 68 = .ok (.invokevirtual 184, 3) := by decide +kernel
theorem dX12_feed_71 : decode cX12_feed 71 = .ok (.aload_n 0, 1) := by decide +kernel
theorem dX12_feed_72 : decode cX12_feed 72 = .ok (.getfield 177, 3) := by decide +kernel
theorem dX12_feed_75 : decode cX12_feed 75 = .ok (.ireturn, 1) := by decide +kernel
theorem dX12_end_0 : decode cX12_end 0 = .ok (.aload_n 0, 1) := by decide +kernel
theorem dX12_end_1 : decode cX12_end 1 = .ok (.iconst 0, 1) := by decide +kernel
theorem dX12_end_2 : decode cX12_end 2 = .ok (.putfield 169, 3) := by decide +kernel
theorem dX12_end_5 : decode cX12_end 5 = .ok (.iload_n 1, 1) := by decide +kernel
theorem dX12_end_6 : decode cX12_end 6 = .ok (.ifCond .lt 11, 3) := by decide +kernel
theorem dX12_end_9 : decode cX12_end 9 = .ok (.iload_n 1, 1) := by decide +kernel
theorem dX12_end_10 : decode cX12_end 10 = .ok (.aload_n 0, 1) := by decide +kernel
theorem dX12_end_11 : decode cX12_end 11 = .ok (.getfield 177, 3) := by decide +kernel
theorem dX12_end_14 : decode cX12_end 14 = .ok (.if_icmp .le 5, 3) := by decide +kernel
theorem dX12_end_17 : decode cX12_end 17 = .ok (.iconst 0, 1) := by decide +kernel
theorem dX12_end_18 : decode cX12_end 18 = .ok (.ireturn, 1) := by decide +kernel
theorem dX12_end_19 : decode cX12_end 19 = .ok (.aload_n 0, 1) := by decide +kernel
theorem dX12_end_20 : decode cX12_end 20 = .ok (.iload_n 1, 1) := by decide +kernel
theorem dX12_end_21 : decode cX12_end 21 = .ok (.putfield 177, 3) := by decide +kernel
theorem dX12_end_24 : decode cX12_end 24 = .ok (.iconst 1, 1) := by decide +kernel
theorem dX12_end_25 : decode cX12_end 25 = .ok (.ireturn, 1) := by decide +kernel
theorem dX12_here_0 : decode cX12_here 0 = .ok (.aload_n 0, 1) := by decide +kernel
theorem dX12_here_1 : decode cX12_here 1 = .ok (.getfield 188, 3) := by decide +kernel
theorem dX12_here_4 : decode cX12_here 4 = .ok (.aload_n 0, 1) := by decide +kernel
theorem dX12_here_5 : decode cX12_here 5 = .ok (.getfield 177, 3) := by decide +kernel
theorem dX12_here_8 : decode cX12_here 8 = .ok (.if_icmp .ge 19, 3) := by decide +kernel
theorem dX12_here_11 : decode cX12_here 11 = .ok (.aload_n 0, 1) := by decide +kernel
theorem dX12_here_12 : decode cX12_here 12 = .ok (.getfield 9, 3) := by decide +kernel
theorem dX12_here_15 : decode cX12_here 15 = .ok (.aload_n 0, 1) := by decide +kernel
theorem dX12_here_16 : decode cX12_here 16 = .ok (.getfield 188, 3) := by decide +kernel
theorem dX12_here_19 : decode cX12_here 19 = .ok (.baload, 1) := by decide +kernel
theorem dX12_here_20 : decode cX12_here 20 = .ok (.sipush 255, 3) := by decide +kernel
theorem dX12_here_23 : decode cX12_here 23 = .ok (.iand, 1) := by decide +kernel
theorem dX12_here_24 : decode cX12_here 24 = .ok (.goto 4, 3) := by decide +kernel
theorem dX12_here_27 : decode cX12_here 27 = .ok (.iconst (-1), 1) := by decide +kernel
theorem dX12_here_28 : decode cX12_here 28 = .ok (.ireturn, 1) := by decide +kernel
theorem dX12_look_0 : decode cX12_look 0 = .ok (.aload_n 0, 1) := by decide +kernel
theorem dX12_look_1 : decode cX12_look 1 = .ok (.invokevirtual 191, 3) := by decide +kernel
theorem dX12_look_4 : decode cX12_look 4 = .ok (.bipush 32, 2) := by decide +kernel
theorem dX12_look_6 : decode cX12_look 6 = .ok (.if_icmp .ne 16, 3) := by decide +kernel
theorem dX12_look_9 : decode cX12_look 9 = .ok (.aload_n 0, 1) := by decide +kernel
theorem dX12_look_10 : decode cX12_look 10 = .ok (.dup, 1) := by decide +kernel
theorem dX12_look_11 : decode cX12_look 11 = .ok (.getfield 188, 3) := by decide +kernel
theorem dX12_look_14 : decode cX12_look 14 = .ok (.iconst 1, 1) := by decide +kernel
theorem dX12_look_15 : decode cX12_look 15 = .ok (.iadd, 1) := by decide +kernel
theorem dX12_look_16 : decode cX12_look 16 = .ok (.putfield 188, 3) := by decide +kernel
theorem dX12_look_19 : decode cX12_look 19 = .ok (.goto (-19), 3) := by decide +kernel
theorem dX12_look_22 : decode cX12_look 22 = .ok (.aload_n 0, 1) := by decide +kernel
theorem dX12_look_23 : decode cX12_look 23 = .ok (.invokevirtual 191, 3) := by decide +kernel
theorem dX12_look_26 : decode cX12_look 26 = .ok (.ireturn, 1) := by decide +kernel
theorem dX12_isDigit_0 : decode cX12_isDigit 0 = .ok (.aload_n 0, 1) := by decide +kernel
theorem dX12_isDigit_1 : decode cX12_isDigit 1 = .ok (.invokevirtual 191, 3) := by decide +kernel
theorem dX12_isDigit_4 : decode cX12_isDigit 4 = .ok (.bipush 48, 2) := by decide +kernel
theorem dX12_isDigit_6 : decode cX12_isDigit 6 = .ok (.if_icmp .lt 16, 3) := by decide +kernel
theorem dX12_isDigit_9 : decode cX12_isDigit 9 = .ok (.aload_n 0, 1) := by decide +kernel
theorem dX12_isDigit_10 : decode cX12_isDigit 10 = .ok (.invokevirtual 191, 3) := by decide +kernel
theorem dX12_isDigit_13 : decode cX12_isDigit 13 = .ok (.bipush 57, 2) := by decide +kernel
theorem dX12_isDigit_15 : decode cX12_isDigit 15 = .ok (.if_icmp .gt 7, 3) := by decide +kernel
theorem dX12_isDigit_18 : decode cX12_isDigit 18 = .ok (.iconst 1, 1) := by decide +kernel
theorem dX12_isDigit_19 : decode cX12_isDigit 19 = .ok (.goto 4, 3) := by decide +kernel
theorem dX12_isDigit_22 : decode cX12_isDigit 22 = .ok (.iconst 0, 1) := by decide +kernel
theorem dX12_isDigit_23 : decode cX12_isDigit 23 = .ok (.ireturn, 1) := by decide +kernel
theorem dX12_reads_0 : decode cX12_reads 0 = .ok (.aload_n 0, 1) := by decide +kernel
theorem dX12_reads_1 : decode cX12_reads 1 = .ok (.invokevirtual 195, 3) := by decide +kernel
theorem dX12_reads_4 : decode cX12_reads 4 = .ok (.iload_n 1, 1) := by decide +kernel
theorem dX12_reads_5 : decode cX12_reads 5 = .ok (.if_icmp .eq 5, 3) := by decide +kernel
theorem dX12_reads_8 : decode cX12_reads 8 = .ok (.iconst 0, 1) := by decide +kernel
theorem dX12_reads_9 : decode cX12_reads 9 = .ok (.ireturn, 1) := by decide +kernel
theorem dX12_reads_10 : decode cX12_reads 10 = .ok (.aload_n 0, 1) := by decide +kernel
theorem dX12_reads_11 : decode cX12_reads 11 = .ok (.dup, 1) := by decide +kernel
theorem dX12_reads_12 : decode cX12_reads 12 = .ok (.getfield 188, 3) := by decide +kernel
theorem dX12_reads_15 : decode cX12_reads 15 = .ok (.iconst 1, 1) := by decide +kernel
theorem dX12_reads_16 : decode cX12_reads 16 = .ok (.iadd, 1) := by decide +kernel
theorem dX12_reads_17 : decode cX12_reads 17 = .ok (.putfield 188, 3) := by decide +kernel
theorem dX12_reads_20 : decode cX12_reads 20 = .ok (.iconst 1, 1) := by decide +kernel
theorem dX12_reads_21 : decode cX12_reads 21 = .ok (.ireturn, 1) := by decide +kernel
theorem dX12_number_0 : decode cX12_number 0 = .ok (.aload_n 0, 1) := by decide +kernel
theorem dX12_number_1 : decode cX12_number 1 = .ok (.invokevirtual 195, 3) := by decide +kernel
theorem dX12_number_4 : decode cX12_number 4 = .ok (.istore_n 2, 1) := by decide +kernel
theorem dX12_number_5 : decode cX12_number 5 = .ok (.aload_n 0, 1) := by decide +kernel
theorem dX12_number_6 : decode cX12_number 6 = .ok (.invokevirtual 198, 3) := by decide +kernel
theorem dX12_number_9 : decode cX12_number 9 = .ok (.ifCond .ne 5, 3) := by decide +kernel
theorem dX12_number_12 : decode cX12_number 12 = .ok (.iconst (-1), 1) := by decide +kernel
theorem dX12_number_13 : decode cX12_number 13 = .ok (.ireturn, 1) := by decide +kernel
theorem dX12_number_14 : decode cX12_number 14 = .ok (.iconst 0, 1) := by decide +kernel
theorem dX12_number_15 : decode cX12_number 15 = .ok (.istore_n 3, 1) := by decide +kernel
theorem dX12_number_16 : decode cX12_number 16 = .ok (.aload_n 0, 1) := by decide +kernel
theorem dX12_number_17 : decode cX12_number 17 = .ok (.invokevirtual 198, 3) := by decide +kernel
theorem dX12_number_20 : decode cX12_number 20 = .ok (.ifCond .eq 47, 3) := by decide +kernel
theorem dX12_number_23 : decode cX12_number 23 = .ok (.bipush 10, 2) := by decide +kernel
theorem dX12_number_25 : decode cX12_number 25 = .ok (.iload_n 3, 1) := by decide +kernel
theorem dX12_number_26 : decode cX12_number 26 = .ok (.imul, 1) := by decide +kernel
theorem dX12_number_27 : decode cX12_number 27 = .ok (.aload_n 0, 1) := by decide +kernel
theorem dX12_number_28 : decode cX12_number 28 = .ok (.invokevirtual 191, 3) := by decide +kernel
theorem dX12_number_31 : decode cX12_number 31 = .ok (.iadd, 1) := by decide +kernel
theorem dX12_number_32 : decode cX12_number 32 = .ok (.bipush 48, 2) := by decide +kernel
theorem dX12_number_34 : decode cX12_number 34 = .ok (.isub, 1) := by decide +kernel
theorem dX12_number_35 : decode cX12_number 35 = .ok (.iload_n 1, 1) := by decide +kernel
theorem dX12_number_36 : decode cX12_number 36 = .ok (.if_icmp .le 5, 3) := by decide +kernel
theorem dX12_number_39 : decode cX12_number 39 = .ok (.iconst (-1), 1) := by decide +kernel
theorem dX12_number_40 : decode cX12_number 40 = .ok (.ireturn, 1) := by decide +kernel
theorem dX12_number_41 : decode cX12_number 41 = .ok (.bipush 10, 2) := by decide +kernel
theorem dX12_number_43 : decode cX12_number 43 = .ok (.iload_n 3, 1) := by decide +kernel
theorem dX12_number_44 : decode cX12_number 44 = .ok (.imul, 1) := by decide +kernel
theorem dX12_number_45 : decode cX12_number 45 = .ok (.aload_n 0, 1) := by decide +kernel
theorem dX12_number_46 : decode cX12_number 46 = .ok (.invokevirtual 191, 3) := by decide +kernel
theorem dX12_number_49 : decode cX12_number 49 = .ok (.iadd, 1) := by decide +kernel
theorem dX12_number_50 : decode cX12_number 50 = .ok (.bipush 48, 2) := by decide +kernel
theorem dX12_number_52 : decode cX12_number 52 = .ok (.isub, 1) := by decide +kernel
theorem dX12_number_53 : decode cX12_number 53 = .ok (.istore_n 3, 1) := by decide +kernel
theorem dX12_number_54 : decode cX12_number 54 = .ok (.aload_n 0, 1) := by decide +kernel
theorem dX12_number_55 : decode cX12_number 55 = .ok (.dup, 1) := by decide +kernel
theorem dX12_number_56 : decode cX12_number 56 = .ok (.getfield 188, 3) := by decide +kernel
theorem dX12_number_59 : decode cX12_number 59 = .ok (.iconst 1, 1) := by decide +kernel
theorem dX12_number_60 : decode cX12_number 60 = .ok (.iadd, 1) := by decide +kernel
theorem dX12_number_61 : decode cX12_number 61 = .ok (.putfield 188, 3) := by decide +kernel
theorem dX12_number_64 : decode cX12_number 64 = .ok (.goto (-48), 3) := by decide +kernel
theorem dX12_number_67 : decode cX12_number 67 = .ok (.iload_n 3, 1) := by decide +kernel
theorem dX12_number_68 : decode cX12_number 68 = .ok (.ireturn, 1) := by decide +kernel
theorem dX12_isPlain_0 : decode cX12_isPlain 0 = .ok (.iload_n 0, 1) := by decide +kernel
theorem dX12_isPlain_1 : decode cX12_isPlain 1 = .ok (.ldc 202, 2) := by decide +kernel
theorem dX12_isPlain_3 : decode cX12_isPlain 3 = .ok (.invokestatic 204, 3) := by decide +kernel
theorem dX12_isPlain_6 : decode cX12_isPlain 6 = .ok (.ireturn, 1) := by decide +kernel
theorem dX12_isOneOf_0 : decode cX12_isOneOf 0 = .ok (.iconst 0, 1) := by decide +kernel
theorem dX12_isOneOf_1 : decode cX12_isOneOf 1 = .ok (.istore_n 2, 1) := by decide +kernel
theorem dX12_isOneOf_2 : decode cX12_isOneOf 2 = .ok (.iload_n 2, 1) := by decide +kernel
theorem dX12_isOneOf_3 : decode cX12_isOneOf 3 = .ok (.aload_n 1, 1) := by decide +kernel
theorem dX12_isOneOf_4 : decode cX12_isOneOf 4 = .ok (.invokevirtual 208, 3) := by decide +kernel
theorem dX12_isOneOf_7 : decode cX12_isOneOf 7 = .ok (.if_icmp .ge 20, 3) := by decide +kernel
theorem dX12_isOneOf_10 : decode cX12_isOneOf 10 = .ok (.aload_n 1, 1) := by decide +kernel
theorem dX12_isOneOf_11 : decode cX12_isOneOf 11 = .ok (.iload_n 2, 1) := by decide +kernel
theorem dX12_isOneOf_12 : decode cX12_isOneOf 12 = .ok (.invokevirtual 212, 3) := by decide +kernel
theorem dX12_isOneOf_15 : decode cX12_isOneOf 15 = .ok (.iload_n 0, 1) := by decide +kernel
theorem dX12_isOneOf_16 : decode cX12_isOneOf 16 = .ok (.if_icmp .ne 5, 3) := by decide +kernel
theorem dX12_isOneOf_19 : decode cX12_isOneOf 19 = .ok (.iconst 1, 1) := by decide +kernel
theorem dX12_isOneOf_20 : decode cX12_isOneOf 20 = .ok (.ireturn, 1) := by decide +kernel
theorem dX12_isOneOf_21 : decode cX12_isOneOf 21 = .ok (.iinc 2 1, 3) := by decide +kernel
theorem dX12_isOneOf_24 : decode cX12_isOneOf 24 = .ok (.goto (-22), 3) := by decide +kernel
theorem dX12_isOneOf_27 : decode cX12_isOneOf 27 = .ok (.iconst 0, 1) := by decide +kernel
theorem dX12_isOneOf_28 : decode cX12_isOneOf 28 = .ok (.ireturn, 1) := by decide +kernel
theorem dX12_letter_0 : decode cX12_letter 0 = .ok (.aload_n 0, 1) := by decide +kernel
theorem dX12_letter_1 : decode cX12_letter 1 = .ok (.invokevirtual 195, 3) := by decide +kernel
theorem dX12_letter_4 : decode cX12_letter 4 = .ok (.istore_n 1, 1) := by decide +kernel
theorem dX12_letter_5 : decode cX12_letter 5 = .ok (.iload_n 1, 1) := by decide +kernel
theorem dX12_letter_6 : decode cX12_letter 6 = .ok (.bipush 97, 2) := by decide +kernel
theorem dX12_letter_8 : decode cX12_letter 8 = .ok (.if_icmp .lt 9, 3) := by decide +kernel
theorem dX12_letter_11 : decode cX12_letter 11 = .ok (.iload_n 1, 1) := by decide +kernel
theorem dX12_letter_12 : decode cX12_letter 12 = .ok (.bipush 102, 2) := by decide +kernel
theorem dX12_letter_14 : decode cX12_letter 14 = .ok (.if_icmp .le 5, 3) := by decide +kernel
theorem dX12_letter_17 : decode cX12_letter 17 = .ok (.iconst (-1), 1) := by decide +kernel
theorem dX12_letter_18 : decode cX12_letter 18 = .ok (.ireturn, 1) := by decide +kernel
theorem dX12_letter_19 : decode cX12_letter 19 = .ok (.aload_n 0, 1) := by decide +kernel
theorem dX12_letter_20 : decode cX12_letter 20 = .ok (.dup, 1) := by decide +kernel
theorem dX12_letter_21 : decode cX12_letter 21 = .ok (.getfield 188, 3) := by decide +kernel
theorem dX12_letter_24 : decode cX12_letter 24 = .ok (.iconst 1, 1) := by decide +kernel
theorem dX12_letter_25 : decode cX12_letter 25 = .ok (.iadd, 1) := by decide +kernel
theorem dX12_letter_26 : decode cX12_letter 26 = .ok (.putfield 188, 3) := by decide +kernel
theorem dX12_letter_29 : decode cX12_letter 29 = .ok (.iload_n 1, 1) := by decide +kernel
theorem dX12_letter_30 : decode cX12_letter 30 = .ok (.bipush 97, 2) := by decide +kernel
theorem dX12_letter_32 : decode cX12_letter 32 = .ok (.isub, 1) := by decide +kernel
theorem dX12_letter_33 : decode cX12_letter 33 = .ok (.ireturn, 1) := by decide +kernel
theorem dX12_instruction_0 : decode cX12_instruction 0 = .ok (.aload_n 0, 1) := by decide +kernel
theorem dX12_instruction_1 : decode cX12_instruction 1 = .ok (.getfield 216, 3) := by decide +kernel
theorem dX12_instruction_4 : decode cX12_instruction 4 = .ok (.bipush 40, 2) := by decide +kernel
theorem dX12_instruction_6 : decode cX12_instruction 6 = .ok (.if_icmp .ne 5, 3) := by decide +kernel
theorem dX12_instruction_9 : decode cX12_instruction 9 = .ok (.iconst 0, 1) := by decide +kernel
theorem dX12_instruction_10 : decode cX12_instruction 10 = .ok (.ireturn, 1) := by decide +kernel
theorem dX12_instruction_11 : decode cX12_instruction 11 = .ok (.iload_n 1, 1) := by decide +kernel
theorem dX12_instruction_12 : decode cX12_instruction 12 = .ok (.invokestatic 219, 3) := by decide +kernel
theorem dX12_instruction_15 : decode cX12_instruction 15 = .ok (.ifCond .ne 12, 3) := by decide +kernel
theorem dX12_instruction_18 : decode cX12_instruction 18 = .ok (.iload_n 1, 1) := by decide +kernel
theorem dX12_instruction_19 : decode cX12_instruction 19 = .ok (.ldc 223, 2) := by decide +kernel
theorem dX12_instruction_21 : decode cX12_instruction 21 = .ok (.invokestatic 204, 3) := by decide +kernel
theorem dX12_instruction_24 : decode cX12_instruction 24 = .ok (.ifCond .eq 7, 3) := by decide +kernel
theorem dX12_instruction_27 : decode cX12_instruction 27 = .ok (.iconst 1, 1) := by decide +kernel
theorem dX12_instruction_28 : decode cX12_instruction 28 = .ok (.goto 4, 3) := by decide +kernel
theorem dX12_instruction_31 : decode cX12_instruction 31 = .ok (.iconst 0, 1) := by decide +kernel
theorem dX12_instruction_32 : decode cX12_instruction 32 = .ok (.istore_n 2, 1) := by decide +kernel
theorem dX12_instruction_33 : decode cX12_instruction 33 = .ok (.iload_n 2, 1) := by decide +kernel
theorem dX12_instruction_34 : decode cX12_instruction 34 = .ok (.ifCond .ne 5, 3) := by decide +kernel
theorem dX12_instruction_37 : decode cX12_instruction 37 = .ok (.iconst 0, 1) := by decide +kernel
theorem dX12_instruction_38 : decode cX12_instruction 38 = .ok (.ireturn, 1) := by decide +kernel
theorem dX12_instruction_39 : decode cX12_instruction 39 = .ok (.aload_n 0, 1) := by decide +kernel
theorem dX12_instruction_40 : decode cX12_instruction 40 = .ok (.dup, 1) := by decide +kernel
theorem dX12_instruction_41 : decode cX12_instruction 41 = .ok (.getfield 188, 3) := by decide +kernel
theorem dX12_instruction_44 : decode cX12_instruction 44 = .ok (.iconst 1, 1) := by decide +kernel
theorem dX12_instruction_45 : decode cX12_instruction 45 = .ok (.iadd, 1) := by decide +kernel
theorem dX12_instruction_46 : decode cX12_instruction 46 = .ok (.putfield 188, 3) := by decide +kernel
theorem dX12_instruction_49 : decode cX12_instruction 49 = .ok (.iconst 0, 1) := by decide +kernel
theorem dX12_instruction_50 : decode cX12_instruction 50 = .ok (.istore_n 3, 1) := by decide +kernel
theorem dX12_instruction_51 : decode cX12_instruction 51 = .ok (.iload_n 1, 1) := by decide +kernel
theorem dX12_instruction_52 : decode cX12_instruction 52 = .ok (.bipush 107, 2) := by decide +kernel
theorem dX12_instruction_54 : decode cX12_instruction 54 = .ok (.if_icmp .ne 11, 3) := by decide +kernel
theorem dX12_instruction_57 : decode cX12_instruction 57 = .ok (.aload_n 0, 1) := by decide +kernel
theorem dX12_instruction_58 : decode cX12_instruction 58 = .ok (.sipush 999, 3) := by decide +kernel
theorem dX12_instruction_61 : decode cX12_instruction 61 = .ok (.invokevirtual 225, 3) := by decide +kernel
theorem dX12_instruction_64 : decode cX12_instruction 64 = .ok (.istore_n 3, 1) := by decide +kernel
theorem dX12_instruction_65 : decode cX12_instruction 65 = .ok (.iload_n 1, 1) := by decide +kernel
theorem dX12_instruction_66 : decode cX12_instruction 66 = .ok (.bipush 108, 2) := by decide +kernel
theorem dX12_instruction_68 : decode cX12_instruction 68 = .ok (.if_icmp .eq 9, 3) := by decide +kernel
theorem dX12_instruction_71 : decode cX12_instruction 71 = .ok (.iload_n 1, 1) := by decide +kernel
theorem dX12_instruction_72 : decode cX12_instruction 72 = .ok (.bipush 115, 2) := by decide +kernel
theorem dX12_instruction_74 : decode cX12_instruction 74 = .ok (.if_icmp .ne 8, 3) := by decide +kernel
theorem dX12_instruction_77 : decode cX12_instruction 77 = .ok (.aload_n 0, 1) := by decide +kernel
theorem dX12_instruction_78 : decode cX12_instruction 78 = .ok (.invokevirtual 227, 3) := by decide +kernel
theorem dX12_instruction_81 : decode cX12_instruction 81 = .ok (.istore_n 3, 1) := by decide +kernel
theorem dX12_instruction_82 : decode cX12_instruction 82 = .ok (.iload_n 1, 1) := by decide +kernel
theorem dX12_instruction_83 : decode cX12_instruction 83 = .ok (.bipush 103, 2) := by decide +kernel
theorem dX12_instruction_85 : decode cX12_instruction 85 = .ok (.if_icmp .eq 9, 3) := by decide +kernel
theorem dX12_instruction_88 : decode cX12_instruction 88 = .ok (.iload_n 1, 1) := by decide +kernel
theorem dX12_instruction_89 : decode cX12_instruction 89 = .ok (.bipush 122, 2) := by decide +kernel
theorem dX12_instruction_91 : decode cX12_instruction 91 = .ok (.if_icmp .ne 10, 3) := by decide +kernel
theorem dX12_instruction_94 : decode cX12_instruction 94 = .ok (.aload_n 0, 1) := by decide +kernel
theorem dX12_instruction_95 : decode cX12_instruction 95 = .ok (.bipush 39, 2) := by decide +kernel
theorem dX12_instruction_97 : decode cX12_instruction 97 = .ok (.invokevirtual 225, 3) := by decide +kernel
theorem dX12_instruction_100 : decode cX12_instruction 100 = .ok (.istore_n 3, 1) := by decide +kernel
theorem dX12_instruction_101 : decode cX12_instruction 101 = .ok (.iload_n 3, 1) := by decide +kernel
theorem dX12_instruction_102 : decode cX12_instruction 102 = .ok (.iconst (-1), 1) := by decide +kernel
theorem dX12_instruction_103 : decode cX12_instruction 103 = .ok (.if_icmp .ne 5, 3) := by decide +kernel
theorem dX12_instruction_106 : decode cX12_instruction 106 = .ok (.iconst 0, 1) := by decide +kernel
theorem dX12_instruction_107 : decode cX12_instruction 107 = .ok (.ireturn, 1) := by decide +kernel
theorem dX12_instruction_108 : decode cX12_instruction 108 = .ok (.aload_n 0, 1) := by decide +kernel
theorem dX12_instruction_109 : decode cX12_instruction 109 = .ok (.getfield 13, 3) := by decide +kernel
theorem dX12_instruction_112 : decode cX12_instruction 112 = .ok (.aload_n 0, 1) := by decide +kernel
theorem dX12_instruction_113 : decode cX12_instruction 113 = .ok (.getfield 216, 3) := by decide +kernel
theorem dX12_instruction_116 : decode cX12_instruction 116 = .ok (.iload_n 1, 1) := by decide +kernel
theorem dX12_instruction_117 : decode cX12_instruction 117 = .ok (.iastore, 1) := by decide +kernel
theorem dX12_instruction_118 : decode cX12_instruction 118 = .ok (.aload_n 0, 1) := by decide +kernel
theorem dX12_instruction_119 : decode cX12_instruction 119 = .ok (.getfield 17, 3) := by decide +kernel
theorem dX12_instruction_122 : decode cX12_instruction 122 = .ok (.aload_n 0, 1) := by decide +kernel
theorem dX12_instruction_123 : decode cX12_instruction 123 = .ok (.getfield 216, 3) := by decide +kernel
theorem dX12_instruction_126 : decode cX12_instruction 126 = .ok (.iload_n 3, 1) := by decide +kernel
theorem dX12_instruction_127 : decode cX12_instruction 127 = .ok (.iastore, 1) := by decide +kernel
theorem dX12_instruction_128 : decode cX12_instruction 128 = .ok (.aload_n 0, 1) := by decide +kernel
theorem dX12_instruction_129 : decode cX12_instruction 129 = .ok (.dup, 1) := by decide +kernel
theorem dX12_instruction_130 : decode cX12_instruction 130 = .ok (.getfield 216, 3) := by decide +kernel
theorem dX12_instruction_133 : decode cX12_instruction 133 = .ok (.iconst 1, 1) := by decide +kernel
theorem dX12_instruction_134 : decode cX12_instruction 134 = .ok (.iadd, 1) := by decide +kernel
theorem dX12_instruction_135 : decode cX12_instruction 135 = .ok (.putfield 216, 3) := by decide +kernel
theorem dX12_instruction_138 : decode cX12_instruction 138 = .ok (.iconst 1, 1) := by decide +kernel
theorem dX12_instruction_139 : decode cX12_instruction 139 = .ok (.ireturn, 1) := by decide +kernel
theorem dX12_handler_0 : decode cX12_handler 0 = .ok (.aload_n 0, 1) := by decide +kernel
theorem dX12_handler_1 : decode cX12_handler 1 = .ok (.getfield 230, 3) := by decide +kernel
theorem dX12_handler_4 : decode cX12_handler 4 = .ok (.iconst 3, 1) := by decide +kernel
theorem dX12_handler_5 : decode cX12_handler 5 = .ok (.if_icmp .ne 5, 3) := by decide +kernel
theorem dX12_handler_8 : decode cX12_handler 8 = .ok (.iconst 0, 1) := by decide +kernel
theorem dX12_handler_9 : decode cX12_handler 9 = .ok (.ireturn, 1) := by decide +kernel
theorem dX12_handler_10 : decode cX12_handler 10 = .ok (.aload_n 0, 1) := by decide +kernel
theorem dX12_handler_11 : decode cX12_handler 11 = .ok (.dup, 1) := by decide +kernel
theorem dX12_handler_12 : decode cX12_handler 12 = .ok (.getfield 188, 3) := by decide +kernel
theorem dX12_handler_15 : decode cX12_handler 15 = .ok (.iconst 1, 1) := by decide +kernel
theorem dX12_handler_16 : decode cX12_handler 16 = .ok (.iadd, 1) := by decide +kernel
theorem dX12_handler_17 : decode cX12_handler 17 = .ok (.putfield 188, 3) := by decide +kernel
theorem dX12_handler_20 : decode cX12_handler 20 = .ok (.iconst 0, 1) := by decide +kernel
theorem dX12_handler_21 : decode cX12_handler 21 = .ok (.istore_n 1, 1) := by decide +kernel
theorem dX12_handler_22 : decode cX12_handler 22 = .ok (.iload_n 1, 1) := by decide +kernel
theorem dX12_handler_23 : decode cX12_handler 23 = .ok (.iconst 3, 1) := by decide +kernel
theorem dX12_handler_24 : decode cX12_handler 24 = .ok (.if_icmp .ge 52, 3) := by decide +kernel
theorem dX12_handler_27 : decode cX12_handler 27 = .ok (.iload_n 1, 1) := by decide +kernel
theorem dX12_handler_28 : decode cX12_handler 28 = .ok (.ifCond .le 14, 3) := by decide +kernel
theorem dX12_handler_31 : decode cX12_handler 31 = .ok (.aload_n 0, 1) := by decide +kernel
theorem dX12_handler_32 : decode cX12_handler 32 = .ok (.bipush 44, 2) := by decide +kernel
theorem dX12_handler_34 : decode cX12_handler 34 = .ok (.invokevirtual 233, 3) := by decide +kernel
theorem dX12_handler_37 : decode cX12_handler 37 = .ok (.ifCond .ne 5, 3) := by decide +kernel
theorem dX12_handler_40 : decode cX12_handler 40 = .ok (.iconst 0, 1) := by decide +kernel
theorem dX12_handler_41 : decode cX12_handler 41 = .ok (.ireturn, 1) := by decide +kernel
theorem dX12_handler_42 : decode cX12_handler 42 = .ok (.aload_n 0, 1) := by decide +kernel
theorem dX12_handler_43 : decode cX12_handler 43 = .ok (.bipush 40, 2) := by decide +kernel
theorem dX12_handler_45 : decode cX12_handler 45 = .ok (.invokevirtual 225, 3) := by decide +kernel
theorem dX12_handler_48 : decode cX12_handler 48 = .ok (.istore_n 2, 1) := by decide +kernel
theorem dX12_handler_49 : decode cX12_handler 49 = .ok (.iload_n 2, 1) := by decide +kernel
theorem dX12_handler_50 : decode cX12_handler 50 = .ok (.iconst (-1), 1) := by decide +kernel
theorem dX12_handler_51 : decode cX12_handler 51 = .ok (.if_icmp .ne 5, 3) := by decide +kernel
theorem dX12_handler_54 : decode cX12_handler 54 = .ok (.iconst 0, 1) := by decide +kernel
theorem dX12_handler_55 : decode cX12_handler 55 = .ok (.ireturn, 1) := by decide +kernel
theorem dX12_handler_56 : decode cX12_handler 56 = .ok (.aload_n 0, 1) := by decide +kernel
theorem dX12_handler_57 : decode cX12_handler 57 = .ok (.getfield 20, 3) := by decide +kernel
theorem dX12_handler_60 : decode cX12_handler 60 = .ok (.iconst 3, 1) := by decide +kernel
theorem dX12_handler_61 : decode cX12_handler 61 = .ok (.aload_n 0, 1) := by decide +kernel
theorem dX12_handler_62 : decode cX12_handler 62 = .ok (.getfield 230, 3) := by decide +kernel
theorem dX12_handler_65 : decode cX12_handler 65 = .ok (.imul, 1) := by decide +kernel
theorem dX12_handler_66 : decode cX12_handler 66 = .ok (.iload_n 1, 1) := by decide +kernel
theorem dX12_handler_67 : decode cX12_handler 67 = .ok (.iadd, 1) := by decide +kernel
theorem dX12_handler_68 : decode cX12_handler 68 = .ok (.iload_n 2, 1) := by decide +kernel
theorem dX12_handler_69 : decode cX12_handler 69 = .ok (.iastore, 1) := by decide +kernel
theorem dX12_handler_70 : decode cX12_handler 70 = .ok (.iinc 1 1, 3) := by decide +kernel
theorem dX12_handler_73 : decode cX12_handler 73 = .ok (.goto (-51), 3) := by decide +kernel
theorem dX12_handler_76 : decode cX12_handler 76 = .ok (.aload_n 0, 1) := by decide +kernel
theorem dX12_handler_77 : decode cX12_handler 77 = .ok (.dup, 1) := by decide +kernel
theorem dX12_handler_78 : decode cX12_handler 78 = .ok (.getfield 230, 3) := by decide +kernel
theorem dX12_handler_81 : decode cX12_handler 81 = .ok (.iconst 1, 1) := by decide +kernel
theorem dX12_handler_82 : decode cX12_handler 82 = .ok (.iadd, 1) := by decide +kernel
theorem dX12_handler_83 : decode cX12_handler 83 = .ok (.putfield 230, 3) := by decide +kernel
theorem dX12_handler_86 : decode cX12_handler 86 = .ok (.iconst 1, 1) := by decide +kernel
theorem dX12_handler_87 : decode cX12_handler 87 = .ok (.ireturn, 1) := by decide +kernel
theorem dX12_isText_0 : decode cX12_isText 0 = .ok (.aload_n 0, 1) := by decide +kernel
theorem dX12_isText_1 : decode cX12_isText 1 = .ok (.iconst 0, 1) := by decide +kernel
theorem dX12_isText_2 : decode cX12_isText 2 = .ok (.putfield 188, 3) := by decide +kernel
theorem dX12_isText_5 : decode cX12_isText 5 = .ok (.aload_n 0, 1) := by decide +kernel
theorem dX12_isText_6 : decode cX12_isText 6 = .ok (.iconst 0, 1) := by decide +kernel
theorem dX12_isText_7 : decode cX12_isText 7 = .ok (.putfield 216, 3) := by decide +kernel
theorem dX12_isText_10 : decode cX12_isText 10 = .ok (.aload_n 0, 1) := by decide +kernel
theorem dX12_isText_11 : decode cX12_isText 11 = .ok (.iconst 0, 1) := by decide +kernel
theorem dX12_isText_12 : decode cX12_isText 12 = .ok (.putfield 230, 3) := by decide +kernel
theorem dX12_isText_15 : decode cX12_isText 15 = .ok (.aload_n 0, 1) := by decide +kernel
theorem dX12_isText_16 : decode cX12_isText 16 = .ok (.invokevirtual 195, 3) := by decide +kernel
theorem dX12_isText_19 : decode cX12_isText 19 = .ok (.istore_n 1, 1) := by decide +kernel
theorem dX12_isText_20 : decode cX12_isText 20 = .ok (.iload_n 1, 1) := by decide +kernel
