theorem dX3_canThrow_15 : decode cX3_canThrow 15 = .ok (.iload_n 1, 1) := by decide +kernel
theorem dX3_canThrow_16 : decode cX3_canThrow 16 = .ok (.iaload, 1) := by decide +kernel
theorem dX3_canThrow_17 : decode cX3_canThrow 17 = .ok (.bipush 37, 2) := by decide +kernel
theorem dX3_canThrow_19 : decode cX3_canThrow 19 = .ok (.if_icmp .eq 14, 3) := by decide +kernel
theorem dX3_canThrow_22 : decode cX3_canThrow 22 = .ok (.aload_n 0, 1) := by decide +kernel
theorem dX3_canThrow_23 : decode cX3_canThrow 23 = .ok (.getfield 9, 3) := by decide +kernel
theorem dX3_canThrow_26 : decode cX3_canThrow 26 = .ok (.iload_n 1, 1) := by decide +kernel
theorem dX3_canThrow_27 : decode cX3_canThrow 27 = .ok (.iaload, 1) := by decide +kernel
theorem dX3_canThrow_28 : decode cX3_canThrow 28 = .ok (.bipush 116, 2) := by decide +kernel
theorem dX3_canThrow_30 : decode cX3_canThrow 30 = .ok (.if_icmp .ne 7, 3) := by decide +kernel
theorem dX3_canThrow_33 : decode cX3_canThrow 33 = .ok (.iconst 1, 1) := by decide +kernel
theorem dX3_canThrow_34 : decode cX3_canThrow 34 = .ok (.goto 4, 3) := by decide +kernel
theorem dX3_canThrow_37 : decode cX3_canThrow 37 = .ok (.iconst 0, 1) := by decide +kernel
theorem dX3_canThrow_38 : decode cX3_canThrow 38 = .ok (.ireturn, 1) := by decide +kernel
theorem dX3_handlerOf_0 : decode cX3_handlerOf 0 = .ok (.iconst 0, 1) := by decide +kernel
theorem dX3_handlerOf_1 : decode cX3_handlerOf 1 = .ok (.istore_n 2, 1) := by decide +kernel
theorem dX3_handlerOf_2 : decode cX3_handlerOf 2 = .ok (.iload_n 2, 1) := by decide +kernel
theorem dX3_handlerOf_3 : decode cX3_handlerOf 3 = .ok (.aload_n 0, 1) := by decide +kernel
theorem dX3_handlerOf_4 : decode cX3_handlerOf 4 = .ok (.getfield 34, 3) := by decide +kernel
theorem dX3_handlerOf_7 : decode cX3_handlerOf 7 = .ok (.if_icmp .ge 31, 3) := by decide +kernel
theorem dX3_handlerOf_10 : decode cX3_handlerOf 10 = .ok (.aload_n 0, 1) := by decide +kernel
theorem dX3_handlerOf_11 : decode cX3_handlerOf 11 = .ok (.getfield 21, 3) := by decide +kernel
theorem dX3_handlerOf_14 : decode cX3_handlerOf 14 = .ok (.iload_n 2, 1) := by decide +kernel
theorem dX3_handlerOf_15 : decode cX3_handlerOf 15 = .ok (.iaload, 1) := by decide +kernel
theorem dX3_handlerOf_16 : decode cX3_handlerOf 16 = .ok (.iload_n 1, 1) := by decide +kernel
theorem dX3_handlerOf_17 : decode cX3_handlerOf 17 = .ok (.if_icmp .gt 15, 3) := by decide +kernel
theorem dX3_handlerOf_20 : decode cX3_handlerOf 20 = .ok (.iload_n 1, 1) := by decide +kernel
theorem dX3_handlerOf_21 : decode cX3_handlerOf 21 = .ok (.aload_n 0, 1) := by decide +kernel
theorem dX3_handlerOf_22 : decode cX3_handlerOf 22 = .ok (.getfield 24, 3) := by decide +kernel
theorem dX3_handlerOf_25 : decode cX3_handlerOf 25 = .ok (.iload_n 2, 1) := by decide +kernel
theorem dX3_handlerOf_26 : decode cX3_handlerOf 26 = .ok (.iaload, 1) := by decide +kernel
theorem dX3_handlerOf_27 : decode cX3_handlerOf 27 = .ok (.if_icmp .ge 5, 3) := by decide +kernel
theorem dX3_handlerOf_30 : decode cX3_handlerOf 30 = .ok (.iload_n 2, 1) := by decide +kernel
theorem dX3_handlerOf_31 : decode cX3_handlerOf 31 = .ok (.ireturn, 1) := by decide +kernel
theorem dX3_handlerOf_32 : decode cX3_handlerOf 32 = .ok (.iinc 2 1, 3) := by decide +kernel
theorem dX3_handlerOf_35 : decode cX3_handlerOf 35 = .ok (.goto (-33), 3) := by decide +kernel
theorem dX3_handlerOf_38 : decode cX3_handlerOf 38 = .ok (.iconst (-1), 1) := by decide +kernel
theorem dX3_handlerOf_39 : decode cX3_handlerOf 39 = .ok (.ireturn, 1) := by decide +kernel
theorem dX3_highest_0 : decode cX3_highest 0 = .ok (.iconst 0, 1) := by decide +kernel
theorem dX3_highest_1 : decode cX3_highest 1 = .ok (.istore_n 1, 1) := by decide +kernel
theorem dX3_highest_2 : decode cX3_highest 2 = .ok (.iconst 0, 1) := by decide +kernel
theorem dX3_highest_3 : decode cX3_highest 3 = .ok (.istore_n 2, 1) := by decide +kernel
theorem dX3_highest_4 : decode cX3_highest 4 = .ok (.iload_n 2, 1) := by decide +kernel
theorem dX3_highest_5 : decode cX3_highest 5 = .ok (.aload_n 0, 1) := by decide +kernel
theorem dX3_highest_6 : decode cX3_highest 6 = .ok (.getfield 30, 3) := by decide +kernel
theorem dX3_highest_9 : decode cX3_highest 9 = .ok (.if_icmp .ge 38, 3) := by decide +kernel
theorem dX3_highest_12 : decode cX3_highest 12 = .ok (.aload_n 0, 1) := by decide +kernel
theorem dX3_highest_13 : decode cX3_highest 13 = .ok (.getfield 18, 3) := by decide +kernel
theorem dX3_highest_16 : decode cX3_highest 16 = .ok (.iload_n 2, 1) := by decide +kernel
theorem dX3_highest_17 : decode cX3_highest 17 = .ok (.iaload, 1) := by decide +kernel
theorem dX3_highest_18 : decode cX3_highest 18 = .ok (.iconst (-1), 1) := by decide +kernel
theorem dX3_highest_19 : decode cX3_highest 19 = .ok (.if_icmp .eq 22, 3) := by decide +kernel
theorem dX3_highest_22 : decode cX3_highest 22 = .ok (.iload_n 1, 1) := by decide +kernel
theorem dX3_highest_23 : decode cX3_highest 23 = .ok (.aload_n 0, 1) := by decide +kernel
theorem dX3_highest_24 : decode cX3_highest 24 = .ok (.getfield 18, 3) := by decide +kernel
theorem dX3_highest_27 : decode cX3_highest 27 = .ok (.iload_n 2, 1) := by decide +kernel
theorem dX3_highest_28 : decode cX3_highest 28 = .ok (.iaload, 1) := by decide +kernel
theorem dX3_highest_29 : decode cX3_highest 29 = .ok (.aload_n 0, 1) := by decide +kernel
theorem dX3_highest_30 : decode cX3_highest 30 = .ok (.iload_n 2, 1) := by decide +kernel
theorem dX3_highest_31 : decode cX3_highest 31 = .ok (.invokevirtual 66, 3) := by decide +kernel
theorem dX3_highest_34 : decode cX3_highest 34 = .ok (.invokestatic 88, 3) := by decide +kernel
theorem dX3_highest_37 : decode cX3_highest 37 = .ok (.invokestatic 88, 3) := by decide +kernel
theorem dX3_highest_40 : decode cX3_highest 40 = .ok (.istore_n 1, 1) := by decide +kernel
theorem dX3_highest_41 : decode cX3_highest 41 = .ok (.iinc 2 1, 3) := by decide +kernel
theorem dX3_highest_44 : decode cX3_highest 44 = .ok (.goto (-40), 3) := by decide +kernel
theorem dX3_highest_47 : decode cX3_highest 47 = .ok (.iload_n 1, 1) := by decide +kernel
theorem dX3_highest_48 : decode cX3_highest 48 = .ok (.ireturn, 1) := by decide +kernel
theorem dX3_needs_0 : decode cX3_needs 0 = .ok (.iload_n 0, 1) := by decide +kernel
theorem dX3_needs_1 : decode cX3_needs 1 = .ok (.lookupswitch 87 #[(33, 83), (100, 83), (110, 83), (111, 83), (112, 83), (115, 83), (116, 83), (119, 85), (122, 83)], 83) := by decide +kernel
theorem dX3_needs_84 : decode cX3_needs 84 = .ok (.iconst 1, 1) := by decide +kernel
theorem dX3_needs_85 : decode cX3_needs 85 = .ok (.ireturn, 1) := by decide +kernel
theorem dX3_needs_86 : decode cX3_needs 86 = .ok (.iconst 2, 1) := by decide +kernel
theorem dX3_needs_87 : decode cX3_needs 87 = .ok (.ireturn, 1) := by decide +kernel
theorem dX3_needs_88 : decode cX3_needs 88 = .ok (.iload_n 0, 1) := by decide +kernel
theorem dX3_needs_89 : decode cX3_needs 89 = .ok (.invokestatic 94, 3) := by decide +kernel
theorem dX3_needs_92 : decode cX3_needs 92 = .ok (.ifCond .eq 7, 3) := by decide +kernel
theorem dX3_needs_95 : decode cX3_needs 95 = .ok (.iconst 2, 1) := by decide +kernel
theorem dX3_needs_96 : decode cX3_needs 96 = .ok (.goto 4, 3) := by decide +kernel
theorem dX3_needs_99 : decode cX3_needs 99 = .ok (.iconst 0, 1) := by decide +kernel
theorem dX3_needs_100 : decode cX3_needs 100 = .ok (.ireturn, 1) := by decide +kernel
theorem dX3_gives_0 : decode cX3_gives 0 = .ok (.iload_n 0, 1) := by decide +kernel
theorem dX3_gives_1 : decode cX3_gives 1 = .ok (.lookupswitch 71 #[(33, 67), (100, 69), (105, 67), (107, 67), (108, 67), (110, 67), (119, 69)], 67) := by decide +kernel
theorem dX3_gives_68 : decode cX3_gives 68 = .ok (.iconst 1, 1) := by decide +kernel
theorem dX3_gives_69 : decode cX3_gives 69 = .ok (.ireturn, 1) := by decide +kernel
theorem dX3_gives_70 : decode cX3_gives 70 = .ok (.iconst 2, 1) := by decide +kernel
theorem dX3_gives_71 : decode cX3_gives 71 = .ok (.ireturn, 1) := by decide +kernel
theorem dX3_gives_72 : decode cX3_gives 72 = .ok (.iload_n 0, 1) := by decide +kernel
theorem dX3_gives_73 : decode cX3_gives 73 = .ok (.invokestatic 94, 3) := by decide +kernel
theorem dX3_gives_76 : decode cX3_gives 76 = .ok (.ifCond .eq 7, 3) := by decide +kernel
theorem dX3_gives_79 : decode cX3_gives 79 = .ok (.iconst 1, 1) := by decide +kernel
theorem dX3_gives_80 : decode cX3_gives 80 = .ok (.goto 4, 3) := by decide +kernel
theorem dX3_gives_83 : decode cX3_gives 83 = .ok (.iconst 0, 1) := by decide +kernel
theorem dX3_gives_84 : decode cX3_gives 84 = .ok (.ireturn, 1) := by decide +kernel
theorem dX4_init_0 : decode cX4_init 0 = .ok (.aload_n 0, 1) := by decide +kernel
theorem dX4_init_1 : decode cX4_init 1 = .ok (.invokespecial 3, 3) := by decide +kernel
theorem dX4_init_4 : decode cX4_init 4 = .ok (.aload_n 0, 1) := by decide +kernel
theorem dX4_init_5 : decode cX4_init 5 = .ok (.bipush 40, 2) := by decide +kernel
theorem dX4_init_7 : decode cX4_init 7 = .ok (.newarray .int, 2) := by decide +kernel
theorem dX4_init_9 : decode cX4_init 9 = .ok (.putfield 9, 3) := by decide +kernel
theorem dX4_init_12 : decode cX4_init 12 = .ok (.aload_n 0, 1) := by decide +kernel
theorem dX4_init_13 : decode cX4_init 13 = .ok (.bipush 40, 2) := by decide +kernel
theorem dX4_init_15 : decode cX4_init 15 = .ok (.newarray .int, 2) := by decide +kernel
theorem dX4_init_17 : decode cX4_init 17 = .ok (.putfield 15, 3) := by decide +kernel
theorem dX4_init_20 : decode cX4_init 20 = .ok (.aload_n 0, 1) := by decide +kernel
theorem dX4_init_21 : decode cX4_init 21 = .ok (.aload_n 1, 1) := by decide +kernel
theorem dX4_init_22 : decode cX4_init 22 = .ok (.putfield 18, 3) := by decide +kernel
theorem dX4_init_25 : decode cX4_init 25 = .ok (.aload_n 0, 1) := by decide +kernel
theorem dX4_init_26 : decode cX4_init 26 = .ok (.aload_n 2, 1) := by decide +kernel
theorem dX4_init_27 : decode cX4_init 27 = .ok (.putfield 22, 3) := by decide +kernel
theorem dX4_init_30 : decode cX4_init 30 = .ok (.return_, 1) := by decide +kernel
theorem dX4_flow_0 : decode cX4_flow 0 = .ok (.iconst 0, 1) := by decide +kernel
theorem dX4_flow_1 : decode cX4_flow 1 = .ok (.istore_n 1, 1) := by decide +kernel
theorem dX4_flow_2 : decode cX4_flow 2 = .ok (.iload_n 1, 1) := by decide +kernel
theorem dX4_flow_3 : decode cX4_flow 3 = .ok (.aload_n 0, 1) := by decide +kernel
theorem dX4_flow_4 : decode cX4_flow 4 = .ok (.getfield 22, 3) := by decide +kernel
theorem dX4_flow_7 : decode cX4_flow 7 = .ok (.getfield 26, 3) := by decide +kernel
theorem dX4_flow_10 : decode cX4_flow 10 = .ok (.if_icmp .ge 16, 3) := by decide +kernel
theorem dX4_flow_13 : decode cX4_flow 13 = .ok (.aload_n 0, 1) := by decide +kernel
theorem dX4_flow_14 : decode cX4_flow 14 = .ok (.getfield 9, 3) := by decide +kernel
theorem dX4_flow_17 : decode cX4_flow 17 = .ok (.iload_n 1, 1) := by decide +kernel
theorem dX4_flow_18 : decode cX4_flow 18 = .ok (.iconst 0, 1) := by decide +kernel
theorem dX4_flow_19 : decode cX4_flow 19 = .ok (.iastore, 1) := by decide +kernel
theorem dX4_flow_20 : decode cX4_flow 20 = .ok (.iinc 1 1, 3) := by decide +kernel
theorem dX4_flow_23 : decode cX4_flow 23 = .ok (.goto (-21), 3) := by decide +kernel
theorem dX4_flow_26 : decode cX4_flow 26 = .ok (.iconst 1, 1) := by decide +kernel
theorem dX4_flow_27 : decode cX4_flow 27 = .ok (.istore_n 1, 1) := by decide +kernel
theorem dX4_flow_28 : decode cX4_flow 28 = .ok (.iconst 0, 1) := by decide +kernel
theorem dX4_flow_29 : decode cX4_flow 29 = .ok (.istore_n 2, 1) := by decide +kernel
theorem dX4_flow_30 : decode cX4_flow 30 = .ok (.iload_n 2, 1) := by decide +kernel
theorem dX4_flow_31 : decode cX4_flow 31 = .ok (.ldc 32, 2) := by decide +kernel
theorem dX4_flow_33 : decode cX4_flow 33 = .ok (.if_icmp .ge 74, 3) := by decide +kernel
theorem dX4_flow_36 : decode cX4_flow 36 = .ok (.iload_n 1, 1) := by decide +kernel
theorem dX4_flow_37 : decode cX4_flow 37 = .ok (.ifCond .eq 70, 3) := by decide +kernel
theorem dX4_flow_40 : decode cX4_flow 40 = .ok (.iconst 0, 1) := by decide +kernel
theorem dX4_flow_41 : decode cX4_flow 41 = .ok (.istore_n 1, 1) := by decide +kernel
theorem dX4_flow_42 : decode cX4_flow 42 = .ok (.aload_n 0, 1) := by decide +kernel
theorem dX4_flow_43 : decode cX4_flow 43 = .ok (.lconst 0, 1) := by decide +kernel
theorem dX4_flow_44 : decode cX4_flow 44 = .ok (.putfield 33, 3) := by decide +kernel
theorem dX4_flow_47 : decode cX4_flow 47 = .ok (.aload_n 0, 1) := by decide +kernel
theorem dX4_flow_48 : decode cX4_flow 48 = .ok (.getfield 22, 3) := by decide +kernel
theorem dX4_flow_51 : decode cX4_flow 51 = .ok (.getfield 26, 3) := by decide +kernel
theorem dX4_flow_54 : decode cX4_flow 54 = .ok (.iconst 1, 1) := by decide +kernel
theorem dX4_flow_55 : decode cX4_flow 55 = .ok (.isub, 1) := by decide +kernel
theorem dX4_flow_56 : decode cX4_flow 56 = .ok (.istore_n 3, 1) := by decide +kernel
theorem dX4_flow_57 : decode cX4_flow 57 = .ok (.iload_n 3, 1) := by decide +kernel
theorem dX4_flow_58 : decode cX4_flow 58 = .ok (.ifCond .lt 43, 3) := by decide +kernel
theorem dX4_flow_61 : decode cX4_flow 61 = .ok (.aload_n 0, 1) := by decide +kernel
theorem dX4_flow_62 : decode cX4_flow 62 = .ok (.getfield 9, 3) := by decide +kernel
theorem dX4_flow_65 : decode cX4_flow 65 = .ok (.iload_n 3, 1) := by decide +kernel
theorem dX4_flow_66 : decode cX4_flow 66 = .ok (.iaload, 1) := by decide +kernel
theorem dX4_flow_67 : decode cX4_flow 67 = .ok (.istore 4, 2) := by decide +kernel
theorem dX4_flow_69 : decode cX4_flow 69 = .ok (.aload_n 0, 1) := by decide +kernel
theorem dX4_flow_70 : decode cX4_flow 70 = .ok (.iload_n 3, 1) := by decide +kernel
theorem dX4_flow_71 : decode cX4_flow 71 = .ok (.invokevirtual 37, 3) := by decide +kernel
theorem dX4_flow_74 : decode cX4_flow 74 = .ok (.iload_n 1, 1) := by decide +kernel
theorem dX4_flow_75 : decode cX4_flow 75 = .ok (.ifCond .ne 14, 3) := by decide +kernel
theorem dX4_flow_78 : decode cX4_flow 78 = .ok (.aload_n 0, 1) := by decide +kernel
theorem dX4_flow_79 : decode cX4_flow 79 = .ok (.getfield 9, 3) := by decide +kernel
theorem dX4_flow_82 : decode cX4_flow 82 = .ok (.iload_n 3, 1) := by decide +kernel
theorem dX4_flow_83 : decode cX4_flow 83 = .ok (.iaload, 1) := by decide +kernel
theorem dX4_flow_84 : decode cX4_flow 84 = .ok (.iload 4, 2) := by decide +kernel
theorem dX4_flow_86 : decode cX4_flow 86 = .ok (.if_icmp .eq 7, 3) := by decide +kernel
theorem dX4_flow_89 : decode cX4_flow 89 = .ok (.iconst 1, 1) := by decide +kernel
theorem dX4_flow_90 : decode cX4_flow 90 = .ok (.goto 4, 3) := by decide +kernel
theorem dX4_flow_93 : decode cX4_flow 93 = .ok (.iconst 0, 1) := by decide +kernel
theorem dX4_flow_94 : decode cX4_flow 94 = .ok (.istore_n 1, 1) := by decide +kernel
theorem dX4_flow_95 : decode cX4_flow 95 = .ok (.iinc 3 (-1), 3) := by decide +kernel
theorem dX4_flow_98 : decode cX4_flow 98 = .ok (.goto (-41), 3) := by decide +kernel
theorem dX4_flow_101 : decode cX4_flow 101 = .ok (.iinc 2 1, 3) := by decide +kernel
theorem dX4_flow_104 : decode cX4_flow 104 = .ok (.goto (-74), 3) := by decide +kernel
theorem dX4_flow_107 : decode cX4_flow 107 = .ok (.return_, 1) := by decide +kernel
theorem dX4_flowThrough_0 : decode cX4_flowThrough 0 = .ok (.aload_n 0, 1) := by decide +kernel
theorem dX4_flowThrough_1 : decode cX4_flowThrough 1 = .ok (.getfield 15, 3) := by decide +kernel
theorem dX4_flowThrough_4 : decode cX4_flowThrough 4 = .ok (.iload_n 1, 1) := by decide +kernel
theorem dX4_flowThrough_5 : decode cX4_flowThrough 5 = .ok (.iconst 0, 1) := by decide +kernel
theorem dX4_flowThrough_6 : decode cX4_flowThrough 6 = .ok (.iastore, 1) := by decide +kernel
theorem dX4_flowThrough_7 : decode cX4_flowThrough 7 = .ok (.aload_n 0, 1) := by decide +kernel
theorem dX4_flowThrough_8 : decode cX4_flowThrough 8 = .ok (.getfield 22, 3) := by decide +kernel
theorem dX4_flowThrough_11 : decode cX4_flowThrough 11 = .ok (.getfield 41, 3) := by decide +kernel
theorem dX4_flowThrough_14 : decode cX4_flowThrough 14 = .ok (.iload_n 1, 1) := by decide +kernel
theorem dX4_flowThrough_15 : decode cX4_flowThrough 15 = .ok (.iaload, 1) := by decide +kernel
theorem dX4_flowThrough_16 : decode cX4_flowThrough 16 = .ok (.istore_n 2, 1) := by decide +kernel
theorem dX4_flowThrough_17 : decode cX4_flowThrough 17 = .ok (.iload_n 2, 1) := by decide +kernel
theorem dX4_flowThrough_18 : decode cX4_flowThrough 18 = .ok (.aload_n 0, 1) := by decide +kernel
theorem dX4_flowThrough_19 : decode cX4_flowThrough 19 = .ok (.getfield 22, 3) := by decide +kernel
theorem dX4_flowThrough_22 : decode cX4_flowThrough 22 = .ok (.getfield 41, 3) := by decide +kernel
theorem dX4_flowThrough_25 : decode cX4_flowThrough 25 = .ok (.iload_n 1, 1) := by decide +kernel
theorem dX4_flowThrough_26 : decode cX4_flowThrough 26 = .ok (.iconst 1, 1) := by decide +kernel
theorem dX4_flowThrough_27 : decode cX4_flowThrough 27 = .ok (.iadd, 1) := by decide +kernel
theorem dX4_flowThrough_28 : decode cX4_flowThrough 28 = .ok (.iaload, 1) := by decide +kernel
theorem dX4_flowThrough_29 : decode cX4_flowThrough 29 = .ok (.if_icmp .ge 32, 3) := by decide +kernel
theorem dX4_flowThrough_32 : decode cX4_flowThrough 32 = .ok (.aload_n 0, 1) := by decide +kernel
theorem dX4_flowThrough_33 : decode cX4_flowThrough 33 = .ok (.getfield 15, 3) := by decide +kernel
theorem dX4_flowThrough_36 : decode cX4_flowThrough 36 = .ok (.iload_n 1, 1) := by decide +kernel
theorem dX4_flowThrough_37 : decode cX4_flowThrough 37 = .ok (.dup2, 1) := by decide +kernel
theorem dX4_flowThrough_38 : decode cX4_flowThrough 38 = .ok (.iaload, 1) := by decide +kernel
theorem dX4_flowThrough_39 : decode cX4_flowThrough 39 = .ok (.aload_n 0, 1) := by decide +kernel
theorem dX4_flowThrough_40 : decode cX4_flowThrough 40 = .ok (.getfield 9, 3) := by decide +kernel
theorem dX4_flowThrough_43 : decode cX4_flowThrough 43 = .ok (.aload_n 0, 1) := by decide +kernel
theorem dX4_flowThrough_44 : decode cX4_flowThrough 44 = .ok (.getfield 22, 3) := by decide +kernel
theorem dX4_flowThrough_47 : decode cX4_flowThrough 47 = .ok (.getfield 44, 3) := by decide +kernel
theorem dX4_flowThrough_50 : decode cX4_flowThrough 50 = .ok (.iload_n 2, 1) := by decide +kernel
theorem dX4_flowThrough_51 : decode cX4_flowThrough 51 = .ok (.iaload, 1) := by decide +kernel
theorem dX4_flowThrough_52 : decode cX4_flowThrough 52 = .ok (.iaload, 1) := by decide +kernel
theorem dX4_flowThrough_53 : decode cX4_flowThrough 53 = .ok (.ior, 1) := by decide +kernel
theorem dX4_flowThrough_54 : decode cX4_flowThrough 54 = .ok (.iastore, 1) := by decide +kernel
theorem dX4_flowThrough_55 : decode cX4_flowThrough 55 = .ok (.iinc 2 1, 3) := by decide +kernel
theorem dX4_flowThrough_58 : decode cX4_flowThrough 58 = .ok (.goto (-41), 3) := by decide +kernel
theorem dX4_flowThrough_61 : decode cX4_flowThrough 61 = .ok (.aload_n 0, 1) := by decide +kernel
theorem dX4_flowThrough_62 : decode cX4_flowThrough 62 = .ok (.getfield 22, 3) := by decide +kernel
theorem dX4_flowThrough_65 : decode cX4_flowThrough 65 = .ok (.getfield 47, 3) := by decide +kernel
theorem dX4_flowThrough_68 : decode cX4_flowThrough 68 = .ok (.iload_n 1, 1) := by decide +kernel
theorem dX4_flowThrough_69 : decode cX4_flowThrough 69 = .ok (.iaload, 1) := by decide +kernel
theorem dX4_flowThrough_70 : decode cX4_flowThrough 70 = .ok (.iconst (-1), 1) := by decide +kernel
theorem dX4_flowThrough_71 : decode cX4_flowThrough 71 = .ok (.if_icmp .ne 7, 3) := by decide +kernel
theorem dX4_flowThrough_74 : decode cX4_flowThrough 74 = .ok (.iconst 0, 1) := by decide +kernel
theorem dX4_flowThrough_75 : decode cX4_flowThrough 75 = .ok (.goto 17, 3) := by decide +kernel
theorem dX4_flowThrough_78 : decode cX4_flowThrough 78 = .ok (.aload_n 0, 1) := by decide +kernel
theorem dX4_flowThrough_79 : decode cX4_flowThrough 79 = .ok (.getfield 9, 3) := by decide +kernel
theorem dX4_flowThrough_82 : decode cX4_flowThrough 82 = .ok (.aload_n 0, 1) := by decide +kernel
theorem dX4_flowThrough_83 : decode cX4_flowThrough 83 = .ok (.getfield 22, 3) := by decide +kernel
theorem dX4_flowThrough_86 : decode cX4_flowThrough 86 = .ok (.getfield 47, 3) := by decide +kernel
theorem dX4_flowThrough_89 : decode cX4_flowThrough 89 = .ok (.iload_n 1, 1) := by decide +kernel
theorem dX4_flowThrough_90 : decode cX4_flowThrough 90 = .ok (.iaload, 1) := by decide +kernel
theorem dX4_flowThrough_91 : decode cX4_flowThrough 91 = .ok (.iaload, 1) := by decide +kernel
theorem dX4_flowThrough_92 : decode cX4_flowThrough 92 = .ok (.istore_n 2, 1) := by decide +kernel
theorem dX4_flowThrough_93 : decode cX4_flowThrough 93 = .ok (.aload_n 0, 1) := by decide +kernel
theorem dX4_flowThrough_94 : decode cX4_flowThrough 94 = .ok (.getfield 15, 3) := by decide +kernel
theorem dX4_flowThrough_97 : decode cX4_flowThrough 97 = .ok (.iload_n 1, 1) := by decide +kernel
theorem dX4_flowThrough_98 : decode cX4_flowThrough 98 = .ok (.iaload, 1) := by decide +kernel
theorem dX4_flowThrough_99 : decode cX4_flowThrough 99 = .ok (.istore_n 3, 1) := by decide +kernel
theorem dX4_flowThrough_100 : decode cX4_flowThrough 100 = .ok (.aload_n 0, 1) := by decide +kernel
theorem dX4_flowThrough_101 : decode cX4_flowThrough 101 = .ok (.getfield 22, 3) := by decide +kernel
theorem dX4_flowThrough_104 : decode cX4_flowThrough 104 = .ok (.getfield 50, 3) := by decide +kernel
theorem dX4_flowThrough_107 : decode cX4_flowThrough 107 = .ok (.iload_n 1, 1) := by decide +kernel
theorem dX4_flowThrough_108 : decode cX4_flowThrough 108 = .ok (.iaload, 1) := by decide +kernel
theorem dX4_flowThrough_109 : decode cX4_flowThrough 109 = .ok (.istore 4, 2) := by decide +kernel
theorem dX4_flowThrough_111 : decode cX4_flowThrough 111 = .ok (.iload 4, 2) := by decide +kernel
theorem dX4_flowThrough_113 : decode cX4_flowThrough 113 = .ok (.aload_n 0, 1) := by decide +kernel
theorem dX4_flowThrough_114 : decode cX4_flowThrough 114 = .ok (.getfield 22, 3) := by decide +kernel
theorem dX4_flowThrough_117 : decode cX4_flowThrough 117 = .ok (.getfield 53, 3) := by decide +kernel
theorem dX4_flowThrough_120 : decode cX4_flowThrough 120 = .ok (.iload_n 1, 1) := by decide +kernel
theorem dX4_flowThrough_121 : decode cX4_flowThrough 121 = .ok (.iaload, 1) := by decide +kernel
theorem dX4_flowThrough_122 : decode cX4_flowThrough 122 = .ok (.if_icmp .lt 90, 3) := by decide +kernel
theorem dX4_flowThrough_125 : decode cX4_flowThrough 125 = .ok (.iconst 1, 1) := by decide +kernel
theorem dX4_flowThrough_126 : decode cX4_flowThrough 126 = .ok (.aload_n 0, 1) := by decide +kernel
theorem dX4_flowThrough_127 : decode cX4_flowThrough 127 = .ok (.getfield 18, 3) := by decide +kernel
theorem dX4_flowThrough_130 : decode cX4_flowThrough 130 = .ok (.getfield 56, 3) := by decide +kernel
theorem dX4_flowThrough_133 : decode cX4_flowThrough 133 = .ok (.iload 4, 2) := by decide +kernel
theorem dX4_flowThrough_135 : decode cX4_flowThrough 135 = .ok (.iaload, 1) := by decide +kernel
theorem dX4_flowThrough_136 : decode cX4_flowThrough 136 = .ok (.ishl, 1) := by decide +kernel
theorem dX4_flowThrough_137 : decode cX4_flowThrough 137 = .ok (.istore 5, 2) := by decide +kernel
theorem dX4_flowThrough_139 : decode cX4_flowThrough 139 = .ok (.aload_n 0, 1) := by decide +kernel
theorem dX4_flowThrough_140 : decode cX4_flowThrough 140 = .ok (.getfield 18, 3) := by decide +kernel
theorem dX4_flowThrough_143 : decode cX4_flowThrough 143 = .ok (.getfield 61, 3) := by decide +kernel
theorem dX4_flowThrough_146 : decode cX4_flowThrough 146 = .ok (.iload 4, 2) := by decide +kernel
theorem dX4_flowThrough_148 : decode cX4_flowThrough 148 = .ok (.iaload, 1) := by decide +kernel
theorem dX4_flowThrough_149 : decode cX4_flowThrough 149 = .ok (.bipush 108, 2) := by decide +kernel
theorem dX4_flowThrough_151 : decode cX4_flowThrough 151 = .ok (.if_icmp .ne 11, 3) := by decide +kernel
theorem dX4_flowThrough_154 : decode cX4_flowThrough 154 = .ok (.iload_n 3, 1) := by decide +kernel
theorem dX4_flowThrough_155 : decode cX4_flowThrough 155 = .ok (.iload 5, 2) := by decide +kernel
theorem dX4_flowThrough_157 : decode cX4_flowThrough 157 = .ok (.ior, 1) := by decide +kernel
theorem dX4_flowThrough_158 : decode cX4_flowThrough 158 = .ok (.istore_n 3, 1) := by decide +kernel
theorem dX4_flowThrough_159 : decode cX4_flowThrough 159 = .ok (.goto 47, 3) := by decide +kernel
theorem dX4_flowThrough_162 : decode cX4_flowThrough 162 = .ok (.aload_n 0, 1) := by decide +kernel
theorem dX4_flowThrough_163 : decode cX4_flowThrough 163 = .ok (.getfield 18, 3) := by decide +kernel
theorem dX4_flowThrough_166 : decode cX4_flowThrough 166 = .ok (.getfield 61, 3) := by decide +kernel
theorem dX4_flowThrough_169 : decode cX4_flowThrough 169 = .ok (.iload 4, 2) := by decide +kernel
theorem dX4_flowThrough_171 : decode cX4_flowThrough 171 = .ok (.iaload, 1) := by decide +kernel
theorem dX4_flowThrough_172 : decode cX4_flowThrough 172 = .ok (.bipush 115, 2) := by decide +kernel
theorem dX4_flowThrough_174 : decode cX4_flowThrough 174 = .ok (.if_icmp .ne 32, 3) := by decide +kernel
theorem dX4_flowThrough_177 : decode cX4_flowThrough 177 = .ok (.iload_n 3, 1) := by decide +kernel
theorem dX4_flowThrough_178 : decode cX4_flowThrough 178 = .ok (.iload 5, 2) := by decide +kernel
theorem dX4_flowThrough_180 : decode cX4_flowThrough 180 = .ok (.iand, 1) := by decide +kernel
theorem dX4_flowThrough_181 : decode cX4_flowThrough 181 = .ok (.ifCond .ne 16, 3) := by decide +kernel
theorem dX4_flowThrough_184 : decode cX4_flowThrough 184 = .ok (.aload_n 0, 1) := by decide +kernel
theorem dX4_flowThrough_185 : decode cX4_flowThrough 185 = .ok (.dup, 1) := by decide +kernel
theorem dX4_flowThrough_186 : decode cX4_flowThrough 186 = .ok (.getfield 33, 3) := by decide +kernel
theorem dX4_flowThrough_189 : decode cX4_flowThrough 189 = .ok (.lconst 1, 1) := by decide +kernel
theorem dX4_flowThrough_190 : decode cX4_flowThrough 190 = .ok (.iload 4, 2) := by decide +kernel
theorem dX4_flowThrough_192 : decode cX4_flowThrough 192 = .ok (.lshl, 1) := by decide +kernel
theorem dX4_flowThrough_193 : decode cX4_flowThrough 193 = .ok (.lor, 1) := by decide +kernel
theorem dX4_flowThrough_194 : decode cX4_flowThrough 194 = .ok (.putfield 33, 3) := by decide +kernel
theorem dX4_flowThrough_197 : decode cX4_flowThrough 197 = .ok (.iload_n 3, 1) := by decide +kernel
theorem dX4_flowThrough_198 : decode cX4_flowThrough 198 = .ok (.iload 5, 2) := by decide +kernel
theorem dX4_flowThrough_200 : decode cX4_flowThrough 200 = .ok (.iconst (-1), 1) := by decide +kernel
theorem dX4_flowThrough_201 : decode cX4_flowThrough 201 = .ok (.ixor, 1) := by decide +kernel
theorem dX4_flowThrough_202 : decode cX4_flowThrough 202 = .ok (.iand, 1) := by decide +kernel
theorem dX4_flowThrough_203 : decode cX4_flowThrough 203 = .ok (.iload_n 2, 1) := by decide +kernel
theorem dX4_flowThrough_204 : decode cX4_flowThrough 204 = .ok (.ior, 1) := by decide +kernel
theorem dX4_flowThrough_205 : decode cX4_flowThrough 205 = .ok (.istore_n 3, 1) := by decide +kernel
theorem dX4_flowThrough_206 : decode cX4_flowThrough 206 = .ok (.iinc 4 (-1), 3) := by decide +kernel
theorem dX4_flowThrough_209 : decode cX4_flowThrough 209 = .ok (.goto (-98), 3) := by decide +kernel
theorem dX4_flowThrough_212 : decode cX4_flowThrough 212 = .ok (.aload_n 0, 1) := by decide +kernel
theorem dX4_flowThrough_213 : decode cX4_flowThrough 213 = .ok (.getfield 9, 3) := by decide +kernel
theorem dX4_flowThrough_216 : decode cX4_flowThrough 216 = .ok (.iload_n 1, 1) := by decide +kernel
theorem dX4_flowThrough_217 : decode cX4_flowThrough 217 = .ok (.iload_n 3, 1) := by decide +kernel
theorem dX4_flowThrough_218 : decode cX4_flowThrough 218 = .ok (.iload_n 2, 1) := by decide +kernel
theorem dX4_flowThrough_219 : decode cX4_flowThrough 219 = .ok (.ior, 1) := by decide +kernel
theorem dX4_flowThrough_220 : decode cX4_flowThrough 220 = .ok (.iastore, 1) := by decide +kernel
theorem dX4_flowThrough_221 : decode cX4_flowThrough 221 = .ok (.return_, 1) := by decide +kernel
theorem dX5_init_0 : decode cX5_init 0 = .ok (.aload_n 0, 1) := by decide +kernel
theorem dX5_init_1 : decode cX5_init 1 = .ok (.invokespecial 3, 3) := by decide +kernel
theorem dX5_init_4 : decode cX5_init 4 = .ok (.aload_n 0, 1) := by decide +kernel
theorem dX5_init_5 : decode cX5_init 5 = .ok (.bipush 6, 2) := by decide +kernel
theorem dX5_init_7 : decode cX5_init 7 = .ok (.newarray .int, 2) := by decide +kernel
theorem dX5_init_9 : decode cX5_init 9 = .ok (.putfield 9, 3) := by decide +kernel
theorem dX5_init_12 : decode cX5_init 12 = .ok (.aload_n 0, 1) := by decide +kernel
theorem dX5_init_13 : decode cX5_init 13 = .ok (.bipush 8, 2) := by decide +kernel
theorem dX5_init_15 : decode cX5_init 15 = .ok (.newarray .int, 2) := by decide +kernel
theorem dX5_init_17 : decode cX5_init 17 = .ok (.putfield 15, 3) := by decide +kernel
theorem dX5_init_20 : decode cX5_init 20 = .ok (.aload_n 0, 1) := by decide +kernel
theorem dX5_init_21 : decode cX5_init 21 = .ok (.sipush 161, 3) := by decide +kernel
theorem dX5_init_24 : decode cX5_init 24 = .ok (.newarray .int, 2) := by decide +kernel
theorem dX5_init_26 : decode cX5_init 26 = .ok (.putfield 18, 3) := by decide +kernel
theorem dX5_init_29 : decode cX5_init 29 = .ok (.aload_n 0, 1) := by decide +kernel
theorem dX5_init_30 : decode cX5_init 30 = .ok (.aload_n 1, 1) := by decide +kernel
theorem dX5_init_31 : decode cX5_init 31 = .ok (.putfield 21, 3) := by decide +kernel
theorem dX5_init_34 : decode cX5_init 34 = .ok (.aload_n 0, 1) := by decide +kernel
theorem dX5_init_35 : decode cX5_init 35 = .ok (.aload_n 2, 1) := by decide +kernel
theorem dX5_init_36 : decode cX5_init 36 = .ok (.putfield 25, 3) := by decide +kernel
theorem dX5_init_39 : decode cX5_init 39 = .ok (.aload_n 0, 1) := by decide +kernel
theorem dX5_init_40 : decode cX5_init 40 = .ok (.aload_n 3, 1) := by decide +kernel
theorem dX5_init_41 : decode cX5_init 41 = .ok (.putfield 29, 3) := by decide +kernel
theorem dX5_init_44 : decode cX5_init 44 = .ok (.aload_n 0, 1) := by decide +kernel
theorem dX5_init_45 : decode cX5_init 45 = .ok (.aload 4, 2) := by decide +kernel
theorem dX5_init_47 : decode cX5_init 47 = .ok (.putfield 33, 3) := by decide +kernel
theorem dX5_init_50 : decode cX5_init 50 = .ok (.aload_n 0, 1) := by decide +kernel
theorem dX5_init_51 : decode cX5_init 51 = .ok (.aload 5, 2) := by decide +kernel
theorem dX5_init_53 : decode cX5_init 53 = .ok (.putfield 37, 3) := by decide +kernel
theorem dX5_init_56 : decode cX5_init 56 = .ok (.return_, 1) := by decide +kernel
theorem dX5_begin_0 : decode cX5_begin 0 = .ok (.iconst 0, 1) := by decide +kernel
theorem dX5_begin_1 : decode cX5_begin 1 = .ok (.istore 6, 2) := by decide +kernel
theorem dX5_begin_3 : decode cX5_begin 3 = .ok (.iload 6, 2) := by decide +kernel
theorem dX5_begin_5 : decode cX5_begin 5 = .ok (.bipush 6, 2) := by decide +kernel
theorem dX5_begin_7 : decode cX5_begin 7 = .ok (.if_icmp .ge 17, 3) := by decide +kernel
theorem dX5_begin_10 : decode cX5_begin 10 = .ok (.aload_n 0, 1) := by decide +kernel
theorem dX5_begin_11 : decode cX5_begin 11 = .ok (.getfield 9, 3) := by decide +kernel
theorem dX5_begin_14 : decode cX5_begin 14 = .ok (.iload 6, 2) := by decide +kernel
theorem dX5_begin_16 : decode cX5_begin 16 = .ok (.iconst 0, 1) := by decide +kernel
theorem dX5_begin_17 : decode cX5_begin 17 = .ok (.iastore, 1) := by decide +kernel
theorem dX5_begin_18 : decode cX5_begin 18 = .ok (.iinc 6 1, 3) := by decide +kernel
theorem dX5_begin_21 : decode cX5_begin 21 = .ok (.goto (-18), 3) := by decide +kernel
theorem dX5_begin_24 : decode cX5_begin 24 = .ok (.aload_n 0, 1) := by decide +kernel
theorem dX5_begin_25 : decode cX5_begin 25 = .ok (.getfield 9, 3) := by decide +kernel
theorem dX5_begin_28 : decode cX5_begin 28 = .ok (.iconst 0, 1) := by decide +kernel
theorem dX5_begin_29 : decode cX5_begin 29 = .ok (.iload_n 1, 1) := by decide +kernel
theorem dX5_begin_30 : decode cX5_begin 30 = .ok (.iastore, 1) := by decide +kernel
theorem dX5_begin_31 : decode cX5_begin 31 = .ok (.aload_n 0, 1) := by decide +kernel
theorem dX5_begin_32 : decode cX5_begin 32 = .ok (.getfield 9, 3) := by decide +kernel
theorem dX5_begin_35 : decode cX5_begin 35 = .ok (.iconst 1, 1) := by decide +kernel
theorem dX5_begin_36 : decode cX5_begin 36 = .ok (.iload_n 2, 1) := by decide +kernel
theorem dX5_begin_37 : decode cX5_begin 37 = .ok (.iastore, 1) := by decide +kernel
theorem dX5_begin_38 : decode cX5_begin 38 = .ok (.aload_n 0, 1) := by decide +kernel
theorem dX5_begin_39 : decode cX5_begin 39 = .ok (.iload_n 3, 1) := by decide +kernel
theorem dX5_begin_40 : decode cX5_begin 40 = .ok (.putfield 41, 3) := by decide +kernel
theorem dX5_begin_43 : decode cX5_begin 43 = .ok (.aload_n 0, 1) := by decide +kernel
theorem dX5_begin_44 : decode cX5_begin 44 = .ok (.iload 4, 2) := by decide +kernel
theorem dX5_begin_46 : decode cX5_begin 46 = .ok (.putfield 45, 3) := by decide +kernel
theorem dX5_begin_49 : decode cX5_begin 49 = .ok (.aload_n 0, 1) := by decide +kernel
theorem dX5_begin_50 : decode cX5_begin 50 = .ok (.iload 5, 2) := by decide +kernel
theorem dX5_begin_52 : decode cX5_begin 52 = .ok (.putfield 48, 3) := by decide +kernel
theorem dX5_begin_55 : decode cX5_begin 55 = .ok (.aload_n 0, 1) := by decide +kernel
theorem dX5_begin_56 : decode cX5_begin 56 = .ok (.iconst 0, 1) := by decide +kernel
theorem dX5_begin_57 : decode cX5_begin 57 = .ok (.putfield 51, 3) := by decide +kernel
theorem dX5_begin_60 : decode cX5_begin 60 = .ok (.aload_n 0, 1) := by decide +kernel
theorem dX5_begin_61 : decode cX5_begin 61 = .ok (.iconst 0, 1) := by decide +kernel
theorem dX5_begin_62 : decode cX5_begin 62 = .ok (.putfield 54, 3) := by decide +kernel
theorem dX5_begin_65 : decode cX5_begin 65 = .ok (.aload_n 0, 1) := by decide +kernel
theorem dX5_begin_66 : decode cX5_begin 66 = .ok (.iconst 0, 1) := by decide +kernel
theorem dX5_begin_67 : decode cX5_begin 67 = .ok (.putfield 58, 3) := by decide +kernel
theorem dX5_begin_70 : decode cX5_begin 70 = .ok (.aload_n 0, 1) := by decide +kernel
theorem dX5_begin_71 : decode cX5_begin 71 = .ok (.iconst 0, 1) := by decide +kernel
theorem dX5_begin_72 : decode cX5_begin 72 = .ok (.putfield 61, 3) := by decide +kernel
theorem dX5_begin_75 : decode cX5_begin 75 = .ok (.aload_n 0, 1) := by decide +kernel
theorem dX5_begin_76 : decode cX5_begin 76 = .ok (.iconst 0, 1) := by decide +kernel
theorem dX5_begin_77 : decode cX5_begin 77 = .ok (.putfield 64, 3) := by decide +kernel
theorem dX5_begin_80 : decode cX5_begin 80 = .ok (.aload_n 0, 1) := by decide +kernel
theorem dX5_begin_81 : decode cX5_begin 81 = .ok (.iconst 0, 1) := by decide +kernel
theorem dX5_begin_82 : decode cX5_begin 82 = .ok (.putfield 67, 3) := by decide +kernel
theorem dX5_begin_85 : decode cX5_begin 85 = .ok (.aload_n 0, 1) := by decide +kernel
theorem dX5_begin_86 : decode cX5_begin 86 = .ok (.iconst 0, 1) := by decide +kernel
theorem dX5_begin_87 : decode cX5_begin 87 = .ok (.putfield 70, 3) := by decide +kernel
theorem dX5_begin_90 : decode cX5_begin 90 = .ok (.aload_n 0, 1) := by decide +kernel
theorem dX5_begin_91 : decode cX5_begin 91 = .ok (.iconst 0, 1) := by decide +kernel
theorem dX5_begin_92 : decode cX5_begin 92 = .ok (.putfield 73, 3) := by decide +kernel
theorem dX5_begin_95 : decode cX5_begin 95 = .ok (.aload_n 0, 1) := by decide +kernel
theorem dX5_begin_96 : decode cX5_begin 96 = .ok (.iconst 0, 1) := by decide +kernel
theorem dX5_begin_97 : decode cX5_begin 97 = .ok (.putfield 76, 3) := by decide +kernel
theorem dX5_begin_100 : decode cX5_begin 100 = .ok (.return_, 1) := by decide +kernel
theorem dX5_goThroughCode_0 : decode cX5_goThroughCode 0 = .ok (.iconst 0, 1) := by decide +kernel
theorem dX5_goThroughCode_1 : decode cX5_goThroughCode 1 = .ok (.istore_n 1, 1) := by decide +kernel
theorem dX5_goThroughCode_2 : decode cX5_goThroughCode 2 = .ok (.iconst 0, 1) := by decide +kernel
theorem dX5_goThroughCode_3 : decode cX5_goThroughCode 3 = .ok (.istore_n 2, 1) := by decide +kernel
theorem dX5_goThroughCode_4 : decode cX5_goThroughCode 4 = .ok (.iload_n 2, 1) := by decide +kernel
theorem dX5_goThroughCode_5 : decode cX5_goThroughCode 5 = .ok (.ldc 79, 2) := by decide +kernel
theorem dX5_goThroughCode_7 : decode cX5_goThroughCode 7 = .ok (.if_icmp .ge 68, 3) := by decide +kernel
theorem dX5_goThroughCode_10 : decode cX5_goThroughCode 10 = .ok (.iload_n 1, 1) := by decide +kernel
theorem dX5_goThroughCode_11 : decode cX5_goThroughCode 11 = .ok (.iconst (-1), 1) := by decide +kernel
theorem dX5_goThroughCode_12 : decode cX5_goThroughCode 12 = .ok (.if_icmp .eq 63, 3) := by decide +kernel
theorem dX5_goThroughCode_15 : decode cX5_goThroughCode 15 = .ok (.aload_n 0, 1) := by decide +kernel
theorem dX5_goThroughCode_16 : decode cX5_goThroughCode 16 = .ok (.getfield 25, 3) := by decide +kernel
theorem dX5_goThroughCode_19 : decode cX5_goThroughCode 19 = .ok (.getfield 80, 3) := by decide +kernel
theorem dX5_goThroughCode_22 : decode cX5_goThroughCode 22 = .ok (.iload_n 1, 1) := by decide +kernel
theorem dX5_goThroughCode_23 : decode cX5_goThroughCode 23 = .ok (.iaload, 1) := by decide +kernel
theorem dX5_goThroughCode_24 : decode cX5_goThroughCode 24 = .ok (.istore_n 3, 1) := by decide +kernel
theorem dX5_goThroughCode_25 : decode cX5_goThroughCode 25 = .ok (.iload_n 3, 1) := by decide +kernel
theorem dX5_goThroughCode_26 : decode cX5_goThroughCode 26 = .ok (.iconst (-1), 1) := by decide +kernel
theorem dX5_goThroughCode_27 : decode cX5_goThroughCode 27 = .ok (.if_icmp .eq 20, 3) := by decide +kernel
theorem dX5_goThroughCode_30 : decode cX5_goThroughCode 30 = .ok (.aload_n 0, 1) := by decide +kernel
theorem dX5_goThroughCode_31 : decode cX5_goThroughCode 31 = .ok (.getfield 25, 3) := by decide +kernel
theorem dX5_goThroughCode_34 : decode cX5_goThroughCode 34 = .ok (.getfield 85, 3) := by decide +kernel
theorem dX5_goThroughCode_37 : decode cX5_goThroughCode 37 = .ok (.iload_n 3, 1) := by decide +kernel
theorem dX5_goThroughCode_38 : decode cX5_goThroughCode 38 = .ok (.iaload, 1) := by decide +kernel
theorem dX5_goThroughCode_39 : decode cX5_goThroughCode 39 = .ok (.iload_n 1, 1) := by decide +kernel
theorem dX5_goThroughCode_40 : decode cX5_goThroughCode 40 = .ok (.if_icmp .ne 7, 3) := by decide +kernel
theorem dX5_goThroughCode_43 : decode cX5_goThroughCode 43 = .ok (.iconst 1, 1) := by decide +kernel
theorem dX5_goThroughCode_44 : decode cX5_goThroughCode 44 = .ok (.goto 4, 3) := by decide +kernel
theorem dX5_goThroughCode_47 : decode cX5_goThroughCode 47 = .ok (.iconst 0, 1) := by decide +kernel
theorem dX5_goThroughCode_48 : decode cX5_goThroughCode 48 = .ok (.istore 4, 2) := by decide +kernel
theorem dX5_goThroughCode_50 : decode cX5_goThroughCode 50 = .ok (.iload 4, 2) := by decide +kernel
theorem dX5_goThroughCode_52 : decode cX5_goThroughCode 52 = .ok (.ifCond .eq 11, 3) := by decide +kernel
theorem dX5_goThroughCode_55 : decode cX5_goThroughCode 55 = .ok (.aload_n 0, 1) := by decide +kernel
theorem dX5_goThroughCode_56 : decode cX5_goThroughCode 56 = .ok (.invokevirtual 88, 3) := by decide +kernel
theorem dX5_goThroughCode_59 : decode cX5_goThroughCode 59 = .ok (.ifCond .ne 4, 3) := by decide +kernel
theorem dX5_goThroughCode_62 : decode cX5_goThroughCode 62 = .ok (.return_, 1) := by decide +kernel
theorem dX5_goThroughCode_63 : decode cX5_goThroughCode 63 = .ok (.aload_n 0, 1) := by decide +kernel
theorem dX5_goThroughCode_64 : decode cX5_goThroughCode 64 = .ok (.iload_n 1, 1) := by decide +kernel
theorem dX5_goThroughCode_65 : decode cX5_goThroughCode 65 = .ok (.invokevirtual 92, 3) := by decide +kernel
theorem dX5_goThroughCode_68 : decode cX5_goThroughCode 68 = .ok (.istore_n 1, 1) := by decide +kernel
theorem dX5_goThroughCode_69 : decode cX5_goThroughCode 69 = .ok (.iinc 2 1, 3) := by decide +kernel
theorem dX5_goThroughCode_72 : decode cX5_goThroughCode 72 = .ok (.goto (-68), 3) := by decide +kernel
theorem dX5_goThroughCode_75 : decode cX5_goThroughCode 75 = .ok (.return_, 1) := by decide +kernel
theorem dX5_obey_0 : decode cX5_obey 0 = .ok (.aload_n 0, 1) := by decide +kernel
theorem dX5_obey_1 : decode cX5_obey 1 = .ok (.getfield 21, 3) := by decide +kernel
theorem dX5_obey_4 : decode cX5_obey 4 = .ok (.getfield 96, 3) := by decide +kernel
theorem dX5_obey_7 : decode cX5_obey 7 = .ok (.iload_n 1, 1) := by decide +kernel
theorem dX5_obey_8 : decode cX5_obey 8 = .ok (.iaload, 1) := by decide +kernel
theorem dX5_obey_9 : decode cX5_obey 9 = .ok (.istore_n 2, 1) := by decide +kernel
theorem dX5_obey_10 : decode cX5_obey 10 = .ok (.aload_n 0, 1) := by decide +kernel
theorem dX5_obey_11 : decode cX5_obey 11 = .ok (.getfield 21, 3) := by decide +kernel
theorem dX5_obey_14 : decode cX5_obey 14 = .ok (.getfield 101, 3) := by decide +kernel
theorem dX5_obey_17 : decode cX5_obey 17 = .ok (.iload_n 1, 1) := by decide +kernel
theorem dX5_obey_18 : decode cX5_obey 18 = .ok (.iaload, 1) := by decide +kernel
theorem dX5_obey_19 : decode cX5_obey 19 = .ok (.istore_n 3, 1) := by decide +kernel
theorem dX5_obey_20 : decode cX5_obey 20 = .ok (.iload_n 2, 1) := by decide +kernel
theorem dX5_obey_21 : decode cX5_obey 21 = .ok (.tableswitch 202 100 122 #[171, 202, 202, 179, 202, 141, 202, 107, 115, 202, 202, 152, 163, 202, 200, 128, 190, 202, 202, 171, 202, 202, 181], 107) := by decide +kernel
theorem dX5_obey_128 : decode cX5_obey 128 = .ok (.aload_n 0, 1) := by decide +kernel
theorem dX5_obey_129 : decode cX5_obey 129 = .ok (.iload_n 3, 1) := by decide +kernel
theorem dX5_obey_130 : decode cX5_obey 130 = .ok (.invokevirtual 104, 3) := by decide +kernel
theorem dX5_obey_133 : decode cX5_obey 133 = .ok (.goto 110, 3) := by decide +kernel
theorem dX5_obey_136 : decode cX5_obey 136 = .ok (.aload_n 0, 1) := by decide +kernel
theorem dX5_obey_137 : decode cX5_obey 137 = .ok (.aload_n 0, 1) := by decide +kernel
theorem dX5_obey_138 : decode cX5_obey 138 = .ok (.getfield 9, 3) := by decide +kernel
theorem dX5_obey_141 : decode cX5_obey 141 = .ok (.iload_n 3, 1) := by decide +kernel
theorem dX5_obey_142 : decode cX5_obey 142 = .ok (.iaload, 1) := by decide +kernel
theorem dX5_obey_143 : decode cX5_obey 143 = .ok (.invokevirtual 104, 3) := by decide +kernel
theorem dX5_obey_146 : decode cX5_obey 146 = .ok (.goto 97, 3) := by decide +kernel
theorem dX5_obey_149 : decode cX5_obey 149 = .ok (.aload_n 0, 1) := by decide +kernel
theorem dX5_obey_150 : decode cX5_obey 150 = .ok (.getfield 9, 3) := by decide +kernel
theorem dX5_obey_153 : decode cX5_obey 153 = .ok (.iload_n 3, 1) := by decide +kernel
theorem dX5_obey_154 : decode cX5_obey 154 = .ok (.aload_n 0, 1) := by decide +kernel
theorem dX5_obey_155 : decode cX5_obey 155 = .ok (.invokevirtual 108, 3) := by decide +kernel
theorem dX5_obey_158 : decode cX5_obey 158 = .ok (.iastore, 1) := by decide +kernel
theorem dX5_obey_159 : decode cX5_obey 159 = .ok (.goto 84, 3) := by decide +kernel
theorem dX5_obey_162 : decode cX5_obey 162 = .ok (.aload_n 0, 1) := by decide +kernel
theorem dX5_obey_163 : decode cX5_obey 163 = .ok (.aload_n 0, 1) := by decide +kernel
theorem dX5_obey_164 : decode cX5_obey 164 = .ok (.invokevirtual 112, 3) := by decide +kernel
theorem dX5_obey_167 : decode cX5_obey 167 = .ok (.invokevirtual 104, 3) := by decide +kernel
theorem dX5_obey_170 : decode cX5_obey 170 = .ok (.goto 73, 3) := by decide +kernel
theorem dX5_obey_173 : decode cX5_obey 173 = .ok (.aload_n 0, 1) := by decide +kernel
theorem dX5_obey_174 : decode cX5_obey 174 = .ok (.aload_n 0, 1) := by decide +kernel
theorem dX5_obey_175 : decode cX5_obey 175 = .ok (.invokevirtual 108, 3) := by decide +kernel
theorem dX5_obey_178 : decode cX5_obey 178 = .ok (.invokevirtual 115, 3) := by decide +kernel
theorem dX5_obey_181 : decode cX5_obey 181 = .ok (.goto 62, 3) := by decide +kernel
theorem dX5_obey_184 : decode cX5_obey 184 = .ok (.aload_n 0, 1) := by decide +kernel
theorem dX5_obey_185 : decode cX5_obey 185 = .ok (.invokevirtual 108, 3) := by decide +kernel
theorem dX5_obey_188 : decode cX5_obey 188 = .ok (.pop, 1) := by decide +kernel
theorem dX5_obey_189 : decode cX5_obey 189 = .ok (.goto 54, 3) := by decide +kernel
theorem dX5_obey_192 : decode cX5_obey 192 = .ok (.aload_n 0, 1) := by decide +kernel
theorem dX5_obey_193 : decode cX5_obey 193 = .ok (.iload_n 2, 1) := by decide +kernel
theorem dX5_obey_194 : decode cX5_obey 194 = .ok (.invokevirtual 118, 3) := by decide +kernel
theorem dX5_obey_197 : decode cX5_obey 197 = .ok (.goto 46, 3) := by decide +kernel
theorem dX5_obey_200 : decode cX5_obey 200 = .ok (.iload_n 3, 1) := by decide +kernel
theorem dX5_obey_201 : decode cX5_obey 201 = .ok (.ireturn, 1) := by decide +kernel
theorem dX5_obey_202 : decode cX5_obey 202 = .ok (.aload_n 0, 1) := by decide +kernel
theorem dX5_obey_203 : decode cX5_obey 203 = .ok (.invokevirtual 108, 3) := by decide +kernel
theorem dX5_obey_206 : decode cX5_obey 206 = .ok (.ifCond .ne 37, 3) := by decide +kernel
theorem dX5_obey_209 : decode cX5_obey 209 = .ok (.iload_n 3, 1) := by decide +kernel
theorem dX5_obey_210 : decode cX5_obey 210 = .ok (.ireturn, 1) := by decide +kernel
theorem dX5_obey_211 : decode cX5_obey 211 = .ok (.aload_n 0, 1) := by decide +kernel
theorem dX5_obey_212 : decode cX5_obey 212 = .ok (.iload_n 1, 1) := by decide +kernel
theorem dX5_obey_213 : decode cX5_obey 213 = .ok (.aload_n 0, 1) := by decide +kernel
theorem dX5_obey_214 : decode cX5_obey 214 = .ok (.invokevirtual 108, 3) := by decide +kernel
theorem dX5_obey_217 : decode cX5_obey 217 = .ok (.invokevirtual 121, 3) := by decide +kernel
theorem dX5_obey_220 : decode cX5_obey 220 = .ok (.ireturn, 1) := by decide +kernel
theorem dX5_obey_221 : decode cX5_obey 221 = .ok (.iconst (-1), 1) := by decide +kernel
theorem dX5_obey_222 : decode cX5_obey 222 = .ok (.ireturn, 1) := by decide +kernel
theorem dX5_obey_223 : decode cX5_obey 223 = .ok (.aload_n 0, 1) := by decide +kernel
theorem dX5_obey_224 : decode cX5_obey 224 = .ok (.iload_n 2, 1) := by decide +kernel
theorem dX5_obey_225 : decode cX5_obey 225 = .ok (.invokevirtual 125, 3) := by decide +kernel
theorem dX5_obey_228 : decode cX5_obey 228 = .ok (.aload_n 0, 1) := by decide +kernel
theorem dX5_obey_229 : decode cX5_obey 229 = .ok (.getfield 54, 3) := by decide +kernel
theorem dX5_obey_232 : decode cX5_obey 232 = .ok (.ifCond .eq 11, 3) := by decide +kernel
theorem dX5_obey_235 : decode cX5_obey 235 = .ok (.aload_n 0, 1) := by decide +kernel
theorem dX5_obey_236 : decode cX5_obey 236 = .ok (.iload_n 1, 1) := by decide +kernel
theorem dX5_obey_237 : decode cX5_obey 237 = .ok (.bipush 99, 2) := by decide +kernel
theorem dX5_obey_239 : decode cX5_obey 239 = .ok (.invokevirtual 121, 3) := by decide +kernel
theorem dX5_obey_242 : decode cX5_obey 242 = .ok (.ireturn, 1) := by decide +kernel
theorem dX5_obey_243 : decode cX5_obey 243 = .ok (.iload_n 1, 1) := by decide +kernel
theorem dX5_obey_244 : decode cX5_obey 244 = .ok (.iconst 1, 1) := by decide +kernel
theorem dX5_obey_245 : decode cX5_obey 245 = .ok (.iadd, 1) := by decide +kernel
theorem dX5_obey_246 : decode cX5_obey 246 = .ok (.aload_n 0, 1) := by decide +kernel
theorem dX5_obey_247 : decode cX5_obey 247 = .ok (.getfield 21, 3) := by decide +kernel
theorem dX5_obey_250 : decode cX5_obey 250 = .ok (.getfield 128, 3) := by decide +kernel
theorem dX5_obey_253 : decode cX5_obey 253 = .ok (.if_icmp .ge 9, 3) := by decide +kernel
theorem dX5_obey_256 : decode cX5_obey 256 = .ok (.iload_n 1, 1) := by decide +kernel
theorem dX5_obey_257 : decode cX5_obey 257 = .ok (.iconst 1, 1) := by decide +kernel
theorem dX5_obey_258 : decode cX5_obey 258 = .ok (.iadd, 1) := by decide +kernel
theorem dX5_obey_259 : decode cX5_obey 259 = .ok (.goto 4, 3) := by decide +kernel
theorem dX5_obey_262 : decode cX5_obey 262 = .ok (.iconst (-1), 1) := by decide +kernel
theorem dX5_obey_263 : decode cX5_obey 263 = .ok (.ireturn, 1) := by decide +kernel
theorem dX5_shuffle_0 : decode cX5_shuffle 0 = .ok (.aload_n 0, 1) := by decide +kernel
theorem dX5_shuffle_1 : decode cX5_shuffle 1 = .ok (.invokevirtual 108, 3) := by decide +kernel
theorem dX5_shuffle_4 : decode cX5_shuffle 4 = .ok (.istore_n 2, 1) := by decide +kernel
theorem dX5_shuffle_5 : decode cX5_shuffle 5 = .ok (.iload_n 1, 1) := by decide +kernel
theorem dX5_shuffle_6 : decode cX5_shuffle 6 = .ok (.bipush 119, 2) := by decide +kernel
theorem dX5_shuffle_8 : decode cX5_shuffle 8 = .ok (.if_icmp .ne 10, 3) := by decide +kernel
theorem dX5_shuffle_11 : decode cX5_shuffle 11 = .ok (.aload_n 0, 1) := by decide +kernel
theorem dX5_shuffle_12 : decode cX5_shuffle 12 = .ok (.invokevirtual 108, 3) := by decide +kernel
theorem dX5_shuffle_15 : decode cX5_shuffle 15 = .ok (.goto 4, 3) := by decide +kernel
theorem dX5_shuffle_18 : decode cX5_shuffle 18 = .ok (.iload_n 2, 1) := by decide +kernel
theorem dX5_shuffle_19 : decode cX5_shuffle 19 = .ok (.istore_n 3, 1) := by decide +kernel
theorem dX5_shuffle_20 : decode cX5_shuffle 20 = .ok (.aload_n 0, 1) := by decide +kernel
theorem dX5_shuffle_21 : decode cX5_shuffle 21 = .ok (.iload_n 2, 1) := by decide +kernel
theorem dX5_shuffle_22 : decode cX5_shuffle 22 = .ok (.invokevirtual 104, 3) := by decide +kernel
theorem dX5_shuffle_25 : decode cX5_shuffle 25 = .ok (.aload_n 0, 1) := by decide +kernel
theorem dX5_shuffle_26 : decode cX5_shuffle 26 = .ok (.iload_n 3, 1) := by decide +kernel
theorem dX5_shuffle_27 : decode cX5_shuffle 27 = .ok (.invokevirtual 104, 3) := by decide +kernel
theorem dX5_shuffle_30 : decode cX5_shuffle 30 = .ok (.return_, 1) := by decide +kernel
theorem dX5_operate_0 : decode cX5_operate 0 = .ok (.aload_n 0, 1) := by decide +kernel
theorem dX5_operate_1 : decode cX5_operate 1 = .ok (.invokevirtual 108, 3) := by decide +kernel
theorem dX5_operate_4 : decode cX5_operate 4 = .ok (.istore_n 2, 1) := by decide +kernel
theorem dX5_operate_5 : decode cX5_operate 5 = .ok (.iload_n 1, 1) := by decide +kernel
theorem dX5_operate_6 : decode cX5_operate 6 = .ok (.invokestatic 131, 3) := by decide +kernel
theorem dX5_operate_9 : decode cX5_operate 9 = .ok (.ifCond .eq 30, 3) := by decide +kernel
theorem dX5_operate_12 : decode cX5_operate 12 = .ok (.aload_n 0, 1) := by decide +kernel
theorem dX5_operate_13 : decode cX5_operate 13 = .ok (.invokevirtual 108, 3) := by decide +kernel
theorem dX5_operate_16 : decode cX5_operate 16 = .ok (.istore_n 3, 1) := by decide +kernel
theorem dX5_operate_17 : decode cX5_operate 17 = .ok (.aload_n 0, 1) := by decide +kernel
theorem dX5_operate_18 : decode cX5_operate 18 = .ok (.iload_n 1, 1) := by decide +kernel
theorem dX5_operate_19 : decode cX5_operate 19 = .ok (.iload_n 2, 1) := by decide +kernel
theorem dX5_operate_20 : decode cX5_operate 20 = .ok (.invokestatic 135, 3) := by decide +kernel
theorem dX5_operate_23 : decode cX5_operate 23 = .ok (.putfield 54, 3) := by decide +kernel
theorem dX5_operate_26 : decode cX5_operate 26 = .ok (.aload_n 0, 1) := by decide +kernel
theorem dX5_operate_27 : decode cX5_operate 27 = .ok (.iload_n 1, 1) := by decide +kernel
theorem dX5_operate_28 : decode cX5_operate 28 = .ok (.iload_n 3, 1) := by decide +kernel
theorem dX5_operate_29 : decode cX5_operate 29 = .ok (.iload_n 2, 1) := by decide +kernel
theorem dX5_operate_30 : decode cX5_operate 30 = .ok (.invokestatic 139, 3) := by decide +kernel
theorem dX5_operate_33 : decode cX5_operate 33 = .ok (.invokevirtual 104, 3) := by decide +kernel
theorem dX5_operate_36 : decode cX5_operate 36 = .ok (.goto 13, 3) := by decide +kernel
theorem dX5_operate_39 : decode cX5_operate 39 = .ok (.aload_n 0, 1) := by decide +kernel
theorem dX5_operate_40 : decode cX5_operate 40 = .ok (.iload_n 1, 1) := by decide +kernel
theorem dX5_operate_41 : decode cX5_operate 41 = .ok (.iload_n 2, 1) := by decide +kernel
theorem dX5_operate_42 : decode cX5_operate 42 = .ok (.iconst 0, 1) := by decide +kernel
theorem dX5_operate_43 : decode cX5_operate 43 = .ok (.invokestatic 139, 3) := by decide +kernel
theorem dX5_operate_46 : decode cX5_operate 46 = .ok (.invokevirtual 104, 3) := by decide +kernel
theorem dX5_operate_49 : decode cX5_operate 49 = .ok (.return_, 1) := by decide +kernel
theorem dX5_throwFrom_0 : decode cX5_throwFrom 0 = .ok (.aload_n 0, 1) := by decide +kernel
theorem dX5_throwFrom_1 : decode cX5_throwFrom 1 = .ok (.getfield 21, 3) := by decide +kernel
theorem dX5_throwFrom_4 : decode cX5_throwFrom 4 = .ok (.iload_n 1, 1) := by decide +kernel
theorem dX5_throwFrom_5 : decode cX5_throwFrom 5 = .ok (.invokevirtual 143, 3) := by decide +kernel
theorem dX5_throwFrom_8 : decode cX5_throwFrom 8 = .ok (.istore_n 3, 1) := by decide +kernel
theorem dX5_throwFrom_9 : decode cX5_throwFrom 9 = .ok (.iload_n 3, 1) := by decide +kernel
theorem dX5_throwFrom_10 : decode cX5_throwFrom 10 = .ok (.iconst (-1), 1) := by decide +kernel
theorem dX5_throwFrom_11 : decode cX5_throwFrom 11 = .ok (.if_icmp .ne 10, 3) := by decide +kernel
theorem dX5_throwFrom_14 : decode cX5_throwFrom 14 = .ok (.aload_n 0, 1) := by decide +kernel
theorem dX5_throwFrom_15 : decode cX5_throwFrom 15 = .ok (.iload_n 2, 1) := by decide +kernel
theorem dX5_throwFrom_16 : decode cX5_throwFrom 16 = .ok (.invokevirtual 146, 3) := by decide +kernel
theorem dX5_throwFrom_19 : decode cX5_throwFrom 19 = .ok (.iconst (-1), 1) := by decide +kernel
theorem dX5_throwFrom_20 : decode cX5_throwFrom 20 = .ok (.ireturn, 1) := by decide +kernel
theorem dX5_throwFrom_21 : decode cX5_throwFrom 21 = .ok (.aload_n 0, 1) := by decide +kernel
theorem dX5_throwFrom_22 : decode cX5_throwFrom 22 = .ok (.iconst 0, 1) := by decide +kernel
theorem dX5_throwFrom_23 : decode cX5_throwFrom 23 = .ok (.putfield 54, 3) := by decide +kernel
theorem dX5_throwFrom_26 : decode cX5_throwFrom 26 = .ok (.aload_n 0, 1) := by decide +kernel
theorem dX5_throwFrom_27 : decode cX5_throwFrom 27 = .ok (.iconst 0, 1) := by decide +kernel
theorem dX5_throwFrom_28 : decode cX5_throwFrom 28 = .ok (.putfield 51, 3) := by decide +kernel
theorem dX5_throwFrom_31 : decode cX5_throwFrom 31 = .ok (.aload_n 0, 1) := by decide +kernel
theorem dX5_throwFrom_32 : decode cX5_throwFrom 32 = .ok (.iload_n 2, 1) := by decide +kernel
theorem dX5_throwFrom_33 : decode cX5_throwFrom 33 = .ok (.invokevirtual 104, 3) := by decide +kernel
theorem dX5_throwFrom_36 : decode cX5_throwFrom 36 = .ok (.aload_n 0, 1) := by decide +kernel
theorem dX5_throwFrom_37 : decode cX5_throwFrom 37 = .ok (.getfield 21, 3) := by decide +kernel
theorem dX5_throwFrom_40 : decode cX5_throwFrom 40 = .ok (.getfield 149, 3) := by decide +kernel
theorem dX5_throwFrom_43 : decode cX5_throwFrom 43 = .ok (.iload_n 3, 1) := by decide +kernel
theorem dX5_throwFrom_44 : decode cX5_throwFrom 44 = .ok (.iaload, 1) := by decide +kernel
theorem dX5_throwFrom_45 : decode cX5_throwFrom 45 = .ok (.ireturn, 1) := by decide +kernel
theorem dX5_goThroughLines_0 : decode cX5_goThroughLines 0 = .ok (.iconst 0, 1) := by decide +kernel
theorem dX5_goThroughLines_1 : decode cX5_goThroughLines 1 = .ok (.istore_n 1, 1) := by decide +kernel
theorem dX5_goThroughLines_2 : decode cX5_goThroughLines 2 = .ok (.iconst 0, 1) := by decide +kernel
theorem dX5_goThroughLines_3 : decode cX5_goThroughLines 3 = .ok (.istore_n 2, 1) := by decide +kernel
theorem dX5_goThroughLines_4 : decode cX5_goThroughLines 4 = .ok (.iload_n 2, 1) := by decide +kernel
theorem dX5_goThroughLines_5 : decode cX5_goThroughLines 5 = .ok (.ldc 79, 2) := by decide +kernel
theorem dX5_goThroughLines_7 : decode cX5_goThroughLines 7 = .ok (.if_icmp .ge 52, 3) := by decide +kernel
theorem dX5_goThroughLines_10 : decode cX5_goThroughLines 10 = .ok (.iload_n 1, 1) := by decide +kernel
theorem dX5_goThroughLines_11 : decode cX5_goThroughLines 11 = .ok (.ifCond .lt 48, 3) := by decide +kernel
theorem dX5_goThroughLines_14 : decode cX5_goThroughLines 14 = .ok (.iload_n 1, 1) := by decide +kernel
theorem dX5_goThroughLines_15 : decode cX5_goThroughLines 15 = .ok (.aload_n 0, 1) := by decide +kernel
theorem dX5_goThroughLines_16 : decode cX5_goThroughLines 16 = .ok (.getfield 37, 3) := by decide +kernel
theorem dX5_goThroughLines_19 : decode cX5_goThroughLines 19 = .ok (.getfield 152, 3) := by decide +kernel
theorem dX5_goThroughLines_22 : decode cX5_goThroughLines 22 = .ok (.if_icmp .ge 37, 3) := by decide +kernel
theorem dX5_goThroughLines_25 : decode cX5_goThroughLines 25 = .ok (.aload_n 0, 1) := by decide +kernel
theorem dX5_goThroughLines_26 : decode cX5_goThroughLines 26 = .ok (.getfield 37, 3) := by decide +kernel
theorem dX5_goThroughLines_29 : decode cX5_goThroughLines 29 = .ok (.getfield 155, 3) := by decide +kernel
theorem dX5_goThroughLines_32 : decode cX5_goThroughLines 32 = .ok (.iload_n 1, 1) := by decide +kernel
theorem dX5_goThroughLines_33 : decode cX5_goThroughLines 33 = .ok (.iaload, 1) := by decide +kernel
theorem dX5_goThroughLines_34 : decode cX5_goThroughLines 34 = .ok (.bipush 11, 2) := by decide +kernel
theorem dX5_goThroughLines_36 : decode cX5_goThroughLines 36 = .ok (.if_icmp .ne 11, 3) := by decide +kernel
theorem dX5_goThroughLines_39 : decode cX5_goThroughLines 39 = .ok (.aload_n 0, 1) := by decide +kernel
theorem dX5_goThroughLines_40 : decode cX5_goThroughLines 40 = .ok (.invokevirtual 88, 3) := by decide +kernel
theorem dX5_goThroughLines_43 : decode cX5_goThroughLines 43 = .ok (.ifCond .ne 4, 3) := by decide +kernel
theorem dX5_goThroughLines_46 : decode cX5_goThroughLines 46 = .ok (.return_, 1) := by decide +kernel
theorem dX5_goThroughLines_47 : decode cX5_goThroughLines 47 = .ok (.aload_n 0, 1) := by decide +kernel
theorem dX5_goThroughLines_48 : decode cX5_goThroughLines 48 = .ok (.iload_n 1, 1) := by decide +kernel
theorem dX5_goThroughLines_49 : decode cX5_goThroughLines 49 = .ok (.invokevirtual 158, 3) := by decide +kernel
theorem dX5_goThroughLines_52 : decode cX5_goThroughLines 52 = .ok (.istore_n 1, 1) := by decide +kernel
theorem dX5_goThroughLines_53 : decode cX5_goThroughLines 53 = .ok (.iinc 2 1, 3) := by decide +kernel
theorem dX5_goThroughLines_56 : decode cX5_goThroughLines 56 = .ok (.goto (-52), 3) := by decide +kernel
theorem dX5_goThroughLines_59 : decode cX5_goThroughLines 59 = .ok (.return_, 1) := by decide +kernel
theorem dX5_follow_0 : decode cX5_follow 0 = .ok (.aload_n 0, 1) := by decide +kernel
theorem dX5_follow_1 : decode cX5_follow 1 = .ok (.getfield 37, 3) := by decide +kernel
theorem dX5_follow_4 : decode cX5_follow 4 = .ok (.getfield 161, 3) := by decide +kernel
theorem dX5_follow_7 : decode cX5_follow 7 = .ok (.iload_n 1, 1) := by decide +kernel
theorem dX5_follow_8 : decode cX5_follow 8 = .ok (.iaload, 1) := by decide +kernel
theorem dX5_follow_9 : decode cX5_follow 9 = .ok (.istore_n 2, 1) := by decide +kernel
theorem dX5_follow_10 : decode cX5_follow 10 = .ok (.aload_n 0, 1) := by decide +kernel
theorem dX5_follow_11 : decode cX5_follow 11 = .ok (.getfield 37, 3) := by decide +kernel
theorem dX5_follow_14 : decode cX5_follow 14 = .ok (.getfield 155, 3) := by decide +kernel
theorem dX5_follow_17 : decode cX5_follow 17 = .ok (.iload_n 1, 1) := by decide +kernel
theorem dX5_follow_18 : decode cX5_follow 18 = .ok (.iaload, 1) := by decide +kernel
theorem dX5_follow_19 : decode cX5_follow 19 = .ok (.tableswitch 144 0 8 #[49, 144, 144, 65, 100, 144, 112, 124, 134], 49) := by decide +kernel
theorem dX5_follow_68 : decode cX5_follow 68 = .ok (.aload_n 0, 1) := by decide +kernel
theorem dX5_follow_69 : decode cX5_follow 69 = .ok (.aload_n 0, 1) := by decide +kernel
theorem dX5_follow_70 : decode cX5_follow 70 = .ok (.getfield 37, 3) := by decide +kernel
theorem dX5_follow_73 : decode cX5_follow 73 = .ok (.getfield 164, 3) := by decide +kernel
theorem dX5_follow_76 : decode cX5_follow 76 = .ok (.iload_n 1, 1) := by decide +kernel
theorem dX5_follow_77 : decode cX5_follow 77 = .ok (.iaload, 1) := by decide +kernel
theorem dX5_follow_78 : decode cX5_follow 78 = .ok (.iload_n 2, 1) := by decide +kernel
theorem dX5_follow_79 : decode cX5_follow 79 = .ok (.iload_n 1, 1) := by decide +kernel
theorem dX5_follow_80 : decode cX5_follow 80 = .ok (.invokevirtual 167, 3) := by decide +kernel
theorem dX5_follow_83 : decode cX5_follow 83 = .ok (.ireturn, 1) := by decide +kernel
theorem dX5_follow_84 : decode cX5_follow 84 = .ok (.aload_n 0, 1) := by decide +kernel
theorem dX5_follow_85 : decode cX5_follow 85 = .ok (.aload_n 0, 1) := by decide +kernel
theorem dX5_follow_86 : decode cX5_follow 86 = .ok (.getfield 33, 3) := by decide +kernel
theorem dX5_follow_89 : decode cX5_follow 89 = .ok (.getfield 170, 3) := by decide +kernel
theorem dX5_follow_92 : decode cX5_follow 92 = .ok (.iload_n 2, 1) := by decide +kernel
theorem dX5_follow_93 : decode cX5_follow 93 = .ok (.iaload, 1) := by decide +kernel
theorem dX5_follow_94 : decode cX5_follow 94 = .ok (.iconst 0, 1) := by decide +kernel
theorem dX5_follow_95 : decode cX5_follow 95 = .ok (.invokevirtual 175, 3) := by decide +kernel
theorem dX5_follow_98 : decode cX5_follow 98 = .ok (.ifCond .eq 9, 3) := by decide +kernel
theorem dX5_follow_101 : decode cX5_follow 101 = .ok (.iload_n 1, 1) := by decide +kernel
theorem dX5_follow_102 : decode cX5_follow 102 = .ok (.iconst 1, 1) := by decide +kernel
theorem dX5_follow_103 : decode cX5_follow 103 = .ok (.iadd, 1) := by decide +kernel
theorem dX5_follow_104 : decode cX5_follow 104 = .ok (.goto 14, 3) := by decide +kernel
theorem dX5_follow_107 : decode cX5_follow 107 = .ok (.aload_n 0, 1) := by decide +kernel
theorem dX5_follow_108 : decode cX5_follow 108 = .ok (.getfield 37, 3) := by decide +kernel
theorem dX5_follow_111 : decode cX5_follow 111 = .ok (.getfield 164, 3) := by decide +kernel
theorem dX5_follow_114 : decode cX5_follow 114 = .ok (.iload_n 1, 1) := by decide +kernel
theorem dX5_follow_115 : decode cX5_follow 115 = .ok (.iaload, 1) := by decide +kernel
theorem dX5_follow_116 : decode cX5_follow 116 = .ok (.iconst 1, 1) := by decide +kernel
theorem dX5_follow_117 : decode cX5_follow 117 = .ok (.iadd, 1) := by decide +kernel
theorem dX5_follow_118 : decode cX5_follow 118 = .ok (.ireturn, 1) := by decide +kernel
theorem dX5_follow_119 : decode cX5_follow 119 = .ok (.aload_n 0, 1) := by decide +kernel
theorem dX5_follow_120 : decode cX5_follow 120 = .ok (.getfield 37, 3) := by decide +kernel
theorem dX5_follow_123 : decode cX5_follow 123 = .ok (.getfield 164, 3) := by decide +kernel
theorem dX5_follow_126 : decode cX5_follow 126 = .ok (.iload_n 1, 1) := by decide +kernel
theorem dX5_follow_127 : decode cX5_follow 127 = .ok (.iaload, 1) := by decide +kernel
theorem dX5_follow_128 : decode cX5_follow 128 = .ok (.iconst 1, 1) := by decide +kernel
theorem dX5_follow_129 : decode cX5_follow 129 = .ok (.iadd, 1) := by decide +kernel
theorem dX5_follow_130 : decode cX5_follow 130 = .ok (.ireturn, 1) := by decide +kernel
theorem dX5_follow_131 : decode cX5_follow 131 = .ok (.aload_n 0, 1) := by decide +kernel
theorem dX5_follow_132 : decode cX5_follow 132 = .ok (.getfield 37, 3) := by decide +kernel
theorem dX5_follow_135 : decode cX5_follow 135 = .ok (.getfield 178, 3) := by decide +kernel
theorem dX5_follow_138 : decode cX5_follow 138 = .ok (.iload_n 2, 1) := by decide +kernel
theorem dX5_follow_139 : decode cX5_follow 139 = .ok (.iaload, 1) := by decide +kernel
theorem dX5_follow_140 : decode cX5_follow 140 = .ok (.iconst 1, 1) := by decide +kernel
theorem dX5_follow_141 : decode cX5_follow 141 = .ok (.iadd, 1) := by decide +kernel
theorem dX5_follow_142 : decode cX5_follow 142 = .ok (.ireturn, 1) := by decide +kernel
theorem dX5_follow_143 : decode cX5_follow 143 = .ok (.aload_n 0, 1) := by decide +kernel
theorem dX5_follow_144 : decode cX5_follow 144 = .ok (.getfield 37, 3) := by decide +kernel
theorem dX5_follow_147 : decode cX5_follow 147 = .ok (.getfield 181, 3) := by decide +kernel
theorem dX5_follow_150 : decode cX5_follow 150 = .ok (.iload_n 2, 1) := by decide +kernel
theorem dX5_follow_151 : decode cX5_follow 151 = .ok (.iaload, 1) := by decide +kernel
theorem dX5_follow_152 : decode cX5_follow 152 = .ok (.ireturn, 1) := by decide +kernel
theorem dX5_follow_153 : decode cX5_follow 153 = .ok (.aload_n 0, 1) := by decide +kernel
theorem dX5_follow_154 : decode cX5_follow 154 = .ok (.getfield 37, 3) := by decide +kernel
theorem dX5_follow_157 : decode cX5_follow 157 = .ok (.getfield 184, 3) := by decide +kernel
theorem dX5_follow_160 : decode cX5_follow 160 = .ok (.iload_n 2, 1) := by decide +kernel
theorem dX5_follow_161 : decode cX5_follow 161 = .ok (.iaload, 1) := by decide +kernel
theorem dX5_follow_162 : decode cX5_follow 162 = .ok (.ireturn, 1) := by decide +kernel
theorem dX5_follow_163 : decode cX5_follow 163 = .ok (.iload_n 1, 1) := by decide +kernel
theorem dX5_follow_164 : decode cX5_follow 164 = .ok (.iconst 1, 1) := by decide +kernel
theorem dX5_follow_165 : decode cX5_follow 165 = .ok (.iadd, 1) := by decide +kernel
theorem dX5_follow_166 : decode cX5_follow 166 = .ok (.ireturn, 1) := by decide +kernel
theorem dX5_perform_0 : decode cX5_perform 0 = .ok (.aload_n 0, 1) := by decide +kernel
theorem dX5_perform_1 : decode cX5_perform 1 = .ok (.getfield 33, 3) := by decide +kernel
theorem dX5_perform_4 : decode cX5_perform 4 = .ok (.getfield 187, 3) := by decide +kernel
theorem dX5_perform_7 : decode cX5_perform 7 = .ok (.iload_n 1, 1) := by decide +kernel
theorem dX5_perform_8 : decode cX5_perform 8 = .ok (.iaload, 1) := by decide +kernel
theorem dX5_perform_9 : decode cX5_perform 9 = .ok (.istore 4, 2) := by decide +kernel
theorem dX5_perform_11 : decode cX5_perform 11 = .ok (.iload 4, 2) := by decide +kernel
theorem dX5_perform_13 : decode cX5_perform 13 = .ok (.bipush 6, 2) := by decide +kernel
theorem dX5_perform_15 : decode cX5_perform 15 = .ok (.if_icmp .ne 5, 3) := by decide +kernel
theorem dX5_perform_18 : decode cX5_perform 18 = .ok (.iconst (-1), 1) := by decide +kernel
theorem dX5_perform_19 : decode cX5_perform 19 = .ok (.ireturn, 1) := by decide +kernel
theorem dX5_perform_20 : decode cX5_perform 20 = .ok (.aload_n 0, 1) := by decide +kernel
theorem dX5_perform_21 : decode cX5_perform 21 = .ok (.aload_n 0, 1) := by decide +kernel
theorem dX5_perform_22 : decode cX5_perform 22 = .ok (.getfield 33, 3) := by decide +kernel
theorem dX5_perform_25 : decode cX5_perform 25 = .ok (.getfield 188, 3) := by decide +kernel
theorem dX5_perform_28 : decode cX5_perform 28 = .ok (.iload_n 1, 1) := by decide +kernel
theorem dX5_perform_29 : decode cX5_perform 29 = .ok (.iaload, 1) := by decide +kernel
theorem dX5_perform_30 : decode cX5_perform 30 = .ok (.iconst 0, 1) := by decide +kernel
theorem dX5_perform_31 : decode cX5_perform 31 = .ok (.invokevirtual 175, 3) := by decide +kernel
theorem dX5_perform_34 : decode cX5_perform 34 = .ok (.istore 5, 2) := by decide +kernel
theorem dX5_perform_36 : decode cX5_perform 36 = .ok (.aload_n 0, 1) := by decide +kernel
theorem dX5_perform_37 : decode cX5_perform 37 = .ok (.getfield 54, 3) := by decide +kernel
theorem dX5_perform_40 : decode cX5_perform 40 = .ok (.ifCond .ne 9, 3) := by decide +kernel
theorem dX5_perform_43 : decode cX5_perform 43 = .ok (.iload 4, 2) := by decide +kernel
theorem dX5_perform_45 : decode cX5_perform 45 = .ok (.iconst 5, 1) := by decide +kernel
theorem dX5_perform_46 : decode cX5_perform 46 = .ok (.if_icmp .ne 23, 3) := by decide +kernel
theorem dX5_perform_49 : decode cX5_perform 49 = .ok (.aload_n 0, 1) := by decide +kernel
theorem dX5_perform_50 : decode cX5_perform 50 = .ok (.iload_n 2, 1) := by decide +kernel
theorem dX5_perform_51 : decode cX5_perform 51 = .ok (.aload_n 0, 1) := by decide +kernel
theorem dX5_perform_52 : decode cX5_perform 52 = .ok (.getfield 54, 3) := by decide +kernel
theorem dX5_perform_55 : decode cX5_perform 55 = .ok (.ifCond .eq 8, 3) := by decide +kernel
theorem dX5_perform_58 : decode cX5_perform 58 = .ok (.bipush 99, 2) := by decide +kernel
theorem dX5_perform_60 : decode cX5_perform 60 = .ok (.goto 5, 3) := by decide +kernel
theorem dX5_perform_63 : decode cX5_perform 63 = .ok (.iload 5, 2) := by decide +kernel
theorem dX5_perform_65 : decode cX5_perform 65 = .ok (.invokevirtual 191, 3) := by decide +kernel
theorem dX5_perform_68 : decode cX5_perform 68 = .ok (.ireturn, 1) := by decide +kernel
theorem dX5_perform_69 : decode cX5_perform 69 = .ok (.aload_n 0, 1) := by decide +kernel
theorem dX5_perform_70 : decode cX5_perform 70 = .ok (.getfield 33, 3) := by decide +kernel
theorem dX5_perform_73 : decode cX5_perform 73 = .ok (.getfield 194, 3) := by decide +kernel
theorem dX5_perform_76 : decode cX5_perform 76 = .ok (.iload_n 1, 1) := by decide +kernel
theorem dX5_perform_77 : decode cX5_perform 77 = .ok (.iaload, 1) := by decide +kernel
theorem dX5_perform_78 : decode cX5_perform 78 = .ok (.istore 6, 2) := by decide +kernel
theorem dX5_perform_80 : decode cX5_perform 80 = .ok (.iload 4, 2) := by decide +kernel
theorem dX5_perform_82 : decode cX5_perform 82 = .ok (.tableswitch 75 0 3 #[30, 42, 54, 66], 30) := by decide +kernel
theorem dX5_perform_112 : decode cX5_perform 112 = .ok (.aload_n 0, 1) := by decide +kernel
theorem dX5_perform_113 : decode cX5_perform 113 = .ok (.getfield 9, 3) := by decide +kernel
theorem dX5_perform_116 : decode cX5_perform 116 = .ok (.iload 6, 2) := by decide +kernel
theorem dX5_perform_118 : decode cX5_perform 118 = .ok (.iload 5, 2) := by decide +kernel
theorem dX5_perform_120 : decode cX5_perform 120 = .ok (.iastore, 1) := by decide +kernel
theorem dX5_perform_121 : decode cX5_perform 121 = .ok (.goto 36, 3) := by decide +kernel
theorem dX5_perform_124 : decode cX5_perform 124 = .ok (.aload_n 0, 1) := by decide +kernel
theorem dX5_perform_125 : decode cX5_perform 125 = .ok (.getfield 15, 3) := by decide +kernel
theorem dX5_perform_128 : decode cX5_perform 128 = .ok (.iload 6, 2) := by decide +kernel
theorem dX5_perform_130 : decode cX5_perform 130 = .ok (.iload 5, 2) := by decide +kernel
theorem dX5_perform_132 : decode cX5_perform 132 = .ok (.iastore, 1) := by decide +kernel
theorem dX5_perform_133 : decode cX5_perform 133 = .ok (.goto 24, 3) := by decide +kernel
theorem dX5_perform_136 : decode cX5_perform 136 = .ok (.aload_n 0, 1) := by decide +kernel
theorem dX5_perform_137 : decode cX5_perform 137 = .ok (.getfield 18, 3) := by decide +kernel
theorem dX5_perform_140 : decode cX5_perform 140 = .ok (.iload 6, 2) := by decide +kernel
theorem dX5_perform_142 : decode cX5_perform 142 = .ok (.iload 5, 2) := by decide +kernel
theorem dX5_perform_144 : decode cX5_perform 144 = .ok (.iastore, 1) := by decide +kernel
theorem dX5_perform_145 : decode cX5_perform 145 = .ok (.goto 12, 3) := by decide +kernel
theorem dX5_perform_148 : decode cX5_perform 148 = .ok (.aload_n 0, 1) := by decide +kernel
theorem dX5_perform_149 : decode cX5_perform 149 = .ok (.iload 5, 2) := by decide +kernel
theorem dX5_perform_151 : decode cX5_perform 151 = .ok (.invokevirtual 115, 3) := by decide +kernel
theorem dX5_perform_154 : decode cX5_perform 154 = .ok (.goto 3, 3) := by decide +kernel
theorem dX5_perform_157 : decode cX5_perform 157 = .ok (.iload_n 3, 1) := by decide +kernel
theorem dX5_perform_158 : decode cX5_perform 158 = .ok (.iconst 1, 1) := by decide +kernel
theorem dX5_perform_159 : decode cX5_perform 159 = .ok (.iadd, 1) := by decide +kernel
theorem dX5_perform_160 : decode cX5_perform 160 = .ok (.ireturn, 1) := by decide +kernel
theorem dX5_catchIn_0 : decode cX5_catchIn 0 = .ok (.aload_n 0, 1) := by decide +kernel
theorem dX5_catchIn_1 : decode cX5_catchIn 1 = .ok (.getfield 25, 3) := by decide +kernel
theorem dX5_catchIn_4 : decode cX5_catchIn 4 = .ok (.getfield 197, 3) := by decide +kernel
theorem dX5_catchIn_7 : decode cX5_catchIn 7 = .ok (.iload_n 1, 1) := by decide +kernel
theorem dX5_catchIn_8 : decode cX5_catchIn 8 = .ok (.iaload, 1) := by decide +kernel
theorem dX5_catchIn_9 : decode cX5_catchIn 9 = .ok (.iconst (-1), 1) := by decide +kernel
theorem dX5_catchIn_10 : decode cX5_catchIn 10 = .ok (.if_icmp .ne 10, 3) := by decide +kernel
theorem dX5_catchIn_13 : decode cX5_catchIn 13 = .ok (.aload_n 0, 1) := by decide +kernel
theorem dX5_catchIn_14 : decode cX5_catchIn 14 = .ok (.iload_n 2, 1) := by decide +kernel
theorem dX5_catchIn_15 : decode cX5_catchIn 15 = .ok (.invokevirtual 146, 3) := by decide +kernel
theorem dX5_catchIn_18 : decode cX5_catchIn 18 = .ok (.iconst (-1), 1) := by decide +kernel
theorem dX5_catchIn_19 : decode cX5_catchIn 19 = .ok (.ireturn, 1) := by decide +kernel
theorem dX5_catchIn_20 : decode cX5_catchIn 20 = .ok (.aload_n 0, 1) := by decide +kernel
theorem dX5_catchIn_21 : decode cX5_catchIn 21 = .ok (.iconst 0, 1) := by decide +kernel
theorem dX5_catchIn_22 : decode cX5_catchIn 22 = .ok (.putfield 54, 3) := by decide +kernel
theorem dX5_catchIn_25 : decode cX5_catchIn 25 = .ok (.aload_n 0, 1) := by decide +kernel
theorem dX5_catchIn_26 : decode cX5_catchIn 26 = .ok (.getfield 15, 3) := by decide +kernel
theorem dX5_catchIn_29 : decode cX5_catchIn 29 = .ok (.iconst 0, 1) := by decide +kernel
theorem dX5_catchIn_30 : decode cX5_catchIn 30 = .ok (.iload_n 2, 1) := by decide +kernel
theorem dX5_catchIn_31 : decode cX5_catchIn 31 = .ok (.iastore, 1) := by decide +kernel
theorem dX5_catchIn_32 : decode cX5_catchIn 32 = .ok (.aload_n 0, 1) := by decide +kernel
theorem dX5_catchIn_33 : decode cX5_catchIn 33 = .ok (.getfield 37, 3) := by decide +kernel
theorem dX5_catchIn_36 : decode cX5_catchIn 36 = .ok (.iload_n 1, 1) := by decide +kernel
theorem dX5_catchIn_37 : decode cX5_catchIn 37 = .ok (.invokevirtual 200, 3) := by decide +kernel
theorem dX5_catchIn_40 : decode cX5_catchIn 40 = .ok (.ireturn, 1) := by decide +kernel
theorem dX5_value_0 : decode cX5_value 0 = .ok (.iload_n 1, 1) := by decide +kernel
theorem dX5_value_1 : decode cX5_value 1 = .ok (.iconst (-1), 1) := by decide +kernel
theorem dX5_value_2 : decode cX5_value 2 = .ok (.if_icmp .eq 16, 3) := by decide +kernel
theorem dX5_value_5 : decode cX5_value 5 = .ok (.iload_n 2, 1) := by decide +kernel
theorem dX5_value_6 : decode cX5_value 6 = .ok (.bipush 60, 2) := by decide +kernel
theorem dX5_value_8 : decode cX5_value 8 = .ok (.if_icmp .gt 10, 3) := by decide +kernel
theorem dX5_value_11 : decode cX5_value 11 = .ok (.aload_n 0, 1) := by decide +kernel
theorem dX5_value_12 : decode cX5_value 12 = .ok (.getfield 54, 3) := by decide +kernel
theorem dX5_value_15 : decode cX5_value 15 = .ok (.ifCond .eq 5, 3) := by decide +kernel
theorem dX5_value_18 : decode cX5_value 18 = .ok (.iconst 0, 1) := by decide +kernel
theorem dX5_value_19 : decode cX5_value 19 = .ok (.ireturn, 1) := by decide +kernel
theorem dX5_value_20 : decode cX5_value 20 = .ok (.aload_n 0, 1) := by decide +kernel
theorem dX5_value_21 : decode cX5_value 21 = .ok (.getfield 29, 3) := by decide +kernel
theorem dX5_value_24 : decode cX5_value 24 = .ok (.getfield 203, 3) := by decide +kernel
theorem dX5_value_27 : decode cX5_value 27 = .ok (.iload_n 1, 1) := by decide +kernel
theorem dX5_value_28 : decode cX5_value 28 = .ok (.iaload, 1) := by decide +kernel
theorem dX5_value_29 : decode cX5_value 29 = .ok (.istore_n 3, 1) := by decide +kernel
theorem dX5_value_30 : decode cX5_value 30 = .ok (.aload_n 0, 1) := by decide +kernel
theorem dX5_value_31 : decode cX5_value 31 = .ok (.getfield 29, 3) := by decide +kernel
theorem dX5_value_34 : decode cX5_value 34 = .ok (.getfield 206, 3) := by decide +kernel
theorem dX5_value_37 : decode cX5_value 37 = .ok (.iload_n 1, 1) := by decide +kernel
theorem dX5_value_38 : decode cX5_value 38 = .ok (.iaload, 1) := by decide +kernel
theorem dX5_value_39 : decode cX5_value 39 = .ok (.istore 4, 2) := by decide +kernel
theorem dX5_value_41 : decode cX5_value 41 = .ok (.iload_n 3, 1) := by decide +kernel
theorem dX5_value_42 : decode cX5_value 42 = .ok (.lookupswitch 82 #[(84, 61), (88, 69), (105, 77), (107, 50), (108, 53)], 50) := by decide +kernel
theorem dX5_value_92 : decode cX5_value 92 = .ok (.iload 4, 2) := by decide +kernel
theorem dX5_value_94 : decode cX5_value 94 = .ok (.ireturn, 1) := by decide +kernel
theorem dX5_value_95 : decode cX5_value 95 = .ok (.aload_n 0, 1) := by decide +kernel
theorem dX5_value_96 : decode cX5_value 96 = .ok (.getfield 9, 3) := by decide +kernel
theorem dX5_value_99 : decode cX5_value 99 = .ok (.iload 4, 2) := by decide +kernel
theorem dX5_value_101 : decode cX5_value 101 = .ok (.iaload, 1) := by decide +kernel
theorem dX5_value_102 : decode cX5_value 102 = .ok (.ireturn, 1) := by decide +kernel
theorem dX5_value_103 : decode cX5_value 103 = .ok (.aload_n 0, 1) := by decide +kernel
theorem dX5_value_104 : decode cX5_value 104 = .ok (.getfield 15, 3) := by decide +kernel
theorem dX5_value_107 : decode cX5_value 107 = .ok (.iload 4, 2) := by decide +kernel
theorem dX5_value_109 : decode cX5_value 109 = .ok (.iaload, 1) := by decide +kernel
theorem dX5_value_110 : decode cX5_value 110 = .ok (.ireturn, 1) := by decide +kernel
theorem dX5_value_111 : decode cX5_value 111 = .ok (.aload_n 0, 1) := by decide +kernel
theorem dX5_value_112 : decode cX5_value 112 = .ok (.getfield 18, 3) := by decide +kernel
theorem dX5_value_115 : decode cX5_value 115 = .ok (.iload 4, 2) := by decide +kernel
theorem dX5_value_117 : decode cX5_value 117 = .ok (.iaload, 1) := by decide +kernel
theorem dX5_value_118 : decode cX5_value 118 = .ok (.ireturn, 1) := by decide +kernel
theorem dX5_value_119 : decode cX5_value 119 = .ok (.aload_n 0, 1) := by decide +kernel
theorem dX5_value_120 : decode cX5_value 120 = .ok (.invokevirtual 112, 3) := by decide +kernel
theorem dX5_value_123 : decode cX5_value 123 = .ok (.ireturn, 1) := by decide +kernel
theorem dX5_value_124 : decode cX5_value 124 = .ok (.aload_n 0, 1) := by decide +kernel
theorem dX5_value_125 : decode cX5_value 125 = .ok (.iload 4, 2) := by decide +kernel
theorem dX5_value_127 : decode cX5_value 127 = .ok (.iload_n 2, 1) := by decide +kernel
theorem dX5_value_128 : decode cX5_value 128 = .ok (.iconst 1, 1) := by decide +kernel
theorem dX5_value_129 : decode cX5_value 129 = .ok (.iadd, 1) := by decide +kernel
theorem dX5_value_130 : decode cX5_value 130 = .ok (.invokevirtual 175, 3) := by decide +kernel
theorem dX5_value_133 : decode cX5_value 133 = .ok (.istore 5, 2) := by decide +kernel
theorem dX5_value_135 : decode cX5_value 135 = .ok (.iload_n 3, 1) := by decide +kernel
theorem dX5_value_136 : decode cX5_value 136 = .ok (.invokestatic 131, 3) := by decide +kernel
theorem dX5_value_139 : decode cX5_value 139 = .ok (.ifCond .eq 22, 3) := by decide +kernel
theorem dX5_value_142 : decode cX5_value 142 = .ok (.aload_n 0, 1) := by decide +kernel
theorem dX5_value_143 : decode cX5_value 143 = .ok (.aload_n 0, 1) := by decide +kernel
theorem dX5_value_144 : decode cX5_value 144 = .ok (.getfield 29, 3) := by decide +kernel
theorem dX5_value_147 : decode cX5_value 147 = .ok (.getfield 209, 3) := by decide +kernel
theorem dX5_value_150 : decode cX5_value 150 = .ok (.iload_n 1, 1) := by decide +kernel
theorem dX5_value_151 : decode cX5_value 151 = .ok (.iaload, 1) := by decide +kernel
theorem dX5_value_152 : decode cX5_value 152 = .ok (.iload_n 2, 1) := by decide +kernel
theorem dX5_value_153 : decode cX5_value 153 = .ok (.iconst 1, 1) := by decide +kernel
theorem dX5_value_154 : decode cX5_value 154 = .ok (.iadd, 1) := by decide +kernel
theorem dX5_value_155 : decode cX5_value 155 = .ok (.invokevirtual 175, 3) := by decide +kernel
theorem dX5_value_158 : decode cX5_value 158 = .ok (.goto 4, 3) := by decide +kernel
theorem dX5_value_161 : decode cX5_value 161 = .ok (.iconst 0, 1) := by decide +kernel
theorem dX5_value_162 : decode cX5_value 162 = .ok (.istore 6, 2) := by decide +kernel
theorem dX5_value_164 : decode cX5_value 164 = .ok (.aload_n 0, 1) := by decide +kernel
theorem dX5_value_165 : decode cX5_value 165 = .ok (.aload_n 0, 1) := by decide +kernel
theorem dX5_value_166 : decode cX5_value 166 = .ok (.getfield 54, 3) := by decide +kernel
theorem dX5_value_169 : decode cX5_value 169 = .ok (.ifCond .ne 12, 3) := by decide +kernel
theorem dX5_value_172 : decode cX5_value 172 = .ok (.iload_n 3, 1) := by decide +kernel
theorem dX5_value_173 : decode cX5_value 173 = .ok (.iload 6, 2) := by decide +kernel
theorem dX5_value_175 : decode cX5_value 175 = .ok (.invokestatic 135, 3) := by decide +kernel
theorem dX5_value_178 : decode cX5_value 178 = .ok (.ifCond .eq 7, 3) := by decide +kernel
theorem dX5_value_181 : decode cX5_value 181 = .ok (.iconst 1, 1) := by decide +kernel
theorem dX5_value_182 : decode cX5_value 182 = .ok (.goto 4, 3) := by decide +kernel
theorem dX5_value_185 : decode cX5_value 185 = .ok (.iconst 0, 1) := by decide +kernel
theorem dX5_value_186 : decode cX5_value 186 = .ok (.putfield 54, 3) := by decide +kernel
theorem dX5_value_189 : decode cX5_value 189 = .ok (.aload_n 0, 1) := by decide +kernel
theorem dX5_value_190 : decode cX5_value 190 = .ok (.getfield 54, 3) := by decide +kernel
theorem dX5_value_193 : decode cX5_value 193 = .ok (.ifCond .eq 7, 3) := by decide +kernel
theorem dX5_value_196 : decode cX5_value 196 = .ok (.iconst 0, 1) := by decide +kernel
theorem dX5_value_197 : decode cX5_value 197 = .ok (.goto 11, 3) := by decide +kernel
theorem dX5_value_200 : decode cX5_value 200 = .ok (.iload_n 3, 1) := by decide +kernel
theorem dX5_value_201 : decode cX5_value 201 = .ok (.iload 5, 2) := by decide +kernel
theorem dX5_value_203 : decode cX5_value 203 = .ok (.iload 6, 2) := by decide +kernel
theorem dX5_value_205 : decode cX5_value 205 = .ok (.invokestatic 139, 3) := by decide +kernel
theorem dX5_value_208 : decode cX5_value 208 = .ok (.ireturn, 1) := by decide +kernel
theorem dX5_enter_0 : decode cX5_enter 0 = .ok (.aload_n 0, 1) := by decide +kernel
theorem dX5_enter_1 : decode cX5_enter 1 = .ok (.getfield 64, 3) := by decide +kernel
theorem dX5_enter_4 : decode cX5_enter 4 = .ok (.aload_n 0, 1) := by decide +kernel
theorem dX5_enter_5 : decode cX5_enter 5 = .ok (.getfield 45, 3) := by decide +kernel
theorem dX5_enter_8 : decode cX5_enter 8 = .ok (.if_icmp .ne 10, 3) := by decide +kernel
theorem dX5_enter_11 : decode cX5_enter 11 = .ok (.aload_n 0, 1) := by decide +kernel
theorem dX5_enter_12 : decode cX5_enter 12 = .ok (.iconst 2, 1) := by decide +kernel
theorem dX5_enter_13 : decode cX5_enter 13 = .ok (.putfield 61, 3) := by decide +kernel
theorem dX5_enter_16 : decode cX5_enter 16 = .ok (.iconst 0, 1) := by decide +kernel
theorem dX5_enter_17 : decode cX5_enter 17 = .ok (.ireturn, 1) := by decide +kernel
theorem dX5_enter_18 : decode cX5_enter 18 = .ok (.aload_n 0, 1) := by decide +kernel
theorem dX5_enter_19 : decode cX5_enter 19 = .ok (.dup, 1) := by decide +kernel
theorem dX5_enter_20 : decode cX5_enter 20 = .ok (.getfield 64, 3) := by decide +kernel
theorem dX5_enter_23 : decode cX5_enter 23 = .ok (.iconst 1, 1) := by decide +kernel
theorem dX5_enter_24 : decode cX5_enter 24 = .ok (.iadd, 1) := by decide +kernel
theorem dX5_enter_25 : decode cX5_enter 25 = .ok (.putfield 64, 3) := by decide +kernel
theorem dX5_enter_28 : decode cX5_enter 28 = .ok (.iconst 1, 1) := by decide +kernel
theorem dX5_enter_29 : decode cX5_enter 29 = .ok (.ireturn, 1) := by decide +kernel
theorem dX5_draw_0 : decode cX5_draw 0 = .ok (.aload_n 0, 1) := by decide +kernel
theorem dX5_draw_1 : decode cX5_draw 1 = .ok (.aload_n 0, 1) := by decide +kernel
theorem dX5_draw_2 : decode cX5_draw 2 = .ok (.getfield 41, 3) := by decide +kernel
theorem dX5_draw_5 : decode cX5_draw 5 = .ok (.ldc 212, 2) := by decide +kernel
theorem dX5_draw_7 : decode cX5_draw 7 = .ok (.imul, 1) := by decide +kernel
theorem dX5_draw_8 : decode cX5_draw 8 = .ok (.sipush 12345, 3) := by decide +kernel
theorem dX5_draw_11 : decode cX5_draw 11 = .ok (.iadd, 1) := by decide +kernel
theorem dX5_draw_12 : decode cX5_draw 12 = .ok (.putfield 41, 3) := by decide +kernel
theorem dX5_draw_15 : decode cX5_draw 15 = .ok (.aload_n 0, 1) := by decide +kernel
theorem dX5_draw_16 : decode cX5_draw 16 = .ok (.dup, 1) := by decide +kernel
theorem dX5_draw_17 : decode cX5_draw 17 = .ok (.getfield 67, 3) := by decide +kernel
theorem dX5_draw_20 : decode cX5_draw 20 = .ok (.iconst 1, 1) := by decide +kernel
theorem dX5_draw_21 : decode cX5_draw 21 = .ok (.iadd, 1) := by decide +kernel
theorem dX5_draw_22 : decode cX5_draw 22 = .ok (.putfield 67, 3) := by decide +kernel
theorem dX5_draw_25 : decode cX5_draw 25 = .ok (.aload_n 0, 1) := by decide +kernel
theorem dX5_draw_26 : decode cX5_draw 26 = .ok (.getfield 41, 3) := by decide +kernel
theorem dX5_draw_29 : decode cX5_draw 29 = .ok (.bipush 16, 2) := by decide +kernel
theorem dX5_draw_31 : decode cX5_draw 31 = .ok (.iushr, 1) := by decide +kernel
theorem dX5_draw_32 : decode cX5_draw 32 = .ok (.sipush 32767, 3) := by decide +kernel
theorem dX5_draw_35 : decode cX5_draw 35 = .ok (.iand, 1) := by decide +kernel
theorem dX5_draw_36 : decode cX5_draw 36 = .ok (.iconst 5, 1) := by decide +kernel
theorem dX5_draw_37 : decode cX5_draw 37 = .ok (.irem, 1) := by decide +kernel
theorem dX5_draw_38 : decode cX5_draw 38 = .ok (.ireturn, 1) := by decide +kernel
theorem dX5_tellOut_0 : decode cX5_tellOut 0 = .ok (.aload_n 0, 1) := by decide +kernel
theorem dX5_tellOut_1 : decode cX5_tellOut 1 = .ok (.getfield 70, 3) := by decide +kernel
theorem dX5_tellOut_4 : decode cX5_tellOut 4 = .ok (.aload_n 0, 1) := by decide +kernel
theorem dX5_tellOut_5 : decode cX5_tellOut 5 = .ok (.getfield 48, 3) := by decide +kernel
theorem dX5_tellOut_8 : decode cX5_tellOut 8 = .ok (.if_icmp .ne 8, 3) := by decide +kernel
theorem dX5_tellOut_11 : decode cX5_tellOut 11 = .ok (.aload_n 0, 1) := by decide +kernel
theorem dX5_tellOut_12 : decode cX5_tellOut 12 = .ok (.iload_n 1, 1) := by decide +kernel
theorem dX5_tellOut_13 : decode cX5_tellOut 13 = .ok (.putfield 76, 3) := by decide +kernel
theorem dX5_tellOut_16 : decode cX5_tellOut 16 = .ok (.aload_n 0, 1) := by decide +kernel
theorem dX5_tellOut_17 : decode cX5_tellOut 17 = .ok (.dup, 1) := by decide +kernel
theorem dX5_tellOut_18 : decode cX5_tellOut 18 = .ok (.getfield 70, 3) := by decide +kernel
theorem dX5_tellOut_21 : decode cX5_tellOut 21 = .ok (.iconst 1, 1) := by decide +kernel
theorem dX5_tellOut_22 : decode cX5_tellOut 22 = .ok (.iadd, 1) := by decide +kernel
theorem dX5_tellOut_23 : decode cX5_tellOut 23 = .ok (.putfield 70, 3) := by decide +kernel
theorem dX5_tellOut_26 : decode cX5_tellOut 26 = .ok (.aload_n 0, 1) := by decide +kernel
theorem dX5_tellOut_27 : decode cX5_tellOut 27 = .ok (.bipush 31, 2) := by decide +kernel
theorem dX5_tellOut_29 : decode cX5_tellOut 29 = .ok (.aload_n 0, 1) := by decide +kernel
theorem dX5_tellOut_30 : decode cX5_tellOut 30 = .ok (.getfield 73, 3) := by decide +kernel
theorem dX5_tellOut_33 : decode cX5_tellOut 33 = .ok (.imul, 1) := by decide +kernel
theorem dX5_tellOut_34 : decode cX5_tellOut 34 = .ok (.iload_n 1, 1) := by decide +kernel
theorem dX5_tellOut_35 : decode cX5_tellOut 35 = .ok (.iadd, 1) := by decide +kernel
theorem dX5_tellOut_36 : decode cX5_tellOut 36 = .ok (.putfield 73, 3) := by decide +kernel
theorem dX5_tellOut_39 : decode cX5_tellOut 39 = .ok (.return_, 1) := by decide +kernel
theorem dX5_throwOut_0 : decode cX5_throwOut 0 = .ok (.aload_n 0, 1) := by decide +kernel
theorem dX5_throwOut_1 : decode cX5_throwOut 1 = .ok (.iconst 1, 1) := by decide +kernel
theorem dX5_throwOut_2 : decode cX5_throwOut 2 = .ok (.putfield 61, 3) := by decide +kernel
theorem dX5_throwOut_5 : decode cX5_throwOut 5 = .ok (.aload_n 0, 1) := by decide +kernel
theorem dX5_throwOut_6 : decode cX5_throwOut 6 = .ok (.iload_n 1, 1) := by decide +kernel
theorem dX5_throwOut_7 : decode cX5_throwOut 7 = .ok (.putfield 58, 3) := by decide +kernel
theorem dX5_throwOut_10 : decode cX5_throwOut 10 = .ok (.return_, 1) := by decide +kernel
theorem dX5_push_0 : decode cX5_push 0 = .ok (.aload_n 0, 1) := by decide +kernel
theorem dX5_push_1 : decode cX5_push 1 = .ok (.getfield 51, 3) := by decide +kernel
theorem dX5_push_4 : decode cX5_push 4 = .ok (.aload_n 0, 1) := by decide +kernel
theorem dX5_push_5 : decode cX5_push 5 = .ok (.getfield 15, 3) := by decide +kernel
theorem dX5_push_8 : decode cX5_push 8 = .ok (.arraylength, 1) := by decide +kernel
theorem dX5_push_9 : decode cX5_push 9 = .ok (.if_icmp .ge 23, 3) := by decide +kernel
theorem dX5_push_12 : decode cX5_push 12 = .ok (.aload_n 0, 1) := by decide +kernel
theorem dX5_push_13 : decode cX5_push 13 = .ok (.getfield 15, 3) := by decide +kernel
theorem dX5_push_16 : decode cX5_push 16 = .ok (.aload_n 0, 1) := by decide +kernel
theorem dX5_push_17 : decode cX5_push 17 = .ok (.getfield 51, 3) := by decide +kernel
theorem dX5_push_20 : decode cX5_push 20 = .ok (.iload_n 1, 1) := by decide +kernel
theorem dX5_push_21 : decode cX5_push 21 = .ok (.iastore, 1) := by decide +kernel
theorem dX5_push_22 : decode cX5_push 22 = .ok (.aload_n 0, 1) := by decide +kernel
theorem dX5_push_23 : decode cX5_push 23 = .ok (.dup, 1) := by decide +kernel
theorem dX5_push_24 : decode cX5_push 24 = .ok (.getfield 51, 3) := by decide +kernel
theorem dX5_push_27 : decode cX5_push 27 = .ok (.iconst 1, 1) := by decide +kernel
theorem dX5_push_28 : decode cX5_push 28 = .ok (.iadd, 1) := by decide +kernel
theorem dX5_push_29 : decode cX5_push 29 = .ok (.putfield 51, 3) := by decide +kernel
theorem dX5_push_32 : decode cX5_push 32 = .ok (.return_, 1) := by decide +kernel
theorem dX5_pop_0 : decode cX5_pop 0 = .ok (.aload_n 0, 1) := by decide +kernel
theorem dX5_pop_1 : decode cX5_pop 1 = .ok (.getfield 51, 3) := by decide +kernel
theorem dX5_pop_4 : decode cX5_pop 4 = .ok (.ifCond .le 13, 3) := by decide +kernel
theorem dX5_pop_7 : decode cX5_pop 7 = .ok (.aload_n 0, 1) := by decide +kernel
theorem dX5_pop_8 : decode cX5_pop 8 = .ok (.dup, 1) := by decide +kernel
theorem dX5_pop_9 : decode cX5_pop 9 = .ok (.getfield 51, 3) := by decide +kernel
theorem dX5_pop_12 : decode cX5_pop 12 = .ok (.iconst 1, 1) := by decide +kernel
theorem dX5_pop_13 : decode cX5_pop 13 = .ok (.isub, 1) := by decide +kernel
theorem dX5_pop_14 : decode cX5_pop 14 = .ok (.putfield 51, 3) := by decide +kernel
theorem dX5_pop_17 : decode cX5_pop 17 = .ok (.aload_n 0, 1) := by decide +kernel
theorem dX5_pop_18 : decode cX5_pop 18 = .ok (.getfield 15, 3) := by decide +kernel
theorem dX5_pop_21 : decode cX5_pop 21 = .ok (.aload_n 0, 1) := by decide +kernel
theorem dX5_pop_22 : decode cX5_pop 22 = .ok (.getfield 51, 3) := by decide +kernel
theorem dX5_pop_25 : decode cX5_pop 25 = .ok (.iaload, 1) := by decide +kernel
theorem dX5_pop_26 : decode cX5_pop 26 = .ok (.ireturn, 1) := by decide +kernel
theorem dX6_init_0 : decode cX6_init 0 = .ok (.aload_n 0, 1) := by decide +kernel
theorem dX6_init_1 : decode cX6_init 1 = .ok (.invokespecial 3, 3) := by decide +kernel
theorem dX6_init_4 : decode cX6_init 4 = .ok (.aload_n 0, 1) := by decide +kernel
theorem dX6_init_5 : decode cX6_init 5 = .ok (.sipush 400, 3) := by decide +kernel
theorem dX6_init_8 : decode cX6_init 8 = .ok (.newarray .int, 2) := by decide +kernel
theorem dX6_init_10 : decode cX6_init 10 = .ok (.putfield 9, 3) := by decide +kernel
theorem dX6_init_13 : decode cX6_init 13 = .ok (.aload_n 0, 1) := by decide +kernel
theorem dX6_init_14 : decode cX6_init 14 = .ok (.aload_n 1, 1) := by decide +kernel
theorem dX6_init_15 : decode cX6_init 15 = .ok (.putfield 15, 3) := by decide +kernel
theorem dX6_init_18 : decode cX6_init 18 = .ok (.aload_n 0, 1) := by decide +kernel
theorem dX6_init_19 : decode cX6_init 19 = .ok (.aload_n 2, 1) := by decide +kernel
theorem dX6_init_20 : decode cX6_init 20 = .ok (.putfield 19, 3) := by decide +kernel
theorem dX6_init_23 : decode cX6_init 23 = .ok (.aload_n 0, 1) := by decide +kernel
theorem dX6_init_24 : decode cX6_init 24 = .ok (.aload_n 3, 1) := by decide +kernel
theorem dX6_init_25 : decode cX6_init 25 = .ok (.putfield 23, 3) := by decide +kernel
theorem dX6_init_28 : decode cX6_init 28 = .ok (.return_, 1) := by decide +kernel
theorem dX6_signAt_0 : decode cX6_signAt 0 = .ok (.iload_n 1, 1) := by decide +kernel
theorem dX6_signAt_1 : decode cX6_signAt 1 = .ok (.ifCond .lt 27, 3) := by decide +kernel
theorem dX6_signAt_4 : decode cX6_signAt 4 = .ok (.iload_n 1, 1) := by decide +kernel
theorem dX6_signAt_5 : decode cX6_signAt 5 = .ok (.aload_n 0, 1) := by decide +kernel
theorem dX6_signAt_6 : decode cX6_signAt 6 = .ok (.getfield 27, 3) := by decide +kernel
theorem dX6_signAt_9 : decode cX6_signAt 9 = .ok (.if_icmp .ge 19, 3) := by decide +kernel
theorem dX6_signAt_12 : decode cX6_signAt 12 = .ok (.iload_n 1, 1) := by decide +kernel
theorem dX6_signAt_13 : decode cX6_signAt 13 = .ok (.sipush 400, 3) := by decide +kernel
theorem dX6_signAt_16 : decode cX6_signAt 16 = .ok (.if_icmp .ge 12, 3) := by decide +kernel
theorem dX6_signAt_19 : decode cX6_signAt 19 = .ok (.aload_n 0, 1) := by decide +kernel
theorem dX6_signAt_20 : decode cX6_signAt 20 = .ok (.getfield 9, 3) := by decide +kernel
theorem dX6_signAt_23 : decode cX6_signAt 23 = .ok (.iload_n 1, 1) := by decide +kernel
theorem dX6_signAt_24 : decode cX6_signAt 24 = .ok (.iaload, 1) := by decide +kernel
theorem dX6_signAt_25 : decode cX6_signAt 25 = .ok (.goto 4, 3) := by decide +kernel
theorem dX6_signAt_28 : decode cX6_signAt 28 = .ok (.iconst (-1), 1) := by decide +kernel
theorem dX6_signAt_29 : decode cX6_signAt 29 = .ok (.ireturn, 1) := by decide +kernel
theorem dX6_widthOf_0 : decode cX6_widthOf 0 = .ok (.aload_n 0, 1) := by decide +kernel
theorem dX6_widthOf_1 : decode cX6_widthOf 1 = .ok (.iconst 0, 1) := by decide +kernel
theorem dX6_widthOf_2 : decode cX6_widthOf 2 = .ok (.putfield 27, 3) := by decide +kernel
theorem dX6_widthOf_5 : decode cX6_widthOf 5 = .ok (.aload_n 0, 1) := by decide +kernel
theorem dX6_widthOf_6 : decode cX6_widthOf 6 = .ok (.iload_n 1, 1) := by decide +kernel
theorem dX6_widthOf_7 : decode cX6_widthOf 7 = .ok (.iconst 0, 1) := by decide +kernel
theorem dX6_widthOf_8 : decode cX6_widthOf 8 = .ok (.invokevirtual 31, 3) := by decide +kernel
theorem dX6_widthOf_11 : decode cX6_widthOf 11 = .ok (.aload_n 0, 1) := by decide +kernel
theorem dX6_widthOf_12 : decode cX6_widthOf 12 = .ok (.getfield 27, 3) := by decide +kernel
theorem dX6_widthOf_15 : decode cX6_widthOf 15 = .ok (.ireturn, 1) := by decide +kernel
theorem dX6_widthOfLine_0 : decode cX6_widthOfLine 0 = .ok (.aload_n 0, 1) := by decide +kernel
theorem dX6_widthOfLine_1 : decode cX6_widthOfLine 1 = .ok (.iconst 0, 1) := by decide +kernel
theorem dX6_widthOfLine_2 : decode cX6_widthOfLine 2 = .ok (.putfield 27, 3) := by decide +kernel
theorem dX6_widthOfLine_5 : decode cX6_widthOfLine 5 = .ok (.aload_n 0, 1) := by decide +kernel
theorem dX6_widthOfLine_6 : decode cX6_widthOfLine 6 = .ok (.getfield 23, 3) := by decide +kernel
theorem dX6_widthOfLine_9 : decode cX6_widthOfLine 9 = .ok (.getfield 35, 3) := by decide +kernel
theorem dX6_widthOfLine_12 : decode cX6_widthOfLine 12 = .ok (.iload_n 1, 1) := by decide +kernel
theorem dX6_widthOfLine_13 : decode cX6_widthOfLine 13 = .ok (.iaload, 1) := by decide +kernel
theorem dX6_widthOfLine_14 : decode cX6_widthOfLine 14 = .ok (.istore_n 2, 1) := by decide +kernel
theorem dX6_widthOfLine_15 : decode cX6_widthOfLine 15 = .ok (.aload_n 0, 1) := by decide +kernel
theorem dX6_widthOfLine_16 : decode cX6_widthOfLine 16 = .ok (.getfield 23, 3) := by decide +kernel
theorem dX6_widthOfLine_19 : decode cX6_widthOfLine 19 = .ok (.getfield 40, 3) := by decide +kernel
theorem dX6_widthOfLine_22 : decode cX6_widthOfLine 22 = .ok (.iload_n 1, 1) := by decide +kernel
theorem dX6_widthOfLine_23 : decode cX6_widthOfLine 23 = .ok (.iaload, 1) := by decide +kernel
theorem dX6_widthOfLine_24 : decode cX6_widthOfLine 24 = .ok (.tableswitch 204 0 10 #[60, 76, 88, 100, 129, 138, 147, 159, 171, 183, 192], 60) := by decide +kernel
theorem dX6_widthOfLine_84 : decode cX6_widthOfLine 84 = .ok (.aload_n 0, 1) := by decide +kernel
theorem dX6_widthOfLine_85 : decode cX6_widthOfLine 85 = .ok (.aload_n 0, 1) := by decide +kernel
theorem dX6_widthOfLine_86 : decode cX6_widthOfLine 86 = .ok (.getfield 23, 3) := by decide +kernel
theorem dX6_widthOfLine_89 : decode cX6_widthOfLine 89 = .ok (.getfield 43, 3) := by decide +kernel
theorem dX6_widthOfLine_92 : decode cX6_widthOfLine 92 = .ok (.iload_n 1, 1) := by decide +kernel
theorem dX6_widthOfLine_93 : decode cX6_widthOfLine 93 = .ok (.iaload, 1) := by decide +kernel
theorem dX6_widthOfLine_94 : decode cX6_widthOfLine 94 = .ok (.invokevirtual 46, 3) := by decide +kernel
theorem dX6_widthOfLine_97 : decode cX6_widthOfLine 97 = .ok (.goto 140, 3) := by decide +kernel
theorem dX6_widthOfLine_100 : decode cX6_widthOfLine 100 = .ok (.aload_n 0, 1) := by decide +kernel
theorem dX6_widthOfLine_101 : decode cX6_widthOfLine 101 = .ok (.ldc 50, 2) := by decide +kernel
theorem dX6_widthOfLine_103 : decode cX6_widthOfLine 103 = .ok (.iload_n 2, 1) := by decide +kernel
theorem dX6_widthOfLine_104 : decode cX6_widthOfLine 104 = .ok (.ldc 52, 2) := by decide +kernel
theorem dX6_widthOfLine_106 : decode cX6_widthOfLine 106 = .ok (.invokevirtual 54, 3) := by decide +kernel
theorem dX6_widthOfLine_109 : decode cX6_widthOfLine 109 = .ok (.goto 128, 3) := by decide +kernel
theorem dX6_widthOfLine_112 : decode cX6_widthOfLine 112 = .ok (.aload_n 0, 1) := by decide +kernel
theorem dX6_widthOfLine_113 : decode cX6_widthOfLine 113 = .ok (.ldc 58, 2) := by decide +kernel
theorem dX6_widthOfLine_115 : decode cX6_widthOfLine 115 = .ok (.iload_n 2, 1) := by decide +kernel
theorem dX6_widthOfLine_116 : decode cX6_widthOfLine 116 = .ok (.ldc 52, 2) := by decide +kernel
theorem dX6_widthOfLine_118 : decode cX6_widthOfLine 118 = .ok (.invokevirtual 54, 3) := by decide +kernel
theorem dX6_widthOfLine_121 : decode cX6_widthOfLine 121 = .ok (.goto 116, 3) := by decide +kernel
theorem dX6_widthOfLine_124 : decode cX6_widthOfLine 124 = .ok (.aload_n 0, 1) := by decide +kernel
theorem dX6_widthOfLine_125 : decode cX6_widthOfLine 125 = .ok (.ldc 60, 2) := by decide +kernel
theorem dX6_widthOfLine_127 : decode cX6_widthOfLine 127 = .ok (.invokevirtual 62, 3) := by decide +kernel
theorem dX6_widthOfLine_130 : decode cX6_widthOfLine 130 = .ok (.aload_n 0, 1) := by decide +kernel
theorem dX6_widthOfLine_131 : decode cX6_widthOfLine 131 = .ok (.aload_n 0, 1) := by decide +kernel
theorem dX6_widthOfLine_132 : decode cX6_widthOfLine 132 = .ok (.getfield 19, 3) := by decide +kernel
theorem dX6_widthOfLine_135 : decode cX6_widthOfLine 135 = .ok (.getfield 66, 3) := by decide +kernel
theorem dX6_widthOfLine_138 : decode cX6_widthOfLine 138 = .ok (.iload_n 2, 1) := by decide +kernel
theorem dX6_widthOfLine_139 : decode cX6_widthOfLine 139 = .ok (.iaload, 1) := by decide +kernel
theorem dX6_widthOfLine_140 : decode cX6_widthOfLine 140 = .ok (.iconst 0, 1) := by decide +kernel
theorem dX6_widthOfLine_141 : decode cX6_widthOfLine 141 = .ok (.invokevirtual 31, 3) := by decide +kernel
theorem dX6_widthOfLine_144 : decode cX6_widthOfLine 144 = .ok (.aload_n 0, 1) := by decide +kernel
theorem dX6_widthOfLine_145 : decode cX6_widthOfLine 145 = .ok (.ldc 52, 2) := by decide +kernel
theorem dX6_widthOfLine_147 : decode cX6_widthOfLine 147 = .ok (.invokevirtual 62, 3) := by decide +kernel
theorem dX6_widthOfLine_150 : decode cX6_widthOfLine 150 = .ok (.goto 87, 3) := by decide +kernel
theorem dX6_widthOfLine_153 : decode cX6_widthOfLine 153 = .ok (.aload_n 0, 1) := by decide +kernel
theorem dX6_widthOfLine_154 : decode cX6_widthOfLine 154 = .ok (.ldc 71, 2) := by decide +kernel
theorem dX6_widthOfLine_156 : decode cX6_widthOfLine 156 = .ok (.invokevirtual 62, 3) := by decide +kernel
theorem dX6_widthOfLine_159 : decode cX6_widthOfLine 159 = .ok (.goto 78, 3) := by decide +kernel
theorem dX6_widthOfLine_162 : decode cX6_widthOfLine 162 = .ok (.aload_n 0, 1) := by decide +kernel
theorem dX6_widthOfLine_163 : decode cX6_widthOfLine 163 = .ok (.ldc 73, 2) := by decide +kernel
theorem dX6_widthOfLine_165 : decode cX6_widthOfLine 165 = .ok (.invokevirtual 62, 3) := by decide +kernel
theorem dX6_widthOfLine_168 : decode cX6_widthOfLine 168 = .ok (.goto 69, 3) := by decide +kernel
theorem dX6_widthOfLine_171 : decode cX6_widthOfLine 171 = .ok (.aload_n 0, 1) := by decide +kernel
theorem dX6_widthOfLine_172 : decode cX6_widthOfLine 172 = .ok (.ldc 75, 2) := by decide +kernel
theorem dX6_widthOfLine_174 : decode cX6_widthOfLine 174 = .ok (.iload_n 2, 1) := by decide +kernel
theorem dX6_widthOfLine_175 : decode cX6_widthOfLine 175 = .ok (.ldc 77, 2) := by decide +kernel
theorem dX6_widthOfLine_177 : decode cX6_widthOfLine 177 = .ok (.invokevirtual 54, 3) := by decide +kernel
theorem dX6_widthOfLine_180 : decode cX6_widthOfLine 180 = .ok (.goto 57, 3) := by decide +kernel
theorem dX6_widthOfLine_183 : decode cX6_widthOfLine 183 = .ok (.aload_n 0, 1) := by decide +kernel
theorem dX6_widthOfLine_184 : decode cX6_widthOfLine 184 = .ok (.ldc 79, 2) := by decide +kernel
theorem dX6_widthOfLine_186 : decode cX6_widthOfLine 186 = .ok (.iload_n 2, 1) := by decide +kernel
theorem dX6_widthOfLine_187 : decode cX6_widthOfLine 187 = .ok (.ldc 77, 2) := by decide +kernel
theorem dX6_widthOfLine_189 : decode cX6_widthOfLine 189 = .ok (.invokevirtual 54, 3) := by decide +kernel
theorem dX6_widthOfLine_192 : decode cX6_widthOfLine 192 = .ok (.goto 45, 3) := by decide +kernel
theorem dX6_widthOfLine_195 : decode cX6_widthOfLine 195 = .ok (.aload_n 0, 1) := by decide +kernel
theorem dX6_widthOfLine_196 : decode cX6_widthOfLine 196 = .ok (.ldc 81, 2) := by decide +kernel
theorem dX6_widthOfLine_198 : decode cX6_widthOfLine 198 = .ok (.iload_n 2, 1) := by decide +kernel
theorem dX6_widthOfLine_199 : decode cX6_widthOfLine 199 = .ok (.ldc 77, 2) := by decide +kernel
theorem dX6_widthOfLine_201 : decode cX6_widthOfLine 201 = .ok (.invokevirtual 54, 3) := by decide +kernel
theorem dX6_widthOfLine_204 : decode cX6_widthOfLine 204 = .ok (.goto 33, 3) := by decide +kernel
theorem dX6_widthOfLine_207 : decode cX6_widthOfLine 207 = .ok (.aload_n 0, 1) := by decide +kernel
theorem dX6_widthOfLine_208 : decode cX6_widthOfLine 208 = .ok (.ldc 83, 2) := by decide +kernel
theorem dX6_widthOfLine_210 : decode cX6_widthOfLine 210 = .ok (.invokevirtual 62, 3) := by decide +kernel
theorem dX6_widthOfLine_213 : decode cX6_widthOfLine 213 = .ok (.goto 24, 3) := by decide +kernel
theorem dX6_widthOfLine_216 : decode cX6_widthOfLine 216 = .ok (.aload_n 0, 1) := by decide +kernel
theorem dX6_widthOfLine_217 : decode cX6_widthOfLine 217 = .ok (.ldc 85, 2) := by decide +kernel
theorem dX6_widthOfLine_219 : decode cX6_widthOfLine 219 = .ok (.iload_n 2, 1) := by decide +kernel
theorem dX6_widthOfLine_220 : decode cX6_widthOfLine 220 = .ok (.ldc 77, 2) := by decide +kernel
theorem dX6_widthOfLine_222 : decode cX6_widthOfLine 222 = .ok (.invokevirtual 54, 3) := by decide +kernel
theorem dX6_widthOfLine_225 : decode cX6_widthOfLine 225 = .ok (.goto 12, 3) := by decide +kernel
theorem dX6_widthOfLine_228 : decode cX6_widthOfLine 228 = .ok (.aload_n 0, 1) := by decide +kernel
theorem dX6_widthOfLine_229 : decode cX6_widthOfLine 229 = .ok (.ldc 87, 2) := by decide +kernel
theorem dX6_widthOfLine_231 : decode cX6_widthOfLine 231 = .ok (.iload_n 2, 1) := by decide +kernel
theorem dX6_widthOfLine_232 : decode cX6_widthOfLine 232 = .ok (.ldc 89, 2) := by decide +kernel
theorem dX6_widthOfLine_234 : decode cX6_widthOfLine 234 = .ok (.invokevirtual 54, 3) := by decide +kernel
theorem dX6_widthOfLine_237 : decode cX6_widthOfLine 237 = .ok (.aload_n 0, 1) := by decide +kernel
theorem dX6_widthOfLine_238 : decode cX6_widthOfLine 238 = .ok (.getfield 27, 3) := by decide +kernel
theorem dX6_widthOfLine_241 : decode cX6_widthOfLine 241 = .ok (.ireturn, 1) := by decide +kernel
theorem dX6_writeBlock_0 : decode cX6_writeBlock 0 = .ok (.aload_n 0, 1) := by decide +kernel
theorem dX6_writeBlock_1 : decode cX6_writeBlock 1 = .ok (.aload_n 1, 1) := by decide +kernel
theorem dX6_writeBlock_2 : decode cX6_writeBlock 2 = .ok (.invokevirtual 62, 3) := by decide +kernel
theorem dX6_writeBlock_5 : decode cX6_writeBlock 5 = .ok (.aload_n 0, 1) := by decide +kernel
theorem dX6_writeBlock_6 : decode cX6_writeBlock 6 = .ok (.iload_n 2, 1) := by decide +kernel
theorem dX6_writeBlock_7 : decode cX6_writeBlock 7 = .ok (.invokevirtual 91, 3) := by decide +kernel
theorem dX6_writeBlock_10 : decode cX6_writeBlock 10 = .ok (.aload_n 0, 1) := by decide +kernel
theorem dX6_writeBlock_11 : decode cX6_writeBlock 11 = .ok (.aload_n 3, 1) := by decide +kernel
theorem dX6_writeBlock_12 : decode cX6_writeBlock 12 = .ok (.invokevirtual 62, 3) := by decide +kernel
theorem dX6_writeBlock_15 : decode cX6_writeBlock 15 = .ok (.return_, 1) := by decide +kernel
theorem dX6_writeStatement_0 : decode cX6_writeStatement 0 = .ok (.aload_n 0, 1) := by decide +kernel
theorem dX6_writeStatement_1 : decode cX6_writeStatement 1 = .ok (.getfield 19, 3) := by decide +kernel
theorem dX6_writeStatement_4 : decode cX6_writeStatement 4 = .ok (.getfield 94, 3) := by decide +kernel
theorem dX6_writeStatement_7 : decode cX6_writeStatement 7 = .ok (.iload_n 1, 1) := by decide +kernel
theorem dX6_writeStatement_8 : decode cX6_writeStatement 8 = .ok (.iaload, 1) := by decide +kernel
theorem dX6_writeStatement_9 : decode cX6_writeStatement 9 = .ok (.istore_n 2, 1) := by decide +kernel
theorem dX6_writeStatement_10 : decode cX6_writeStatement 10 = .ok (.aload_n 0, 1) := by decide +kernel
theorem dX6_writeStatement_11 : decode cX6_writeStatement 11 = .ok (.getfield 19, 3) := by decide +kernel
theorem dX6_writeStatement_14 : decode cX6_writeStatement 14 = .ok (.getfield 97, 3) := by decide +kernel
theorem dX6_writeStatement_17 : decode cX6_writeStatement 17 = .ok (.iload_n 1, 1) := by decide +kernel
theorem dX6_writeStatement_18 : decode cX6_writeStatement 18 = .ok (.iaload, 1) := by decide +kernel
theorem dX6_writeStatement_19 : decode cX6_writeStatement 19 = .ok (.tableswitch 117 0 6 #[41, 58, 74, 90, 117, 99, 108], 41) := by decide +kernel
theorem dX6_writeStatement_60 : decode cX6_writeStatement 60 = .ok (.aload_n 0, 1) := by decide +kernel
theorem dX6_writeStatement_61 : decode cX6_writeStatement 61 = .ok (.bipush 97, 2) := by decide +kernel
theorem dX6_writeStatement_63 : decode cX6_writeStatement 63 = .ok (.iload_n 2, 1) := by decide +kernel
theorem dX6_writeStatement_64 : decode cX6_writeStatement 64 = .ok (.iadd, 1) := by decide +kernel
theorem dX6_writeStatement_65 : decode cX6_writeStatement 65 = .ok (.invokevirtual 98, 3) := by decide +kernel
theorem dX6_writeStatement_68 : decode cX6_writeStatement 68 = .ok (.aload_n 0, 1) := by decide +kernel
theorem dX6_writeStatement_69 : decode cX6_writeStatement 69 = .ok (.ldc 101, 2) := by decide +kernel
theorem dX6_writeStatement_71 : decode cX6_writeStatement 71 = .ok (.invokevirtual 62, 3) := by decide +kernel
theorem dX6_writeStatement_74 : decode cX6_writeStatement 74 = .ok (.goto 62, 3) := by decide +kernel
theorem dX6_writeStatement_77 : decode cX6_writeStatement 77 = .ok (.aload_n 0, 1) := by decide +kernel
theorem dX6_writeStatement_78 : decode cX6_writeStatement 78 = .ok (.bipush 116, 2) := by decide +kernel
theorem dX6_writeStatement_80 : decode cX6_writeStatement 80 = .ok (.iload_n 2, 1) := by decide +kernel
theorem dX6_writeStatement_81 : decode cX6_writeStatement 81 = .ok (.invokevirtual 103, 3) := by decide +kernel
theorem dX6_writeStatement_84 : decode cX6_writeStatement 84 = .ok (.aload_n 0, 1) := by decide +kernel
theorem dX6_writeStatement_85 : decode cX6_writeStatement 85 = .ok (.ldc 101, 2) := by decide +kernel
theorem dX6_writeStatement_87 : decode cX6_writeStatement 87 = .ok (.invokevirtual 62, 3) := by decide +kernel
theorem dX6_writeStatement_90 : decode cX6_writeStatement 90 = .ok (.goto 46, 3) := by decide +kernel
theorem dX6_writeStatement_93 : decode cX6_writeStatement 93 = .ok (.aload_n 0, 1) := by decide +kernel
theorem dX6_writeStatement_94 : decode cX6_writeStatement 94 = .ok (.bipush 120, 2) := by decide +kernel
theorem dX6_writeStatement_96 : decode cX6_writeStatement 96 = .ok (.iload_n 2, 1) := by decide +kernel
theorem dX6_writeStatement_97 : decode cX6_writeStatement 97 = .ok (.invokevirtual 103, 3) := by decide +kernel
theorem dX6_writeStatement_100 : decode cX6_writeStatement 100 = .ok (.aload_n 0, 1) := by decide +kernel
theorem dX6_writeStatement_101 : decode cX6_writeStatement 101 = .ok (.ldc 101, 2) := by decide +kernel
theorem dX6_writeStatement_103 : decode cX6_writeStatement 103 = .ok (.invokevirtual 62, 3) := by decide +kernel
theorem dX6_writeStatement_106 : decode cX6_writeStatement 106 = .ok (.goto 30, 3) := by decide +kernel
theorem dX6_writeStatement_109 : decode cX6_writeStatement 109 = .ok (.aload_n 0, 1) := by decide +kernel
theorem dX6_writeStatement_110 : decode cX6_writeStatement 110 = .ok (.ldc 106, 2) := by decide +kernel
theorem dX6_writeStatement_112 : decode cX6_writeStatement 112 = .ok (.invokevirtual 62, 3) := by decide +kernel
theorem dX6_writeStatement_115 : decode cX6_writeStatement 115 = .ok (.goto 21, 3) := by decide +kernel
theorem dX6_writeStatement_118 : decode cX6_writeStatement 118 = .ok (.aload_n 0, 1) := by decide +kernel
theorem dX6_writeStatement_119 : decode cX6_writeStatement 119 = .ok (.ldc 108, 2) := by decide +kernel
theorem dX6_writeStatement_121 : decode cX6_writeStatement 121 = .ok (.invokevirtual 62, 3) := by decide +kernel
theorem dX6_writeStatement_124 : decode cX6_writeStatement 124 = .ok (.goto 12, 3) := by decide +kernel
theorem dX6_writeStatement_127 : decode cX6_writeStatement 127 = .ok (.aload_n 0, 1) := by decide +kernel
theorem dX6_writeStatement_128 : decode cX6_writeStatement 128 = .ok (.ldc 110, 2) := by decide +kernel
theorem dX6_writeStatement_130 : decode cX6_writeStatement 130 = .ok (.invokevirtual 62, 3) := by decide +kernel
theorem dX6_writeStatement_133 : decode cX6_writeStatement 133 = .ok (.goto 3, 3) := by decide +kernel
theorem dX6_writeStatement_136 : decode cX6_writeStatement 136 = .ok (.aload_n 0, 1) := by decide +kernel
theorem dX6_writeStatement_137 : decode cX6_writeStatement 137 = .ok (.getfield 19, 3) := by decide +kernel
theorem dX6_writeStatement_140 : decode cX6_writeStatement 140 = .ok (.getfield 112, 3) := by decide +kernel
theorem dX6_writeStatement_143 : decode cX6_writeStatement 143 = .ok (.iload_n 1, 1) := by decide +kernel
theorem dX6_writeStatement_144 : decode cX6_writeStatement 144 = .ok (.iaload, 1) := by decide +kernel
theorem dX6_writeStatement_145 : decode cX6_writeStatement 145 = .ok (.iconst (-1), 1) := by decide +kernel
theorem dX6_writeStatement_146 : decode cX6_writeStatement 146 = .ok (.if_icmp .eq 17, 3) := by decide +kernel
theorem dX6_writeStatement_149 : decode cX6_writeStatement 149 = .ok (.aload_n 0, 1) := by decide +kernel
theorem dX6_writeStatement_150 : decode cX6_writeStatement 150 = .ok (.aload_n 0, 1) := by decide +kernel
theorem dX6_writeStatement_151 : decode cX6_writeStatement 151 = .ok (.getfield 19, 3) := by decide +kernel
theorem dX6_writeStatement_154 : decode cX6_writeStatement 154 = .ok (.getfield 112, 3) := by decide +kernel
theorem dX6_writeStatement_157 : decode cX6_writeStatement 157 = .ok (.iload_n 1, 1) := by decide +kernel
theorem dX6_writeStatement_158 : decode cX6_writeStatement 158 = .ok (.iaload, 1) := by decide +kernel
theorem dX6_writeStatement_159 : decode cX6_writeStatement 159 = .ok (.iconst 0, 1) := by decide +kernel
theorem dX6_writeStatement_160 : decode cX6_writeStatement 160 = .ok (.invokevirtual 31, 3) := by decide +kernel
theorem dX6_writeStatement_163 : decode cX6_writeStatement 163 = .ok (.aload_n 0, 1) := by decide +kernel
theorem dX6_writeStatement_164 : decode cX6_writeStatement 164 = .ok (.ldc 77, 2) := by decide +kernel
theorem dX6_writeStatement_166 : decode cX6_writeStatement 166 = .ok (.invokevirtual 62, 3) := by decide +kernel
theorem dX6_writeStatement_169 : decode cX6_writeStatement 169 = .ok (.return_, 1) := by decide +kernel
theorem dX6_writeExpression_0 : decode cX6_writeExpression 0 = .ok (.iload_n 1, 1) := by decide +kernel
theorem dX6_writeExpression_1 : decode cX6_writeExpression 1 = .ok (.iconst (-1), 1) := by decide +kernel
theorem dX6_writeExpression_2 : decode cX6_writeExpression 2 = .ok (.if_icmp .eq 9, 3) := by decide +kernel
theorem dX6_writeExpression_5 : decode cX6_writeExpression 5 = .ok (.iload_n 2, 1) := by decide +kernel
theorem dX6_writeExpression_6 : decode cX6_writeExpression 6 = .ok (.bipush 60, 2) := by decide +kernel
theorem dX6_writeExpression_8 : decode cX6_writeExpression 8 = .ok (.if_icmp .le 4, 3) := by decide +kernel
theorem dX6_writeExpression_11 : decode cX6_writeExpression 11 = .ok (.return_, 1) := by decide +kernel
theorem dX6_writeExpression_12 : decode cX6_writeExpression 12 = .ok (.aload_n 0, 1) := by decide +kernel
theorem dX6_writeExpression_13 : decode cX6_writeExpression 13 = .ok (.getfield 15, 3) := by decide +kernel
theorem dX6_writeExpression_16 : decode cX6_writeExpression 16 = .ok (.getfield 115, 3) := by decide +kernel
theorem dX6_writeExpression_19 : decode cX6_writeExpression 19 = .ok (.iload_n 1, 1) := by decide +kernel
theorem dX6_writeExpression_20 : decode cX6_writeExpression 20 = .ok (.iaload, 1) := by decide +kernel
theorem dX6_writeExpression_21 : decode cX6_writeExpression 21 = .ok (.istore_n 3, 1) := by decide +kernel
theorem dX6_writeExpression_22 : decode cX6_writeExpression 22 = .ok (.aload_n 0, 1) := by decide +kernel
theorem dX6_writeExpression_23 : decode cX6_writeExpression 23 = .ok (.getfield 15, 3) := by decide +kernel
theorem dX6_writeExpression_26 : decode cX6_writeExpression 26 = .ok (.getfield 120, 3) := by decide +kernel
theorem dX6_writeExpression_29 : decode cX6_writeExpression 29 = .ok (.iload_n 1, 1) := by decide +kernel
theorem dX6_writeExpression_30 : decode cX6_writeExpression 30 = .ok (.iaload, 1) := by decide +kernel
theorem dX6_writeExpression_31 : decode cX6_writeExpression 31 = .ok (.istore 4, 2) := by decide +kernel
theorem dX6_writeExpression_33 : decode cX6_writeExpression 33 = .ok (.iload_n 3, 1) := by decide +kernel
theorem dX6_writeExpression_34 : decode cX6_writeExpression 34 = .ok (.lookupswitch 92 #[(84, 67), (88, 76), (105, 85), (107, 50), (108, 57)], 50) := by decide +kernel
theorem dX6_writeExpression_84 : decode cX6_writeExpression 84 = .ok (.aload_n 0, 1) := by decide +kernel
theorem dX6_writeExpression_85 : decode cX6_writeExpression 85 = .ok (.iload 4, 2) := by decide +kernel
theorem dX6_writeExpression_87 : decode cX6_writeExpression 87 = .ok (.invokevirtual 91, 3) := by decide +kernel
theorem dX6_writeExpression_90 : decode cX6_writeExpression 90 = .ok (.return_, 1) := by decide +kernel
theorem dX6_writeExpression_91 : decode cX6_writeExpression 91 = .ok (.aload_n 0, 1) := by decide +kernel
theorem dX6_writeExpression_92 : decode cX6_writeExpression 92 = .ok (.bipush 97, 2) := by decide +kernel
theorem dX6_writeExpression_94 : decode cX6_writeExpression 94 = .ok (.iload 4, 2) := by decide +kernel
theorem dX6_writeExpression_96 : decode cX6_writeExpression 96 = .ok (.iadd, 1) := by decide +kernel
theorem dX6_writeExpression_97 : decode cX6_writeExpression 97 = .ok (.invokevirtual 98, 3) := by decide +kernel
theorem dX6_writeExpression_100 : decode cX6_writeExpression 100 = .ok (.return_, 1) := by decide +kernel
theorem dX6_writeExpression_101 : decode cX6_writeExpression 101 = .ok (.aload_n 0, 1) := by decide +kernel
theorem dX6_writeExpression_102 : decode cX6_writeExpression 102 = .ok (.bipush 116, 2) := by decide +kernel
theorem dX6_writeExpression_104 : decode cX6_writeExpression 104 = .ok (.iload 4, 2) := by decide +kernel
theorem dX6_writeExpression_106 : decode cX6_writeExpression 106 = .ok (.invokevirtual 103, 3) := by decide +kernel
theorem dX6_writeExpression_109 : decode cX6_writeExpression 109 = .ok (.return_, 1) := by decide +kernel
theorem dX6_writeExpression_110 : decode cX6_writeExpression 110 = .ok (.aload_n 0, 1) := by decide +kernel
theorem dX6_writeExpression_111 : decode cX6_writeExpression 111 = .ok (.bipush 120, 2) := by decide +kernel
theorem dX6_writeExpression_113 : decode cX6_writeExpression 113 = .ok (.iload 4, 2) := by decide +kernel
theorem dX6_writeExpression_115 : decode cX6_writeExpression 115 = .ok (.invokevirtual 103, 3) := by decide +kernel
theorem dX6_writeExpression_118 : decode cX6_writeExpression 118 = .ok (.return_, 1) := by decide +kernel
theorem dX6_writeExpression_119 : decode cX6_writeExpression 119 = .ok (.aload_n 0, 1) := by decide +kernel
theorem dX6_writeExpression_120 : decode cX6_writeExpression 120 = .ok (.ldc 123, 2) := by decide +kernel
theorem dX6_writeExpression_122 : decode cX6_writeExpression 122 = .ok (.invokevirtual 62, 3) := by decide +kernel
theorem dX6_writeExpression_125 : decode cX6_writeExpression 125 = .ok (.return_, 1) := by decide +kernel
theorem dX6_writeExpression_126 : decode cX6_writeExpression 126 = .ok (.iload_n 3, 1) := by decide +kernel
theorem dX6_writeExpression_127 : decode cX6_writeExpression 127 = .ok (.invokestatic 125, 3) := by decide +kernel
theorem dX6_writeExpression_130 : decode cX6_writeExpression 130 = .ok (.ifCond .eq 48, 3) := by decide +kernel
theorem dX6_writeExpression_133 : decode cX6_writeExpression 133 = .ok (.aload_n 0, 1) := by decide +kernel
theorem dX6_writeExpression_134 : decode cX6_writeExpression 134 = .ok (.ldc 129, 2) := by decide +kernel
theorem dX6_writeExpression_136 : decode cX6_writeExpression 136 = .ok (.invokevirtual 62, 3) := by decide +kernel
theorem dX6_writeExpression_139 : decode cX6_writeExpression 139 = .ok (.aload_n 0, 1) := by decide +kernel
theorem dX6_writeExpression_140 : decode cX6_writeExpression 140 = .ok (.iload 4, 2) := by decide +kernel
theorem dX6_writeExpression_142 : decode cX6_writeExpression 142 = .ok (.iload_n 2, 1) := by decide +kernel
theorem dX6_writeExpression_143 : decode cX6_writeExpression 143 = .ok (.iconst 1, 1) := by decide +kernel
theorem dX6_writeExpression_144 : decode cX6_writeExpression 144 = .ok (.iadd, 1) := by decide +kernel
theorem dX6_writeExpression_145 : decode cX6_writeExpression 145 = .ok (.invokevirtual 31, 3) := by decide +kernel
theorem dX6_writeExpression_148 : decode cX6_writeExpression 148 = .ok (.aload_n 0, 1) := by decide +kernel
theorem dX6_writeExpression_149 : decode cX6_writeExpression 149 = .ok (.iload_n 3, 1) := by decide +kernel
theorem dX6_writeExpression_150 : decode cX6_writeExpression 150 = .ok (.invokevirtual 98, 3) := by decide +kernel
theorem dX6_writeExpression_153 : decode cX6_writeExpression 153 = .ok (.aload_n 0, 1) := by decide +kernel
theorem dX6_writeExpression_154 : decode cX6_writeExpression 154 = .ok (.aload_n 0, 1) := by decide +kernel
theorem dX6_writeExpression_155 : decode cX6_writeExpression 155 = .ok (.getfield 15, 3) := by decide +kernel
theorem dX6_writeExpression_158 : decode cX6_writeExpression 158 = .ok (.getfield 131, 3) := by decide +kernel
theorem dX6_writeExpression_161 : decode cX6_writeExpression 161 = .ok (.iload_n 1, 1) := by decide +kernel
theorem dX6_writeExpression_162 : decode cX6_writeExpression 162 = .ok (.iaload, 1) := by decide +kernel
theorem dX6_writeExpression_163 : decode cX6_writeExpression 163 = .ok (.iload_n 2, 1) := by decide +kernel
theorem dX6_writeExpression_164 : decode cX6_writeExpression 164 = .ok (.iconst 1, 1) := by decide +kernel
theorem dX6_writeExpression_165 : decode cX6_writeExpression 165 = .ok (.iadd, 1) := by decide +kernel
theorem dX6_writeExpression_166 : decode cX6_writeExpression 166 = .ok (.invokevirtual 31, 3) := by decide +kernel
theorem dX6_writeExpression_169 : decode cX6_writeExpression 169 = .ok (.aload_n 0, 1) := by decide +kernel
theorem dX6_writeExpression_170 : decode cX6_writeExpression 170 = .ok (.ldc 134, 2) := by decide +kernel
theorem dX6_writeExpression_172 : decode cX6_writeExpression 172 = .ok (.invokevirtual 62, 3) := by decide +kernel
theorem dX6_writeExpression_175 : decode cX6_writeExpression 175 = .ok (.goto 28, 3) := by decide +kernel
theorem dX6_writeExpression_178 : decode cX6_writeExpression 178 = .ok (.aload_n 0, 1) := by decide +kernel
theorem dX6_writeExpression_179 : decode cX6_writeExpression 179 = .ok (.iload_n 3, 1) := by decide +kernel
theorem dX6_writeExpression_180 : decode cX6_writeExpression 180 = .ok (.bipush 110, 2) := by decide +kernel
theorem dX6_writeExpression_182 : decode cX6_writeExpression 182 = .ok (.if_icmp .ne 8, 3) := by decide +kernel
theorem dX6_writeExpression_185 : decode cX6_writeExpression 185 = .ok (.bipush 45, 2) := by decide +kernel
theorem dX6_writeExpression_187 : decode cX6_writeExpression 187 = .ok (.goto 4, 3) := by decide +kernel
theorem dX6_writeExpression_190 : decode cX6_writeExpression 190 = .ok (.iload_n 3, 1) := by decide +kernel
theorem dX6_writeExpression_191 : decode cX6_writeExpression 191 = .ok (.invokevirtual 98, 3) := by decide +kernel
theorem dX6_writeExpression_194 : decode cX6_writeExpression 194 = .ok (.aload_n 0, 1) := by decide +kernel
theorem dX6_writeExpression_195 : decode cX6_writeExpression 195 = .ok (.iload 4, 2) := by decide +kernel
theorem dX6_writeExpression_197 : decode cX6_writeExpression 197 = .ok (.iload_n 2, 1) := by decide +kernel
theorem dX6_writeExpression_198 : decode cX6_writeExpression 198 = .ok (.iconst 1, 1) := by decide +kernel
theorem dX6_writeExpression_199 : decode cX6_writeExpression 199 = .ok (.iadd, 1) := by decide +kernel
theorem dX6_writeExpression_200 : decode cX6_writeExpression 200 = .ok (.invokevirtual 31, 3) := by decide +kernel
theorem dX6_writeExpression_203 : decode cX6_writeExpression 203 = .ok (.return_, 1) := by decide +kernel
theorem dX6_writeName_0 : decode cX6_writeName 0 = .ok (.aload_n 0, 1) := by decide +kernel
theorem dX6_writeName_1 : decode cX6_writeName 1 = .ok (.iload_n 1, 1) := by decide +kernel
theorem dX6_writeName_2 : decode cX6_writeName 2 = .ok (.invokevirtual 98, 3) := by decide +kernel
theorem dX6_writeName_5 : decode cX6_writeName 5 = .ok (.aload_n 0, 1) := by decide +kernel
theorem dX6_writeName_6 : decode cX6_writeName 6 = .ok (.iload_n 2, 1) := by decide +kernel
theorem dX6_writeName_7 : decode cX6_writeName 7 = .ok (.invokevirtual 91, 3) := by decide +kernel
theorem dX6_writeName_10 : decode cX6_writeName 10 = .ok (.return_, 1) := by decide +kernel
theorem dX6_writeNumber_0 : decode cX6_writeNumber 0 = .ok (.iload_n 1, 1) := by decide +kernel
theorem dX6_writeNumber_1 : decode cX6_writeNumber 1 = .ok (.bipush 99, 2) := by decide +kernel
theorem dX6_writeNumber_3 : decode cX6_writeNumber 3 = .ok (.if_icmp .le 14, 3) := by decide +kernel
theorem dX6_writeNumber_6 : decode cX6_writeNumber 6 = .ok (.aload_n 0, 1) := by decide +kernel
theorem dX6_writeNumber_7 : decode cX6_writeNumber 7 = .ok (.bipush 48, 2) := by decide +kernel
theorem dX6_writeNumber_9 : decode cX6_writeNumber 9 = .ok (.iload_n 1, 1) := by decide +kernel
theorem dX6_writeNumber_10 : decode cX6_writeNumber 10 = .ok (.bipush 100, 2) := by decide +kernel
theorem dX6_writeNumber_12 : decode cX6_writeNumber 12 = .ok (.idiv, 1) := by decide +kernel
theorem dX6_writeNumber_13 : decode cX6_writeNumber 13 = .ok (.iadd, 1) := by decide +kernel
theorem dX6_writeNumber_14 : decode cX6_writeNumber 14 = .ok (.invokevirtual 98, 3) := by decide +kernel
theorem dX6_writeNumber_17 : decode cX6_writeNumber 17 = .ok (.iload_n 1, 1) := by decide +kernel
theorem dX6_writeNumber_18 : decode cX6_writeNumber 18 = .ok (.bipush 9, 2) := by decide +kernel
theorem dX6_writeNumber_20 : decode cX6_writeNumber 20 = .ok (.if_icmp .le 17, 3) := by decide +kernel
theorem dX6_writeNumber_23 : decode cX6_writeNumber 23 = .ok (.aload_n 0, 1) := by decide +kernel
theorem dX6_writeNumber_24 : decode cX6_writeNumber 24 = .ok (.bipush 48, 2) := by decide +kernel
theorem dX6_writeNumber_26 : decode cX6_writeNumber 26 = .ok (.iload_n 1, 1) := by decide +kernel
theorem dX6_writeNumber_27 : decode cX6_writeNumber 27 = .ok (.bipush 10, 2) := by decide +kernel
theorem dX6_writeNumber_29 : decode cX6_writeNumber 29 = .ok (.idiv, 1) := by decide +kernel
theorem dX6_writeNumber_30 : decode cX6_writeNumber 30 = .ok (.bipush 10, 2) := by decide +kernel
theorem dX6_writeNumber_32 : decode cX6_writeNumber 32 = .ok (.irem, 1) := by decide +kernel
theorem dX6_writeNumber_33 : decode cX6_writeNumber 33 = .ok (.iadd, 1) := by decide +kernel
theorem dX6_writeNumber_34 : decode cX6_writeNumber 34 = .ok (.invokevirtual 98, 3) := by decide +kernel
theorem dX6_writeNumber_37 : decode cX6_writeNumber 37 = .ok (.aload_n 0, 1) := by decide +kernel
theorem dX6_writeNumber_38 : decode cX6_writeNumber 38 = .ok (.bipush 48, 2) := by decide +kernel
theorem dX6_writeNumber_40 : decode cX6_writeNumber 40 = .ok (.iload_n 1, 1) := by decide +kernel
theorem dX6_writeNumber_41 : decode cX6_writeNumber 41 = .ok (.bipush 10, 2) := by decide +kernel
theorem dX6_writeNumber_43 : decode cX6_writeNumber 43 = .ok (.irem, 1) := by decide +kernel
theorem dX6_writeNumber_44 : decode cX6_writeNumber 44 = .ok (.iadd, 1) := by decide +kernel
theorem dX6_writeNumber_45 : decode cX6_writeNumber 45 = .ok (.invokevirtual 98, 3) := by decide +kernel
theorem dX6_writeNumber_48 : decode cX6_writeNumber 48 = .ok (.return_, 1) := by decide +kernel
theorem dX6_write_0 : decode cX6_write 0 = .ok (.iconst 0, 1) := by decide +kernel
theorem dX6_write_1 : decode cX6_write 1 = .ok (.istore_n 2, 1) := by decide +kernel
theorem dX6_write_2 : decode cX6_write 2 = .ok (.iload_n 2, 1) := by decide +kernel
theorem dX6_write_3 : decode cX6_write 3 = .ok (.aload_n 1, 1) := by decide +kernel
theorem dX6_write_4 : decode cX6_write 4 = .ok (.invokevirtual 136, 3) := by decide +kernel
theorem dX6_write_7 : decode cX6_write 7 = .ok (.if_icmp .ge 18, 3) := by decide +kernel
theorem dX6_write_10 : decode cX6_write 10 = .ok (.aload_n 0, 1) := by decide +kernel
theorem dX6_write_11 : decode cX6_write 11 = .ok (.aload_n 1, 1) := by decide +kernel
theorem dX6_write_12 : decode cX6_write 12 = .ok (.iload_n 2, 1) := by decide +kernel
theorem dX6_write_13 : decode cX6_write 13 = .ok (.invokevirtual 142, 3) := by decide +kernel
theorem dX6_write_16 : decode cX6_write 16 = .ok (.invokevirtual 98, 3) := by decide +kernel
theorem dX6_write_19 : decode cX6_write 19 = .ok (.iinc 2 1, 3) := by decide +kernel
theorem dX6_write_22 : decode cX6_write 22 = .ok (.goto (-20), 3) := by decide +kernel
theorem dX6_write_25 : decode cX6_write 25 = .ok (.return_, 1) := by decide +kernel
theorem dX6_writeSign_0 : decode cX6_writeSign 0 = .ok (.aload_n 0, 1) := by decide +kernel
theorem dX6_writeSign_1 : decode cX6_writeSign 1 = .ok (.getfield 27, 3) := by decide +kernel
theorem dX6_writeSign_4 : decode cX6_writeSign 4 = .ok (.sipush 400, 3) := by decide +kernel
theorem dX6_writeSign_7 : decode cX6_writeSign 7 = .ok (.if_icmp .ge 13, 3) := by decide +kernel
theorem dX6_writeSign_10 : decode cX6_writeSign 10 = .ok (.aload_n 0, 1) := by decide +kernel
theorem dX6_writeSign_11 : decode cX6_writeSign 11 = .ok (.getfield 9, 3) := by decide +kernel
theorem dX6_writeSign_14 : decode cX6_writeSign 14 = .ok (.aload_n 0, 1) := by decide +kernel
theorem dX6_writeSign_15 : decode cX6_writeSign 15 = .ok (.getfield 27, 3) := by decide +kernel
theorem dX6_writeSign_18 : decode cX6_writeSign 18 = .ok (.iload_n 1, 1) := by decide +kernel
theorem dX6_writeSign_19 : decode cX6_writeSign 19 = .ok (.iastore, 1) := by decide +kernel
theorem dX6_writeSign_20 : decode cX6_writeSign 20 = .ok (.aload_n 0, 1) := by decide +kernel
theorem dX6_writeSign_21 : decode cX6_writeSign 21 = .ok (.dup, 1) := by decide +kernel
theorem dX6_writeSign_22 : decode cX6_writeSign 22 = .ok (.getfield 27, 3) := by decide +kernel
theorem dX6_writeSign_25 : decode cX6_writeSign 25 = .ok (.iconst 1, 1) := by decide +kernel
theorem dX6_writeSign_26 : decode cX6_writeSign 26 = .ok (.iadd, 1) := by decide +kernel
theorem dX6_writeSign_27 : decode cX6_writeSign 27 = .ok (.putfield 27, 3) := by decide +kernel
theorem dX6_writeSign_30 : decode cX6_writeSign 30 = .ok (.return_, 1) := by decide +kernel
theorem dX7_init_0 : decode cX7_init 0 = .ok (.aload_n 0, 1) := by decide +kernel
theorem dX7_init_1 : decode cX7_init 1 = .ok (.invokespecial 3, 3) := by decide +kernel
theorem dX7_init_4 : decode cX7_init 4 = .ok (.aload_n 0, 1) := by decide +kernel
theorem dX7_init_5 : decode cX7_init 5 = .ok (.sipush 512, 3) := by decide +kernel
theorem dX7_init_8 : decode cX7_init 8 = .ok (.newarray .int, 2) := by decide +kernel
theorem dX7_init_10 : decode cX7_init 10 = .ok (.putfield 9, 3) := by decide +kernel
theorem dX7_init_13 : decode cX7_init 13 = .ok (.aload_n 0, 1) := by decide +kernel
theorem dX7_init_14 : decode cX7_init 14 = .ok (.sipush 512, 3) := by decide +kernel
theorem dX7_init_17 : decode cX7_init 17 = .ok (.newarray .int, 2) := by decide +kernel
theorem dX7_init_19 : decode cX7_init 19 = .ok (.putfield 15, 3) := by decide +kernel
theorem dX7_init_22 : decode cX7_init 22 = .ok (.aload_n 0, 1) := by decide +kernel
theorem dX7_init_23 : decode cX7_init 23 = .ok (.sipush 512, 3) := by decide +kernel
theorem dX7_init_26 : decode cX7_init 26 = .ok (.newarray .int, 2) := by decide +kernel
theorem dX7_init_28 : decode cX7_init 28 = .ok (.putfield 18, 3) := by decide +kernel
theorem dX7_init_31 : decode cX7_init 31 = .ok (.aload_n 0, 1) := by decide +kernel
theorem dX7_init_32 : decode cX7_init 32 = .ok (.sipush 512, 3) := by decide +kernel
theorem dX7_init_35 : decode cX7_init 35 = .ok (.newarray .int, 2) := by decide +kernel
theorem dX7_init_37 : decode cX7_init 37 = .ok (.putfield 21, 3) := by decide +kernel
theorem dX7_init_40 : decode cX7_init 40 = .ok (.aload_n 0, 1) := by decide +kernel
theorem dX7_init_41 : decode cX7_init 41 = .ok (.sipush 512, 3) := by decide +kernel
theorem dX7_init_44 : decode cX7_init 44 = .ok (.newarray .int, 2) := by decide +kernel
theorem dX7_init_46 : decode cX7_init 46 = .ok (.putfield 24, 3) := by decide +kernel
theorem dX7_init_49 : decode cX7_init 49 = .ok (.return_, 1) := by decide +kernel
theorem dX7_slotBit_0 : decode cX7_slotBit 0 = .ok (.iconst 1, 1) := by decide +kernel
theorem dX7_slotBit_1 : decode cX7_slotBit 1 = .ok (.bipush 6, 2) := by decide +kernel
theorem dX7_slotBit_3 : decode cX7_slotBit 3 = .ok (.iload_n 0, 1) := by decide +kernel
theorem dX7_slotBit_4 : decode cX7_slotBit 4 = .ok (.iadd, 1) := by decide +kernel
theorem dX7_slotBit_5 : decode cX7_slotBit 5 = .ok (.ishl, 1) := by decide +kernel
theorem dX7_slotBit_6 : decode cX7_slotBit 6 = .ok (.ireturn, 1) := by decide +kernel
theorem dX7_make_0 : decode cX7_make 0 = .ok (.iconst 0, 1) := by decide +kernel
theorem dX7_make_1 : decode cX7_make 1 = .ok (.istore 4, 2) := by decide +kernel
theorem dX7_make_3 : decode cX7_make 3 = .ok (.iload 4, 2) := by decide +kernel
theorem dX7_make_5 : decode cX7_make 5 = .ok (.aload_n 0, 1) := by decide +kernel
theorem dX7_make_6 : decode cX7_make 6 = .ok (.getfield 27, 3) := by decide +kernel
theorem dX7_make_9 : decode cX7_make 9 = .ok (.if_icmp .ge 45, 3) := by decide +kernel
theorem dX7_make_12 : decode cX7_make 12 = .ok (.aload_n 0, 1) := by decide +kernel
theorem dX7_make_13 : decode cX7_make 13 = .ok (.getfield 9, 3) := by decide +kernel
theorem dX7_make_16 : decode cX7_make 16 = .ok (.iload 4, 2) := by decide +kernel
theorem dX7_make_18 : decode cX7_make 18 = .ok (.iaload, 1) := by decide +kernel
theorem dX7_make_19 : decode cX7_make 19 = .ok (.iload_n 1, 1) := by decide +kernel
theorem dX7_make_20 : decode cX7_make 20 = .ok (.if_icmp .ne 28, 3) := by decide +kernel
theorem dX7_make_23 : decode cX7_make 23 = .ok (.aload_n 0, 1) := by decide +kernel
theorem dX7_make_24 : decode cX7_make 24 = .ok (.getfield 15, 3) := by decide +kernel
theorem dX7_make_27 : decode cX7_make 27 = .ok (.iload 4, 2) := by decide +kernel
theorem dX7_make_29 : decode cX7_make 29 = .ok (.iaload, 1) := by decide +kernel
theorem dX7_make_30 : decode cX7_make 30 = .ok (.iload_n 2, 1) := by decide +kernel
theorem dX7_make_31 : decode cX7_make 31 = .ok (.if_icmp .ne 17, 3) := by decide +kernel
theorem dX7_make_34 : decode cX7_make 34 = .ok (.aload_n 0, 1) := by decide +kernel
theorem dX7_make_35 : decode cX7_make 35 = .ok (.getfield 18, 3) := by decide +kernel
theorem dX7_make_38 : decode cX7_make 38 = .ok (.iload 4, 2) := by decide +kernel
theorem dX7_make_40 : decode cX7_make 40 = .ok (.iaload, 1) := by decide +kernel
theorem dX7_make_41 : decode cX7_make 41 = .ok (.iload_n 3, 1) := by decide +kernel
theorem dX7_make_42 : decode cX7_make 42 = .ok (.if_icmp .ne 6, 3) := by decide +kernel
theorem dX7_make_45 : decode cX7_make 45 = .ok (.iload 4, 2) := by decide +kernel
theorem dX7_make_47 : decode cX7_make 47 = .ok (.ireturn, 1) := by decide +kernel
theorem dX7_make_48 : decode cX7_make 48 = .ok (.iinc 4 1, 3) := by decide +kernel
theorem dX7_make_51 : decode cX7_make 51 = .ok (.goto (-48), 3) := by decide +kernel
theorem dX7_make_54 : decode cX7_make 54 = .ok (.aload_n 0, 1) := by decide +kernel
theorem dX7_make_55 : decode cX7_make 55 = .ok (.getfield 27, 3) := by decide +kernel
theorem dX7_make_58 : decode cX7_make 58 = .ok (.sipush 512, 3) := by decide +kernel
theorem dX7_make_61 : decode cX7_make 61 = .ok (.if_icmp .ne 5, 3) := by decide +kernel
theorem dX7_make_64 : decode cX7_make 64 = .ok (.iconst 0, 1) := by decide +kernel
theorem dX7_make_65 : decode cX7_make 65 = .ok (.ireturn, 1) := by decide +kernel
theorem dX7_make_66 : decode cX7_make 66 = .ok (.aload_n 0, 1) := by decide +kernel
theorem dX7_make_67 : decode cX7_make 67 = .ok (.getfield 9, 3) := by decide +kernel
theorem dX7_make_70 : decode cX7_make 70 = .ok (.aload_n 0, 1) := by decide +kernel
theorem dX7_make_71 : decode cX7_make 71 = .ok (.getfield 27, 3) := by decide +kernel
theorem dX7_make_74 : decode cX7_make 74 = .ok (.iload_n 1, 1) := by decide +kernel
theorem dX7_make_75 : decode cX7_make 75 = .ok (.iastore, 1) := by decide +kernel
theorem dX7_make_76 : decode cX7_make 76 = .ok (.aload_n 0, 1) := by decide +kernel
theorem dX7_make_77 : decode cX7_make 77 = .ok (.getfield 15, 3) := by decide +kernel
theorem dX7_make_80 : decode cX7_make 80 = .ok (.aload_n 0, 1) := by decide +kernel
theorem dX7_make_81 : decode cX7_make 81 = .ok (.getfield 27, 3) := by decide +kernel
theorem dX7_make_84 : decode cX7_make 84 = .ok (.iload_n 2, 1) := by decide +kernel
theorem dX7_make_85 : decode cX7_make 85 = .ok (.iastore, 1) := by decide +kernel
theorem dX7_make_86 : decode cX7_make 86 = .ok (.aload_n 0, 1) := by decide +kernel
theorem dX7_make_87 : decode cX7_make 87 = .ok (.getfield 18, 3) := by decide +kernel
theorem dX7_make_90 : decode cX7_make 90 = .ok (.aload_n 0, 1) := by decide +kernel
theorem dX7_make_91 : decode cX7_make 91 = .ok (.getfield 27, 3) := by decide +kernel
theorem dX7_make_94 : decode cX7_make 94 = .ok (.iload_n 3, 1) := by decide +kernel
theorem dX7_make_95 : decode cX7_make 95 = .ok (.iastore, 1) := by decide +kernel
theorem dX7_make_96 : decode cX7_make 96 = .ok (.aload_n 0, 1) := by decide +kernel
theorem dX7_make_97 : decode cX7_make 97 = .ok (.getfield 21, 3) := by decide +kernel
theorem dX7_make_100 : decode cX7_make 100 = .ok (.aload_n 0, 1) := by decide +kernel
theorem dX7_make_101 : decode cX7_make 101 = .ok (.getfield 27, 3) := by decide +kernel
theorem dX7_make_104 : decode cX7_make 104 = .ok (.iconst 1, 1) := by decide +kernel
theorem dX7_make_105 : decode cX7_make 105 = .ok (.iastore, 1) := by decide +kernel
theorem dX7_make_106 : decode cX7_make 106 = .ok (.aload_n 0, 1) := by decide +kernel
theorem dX7_make_107 : decode cX7_make 107 = .ok (.getfield 24, 3) := by decide +kernel
theorem dX7_make_110 : decode cX7_make 110 = .ok (.aload_n 0, 1) := by decide +kernel
theorem dX7_make_111 : decode cX7_make 111 = .ok (.getfield 27, 3) := by decide +kernel
theorem dX7_make_114 : decode cX7_make 114 = .ok (.iload_n 1, 1) := by decide +kernel
theorem dX7_make_115 : decode cX7_make 115 = .ok (.bipush 105, 2) := by decide +kernel
theorem dX7_make_117 : decode cX7_make 117 = .ok (.if_icmp .eq 15, 3) := by decide +kernel
theorem dX7_make_120 : decode cX7_make 120 = .ok (.iload_n 1, 1) := by decide +kernel
theorem dX7_make_121 : decode cX7_make 121 = .ok (.bipush 47, 2) := by decide +kernel
theorem dX7_make_123 : decode cX7_make 123 = .ok (.if_icmp .eq 9, 3) := by decide +kernel
theorem dX7_make_126 : decode cX7_make 126 = .ok (.iload_n 1, 1) := by decide +kernel
theorem dX7_make_127 : decode cX7_make 127 = .ok (.bipush 37, 2) := by decide +kernel
theorem dX7_make_129 : decode cX7_make 129 = .ok (.if_icmp .ne 9, 3) := by decide +kernel
theorem dX7_make_132 : decode cX7_make 132 = .ok (.sipush 4096, 3) := by decide +kernel
theorem dX7_make_135 : decode cX7_make 135 = .ok (.goto 4, 3) := by decide +kernel
theorem dX7_make_138 : decode cX7_make 138 = .ok (.iconst 0, 1) := by decide +kernel
theorem dX7_make_139 : decode cX7_make 139 = .ok (.iastore, 1) := by decide +kernel
theorem dX7_make_140 : decode cX7_make 140 = .ok (.iload_n 1, 1) := by decide +kernel
theorem dX7_make_141 : decode cX7_make 141 = .ok (.lookupswitch 139 #[(33, 103), (84, 85), (88, 67), (105, 67), (107, 67), (108, 70), (110, 103)], 67) := by decide +kernel
theorem dX7_make_208 : decode cX7_make 208 = .ok (.goto 122, 3) := by decide +kernel
theorem dX7_make_211 : decode cX7_make 211 = .ok (.aload_n 0, 1) := by decide +kernel
theorem dX7_make_212 : decode cX7_make 212 = .ok (.getfield 24, 3) := by decide +kernel
theorem dX7_make_215 : decode cX7_make 215 = .ok (.aload_n 0, 1) := by decide +kernel
theorem dX7_make_216 : decode cX7_make 216 = .ok (.getfield 27, 3) := by decide +kernel
theorem dX7_make_219 : decode cX7_make 219 = .ok (.iconst 1, 1) := by decide +kernel
theorem dX7_make_220 : decode cX7_make 220 = .ok (.iload_n 2, 1) := by decide +kernel
theorem dX7_make_221 : decode cX7_make 221 = .ok (.ishl, 1) := by decide +kernel
theorem dX7_make_222 : decode cX7_make 222 = .ok (.iastore, 1) := by decide +kernel
theorem dX7_make_223 : decode cX7_make 223 = .ok (.goto 107, 3) := by decide +kernel
theorem dX7_make_226 : decode cX7_make 226 = .ok (.aload_n 0, 1) := by decide +kernel
theorem dX7_make_227 : decode cX7_make 227 = .ok (.getfield 24, 3) := by decide +kernel
theorem dX7_make_230 : decode cX7_make 230 = .ok (.aload_n 0, 1) := by decide +kernel
theorem dX7_make_231 : decode cX7_make 231 = .ok (.getfield 27, 3) := by decide +kernel
theorem dX7_make_234 : decode cX7_make 234 = .ok (.iconst 1, 1) := by decide +kernel
theorem dX7_make_235 : decode cX7_make 235 = .ok (.bipush 6, 2) := by decide +kernel
theorem dX7_make_237 : decode cX7_make 237 = .ok (.iload_n 2, 1) := by decide +kernel
theorem dX7_make_238 : decode cX7_make 238 = .ok (.iadd, 1) := by decide +kernel
theorem dX7_make_239 : decode cX7_make 239 = .ok (.ishl, 1) := by decide +kernel
theorem dX7_make_240 : decode cX7_make 240 = .ok (.iastore, 1) := by decide +kernel
theorem dX7_make_241 : decode cX7_make 241 = .ok (.goto 89, 3) := by decide +kernel
theorem dX7_make_244 : decode cX7_make 244 = .ok (.aload_n 0, 1) := by decide +kernel
theorem dX7_make_245 : decode cX7_make 245 = .ok (.getfield 21, 3) := by decide +kernel
theorem dX7_make_248 : decode cX7_make 248 = .ok (.aload_n 0, 1) := by decide +kernel
theorem dX7_make_249 : decode cX7_make 249 = .ok (.getfield 27, 3) := by decide +kernel
theorem dX7_make_252 : decode cX7_make 252 = .ok (.dup2, 1) := by decide +kernel
theorem dX7_make_253 : decode cX7_make 253 = .ok (.iaload, 1) := by decide +kernel
theorem dX7_make_254 : decode cX7_make 254 = .ok (.aload_n 0, 1) := by decide +kernel
theorem dX7_make_255 : decode cX7_make 255 = .ok (.getfield 21, 3) := by decide +kernel
theorem dX7_make_258 : decode cX7_make 258 = .ok (.iload_n 2, 1) := by decide +kernel
theorem dX7_make_259 : decode cX7_make 259 = .ok (.iaload, 1) := by decide +kernel
theorem dX7_make_260 : decode cX7_make 260 = .ok (.iadd, 1) := by decide +kernel
theorem dX7_make_261 : decode cX7_make 261 = .ok (.iastore, 1) := by decide +kernel
theorem dX7_make_262 : decode cX7_make 262 = .ok (.aload_n 0, 1) := by decide +kernel
theorem dX7_make_263 : decode cX7_make 263 = .ok (.getfield 24, 3) := by decide +kernel
theorem dX7_make_266 : decode cX7_make 266 = .ok (.aload_n 0, 1) := by decide +kernel
theorem dX7_make_267 : decode cX7_make 267 = .ok (.getfield 27, 3) := by decide +kernel
theorem dX7_make_270 : decode cX7_make 270 = .ok (.aload_n 0, 1) := by decide +kernel
theorem dX7_make_271 : decode cX7_make 271 = .ok (.getfield 24, 3) := by decide +kernel
theorem dX7_make_274 : decode cX7_make 274 = .ok (.iload_n 2, 1) := by decide +kernel
theorem dX7_make_275 : decode cX7_make 275 = .ok (.iaload, 1) := by decide +kernel
theorem dX7_make_276 : decode cX7_make 276 = .ok (.iastore, 1) := by decide +kernel
theorem dX7_make_277 : decode cX7_make 277 = .ok (.goto 53, 3) := by decide +kernel
theorem dX7_make_280 : decode cX7_make 280 = .ok (.aload_n 0, 1) := by decide +kernel
theorem dX7_make_281 : decode cX7_make 281 = .ok (.getfield 21, 3) := by decide +kernel
theorem dX7_make_284 : decode cX7_make 284 = .ok (.aload_n 0, 1) := by decide +kernel
theorem dX7_make_285 : decode cX7_make 285 = .ok (.getfield 27, 3) := by decide +kernel
theorem dX7_make_288 : decode cX7_make 288 = .ok (.dup2, 1) := by decide +kernel
theorem dX7_make_289 : decode cX7_make 289 = .ok (.iaload, 1) := by decide +kernel
theorem dX7_make_290 : decode cX7_make 290 = .ok (.aload_n 0, 1) := by decide +kernel
theorem dX7_make_291 : decode cX7_make 291 = .ok (.getfield 21, 3) := by decide +kernel
theorem dX7_make_294 : decode cX7_make 294 = .ok (.iload_n 2, 1) := by decide +kernel
theorem dX7_make_295 : decode cX7_make 295 = .ok (.iaload, 1) := by decide +kernel
theorem dX7_make_296 : decode cX7_make 296 = .ok (.aload_n 0, 1) := by decide +kernel
theorem dX7_make_297 : decode cX7_make 297 = .ok (.getfield 21, 3) := by decide +kernel
theorem dX7_make_300 : decode cX7_make 300 = .ok (.iload_n 3, 1) := by decide +kernel
theorem dX7_make_301 : decode cX7_make 301 = .ok (.iaload, 1) := by decide +kernel
theorem dX7_make_302 : decode cX7_make 302 = .ok (.iadd, 1) := by decide +kernel
theorem dX7_make_303 : decode cX7_make 303 = .ok (.iadd, 1) := by decide +kernel
theorem dX7_make_304 : decode cX7_make 304 = .ok (.iastore, 1) := by decide +kernel
theorem dX7_make_305 : decode cX7_make 305 = .ok (.aload_n 0, 1) := by decide +kernel
theorem dX7_make_306 : decode cX7_make 306 = .ok (.getfield 24, 3) := by decide +kernel
theorem dX7_make_309 : decode cX7_make 309 = .ok (.aload_n 0, 1) := by decide +kernel
theorem dX7_make_310 : decode cX7_make 310 = .ok (.getfield 27, 3) := by decide +kernel
theorem dX7_make_313 : decode cX7_make 313 = .ok (.dup2, 1) := by decide +kernel
theorem dX7_make_314 : decode cX7_make 314 = .ok (.iaload, 1) := by decide +kernel
theorem dX7_make_315 : decode cX7_make 315 = .ok (.aload_n 0, 1) := by decide +kernel
theorem dX7_make_316 : decode cX7_make 316 = .ok (.getfield 24, 3) := by decide +kernel
theorem dX7_make_319 : decode cX7_make 319 = .ok (.iload_n 2, 1) := by decide +kernel
theorem dX7_make_320 : decode cX7_make 320 = .ok (.iaload, 1) := by decide +kernel
theorem dX7_make_321 : decode cX7_make 321 = .ok (.aload_n 0, 1) := by decide +kernel
theorem dX7_make_322 : decode cX7_make 322 = .ok (.getfield 24, 3) := by decide +kernel
theorem dX7_make_325 : decode cX7_make 325 = .ok (.iload_n 3, 1) := by decide +kernel
theorem dX7_make_326 : decode cX7_make 326 = .ok (.iaload, 1) := by decide +kernel
theorem dX7_make_327 : decode cX7_make 327 = .ok (.ior, 1) := by decide +kernel
theorem dX7_make_328 : decode cX7_make 328 = .ok (.ior, 1) := by decide +kernel
theorem dX7_make_329 : decode cX7_make 329 = .ok (.iastore, 1) := by decide +kernel
theorem dX7_make_330 : decode cX7_make 330 = .ok (.aload_n 0, 1) := by decide +kernel
theorem dX7_make_331 : decode cX7_make 331 = .ok (.dup, 1) := by decide +kernel
theorem dX7_make_332 : decode cX7_make 332 = .ok (.getfield 27, 3) := by decide +kernel
theorem dX7_make_335 : decode cX7_make 335 = .ok (.iconst 1, 1) := by decide +kernel
theorem dX7_make_336 : decode cX7_make 336 = .ok (.iadd, 1) := by decide +kernel
theorem dX7_make_337 : decode cX7_make 337 = .ok (.putfield 27, 3) := by decide +kernel
theorem dX7_make_340 : decode cX7_make 340 = .ok (.aload_n 0, 1) := by decide +kernel
theorem dX7_make_341 : decode cX7_make 341 = .ok (.getfield 27, 3) := by decide +kernel
theorem dX7_make_344 : decode cX7_make 344 = .ok (.iconst 1, 1) := by decide +kernel
theorem dX7_make_345 : decode cX7_make 345 = .ok (.isub, 1) := by decide +kernel
theorem dX7_make_346 : decode cX7_make 346 = .ok (.ireturn, 1) := by decide +kernel
theorem dX7_hasEffects_0 : decode cX7_hasEffects 0 = .ok (.aload_n 0, 1) := by decide +kernel
theorem dX7_hasEffects_1 : decode cX7_hasEffects 1 = .ok (.getfield 24, 3) := by decide +kernel
theorem dX7_hasEffects_4 : decode cX7_hasEffects 4 = .ok (.iload_n 1, 1) := by decide +kernel
theorem dX7_hasEffects_5 : decode cX7_hasEffects 5 = .ok (.iaload, 1) := by decide +kernel
theorem dX7_hasEffects_6 : decode cX7_hasEffects 6 = .ok (.sipush 4096, 3) := by decide +kernel
theorem dX7_hasEffects_9 : decode cX7_hasEffects 9 = .ok (.iand, 1) := by decide +kernel
theorem dX7_hasEffects_10 : decode cX7_hasEffects 10 = .ok (.ifCond .eq 7, 3) := by decide +kernel
theorem dX7_hasEffects_13 : decode cX7_hasEffects 13 = .ok (.iconst 1, 1) := by decide +kernel
theorem dX7_hasEffects_14 : decode cX7_hasEffects 14 = .ok (.goto 4, 3) := by decide +kernel
theorem dX7_hasEffects_17 : decode cX7_hasEffects 17 = .ok (.iconst 0, 1) := by decide +kernel
theorem dX7_hasEffects_18 : decode cX7_hasEffects 18 = .ok (.ireturn, 1) := by decide +kernel
theorem dX7_isName_0 : decode cX7_isName 0 = .ok (.aload_n 0, 1) := by decide +kernel
theorem dX7_isName_1 : decode cX7_isName 1 = .ok (.getfield 9, 3) := by decide +kernel
theorem dX7_isName_4 : decode cX7_isName 4 = .ok (.iload_n 1, 1) := by decide +kernel
theorem dX7_isName_5 : decode cX7_isName 5 = .ok (.iaload, 1) := by decide +kernel
theorem dX7_isName_6 : decode cX7_isName 6 = .ok (.bipush 108, 2) := by decide +kernel
theorem dX7_isName_8 : decode cX7_isName 8 = .ok (.if_icmp .eq 25, 3) := by decide +kernel
theorem dX7_isName_11 : decode cX7_isName 11 = .ok (.aload_n 0, 1) := by decide +kernel
theorem dX7_isName_12 : decode cX7_isName 12 = .ok (.getfield 9, 3) := by decide +kernel
theorem dX7_isName_15 : decode cX7_isName 15 = .ok (.iload_n 1, 1) := by decide +kernel
theorem dX7_isName_16 : decode cX7_isName 16 = .ok (.iaload, 1) := by decide +kernel
theorem dX7_isName_17 : decode cX7_isName 17 = .ok (.bipush 84, 2) := by decide +kernel
theorem dX7_isName_19 : decode cX7_isName 19 = .ok (.if_icmp .eq 14, 3) := by decide +kernel
theorem dX7_isName_22 : decode cX7_isName 22 = .ok (.aload_n 0, 1) := by decide +kernel
theorem dX7_isName_23 : decode cX7_isName 23 = .ok (.getfield 9, 3) := by decide +kernel
theorem dX7_isName_26 : decode cX7_isName 26 = .ok (.iload_n 1, 1) := by decide +kernel
theorem dX7_isName_27 : decode cX7_isName 27 = .ok (.iaload, 1) := by decide +kernel
theorem dX7_isName_28 : decode cX7_isName 28 = .ok (.bipush 88, 2) := by decide +kernel
theorem dX7_isName_30 : decode cX7_isName 30 = .ok (.if_icmp .ne 7, 3) := by decide +kernel
theorem dX7_isName_33 : decode cX7_isName 33 = .ok (.iconst 1, 1) := by decide +kernel
theorem dX7_isName_34 : decode cX7_isName 34 = .ok (.goto 4, 3) := by decide +kernel
theorem dX7_isName_37 : decode cX7_isName 37 = .ok (.iconst 0, 1) := by decide +kernel
theorem dX7_isName_38 : decode cX7_isName 38 = .ok (.ireturn, 1) := by decide +kernel
theorem dX7_replace_0 : decode cX7_replace 0 = .ok (.iload 4, 2) := by decide +kernel
theorem dX7_replace_2 : decode cX7_replace 2 = .ok (.bipush 60, 2) := by decide +kernel
theorem dX7_replace_4 : decode cX7_replace 4 = .ok (.if_icmp .gt 17, 3) := by decide +kernel
theorem dX7_replace_7 : decode cX7_replace 7 = .ok (.aload_n 0, 1) := by decide +kernel
theorem dX7_replace_8 : decode cX7_replace 8 = .ok (.getfield 24, 3) := by decide +kernel
theorem dX7_replace_11 : decode cX7_replace 11 = .ok (.iload_n 1, 1) := by decide +kernel
theorem dX7_replace_12 : decode cX7_replace 12 = .ok (.iaload, 1) := by decide +kernel
theorem dX7_replace_13 : decode cX7_replace 13 = .ok (.iload_n 2, 1) := by decide +kernel
theorem dX7_replace_14 : decode cX7_replace 14 = .ok (.invokestatic 31, 3) := by decide +kernel
theorem dX7_replace_17 : decode cX7_replace 17 = .ok (.iand, 1) := by decide +kernel
theorem dX7_replace_18 : decode cX7_replace 18 = .ok (.ifCond .ne 5, 3) := by decide +kernel
theorem dX7_replace_21 : decode cX7_replace 21 = .ok (.iload_n 1, 1) := by decide +kernel
theorem dX7_replace_22 : decode cX7_replace 22 = .ok (.ireturn, 1) := by decide +kernel
theorem dX7_replace_23 : decode cX7_replace 23 = .ok (.aload_n 0, 1) := by decide +kernel
theorem dX7_replace_24 : decode cX7_replace 24 = .ok (.getfield 9, 3) := by decide +kernel
theorem dX7_replace_27 : decode cX7_replace 27 = .ok (.iload_n 1, 1) := by decide +kernel
theorem dX7_replace_28 : decode cX7_replace 28 = .ok (.iaload, 1) := by decide +kernel
theorem dX7_replace_29 : decode cX7_replace 29 = .ok (.invokestatic 35, 3) := by decide +kernel
theorem dX7_replace_32 : decode cX7_replace 32 = .ok (.ifCond .eq 54, 3) := by decide +kernel
theorem dX7_replace_35 : decode cX7_replace 35 = .ok (.aload_n 0, 1) := by decide +kernel
theorem dX7_replace_36 : decode cX7_replace 36 = .ok (.aload_n 0, 1) := by decide +kernel
theorem dX7_replace_37 : decode cX7_replace 37 = .ok (.getfield 15, 3) := by decide +kernel
theorem dX7_replace_40 : decode cX7_replace 40 = .ok (.iload_n 1, 1) := by decide +kernel
theorem dX7_replace_41 : decode cX7_replace 41 = .ok (.iaload, 1) := by decide +kernel
theorem dX7_replace_42 : decode cX7_replace 42 = .ok (.iload_n 2, 1) := by decide +kernel
theorem dX7_replace_43 : decode cX7_replace 43 = .ok (.iload_n 3, 1) := by decide +kernel
theorem dX7_replace_44 : decode cX7_replace 44 = .ok (.iload 4, 2) := by decide +kernel
theorem dX7_replace_46 : decode cX7_replace 46 = .ok (.iconst 1, 1) := by decide +kernel
theorem dX7_replace_47 : decode cX7_replace 47 = .ok (.iadd, 1) := by decide +kernel
theorem dX7_replace_48 : decode cX7_replace 48 = .ok (.invokevirtual 39, 3) := by decide +kernel
theorem dX7_replace_51 : decode cX7_replace 51 = .ok (.istore 5, 2) := by decide +kernel
theorem dX7_replace_53 : decode cX7_replace 53 = .ok (.aload_n 0, 1) := by decide +kernel
theorem dX7_replace_54 : decode cX7_replace 54 = .ok (.aload_n 0, 1) := by decide +kernel
theorem dX7_replace_55 : decode cX7_replace 55 = .ok (.getfield 18, 3) := by decide +kernel
theorem dX7_replace_58 : decode cX7_replace 58 = .ok (.iload_n 1, 1) := by decide +kernel
theorem dX7_replace_59 : decode cX7_replace 59 = .ok (.iaload, 1) := by decide +kernel
theorem dX7_replace_60 : decode cX7_replace 60 = .ok (.iload_n 2, 1) := by decide +kernel
theorem dX7_replace_61 : decode cX7_replace 61 = .ok (.iload_n 3, 1) := by decide +kernel
theorem dX7_replace_62 : decode cX7_replace 62 = .ok (.iload 4, 2) := by decide +kernel
theorem dX7_replace_64 : decode cX7_replace 64 = .ok (.iconst 1, 1) := by decide +kernel
theorem dX7_replace_65 : decode cX7_replace 65 = .ok (.iadd, 1) := by decide +kernel
theorem dX7_replace_66 : decode cX7_replace 66 = .ok (.invokevirtual 39, 3) := by decide +kernel
theorem dX7_replace_69 : decode cX7_replace 69 = .ok (.istore 6, 2) := by decide +kernel
theorem dX7_replace_71 : decode cX7_replace 71 = .ok (.aload_n 0, 1) := by decide +kernel
theorem dX7_replace_72 : decode cX7_replace 72 = .ok (.aload_n 0, 1) := by decide +kernel
theorem dX7_replace_73 : decode cX7_replace 73 = .ok (.getfield 9, 3) := by decide +kernel
theorem dX7_replace_76 : decode cX7_replace 76 = .ok (.iload_n 1, 1) := by decide +kernel
theorem dX7_replace_77 : decode cX7_replace 77 = .ok (.iaload, 1) := by decide +kernel
theorem dX7_replace_78 : decode cX7_replace 78 = .ok (.iload 5, 2) := by decide +kernel
theorem dX7_replace_80 : decode cX7_replace 80 = .ok (.iload 6, 2) := by decide +kernel
theorem dX7_replace_82 : decode cX7_replace 82 = .ok (.invokevirtual 43, 3) := by decide +kernel
theorem dX7_replace_85 : decode cX7_replace 85 = .ok (.ireturn, 1) := by decide +kernel
theorem dX7_replace_86 : decode cX7_replace 86 = .ok (.aload_n 0, 1) := by decide +kernel
theorem dX7_replace_87 : decode cX7_replace 87 = .ok (.getfield 9, 3) := by decide +kernel
theorem dX7_replace_90 : decode cX7_replace 90 = .ok (.iload_n 1, 1) := by decide +kernel
theorem dX7_replace_91 : decode cX7_replace 91 = .ok (.iaload, 1) := by decide +kernel
theorem dX7_replace_92 : decode cX7_replace 92 = .ok (.invokestatic 47, 3) := by decide +kernel
theorem dX7_replace_95 : decode cX7_replace 95 = .ok (.ifCond .eq 33, 3) := by decide +kernel
theorem dX7_replace_98 : decode cX7_replace 98 = .ok (.aload_n 0, 1) := by decide +kernel
theorem dX7_replace_99 : decode cX7_replace 99 = .ok (.aload_n 0, 1) := by decide +kernel
theorem dX7_replace_100 : decode cX7_replace 100 = .ok (.getfield 9, 3) := by decide +kernel
theorem dX7_replace_103 : decode cX7_replace 103 = .ok (.iload_n 1, 1) := by decide +kernel
theorem dX7_replace_104 : decode cX7_replace 104 = .ok (.iaload, 1) := by decide +kernel
theorem dX7_replace_105 : decode cX7_replace 105 = .ok (.aload_n 0, 1) := by decide +kernel
theorem dX7_replace_106 : decode cX7_replace 106 = .ok (.aload_n 0, 1) := by decide +kernel
theorem dX7_replace_107 : decode cX7_replace 107 = .ok (.getfield 15, 3) := by decide +kernel
theorem dX7_replace_110 : decode cX7_replace 110 = .ok (.iload_n 1, 1) := by decide +kernel
theorem dX7_replace_111 : decode cX7_replace 111 = .ok (.iaload, 1) := by decide +kernel
theorem dX7_replace_112 : decode cX7_replace 112 = .ok (.iload_n 2, 1) := by decide +kernel
theorem dX7_replace_113 : decode cX7_replace 113 = .ok (.iload_n 3, 1) := by decide +kernel
theorem dX7_replace_114 : decode cX7_replace 114 = .ok (.iload 4, 2) := by decide +kernel
theorem dX7_replace_116 : decode cX7_replace 116 = .ok (.iconst 1, 1) := by decide +kernel
theorem dX7_replace_117 : decode cX7_replace 117 = .ok (.iadd, 1) := by decide +kernel
theorem dX7_replace_118 : decode cX7_replace 118 = .ok (.invokevirtual 39, 3) := by decide +kernel
theorem dX7_replace_121 : decode cX7_replace 121 = .ok (.iconst 0, 1) := by decide +kernel
theorem dX7_replace_122 : decode cX7_replace 122 = .ok (.invokevirtual 43, 3) := by decide +kernel
theorem dX7_replace_125 : decode cX7_replace 125 = .ok (.goto 4, 3) := by decide +kernel
theorem dX7_replace_128 : decode cX7_replace 128 = .ok (.iload_n 3, 1) := by decide +kernel
theorem dX7_replace_129 : decode cX7_replace 129 = .ok (.ireturn, 1) := by decide +kernel
theorem dX8_init_0 : decode cX8_init 0 = .ok (.aload_n 0, 1) := by decide +kernel
theorem dX8_init_1 : decode cX8_init 1 = .ok (.invokespecial 3, 3) := by decide +kernel
theorem dX8_init_4 : decode cX8_init 4 = .ok (.aload_n 0, 1) := by decide +kernel
theorem dX8_init_5 : decode cX8_init 5 = .ok (.bipush 120, 2) := by decide +kernel
theorem dX8_init_7 : decode cX8_init 7 = .ok (.newarray .boolean, 2) := by decide +kernel
theorem dX8_init_9 : decode cX8_init 9 = .ok (.putfield 9, 3) := by decide +kernel
theorem dX8_init_12 : decode cX8_init 12 = .ok (.aload_n 0, 1) := by decide +kernel
theorem dX8_init_13 : decode cX8_init 13 = .ok (.bipush 120, 2) := by decide +kernel
theorem dX8_init_15 : decode cX8_init 15 = .ok (.newarray .boolean, 2) := by decide +kernel
theorem dX8_init_17 : decode cX8_init 17 = .ok (.putfield 15, 3) := by decide +kernel
theorem dX8_init_20 : decode cX8_init 20 = .ok (.aload_n 0, 1) := by decide +kernel
theorem dX8_init_21 : decode cX8_init 21 = .ok (.bipush 40, 2) := by decide +kernel
theorem dX8_init_23 : decode cX8_init 23 = .ok (.newarray .int, 2) := by decide +kernel
theorem dX8_init_25 : decode cX8_init 25 = .ok (.putfield 18, 3) := by decide +kernel
theorem dX8_init_28 : decode cX8_init 28 = .ok (.aload_n 0, 1) := by decide +kernel
theorem dX8_init_29 : decode cX8_init 29 = .ok (.bipush 40, 2) := by decide +kernel
theorem dX8_init_31 : decode cX8_init 31 = .ok (.newarray .int, 2) := by decide +kernel
theorem dX8_init_33 : decode cX8_init 33 = .ok (.putfield 22, 3) := by decide +kernel
theorem dX8_init_36 : decode cX8_init 36 = .ok (.aload_n 0, 1) := by decide +kernel
theorem dX8_init_37 : decode cX8_init 37 = .ok (.bipush 40, 2) := by decide +kernel
theorem dX8_init_39 : decode cX8_init 39 = .ok (.newarray .long, 2) := by decide +kernel
theorem dX8_init_41 : decode cX8_init 41 = .ok (.putfield 25, 3) := by decide +kernel
theorem dX8_init_44 : decode cX8_init 44 = .ok (.aload_n 0, 1) := by decide +kernel
theorem dX8_init_45 : decode cX8_init 45 = .ok (.bipush 40, 2) := by decide +kernel
theorem dX8_init_47 : decode cX8_init 47 = .ok (.newarray .int, 2) := by decide +kernel
theorem dX8_init_49 : decode cX8_init 49 = .ok (.putfield 29, 3) := by decide +kernel
theorem dX8_init_52 : decode cX8_init 52 = .ok (.aload_n 0, 1) := by decide +kernel
theorem dX8_init_53 : decode cX8_init 53 = .ok (.bipush 40, 2) := by decide +kernel
theorem dX8_init_55 : decode cX8_init 55 = .ok (.newarray .long, 2) := by decide +kernel
theorem dX8_init_57 : decode cX8_init 57 = .ok (.putfield 32, 3) := by decide +kernel
theorem dX8_init_60 : decode cX8_init 60 = .ok (.aload_n 0, 1) := by decide +kernel
theorem dX8_init_61 : decode cX8_init 61 = .ok (.bipush 40, 2) := by decide +kernel
theorem dX8_init_63 : decode cX8_init 63 = .ok (.newarray .long, 2) := by decide +kernel
theorem dX8_init_65 : decode cX8_init 65 = .ok (.putfield 35, 3) := by decide +kernel
theorem dX8_init_68 : decode cX8_init 68 = .ok (.aload_n 0, 1) := by decide +kernel
theorem dX8_init_69 : decode cX8_init 69 = .ok (.bipush 40, 2) := by decide +kernel
theorem dX8_init_71 : decode cX8_init 71 = .ok (.newarray .int, 2) := by decide +kernel
theorem dX8_init_73 : decode cX8_init 73 = .ok (.putfield 38, 3) := by decide +kernel
theorem dX8_init_76 : decode cX8_init 76 = .ok (.aload_n 0, 1) := by decide +kernel
theorem dX8_init_77 : decode cX8_init 77 = .ok (.bipush 40, 2) := by decide +kernel
theorem dX8_init_79 : decode cX8_init 79 = .ok (.newarray .int, 2) := by decide +kernel
theorem dX8_init_81 : decode cX8_init 81 = .ok (.putfield 41, 3) := by decide +kernel
theorem dX8_init_84 : decode cX8_init 84 = .ok (.aload_n 0, 1) := by decide +kernel
theorem dX8_init_85 : decode cX8_init 85 = .ok (.bipush 120, 2) := by decide +kernel
theorem dX8_init_87 : decode cX8_init 87 = .ok (.newarray .int, 2) := by decide +kernel
theorem dX8_init_89 : decode cX8_init 89 = .ok (.putfield 44, 3) := by decide +kernel
theorem dX8_init_92 : decode cX8_init 92 = .ok (.aload_n 0, 1) := by decide +kernel
theorem dX8_init_93 : decode cX8_init 93 = .ok (.aload_n 1, 1) := by decide +kernel
theorem dX8_init_94 : decode cX8_init 94 = .ok (.putfield 47, 3) := by decide +kernel
theorem dX8_init_97 : decode cX8_init 97 = .ok (.return_, 1) := by decide +kernel
theorem dX8_form_0 : decode cX8_form 0 = .ok (.iconst 0, 1) := by decide +kernel
theorem dX8_form_1 : decode cX8_form 1 = .ok (.istore_n 1, 1) := by decide +kernel
theorem dX8_form_2 : decode cX8_form 2 = .ok (.iload_n 1, 1) := by decide +kernel
theorem dX8_form_3 : decode cX8_form 3 = .ok (.bipush 120, 2) := by decide +kernel
theorem dX8_form_5 : decode cX8_form 5 = .ok (.if_icmp .ge 16, 3) := by decide +kernel
theorem dX8_form_8 : decode cX8_form 8 = .ok (.aload_n 0, 1) := by decide +kernel
theorem dX8_form_9 : decode cX8_form 9 = .ok (.getfield 9, 3) := by decide +kernel
theorem dX8_form_12 : decode cX8_form 12 = .ok (.iload_n 1, 1) := by decide +kernel
theorem dX8_form_13 : decode cX8_form 13 = .ok (.iconst 0, 1) := by decide +kernel
theorem dX8_form_14 : decode cX8_form 14 = .ok (.bastore, 1) := by decide +kernel
theorem dX8_form_15 : decode cX8_form 15 = .ok (.iinc 1 1, 3) := by decide +kernel
theorem dX8_form_18 : decode cX8_form 18 = .ok (.goto (-16), 3) := by decide +kernel
theorem dX8_form_21 : decode cX8_form 21 = .ok (.aload_n 0, 1) := by decide +kernel
theorem dX8_form_22 : decode cX8_form 22 = .ok (.iconst 0, 1) := by decide +kernel
theorem dX8_form_23 : decode cX8_form 23 = .ok (.putfield 51, 3) := by decide +kernel
theorem dX8_form_26 : decode cX8_form 26 = .ok (.aload_n 0, 1) := by decide +kernel
theorem dX8_form_27 : decode cX8_form 27 = .ok (.aload_n 0, 1) := by decide +kernel
theorem dX8_form_28 : decode cX8_form 28 = .ok (.invokevirtual 55, 3) := by decide +kernel
theorem dX8_form_31 : decode cX8_form 31 = .ok (.putfield 59, 3) := by decide +kernel
theorem dX8_form_34 : decode cX8_form 34 = .ok (.aload_n 0, 1) := by decide +kernel
theorem dX8_form_35 : decode cX8_form 35 = .ok (.iconst 0, 1) := by decide +kernel
theorem dX8_form_36 : decode cX8_form 36 = .ok (.putfield 63, 3) := by decide +kernel
theorem dX8_form_39 : decode cX8_form 39 = .ok (.aload_n 0, 1) := by decide +kernel
theorem dX8_form_40 : decode cX8_form 40 = .ok (.getfield 59, 3) := by decide +kernel
theorem dX8_form_43 : decode cX8_form 43 = .ok (.ifCond .ne 31, 3) := by decide +kernel
theorem dX8_form_46 : decode cX8_form 46 = .ok (.aload_n 0, 1) := by decide +kernel
theorem dX8_form_47 : decode cX8_form 47 = .ok (.invokevirtual 66, 3) := by decide +kernel
theorem dX8_form_50 : decode cX8_form 50 = .ok (.aload_n 0, 1) := by decide +kernel
theorem dX8_form_51 : decode cX8_form 51 = .ok (.invokevirtual 69, 3) := by decide +kernel
theorem dX8_form_54 : decode cX8_form 54 = .ok (.ifCond .ne 20, 3) := by decide +kernel
theorem dX8_form_57 : decode cX8_form 57 = .ok (.aload_n 0, 1) := by decide +kernel
theorem dX8_form_58 : decode cX8_form 58 = .ok (.invokevirtual 72, 3) := by decide +kernel
theorem dX8_form_61 : decode cX8_form 61 = .ok (.ifCond .ne 13, 3) := by decide +kernel
theorem dX8_form_64 : decode cX8_form 64 = .ok (.aload_n 0, 1) := by decide +kernel
theorem dX8_form_65 : decode cX8_form 65 = .ok (.iconst 1, 1) := by decide +kernel
theorem dX8_form_66 : decode cX8_form 66 = .ok (.putfield 63, 3) := by decide +kernel
theorem dX8_form_69 : decode cX8_form 69 = .ok (.aload_n 0, 1) := by decide +kernel
theorem dX8_form_70 : decode cX8_form 70 = .ok (.invokevirtual 55, 3) := by decide +kernel
theorem dX8_form_73 : decode cX8_form 73 = .ok (.pop, 1) := by decide +kernel
theorem dX8_form_74 : decode cX8_form 74 = .ok (.iconst 0, 1) := by decide +kernel
theorem dX8_form_75 : decode cX8_form 75 = .ok (.istore_n 1, 1) := by decide +kernel
theorem dX8_form_76 : decode cX8_form 76 = .ok (.iload_n 1, 1) := by decide +kernel
theorem dX8_form_77 : decode cX8_form 77 = .ok (.aload_n 0, 1) := by decide +kernel
theorem dX8_form_78 : decode cX8_form 78 = .ok (.getfield 47, 3) := by decide +kernel
theorem dX8_form_81 : decode cX8_form 81 = .ok (.getfield 75, 3) := by decide +kernel
theorem dX8_form_84 : decode cX8_form 84 = .ok (.if_icmp .ge 20, 3) := by decide +kernel
theorem dX8_form_87 : decode cX8_form 87 = .ok (.aload_n 0, 1) := by decide +kernel
theorem dX8_form_88 : decode cX8_form 88 = .ok (.getfield 15, 3) := by decide +kernel
theorem dX8_form_91 : decode cX8_form 91 = .ok (.iload_n 1, 1) := by decide +kernel
theorem dX8_form_92 : decode cX8_form 92 = .ok (.aload_n 0, 1) := by decide +kernel
theorem dX8_form_93 : decode cX8_form 93 = .ok (.iload_n 1, 1) := by decide +kernel
theorem dX8_form_94 : decode cX8_form 94 = .ok (.invokevirtual 80, 3) := by decide +kernel
theorem dX8_form_97 : decode cX8_form 97 = .ok (.bastore, 1) := by decide +kernel
theorem dX8_form_98 : decode cX8_form 98 = .ok (.iinc 1 1, 3) := by decide +kernel
theorem dX8_form_101 : decode cX8_form 101 = .ok (.goto (-25), 3) := by decide +kernel
theorem dX8_form_104 : decode cX8_form 104 = .ok (.aload_n 0, 1) := by decide +kernel
theorem dX8_form_105 : decode cX8_form 105 = .ok (.invokevirtual 84, 3) := by decide +kernel
theorem dX8_form_108 : decode cX8_form 108 = .ok (.aload_n 0, 1) := by decide +kernel
theorem dX8_form_109 : decode cX8_form 109 = .ok (.invokevirtual 87, 3) := by decide +kernel
theorem dX8_form_112 : decode cX8_form 112 = .ok (.aload_n 0, 1) := by decide +kernel
theorem dX8_form_113 : decode cX8_form 113 = .ok (.invokevirtual 90, 3) := by decide +kernel
theorem dX8_form_116 : decode cX8_form 116 = .ok (.return_, 1) := by decide +kernel
theorem dX8_isReducedNow_0 : decode cX8_isReducedNow 0 = .ok (.aload_n 0, 1) := by decide +kernel
theorem dX8_isReducedNow_1 : decode cX8_isReducedNow 1 = .ok (.invokevirtual 93, 3) := by decide +kernel
theorem dX8_isReducedNow_4 : decode cX8_isReducedNow 4 = .ok (.ifCond .ne 5, 3) := by decide +kernel
theorem dX8_isReducedNow_7 : decode cX8_isReducedNow 7 = .ok (.iconst 0, 1) := by decide +kernel
theorem dX8_isReducedNow_8 : decode cX8_isReducedNow 8 = .ok (.ireturn, 1) := by decide +kernel
theorem dX8_isReducedNow_9 : decode cX8_isReducedNow 9 = .ok (.aload_n 0, 1) := by decide +kernel
theorem dX8_isReducedNow_10 : decode cX8_isReducedNow 10 = .ok (.invokevirtual 96, 3) := by decide +kernel
theorem dX8_isReducedNow_13 : decode cX8_isReducedNow 13 = .ok (.iconst 0, 1) := by decide +kernel
theorem dX8_isReducedNow_14 : decode cX8_isReducedNow 14 = .ok (.istore_n 1, 1) := by decide +kernel
theorem dX8_isReducedNow_15 : decode cX8_isReducedNow 15 = .ok (.iload_n 1, 1) := by decide +kernel
theorem dX8_isReducedNow_16 : decode cX8_isReducedNow 16 = .ok (.aload_n 0, 1) := by decide +kernel
theorem dX8_isReducedNow_17 : decode cX8_isReducedNow 17 = .ok (.getfield 47, 3) := by decide +kernel
theorem dX8_isReducedNow_20 : decode cX8_isReducedNow 20 = .ok (.getfield 75, 3) := by decide +kernel
theorem dX8_isReducedNow_23 : decode cX8_isReducedNow 23 = .ok (.if_icmp .ge 69, 3) := by decide +kernel
theorem dX8_isReducedNow_26 : decode cX8_isReducedNow 26 = .ok (.aload_n 0, 1) := by decide +kernel
theorem dX8_isReducedNow_27 : decode cX8_isReducedNow 27 = .ok (.getfield 22, 3) := by decide +kernel
theorem dX8_isReducedNow_30 : decode cX8_isReducedNow 30 = .ok (.aload_n 0, 1) := by decide +kernel
theorem dX8_isReducedNow_31 : decode cX8_isReducedNow 31 = .ok (.getfield 47, 3) := by decide +kernel
theorem dX8_isReducedNow_34 : decode cX8_isReducedNow 34 = .ok (.getfield 99, 3) := by decide +kernel
theorem dX8_isReducedNow_37 : decode cX8_isReducedNow 37 = .ok (.iload_n 1, 1) := by decide +kernel
theorem dX8_isReducedNow_38 : decode cX8_isReducedNow 38 = .ok (.iaload, 1) := by decide +kernel
theorem dX8_isReducedNow_39 : decode cX8_isReducedNow 39 = .ok (.iaload, 1) := by decide +kernel
theorem dX8_isReducedNow_40 : decode cX8_isReducedNow 40 = .ok (.aload_n 0, 1) := by decide +kernel
theorem dX8_isReducedNow_41 : decode cX8_isReducedNow 41 = .ok (.getfield 22, 3) := by decide +kernel
theorem dX8_isReducedNow_44 : decode cX8_isReducedNow 44 = .ok (.aload_n 0, 1) := by decide +kernel
theorem dX8_isReducedNow_45 : decode cX8_isReducedNow 45 = .ok (.getfield 47, 3) := by decide +kernel
theorem dX8_isReducedNow_48 : decode cX8_isReducedNow 48 = .ok (.getfield 102, 3) := by decide +kernel
theorem dX8_isReducedNow_51 : decode cX8_isReducedNow 51 = .ok (.iload_n 1, 1) := by decide +kernel
theorem dX8_isReducedNow_52 : decode cX8_isReducedNow 52 = .ok (.iaload, 1) := by decide +kernel
theorem dX8_isReducedNow_53 : decode cX8_isReducedNow 53 = .ok (.iaload, 1) := by decide +kernel
theorem dX8_isReducedNow_54 : decode cX8_isReducedNow 54 = .ok (.if_icmp .gt 7, 3) := by decide +kernel
theorem dX8_isReducedNow_57 : decode cX8_isReducedNow 57 = .ok (.iconst 1, 1) := by decide +kernel
theorem dX8_isReducedNow_58 : decode cX8_isReducedNow 58 = .ok (.goto 4, 3) := by decide +kernel
theorem dX8_isReducedNow_61 : decode cX8_isReducedNow 61 = .ok (.iconst 0, 1) := by decide +kernel
theorem dX8_isReducedNow_62 : decode cX8_isReducedNow 62 = .ok (.istore_n 2, 1) := by decide +kernel
theorem dX8_isReducedNow_63 : decode cX8_isReducedNow 63 = .ok (.aload_n 0, 1) := by decide +kernel
theorem dX8_isReducedNow_64 : decode cX8_isReducedNow 64 = .ok (.getfield 9, 3) := by decide +kernel
theorem dX8_isReducedNow_67 : decode cX8_isReducedNow 67 = .ok (.iload_n 1, 1) := by decide +kernel
theorem dX8_isReducedNow_68 : decode cX8_isReducedNow 68 = .ok (.baload, 1) := by decide +kernel
theorem dX8_isReducedNow_69 : decode cX8_isReducedNow 69 = .ok (.ifCond .ne 17, 3) := by decide +kernel
theorem dX8_isReducedNow_72 : decode cX8_isReducedNow 72 = .ok (.iload_n 2, 1) := by decide +kernel
theorem dX8_isReducedNow_73 : decode cX8_isReducedNow 73 = .ok (.ifCond .eq 13, 3) := by decide +kernel
theorem dX8_isReducedNow_76 : decode cX8_isReducedNow 76 = .ok (.aload_n 0, 1) := by decide +kernel
theorem dX8_isReducedNow_77 : decode cX8_isReducedNow 77 = .ok (.iload_n 1, 1) := by decide +kernel
theorem dX8_isReducedNow_78 : decode cX8_isReducedNow 78 = .ok (.invokevirtual 80, 3) := by decide +kernel
theorem dX8_isReducedNow_81 : decode cX8_isReducedNow 81 = .ok (.ifCond .ne 5, 3) := by decide +kernel
theorem dX8_isReducedNow_84 : decode cX8_isReducedNow 84 = .ok (.iconst 0, 1) := by decide +kernel
theorem dX8_isReducedNow_85 : decode cX8_isReducedNow 85 = .ok (.ireturn, 1) := by decide +kernel
theorem dX8_isReducedNow_86 : decode cX8_isReducedNow 86 = .ok (.iinc 1 1, 3) := by decide +kernel
theorem dX8_isReducedNow_89 : decode cX8_isReducedNow 89 = .ok (.goto (-74), 3) := by decide +kernel
theorem dX8_isReducedNow_92 : decode cX8_isReducedNow 92 = .ok (.iconst 1, 1) := by decide +kernel
theorem dX8_isReducedNow_93 : decode cX8_isReducedNow 93 = .ok (.ireturn, 1) := by decide +kernel
theorem dX8_allAreComeTo_0 : decode cX8_allAreComeTo 0 = .ok (.lconst 1, 1) := by decide +kernel
theorem dX8_allAreComeTo_1 : decode cX8_allAreComeTo 1 = .ok (.lstore_n 1, 1) := by decide +kernel
theorem dX8_allAreComeTo_2 : decode cX8_allAreComeTo 2 = .ok (.iconst 0, 1) := by decide +kernel
theorem dX8_allAreComeTo_3 : decode cX8_allAreComeTo 3 = .ok (.istore_n 3, 1) := by decide +kernel
theorem dX8_allAreComeTo_4 : decode cX8_allAreComeTo 4 = .ok (.iconst 1, 1) := by decide +kernel
theorem dX8_allAreComeTo_5 : decode cX8_allAreComeTo 5 = .ok (.istore 4, 2) := by decide +kernel
theorem dX8_allAreComeTo_7 : decode cX8_allAreComeTo 7 = .ok (.aload_n 0, 1) := by decide +kernel
theorem dX8_allAreComeTo_8 : decode cX8_allAreComeTo 8 = .ok (.getfield 38, 3) := by decide +kernel
theorem dX8_allAreComeTo_11 : decode cX8_allAreComeTo 11 = .ok (.iconst 0, 1) := by decide +kernel
theorem dX8_allAreComeTo_12 : decode cX8_allAreComeTo 12 = .ok (.iconst 0, 1) := by decide +kernel
theorem dX8_allAreComeTo_13 : decode cX8_allAreComeTo 13 = .ok (.iastore, 1) := by decide +kernel
theorem dX8_allAreComeTo_14 : decode cX8_allAreComeTo 14 = .ok (.aload_n 0, 1) := by decide +kernel
theorem dX8_allAreComeTo_15 : decode cX8_allAreComeTo 15 = .ok (.getfield 41, 3) := by decide +kernel
theorem dX8_allAreComeTo_18 : decode cX8_allAreComeTo 18 = .ok (.iconst 0, 1) := by decide +kernel
theorem dX8_allAreComeTo_19 : decode cX8_allAreComeTo 19 = .ok (.aload_n 0, 1) := by decide +kernel
theorem dX8_allAreComeTo_20 : decode cX8_allAreComeTo 20 = .ok (.getfield 47, 3) := by decide +kernel
theorem dX8_allAreComeTo_23 : decode cX8_allAreComeTo 23 = .ok (.getfield 105, 3) := by decide +kernel
theorem dX8_allAreComeTo_26 : decode cX8_allAreComeTo 26 = .ok (.iconst 0, 1) := by decide +kernel
theorem dX8_allAreComeTo_27 : decode cX8_allAreComeTo 27 = .ok (.iaload, 1) := by decide +kernel
theorem dX8_allAreComeTo_28 : decode cX8_allAreComeTo 28 = .ok (.iastore, 1) := by decide +kernel
theorem dX8_allAreComeTo_29 : decode cX8_allAreComeTo 29 = .ok (.iconst 0, 1) := by decide +kernel
theorem dX8_allAreComeTo_30 : decode cX8_allAreComeTo 30 = .ok (.istore 5, 2) := by decide +kernel
theorem dX8_allAreComeTo_32 : decode cX8_allAreComeTo 32 = .ok (.iload 5, 2) := by decide +kernel
theorem dX8_allAreComeTo_34 : decode cX8_allAreComeTo 34 = .ok (.ldc 108, 2) := by decide +kernel
theorem dX8_allAreComeTo_36 : decode cX8_allAreComeTo 36 = .ok (.if_icmp .ge 174, 3) := by decide +kernel
theorem dX8_allAreComeTo_39 : decode cX8_allAreComeTo 39 = .ok (.iload 4, 2) := by decide +kernel
theorem dX8_allAreComeTo_41 : decode cX8_allAreComeTo 41 = .ok (.ifCond .le 169, 3) := by decide +kernel
theorem dX8_allAreComeTo_44 : decode cX8_allAreComeTo 44 = .ok (.aload_n 0, 1) := by decide +kernel
theorem dX8_allAreComeTo_45 : decode cX8_allAreComeTo 45 = .ok (.getfield 38, 3) := by decide +kernel
theorem dX8_allAreComeTo_48 : decode cX8_allAreComeTo 48 = .ok (.iload 4, 2) := by decide +kernel
theorem dX8_allAreComeTo_50 : decode cX8_allAreComeTo 50 = .ok (.iconst 1, 1) := by decide +kernel
theorem dX8_allAreComeTo_51 : decode cX8_allAreComeTo 51 = .ok (.isub, 1) := by decide +kernel
theorem dX8_allAreComeTo_52 : decode cX8_allAreComeTo 52 = .ok (.iaload, 1) := by decide +kernel
theorem dX8_allAreComeTo_53 : decode cX8_allAreComeTo 53 = .ok (.istore 6, 2) := by decide +kernel
theorem dX8_allAreComeTo_55 : decode cX8_allAreComeTo 55 = .ok (.aload_n 0, 1) := by decide +kernel
theorem dX8_allAreComeTo_56 : decode cX8_allAreComeTo 56 = .ok (.getfield 41, 3) := by decide +kernel
theorem dX8_allAreComeTo_59 : decode cX8_allAreComeTo 59 = .ok (.iload 4, 2) := by decide +kernel
theorem dX8_allAreComeTo_61 : decode cX8_allAreComeTo 61 = .ok (.iconst 1, 1) := by decide +kernel
theorem dX8_allAreComeTo_62 : decode cX8_allAreComeTo 62 = .ok (.isub, 1) := by decide +kernel
theorem dX8_allAreComeTo_63 : decode cX8_allAreComeTo 63 = .ok (.iaload, 1) := by decide +kernel
theorem dX8_allAreComeTo_64 : decode cX8_allAreComeTo 64 = .ok (.istore 7, 2) := by decide +kernel
theorem dX8_allAreComeTo_66 : decode cX8_allAreComeTo 66 = .ok (.iload 7, 2) := by decide +kernel
theorem dX8_allAreComeTo_68 : decode cX8_allAreComeTo 68 = .ok (.aload_n 0, 1) := by decide +kernel
theorem dX8_allAreComeTo_69 : decode cX8_allAreComeTo 69 = .ok (.getfield 47, 3) := by decide +kernel
theorem dX8_allAreComeTo_72 : decode cX8_allAreComeTo 72 = .ok (.getfield 105, 3) := by decide +kernel
theorem dX8_allAreComeTo_75 : decode cX8_allAreComeTo 75 = .ok (.iload 6, 2) := by decide +kernel
theorem dX8_allAreComeTo_77 : decode cX8_allAreComeTo 77 = .ok (.iconst 1, 1) := by decide +kernel
theorem dX8_allAreComeTo_78 : decode cX8_allAreComeTo 78 = .ok (.iadd, 1) := by decide +kernel
theorem dX8_allAreComeTo_79 : decode cX8_allAreComeTo 79 = .ok (.iaload, 1) := by decide +kernel
theorem dX8_allAreComeTo_80 : decode cX8_allAreComeTo 80 = .ok (.if_icmp .ne 44, 3) := by decide +kernel
theorem dX8_allAreComeTo_83 : decode cX8_allAreComeTo 83 = .ok (.iinc 4 (-1), 3) := by decide +kernel
theorem dX8_allAreComeTo_86 : decode cX8_allAreComeTo 86 = .ok (.iinc 3 1, 3) := by decide +kernel
theorem dX8_allAreComeTo_89 : decode cX8_allAreComeTo 89 = .ok (.aload_n 0, 1) := by decide +kernel
theorem dX8_allAreComeTo_90 : decode cX8_allAreComeTo 90 = .ok (.getfield 18, 3) := by decide +kernel
theorem dX8_allAreComeTo_93 : decode cX8_allAreComeTo 93 = .ok (.aload_n 0, 1) := by decide +kernel
theorem dX8_allAreComeTo_94 : decode cX8_allAreComeTo 94 = .ok (.getfield 47, 3) := by decide +kernel
theorem dX8_allAreComeTo_97 : decode cX8_allAreComeTo 97 = .ok (.getfield 109, 3) := by decide +kernel
theorem dX8_allAreComeTo_100 : decode cX8_allAreComeTo 100 = .ok (.iload_n 3, 1) := by decide +kernel
theorem dX8_allAreComeTo_101 : decode cX8_allAreComeTo 101 = .ok (.isub, 1) := by decide +kernel
theorem dX8_allAreComeTo_102 : decode cX8_allAreComeTo 102 = .ok (.iload 6, 2) := by decide +kernel
theorem dX8_allAreComeTo_104 : decode cX8_allAreComeTo 104 = .ok (.iastore, 1) := by decide +kernel
theorem dX8_allAreComeTo_105 : decode cX8_allAreComeTo 105 = .ok (.aload_n 0, 1) := by decide +kernel
theorem dX8_allAreComeTo_106 : decode cX8_allAreComeTo 106 = .ok (.getfield 22, 3) := by decide +kernel
theorem dX8_allAreComeTo_109 : decode cX8_allAreComeTo 109 = .ok (.iload 6, 2) := by decide +kernel
theorem dX8_allAreComeTo_111 : decode cX8_allAreComeTo 111 = .ok (.aload_n 0, 1) := by decide +kernel
theorem dX8_allAreComeTo_112 : decode cX8_allAreComeTo 112 = .ok (.getfield 47, 3) := by decide +kernel
theorem dX8_allAreComeTo_115 : decode cX8_allAreComeTo 115 = .ok (.getfield 109, 3) := by decide +kernel
theorem dX8_allAreComeTo_118 : decode cX8_allAreComeTo 118 = .ok (.iload_n 3, 1) := by decide +kernel
theorem dX8_allAreComeTo_119 : decode cX8_allAreComeTo 119 = .ok (.isub, 1) := by decide +kernel
theorem dX8_allAreComeTo_120 : decode cX8_allAreComeTo 120 = .ok (.iastore, 1) := by decide +kernel
theorem dX8_allAreComeTo_121 : decode cX8_allAreComeTo 121 = .ok (.goto 83, 3) := by decide +kernel
theorem dX8_allAreComeTo_124 : decode cX8_allAreComeTo 124 = .ok (.aload_n 0, 1) := by decide +kernel
theorem dX8_allAreComeTo_125 : decode cX8_allAreComeTo 125 = .ok (.getfield 41, 3) := by decide +kernel
theorem dX8_allAreComeTo_128 : decode cX8_allAreComeTo 128 = .ok (.iload 4, 2) := by decide +kernel
theorem dX8_allAreComeTo_130 : decode cX8_allAreComeTo 130 = .ok (.iconst 1, 1) := by decide +kernel
theorem dX8_allAreComeTo_131 : decode cX8_allAreComeTo 131 = .ok (.isub, 1) := by decide +kernel
theorem dX8_allAreComeTo_132 : decode cX8_allAreComeTo 132 = .ok (.dup2, 1) := by decide +kernel
theorem dX8_allAreComeTo_133 : decode cX8_allAreComeTo 133 = .ok (.iaload, 1) := by decide +kernel
theorem dX8_allAreComeTo_134 : decode cX8_allAreComeTo 134 = .ok (.iconst 1, 1) := by decide +kernel
theorem dX8_allAreComeTo_135 : decode cX8_allAreComeTo 135 = .ok (.iadd, 1) := by decide +kernel
theorem dX8_allAreComeTo_136 : decode cX8_allAreComeTo 136 = .ok (.iastore, 1) := by decide +kernel
theorem dX8_allAreComeTo_137 : decode cX8_allAreComeTo 137 = .ok (.aload_n 0, 1) := by decide +kernel
theorem dX8_allAreComeTo_138 : decode cX8_allAreComeTo 138 = .ok (.getfield 47, 3) := by decide +kernel
theorem dX8_allAreComeTo_141 : decode cX8_allAreComeTo 141 = .ok (.getfield 99, 3) := by decide +kernel
theorem dX8_allAreComeTo_144 : decode cX8_allAreComeTo 144 = .ok (.iload 7, 2) := by decide +kernel
theorem dX8_allAreComeTo_146 : decode cX8_allAreComeTo 146 = .ok (.iaload, 1) := by decide +kernel
theorem dX8_allAreComeTo_147 : decode cX8_allAreComeTo 147 = .ok (.istore 8, 2) := by decide +kernel
theorem dX8_allAreComeTo_149 : decode cX8_allAreComeTo 149 = .ok (.aload_n 0, 1) := by decide +kernel
theorem dX8_allAreComeTo_150 : decode cX8_allAreComeTo 150 = .ok (.getfield 9, 3) := by decide +kernel
theorem dX8_allAreComeTo_153 : decode cX8_allAreComeTo 153 = .ok (.iload 7, 2) := by decide +kernel
theorem dX8_allAreComeTo_155 : decode cX8_allAreComeTo 155 = .ok (.baload, 1) := by decide +kernel
theorem dX8_allAreComeTo_156 : decode cX8_allAreComeTo 156 = .ok (.ifCond .ne 48, 3) := by decide +kernel
theorem dX8_allAreComeTo_159 : decode cX8_allAreComeTo 159 = .ok (.lload_n 1, 1) := by decide +kernel
theorem dX8_allAreComeTo_160 : decode cX8_allAreComeTo 160 = .ok (.iload 8, 2) := by decide +kernel
theorem dX8_allAreComeTo_162 : decode cX8_allAreComeTo 162 = .ok (.invokestatic 112, 3) := by decide +kernel
theorem dX8_allAreComeTo_165 : decode cX8_allAreComeTo 165 = .ok (.ifCond .ne 39, 3) := by decide +kernel
theorem dX8_allAreComeTo_168 : decode cX8_allAreComeTo 168 = .ok (.lload_n 1, 1) := by decide +kernel
theorem dX8_allAreComeTo_169 : decode cX8_allAreComeTo 169 = .ok (.lconst 1, 1) := by decide +kernel
theorem dX8_allAreComeTo_170 : decode cX8_allAreComeTo 170 = .ok (.iload 8, 2) := by decide +kernel
theorem dX8_allAreComeTo_172 : decode cX8_allAreComeTo 172 = .ok (.lshl, 1) := by decide +kernel
theorem dX8_allAreComeTo_173 : decode cX8_allAreComeTo 173 = .ok (.lor, 1) := by decide +kernel
theorem dX8_allAreComeTo_174 : decode cX8_allAreComeTo 174 = .ok (.lstore_n 1, 1) := by decide +kernel
theorem dX8_allAreComeTo_175 : decode cX8_allAreComeTo 175 = .ok (.aload_n 0, 1) := by decide +kernel
theorem dX8_allAreComeTo_176 : decode cX8_allAreComeTo 176 = .ok (.getfield 38, 3) := by decide +kernel
theorem dX8_allAreComeTo_179 : decode cX8_allAreComeTo 179 = .ok (.iload 4, 2) := by decide +kernel
theorem dX8_allAreComeTo_181 : decode cX8_allAreComeTo 181 = .ok (.iload 8, 2) := by decide +kernel
theorem dX8_allAreComeTo_183 : decode cX8_allAreComeTo 183 = .ok (.iastore, 1) := by decide +kernel
theorem dX8_allAreComeTo_184 : decode cX8_allAreComeTo 184 = .ok (.aload_n 0, 1) := by decide +kernel
theorem dX8_allAreComeTo_185 : decode cX8_allAreComeTo 185 = .ok (.getfield 41, 3) := by decide +kernel
theorem dX8_allAreComeTo_188 : decode cX8_allAreComeTo 188 = .ok (.iload 4, 2) := by decide +kernel
theorem dX8_allAreComeTo_190 : decode cX8_allAreComeTo 190 = .ok (.aload_n 0, 1) := by decide +kernel
theorem dX8_allAreComeTo_191 : decode cX8_allAreComeTo 191 = .ok (.getfield 47, 3) := by decide +kernel
theorem dX8_allAreComeTo_194 : decode cX8_allAreComeTo 194 = .ok (.getfield 105, 3) := by decide +kernel
theorem dX8_allAreComeTo_197 : decode cX8_allAreComeTo 197 = .ok (.iload 8, 2) := by decide +kernel
theorem dX8_allAreComeTo_199 : decode cX8_allAreComeTo 199 = .ok (.iaload, 1) := by decide +kernel
theorem dX8_allAreComeTo_200 : decode cX8_allAreComeTo 200 = .ok (.iastore, 1) := by decide +kernel
theorem dX8_allAreComeTo_201 : decode cX8_allAreComeTo 201 = .ok (.iinc 4 1, 3) := by decide +kernel
theorem dX8_allAreComeTo_204 : decode cX8_allAreComeTo 204 = .ok (.iinc 5 1, 3) := by decide +kernel
theorem dX8_allAreComeTo_207 : decode cX8_allAreComeTo 207 = .ok (.goto (-175), 3) := by decide +kernel
theorem dX8_allAreComeTo_210 : decode cX8_allAreComeTo 210 = .ok (.iload_n 3, 1) := by decide +kernel
theorem dX8_allAreComeTo_211 : decode cX8_allAreComeTo 211 = .ok (.aload_n 0, 1) := by decide +kernel
theorem dX8_allAreComeTo_212 : decode cX8_allAreComeTo 212 = .ok (.getfield 47, 3) := by decide +kernel
theorem dX8_allAreComeTo_215 : decode cX8_allAreComeTo 215 = .ok (.getfield 109, 3) := by decide +kernel
theorem dX8_allAreComeTo_218 : decode cX8_allAreComeTo 218 = .ok (.if_icmp .ne 7, 3) := by decide +kernel
theorem dX8_allAreComeTo_221 : decode cX8_allAreComeTo 221 = .ok (.iconst 1, 1) := by decide +kernel
theorem dX8_allAreComeTo_222 : decode cX8_allAreComeTo 222 = .ok (.goto 4, 3) := by decide +kernel
theorem dX8_allAreComeTo_225 : decode cX8_allAreComeTo 225 = .ok (.iconst 0, 1) := by decide +kernel
theorem dX8_allAreComeTo_226 : decode cX8_allAreComeTo 226 = .ok (.ireturn, 1) := by decide +kernel
theorem dX8_findDominators_0 : decode cX8_findDominators 0 = .ok (.iconst 0, 1) := by decide +kernel
theorem dX8_findDominators_1 : decode cX8_findDominators 1 = .ok (.istore_n 1, 1) := by decide +kernel
theorem dX8_findDominators_2 : decode cX8_findDominators 2 = .ok (.iload_n 1, 1) := by decide +kernel
theorem dX8_findDominators_3 : decode cX8_findDominators 3 = .ok (.aload_n 0, 1) := by decide +kernel
theorem dX8_findDominators_4 : decode cX8_findDominators 4 = .ok (.getfield 47, 3) := by decide +kernel
theorem dX8_findDominators_7 : decode cX8_findDominators 7 = .ok (.getfield 109, 3) := by decide +kernel
theorem dX8_findDominators_10 : decode cX8_findDominators 10 = .ok (.if_icmp .ge 33, 3) := by decide +kernel
theorem dX8_findDominators_13 : decode cX8_findDominators 13 = .ok (.aload_n 0, 1) := by decide +kernel
theorem dX8_findDominators_14 : decode cX8_findDominators 14 = .ok (.getfield 35, 3) := by decide +kernel
theorem dX8_findDominators_17 : decode cX8_findDominators 17 = .ok (.iload_n 1, 1) := by decide +kernel
theorem dX8_findDominators_18 : decode cX8_findDominators 18 = .ok (.lconst 0, 1) := by decide +kernel
theorem dX8_findDominators_19 : decode cX8_findDominators 19 = .ok (.lastore, 1) := by decide +kernel
theorem dX8_findDominators_20 : decode cX8_findDominators 20 = .ok (.aload_n 0, 1) := by decide +kernel
theorem dX8_findDominators_21 : decode cX8_findDominators 21 = .ok (.getfield 25, 3) := by decide +kernel
theorem dX8_findDominators_24 : decode cX8_findDominators 24 = .ok (.iload_n 1, 1) := by decide +kernel
theorem dX8_findDominators_25 : decode cX8_findDominators 25 = .ok (.lconst 1, 1) := by decide +kernel
theorem dX8_findDominators_26 : decode cX8_findDominators 26 = .ok (.aload_n 0, 1) := by decide +kernel
theorem dX8_findDominators_27 : decode cX8_findDominators 27 = .ok (.getfield 47, 3) := by decide +kernel
theorem dX8_findDominators_30 : decode cX8_findDominators 30 = .ok (.getfield 109, 3) := by decide +kernel
theorem dX8_findDominators_33 : decode cX8_findDominators 33 = .ok (.lshl, 1) := by decide +kernel
theorem dX8_findDominators_34 : decode cX8_findDominators 34 = .ok (.lconst 1, 1) := by decide +kernel
theorem dX8_findDominators_35 : decode cX8_findDominators 35 = .ok (.lsub, 1) := by decide +kernel
theorem dX8_findDominators_36 : decode cX8_findDominators 36 = .ok (.lastore, 1) := by decide +kernel
theorem dX8_findDominators_37 : decode cX8_findDominators 37 = .ok (.iinc 1 1, 3) := by decide +kernel
theorem dX8_findDominators_40 : decode cX8_findDominators 40 = .ok (.goto (-38), 3) := by decide +kernel
theorem dX8_findDominators_43 : decode cX8_findDominators 43 = .ok (.iconst 0, 1) := by decide +kernel
theorem dX8_findDominators_44 : decode cX8_findDominators 44 = .ok (.istore_n 1, 1) := by decide +kernel
theorem dX8_findDominators_45 : decode cX8_findDominators 45 = .ok (.iload_n 1, 1) := by decide +kernel
theorem dX8_findDominators_46 : decode cX8_findDominators 46 = .ok (.aload_n 0, 1) := by decide +kernel
theorem dX8_findDominators_47 : decode cX8_findDominators 47 = .ok (.getfield 47, 3) := by decide +kernel
theorem dX8_findDominators_50 : decode cX8_findDominators 50 = .ok (.getfield 75, 3) := by decide +kernel
theorem dX8_findDominators_53 : decode cX8_findDominators 53 = .ok (.if_icmp .ge 46, 3) := by decide +kernel
theorem dX8_findDominators_56 : decode cX8_findDominators 56 = .ok (.aload_n 0, 1) := by decide +kernel
theorem dX8_findDominators_57 : decode cX8_findDominators 57 = .ok (.getfield 9, 3) := by decide +kernel
theorem dX8_findDominators_60 : decode cX8_findDominators 60 = .ok (.iload_n 1, 1) := by decide +kernel
theorem dX8_findDominators_61 : decode cX8_findDominators 61 = .ok (.baload, 1) := by decide +kernel
theorem dX8_findDominators_62 : decode cX8_findDominators 62 = .ok (.ifCond .ne 31, 3) := by decide +kernel
theorem dX8_findDominators_65 : decode cX8_findDominators 65 = .ok (.aload_n 0, 1) := by decide +kernel
theorem dX8_findDominators_66 : decode cX8_findDominators 66 = .ok (.getfield 35, 3) := by decide +kernel
theorem dX8_findDominators_69 : decode cX8_findDominators 69 = .ok (.aload_n 0, 1) := by decide +kernel
theorem dX8_findDominators_70 : decode cX8_findDominators 70 = .ok (.getfield 47, 3) := by decide +kernel
theorem dX8_findDominators_73 : decode cX8_findDominators 73 = .ok (.getfield 99, 3) := by decide +kernel
theorem dX8_findDominators_76 : decode cX8_findDominators 76 = .ok (.iload_n 1, 1) := by decide +kernel
theorem dX8_findDominators_77 : decode cX8_findDominators 77 = .ok (.iaload, 1) := by decide +kernel
theorem dX8_findDominators_78 : decode cX8_findDominators 78 = .ok (.dup2, 1) := by decide +kernel
theorem dX8_findDominators_79 : decode cX8_findDominators 79 = .ok (.laload, 1) := by decide +kernel
theorem dX8_findDominators_80 : decode cX8_findDominators 80 = .ok (.lconst 1, 1) := by decide +kernel
theorem dX8_findDominators_81 : decode cX8_findDominators 81 = .ok (.aload_n 0, 1) := by decide +kernel
theorem dX8_findDominators_82 : decode cX8_findDominators 82 = .ok (.getfield 47, 3) := by decide +kernel
theorem dX8_findDominators_85 : decode cX8_findDominators 85 = .ok (.getfield 102, 3) := by decide +kernel
theorem dX8_findDominators_88 : decode cX8_findDominators 88 = .ok (.iload_n 1, 1) := by decide +kernel
theorem dX8_findDominators_89 : decode cX8_findDominators 89 = .ok (.iaload, 1) := by decide +kernel
theorem dX8_findDominators_90 : decode cX8_findDominators 90 = .ok (.lshl, 1) := by decide +kernel
theorem dX8_findDominators_91 : decode cX8_findDominators 91 = .ok (.lor, 1) := by decide +kernel
theorem dX8_findDominators_92 : decode cX8_findDominators 92 = .ok (.lastore, 1) := by decide +kernel
theorem dX8_findDominators_93 : decode cX8_findDominators 93 = .ok (.iinc 1 1, 3) := by decide +kernel
theorem dX8_findDominators_96 : decode cX8_findDominators 96 = .ok (.goto (-51), 3) := by decide +kernel
theorem dX8_findDominators_99 : decode cX8_findDominators 99 = .ok (.aload_n 0, 1) := by decide +kernel
theorem dX8_findDominators_100 : decode cX8_findDominators 100 = .ok (.getfield 25, 3) := by decide +kernel
theorem dX8_findDominators_103 : decode cX8_findDominators 103 = .ok (.iconst 0, 1) := by decide +kernel
theorem dX8_findDominators_104 : decode cX8_findDominators 104 = .ok (.lconst 1, 1) := by decide +kernel
theorem dX8_findDominators_105 : decode cX8_findDominators 105 = .ok (.lastore, 1) := by decide +kernel
theorem dX8_findDominators_106 : decode cX8_findDominators 106 = .ok (.iconst 1, 1) := by decide +kernel
theorem dX8_findDominators_107 : decode cX8_findDominators 107 = .ok (.istore_n 1, 1) := by decide +kernel
theorem dX8_findDominators_108 : decode cX8_findDominators 108 = .ok (.iconst 0, 1) := by decide +kernel
theorem dX8_findDominators_109 : decode cX8_findDominators 109 = .ok (.istore_n 2, 1) := by decide +kernel
theorem dX8_findDominators_110 : decode cX8_findDominators 110 = .ok (.iload_n 2, 1) := by decide +kernel
theorem dX8_findDominators_111 : decode cX8_findDominators 111 = .ok (.ldc 108, 2) := by decide +kernel
theorem dX8_findDominators_113 : decode cX8_findDominators 113 = .ok (.if_icmp .ge 87, 3) := by decide +kernel
theorem dX8_findDominators_116 : decode cX8_findDominators 116 = .ok (.iload_n 1, 1) := by decide +kernel
theorem dX8_findDominators_117 : decode cX8_findDominators 117 = .ok (.ifCond .eq 83, 3) := by decide +kernel
theorem dX8_findDominators_120 : decode cX8_findDominators 120 = .ok (.iconst 0, 1) := by decide +kernel
theorem dX8_findDominators_121 : decode cX8_findDominators 121 = .ok (.istore_n 1, 1) := by decide +kernel
theorem dX8_findDominators_122 : decode cX8_findDominators 122 = .ok (.iconst 1, 1) := by decide +kernel
theorem dX8_findDominators_123 : decode cX8_findDominators 123 = .ok (.istore_n 3, 1) := by decide +kernel
theorem dX8_findDominators_124 : decode cX8_findDominators 124 = .ok (.iload_n 3, 1) := by decide +kernel
theorem dX8_findDominators_125 : decode cX8_findDominators 125 = .ok (.aload_n 0, 1) := by decide +kernel
theorem dX8_findDominators_126 : decode cX8_findDominators 126 = .ok (.getfield 47, 3) := by decide +kernel
theorem dX8_findDominators_129 : decode cX8_findDominators 129 = .ok (.getfield 109, 3) := by decide +kernel
theorem dX8_findDominators_132 : decode cX8_findDominators 132 = .ok (.if_icmp .ge 62, 3) := by decide +kernel
theorem dX8_findDominators_135 : decode cX8_findDominators 135 = .ok (.aload_n 0, 1) := by decide +kernel
theorem dX8_findDominators_136 : decode cX8_findDominators 136 = .ok (.getfield 18, 3) := by decide +kernel
theorem dX8_findDominators_139 : decode cX8_findDominators 139 = .ok (.iload_n 3, 1) := by decide +kernel
theorem dX8_findDominators_140 : decode cX8_findDominators 140 = .ok (.iaload, 1) := by decide +kernel
theorem dX8_findDominators_141 : decode cX8_findDominators 141 = .ok (.istore 4, 2) := by decide +kernel
theorem dX8_findDominators_143 : decode cX8_findDominators 143 = .ok (.aload_n 0, 1) := by decide +kernel
theorem dX8_findDominators_144 : decode cX8_findDominators 144 = .ok (.iload 4, 2) := by decide +kernel
theorem dX8_findDominators_146 : decode cX8_findDominators 146 = .ok (.invokevirtual 116, 3) := by decide +kernel
theorem dX8_findDominators_149 : decode cX8_findDominators 149 = .ok (.lconst 1, 1) := by decide +kernel
theorem dX8_findDominators_150 : decode cX8_findDominators 150 = .ok (.iload 4, 2) := by decide +kernel
theorem dX8_findDominators_152 : decode cX8_findDominators 152 = .ok (.lshl, 1) := by decide +kernel
theorem dX8_findDominators_153 : decode cX8_findDominators 153 = .ok (.lor, 1) := by decide +kernel
theorem dX8_findDominators_154 : decode cX8_findDominators 154 = .ok (.lstore 5, 2) := by decide +kernel
theorem dX8_findDominators_156 : decode cX8_findDominators 156 = .ok (.iload_n 1, 1) := by decide +kernel
theorem dX8_findDominators_157 : decode cX8_findDominators 157 = .ok (.ifCond .ne 16, 3) := by decide +kernel
theorem dX8_findDominators_160 : decode cX8_findDominators 160 = .ok (.lload 5, 2) := by decide +kernel
theorem dX8_findDominators_162 : decode cX8_findDominators 162 = .ok (.aload_n 0, 1) := by decide +kernel
theorem dX8_findDominators_163 : decode cX8_findDominators 163 = .ok (.getfield 25, 3) := by decide +kernel
theorem dX8_findDominators_166 : decode cX8_findDominators 166 = .ok (.iload 4, 2) := by decide +kernel
theorem dX8_findDominators_168 : decode cX8_findDominators 168 = .ok (.laload, 1) := by decide +kernel
theorem dX8_findDominators_169 : decode cX8_findDominators 169 = .ok (.lcmp, 1) := by decide +kernel
theorem dX8_findDominators_170 : decode cX8_findDominators 170 = .ok (.ifCond .eq 7, 3) := by decide +kernel
theorem dX8_findDominators_173 : decode cX8_findDominators 173 = .ok (.iconst 1, 1) := by decide +kernel
theorem dX8_findDominators_174 : decode cX8_findDominators 174 = .ok (.goto 4, 3) := by decide +kernel
theorem dX8_findDominators_177 : decode cX8_findDominators 177 = .ok (.iconst 0, 1) := by decide +kernel
theorem dX8_findDominators_178 : decode cX8_findDominators 178 = .ok (.istore_n 1, 1) := by decide +kernel
theorem dX8_findDominators_179 : decode cX8_findDominators 179 = .ok (.aload_n 0, 1) := by decide +kernel
theorem dX8_findDominators_180 : decode cX8_findDominators 180 = .ok (.getfield 25, 3) := by decide +kernel
theorem dX8_findDominators_183 : decode cX8_findDominators 183 = .ok (.iload 4, 2) := by decide +kernel
theorem dX8_findDominators_185 : decode cX8_findDominators 185 = .ok (.lload 5, 2) := by decide +kernel
theorem dX8_findDominators_187 : decode cX8_findDominators 187 = .ok (.lastore, 1) := by decide +kernel
theorem dX8_findDominators_188 : decode cX8_findDominators 188 = .ok (.iinc 3 1, 3) := by decide +kernel
theorem dX8_findDominators_191 : decode cX8_findDominators 191 = .ok (.goto (-67), 3) := by decide +kernel
theorem dX8_findDominators_194 : decode cX8_findDominators 194 = .ok (.iinc 2 1, 3) := by decide +kernel
theorem dX8_findDominators_197 : decode cX8_findDominators 197 = .ok (.goto (-87), 3) := by decide +kernel
theorem dX8_findDominators_200 : decode cX8_findDominators 200 = .ok (.return_, 1) := by decide +kernel
theorem dX8_sharedBefore_0 : decode cX8_sharedBefore 0 = .ok (.lconst 1, 1) := by decide +kernel
theorem dX8_sharedBefore_1 : decode cX8_sharedBefore 1 = .ok (.aload_n 0, 1) := by decide +kernel
theorem dX8_sharedBefore_2 : decode cX8_sharedBefore 2 = .ok (.getfield 47, 3) := by decide +kernel
theorem dX8_sharedBefore_5 : decode cX8_sharedBefore 5 = .ok (.getfield 109, 3) := by decide +kernel
theorem dX8_sharedBefore_8 : decode cX8_sharedBefore 8 = .ok (.lshl, 1) := by decide +kernel
theorem dX8_sharedBefore_9 : decode cX8_sharedBefore 9 = .ok (.lconst 1, 1) := by decide +kernel
theorem dX8_sharedBefore_10 : decode cX8_sharedBefore 10 = .ok (.lsub, 1) := by decide +kernel
theorem dX8_sharedBefore_11 : decode cX8_sharedBefore 11 = .ok (.lstore_n 2, 1) := by decide +kernel
theorem dX8_sharedBefore_12 : decode cX8_sharedBefore 12 = .ok (.aload_n 0, 1) := by decide +kernel
theorem dX8_sharedBefore_13 : decode cX8_sharedBefore 13 = .ok (.getfield 35, 3) := by decide +kernel
theorem dX8_sharedBefore_16 : decode cX8_sharedBefore 16 = .ok (.iload_n 1, 1) := by decide +kernel
theorem dX8_sharedBefore_17 : decode cX8_sharedBefore 17 = .ok (.laload, 1) := by decide +kernel
theorem dX8_sharedBefore_18 : decode cX8_sharedBefore 18 = .ok (.lstore 4, 2) := by decide +kernel
theorem dX8_sharedBefore_20 : decode cX8_sharedBefore 20 = .ok (.lload 4, 2) := by decide +kernel
theorem dX8_sharedBefore_22 : decode cX8_sharedBefore 22 = .ok (.invokestatic 120, 3) := by decide +kernel
theorem dX8_sharedBefore_25 : decode cX8_sharedBefore 25 = .ok (.istore 6, 2) := by decide +kernel
theorem dX8_sharedBefore_27 : decode cX8_sharedBefore 27 = .ok (.iload 6, 2) := by decide +kernel
theorem dX8_sharedBefore_29 : decode cX8_sharedBefore 29 = .ok (.ifCond .le 31, 3) := by decide +kernel
theorem dX8_sharedBefore_32 : decode cX8_sharedBefore 32 = .ok (.lload_n 2, 1) := by decide +kernel
theorem dX8_sharedBefore_33 : decode cX8_sharedBefore 33 = .ok (.aload_n 0, 1) := by decide +kernel
theorem dX8_sharedBefore_34 : decode cX8_sharedBefore 34 = .ok (.getfield 25, 3) := by decide +kernel
theorem dX8_sharedBefore_37 : decode cX8_sharedBefore 37 = .ok (.lload 4, 2) := by decide +kernel
theorem dX8_sharedBefore_39 : decode cX8_sharedBefore 39 = .ok (.invokestatic 126, 3) := by decide +kernel
theorem dX8_sharedBefore_42 : decode cX8_sharedBefore 42 = .ok (.laload, 1) := by decide +kernel
theorem dX8_sharedBefore_43 : decode cX8_sharedBefore 43 = .ok (.land, 1) := by decide +kernel
theorem dX8_sharedBefore_44 : decode cX8_sharedBefore 44 = .ok (.lstore_n 2, 1) := by decide +kernel
theorem dX8_sharedBefore_45 : decode cX8_sharedBefore 45 = .ok (.lload 4, 2) := by decide +kernel
theorem dX8_sharedBefore_47 : decode cX8_sharedBefore 47 = .ok (.lload 4, 2) := by decide +kernel
theorem dX8_sharedBefore_49 : decode cX8_sharedBefore 49 = .ok (.lconst 1, 1) := by decide +kernel
theorem dX8_sharedBefore_50 : decode cX8_sharedBefore 50 = .ok (.lsub, 1) := by decide +kernel
theorem dX8_sharedBefore_51 : decode cX8_sharedBefore 51 = .ok (.land, 1) := by decide +kernel
theorem dX8_sharedBefore_52 : decode cX8_sharedBefore 52 = .ok (.lstore 4, 2) := by decide +kernel
theorem dX8_sharedBefore_54 : decode cX8_sharedBefore 54 = .ok (.iinc 6 (-1), 3) := by decide +kernel
theorem dX8_sharedBefore_57 : decode cX8_sharedBefore 57 = .ok (.goto (-30), 3) := by decide +kernel
theorem dX8_sharedBefore_60 : decode cX8_sharedBefore 60 = .ok (.lload_n 2, 1) := by decide +kernel
theorem dX8_sharedBefore_61 : decode cX8_sharedBefore 61 = .ok (.lreturn, 1) := by decide +kernel
theorem dX8_isBack_0 : decode cX8_isBack 0 = .ok (.aload_n 0, 1) := by decide +kernel
theorem dX8_isBack_1 : decode cX8_isBack 1 = .ok (.getfield 25, 3) := by decide +kernel
theorem dX8_isBack_4 : decode cX8_isBack 4 = .ok (.aload_n 0, 1) := by decide +kernel
theorem dX8_isBack_5 : decode cX8_isBack 5 = .ok (.getfield 47, 3) := by decide +kernel
theorem dX8_isBack_8 : decode cX8_isBack 8 = .ok (.getfield 102, 3) := by decide +kernel
theorem dX8_isBack_11 : decode cX8_isBack 11 = .ok (.iload_n 1, 1) := by decide +kernel
theorem dX8_isBack_12 : decode cX8_isBack 12 = .ok (.iaload, 1) := by decide +kernel
theorem dX8_isBack_13 : decode cX8_isBack 13 = .ok (.laload, 1) := by decide +kernel
theorem dX8_isBack_14 : decode cX8_isBack 14 = .ok (.aload_n 0, 1) := by decide +kernel
theorem dX8_isBack_15 : decode cX8_isBack 15 = .ok (.getfield 47, 3) := by decide +kernel
theorem dX8_isBack_18 : decode cX8_isBack 18 = .ok (.getfield 99, 3) := by decide +kernel
theorem dX8_isBack_21 : decode cX8_isBack 21 = .ok (.iload_n 1, 1) := by decide +kernel
theorem dX8_isBack_22 : decode cX8_isBack 22 = .ok (.iaload, 1) := by decide +kernel
theorem dX8_isBack_23 : decode cX8_isBack 23 = .ok (.invokestatic 112, 3) := by decide +kernel
theorem dX8_isBack_26 : decode cX8_isBack 26 = .ok (.ireturn, 1) := by decide +kernel
theorem dX8_findCandidates_0 : decode cX8_findCandidates 0 = .ok (.aload_n 0, 1) := by decide +kernel
theorem dX8_findCandidates_1 : decode cX8_findCandidates 1 = .ok (.iconst 0, 1) := by decide +kernel
theorem dX8_findCandidates_2 : decode cX8_findCandidates 2 = .ok (.putfield 129, 3) := by decide +kernel
theorem dX8_findCandidates_5 : decode cX8_findCandidates 5 = .ok (.iconst 0, 1) := by decide +kernel
theorem dX8_findCandidates_6 : decode cX8_findCandidates 6 = .ok (.istore_n 1, 1) := by decide +kernel
theorem dX8_findCandidates_7 : decode cX8_findCandidates 7 = .ok (.iload_n 1, 1) := by decide +kernel
theorem dX8_findCandidates_8 : decode cX8_findCandidates 8 = .ok (.aload_n 0, 1) := by decide +kernel
theorem dX8_findCandidates_9 : decode cX8_findCandidates 9 = .ok (.getfield 47, 3) := by decide +kernel
theorem dX8_findCandidates_12 : decode cX8_findCandidates 12 = .ok (.getfield 75, 3) := by decide +kernel
theorem dX8_findCandidates_15 : decode cX8_findCandidates 15 = .ok (.if_icmp .ge 80, 3) := by decide +kernel
theorem dX8_findCandidates_18 : decode cX8_findCandidates 18 = .ok (.aload_n 0, 1) := by decide +kernel
theorem dX8_findCandidates_19 : decode cX8_findCandidates 19 = .ok (.getfield 35, 3) := by decide +kernel
theorem dX8_findCandidates_22 : decode cX8_findCandidates 22 = .ok (.aload_n 0, 1) := by decide +kernel
theorem dX8_findCandidates_23 : decode cX8_findCandidates 23 = .ok (.getfield 47, 3) := by decide +kernel
theorem dX8_findCandidates_26 : decode cX8_findCandidates 26 = .ok (.getfield 99, 3) := by decide +kernel
theorem dX8_findCandidates_29 : decode cX8_findCandidates 29 = .ok (.iload_n 1, 1) := by decide +kernel
theorem dX8_findCandidates_30 : decode cX8_findCandidates 30 = .ok (.iaload, 1) := by decide +kernel
theorem dX8_findCandidates_31 : decode cX8_findCandidates 31 = .ok (.laload, 1) := by decide +kernel
theorem dX8_findCandidates_32 : decode cX8_findCandidates 32 = .ok (.invokestatic 120, 3) := by decide +kernel
theorem dX8_findCandidates_35 : decode cX8_findCandidates 35 = .ok (.iconst 2, 1) := by decide +kernel
theorem dX8_findCandidates_36 : decode cX8_findCandidates 36 = .ok (.if_icmp .ge 7, 3) := by decide +kernel
theorem dX8_findCandidates_39 : decode cX8_findCandidates 39 = .ok (.iconst 1, 1) := by decide +kernel
theorem dX8_findCandidates_40 : decode cX8_findCandidates 40 = .ok (.goto 4, 3) := by decide +kernel
theorem dX8_findCandidates_43 : decode cX8_findCandidates 43 = .ok (.iconst 0, 1) := by decide +kernel
theorem dX8_findCandidates_44 : decode cX8_findCandidates 44 = .ok (.istore_n 2, 1) := by decide +kernel
theorem dX8_findCandidates_45 : decode cX8_findCandidates 45 = .ok (.aload_n 0, 1) := by decide +kernel
theorem dX8_findCandidates_46 : decode cX8_findCandidates 46 = .ok (.getfield 47, 3) := by decide +kernel
theorem dX8_findCandidates_49 : decode cX8_findCandidates 49 = .ok (.getfield 132, 3) := by decide +kernel
theorem dX8_findCandidates_52 : decode cX8_findCandidates 52 = .ok (.iload_n 1, 1) := by decide +kernel
theorem dX8_findCandidates_53 : decode cX8_findCandidates 53 = .ok (.baload, 1) := by decide +kernel
theorem dX8_findCandidates_54 : decode cX8_findCandidates 54 = .ok (.ifCond .ne 35, 3) := by decide +kernel
theorem dX8_findCandidates_57 : decode cX8_findCandidates 57 = .ok (.aload_n 0, 1) := by decide +kernel
theorem dX8_findCandidates_58 : decode cX8_findCandidates 58 = .ok (.iload_n 1, 1) := by decide +kernel
theorem dX8_findCandidates_59 : decode cX8_findCandidates 59 = .ok (.invokevirtual 80, 3) := by decide +kernel
theorem dX8_findCandidates_62 : decode cX8_findCandidates 62 = .ok (.ifCond .ne 27, 3) := by decide +kernel
theorem dX8_findCandidates_65 : decode cX8_findCandidates 65 = .ok (.iload_n 2, 1) := by decide +kernel
theorem dX8_findCandidates_66 : decode cX8_findCandidates 66 = .ok (.ifCond .ne 23, 3) := by decide +kernel
theorem dX8_findCandidates_69 : decode cX8_findCandidates 69 = .ok (.aload_n 0, 1) := by decide +kernel
theorem dX8_findCandidates_70 : decode cX8_findCandidates 70 = .ok (.getfield 44, 3) := by decide +kernel
theorem dX8_findCandidates_73 : decode cX8_findCandidates 73 = .ok (.aload_n 0, 1) := by decide +kernel
theorem dX8_findCandidates_74 : decode cX8_findCandidates 74 = .ok (.getfield 129, 3) := by decide +kernel
theorem dX8_findCandidates_77 : decode cX8_findCandidates 77 = .ok (.iload_n 1, 1) := by decide +kernel
theorem dX8_findCandidates_78 : decode cX8_findCandidates 78 = .ok (.iastore, 1) := by decide +kernel
theorem dX8_findCandidates_79 : decode cX8_findCandidates 79 = .ok (.aload_n 0, 1) := by decide +kernel
theorem dX8_findCandidates_80 : decode cX8_findCandidates 80 = .ok (.dup, 1) := by decide +kernel
theorem dX8_findCandidates_81 : decode cX8_findCandidates 81 = .ok (.getfield 129, 3) := by decide +kernel
theorem dX8_findCandidates_84 : decode cX8_findCandidates 84 = .ok (.iconst 1, 1) := by decide +kernel
theorem dX8_findCandidates_85 : decode cX8_findCandidates 85 = .ok (.iadd, 1) := by decide +kernel
theorem dX8_findCandidates_86 : decode cX8_findCandidates 86 = .ok (.putfield 129, 3) := by decide +kernel
theorem dX8_findCandidates_89 : decode cX8_findCandidates 89 = .ok (.iinc 1 1, 3) := by decide +kernel
theorem dX8_findCandidates_92 : decode cX8_findCandidates 92 = .ok (.goto (-85), 3) := by decide +kernel
theorem dX8_findCandidates_95 : decode cX8_findCandidates 95 = .ok (.return_, 1) := by decide +kernel
theorem dX8_oneJumpIsEnough_0 : decode cX8_oneJumpIsEnough 0 = .ok (.iconst 0, 1) := by decide +kernel
theorem dX8_oneJumpIsEnough_1 : decode cX8_oneJumpIsEnough 1 = .ok (.istore_n 1, 1) := by decide +kernel
theorem dX8_oneJumpIsEnough_2 : decode cX8_oneJumpIsEnough 2 = .ok (.iload_n 1, 1) := by decide +kernel
theorem dX8_oneJumpIsEnough_3 : decode cX8_oneJumpIsEnough 3 = .ok (.aload_n 0, 1) := by decide +kernel
theorem dX8_oneJumpIsEnough_4 : decode cX8_oneJumpIsEnough 4 = .ok (.getfield 129, 3) := by decide +kernel
theorem dX8_oneJumpIsEnough_7 : decode cX8_oneJumpIsEnough 7 = .ok (.if_icmp .ge 47, 3) := by decide +kernel
theorem dX8_oneJumpIsEnough_10 : decode cX8_oneJumpIsEnough 10 = .ok (.aload_n 0, 1) := by decide +kernel
theorem dX8_oneJumpIsEnough_11 : decode cX8_oneJumpIsEnough 11 = .ok (.getfield 9, 3) := by decide +kernel
theorem dX8_oneJumpIsEnough_14 : decode cX8_oneJumpIsEnough 14 = .ok (.aload_n 0, 1) := by decide +kernel
theorem dX8_oneJumpIsEnough_15 : decode cX8_oneJumpIsEnough 15 = .ok (.getfield 44, 3) := by decide +kernel
theorem dX8_oneJumpIsEnough_18 : decode cX8_oneJumpIsEnough 18 = .ok (.iload_n 1, 1) := by decide +kernel
theorem dX8_oneJumpIsEnough_19 : decode cX8_oneJumpIsEnough 19 = .ok (.iaload, 1) := by decide +kernel
theorem dX8_oneJumpIsEnough_20 : decode cX8_oneJumpIsEnough 20 = .ok (.iconst 1, 1) := by decide +kernel
theorem dX8_oneJumpIsEnough_21 : decode cX8_oneJumpIsEnough 21 = .ok (.bastore, 1) := by decide +kernel
theorem dX8_oneJumpIsEnough_22 : decode cX8_oneJumpIsEnough 22 = .ok (.aload_n 0, 1) := by decide +kernel
theorem dX8_oneJumpIsEnough_23 : decode cX8_oneJumpIsEnough 23 = .ok (.invokevirtual 55, 3) := by decide +kernel
theorem dX8_oneJumpIsEnough_26 : decode cX8_oneJumpIsEnough 26 = .ok (.ifCond .eq 10, 3) := by decide +kernel
theorem dX8_oneJumpIsEnough_29 : decode cX8_oneJumpIsEnough 29 = .ok (.aload_n 0, 1) := by decide +kernel
theorem dX8_oneJumpIsEnough_30 : decode cX8_oneJumpIsEnough 30 = .ok (.iconst 1, 1) := by decide +kernel
theorem dX8_oneJumpIsEnough_31 : decode cX8_oneJumpIsEnough 31 = .ok (.putfield 51, 3) := by decide +kernel
theorem dX8_oneJumpIsEnough_34 : decode cX8_oneJumpIsEnough 34 = .ok (.iconst 1, 1) := by decide +kernel
theorem dX8_oneJumpIsEnough_35 : decode cX8_oneJumpIsEnough 35 = .ok (.ireturn, 1) := by decide +kernel
theorem dX8_oneJumpIsEnough_36 : decode cX8_oneJumpIsEnough 36 = .ok (.aload_n 0, 1) := by decide +kernel
theorem dX8_oneJumpIsEnough_37 : decode cX8_oneJumpIsEnough 37 = .ok (.getfield 9, 3) := by decide +kernel
theorem dX8_oneJumpIsEnough_40 : decode cX8_oneJumpIsEnough 40 = .ok (.aload_n 0, 1) := by decide +kernel
theorem dX8_oneJumpIsEnough_41 : decode cX8_oneJumpIsEnough 41 = .ok (.getfield 44, 3) := by decide +kernel
theorem dX8_oneJumpIsEnough_44 : decode cX8_oneJumpIsEnough 44 = .ok (.iload_n 1, 1) := by decide +kernel
theorem dX8_oneJumpIsEnough_45 : decode cX8_oneJumpIsEnough 45 = .ok (.iaload, 1) := by decide +kernel
theorem dX8_oneJumpIsEnough_46 : decode cX8_oneJumpIsEnough 46 = .ok (.iconst 0, 1) := by decide +kernel
theorem dX8_oneJumpIsEnough_47 : decode cX8_oneJumpIsEnough 47 = .ok (.bastore, 1) := by decide +kernel
theorem dX8_oneJumpIsEnough_48 : decode cX8_oneJumpIsEnough 48 = .ok (.iinc 1 1, 3) := by decide +kernel
theorem dX8_oneJumpIsEnough_51 : decode cX8_oneJumpIsEnough 51 = .ok (.goto (-49), 3) := by decide +kernel
theorem dX8_oneJumpIsEnough_54 : decode cX8_oneJumpIsEnough 54 = .ok (.iconst 0, 1) := by decide +kernel
theorem dX8_oneJumpIsEnough_55 : decode cX8_oneJumpIsEnough 55 = .ok (.ireturn, 1) := by decide +kernel
theorem dX8_twoJumpsAreEnough_0 : decode cX8_twoJumpsAreEnough 0 = .ok (.iconst 0, 1) := by decide +kernel
theorem dX8_twoJumpsAreEnough_1 : decode cX8_twoJumpsAreEnough 1 = .ok (.istore_n 1, 1) := by decide +kernel
theorem dX8_twoJumpsAreEnough_2 : decode cX8_twoJumpsAreEnough 2 = .ok (.iload_n 1, 1) := by decide +kernel
theorem dX8_twoJumpsAreEnough_3 : decode cX8_twoJumpsAreEnough 3 = .ok (.aload_n 0, 1) := by decide +kernel
theorem dX8_twoJumpsAreEnough_4 : decode cX8_twoJumpsAreEnough 4 = .ok (.getfield 129, 3) := by decide +kernel
theorem dX8_twoJumpsAreEnough_7 : decode cX8_twoJumpsAreEnough 7 = .ok (.if_icmp .ge 89, 3) := by decide +kernel
theorem dX8_twoJumpsAreEnough_10 : decode cX8_twoJumpsAreEnough 10 = .ok (.aload_n 0, 1) := by decide +kernel
theorem dX8_twoJumpsAreEnough_11 : decode cX8_twoJumpsAreEnough 11 = .ok (.getfield 9, 3) := by decide +kernel
theorem dX8_twoJumpsAreEnough_14 : decode cX8_twoJumpsAreEnough 14 = .ok (.aload_n 0, 1) := by decide +kernel
theorem dX8_twoJumpsAreEnough_15 : decode cX8_twoJumpsAreEnough 15 = .ok (.getfield 44, 3) := by decide +kernel
theorem dX8_twoJumpsAreEnough_18 : decode cX8_twoJumpsAreEnough 18 = .ok (.iload_n 1, 1) := by decide +kernel
theorem dX8_twoJumpsAreEnough_19 : decode cX8_twoJumpsAreEnough 19 = .ok (.iaload, 1) := by decide +kernel
theorem dX8_twoJumpsAreEnough_20 : decode cX8_twoJumpsAreEnough 20 = .ok (.iconst 1, 1) := by decide +kernel
theorem dX8_twoJumpsAreEnough_21 : decode cX8_twoJumpsAreEnough 21 = .ok (.bastore, 1) := by decide +kernel
theorem dX8_twoJumpsAreEnough_22 : decode cX8_twoJumpsAreEnough 22 = .ok (.iload_n 1, 1) := by decide +kernel
theorem dX8_twoJumpsAreEnough_23 : decode cX8_twoJumpsAreEnough 23 = .ok (.iconst 1, 1) := by decide +kernel
theorem dX8_twoJumpsAreEnough_24 : decode cX8_twoJumpsAreEnough 24 = .ok (.iadd, 1) := by decide +kernel
theorem dX8_twoJumpsAreEnough_25 : decode cX8_twoJumpsAreEnough 25 = .ok (.istore_n 2, 1) := by decide +kernel
theorem dX8_twoJumpsAreEnough_26 : decode cX8_twoJumpsAreEnough 26 = .ok (.iload_n 2, 1) := by decide +kernel
theorem dX8_twoJumpsAreEnough_27 : decode cX8_twoJumpsAreEnough 27 = .ok (.aload_n 0, 1) := by decide +kernel
theorem dX8_twoJumpsAreEnough_28 : decode cX8_twoJumpsAreEnough 28 = .ok (.getfield 129, 3) := by decide +kernel
theorem dX8_twoJumpsAreEnough_31 : decode cX8_twoJumpsAreEnough 31 = .ok (.if_icmp .ge 47, 3) := by decide +kernel
theorem dX8_twoJumpsAreEnough_34 : decode cX8_twoJumpsAreEnough 34 = .ok (.aload_n 0, 1) := by decide +kernel
theorem dX8_twoJumpsAreEnough_35 : decode cX8_twoJumpsAreEnough 35 = .ok (.getfield 9, 3) := by decide +kernel
theorem dX8_twoJumpsAreEnough_38 : decode cX8_twoJumpsAreEnough 38 = .ok (.aload_n 0, 1) := by decide +kernel
theorem dX8_twoJumpsAreEnough_39 : decode cX8_twoJumpsAreEnough 39 = .ok (.getfield 44, 3) := by decide +kernel
theorem dX8_twoJumpsAreEnough_42 : decode cX8_twoJumpsAreEnough 42 = .ok (.iload_n 2, 1) := by decide +kernel
theorem dX8_twoJumpsAreEnough_43 : decode cX8_twoJumpsAreEnough 43 = .ok (.iaload, 1) := by decide +kernel
theorem dX8_twoJumpsAreEnough_44 : decode cX8_twoJumpsAreEnough 44 = .ok (.iconst 1, 1) := by decide +kernel
theorem dX8_twoJumpsAreEnough_45 : decode cX8_twoJumpsAreEnough 45 = .ok (.bastore, 1) := by decide +kernel
theorem dX8_twoJumpsAreEnough_46 : decode cX8_twoJumpsAreEnough 46 = .ok (.aload_n 0, 1) := by decide +kernel
theorem dX8_twoJumpsAreEnough_47 : decode cX8_twoJumpsAreEnough 47 = .ok (.invokevirtual 55, 3) := by decide +kernel
theorem dX8_twoJumpsAreEnough_50 : decode cX8_twoJumpsAreEnough 50 = .ok (.ifCond .eq 10, 3) := by decide +kernel
theorem dX8_twoJumpsAreEnough_53 : decode cX8_twoJumpsAreEnough 53 = .ok (.aload_n 0, 1) := by decide +kernel
theorem dX8_twoJumpsAreEnough_54 : decode cX8_twoJumpsAreEnough 54 = .ok (.iconst 2, 1) := by decide +kernel
theorem dX8_twoJumpsAreEnough_55 : decode cX8_twoJumpsAreEnough 55 = .ok (.putfield 51, 3) := by decide +kernel
theorem dX8_twoJumpsAreEnough_58 : decode cX8_twoJumpsAreEnough 58 = .ok (.iconst 1, 1) := by decide +kernel
theorem dX8_twoJumpsAreEnough_59 : decode cX8_twoJumpsAreEnough 59 = .ok (.ireturn, 1) := by decide +kernel
theorem dX8_twoJumpsAreEnough_60 : decode cX8_twoJumpsAreEnough 60 = .ok (.aload_n 0, 1) := by decide +kernel
theorem dX8_twoJumpsAreEnough_61 : decode cX8_twoJumpsAreEnough 61 = .ok (.getfield 9, 3) := by decide +kernel
theorem dX8_twoJumpsAreEnough_64 : decode cX8_twoJumpsAreEnough 64 = .ok (.aload_n 0, 1) := by decide +kernel
theorem dX8_twoJumpsAreEnough_65 : decode cX8_twoJumpsAreEnough 65 = .ok (.getfield 44, 3) := by decide +kernel
theorem dX8_twoJumpsAreEnough_68 : decode cX8_twoJumpsAreEnough 68 = .ok (.iload_n 2, 1) := by decide +kernel
theorem dX8_twoJumpsAreEnough_69 : decode cX8_twoJumpsAreEnough 69 = .ok (.iaload, 1) := by decide +kernel
theorem dX8_twoJumpsAreEnough_70 : decode cX8_twoJumpsAreEnough 70 = .ok (.iconst 0, 1) := by decide +kernel
theorem dX8_twoJumpsAreEnough_71 : decode cX8_twoJumpsAreEnough 71 = .ok (.bastore, 1) := by decide +kernel
theorem dX8_twoJumpsAreEnough_72 : decode cX8_twoJumpsAreEnough 72 = .ok (.iinc 2 1, 3) := by decide +kernel
theorem dX8_twoJumpsAreEnough_75 : decode cX8_twoJumpsAreEnough 75 = .ok (.goto (-49), 3) := by decide +kernel
theorem dX8_twoJumpsAreEnough_78 : decode cX8_twoJumpsAreEnough 78 = .ok (.aload_n 0, 1) := by decide +kernel
theorem dX8_twoJumpsAreEnough_79 : decode cX8_twoJumpsAreEnough 79 = .ok (.getfield 9, 3) := by decide +kernel
theorem dX8_twoJumpsAreEnough_82 : decode cX8_twoJumpsAreEnough 82 = .ok (.aload_n 0, 1) := by decide +kernel
theorem dX8_twoJumpsAreEnough_83 : decode cX8_twoJumpsAreEnough 83 = .ok (.getfield 44, 3) := by decide +kernel
theorem dX8_twoJumpsAreEnough_86 : decode cX8_twoJumpsAreEnough 86 = .ok (.iload_n 1, 1) := by decide +kernel
theorem dX8_twoJumpsAreEnough_87 : decode cX8_twoJumpsAreEnough 87 = .ok (.iaload, 1) := by decide +kernel
theorem dX8_twoJumpsAreEnough_88 : decode cX8_twoJumpsAreEnough 88 = .ok (.iconst 0, 1) := by decide +kernel
theorem dX8_twoJumpsAreEnough_89 : decode cX8_twoJumpsAreEnough 89 = .ok (.bastore, 1) := by decide +kernel
theorem dX8_twoJumpsAreEnough_90 : decode cX8_twoJumpsAreEnough 90 = .ok (.iinc 1 1, 3) := by decide +kernel
theorem dX8_twoJumpsAreEnough_93 : decode cX8_twoJumpsAreEnough 93 = .ok (.goto (-91), 3) := by decide +kernel
theorem dX8_twoJumpsAreEnough_96 : decode cX8_twoJumpsAreEnough 96 = .ok (.iconst 0, 1) := by decide +kernel
theorem dX8_twoJumpsAreEnough_97 : decode cX8_twoJumpsAreEnough 97 = .ok (.ireturn, 1) := by decide +kernel
theorem dX8_findAbove_0 : decode cX8_findAbove 0 = .ok (.iconst 0, 1) := by decide +kernel
theorem dX8_findAbove_1 : decode cX8_findAbove 1 = .ok (.istore_n 1, 1) := by decide +kernel
theorem dX8_findAbove_2 : decode cX8_findAbove 2 = .ok (.iload_n 1, 1) := by decide +kernel
theorem dX8_findAbove_3 : decode cX8_findAbove 3 = .ok (.aload_n 0, 1) := by decide +kernel
theorem dX8_findAbove_4 : decode cX8_findAbove 4 = .ok (.getfield 47, 3) := by decide +kernel
theorem dX8_findAbove_7 : decode cX8_findAbove 7 = .ok (.getfield 109, 3) := by decide +kernel
theorem dX8_findAbove_10 : decode cX8_findAbove 10 = .ok (.if_icmp .ge 85, 3) := by decide +kernel
theorem dX8_findAbove_13 : decode cX8_findAbove 13 = .ok (.aload_n 0, 1) := by decide +kernel
theorem dX8_findAbove_14 : decode cX8_findAbove 14 = .ok (.getfield 29, 3) := by decide +kernel
theorem dX8_findAbove_17 : decode cX8_findAbove 17 = .ok (.iload_n 1, 1) := by decide +kernel
theorem dX8_findAbove_18 : decode cX8_findAbove 18 = .ok (.iconst (-1), 1) := by decide +kernel
theorem dX8_findAbove_19 : decode cX8_findAbove 19 = .ok (.iastore, 1) := by decide +kernel
theorem dX8_findAbove_20 : decode cX8_findAbove 20 = .ok (.aload_n 0, 1) := by decide +kernel
theorem dX8_findAbove_21 : decode cX8_findAbove 21 = .ok (.getfield 25, 3) := by decide +kernel
theorem dX8_findAbove_24 : decode cX8_findAbove 24 = .ok (.iload_n 1, 1) := by decide +kernel
theorem dX8_findAbove_25 : decode cX8_findAbove 25 = .ok (.laload, 1) := by decide +kernel
theorem dX8_findAbove_26 : decode cX8_findAbove 26 = .ok (.invokestatic 120, 3) := by decide +kernel
theorem dX8_findAbove_29 : decode cX8_findAbove 29 = .ok (.iconst 1, 1) := by decide +kernel
theorem dX8_findAbove_30 : decode cX8_findAbove 30 = .ok (.isub, 1) := by decide +kernel
theorem dX8_findAbove_31 : decode cX8_findAbove 31 = .ok (.istore_n 2, 1) := by decide +kernel
theorem dX8_findAbove_32 : decode cX8_findAbove 32 = .ok (.iconst 0, 1) := by decide +kernel
theorem dX8_findAbove_33 : decode cX8_findAbove 33 = .ok (.istore_n 3, 1) := by decide +kernel
theorem dX8_findAbove_34 : decode cX8_findAbove 34 = .ok (.iload_n 3, 1) := by decide +kernel
theorem dX8_findAbove_35 : decode cX8_findAbove 35 = .ok (.aload_n 0, 1) := by decide +kernel
theorem dX8_findAbove_36 : decode cX8_findAbove 36 = .ok (.getfield 47, 3) := by decide +kernel
theorem dX8_findAbove_39 : decode cX8_findAbove 39 = .ok (.getfield 109, 3) := by decide +kernel
theorem dX8_findAbove_42 : decode cX8_findAbove 42 = .ok (.if_icmp .ge 47, 3) := by decide +kernel
theorem dX8_findAbove_45 : decode cX8_findAbove 45 = .ok (.iload_n 3, 1) := by decide +kernel
theorem dX8_findAbove_46 : decode cX8_findAbove 46 = .ok (.iload_n 1, 1) := by decide +kernel
theorem dX8_findAbove_47 : decode cX8_findAbove 47 = .ok (.if_icmp .eq 36, 3) := by decide +kernel
theorem dX8_findAbove_50 : decode cX8_findAbove 50 = .ok (.aload_n 0, 1) := by decide +kernel
theorem dX8_findAbove_51 : decode cX8_findAbove 51 = .ok (.getfield 25, 3) := by decide +kernel
theorem dX8_findAbove_54 : decode cX8_findAbove 54 = .ok (.iload_n 1, 1) := by decide +kernel
theorem dX8_findAbove_55 : decode cX8_findAbove 55 = .ok (.laload, 1) := by decide +kernel
theorem dX8_findAbove_56 : decode cX8_findAbove 56 = .ok (.iload_n 3, 1) := by decide +kernel
theorem dX8_findAbove_57 : decode cX8_findAbove 57 = .ok (.invokestatic 112, 3) := by decide +kernel
theorem dX8_findAbove_60 : decode cX8_findAbove 60 = .ok (.ifCond .eq 23, 3) := by decide +kernel
theorem dX8_findAbove_63 : decode cX8_findAbove 63 = .ok (.aload_n 0, 1) := by decide +kernel
theorem dX8_findAbove_64 : decode cX8_findAbove 64 = .ok (.getfield 25, 3) := by decide +kernel
theorem dX8_findAbove_67 : decode cX8_findAbove 67 = .ok (.iload_n 3, 1) := by decide +kernel
theorem dX8_findAbove_68 : decode cX8_findAbove 68 = .ok (.laload, 1) := by decide +kernel
theorem dX8_findAbove_69 : decode cX8_findAbove 69 = .ok (.invokestatic 120, 3) := by decide +kernel
theorem dX8_findAbove_72 : decode cX8_findAbove 72 = .ok (.iload_n 2, 1) := by decide +kernel
theorem dX8_findAbove_73 : decode cX8_findAbove 73 = .ok (.if_icmp .ne 10, 3) := by decide +kernel
theorem dX8_findAbove_76 : decode cX8_findAbove 76 = .ok (.aload_n 0, 1) := by decide +kernel
theorem dX8_findAbove_77 : decode cX8_findAbove 77 = .ok (.getfield 29, 3) := by decide +kernel
theorem dX8_findAbove_80 : decode cX8_findAbove 80 = .ok (.iload_n 1, 1) := by decide +kernel
theorem dX8_findAbove_81 : decode cX8_findAbove 81 = .ok (.iload_n 3, 1) := by decide +kernel
theorem dX8_findAbove_82 : decode cX8_findAbove 82 = .ok (.iastore, 1) := by decide +kernel
theorem dX8_findAbove_83 : decode cX8_findAbove 83 = .ok (.iinc 3 1, 3) := by decide +kernel
theorem dX8_findAbove_86 : decode cX8_findAbove 86 = .ok (.goto (-52), 3) := by decide +kernel
theorem dX8_findAbove_89 : decode cX8_findAbove 89 = .ok (.iinc 1 1, 3) := by decide +kernel
theorem dX8_findAbove_92 : decode cX8_findAbove 92 = .ok (.goto (-90), 3) := by decide +kernel
theorem dX8_findAbove_95 : decode cX8_findAbove 95 = .ok (.return_, 1) := by decide +kernel
theorem dX8_findLoops_0 : decode cX8_findLoops 0 = .ok (.aload_n 0, 1) := by decide +kernel
theorem dX8_findLoops_1 : decode cX8_findLoops 1 = .ok (.lconst 0, 1) := by decide +kernel
theorem dX8_findLoops_2 : decode cX8_findLoops 2 = .ok (.putfield 135, 3) := by decide +kernel
theorem dX8_findLoops_5 : decode cX8_findLoops 5 = .ok (.iconst 0, 1) := by decide +kernel
theorem dX8_findLoops_6 : decode cX8_findLoops 6 = .ok (.istore_n 1, 1) := by decide +kernel
theorem dX8_findLoops_7 : decode cX8_findLoops 7 = .ok (.iload_n 1, 1) := by decide +kernel
theorem dX8_findLoops_8 : decode cX8_findLoops 8 = .ok (.aload_n 0, 1) := by decide +kernel
theorem dX8_findLoops_9 : decode cX8_findLoops 9 = .ok (.getfield 47, 3) := by decide +kernel
theorem dX8_findLoops_12 : decode cX8_findLoops 12 = .ok (.getfield 109, 3) := by decide +kernel
theorem dX8_findLoops_15 : decode cX8_findLoops 15 = .ok (.if_icmp .ge 16, 3) := by decide +kernel
theorem dX8_findLoops_18 : decode cX8_findLoops 18 = .ok (.aload_n 0, 1) := by decide +kernel
theorem dX8_findLoops_19 : decode cX8_findLoops 19 = .ok (.getfield 32, 3) := by decide +kernel
theorem dX8_findLoops_22 : decode cX8_findLoops 22 = .ok (.iload_n 1, 1) := by decide +kernel
theorem dX8_findLoops_23 : decode cX8_findLoops 23 = .ok (.lconst 0, 1) := by decide +kernel
theorem dX8_findLoops_24 : decode cX8_findLoops 24 = .ok (.lastore, 1) := by decide +kernel
theorem dX8_findLoops_25 : decode cX8_findLoops 25 = .ok (.iinc 1 1, 3) := by decide +kernel
theorem dX8_findLoops_28 : decode cX8_findLoops 28 = .ok (.goto (-21), 3) := by decide +kernel
theorem dX8_findLoops_31 : decode cX8_findLoops 31 = .ok (.iconst 0, 1) := by decide +kernel
theorem dX8_findLoops_32 : decode cX8_findLoops 32 = .ok (.istore_n 1, 1) := by decide +kernel
theorem dX8_findLoops_33 : decode cX8_findLoops 33 = .ok (.iload_n 1, 1) := by decide +kernel
theorem dX8_findLoops_34 : decode cX8_findLoops 34 = .ok (.aload_n 0, 1) := by decide +kernel
theorem dX8_findLoops_35 : decode cX8_findLoops 35 = .ok (.getfield 47, 3) := by decide +kernel
theorem dX8_findLoops_38 : decode cX8_findLoops 38 = .ok (.getfield 75, 3) := by decide +kernel
theorem dX8_findLoops_41 : decode cX8_findLoops 41 = .ok (.if_icmp .ge 72, 3) := by decide +kernel
theorem dX8_findLoops_44 : decode cX8_findLoops 44 = .ok (.aload_n 0, 1) := by decide +kernel
theorem dX8_findLoops_45 : decode cX8_findLoops 45 = .ok (.getfield 15, 3) := by decide +kernel
theorem dX8_findLoops_48 : decode cX8_findLoops 48 = .ok (.iload_n 1, 1) := by decide +kernel
theorem dX8_findLoops_49 : decode cX8_findLoops 49 = .ok (.baload, 1) := by decide +kernel
theorem dX8_findLoops_50 : decode cX8_findLoops 50 = .ok (.ifCond .eq 57, 3) := by decide +kernel
theorem dX8_findLoops_53 : decode cX8_findLoops 53 = .ok (.aload_n 0, 1) := by decide +kernel
theorem dX8_findLoops_54 : decode cX8_findLoops 54 = .ok (.getfield 9, 3) := by decide +kernel
theorem dX8_findLoops_57 : decode cX8_findLoops 57 = .ok (.iload_n 1, 1) := by decide +kernel
theorem dX8_findLoops_58 : decode cX8_findLoops 58 = .ok (.baload, 1) := by decide +kernel
theorem dX8_findLoops_59 : decode cX8_findLoops 59 = .ok (.ifCond .ne 48, 3) := by decide +kernel
theorem dX8_findLoops_62 : decode cX8_findLoops 62 = .ok (.aload_n 0, 1) := by decide +kernel
theorem dX8_findLoops_63 : decode cX8_findLoops 63 = .ok (.getfield 47, 3) := by decide +kernel
theorem dX8_findLoops_66 : decode cX8_findLoops 66 = .ok (.getfield 99, 3) := by decide +kernel
theorem dX8_findLoops_69 : decode cX8_findLoops 69 = .ok (.iload_n 1, 1) := by decide +kernel
theorem dX8_findLoops_70 : decode cX8_findLoops 70 = .ok (.iaload, 1) := by decide +kernel
theorem dX8_findLoops_71 : decode cX8_findLoops 71 = .ok (.istore_n 2, 1) := by decide +kernel
theorem dX8_findLoops_72 : decode cX8_findLoops 72 = .ok (.aload_n 0, 1) := by decide +kernel
theorem dX8_findLoops_73 : decode cX8_findLoops 73 = .ok (.dup, 1) := by decide +kernel
theorem dX8_findLoops_74 : decode cX8_findLoops 74 = .ok (.getfield 135, 3) := by decide +kernel
theorem dX8_findLoops_77 : decode cX8_findLoops 77 = .ok (.lconst 1, 1) := by decide +kernel
theorem dX8_findLoops_78 : decode cX8_findLoops 78 = .ok (.iload_n 2, 1) := by decide +kernel
theorem dX8_findLoops_79 : decode cX8_findLoops 79 = .ok (.lshl, 1) := by decide +kernel
theorem dX8_findLoops_80 : decode cX8_findLoops 80 = .ok (.lor, 1) := by decide +kernel
theorem dX8_findLoops_81 : decode cX8_findLoops 81 = .ok (.putfield 135, 3) := by decide +kernel
theorem dX8_findLoops_84 : decode cX8_findLoops 84 = .ok (.aload_n 0, 1) := by decide +kernel
theorem dX8_findLoops_85 : decode cX8_findLoops 85 = .ok (.getfield 32, 3) := by decide +kernel
theorem dX8_findLoops_88 : decode cX8_findLoops 88 = .ok (.iload_n 2, 1) := by decide +kernel
theorem dX8_findLoops_89 : decode cX8_findLoops 89 = .ok (.dup2, 1) := by decide +kernel
theorem dX8_findLoops_90 : decode cX8_findLoops 90 = .ok (.laload, 1) := by decide +kernel
theorem dX8_findLoops_91 : decode cX8_findLoops 91 = .ok (.aload_n 0, 1) := by decide +kernel
theorem dX8_findLoops_92 : decode cX8_findLoops 92 = .ok (.iload_n 2, 1) := by decide +kernel
theorem dX8_findLoops_93 : decode cX8_findLoops 93 = .ok (.aload_n 0, 1) := by decide +kernel
theorem dX8_findLoops_94 : decode cX8_findLoops 94 = .ok (.getfield 47, 3) := by decide +kernel
theorem dX8_findLoops_97 : decode cX8_findLoops 97 = .ok (.getfield 102, 3) := by decide +kernel
theorem dX8_findLoops_100 : decode cX8_findLoops 100 = .ok (.iload_n 1, 1) := by decide +kernel
theorem dX8_findLoops_101 : decode cX8_findLoops 101 = .ok (.iaload, 1) := by decide +kernel
theorem dX8_findLoops_102 : decode cX8_findLoops 102 = .ok (.invokevirtual 139, 3) := by decide +kernel
theorem dX8_findLoops_105 : decode cX8_findLoops 105 = .ok (.lor, 1) := by decide +kernel
theorem dX8_findLoops_106 : decode cX8_findLoops 106 = .ok (.lastore, 1) := by decide +kernel
theorem dX8_findLoops_107 : decode cX8_findLoops 107 = .ok (.iinc 1 1, 3) := by decide +kernel
theorem dX8_findLoops_110 : decode cX8_findLoops 110 = .ok (.goto (-77), 3) := by decide +kernel
theorem dX8_findLoops_113 : decode cX8_findLoops 113 = .ok (.return_, 1) := by decide +kernel
theorem dX8_comingBack_0 : decode cX8_comingBack 0 = .ok (.lconst 1, 1) := by decide +kernel
theorem dX8_comingBack_1 : decode cX8_comingBack 1 = .ok (.iload_n 1, 1) := by decide +kernel
theorem dX8_comingBack_2 : decode cX8_comingBack 2 = .ok (.lshl, 1) := by decide +kernel
theorem dX8_comingBack_3 : decode cX8_comingBack 3 = .ok (.lconst 1, 1) := by decide +kernel
theorem dX8_comingBack_4 : decode cX8_comingBack 4 = .ok (.iload_n 2, 1) := by decide +kernel
theorem dX8_comingBack_5 : decode cX8_comingBack 5 = .ok (.lshl, 1) := by decide +kernel
theorem dX8_comingBack_6 : decode cX8_comingBack 6 = .ok (.lor, 1) := by decide +kernel
theorem dX8_comingBack_7 : decode cX8_comingBack 7 = .ok (.lstore_n 3, 1) := by decide +kernel
theorem dX8_comingBack_8 : decode cX8_comingBack 8 = .ok (.lconst 0, 1) := by decide +kernel
theorem dX8_comingBack_9 : decode cX8_comingBack 9 = .ok (.lstore 5, 2) := by decide +kernel
theorem dX8_comingBack_11 : decode cX8_comingBack 11 = .ok (.iconst 0, 1) := by decide +kernel
theorem dX8_comingBack_12 : decode cX8_comingBack 12 = .ok (.istore 7, 2) := by decide +kernel
theorem dX8_comingBack_14 : decode cX8_comingBack 14 = .ok (.iload 7, 2) := by decide +kernel
theorem dX8_comingBack_16 : decode cX8_comingBack 16 = .ok (.aload_n 0, 1) := by decide +kernel
theorem dX8_comingBack_17 : decode cX8_comingBack 17 = .ok (.getfield 47, 3) := by decide +kernel
theorem dX8_comingBack_20 : decode cX8_comingBack 20 = .ok (.getfield 109, 3) := by decide +kernel
theorem dX8_comingBack_23 : decode cX8_comingBack 23 = .ok (.if_icmp .gt 65, 3) := by decide +kernel
theorem dX8_comingBack_26 : decode cX8_comingBack 26 = .ok (.lload 5, 2) := by decide +kernel
theorem dX8_comingBack_28 : decode cX8_comingBack 28 = .ok (.lload_n 3, 1) := by decide +kernel
theorem dX8_comingBack_29 : decode cX8_comingBack 29 = .ok (.lcmp, 1) := by decide +kernel
theorem dX8_comingBack_30 : decode cX8_comingBack 30 = .ok (.ifCond .eq 58, 3) := by decide +kernel
theorem dX8_comingBack_33 : decode cX8_comingBack 33 = .ok (.lload_n 3, 1) := by decide +kernel
theorem dX8_comingBack_34 : decode cX8_comingBack 34 = .ok (.lstore 5, 2) := by decide +kernel
theorem dX8_comingBack_36 : decode cX8_comingBack 36 = .ok (.iconst 0, 1) := by decide +kernel
theorem dX8_comingBack_37 : decode cX8_comingBack 37 = .ok (.istore 8, 2) := by decide +kernel
theorem dX8_comingBack_39 : decode cX8_comingBack 39 = .ok (.iload 8, 2) := by decide +kernel
theorem dX8_comingBack_41 : decode cX8_comingBack 41 = .ok (.aload_n 0, 1) := by decide +kernel
theorem dX8_comingBack_42 : decode cX8_comingBack 42 = .ok (.getfield 47, 3) := by decide +kernel
theorem dX8_comingBack_45 : decode cX8_comingBack 45 = .ok (.getfield 109, 3) := by decide +kernel
theorem dX8_comingBack_48 : decode cX8_comingBack 48 = .ok (.if_icmp .ge 34, 3) := by decide +kernel
theorem dX8_comingBack_51 : decode cX8_comingBack 51 = .ok (.iload 8, 2) := by decide +kernel
theorem dX8_comingBack_53 : decode cX8_comingBack 53 = .ok (.iload_n 1, 1) := by decide +kernel
theorem dX8_comingBack_54 : decode cX8_comingBack 54 = .ok (.if_icmp .eq 22, 3) := by decide +kernel
theorem dX8_comingBack_57 : decode cX8_comingBack 57 = .ok (.lload_n 3, 1) := by decide +kernel
theorem dX8_comingBack_58 : decode cX8_comingBack 58 = .ok (.iload 8, 2) := by decide +kernel
theorem dX8_comingBack_60 : decode cX8_comingBack 60 = .ok (.invokestatic 112, 3) := by decide +kernel
theorem dX8_comingBack_63 : decode cX8_comingBack 63 = .ok (.ifCond .eq 13, 3) := by decide +kernel
theorem dX8_comingBack_66 : decode cX8_comingBack 66 = .ok (.lload_n 3, 1) := by decide +kernel
theorem dX8_comingBack_67 : decode cX8_comingBack 67 = .ok (.aload_n 0, 1) := by decide +kernel
theorem dX8_comingBack_68 : decode cX8_comingBack 68 = .ok (.getfield 35, 3) := by decide +kernel
theorem dX8_comingBack_71 : decode cX8_comingBack 71 = .ok (.iload 8, 2) := by decide +kernel
theorem dX8_comingBack_73 : decode cX8_comingBack 73 = .ok (.laload, 1) := by decide +kernel
theorem dX8_comingBack_74 : decode cX8_comingBack 74 = .ok (.lor, 1) := by decide +kernel
theorem dX8_comingBack_75 : decode cX8_comingBack 75 = .ok (.lstore_n 3, 1) := by decide +kernel
theorem dX8_comingBack_76 : decode cX8_comingBack 76 = .ok (.iinc 8 1, 3) := by decide +kernel
theorem dX8_comingBack_79 : decode cX8_comingBack 79 = .ok (.goto (-40), 3) := by decide +kernel
theorem dX8_comingBack_82 : decode cX8_comingBack 82 = .ok (.iinc 7 1, 3) := by decide +kernel
theorem dX8_comingBack_85 : decode cX8_comingBack 85 = .ok (.goto (-71), 3) := by decide +kernel
theorem dX8_comingBack_88 : decode cX8_comingBack 88 = .ok (.lload_n 3, 1) := by decide +kernel
theorem dX8_comingBack_89 : decode cX8_comingBack 89 = .ok (.lreturn, 1) := by decide +kernel
theorem dX8_findMerges_0 : decode cX8_findMerges 0 = .ok (.lconst 0, 1) := by decide +kernel
theorem dX8_findMerges_1 : decode cX8_findMerges 1 = .ok (.lstore_n 1, 1) := by decide +kernel
theorem dX8_findMerges_2 : decode cX8_findMerges 2 = .ok (.aload_n 0, 1) := by decide +kernel
theorem dX8_findMerges_3 : decode cX8_findMerges 3 = .ok (.lconst 0, 1) := by decide +kernel
theorem dX8_findMerges_4 : decode cX8_findMerges 4 = .ok (.putfield 143, 3) := by decide +kernel
theorem dX8_findMerges_7 : decode cX8_findMerges 7 = .ok (.iconst 0, 1) := by decide +kernel
theorem dX8_findMerges_8 : decode cX8_findMerges 8 = .ok (.istore_n 3, 1) := by decide +kernel
theorem dX8_findMerges_9 : decode cX8_findMerges 9 = .ok (.iload_n 3, 1) := by decide +kernel
theorem dX8_findMerges_10 : decode cX8_findMerges 10 = .ok (.aload_n 0, 1) := by decide +kernel
theorem dX8_findMerges_11 : decode cX8_findMerges 11 = .ok (.getfield 47, 3) := by decide +kernel
theorem dX8_findMerges_14 : decode cX8_findMerges 14 = .ok (.getfield 75, 3) := by decide +kernel
theorem dX8_findMerges_17 : decode cX8_findMerges 17 = .ok (.if_icmp .ge 81, 3) := by decide +kernel
theorem dX8_findMerges_20 : decode cX8_findMerges 20 = .ok (.lconst 1, 1) := by decide +kernel
theorem dX8_findMerges_21 : decode cX8_findMerges 21 = .ok (.aload_n 0, 1) := by decide +kernel
theorem dX8_findMerges_22 : decode cX8_findMerges 22 = .ok (.getfield 47, 3) := by decide +kernel
theorem dX8_findMerges_25 : decode cX8_findMerges 25 = .ok (.getfield 99, 3) := by decide +kernel
theorem dX8_findMerges_28 : decode cX8_findMerges 28 = .ok (.iload_n 3, 1) := by decide +kernel
theorem dX8_findMerges_29 : decode cX8_findMerges 29 = .ok (.iaload, 1) := by decide +kernel
theorem dX8_findMerges_30 : decode cX8_findMerges 30 = .ok (.lshl, 1) := by decide +kernel
theorem dX8_findMerges_31 : decode cX8_findMerges 31 = .ok (.lstore 4, 2) := by decide +kernel
theorem dX8_findMerges_33 : decode cX8_findMerges 33 = .ok (.aload_n 0, 1) := by decide +kernel
theorem dX8_findMerges_34 : decode cX8_findMerges 34 = .ok (.getfield 47, 3) := by decide +kernel
theorem dX8_findMerges_37 : decode cX8_findMerges 37 = .ok (.getfield 132, 3) := by decide +kernel
theorem dX8_findMerges_40 : decode cX8_findMerges 40 = .ok (.iload_n 3, 1) := by decide +kernel
theorem dX8_findMerges_41 : decode cX8_findMerges 41 = .ok (.baload, 1) := by decide +kernel
theorem dX8_findMerges_42 : decode cX8_findMerges 42 = .ok (.ifCond .eq 14, 3) := by decide +kernel
theorem dX8_findMerges_45 : decode cX8_findMerges 45 = .ok (.aload_n 0, 1) := by decide +kernel
theorem dX8_findMerges_46 : decode cX8_findMerges 46 = .ok (.dup, 1) := by decide +kernel
theorem dX8_findMerges_47 : decode cX8_findMerges 47 = .ok (.getfield 143, 3) := by decide +kernel
theorem dX8_findMerges_50 : decode cX8_findMerges 50 = .ok (.lload 4, 2) := by decide +kernel
theorem dX8_findMerges_52 : decode cX8_findMerges 52 = .ok (.lor, 1) := by decide +kernel
theorem dX8_findMerges_53 : decode cX8_findMerges 53 = .ok (.putfield 143, 3) := by decide +kernel
theorem dX8_findMerges_56 : decode cX8_findMerges 56 = .ok (.aload_n 0, 1) := by decide +kernel
theorem dX8_findMerges_57 : decode cX8_findMerges 57 = .ok (.getfield 9, 3) := by decide +kernel
theorem dX8_findMerges_60 : decode cX8_findMerges 60 = .ok (.iload_n 3, 1) := by decide +kernel
theorem dX8_findMerges_61 : decode cX8_findMerges 61 = .ok (.baload, 1) := by decide +kernel
theorem dX8_findMerges_62 : decode cX8_findMerges 62 = .ok (.ifCond .ne 30, 3) := by decide +kernel
theorem dX8_findMerges_65 : decode cX8_findMerges 65 = .ok (.aload_n 0, 1) := by decide +kernel
theorem dX8_findMerges_66 : decode cX8_findMerges 66 = .ok (.getfield 15, 3) := by decide +kernel
theorem dX8_findMerges_69 : decode cX8_findMerges 69 = .ok (.iload_n 3, 1) := by decide +kernel
theorem dX8_findMerges_70 : decode cX8_findMerges 70 = .ok (.baload, 1) := by decide +kernel
theorem dX8_findMerges_71 : decode cX8_findMerges 71 = .ok (.ifCond .ne 21, 3) := by decide +kernel
theorem dX8_findMerges_74 : decode cX8_findMerges 74 = .ok (.aload_n 0, 1) := by decide +kernel
theorem dX8_findMerges_75 : decode cX8_findMerges 75 = .ok (.dup, 1) := by decide +kernel
theorem dX8_findMerges_76 : decode cX8_findMerges 76 = .ok (.getfield 143, 3) := by decide +kernel
theorem dX8_findMerges_79 : decode cX8_findMerges 79 = .ok (.lload_n 1, 1) := by decide +kernel
theorem dX8_findMerges_80 : decode cX8_findMerges 80 = .ok (.lload 4, 2) := by decide +kernel
theorem dX8_findMerges_82 : decode cX8_findMerges 82 = .ok (.land, 1) := by decide +kernel
theorem dX8_findMerges_83 : decode cX8_findMerges 83 = .ok (.lor, 1) := by decide +kernel
theorem dX8_findMerges_84 : decode cX8_findMerges 84 = .ok (.putfield 143, 3) := by decide +kernel
theorem dX8_findMerges_87 : decode cX8_findMerges 87 = .ok (.lload_n 1, 1) := by decide +kernel
theorem dX8_findMerges_88 : decode cX8_findMerges 88 = .ok (.lload 4, 2) := by decide +kernel
theorem dX8_findMerges_90 : decode cX8_findMerges 90 = .ok (.lor, 1) := by decide +kernel
theorem dX8_findMerges_91 : decode cX8_findMerges 91 = .ok (.lstore_n 1, 1) := by decide +kernel
theorem dX8_findMerges_92 : decode cX8_findMerges 92 = .ok (.iinc 3 1, 3) := by decide +kernel
theorem dX8_findMerges_95 : decode cX8_findMerges 95 = .ok (.goto (-86), 3) := by decide +kernel
theorem dX8_findMerges_98 : decode cX8_findMerges 98 = .ok (.return_, 1) := by decide +kernel
theorem dX8_innermost_0 : decode cX8_innermost 0 = .ok (.iconst (-1), 1) := by decide +kernel
theorem dX8_innermost_1 : decode cX8_innermost 1 = .ok (.istore_n 2, 1) := by decide +kernel
theorem dX8_innermost_2 : decode cX8_innermost 2 = .ok (.iconst 0, 1) := by decide +kernel
theorem dX8_innermost_3 : decode cX8_innermost 3 = .ok (.istore_n 3, 1) := by decide +kernel
theorem dX8_innermost_4 : decode cX8_innermost 4 = .ok (.iload_n 3, 1) := by decide +kernel
theorem dX8_innermost_5 : decode cX8_innermost 5 = .ok (.aload_n 0, 1) := by decide +kernel
theorem dX8_innermost_6 : decode cX8_innermost 6 = .ok (.getfield 47, 3) := by decide +kernel
theorem dX8_innermost_9 : decode cX8_innermost 9 = .ok (.getfield 109, 3) := by decide +kernel
theorem dX8_innermost_12 : decode cX8_innermost 12 = .ok (.if_icmp .ge 54, 3) := by decide +kernel
theorem dX8_innermost_15 : decode cX8_innermost 15 = .ok (.aload_n 0, 1) := by decide +kernel
theorem dX8_innermost_16 : decode cX8_innermost 16 = .ok (.getfield 32, 3) := by decide +kernel
theorem dX8_innermost_19 : decode cX8_innermost 19 = .ok (.iload_n 3, 1) := by decide +kernel
theorem dX8_innermost_20 : decode cX8_innermost 20 = .ok (.laload, 1) := by decide +kernel
theorem dX8_innermost_21 : decode cX8_innermost 21 = .ok (.iload_n 1, 1) := by decide +kernel
theorem dX8_innermost_22 : decode cX8_innermost 22 = .ok (.invokestatic 112, 3) := by decide +kernel
theorem dX8_innermost_25 : decode cX8_innermost 25 = .ok (.istore 4, 2) := by decide +kernel
theorem dX8_innermost_27 : decode cX8_innermost 27 = .ok (.iload 4, 2) := by decide +kernel
theorem dX8_innermost_29 : decode cX8_innermost 29 = .ok (.ifCond .eq 31, 3) := by decide +kernel
theorem dX8_innermost_32 : decode cX8_innermost 32 = .ok (.iload_n 2, 1) := by decide +kernel
theorem dX8_innermost_33 : decode cX8_innermost 33 = .ok (.iconst (-1), 1) := by decide +kernel
theorem dX8_innermost_34 : decode cX8_innermost 34 = .ok (.if_icmp .eq 24, 3) := by decide +kernel
theorem dX8_innermost_37 : decode cX8_innermost 37 = .ok (.aload_n 0, 1) := by decide +kernel
theorem dX8_innermost_38 : decode cX8_innermost 38 = .ok (.getfield 32, 3) := by decide +kernel
theorem dX8_innermost_41 : decode cX8_innermost 41 = .ok (.iload_n 3, 1) := by decide +kernel
theorem dX8_innermost_42 : decode cX8_innermost 42 = .ok (.laload, 1) := by decide +kernel
theorem dX8_innermost_43 : decode cX8_innermost 43 = .ok (.invokestatic 120, 3) := by decide +kernel
theorem dX8_innermost_46 : decode cX8_innermost 46 = .ok (.aload_n 0, 1) := by decide +kernel
theorem dX8_innermost_47 : decode cX8_innermost 47 = .ok (.getfield 32, 3) := by decide +kernel
theorem dX8_innermost_50 : decode cX8_innermost 50 = .ok (.iload_n 2, 1) := by decide +kernel
theorem dX8_innermost_51 : decode cX8_innermost 51 = .ok (.laload, 1) := by decide +kernel
theorem dX8_innermost_52 : decode cX8_innermost 52 = .ok (.invokestatic 120, 3) := by decide +kernel
theorem dX8_innermost_55 : decode cX8_innermost 55 = .ok (.if_icmp .ge 5, 3) := by decide +kernel
theorem dX8_innermost_58 : decode cX8_innermost 58 = .ok (.iload_n 3, 1) := by decide +kernel
theorem dX8_innermost_59 : decode cX8_innermost 59 = .ok (.istore_n 2, 1) := by decide +kernel
theorem dX8_innermost_60 : decode cX8_innermost 60 = .ok (.iinc 3 1, 3) := by decide +kernel
theorem dX8_innermost_63 : decode cX8_innermost 63 = .ok (.goto (-59), 3) := by decide +kernel
theorem dX8_innermost_66 : decode cX8_innermost 66 = .ok (.iload_n 2, 1) := by decide +kernel
theorem dX8_innermost_67 : decode cX8_innermost 67 = .ok (.ireturn, 1) := by decide +kernel
theorem dX8_loopsRound_0 : decode cX8_loopsRound 0 = .ok (.iconst 0, 1) := by decide +kernel
theorem dX8_loopsRound_1 : decode cX8_loopsRound 1 = .ok (.istore_n 2, 1) := by decide +kernel
theorem dX8_loopsRound_2 : decode cX8_loopsRound 2 = .ok (.iconst 0, 1) := by decide +kernel
theorem dX8_loopsRound_3 : decode cX8_loopsRound 3 = .ok (.istore_n 3, 1) := by decide +kernel
theorem dX8_loopsRound_4 : decode cX8_loopsRound 4 = .ok (.iload_n 3, 1) := by decide +kernel
theorem dX8_loopsRound_5 : decode cX8_loopsRound 5 = .ok (.aload_n 0, 1) := by decide +kernel
theorem dX8_loopsRound_6 : decode cX8_loopsRound 6 = .ok (.getfield 47, 3) := by decide +kernel
theorem dX8_loopsRound_9 : decode cX8_loopsRound 9 = .ok (.getfield 109, 3) := by decide +kernel
theorem dX8_loopsRound_12 : decode cX8_loopsRound 12 = .ok (.if_icmp .ge 25, 3) := by decide +kernel
theorem dX8_loopsRound_15 : decode cX8_loopsRound 15 = .ok (.aload_n 0, 1) := by decide +kernel
theorem dX8_loopsRound_16 : decode cX8_loopsRound 16 = .ok (.getfield 32, 3) := by decide +kernel
theorem dX8_loopsRound_19 : decode cX8_loopsRound 19 = .ok (.iload_n 3, 1) := by decide +kernel
theorem dX8_loopsRound_20 : decode cX8_loopsRound 20 = .ok (.laload, 1) := by decide +kernel
theorem dX8_loopsRound_21 : decode cX8_loopsRound 21 = .ok (.iload_n 1, 1) := by decide +kernel
theorem dX8_loopsRound_22 : decode cX8_loopsRound 22 = .ok (.invokestatic 112, 3) := by decide +kernel
theorem dX8_loopsRound_25 : decode cX8_loopsRound 25 = .ok (.ifCond .eq 6, 3) := by decide +kernel
theorem dX8_loopsRound_28 : decode cX8_loopsRound 28 = .ok (.iinc 2 1, 3) := by decide +kernel
theorem dX8_loopsRound_31 : decode cX8_loopsRound 31 = .ok (.iinc 3 1, 3) := by decide +kernel
theorem dX8_loopsRound_34 : decode cX8_loopsRound 34 = .ok (.goto (-30), 3) := by decide +kernel
theorem dX8_loopsRound_37 : decode cX8_loopsRound 37 = .ok (.iload_n 2, 1) := by decide +kernel
theorem dX8_loopsRound_38 : decode cX8_loopsRound 38 = .ok (.ireturn, 1) := by decide +kernel
theorem dX8_mostLoops_0 : decode cX8_mostLoops 0 = .ok (.iconst 0, 1) := by decide +kernel
theorem dX8_mostLoops_1 : decode cX8_mostLoops 1 = .ok (.istore_n 1, 1) := by decide +kernel
theorem dX8_mostLoops_2 : decode cX8_mostLoops 2 = .ok (.iconst 0, 1) := by decide +kernel
theorem dX8_mostLoops_3 : decode cX8_mostLoops 3 = .ok (.istore_n 2, 1) := by decide +kernel
theorem dX8_mostLoops_4 : decode cX8_mostLoops 4 = .ok (.iload_n 2, 1) := by decide +kernel
theorem dX8_mostLoops_5 : decode cX8_mostLoops 5 = .ok (.aload_n 0, 1) := by decide +kernel
theorem dX8_mostLoops_6 : decode cX8_mostLoops 6 = .ok (.getfield 47, 3) := by decide +kernel
theorem dX8_mostLoops_9 : decode cX8_mostLoops 9 = .ok (.getfield 109, 3) := by decide +kernel
theorem dX8_mostLoops_12 : decode cX8_mostLoops 12 = .ok (.if_icmp .ge 19, 3) := by decide +kernel
theorem dX8_mostLoops_15 : decode cX8_mostLoops 15 = .ok (.iload_n 1, 1) := by decide +kernel
theorem dX8_mostLoops_16 : decode cX8_mostLoops 16 = .ok (.aload_n 0, 1) := by decide +kernel
theorem dX8_mostLoops_17 : decode cX8_mostLoops 17 = .ok (.iload_n 2, 1) := by decide +kernel
theorem dX8_mostLoops_18 : decode cX8_mostLoops 18 = .ok (.invokevirtual 146, 3) := by decide +kernel
theorem dX8_mostLoops_21 : decode cX8_mostLoops 21 = .ok (.invokestatic 150, 3) := by decide +kernel
theorem dX8_mostLoops_24 : decode cX8_mostLoops 24 = .ok (.istore_n 1, 1) := by decide +kernel
theorem dX8_mostLoops_25 : decode cX8_mostLoops 25 = .ok (.iinc 2 1, 3) := by decide +kernel
theorem dX8_mostLoops_28 : decode cX8_mostLoops 28 = .ok (.goto (-24), 3) := by decide +kernel
theorem dX8_mostLoops_31 : decode cX8_mostLoops 31 = .ok (.iload_n 1, 1) := by decide +kernel
theorem dX8_mostLoops_32 : decode cX8_mostLoops 32 = .ok (.ireturn, 1) := by decide +kernel
theorem dX9_init_0 : decode cX9_init 0 = .ok (.aload_n 0, 1) := by decide +kernel
theorem dX9_init_1 : decode cX9_init 1 = .ok (.invokespecial 3, 3) := by decide +kernel
theorem dX9_init_4 : decode cX9_init 4 = .ok (.aload_n 0, 1) := by decide +kernel
theorem dX9_init_5 : decode cX9_init 5 = .ok (.sipush 240, 3) := by decide +kernel
theorem dX9_init_8 : decode cX9_init 8 = .ok (.newarray .byte, 2) := by decide +kernel
theorem dX9_init_10 : decode cX9_init 10 = .ok (.putfield 9, 3) := by decide +kernel
theorem dX9_init_13 : decode cX9_init 13 = .ok (.return_, 1) := by decide +kernel
theorem dX9_append_0 : decode cX9_append 0 = .ok (.bipush 24, 2) := by decide +kernel
theorem dX9_append_2 : decode cX9_append 2 = .ok (.istore_n 2, 1) := by decide +kernel
theorem dX9_append_3 : decode cX9_append 3 = .ok (.iload_n 2, 1) := by decide +kernel
theorem dX9_append_4 : decode cX9_append 4 = .ok (.ifCond .lt 52, 3) := by decide +kernel
theorem dX9_append_7 : decode cX9_append 7 = .ok (.iload_n 1, 1) := by decide +kernel
theorem dX9_append_8 : decode cX9_append 8 = .ok (.iload_n 2, 1) := by decide +kernel
theorem dX9_append_9 : decode cX9_append 9 = .ok (.iushr, 1) := by decide +kernel
theorem dX9_append_10 : decode cX9_append 10 = .ok (.sipush 255, 3) := by decide +kernel
theorem dX9_append_13 : decode cX9_append 13 = .ok (.iand, 1) := by decide +kernel
theorem dX9_append_14 : decode cX9_append 14 = .ok (.istore_n 3, 1) := by decide +kernel
theorem dX9_append_15 : decode cX9_append 15 = .ok (.iload_n 3, 1) := by decide +kernel
theorem dX9_append_16 : decode cX9_append 16 = .ok (.ifCond .eq 34, 3) := by decide +kernel
theorem dX9_append_19 : decode cX9_append 19 = .ok (.aload_n 0, 1) := by decide +kernel
