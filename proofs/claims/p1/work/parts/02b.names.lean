set_option maxRecDepth 20000 in
theorem ggX12_line__X12_isLine : GoodIn wsX12_line_ wsX12_isLine := goodIn_r _ [11, 12, 13, 14, 15, 16, 10, 17, 18, 19, 20, 21, 22, 23, 24, 25, 26, 27, 28, 29, 30, 31, 32, 33, 34, 35, 36, 37, 38, 39, 40, 41, 42, 43, 44, 45, 46, 47, 48, 49, 50, 51, 52, 53, 54, 55, 56, 57, 58, 59, 60, 61, 62, 63, 64, 65, 66, 67, 68, 69, 70, 71, 72, 73, 74, 75, 76, 77, 78, 79, 80, 81, 82, 83, 84, 85, 86, 87, 88, 89, 90, 91, 92, 93, 94, 95, 96, 97, 98, 99, 100, 101, 102, 103, 104] (by decide +kernel) (by decide +kernel)
set_option maxRecDepth 20000 in
theorem gX12_line__X12_isLine : GoodIn wsX12_line_ (wsV RX12 603 RX12 yX12_isLine wsX12_isLine) := goodIn_app (goodIn_of _ (by decide +kernel)) ggX12_line__X12_isLine
set_option maxRecDepth 20000 in
theorem ggX12_line__X12_isIn : GoodIn wsX12_line_ wsX12_isIn := goodIn_r _ [17] (by decide +kernel) (by decide +kernel)
set_option maxRecDepth 20000 in
theorem gX12_line__X12_isIn : GoodIn wsX12_line_ (va_wsS RX12 312 yX12_isIn wsX12_isIn) := goodIn_app (goodIn_of _ (by decide +kernel)) ggX12_line__X12_isIn
theorem dX12_line__0 : decode cX12_line_ 0 = .ok (.aload_n 0, 1) := by decide +kernel
theorem dX12_line__1 : decode cX12_line_ 1 = .ok (.iconst 0, 1) := by decide +kernel
theorem dX12_line__2 : decode cX12_line_ 2 = .ok (.putfield 169, 3) := by decide +kernel
theorem dX12_line__5 : decode cX12_line_ 5 = .ok (.aload_n 0, 1) := by decide +kernel
theorem dX12_line__6 : decode cX12_line_ 6 = .ok (.iload_n 1, 1) := by decide +kernel
theorem dX12_line__7 : decode cX12_line_ 7 = .ok (.invokevirtual 603, 3) := by decide +kernel
theorem dX12_line__10 : decode cX12_line_ 10 = .ok (.ifCond .eq 15, 3) := by decide +kernel
theorem dX12_line__13 : decode cX12_line_ 13 = .ok (.iload_n 2, 1) := by decide +kernel
theorem dX12_line__14 : decode cX12_line_ 14 = .ok (.i2l, 1) := by decide +kernel
theorem dX12_line__15 : decode cX12_line_ 15 = .ok (.lconst 0, 1) := by decide +kernel
theorem dX12_line__16 : decode cX12_line_ 16 = .ok (.ldc2_w 612, 3) := by decide +kernel
theorem dX12_line__19 : decode cX12_line_ 19 = .ok (.invokestatic 312, 3) := by decide +kernel
theorem dX12_line__22 : decode cX12_line_ 22 = .ok (.ifCond .ne 7, 3) := by decide +kernel
theorem dX12_line__25 : decode cX12_line_ 25 = .ok (.ldc_w 614, 3) := by decide +kernel
theorem dX12_line__28 : decode cX12_line_ 28 = .ok (.ireturn, 1) := by decide +kernel
theorem dX12_line__29 : decode cX12_line_ 29 = .ok (.iload_n 2, 1) := by decide +kernel
theorem dX12_line__30 : decode cX12_line_ 30 = .ok (.ifCond .ne 12, 3) := by decide +kernel
theorem dX12_line__33 : decode cX12_line_ 33 = .ok (.aload_n 0, 1) := by decide +kernel
theorem dX12_line__34 : decode cX12_line_ 34 = .ok (.getfield 133, 3) := by decide +kernel
theorem dX12_line__37 : decode cX12_line_ 37 = .ok (.iload_n 1, 1) := by decide +kernel
theorem dX12_line__38 : decode cX12_line_ 38 = .ok (.iaload, 1) := by decide +kernel
theorem dX12_line__39 : decode cX12_line_ 39 = .ok (.goto 23, 3) := by decide +kernel
theorem dX12_line__42 : decode cX12_line_ 42 = .ok (.iload_n 2, 1) := by decide +kernel
theorem dX12_line__43 : decode cX12_line_ 43 = .ok (.iconst 1, 1) := by decide +kernel
theorem dX12_line__44 : decode cX12_line_ 44 = .ok (.if_icmp .ne 12, 3) := by decide +kernel
theorem dX12_line__47 : decode cX12_line_ 47 = .ok (.aload_n 0, 1) := by decide +kernel
theorem dX12_line__48 : decode cX12_line_ 48 = .ok (.getfield 136, 3) := by decide +kernel
theorem dX12_line__51 : decode cX12_line_ 51 = .ok (.iload_n 1, 1) := by decide +kernel
theorem dX12_line__52 : decode cX12_line_ 52 = .ok (.iaload, 1) := by decide +kernel
theorem dX12_line__53 : decode cX12_line_ 53 = .ok (.goto 9, 3) := by decide +kernel
theorem dX12_line__56 : decode cX12_line_ 56 = .ok (.aload_n 0, 1) := by decide +kernel
theorem dX12_line__57 : decode cX12_line_ 57 = .ok (.getfield 139, 3) := by decide +kernel
theorem dX12_line__60 : decode cX12_line_ 60 = .ok (.iload_n 1, 1) := by decide +kernel
theorem dX12_line__61 : decode cX12_line_ 61 = .ok (.iaload, 1) := by decide +kernel
theorem dX12_line__62 : decode cX12_line_ 62 = .ok (.ireturn, 1) := by decide +kernel
set_option maxRecDepth 20000 in
theorem ggX12_instruction__X12_isIn : GoodIn wsX12_instruction_ wsX12_isIn := goodIn_r _ [15] (by decide +kernel) (by decide +kernel)
set_option maxRecDepth 20000 in
theorem gX12_instruction__X12_isIn : GoodIn wsX12_instruction_ (va_wsS RX12 312 yX12_isIn wsX12_isIn) := goodIn_app (goodIn_of _ (by decide +kernel)) ggX12_instruction__X12_isIn
set_option maxRecDepth 20000 in
theorem ggX12_instruction__X12_handlerOf : GoodIn wsX12_instruction_ wsX12_handlerOf := goodIn_r _ [18] (by decide +kernel) (by decide +kernel)
set_option maxRecDepth 20000 in
theorem gX12_instruction__X12_handlerOf : GoodIn wsX12_instruction_ (va_wsS RX12 279 yX12_handlerOf wsX12_handlerOf) := goodIn_app (goodIn_of _ (by decide +kernel)) ggX12_instruction__X12_handlerOf
theorem dX12_instruction__0 : decode cX12_instruction_ 0 = .ok (.aload_n 0, 1) := by decide +kernel
theorem dX12_instruction__1 : decode cX12_instruction_ 1 = .ok (.aload_n 0, 1) := by decide +kernel
theorem dX12_instruction__2 : decode cX12_instruction_ 2 = .ok (.getfield 292, 3) := by decide +kernel
theorem dX12_instruction__5 : decode cX12_instruction_ 5 = .ok (.ifCond .eq 35, 3) := by decide +kernel
theorem dX12_instruction__8 : decode cX12_instruction_ 8 = .ok (.iload_n 1, 1) := by decide +kernel
theorem dX12_instruction__9 : decode cX12_instruction_ 9 = .ok (.i2l, 1) := by decide +kernel
theorem dX12_instruction__10 : decode cX12_instruction_ 10 = .ok (.lconst 0, 1) := by decide +kernel
theorem dX12_instruction__11 : decode cX12_instruction_ 11 = .ok (.aload_n 0, 1) := by decide +kernel
theorem dX12_instruction__12 : decode cX12_instruction_ 12 = .ok (.getfield 286, 3) := by decide +kernel
theorem dX12_instruction__15 : decode cX12_instruction_ 15 = .ok (.iconst 1, 1) := by decide +kernel
theorem dX12_instruction__16 : decode cX12_instruction_ 16 = .ok (.isub, 1) := by decide +kernel
theorem dX12_instruction__17 : decode cX12_instruction_ 17 = .ok (.i2l, 1) := by decide +kernel
theorem dX12_instruction__18 : decode cX12_instruction_ 18 = .ok (.invokestatic 312, 3) := by decide +kernel
theorem dX12_instruction__21 : decode cX12_instruction_ 21 = .ok (.ifCond .eq 19, 3) := by decide +kernel
theorem dX12_instruction__24 : decode cX12_instruction_ 24 = .ok (.iload_n 2, 1) := by decide +kernel
theorem dX12_instruction__25 : decode cX12_instruction_ 25 = .ok (.i2l, 1) := by decide +kernel
theorem dX12_instruction__26 : decode cX12_instruction_ 26 = .ok (.lconst 0, 1) := by decide +kernel
theorem dX12_instruction__27 : decode cX12_instruction_ 27 = .ok (.ldc2_w 638, 3) := by decide +kernel
theorem dX12_instruction__30 : decode cX12_instruction_ 30 = .ok (.invokestatic 312, 3) := by decide +kernel
theorem dX12_instruction__33 : decode cX12_instruction_ 33 = .ok (.ifCond .eq 7, 3) := by decide +kernel
theorem dX12_instruction__36 : decode cX12_instruction_ 36 = .ok (.iconst 0, 1) := by decide +kernel
theorem dX12_instruction__37 : decode cX12_instruction_ 37 = .ok (.goto 4, 3) := by decide +kernel
theorem dX12_instruction__40 : decode cX12_instruction_ 40 = .ok (.iconst 1, 1) := by decide +kernel
theorem dX12_instruction__41 : decode cX12_instruction_ 41 = .ok (.putfield 169, 3) := by decide +kernel
theorem dX12_instruction__44 : decode cX12_instruction_ 44 = .ok (.aload_n 0, 1) := by decide +kernel
theorem dX12_instruction__45 : decode cX12_instruction_ 45 = .ok (.getfield 169, 3) := by decide +kernel
theorem dX12_instruction__48 : decode cX12_instruction_ 48 = .ok (.ifCond .le 5, 3) := by decide +kernel
theorem dX12_instruction__51 : decode cX12_instruction_ 51 = .ok (.iconst 0, 1) := by decide +kernel
theorem dX12_instruction__52 : decode cX12_instruction_ 52 = .ok (.ireturn, 1) := by decide +kernel
theorem dX12_instruction__53 : decode cX12_instruction_ 53 = .ok (.iload_n 2, 1) := by decide +kernel
theorem dX12_instruction__54 : decode cX12_instruction_ 54 = .ok (.tableswitch 75 0 4 #[34, 41, 48, 55, 62], 34) := by decide +kernel
theorem dX12_instruction__88 : decode cX12_instruction_ 88 = .ok (.aload_n 0, 1) := by decide +kernel
theorem dX12_instruction__89 : decode cX12_instruction_ 89 = .ok (.getfield 23, 3) := by decide +kernel
theorem dX12_instruction__92 : decode cX12_instruction_ 92 = .ok (.iload_n 1, 1) := by decide +kernel
theorem dX12_instruction__93 : decode cX12_instruction_ 93 = .ok (.iaload, 1) := by decide +kernel
theorem dX12_instruction__94 : decode cX12_instruction_ 94 = .ok (.ireturn, 1) := by decide +kernel
theorem dX12_instruction__95 : decode cX12_instruction_ 95 = .ok (.aload_n 0, 1) := by decide +kernel
theorem dX12_instruction__96 : decode cX12_instruction_ 96 = .ok (.getfield 26, 3) := by decide +kernel
theorem dX12_instruction__99 : decode cX12_instruction_ 99 = .ok (.iload_n 1, 1) := by decide +kernel
theorem dX12_instruction__100 : decode cX12_instruction_ 100 = .ok (.iaload, 1) := by decide +kernel
theorem dX12_instruction__101 : decode cX12_instruction_ 101 = .ok (.ireturn, 1) := by decide +kernel
theorem dX12_instruction__102 : decode cX12_instruction_ 102 = .ok (.aload_n 0, 1) := by decide +kernel
theorem dX12_instruction__103 : decode cX12_instruction_ 103 = .ok (.getfield 44, 3) := by decide +kernel
theorem dX12_instruction__106 : decode cX12_instruction_ 106 = .ok (.iload_n 1, 1) := by decide +kernel
theorem dX12_instruction__107 : decode cX12_instruction_ 107 = .ok (.iaload, 1) := by decide +kernel
theorem dX12_instruction__108 : decode cX12_instruction_ 108 = .ok (.ireturn, 1) := by decide +kernel
theorem dX12_instruction__109 : decode cX12_instruction_ 109 = .ok (.aload_n 0, 1) := by decide +kernel
theorem dX12_instruction__110 : decode cX12_instruction_ 110 = .ok (.getfield 53, 3) := by decide +kernel
theorem dX12_instruction__113 : decode cX12_instruction_ 113 = .ok (.iload_n 1, 1) := by decide +kernel
theorem dX12_instruction__114 : decode cX12_instruction_ 114 = .ok (.iaload, 1) := by decide +kernel
theorem dX12_instruction__115 : decode cX12_instruction_ 115 = .ok (.ireturn, 1) := by decide +kernel
theorem dX12_instruction__116 : decode cX12_instruction_ 116 = .ok (.aload_n 0, 1) := by decide +kernel
theorem dX12_instruction__117 : decode cX12_instruction_ 117 = .ok (.getfield 29, 3) := by decide +kernel
theorem dX12_instruction__120 : decode cX12_instruction_ 120 = .ok (.aload_n 0, 1) := by decide +kernel
theorem dX12_instruction__121 : decode cX12_instruction_ 121 = .ok (.getfield 289, 3) := by decide +kernel
theorem dX12_instruction__124 : decode cX12_instruction_ 124 = .ok (.iload_n 1, 1) := by decide +kernel
theorem dX12_instruction__125 : decode cX12_instruction_ 125 = .ok (.invokestatic 279, 3) := by decide +kernel
theorem dX12_instruction__128 : decode cX12_instruction_ 128 = .ok (.ireturn, 1) := by decide +kernel
theorem dX12_instruction__129 : decode cX12_instruction_ 129 = .ok (.aload_n 0, 1) := by decide +kernel
theorem dX12_instruction__130 : decode cX12_instruction_ 130 = .ok (.getfield 130, 3) := by decide +kernel
theorem dX12_instruction__133 : decode cX12_instruction_ 133 = .ok (.iload_n 1, 1) := by decide +kernel
theorem dX12_instruction__134 : decode cX12_instruction_ 134 = .ok (.baload, 1) := by decide +kernel
theorem dX12_instruction__135 : decode cX12_instruction_ 135 = .ok (.ifCond .eq 7, 3) := by decide +kernel
theorem dX12_instruction__138 : decode cX12_instruction_ 138 = .ok (.iconst 1, 1) := by decide +kernel
theorem dX12_instruction__139 : decode cX12_instruction_ 139 = .ok (.goto 4, 3) := by decide +kernel
theorem dX12_instruction__142 : decode cX12_instruction_ 142 = .ok (.iconst 0, 1) := by decide +kernel
theorem dX12_instruction__143 : decode cX12_instruction_ 143 = .ok (.ireturn, 1) := by decide +kernel
