theorem gi_k {T ws : List Cond} {cd : Cond} (h1 : GoodIn T [cd]) (h2 : GoodIn T ws) : GoodIn T (cd :: ws) := goodIn_app (a := [cd]) h1 h2
set_option maxRecDepth 40000 in
theorem lc_22 : GoodIn lw_tbl (wsV RL 22 RX11 yX11_feed (Cond.code yX11_feed cX11_feed 7 (some .int) :: ALW)) := goodIn_app (goodIn_r _ [855, 856, 857, 211] rfl (by decide +kernel)) (gi_k (goodIn_r _ [858] rfl (by decide +kernel)) gt_ALW)
set_option maxRecDepth 40000 in
theorem lc_26 : GoodIn lw_tbl (wsV RL 26 RX12 yX12_feed (Cond.code yX12_feed cX12_feed 6 (some .int) :: ALW)) := goodIn_app (goodIn_r _ [1952, 1953, 1954, 223] rfl (by decide +kernel)) (gi_k (goodIn_r _ [1955] rfl (by decide +kernel)) gt_ALW)
set_option maxRecDepth 40000 in
theorem lc_27 : GoodIn lw_tbl (wsV RL 27 RX11 yX11_end (Cond.code yX11_end cX11_end 2 (some .boolean) :: ALW)) := goodIn_app (goodIn_r _ [866, 867, 868, 211] rfl (by decide +kernel)) (gi_k (goodIn_r _ [869] rfl (by decide +kernel)) gt_ALW)
set_option maxRecDepth 40000 in
theorem lc_31 : GoodIn lw_tbl (wsV RL 31 RX12 yX12_end (Cond.code yX12_end cX12_end 2 (some .boolean) :: ALW)) := goodIn_app (goodIn_r _ [1963, 1964, 1965, 223] rfl (by decide +kernel)) (gi_k (goodIn_r _ [1966] rfl (by decide +kernel)) gt_ALW)
set_option maxRecDepth 40000 in
theorem lc_32 : GoodIn lw_tbl (wsV RL 32 RX11 yX11_fault (Cond.code yX11_fault cX11_fault 1 (some .int) :: ALW)) := goodIn_app (goodIn_r _ [870, 871, 872, 211] rfl (by decide +kernel)) (gi_k (goodIn_r _ [873] rfl (by decide +kernel)) gt_ALW)
set_option maxRecDepth 40000 in
theorem lc_36 : GoodIn lw_tbl (wsV RL 36 RX12 yX12_fault (Cond.code yX12_fault cX12_fault 1 (some .int) :: ALW)) := goodIn_app (goodIn_r _ [1967, 1968, 1969, 223] rfl (by decide +kernel)) (gi_k (goodIn_r _ [1970] rfl (by decide +kernel)) gt_ALW)
set_option maxRecDepth 40000 in
theorem lc_37 : GoodIn lw_tbl (wsV RL 37 RX11 yX11_code (Cond.code yX11_code cX11_code 2 (some .int) :: ALW)) := goodIn_app (goodIn_r _ [915, 916, 917, 211] rfl (by decide +kernel)) (gi_k (goodIn_r _ [918] rfl (by decide +kernel)) gt_ALW)
set_option maxRecDepth 40000 in
theorem lc_40 : GoodIn lw_tbl (wsV RL 40 RX12 yX12_code (Cond.code yX12_code cX12_code 2 (some .int) :: ALW)) := goodIn_app (goodIn_r _ [2017, 2018, 2019, 223] rfl (by decide +kernel)) (gi_k (goodIn_r _ [2020] rfl (by decide +kernel)) gt_ALW)
set_option maxRecDepth 40000 in
theorem lc_41 : GoodIn lw_tbl (wsV RL 41 RX11 yX11_put (Cond.code yX11_put cX11_put 5 (some .int) :: ALW)) := goodIn_app (goodIn_r _ [1272, 1273, 1274, 211] rfl (by decide +kernel)) (gi_k (goodIn_r _ [1275] rfl (by decide +kernel)) gt_ALW)
set_option maxRecDepth 40000 in
theorem lc_45 : GoodIn lw_tbl (wsV RL 45 RX12 yX12_put (Cond.code yX12_put cX12_put 5 (some .int) :: ALW)) := goodIn_app (goodIn_r _ [2303, 2304, 2305, 223] rfl (by decide +kernel)) (gi_k (goodIn_r _ [2306] rfl (by decide +kernel)) gt_ALW)
set_option maxRecDepth 40000 in
theorem lc_46 : GoodIn lw_tbl (wsV RL 46 RX11 yX11_count (Cond.code yX11_count cX11_count 2 (some .int) :: ALW)) := goodIn_app (goodIn_r _ [1280, 1281, 1282, 211] rfl (by decide +kernel)) (gi_k (goodIn_r _ [1283] rfl (by decide +kernel)) gt_ALW)
set_option maxRecDepth 40000 in
theorem lc_50 : GoodIn lw_tbl (wsV RL 50 RX12 yX12_count (Cond.code yX12_count cX12_count 2 (some .int) :: ALW)) := goodIn_app (goodIn_r _ [2394, 2395, 2396, 223] rfl (by decide +kernel)) (gi_k (goodIn_r _ [2397] rfl (by decide +kernel)) gt_ALW)
set_option maxRecDepth 40000 in
theorem lc_51 : GoodIn lw_tbl (va_wsS RL 51 yL_instruction (Cond.codeWith yL_instruction cL_instruction 5 (some .int) [(0, 10, 13, 13)] :: ALH_instruction)) := goodIn_app (goodIn_r _ [1597, 1598, 210] rfl (by decide +kernel)) (gi_k (goodIn_r _ [1599] rfl (by decide +kernel)) gt_ALH_instruction)
set_option maxRecDepth 40000 in
theorem lc_56 : GoodIn lw_tbl (wsV RL 56 RX12 yX12_instruction_ (Cond.code yX12_instruction_ cX12_instruction_ 3 (some .int) :: ALW)) := goodIn_app (goodIn_r _ [2422, 2423, 2424, 223] rfl (by decide +kernel)) (gi_k (goodIn_r _ [2425] rfl (by decide +kernel)) gt_ALW)
set_option maxRecDepth 40000 in
theorem lc_57 : GoodIn lw_tbl (va_wsS RL 57 yL_block (Cond.codeWith yL_block cL_block 5 (some .int) [(0, 10, 13, 13)] :: ALH_block)) := goodIn_app (goodIn_r _ [1671, 1672, 210] rfl (by decide +kernel)) (gi_k (goodIn_r _ [1673] rfl (by decide +kernel)) gt_ALH_block)
set_option maxRecDepth 40000 in
theorem lc_59 : GoodIn lw_tbl (wsV RL 59 RX12 yX12_block (Cond.code yX12_block cX12_block 3 (some .int) :: ALW)) := goodIn_app (goodIn_r _ [2427, 2428, 2429, 223] rfl (by decide +kernel)) (gi_k (goodIn_r _ [2430] rfl (by decide +kernel)) gt_ALW)
set_option maxRecDepth 40000 in
theorem lc_60 : GoodIn lw_tbl (wsV RL 60 RX11 yX11_edge (Cond.code yX11_edge cX11_edge 3 (some .int) :: ALW)) := goodIn_app (goodIn_r _ [1286, 1287, 1288, 211] rfl (by decide +kernel)) (gi_k (goodIn_r _ [1289] rfl (by decide +kernel)) gt_ALW)
set_option maxRecDepth 40000 in
theorem lc_63 : GoodIn lw_tbl (wsV RL 63 RX12 yX12_edge (Cond.code yX12_edge cX12_edge 3 (some .int) :: ALW)) := goodIn_app (goodIn_r _ [2443, 2444, 2445, 223] rfl (by decide +kernel)) (gi_k (goodIn_r _ [2446] rfl (by decide +kernel)) gt_ALW)
set_option maxRecDepth 40000 in
theorem lc_64 : GoodIn lw_tbl (wsV RL 64 RX11 yX11_dominates (Cond.code yX11_dominates cX11_dominates 3 (some .boolean) :: ALW)) := goodIn_app (goodIn_r _ [1290, 1291, 1292, 211] rfl (by decide +kernel)) (gi_k (goodIn_r _ [1293] rfl (by decide +kernel)) gt_ALW)
set_option maxRecDepth 40000 in
theorem lc_68 : GoodIn lw_tbl (wsV RL 68 RX12 yX12_dominates (Cond.code yX12_dominates cX12_dominates 3 (some .boolean) :: ALW)) := goodIn_app (goodIn_r _ [2447, 2448, 2449, 223] rfl (by decide +kernel)) (gi_k (goodIn_r _ [2450] rfl (by decide +kernel)) gt_ALW)
set_option maxRecDepth 40000 in
theorem lc_69 : GoodIn lw_tbl (wsV RL 69 RX11 yX11_loop (Cond.code yX11_loop cX11_loop 2 (some .long) :: ALW)) := goodIn_app (goodIn_r _ [1299, 1300, 1301, 211] rfl (by decide +kernel)) (gi_k (goodIn_r _ [1302] rfl (by decide +kernel)) gt_ALW)
set_option maxRecDepth 40000 in
theorem lc_73 : GoodIn lw_tbl (wsV RL 73 RX12 yX12_loop (Cond.code yX12_loop cX12_loop 2 (some .long) :: ALW)) := goodIn_app (goodIn_r _ [2451, 2452, 2453, 223] rfl (by decide +kernel)) (gi_k (goodIn_r _ [2454] rfl (by decide +kernel)) gt_ALW)
set_option maxRecDepth 40000 in
theorem lc_74 : GoodIn lw_tbl (wsV RL 74 RX11 yX11_statement (Cond.code yX11_statement cX11_statement 6 (some .int) :: ALW)) := goodIn_app (goodIn_r _ [1304, 1305, 1306, 211] rfl (by decide +kernel)) (gi_k (goodIn_r _ [1307] rfl (by decide +kernel)) gt_ALW)
set_option maxRecDepth 40000 in
theorem lc_77 : GoodIn lw_tbl (wsV RL 77 RX12 yX12_statement (Cond.code yX12_statement cX12_statement 6 (some .int) :: ALW)) := goodIn_app (goodIn_r _ [2385, 2386, 2387, 223] rfl (by decide +kernel)) (gi_k (goodIn_r _ [2388] rfl (by decide +kernel)) gt_ALW)
set_option maxRecDepth 40000 in
theorem lc_78 : GoodIn lw_tbl (wsV RL 78 RX11 yX11_condition (Cond.code yX11_condition cX11_condition 4 (some .int) :: ALW)) := goodIn_app (goodIn_r _ [1385, 1386, 1387, 211] rfl (by decide +kernel)) (gi_k (goodIn_r _ [1388] rfl (by decide +kernel)) gt_ALW)
set_option maxRecDepth 40000 in
theorem lc_81 : GoodIn lw_tbl (wsV RL 81 RX12 yX12_condition (Cond.code yX12_condition cX12_condition 3 (some .int) :: ALW)) := goodIn_app (goodIn_r _ [2377, 2378, 2379, 223] rfl (by decide +kernel)) (gi_k (goodIn_r _ [2380] rfl (by decide +kernel)) gt_ALW)
set_option maxRecDepth 40000 in
theorem lc_82 : GoodIn lw_tbl (wsV RL 82 RX11 yX11_line (Cond.code yX11_line cX11_line 3 (some .int) :: ALW)) := goodIn_app (goodIn_r _ [1393, 1394, 1395, 211] rfl (by decide +kernel)) (gi_k (goodIn_r _ [1396] rfl (by decide +kernel)) gt_ALW)
set_option maxRecDepth 40000 in
theorem lc_85 : GoodIn lw_tbl (wsV RL 85 RX12 yX12_line_ (Cond.code yX12_line_ cX12_line_ 3 (some .int) :: ALW)) := goodIn_app (goodIn_r _ [2371, 2372, 2373, 223] rfl (by decide +kernel)) (gi_k (goodIn_r _ [2374] rfl (by decide +kernel)) gt_ALW)
set_option maxRecDepth 40000 in
theorem lc_86 : GoodIn lw_tbl (wsV RL 86 RX11 yX11_spell (Cond.code yX11_spell cX11_spell 4 (some .int) :: ALW)) := goodIn_app (goodIn_r _ [1401, 1402, 1403, 211] rfl (by decide +kernel)) (gi_k (goodIn_r _ [1404] rfl (by decide +kernel)) gt_ALW)
set_option maxRecDepth 40000 in
theorem lc_89 : GoodIn lw_tbl (wsV RL 89 RX12 yX12_spell (Cond.code yX12_spell cX12_spell 3 (some .int) :: ALW)) := goodIn_app (goodIn_r _ [2313, 2314, 2315, 223] rfl (by decide +kernel)) (gi_k (goodIn_r _ [2316] rfl (by decide +kernel)) gt_ALW)
set_option maxRecDepth 40000 in
theorem lc_90 : GoodIn lw_tbl (wsV RL 90 RX11 yX11_type (Cond.code yX11_type cX11_type 3 (some .int) :: ALW)) := goodIn_app (goodIn_r _ [1435, 1436, 1437, 211] rfl (by decide +kernel)) (gi_k (goodIn_r _ [1438] rfl (by decide +kernel)) gt_ALW)
set_option maxRecDepth 40000 in
theorem lc_93 : GoodIn lw_tbl (wsV RL 93 RX12 yX12_type (Cond.code yX12_type cX12_type 3 (some .int) :: ALW)) := goodIn_app (goodIn_r _ [2456, 2457, 2458, 223] rfl (by decide +kernel)) (gi_k (goodIn_r _ [2459] rfl (by decide +kernel)) gt_ALW)
set_option maxRecDepth 40000 in
theorem lc_94 : GoodIn lw_tbl (wsV RL 94 RX11 yX11_run (Cond.code yX11_run cX11_run 7 (some .int) :: ALW)) := goodIn_app (goodIn_r _ [1442, 1443, 1444, 211] rfl (by decide +kernel)) (gi_k (goodIn_r _ [1445] rfl (by decide +kernel)) gt_ALW)
set_option maxRecDepth 40000 in
theorem lc_98 : GoodIn lw_tbl (wsV RL 98 RX12 yX12_run (Cond.code yX12_run cX12_run 7 (some .int) :: ALW)) := goodIn_app (goodIn_r _ [2500, 2501, 2502, 223] rfl (by decide +kernel)) (gi_k (goodIn_r _ [2503] rfl (by decide +kernel)) gt_ALW)
set_option maxRecDepth 40000 in
theorem lc_99 : GoodIn lw_tbl (wsV RL 99 RX11 yX11_output (Cond.code yX11_output cX11_output 7 (some .int) :: ALW)) := goodIn_app (goodIn_r _ [1536, 1537, 1538, 211] rfl (by decide +kernel)) (gi_k (goodIn_r _ [1539] rfl (by decide +kernel)) gt_ALW)
set_option maxRecDepth 40000 in
theorem lc_102 : GoodIn lw_tbl (wsV RL 102 RX12 yX12_output (Cond.code yX12_output cX12_output 7 (some .int) :: ALW)) := goodIn_app (goodIn_r _ [2591, 2592, 2593, 223] rfl (by decide +kernel)) (gi_k (goodIn_r _ [2594] rfl (by decide +kernel)) gt_ALW)
set_option maxRecDepth 40000 in
theorem lc_103 : GoodIn lw_tbl (wsV RL 103 RX11 yX11_comesTo (Cond.code yX11_comesTo cX11_comesTo 2 (some .long) :: ALW)) := goodIn_app (goodIn_r _ [1540, 1541, 1542, 211] rfl (by decide +kernel)) (gi_k (goodIn_r _ [1543] rfl (by decide +kernel)) gt_ALW)
set_option maxRecDepth 40000 in
theorem lc_106 : GoodIn lw_tbl (wsV RL 106 RX12 yX12_comesTo (Cond.code yX12_comesTo cX12_comesTo 6 (some .long) :: ALW)) := goodIn_app (goodIn_r _ [2460, 2461, 2462, 223] rfl (by decide +kernel)) (gi_k (goodIn_r _ [2463] rfl (by decide +kernel)) gt_ALW)
set_option maxRecDepth 40000 in
theorem lc_107 : GoodIn lw_tbl (wsV RL 107 RX11 yX11_far (Cond.code yX11_far cX11_far 3 (some .int) :: ALW)) := goodIn_app (goodIn_r _ [1548, 1549, 1550, 211] rfl (by decide +kernel)) (gi_k (goodIn_r _ [1551] rfl (by decide +kernel)) gt_ALW)
set_option maxRecDepth 40000 in
theorem lc_110 : GoodIn lw_tbl (wsV RL 110 RX12 yX12_far (Cond.code yX12_far cX12_far 9 (some .int) :: ALW)) := goodIn_app (goodIn_r _ [2464, 2465, 2466, 223] rfl (by decide +kernel)) (gi_k (goodIn_r _ [2467] rfl (by decide +kernel)) gt_ALW)
set_option maxRecDepth 40000 in
theorem lc_111 : GoodIn lw_tbl (wsV RL 111 RX11 yX11_most (Cond.code yX11_most cX11_most 2 (some .int) :: ALW)) := goodIn_app (goodIn_r _ [1556, 1557, 1558, 211] rfl (by decide +kernel)) (gi_k (goodIn_r _ [1559] rfl (by decide +kernel)) gt_ALW)
set_option maxRecDepth 40000 in
theorem lc_114 : GoodIn lw_tbl (wsV RL 114 RX12 yX12_most (Cond.code yX12_most cX12_most 2 (some .int) :: ALW)) := goodIn_app (goodIn_r _ [2468, 2469, 2470, 223] rfl (by decide +kernel)) (gi_k (goodIn_r _ [2471] rfl (by decide +kernel)) gt_ALW)
set_option maxRecDepth 40000 in
theorem lc_i11 : GoodIn lw_tbl (Cond.code yX11_init cX11_init 1 none :: ALC) := gi_k (goodIn_r _ [241] rfl (by decide +kernel)) gt_ALC
set_option maxRecDepth 40000 in
theorem lc_i12 : GoodIn lw_tbl (Cond.code yX12_init cX12_init 1 none :: ALC) := gi_k (goodIn_r _ [1688] rfl (by decide +kernel)) gt_ALC

