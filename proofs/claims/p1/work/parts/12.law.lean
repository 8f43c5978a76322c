/-! THE CLAIM OUT OF ONE WALK OF THE LAW'S BODY. Your part is whole_start (and what it stands on); all else here is the same for every law, but numbers. -/
def R_law : String := "CodeLifterLaw"
def lw_P (b : Addr) (xs : List Int32) (args : Array Value) (s : State) : Prop := args = #[.ref b] ∧ s.IntsAt b xs ∧ xs.length ≤ 7 ∧ (Jvm.Cond.and given_1 narrow_1).before args s = true
def lw_Q (_ : Array Value) (s : State) (o : Outcome) (t : State) : Prop := o = .returned (some (.int 1)) ∧ Framed s o t [] 600002 7302232
def lw_Z (below : List Frame) (a : Array Value) (s : State) : State → Prop := fun t => ∃ o, t.status = .running ∧ Ended t below o ∧ lw_Q a s o t
/-- the law's own end, with 1 on the stack, nothing written that was there before, its room as the claim has it -/
theorem lw_ret {p : Program} {l : Launch} {e : Env} {s : State} {m : MethodId} {below : List Frame} {meth : Method} {c : Code} {b : Nat} (hx : p.tables.exec = Jvm.exec) (hb : c.code = code) (hr : meth.sig.returnType = ret) (hlocks : meth.locks = false) {pc : Nat} {H : Heap} {ls : Array Slot} (hdg : decode code pc = .ok (.ireturn, 1)) : W p l e room_1 s m #[Value.ref b] below meth c H [] 600002 7302232 (lw_Z below #[Value.ref b] s) (F0 m pc ls [.int 1]) := by
  intro T hT X
  obtain ⟨fs, hret, hrun, hended, hW, hframe⟩ := X.leave (v := some (.int 1)) (hlocks := hlocks) (fun h => by rw [hr] at h; cases h)
  have hmeth' : T.vm.method? m = some meth := X.method'
  refine ⟨T.setFrames fs, ?_, .returned (some (.int 1)), hrun, hended, rfl, ⟨_, rfl⟩, hW, hframe⟩
  jvm_step X.here [X.here.top, hx, hb, hdg, hmeth', hr, ret, narrow_b1]
  (try refine ⟨rfl, ?_⟩); (try refine ⟨rfl, ?_⟩)
  first | (intro acts; rw [hret _ acts rfl rfl rfl]) | rw [hret _ _ rfl rfl rfl]
  exact Steps.refl _
/-- what holds at the law's entry: the machine, the code, the tables' words (any of lw_tbl by 'hts w (by decide +kernel)'), the script of L ints xs at the cell b, what the Statement gives of the start (any of its parts by flat_of_before) -/
def lw_At (p : Program) (s : State) (m : MethodId) (meth : Method) (c : Code) (b L : Nat) (xs : Nat → Int32) : Prop :=
  p.tables.exec = Jvm.exec ∧ c.code = code ∧ meth.sig.returnType = ret ∧ c.maxLocals = 7 ∧ s.vm.findClass R_law = some m.cls ∧ (∀ w ∈ lw_tbl, w.before #[Value.ref b] s = true) ∧ va_X b L xs s s.heap ∧ b < s.heap.size ∧ meth.locks = false ∧ (Jvm.Cond.and given_1 narrow_1).before #[Value.ref b] s = true

set_option maxRecDepth 20000 in
theorem gl_X0 : GoodIn lw_tbl wsX00 := goodIn_r _ [381, 383, 385, 387, 389, 391, 393, 395, 397, 399, 401, 403, 405, 407, 409, 411] (by decide +kernel) (by decide +kernel)
theorem il_X0 : ∀ w ∈ wsX00, w ∈ lw_tbl := fun w h => (gl_X0 w h).1
set_option maxRecDepth 20000 in
theorem gl_X1 : GoodIn lw_tbl wsX10 := goodIn_r _ [576, 578, 580, 582, 584, 586, 588, 590, 592, 594, 596, 598, 600, 602] (by decide +kernel) (by decide +kernel)
theorem il_X1 : ∀ w ∈ wsX10, w ∈ lw_tbl := fun w h => (gl_X1 w h).1
set_option maxRecDepth 20000 in
theorem gl_X2 : GoodIn lw_tbl wsX20 := goodIn_r _ [691, 693, 695, 697, 699, 701, 703, 705, 707, 709, 711, 713, 715] (by decide +kernel) (by decide +kernel)
theorem il_X2 : ∀ w ∈ wsX20, w ∈ lw_tbl := fun w h => (gl_X2 w h).1
set_option maxRecDepth 20000 in
theorem gl_X3 : GoodIn lw_tbl wsX30 := goodIn_r _ [306, 308, 310, 312, 314, 316, 318, 320] (by decide +kernel) (by decide +kernel)
theorem il_X3 : ∀ w ∈ wsX30, w ∈ lw_tbl := fun w h => (gl_X3 w h).1
set_option maxRecDepth 20000 in
theorem gl_X4 : GoodIn lw_tbl wsX40 := goodIn_r _ [647, 649, 651, 653, 655] (by decide +kernel) (by decide +kernel)
theorem il_X4 : ∀ w ∈ wsX40, w ∈ lw_tbl := fun w h => (gl_X4 w h).1
set_option maxRecDepth 20000 in
theorem gl_X5 : GoodIn lw_tbl wsX50 := goodIn_r _ [752, 754, 756, 758, 760, 762, 764, 766, 768, 770, 772, 774, 776, 778, 780, 782, 784, 786, 788, 790] (by decide +kernel) (by decide +kernel)
theorem il_X5 : ∀ w ∈ wsX50, w ∈ lw_tbl := fun w h => (gl_X5 w h).1
set_option maxRecDepth 20000 in
theorem gl_X6 : GoodIn lw_tbl wsX60 := goodIn_r _ [804, 806, 808, 810, 812] (by decide +kernel) (by decide +kernel)
theorem il_X6 : ∀ w ∈ wsX60, w ∈ lw_tbl := fun w h => (gl_X6 w h).1
set_option maxRecDepth 20000 in
theorem gl_X7 : GoodIn lw_tbl wsX70 := goodIn_r _ [521, 523, 525, 527, 529, 531] (by decide +kernel) (by decide +kernel)
theorem il_X7 : ∀ w ∈ wsX70, w ∈ lw_tbl := fun w h => (gl_X7 w h).1
set_option maxRecDepth 20000 in
theorem gl_X8 : GoodIn lw_tbl wsX80 := goodIn_r _ [457, 459, 461, 463, 465, 467, 469, 471, 473, 475, 477, 479, 481, 483, 485, 487, 489, 491] (by decide +kernel) (by decide +kernel)
theorem il_X8 : ∀ w ∈ wsX80, w ∈ lw_tbl := fun w h => (gl_X8 w h).1
set_option maxRecDepth 20000 in
theorem gl_X9 : GoodIn lw_tbl wsX90 := goodIn_r _ [256, 258, 260] (by decide +kernel) (by decide +kernel)
theorem il_X9 : ∀ w ∈ wsX90, w ∈ lw_tbl := fun w h => (gl_X9 w h).1
set_option maxRecDepth 20000 in
theorem gl_X10 : GoodIn lw_tbl wsX100 := goodIn_r _ [620, 622, 624, 626, 628, 630] (by decide +kernel) (by decide +kernel)
theorem il_X10 : ∀ w ∈ wsX100, w ∈ lw_tbl := fun w h => (gl_X10 w h).1
set_option maxRecDepth 20000 in
theorem gl_X11 : GoodIn lw_tbl wsX110 := goodIn_r _ [828, 830, 832, 834, 836, 838, 840, 842, 844, 846, 848, 850, 852] (by decide +kernel) (by decide +kernel)
theorem il_X11 : ∀ w ∈ wsX110, w ∈ lw_tbl := fun w h => (gl_X11 w h).1
set_option maxRecDepth 20000 in
theorem gl_X12 : GoodIn lw_tbl wsX120 := goodIn_r _ [1777, 1779, 1781, 1783, 1785, 1787, 1789, 1791, 1793, 1795, 1797, 1799, 1801, 1803, 1805, 1807, 1809, 1811, 1813, 1815, 1817, 1819, 1821, 1823, 1825, 1827, 1829, 1831, 1833, 1835, 1837, 1839, 1841, 1843, 1845, 1847, 1849, 1851, 1853, 1855, 1857, 1859, 1861, 1863, 1865, 1867, 1869, 1871, 1873, 1875, 1877, 1879, 1881, 1883, 1885, 1887, 1889, 1891, 1893, 1895, 1897, 1899, 1901, 1903, 1905, 1907, 1909, 1911, 1913, 1915, 1917, 1919, 1921, 1923, 1925, 1927, 1929, 1931, 1933, 1935, 1937, 1939, 1941, 1943, 1945, 1947, 1949] (by decide +kernel) (by decide +kernel)
theorem il_X12 : ∀ w ∈ wsX120, w ∈ lw_tbl := fun w h => (gl_X12 w h).1
set_option maxRecDepth 20000 in
theorem gl_ats : GoodIn lw_tbl (n13_at.filter goodWord) := goodIn_r _ [233, 1627, 1636, 1638, 1641, 1643, 1628, 1629, 243, 244, 1630, 1635, 1639, 1659, 1617, 1660, 1619, 1661, 1621, 1631, 1633, 1623, 1655, 1656, 1658, 1623, 1646, 1655, 1645, 1606, 1614, 1615, 1616, 1618, 1620, 1622, 1626, 1625, 1624, 1646, 1647, 1648, 1649, 1649, 1650, 1651, 1652, 1652, 1653, 1654, 1655] (by decide +kernel) (by decide +kernel)
set_option maxRecDepth 20000 in
theorem gl_X9_init : GoodIn lw_tbl us_X9_init := by
  have h0 : GoodIn lw_tbl (.code yX9_init cX9_init 1 none :: [.methodLink RX9 3 objectInit, .instanceMethod objectInit, .code objectInit ⟨#[0xb1]⟩ 1 none, .arrayClass .byte, .fieldLink RX9 9 "CodeLifter$Tape" "bytes" "[B"]) := goodIn_r _ [249, 250, 243, 244, 263, 251] (by decide +kernel) (by decide +kernel)
  have h1 : GoodIn lw_tbl [.methodLink RX9 3 objectInit, .instanceMethod objectInit, .code objectInit ⟨#[0xb1]⟩ 1 none, .arrayClass .byte, .fieldLink RX9 9 "CodeLifter$Tape" "bytes" "[B"] := fun w h => h0 w (List.mem_cons_of_mem _ h)
  exact fun w h => (List.mem_cons.mp h).elim (fun e => h0 w (List.mem_cons.mpr (Or.inl e))) ((goodIn_app h1 gl_X9) w)
set_option maxRecDepth 20000 in
theorem gl_X3_init : GoodIn lw_tbl us_X3_init := by
  have h0 : GoodIn lw_tbl (.code yX3_init cX3_init 1 none :: [.methodLink RX3 3 objectInit, .instanceMethod objectInit, .code objectInit ⟨#[0xb1]⟩ 1 none, .arrayClass .int, .fieldLink RX3 9 "CodeLifter$Listing" "sign" "[I", .fieldLink RX3 15 "CodeLifter$Listing" "number" "[I", .fieldLink RX3 18 "CodeLifter$Listing" "depth" "[I", .fieldLink RX3 21 "CodeLifter$Listing" "from" "[I", .fieldLink RX3 24 "CodeLifter$Listing" "to" "[I", .fieldLink RX3 27 "CodeLifter$Listing" "goal" "[I"]) := goodIn_r _ [268, 269, 243, 244, 323, 279, 285, 292, 296, 299, 302] (by decide +kernel) (by decide +kernel)
  have h1 : GoodIn lw_tbl [.methodLink RX3 3 objectInit, .instanceMethod objectInit, .code objectInit ⟨#[0xb1]⟩ 1 none, .arrayClass .int, .fieldLink RX3 9 "CodeLifter$Listing" "sign" "[I", .fieldLink RX3 15 "CodeLifter$Listing" "number" "[I", .fieldLink RX3 18 "CodeLifter$Listing" "depth" "[I", .fieldLink RX3 21 "CodeLifter$Listing" "from" "[I", .fieldLink RX3 24 "CodeLifter$Listing" "to" "[I", .fieldLink RX3 27 "CodeLifter$Listing" "goal" "[I"] := fun w h => h0 w (List.mem_cons_of_mem _ h)
  exact fun w h => (List.mem_cons.mp h).elim (fun e => h0 w (List.mem_cons.mpr (Or.inl e))) ((goodIn_app h1 gl_X3) w)
set_option maxRecDepth 20000 in
theorem gl_X0_init : GoodIn lw_tbl us_X0_init := by
  have h0 : GoodIn lw_tbl (.code yX0_init cX0_init 2 none :: [.methodLink RX0 3 objectInit, .instanceMethod objectInit, .code objectInit ⟨#[0xb1]⟩ 1 none, .arrayClass .int, .fieldLink RX0 9 "CodeLifter$Blocks" "first" "[I", .fieldLink RX0 15 "CodeLifter$Blocks" "last" "[I", .fieldLink RX0 18 "CodeLifter$Blocks" "of" "[I", .fieldLink RX0 21 "CodeLifter$Blocks" "onward" "[I", .fieldLink RX0 24 "CodeLifter$Blocks" "otherwise" "[I", .fieldLink RX0 27 "CodeLifter$Blocks" "catcher" "[I", .arrayClass .long, .fieldLink RX0 30 "CodeLifter$Blocks" "nexts" "[J", .fieldLink RX0 34 "CodeLifter$Blocks" "firstEdge" "[I", .fieldLink RX0 37 "CodeLifter$Blocks" "source" "[I", .fieldLink RX0 40 "CodeLifter$Blocks" "target" "[I", .arrayClass .boolean, .fieldLink RX0 43 "CodeLifter$Blocks" "throwing" "[Z", .fieldLink RX0 47 "CodeLifter$Blocks" "isCut" "[Z", .fieldLink RX0 50 "CodeLifter$Blocks" "listing" "LCodeLifter$Listing;"]) := goodIn_r _ [328, 329, 243, 244, 323, 337, 342, 346, 349, 351, 353, 414, 358, 363, 366, 369, 415, 373, 380, 330] (by decide +kernel) (by decide +kernel)
  have h1 : GoodIn lw_tbl [.methodLink RX0 3 objectInit, .instanceMethod objectInit, .code objectInit ⟨#[0xb1]⟩ 1 none, .arrayClass .int, .fieldLink RX0 9 "CodeLifter$Blocks" "first" "[I", .fieldLink RX0 15 "CodeLifter$Blocks" "last" "[I", .fieldLink RX0 18 "CodeLifter$Blocks" "of" "[I", .fieldLink RX0 21 "CodeLifter$Blocks" "onward" "[I", .fieldLink RX0 24 "CodeLifter$Blocks" "otherwise" "[I", .fieldLink RX0 27 "CodeLifter$Blocks" "catcher" "[I", .arrayClass .long, .fieldLink RX0 30 "CodeLifter$Blocks" "nexts" "[J", .fieldLink RX0 34 "CodeLifter$Blocks" "firstEdge" "[I", .fieldLink RX0 37 "CodeLifter$Blocks" "source" "[I", .fieldLink RX0 40 "CodeLifter$Blocks" "target" "[I", .arrayClass .boolean, .fieldLink RX0 43 "CodeLifter$Blocks" "throwing" "[Z", .fieldLink RX0 47 "CodeLifter$Blocks" "isCut" "[Z", .fieldLink RX0 50 "CodeLifter$Blocks" "listing" "LCodeLifter$Listing;"] := fun w h => h0 w (List.mem_cons_of_mem _ h)
  exact fun w h => (List.mem_cons.mp h).elim (fun e => h0 w (List.mem_cons.mpr (Or.inl e))) ((goodIn_app h1 gl_X0) w)
set_option maxRecDepth 20000 in
theorem gl_X8_init : GoodIn lw_tbl us_X8_init := by
  have h0 : GoodIn lw_tbl (.code yX8_init cX8_init 2 none :: [.methodLink RX8 3 objectInit, .instanceMethod objectInit, .code objectInit ⟨#[0xb1]⟩ 1 none, .arrayClass .boolean, .fieldLink RX8 9 "CodeLifter$Shape" "jump" "[Z", .fieldLink RX8 15 "CodeLifter$Shape" "back" "[Z", .arrayClass .int, .fieldLink RX8 18 "CodeLifter$Shape" "order" "[I", .fieldLink RX8 22 "CodeLifter$Shape" "place" "[I", .arrayClass .long, .fieldLink RX8 25 "CodeLifter$Shape" "dominators" "[J", .fieldLink RX8 29 "CodeLifter$Shape" "above" "[I", .fieldLink RX8 32 "CodeLifter$Shape" "members" "[J", .fieldLink RX8 35 "CodeLifter$Shape" "before" "[J", .fieldLink RX8 38 "CodeLifter$Shape" "open" "[I", .fieldLink RX8 41 "CodeLifter$Shape" "nextEdge" "[I", .fieldLink RX8 44 "CodeLifter$Shape" "candidate" "[I", .fieldLink RX8 47 "CodeLifter$Shape" "blocks" "LCodeLifter$Blocks;"]) := goodIn_r _ [420, 421, 243, 244, 415, 429, 432, 323, 435, 437, 414, 439, 441, 447, 452, 453, 454, 455, 422] (by decide +kernel) (by decide +kernel)
  have h1 : GoodIn lw_tbl [.methodLink RX8 3 objectInit, .instanceMethod objectInit, .code objectInit ⟨#[0xb1]⟩ 1 none, .arrayClass .boolean, .fieldLink RX8 9 "CodeLifter$Shape" "jump" "[Z", .fieldLink RX8 15 "CodeLifter$Shape" "back" "[Z", .arrayClass .int, .fieldLink RX8 18 "CodeLifter$Shape" "order" "[I", .fieldLink RX8 22 "CodeLifter$Shape" "place" "[I", .arrayClass .long, .fieldLink RX8 25 "CodeLifter$Shape" "dominators" "[J", .fieldLink RX8 29 "CodeLifter$Shape" "above" "[I", .fieldLink RX8 32 "CodeLifter$Shape" "members" "[J", .fieldLink RX8 35 "CodeLifter$Shape" "before" "[J", .fieldLink RX8 38 "CodeLifter$Shape" "open" "[I", .fieldLink RX8 41 "CodeLifter$Shape" "nextEdge" "[I", .fieldLink RX8 44 "CodeLifter$Shape" "candidate" "[I", .fieldLink RX8 47 "CodeLifter$Shape" "blocks" "LCodeLifter$Blocks;"] := fun w h => h0 w (List.mem_cons_of_mem _ h)
  exact fun w h => (List.mem_cons.mp h).elim (fun e => h0 w (List.mem_cons.mpr (Or.inl e))) ((goodIn_app h1 gl_X8) w)
set_option maxRecDepth 20000 in
theorem gl_X7_init : GoodIn lw_tbl us_X7_init := by
  have h0 : GoodIn lw_tbl (.code yX7_init cX7_init 1 none :: [.methodLink RX7 3 objectInit, .instanceMethod objectInit, .code objectInit ⟨#[0xb1]⟩ 1 none, .arrayClass .int, .fieldLink RX7 9 "CodeLifter$Pool" "sign" "[I", .fieldLink RX7 15 "CodeLifter$Pool" "left" "[I", .fieldLink RX7 18 "CodeLifter$Pool" "right" "[I", .fieldLink RX7 21 "CodeLifter$Pool" "parts" "[I", .fieldLink RX7 24 "CodeLifter$Pool" "traits" "[I"]) := goodIn_r _ [498, 499, 243, 244, 323, 502, 507, 512, 516, 519] (by decide +kernel) (by decide +kernel)
  have h1 : GoodIn lw_tbl [.methodLink RX7 3 objectInit, .instanceMethod objectInit, .code objectInit ⟨#[0xb1]⟩ 1 none, .arrayClass .int, .fieldLink RX7 9 "CodeLifter$Pool" "sign" "[I", .fieldLink RX7 15 "CodeLifter$Pool" "left" "[I", .fieldLink RX7 18 "CodeLifter$Pool" "right" "[I", .fieldLink RX7 21 "CodeLifter$Pool" "parts" "[I", .fieldLink RX7 24 "CodeLifter$Pool" "traits" "[I"] := fun w h => h0 w (List.mem_cons_of_mem _ h)
  exact fun w h => (List.mem_cons.mp h).elim (fun e => h0 w (List.mem_cons.mpr (Or.inl e))) ((goodIn_app h1 gl_X7) w)
set_option maxRecDepth 20000 in
theorem gl_X1_init : GoodIn lw_tbl us_X1_init := by
  have h0 : GoodIn lw_tbl (.code yX1_init cX1_init 4 none :: [.methodLink RX1 3 objectInit, .instanceMethod objectInit, .code objectInit ⟨#[0xb1]⟩ 1 none, .arrayClass .int, .fieldLink RX1 9 "CodeLifter$Lifted" "kind" "[I", .fieldLink RX1 15 "CodeLifter$Lifted" "which" "[I", .fieldLink RX1 18 "CodeLifter$Lifted" "expression" "[I", .fieldLink RX1 21 "CodeLifter$Lifted" "first" "[I", .fieldLink RX1 24 "CodeLifter$Lifted" "test" "[I", .fieldLink RX1 27 "CodeLifter$Lifted" "stack" "[I", .arrayClass .boolean, .fieldLink RX1 30 "CodeLifter$Lifted" "isTold" "[Z", .fieldLink RX1 34 "CodeLifter$Lifted" "listing" "LCodeLifter$Listing;", .fieldLink RX1 38 "CodeLifter$Lifted" "blocks" "LCodeLifter$Blocks;", .fieldLink RX1 42 "CodeLifter$Lifted" "pool" "LCodeLifter$Pool;"]) := goodIn_r _ [538, 539, 243, 244, 323, 546, 551, 556, 561, 564, 573, 415, 575, 540, 541, 542] (by decide +kernel) (by decide +kernel)
  have h1 : GoodIn lw_tbl [.methodLink RX1 3 objectInit, .instanceMethod objectInit, .code objectInit ⟨#[0xb1]⟩ 1 none, .arrayClass .int, .fieldLink RX1 9 "CodeLifter$Lifted" "kind" "[I", .fieldLink RX1 15 "CodeLifter$Lifted" "which" "[I", .fieldLink RX1 18 "CodeLifter$Lifted" "expression" "[I", .fieldLink RX1 21 "CodeLifter$Lifted" "first" "[I", .fieldLink RX1 24 "CodeLifter$Lifted" "test" "[I", .fieldLink RX1 27 "CodeLifter$Lifted" "stack" "[I", .arrayClass .boolean, .fieldLink RX1 30 "CodeLifter$Lifted" "isTold" "[Z", .fieldLink RX1 34 "CodeLifter$Lifted" "listing" "LCodeLifter$Listing;", .fieldLink RX1 38 "CodeLifter$Lifted" "blocks" "LCodeLifter$Blocks;", .fieldLink RX1 42 "CodeLifter$Lifted" "pool" "LCodeLifter$Pool;"] := fun w h => h0 w (List.mem_cons_of_mem _ h)
  exact fun w h => (List.mem_cons.mp h).elim (fun e => h0 w (List.mem_cons.mpr (Or.inl e))) ((goodIn_app h1 gl_X1) w)
set_option maxRecDepth 20000 in
theorem gl_X10_init : GoodIn lw_tbl us_X10_init := by
  have h0 : GoodIn lw_tbl (.code yX10_init cX10_init 4 none :: [.methodLink RX10 3 objectInit, .instanceMethod objectInit, .code objectInit ⟨#[0xb1]⟩ 1 none, .arrayClass .boolean, .fieldLink RX10 9 "CodeLifter$Truths" "variable" "[Z", .fieldLink RX10 15 "CodeLifter$Truths" "slot" "[Z", .fieldLink RX10 18 "CodeLifter$Truths" "fresh" "[Z", .fieldLink RX10 21 "CodeLifter$Truths" "blocks" "LCodeLifter$Blocks;", .fieldLink RX10 25 "CodeLifter$Truths" "pool" "LCodeLifter$Pool;", .fieldLink RX10 29 "CodeLifter$Truths" "lifted" "LCodeLifter$Lifted;"]) := goodIn_r _ [609, 610, 243, 244, 415, 614, 616, 618, 611, 612, 613] (by decide +kernel) (by decide +kernel)
  have h1 : GoodIn lw_tbl [.methodLink RX10 3 objectInit, .instanceMethod objectInit, .code objectInit ⟨#[0xb1]⟩ 1 none, .arrayClass .boolean, .fieldLink RX10 9 "CodeLifter$Truths" "variable" "[Z", .fieldLink RX10 15 "CodeLifter$Truths" "slot" "[Z", .fieldLink RX10 18 "CodeLifter$Truths" "fresh" "[Z", .fieldLink RX10 21 "CodeLifter$Truths" "blocks" "LCodeLifter$Blocks;", .fieldLink RX10 25 "CodeLifter$Truths" "pool" "LCodeLifter$Pool;", .fieldLink RX10 29 "CodeLifter$Truths" "lifted" "LCodeLifter$Lifted;"] := fun w h => h0 w (List.mem_cons_of_mem _ h)
  exact fun w h => (List.mem_cons.mp h).elim (fun e => h0 w (List.mem_cons.mpr (Or.inl e))) ((goodIn_app h1 gl_X10) w)
set_option maxRecDepth 20000 in
theorem gl_X4_init : GoodIn lw_tbl us_X4_init := by
  have h0 : GoodIn lw_tbl (.code yX4_init cX4_init 3 none :: [.methodLink RX4 3 objectInit, .instanceMethod objectInit, .code objectInit ⟨#[0xb1]⟩ 1 none, .arrayClass .int, .fieldLink RX4 9 "CodeLifter$Liveness" "begin" "[I", .fieldLink RX4 15 "CodeLifter$Liveness" "behind" "[I", .fieldLink RX4 18 "CodeLifter$Liveness" "listing" "LCodeLifter$Listing;", .fieldLink RX4 22 "CodeLifter$Liveness" "blocks" "LCodeLifter$Blocks;"]) := goodIn_r _ [637, 638, 243, 244, 323, 641, 643, 639, 640] (by decide +kernel) (by decide +kernel)
  have h1 : GoodIn lw_tbl [.methodLink RX4 3 objectInit, .instanceMethod objectInit, .code objectInit ⟨#[0xb1]⟩ 1 none, .arrayClass .int, .fieldLink RX4 9 "CodeLifter$Liveness" "begin" "[I", .fieldLink RX4 15 "CodeLifter$Liveness" "behind" "[I", .fieldLink RX4 18 "CodeLifter$Liveness" "listing" "LCodeLifter$Listing;", .fieldLink RX4 22 "CodeLifter$Liveness" "blocks" "LCodeLifter$Blocks;"] := fun w h => h0 w (List.mem_cons_of_mem _ h)
  exact fun w h => (List.mem_cons.mp h).elim (fun e => h0 w (List.mem_cons.mpr (Or.inl e))) ((goodIn_app h1 gl_X4) w)
set_option maxRecDepth 20000 in
theorem gl_X2_init : GoodIn lw_tbl us_X2_init := by
  have h0 : GoodIn lw_tbl (.code yX2_init cX2_init 4 none :: [.methodLink RX2 3 objectInit, .instanceMethod objectInit, .code objectInit ⟨#[0xb1]⟩ 1 none, .arrayClass .int, .fieldLink RX2 9 "CodeLifter$Lines" "kind" "[I", .fieldLink RX2 15 "CodeLifter$Lines" "block" "[I", .fieldLink RX2 18 "CodeLifter$Lines" "depth" "[I", .fieldLink RX2 21 "CodeLifter$Lines" "link" "[I", .fieldLink RX2 24 "CodeLifter$Lines" "label" "[I", .fieldLink RX2 27 "CodeLifter$Lines" "loopStart" "[I", .fieldLink RX2 30 "CodeLifter$Lines" "blockEnd" "[I", .fieldLink RX2 33 "CodeLifter$Lines" "openers" "[I", .fieldLink RX2 36 "CodeLifter$Lines" "blocks" "LCodeLifter$Blocks;", .fieldLink RX2 40 "CodeLifter$Lines" "shape" "LCodeLifter$Shape;", .fieldLink RX2 44 "CodeLifter$Lines" "lifted" "LCodeLifter$Lifted;"]) := goodIn_r _ [662, 663, 243, 244, 323, 670, 674, 678, 680, 683, 685, 687, 689, 664, 665, 666] (by decide +kernel) (by decide +kernel)
  have h1 : GoodIn lw_tbl [.methodLink RX2 3 objectInit, .instanceMethod objectInit, .code objectInit ⟨#[0xb1]⟩ 1 none, .arrayClass .int, .fieldLink RX2 9 "CodeLifter$Lines" "kind" "[I", .fieldLink RX2 15 "CodeLifter$Lines" "block" "[I", .fieldLink RX2 18 "CodeLifter$Lines" "depth" "[I", .fieldLink RX2 21 "CodeLifter$Lines" "link" "[I", .fieldLink RX2 24 "CodeLifter$Lines" "label" "[I", .fieldLink RX2 27 "CodeLifter$Lines" "loopStart" "[I", .fieldLink RX2 30 "CodeLifter$Lines" "blockEnd" "[I", .fieldLink RX2 33 "CodeLifter$Lines" "openers" "[I", .fieldLink RX2 36 "CodeLifter$Lines" "blocks" "LCodeLifter$Blocks;", .fieldLink RX2 40 "CodeLifter$Lines" "shape" "LCodeLifter$Shape;", .fieldLink RX2 44 "CodeLifter$Lines" "lifted" "LCodeLifter$Lifted;"] := fun w h => h0 w (List.mem_cons_of_mem _ h)
  exact fun w h => (List.mem_cons.mp h).elim (fun e => h0 w (List.mem_cons.mpr (Or.inl e))) ((goodIn_app h1 gl_X2) w)
set_option maxRecDepth 20000 in
theorem gl_X5_init : GoodIn lw_tbl us_X5_init := by
  have h0 : GoodIn lw_tbl (.code yX5_init cX5_init 6 none :: [.methodLink RX5 3 objectInit, .instanceMethod objectInit, .code objectInit ⟨#[0xb1]⟩ 1 none, .arrayClass .int, .fieldLink RX5 9 "CodeLifter$Machine" "variable" "[I", .fieldLink RX5 15 "CodeLifter$Machine" "slot" "[I", .fieldLink RX5 18 "CodeLifter$Machine" "fresh" "[I", .fieldLink RX5 21 "CodeLifter$Machine" "listing" "LCodeLifter$Listing;", .fieldLink RX5 25 "CodeLifter$Machine" "blocks" "LCodeLifter$Blocks;", .fieldLink RX5 29 "CodeLifter$Machine" "pool" "LCodeLifter$Pool;", .fieldLink RX5 33 "CodeLifter$Machine" "lifted" "LCodeLifter$Lifted;", .fieldLink RX5 37 "CodeLifter$Machine" "lines" "LCodeLifter$Lines;"]) := goodIn_r _ [722, 723, 243, 244, 323, 729, 731, 732, 724, 725, 726, 727, 728] (by decide +kernel) (by decide +kernel)
  have h1 : GoodIn lw_tbl [.methodLink RX5 3 objectInit, .instanceMethod objectInit, .code objectInit ⟨#[0xb1]⟩ 1 none, .arrayClass .int, .fieldLink RX5 9 "CodeLifter$Machine" "variable" "[I", .fieldLink RX5 15 "CodeLifter$Machine" "slot" "[I", .fieldLink RX5 18 "CodeLifter$Machine" "fresh" "[I", .fieldLink RX5 21 "CodeLifter$Machine" "listing" "LCodeLifter$Listing;", .fieldLink RX5 25 "CodeLifter$Machine" "blocks" "LCodeLifter$Blocks;", .fieldLink RX5 29 "CodeLifter$Machine" "pool" "LCodeLifter$Pool;", .fieldLink RX5 33 "CodeLifter$Machine" "lifted" "LCodeLifter$Lifted;", .fieldLink RX5 37 "CodeLifter$Machine" "lines" "LCodeLifter$Lines;"] := fun w h => h0 w (List.mem_cons_of_mem _ h)
  exact fun w h => (List.mem_cons.mp h).elim (fun e => h0 w (List.mem_cons.mpr (Or.inl e))) ((goodIn_app h1 gl_X5) w)
set_option maxRecDepth 20000 in
theorem gl_X6_init : GoodIn lw_tbl us_X6_init := by
  have h0 : GoodIn lw_tbl (.code yX6_init cX6_init 4 none :: [.methodLink RX6 3 objectInit, .instanceMethod objectInit, .code objectInit ⟨#[0xb1]⟩ 1 none, .arrayClass .int, .fieldLink RX6 9 "CodeLifter$Pen" "signs" "[I", .fieldLink RX6 15 "CodeLifter$Pen" "pool" "LCodeLifter$Pool;", .fieldLink RX6 19 "CodeLifter$Pen" "lifted" "LCodeLifter$Lifted;", .fieldLink RX6 23 "CodeLifter$Pen" "lines" "LCodeLifter$Lines;"]) := goodIn_r _ [797, 798, 243, 244, 323, 802, 799, 800, 801] (by decide +kernel) (by decide +kernel)
  have h1 : GoodIn lw_tbl [.methodLink RX6 3 objectInit, .instanceMethod objectInit, .code objectInit ⟨#[0xb1]⟩ 1 none, .arrayClass .int, .fieldLink RX6 9 "CodeLifter$Pen" "signs" "[I", .fieldLink RX6 15 "CodeLifter$Pen" "pool" "LCodeLifter$Pool;", .fieldLink RX6 19 "CodeLifter$Pen" "lifted" "LCodeLifter$Lifted;", .fieldLink RX6 23 "CodeLifter$Pen" "lines" "LCodeLifter$Lines;"] := fun w h => h0 w (List.mem_cons_of_mem _ h)
  exact fun w h => (List.mem_cons.mp h).elim (fun e => h0 w (List.mem_cons.mpr (Or.inl e))) ((goodIn_app h1 gl_X6) w)
set_option maxRecDepth 20000 in
theorem gl_X11_init : GoodIn lw_tbl us_X11_init := by
  have h0 : GoodIn lw_tbl (.code yX11_init cX11_init 1 none :: [.methodLink RX11 1 objectInit, .instanceMethod objectInit, .code objectInit ⟨#[0xb1]⟩ 1 none, .classLink RX11 7 RX9, .instantiable RX9 3, .initialized RX9, .instanceMethod yX9_init, .fieldLink RX11 10 "CodeLifter" "tape" "LCodeLifter$Tape;", .classLink RX11 16 RX3, .instantiable RX3 8, .initialized RX3, .instanceMethod yX3_init, .fieldLink RX11 19 "CodeLifter" "listing" "LCodeLifter$Listing;", .fieldLink RX11 23 "CodeLifter" "draft" "LCodeLifter$Listing;", .classLink RX11 26 RX0, .instantiable RX0 16, .initialized RX0, .methodLink RX11 28 yX0_init, .instanceMethod yX0_init, .fieldLink RX11 31 "CodeLifter" "blocks" "LCodeLifter$Blocks;", .classLink RX11 35 RX8, .instantiable RX8 18, .initialized RX8, .methodLink RX11 37 yX8_init, .instanceMethod yX8_init, .fieldLink RX11 40 "CodeLifter" "shape" "LCodeLifter$Shape;", .classLink RX11 44 RX7, .instantiable RX7 6, .initialized RX7, .instanceMethod yX7_init, .fieldLink RX11 47 "CodeLifter" "pool" "LCodeLifter$Pool;", .classLink RX11 51 RX1, .instantiable RX1 14, .initialized RX1, .methodLink RX11 53 yX1_init, .instanceMethod yX1_init, .fieldLink RX11 56 "CodeLifter" "lifted" "LCodeLifter$Lifted;", .classLink RX11 60 RX10, .instantiable RX10 6, .initialized RX10, .methodLink RX11 62 yX10_init, .instanceMethod yX10_init, .fieldLink RX11 65 "CodeLifter" "truths" "LCodeLifter$Truths;", .classLink RX11 69 RX4, .instantiable RX4 5, .initialized RX4, .methodLink RX11 71 yX4_init, .instanceMethod yX4_init, .fieldLink RX11 74 "CodeLifter" "liveness" "LCodeLifter$Liveness;", .classLink RX11 78 RX2, .instantiable RX2 13, .initialized RX2, .methodLink RX11 80 yX2_init, .instanceMethod yX2_init, .fieldLink RX11 83 "CodeLifter" "lines" "LCodeLifter$Lines;", .classLink RX11 87 RX5, .instantiable RX5 20, .initialized RX5, .methodLink RX11 89 yX5_init, .instanceMethod yX5_init, .fieldLink RX11 92 "CodeLifter" "machine" "LCodeLifter$Machine;", .classLink RX11 96 RX6, .instantiable RX6 5, .initialized RX6, .methodLink RX11 98 yX6_init, .instanceMethod yX6_init, .fieldLink RX11 101 "CodeLifter" "pen" "LCodeLifter$Pen;", .fieldLink RX11 105 "CodeLifter" "loaded" "Z"]) := goodIn_r _ [241, 242, 243, 244, 245, 246, 212, 248, 815, 264, 265, 213, 267, 816, 817, 324, 325, 214, 326, 327, 818, 416, 417, 215, 418, 419, 819, 494, 495, 216, 497, 820, 534, 535, 217, 536, 537, 821, 605, 606, 218, 607, 608, 822, 633, 634, 219, 635, 636, 823, 658, 659, 220, 660, 661, 824, 718, 719, 221, 720, 721, 825, 793, 794, 222, 795, 796, 826, 827] (by decide +kernel) (by decide +kernel)
  have h1 : GoodIn lw_tbl [.methodLink RX11 1 objectInit, .instanceMethod objectInit, .code objectInit ⟨#[0xb1]⟩ 1 none, .classLink RX11 7 RX9, .instantiable RX9 3, .initialized RX9, .instanceMethod yX9_init, .fieldLink RX11 10 "CodeLifter" "tape" "LCodeLifter$Tape;", .classLink RX11 16 RX3, .instantiable RX3 8, .initialized RX3, .instanceMethod yX3_init, .fieldLink RX11 19 "CodeLifter" "listing" "LCodeLifter$Listing;", .fieldLink RX11 23 "CodeLifter" "draft" "LCodeLifter$Listing;", .classLink RX11 26 RX0, .instantiable RX0 16, .initialized RX0, .methodLink RX11 28 yX0_init, .instanceMethod yX0_init, .fieldLink RX11 31 "CodeLifter" "blocks" "LCodeLifter$Blocks;", .classLink RX11 35 RX8, .instantiable RX8 18, .initialized RX8, .methodLink RX11 37 yX8_init, .instanceMethod yX8_init, .fieldLink RX11 40 "CodeLifter" "shape" "LCodeLifter$Shape;", .classLink RX11 44 RX7, .instantiable RX7 6, .initialized RX7, .instanceMethod yX7_init, .fieldLink RX11 47 "CodeLifter" "pool" "LCodeLifter$Pool;", .classLink RX11 51 RX1, .instantiable RX1 14, .initialized RX1, .methodLink RX11 53 yX1_init, .instanceMethod yX1_init, .fieldLink RX11 56 "CodeLifter" "lifted" "LCodeLifter$Lifted;", .classLink RX11 60 RX10, .instantiable RX10 6, .initialized RX10, .methodLink RX11 62 yX10_init, .instanceMethod yX10_init, .fieldLink RX11 65 "CodeLifter" "truths" "LCodeLifter$Truths;", .classLink RX11 69 RX4, .instantiable RX4 5, .initialized RX4, .methodLink RX11 71 yX4_init, .instanceMethod yX4_init, .fieldLink RX11 74 "CodeLifter" "liveness" "LCodeLifter$Liveness;", .classLink RX11 78 RX2, .instantiable RX2 13, .initialized RX2, .methodLink RX11 80 yX2_init, .instanceMethod yX2_init, .fieldLink RX11 83 "CodeLifter" "lines" "LCodeLifter$Lines;", .classLink RX11 87 RX5, .instantiable RX5 20, .initialized RX5, .methodLink RX11 89 yX5_init, .instanceMethod yX5_init, .fieldLink RX11 92 "CodeLifter" "machine" "LCodeLifter$Machine;", .classLink RX11 96 RX6, .instantiable RX6 5, .initialized RX6, .methodLink RX11 98 yX6_init, .instanceMethod yX6_init, .fieldLink RX11 101 "CodeLifter" "pen" "LCodeLifter$Pen;", .fieldLink RX11 105 "CodeLifter" "loaded" "Z"] := fun w h => h0 w (List.mem_cons_of_mem _ h)
  exact fun w h => (List.mem_cons.mp h).elim (fun e => h0 w (List.mem_cons.mpr (Or.inl e))) ((goodIn_app (goodIn_app (goodIn_app (goodIn_app (goodIn_app (goodIn_app (goodIn_app (goodIn_app (goodIn_app (goodIn_app (goodIn_app (goodIn_app (goodIn_app (goodIn_app (goodIn_app (goodIn_app (goodIn_app (goodIn_app (goodIn_app (goodIn_app (goodIn_app (goodIn_app (goodIn_app h1 gl_X9) gl_X11) gl_X3) gl_X0) gl_X8) gl_X7) gl_X1) gl_X10) gl_X4) gl_X2) gl_X5) gl_X6) gl_X9_init) gl_X3_init) gl_X0_init) gl_X8_init) gl_X7_init) gl_X1_init) gl_X10_init) gl_X4_init) gl_X2_init) gl_X5_init) gl_X6_init) w)
theorem ug_L_law_X11_init : GoodIn lw_tbl us_X11_init := gl_X11_init
set_option maxRecDepth 20000 in
theorem gl_X12_init : GoodIn lw_tbl us_X12_init := by
  have h0 : GoodIn lw_tbl (.code yX12_init cX12_init 1 none :: [.methodLink RX12 1 objectInit, .instanceMethod objectInit, .code objectInit ⟨#[0xb1]⟩ 1 none, .arrayClass .byte, .fieldLink RX12 9 "CodeLifterModel" "tape" "[B", .arrayClass .int, .fieldLink RX12 13 "CodeLifterModel" "signRead" "[I", .fieldLink RX12 17 "CodeLifterModel" "numberRead" "[I", .fieldLink RX12 20 "CodeLifterModel" "handlerRead" "[I", .fieldLink RX12 23 "CodeLifterModel" "sign" "[I", .fieldLink RX12 26 "CodeLifterModel" "number" "[I", .fieldLink RX12 29 "CodeLifterModel" "handler" "[I", .fieldLink RX12 32 "CodeLifterModel" "trySign" "[I", .fieldLink RX12 35 "CodeLifterModel" "tryNumber" "[I", .fieldLink RX12 38 "CodeLifterModel" "tryHandler" "[I", .fieldLink RX12 41 "CodeLifterModel" "tryStack" "[I", .fieldLink RX12 44 "CodeLifterModel" "stack" "[I", .fieldLink RX12 47 "CodeLifterModel" "first" "[I", .fieldLink RX12 50 "CodeLifterModel" "last" "[I", .fieldLink RX12 53 "CodeLifterModel" "blockOf" "[I", .fieldLink RX12 56 "CodeLifterModel" "throwsTo" "[I", .fieldLink RX12 59 "CodeLifterModel" "edgeFrom" "[I", .fieldLink RX12 62 "CodeLifterModel" "edgeTo" "[I", .arrayClass .boolean, .fieldLink RX12 65 "CodeLifterModel" "edgeThrows" "[Z", .fieldLink RX12 69 "CodeLifterModel" "isJump" "[Z", .fieldLink RX12 72 "CodeLifterModel" "isBack" "[Z", .arrayClass .long, .fieldLink RX12 75 "CodeLifterModel" "dominators" "[J", .fieldLink RX12 79 "CodeLifterModel" "loops" "[J", .fieldLink RX12 82 "CodeLifterModel" "order" "[I", .fieldLink RX12 85 "CodeLifterModel" "above" "[I", .fieldLink RX12 88 "CodeLifterModel" "kind" "[I", .fieldLink RX12 91 "CodeLifterModel" "left" "[I", .fieldLink RX12 94 "CodeLifterModel" "right" "[I", .fieldLink RX12 97 "CodeLifterModel" "stateKind" "[I", .fieldLink RX12 100 "CodeLifterModel" "stateWhich" "[I", .fieldLink RX12 103 "CodeLifterModel" "stateOf" "[I", .fieldLink RX12 106 "CodeLifterModel" "stateFrom" "[I", .fieldLink RX12 109 "CodeLifterModel" "condition" "[I", .fieldLink RX12 112 "CodeLifterModel" "lies" "[I", .fieldLink RX12 115 "CodeLifterModel" "isTruthVariable" "[Z", .fieldLink RX12 118 "CodeLifterModel" "isTruthT" "[Z", .fieldLink RX12 121 "CodeLifterModel" "isTruthX" "[Z", .fieldLink RX12 124 "CodeLifterModel" "liveIn" "[I", .fieldLink RX12 127 "CodeLifterModel" "liveOut" "[I", .fieldLink RX12 130 "CodeLifterModel" "isDead" "[Z", .fieldLink RX12 133 "CodeLifterModel" "lineKind" "[I", .fieldLink RX12 136 "CodeLifterModel" "lineBlock" "[I", .fieldLink RX12 139 "CodeLifterModel" "lineDeep" "[I", .fieldLink RX12 142 "CodeLifterModel" "lineOf" "[I", .fieldLink RX12 145 "CodeLifterModel" "isOut" "[Z", .fieldLink RX12 148 "CodeLifterModel" "spelled" "[I", .fieldLink RX12 151 "CodeLifterModel" "met" "[I", .fieldLink RX12 154 "CodeLifterModel" "variable" "[I", .fieldLink RX12 157 "CodeLifterModel" "outputs" "[I", .fieldLink RX12 160 "CodeLifterModel" "pile" "[I", .fieldLink RX12 163 "CodeLifterModel" "nameT" "[I", .fieldLink RX12 166 "CodeLifterModel" "nameX" "[I"]) := goodIn_r _ [1688, 1689, 243, 244, 263, 1691, 323, 1694, 1695, 1696, 1699, 1700, 1701, 1702, 1703, 1704, 1709, 1710, 1712, 1713, 1714, 1715, 1717, 1718, 415, 1719, 1720, 1721, 414, 1723, 1724, 1725, 1726, 1731, 1732, 1733, 1735, 1736, 1737, 1738, 1739, 1742, 1745, 1746, 1747, 1748, 1749, 1750, 1751, 1752, 1753, 1754, 1757, 1758, 1760, 1762, 1763, 1773, 1775, 1776] (by decide +kernel) (by decide +kernel)
  have h1 : GoodIn lw_tbl [.methodLink RX12 1 objectInit, .instanceMethod objectInit, .code objectInit ⟨#[0xb1]⟩ 1 none, .arrayClass .byte, .fieldLink RX12 9 "CodeLifterModel" "tape" "[B", .arrayClass .int, .fieldLink RX12 13 "CodeLifterModel" "signRead" "[I", .fieldLink RX12 17 "CodeLifterModel" "numberRead" "[I", .fieldLink RX12 20 "CodeLifterModel" "handlerRead" "[I", .fieldLink RX12 23 "CodeLifterModel" "sign" "[I", .fieldLink RX12 26 "CodeLifterModel" "number" "[I", .fieldLink RX12 29 "CodeLifterModel" "handler" "[I", .fieldLink RX12 32 "CodeLifterModel" "trySign" "[I", .fieldLink RX12 35 "CodeLifterModel" "tryNumber" "[I", .fieldLink RX12 38 "CodeLifterModel" "tryHandler" "[I", .fieldLink RX12 41 "CodeLifterModel" "tryStack" "[I", .fieldLink RX12 44 "CodeLifterModel" "stack" "[I", .fieldLink RX12 47 "CodeLifterModel" "first" "[I", .fieldLink RX12 50 "CodeLifterModel" "last" "[I", .fieldLink RX12 53 "CodeLifterModel" "blockOf" "[I", .fieldLink RX12 56 "CodeLifterModel" "throwsTo" "[I", .fieldLink RX12 59 "CodeLifterModel" "edgeFrom" "[I", .fieldLink RX12 62 "CodeLifterModel" "edgeTo" "[I", .arrayClass .boolean, .fieldLink RX12 65 "CodeLifterModel" "edgeThrows" "[Z", .fieldLink RX12 69 "CodeLifterModel" "isJump" "[Z", .fieldLink RX12 72 "CodeLifterModel" "isBack" "[Z", .arrayClass .long, .fieldLink RX12 75 "CodeLifterModel" "dominators" "[J", .fieldLink RX12 79 "CodeLifterModel" "loops" "[J", .fieldLink RX12 82 "CodeLifterModel" "order" "[I", .fieldLink RX12 85 "CodeLifterModel" "above" "[I", .fieldLink RX12 88 "CodeLifterModel" "kind" "[I", .fieldLink RX12 91 "CodeLifterModel" "left" "[I", .fieldLink RX12 94 "CodeLifterModel" "right" "[I", .fieldLink RX12 97 "CodeLifterModel" "stateKind" "[I", .fieldLink RX12 100 "CodeLifterModel" "stateWhich" "[I", .fieldLink RX12 103 "CodeLifterModel" "stateOf" "[I", .fieldLink RX12 106 "CodeLifterModel" "stateFrom" "[I", .fieldLink RX12 109 "CodeLifterModel" "condition" "[I", .fieldLink RX12 112 "CodeLifterModel" "lies" "[I", .fieldLink RX12 115 "CodeLifterModel" "isTruthVariable" "[Z", .fieldLink RX12 118 "CodeLifterModel" "isTruthT" "[Z", .fieldLink RX12 121 "CodeLifterModel" "isTruthX" "[Z", .fieldLink RX12 124 "CodeLifterModel" "liveIn" "[I", .fieldLink RX12 127 "CodeLifterModel" "liveOut" "[I", .fieldLink RX12 130 "CodeLifterModel" "isDead" "[Z", .fieldLink RX12 133 "CodeLifterModel" "lineKind" "[I", .fieldLink RX12 136 "CodeLifterModel" "lineBlock" "[I", .fieldLink RX12 139 "CodeLifterModel" "lineDeep" "[I", .fieldLink RX12 142 "CodeLifterModel" "lineOf" "[I", .fieldLink RX12 145 "CodeLifterModel" "isOut" "[Z", .fieldLink RX12 148 "CodeLifterModel" "spelled" "[I", .fieldLink RX12 151 "CodeLifterModel" "met" "[I", .fieldLink RX12 154 "CodeLifterModel" "variable" "[I", .fieldLink RX12 157 "CodeLifterModel" "outputs" "[I", .fieldLink RX12 160 "CodeLifterModel" "pile" "[I", .fieldLink RX12 163 "CodeLifterModel" "nameT" "[I", .fieldLink RX12 166 "CodeLifterModel" "nameX" "[I"] := fun w h => h0 w (List.mem_cons_of_mem _ h)
  exact fun w h => (List.mem_cons.mp h).elim (fun e => h0 w (List.mem_cons.mpr (Or.inl e))) ((goodIn_app h1 gl_X12) w)
theorem ug_L_law_X12_init : GoodIn lw_tbl us_X12_init := gl_X12_init
set_option maxRecDepth 20000 in
theorem gl_X11_bytesIn : GoodIn lw_tbl us_X11_bytesIn := by
  have h0 : GoodIn lw_tbl (.code yX11_bytesIn cX11_bytesIn 3 (some .int) :: []) := goodIn_r _ [861] (by decide +kernel) (by decide +kernel)
  have h1 : GoodIn lw_tbl [] := fun w h => h0 w (List.mem_cons_of_mem _ h)
  exact fun w h => (List.mem_cons.mp h).elim (fun e => h0 w (List.mem_cons.mpr (Or.inl e))) (h1 w)
set_option maxRecDepth 20000 in
theorem gl_X9_append : GoodIn lw_tbl us_X9_append := by
  have h0 : GoodIn lw_tbl (.code yX9_append cX9_append 4 none :: [.fieldLink RX9 15 "CodeLifter$Tape" "length" "I", .fieldLink RX9 9 "CodeLifter$Tape" "bytes" "[B"]) := goodIn_r _ [865, 252, 251] (by decide +kernel) (by decide +kernel)
  have h1 : GoodIn lw_tbl [.fieldLink RX9 15 "CodeLifter$Tape" "length" "I", .fieldLink RX9 9 "CodeLifter$Tape" "bytes" "[B"] := fun w h => h0 w (List.mem_cons_of_mem _ h)
  exact fun w h => (List.mem_cons.mp h).elim (fun e => h0 w (List.mem_cons.mpr (Or.inl e))) ((goodIn_app h1 gl_X9) w)
set_option maxRecDepth 20000 in
theorem gl_X11_feed : GoodIn lw_tbl us_X11_feed := by
  have h0 : GoodIn lw_tbl (.code yX11_feed cX11_feed 7 (some .int) :: [.methodLink RX11 109 yX11_bytesIn, .static yX11_bytesIn, .initialized RX11, .fieldLink RX11 10 "CodeLifter" "tape" "LCodeLifter$Tape;", .fieldLink RX11 113 "CodeLifter$Tape" "length" "I", .methodLink RX11 117 yX9_append, .instanceMethod yX9_append, .selects RX9 yX9_append yX9_append, .initialized RX9]) := goodIn_r _ [858, 859, 860, 211, 815, 253, 862, 863, 864, 212] (by decide +kernel) (by decide +kernel)
  have h1 : GoodIn lw_tbl [.methodLink RX11 109 yX11_bytesIn, .static yX11_bytesIn, .initialized RX11, .fieldLink RX11 10 "CodeLifter" "tape" "LCodeLifter$Tape;", .fieldLink RX11 113 "CodeLifter$Tape" "length" "I", .methodLink RX11 117 yX9_append, .instanceMethod yX9_append, .selects RX9 yX9_append yX9_append, .initialized RX9] := fun w h => h0 w (List.mem_cons_of_mem _ h)
  exact fun w h => (List.mem_cons.mp h).elim (fun e => h0 w (List.mem_cons.mpr (Or.inl e))) ((goodIn_app (goodIn_app (goodIn_app (goodIn_app h1 gl_X11) gl_X9) gl_X11_bytesIn) gl_X9_append) w)
set_option maxRecDepth 20000 in
theorem ug_L_law_X11_feed : GoodIn lw_tbl (wsV RL 22 RX11 yX11_feed us_X11_feed) := goodIn_app (goodIn_r _ [855, 856, 857, 211] (by decide +kernel) (by decide +kernel)) gl_X11_feed
set_option maxRecDepth 20000 in
theorem gl_X12_bytesOf : GoodIn lw_tbl us_X12_bytesOf := by
  have h0 : GoodIn lw_tbl (.code yX12_bytesOf cX12_bytesOf 3 (some .int) :: []) := goodIn_r _ [1962] (by decide +kernel) (by decide +kernel)
  have h1 : GoodIn lw_tbl [] := fun w h => h0 w (List.mem_cons_of_mem _ h)
  exact fun w h => (List.mem_cons.mp h).elim (fun e => h0 w (List.mem_cons.mpr (Or.inl e))) (h1 w)
set_option maxRecDepth 20000 in
theorem gl_X12_brings : GoodIn lw_tbl us_X12_brings := by
  have h0 : GoodIn lw_tbl (.code yX12_brings cX12_brings 4 none :: [.fieldLink RX12 9 "CodeLifterModel" "tape" "[B", .fieldLink RX12 177 "CodeLifterModel" "length" "I"]) := goodIn_r _ [1966, 1691, 1692] (by decide +kernel) (by decide +kernel)
  have h1 : GoodIn lw_tbl [.fieldLink RX12 9 "CodeLifterModel" "tape" "[B", .fieldLink RX12 177 "CodeLifterModel" "length" "I"] := fun w h => h0 w (List.mem_cons_of_mem _ h)
  exact fun w h => (List.mem_cons.mp h).elim (fun e => h0 w (List.mem_cons.mpr (Or.inl e))) ((goodIn_app h1 gl_X12) w)
set_option maxRecDepth 20000 in
theorem gl_X12_feed : GoodIn lw_tbl us_X12_feed := by
  have h0 : GoodIn lw_tbl (.code yX12_feed cX12_feed 6 (some .int) :: [.fieldLink RX12 169 "CodeLifterModel" "thrown" "I", .fieldLink RX12 177 "CodeLifterModel" "length" "I", .methodLink RX12 180 yX12_bytesOf, .static yX12_bytesOf, .initialized RX12, .methodLink RX12 184 yX12_brings, .instanceMethod yX12_brings, .selects RX12 yX12_brings yX12_brings]) := goodIn_r _ [1959, 1690, 1692, 1960, 1961, 223, 1963, 1965, 89] (by decide +kernel) (by decide +kernel)
  have h1 : GoodIn lw_tbl [.fieldLink RX12 169 "CodeLifterModel" "thrown" "I", .fieldLink RX12 177 "CodeLifterModel" "length" "I", .methodLink RX12 180 yX12_bytesOf, .static yX12_bytesOf, .initialized RX12, .methodLink RX12 184 yX12_brings, .instanceMethod yX12_brings, .selects RX12 yX12_brings yX12_brings] := fun w h => h0 w (List.mem_cons_of_mem _ h)
  exact fun w h => (List.mem_cons.mp h).elim (fun e => h0 w (List.mem_cons.mpr (Or.inl e))) ((goodIn_app (goodIn_app (goodIn_app h1 gl_X12) gl_X12_bytesOf) gl_X12_brings) w)
set_option maxRecDepth 20000 in
theorem ug_L_law_X12_feed : GoodIn lw_tbl (wsV RL 26 RX12 yX12_feed us_X12_feed) := goodIn_app (goodIn_r _ [1956, 1957, 1958, 223] (by decide +kernel) (by decide +kernel)) gl_X12_feed
set_option maxRecDepth 20000 in
theorem gl_X11_end : GoodIn lw_tbl us_X11_end := by
  have h0 : GoodIn lw_tbl (.code yX11_end cX11_end 2 (some .boolean) :: [.fieldLink RX11 10 "CodeLifter" "tape" "LCodeLifter$Tape;", .fieldLink RX11 113 "CodeLifter$Tape" "length" "I"]) := goodIn_r _ [869, 815, 253] (by decide +kernel) (by decide +kernel)
  have h1 : GoodIn lw_tbl [.fieldLink RX11 10 "CodeLifter" "tape" "LCodeLifter$Tape;", .fieldLink RX11 113 "CodeLifter$Tape" "length" "I"] := fun w h => h0 w (List.mem_cons_of_mem _ h)
  exact fun w h => (List.mem_cons.mp h).elim (fun e => h0 w (List.mem_cons.mpr (Or.inl e))) ((goodIn_app (goodIn_app h1 gl_X11) gl_X9) w)
set_option maxRecDepth 20000 in
theorem ug_L_law_X11_end : GoodIn lw_tbl (wsV RL 27 RX11 yX11_end us_X11_end) := goodIn_app (goodIn_r _ [866, 867, 868, 211] (by decide +kernel) (by decide +kernel)) gl_X11_end
set_option maxRecDepth 20000 in
theorem gl_X12_end : GoodIn lw_tbl us_X12_end := by
  have h0 : GoodIn lw_tbl (.code yX12_end cX12_end 2 (some .boolean) :: [.fieldLink RX12 169 "CodeLifterModel" "thrown" "I", .fieldLink RX12 177 "CodeLifterModel" "length" "I"]) := goodIn_r _ [1970, 1690, 1692] (by decide +kernel) (by decide +kernel)
  have h1 : GoodIn lw_tbl [.fieldLink RX12 169 "CodeLifterModel" "thrown" "I", .fieldLink RX12 177 "CodeLifterModel" "length" "I"] := fun w h => h0 w (List.mem_cons_of_mem _ h)
  exact fun w h => (List.mem_cons.mp h).elim (fun e => h0 w (List.mem_cons.mpr (Or.inl e))) ((goodIn_app h1 gl_X12) w)
set_option maxRecDepth 20000 in
theorem ug_L_law_X12_end : GoodIn lw_tbl (wsV RL 31 RX12 yX12_end us_X12_end) := goodIn_app (goodIn_r _ [1967, 1968, 1969, 223] (by decide +kernel) (by decide +kernel)) gl_X12_end
set_option maxRecDepth 20000 in
theorem gl_X9_skipBlanks : GoodIn lw_tbl us_X9_skipBlanks := by
  have h0 : GoodIn lw_tbl (.code yX9_skipBlanks cX9_skipBlanks 1 none :: [.fieldLink RX9 19 "CodeLifter$Tape" "at" "I", .fieldLink RX9 15 "CodeLifter$Tape" "length" "I"]) := goodIn_r _ [881, 254, 252] (by decide +kernel) (by decide +kernel)
  have h1 : GoodIn lw_tbl [.fieldLink RX9 19 "CodeLifter$Tape" "at" "I", .fieldLink RX9 15 "CodeLifter$Tape" "length" "I"] := fun w h => h0 w (List.mem_cons_of_mem _ h)
  exact fun w h => (List.mem_cons.mp h).elim (fun e => h0 w (List.mem_cons.mpr (Or.inl e))) ((goodIn_app h1 gl_X9) w)
set_option maxRecDepth 20000 in
theorem gl_X9_read : GoodIn lw_tbl us_X9_read := by
  have h0 : GoodIn lw_tbl (.code yX9_read cX9_read 3 (some .boolean) :: [.fieldLink RX9 19 "CodeLifter$Tape" "at" "I", .fieldLink RX9 22 "CodeLifter$Listing" "size" "I", .fieldLink RX9 27 "CodeLifter$Listing" "handlers" "I", .methodLink RX9 30 yX9_skipBlanks, .instanceMethod yX9_skipBlanks, .selects RX9 yX9_skipBlanks yX9_skipBlanks, .initialized RX9, .fieldLink RX9 15 "CodeLifter$Tape" "length" "I"]) := goodIn_r _ [877, 254, 272, 276, 878, 880, 0, 212, 252] (by decide +kernel) (by decide +kernel)
  have h1 : GoodIn lw_tbl [.fieldLink RX9 19 "CodeLifter$Tape" "at" "I", .fieldLink RX9 22 "CodeLifter$Listing" "size" "I", .fieldLink RX9 27 "CodeLifter$Listing" "handlers" "I", .methodLink RX9 30 yX9_skipBlanks, .instanceMethod yX9_skipBlanks, .selects RX9 yX9_skipBlanks yX9_skipBlanks, .initialized RX9, .fieldLink RX9 15 "CodeLifter$Tape" "length" "I"] := fun w h => h0 w (List.mem_cons_of_mem _ h)
  exact fun w h => (List.mem_cons.mp h).elim (fun e => h0 w (List.mem_cons.mpr (Or.inl e))) ((goodIn_app (goodIn_app (goodIn_app h1 gl_X9) gl_X3) gl_X9_skipBlanks) w)
set_option maxRecDepth 20000 in
theorem gl_X11_fault : GoodIn lw_tbl us_X11_fault := by
  have h0 : GoodIn lw_tbl (.code yX11_fault cX11_fault 1 (some .int) :: [.fieldLink RX11 10 "CodeLifter" "tape" "LCodeLifter$Tape;", .fieldLink RX11 23 "CodeLifter" "draft" "LCodeLifter$Listing;", .methodLink RX11 121 yX9_read, .instanceMethod yX9_read, .selects RX9 yX9_read yX9_read, .initialized RX9, .fieldLink RX11 125 "CodeLifter$Tape" "at" "I"]) := goodIn_r _ [873, 815, 817, 874, 875, 876, 212, 255] (by decide +kernel) (by decide +kernel)
  have h1 : GoodIn lw_tbl [.fieldLink RX11 10 "CodeLifter" "tape" "LCodeLifter$Tape;", .fieldLink RX11 23 "CodeLifter" "draft" "LCodeLifter$Listing;", .methodLink RX11 121 yX9_read, .instanceMethod yX9_read, .selects RX9 yX9_read yX9_read, .initialized RX9, .fieldLink RX11 125 "CodeLifter$Tape" "at" "I"] := fun w h => h0 w (List.mem_cons_of_mem _ h)
  exact fun w h => (List.mem_cons.mp h).elim (fun e => h0 w (List.mem_cons.mpr (Or.inl e))) ((goodIn_app (goodIn_app (goodIn_app h1 gl_X11) gl_X9) gl_X9_read) w)
set_option maxRecDepth 20000 in
theorem ug_L_law_X11_fault : GoodIn lw_tbl (wsV RL 32 RX11 yX11_fault us_X11_fault) := goodIn_app (goodIn_r _ [870, 871, 872, 211] (by decide +kernel) (by decide +kernel)) gl_X11_fault
set_option maxRecDepth 20000 in
theorem gl_X12_here : GoodIn lw_tbl us_X12_here := by
  have h0 : GoodIn lw_tbl (.code yX12_here cX12_here 1 (some .int) :: [.fieldLink RX12 188 "CodeLifterModel" "at" "I", .fieldLink RX12 177 "CodeLifterModel" "length" "I"]) := goodIn_r _ [1986, 1693, 1692] (by decide +kernel) (by decide +kernel)
  have h1 : GoodIn lw_tbl [.fieldLink RX12 188 "CodeLifterModel" "at" "I", .fieldLink RX12 177 "CodeLifterModel" "length" "I"] := fun w h => h0 w (List.mem_cons_of_mem _ h)
  exact fun w h => (List.mem_cons.mp h).elim (fun e => h0 w (List.mem_cons.mpr (Or.inl e))) ((goodIn_app h1 gl_X12) w)
set_option maxRecDepth 20000 in
theorem gl_X12_look : GoodIn lw_tbl us_X12_look := by
  have h0 : GoodIn lw_tbl (.code yX12_look cX12_look 1 (some .int) :: [.methodLink RX12 191 yX12_here, .instanceMethod yX12_here, .selects RX12 yX12_here yX12_here, .initialized RX12]) := goodIn_r _ [1982, 1983, 1985, 92, 223] (by decide +kernel) (by decide +kernel)
  have h1 : GoodIn lw_tbl [.methodLink RX12 191 yX12_here, .instanceMethod yX12_here, .selects RX12 yX12_here yX12_here, .initialized RX12] := fun w h => h0 w (List.mem_cons_of_mem _ h)
  exact fun w h => (List.mem_cons.mp h).elim (fun e => h0 w (List.mem_cons.mpr (Or.inl e))) ((goodIn_app h1 gl_X12_here) w)
set_option maxRecDepth 20000 in
theorem gl_X12_isText : GoodIn lw_tbl us_X12_isText := by
  have h0 : GoodIn lw_tbl (.code yX12_isText cX12_isText 2 (some .boolean) :: [.fieldLink RX12 188 "CodeLifterModel" "at" "I", .fieldLink RX12 216 "CodeLifterModel" "codesRead" "I", .fieldLink RX12 230 "CodeLifterModel" "handlersRead" "I", .methodLink RX12 195 yX12_look, .instanceMethod yX12_look, .selects RX12 yX12_look yX12_look, .initialized RX12]) := goodIn_r _ [1978, 1693, 1697, 1698, 1979, 1981, 91, 223] (by decide +kernel) (by decide +kernel)
  have h1 : GoodIn lw_tbl [.fieldLink RX12 188 "CodeLifterModel" "at" "I", .fieldLink RX12 216 "CodeLifterModel" "codesRead" "I", .fieldLink RX12 230 "CodeLifterModel" "handlersRead" "I", .methodLink RX12 195 yX12_look, .instanceMethod yX12_look, .selects RX12 yX12_look yX12_look, .initialized RX12] := fun w h => h0 w (List.mem_cons_of_mem _ h)
  exact fun w h => (List.mem_cons.mp h).elim (fun e => h0 w (List.mem_cons.mpr (Or.inl e))) ((goodIn_app (goodIn_app h1 gl_X12) gl_X12_look) w)
set_option maxRecDepth 20000 in
theorem gl_X12_fault : GoodIn lw_tbl us_X12_fault := by
  have h0 : GoodIn lw_tbl (.code yX12_fault cX12_fault 1 (some .int) :: [.fieldLink RX12 169 "CodeLifterModel" "thrown" "I", .methodLink RX12 241 yX12_isText, .instanceMethod yX12_isText, .selects RX12 yX12_isText yX12_isText, .initialized RX12, .fieldLink RX12 188 "CodeLifterModel" "at" "I"]) := goodIn_r _ [1974, 1690, 1975, 1977, 90, 223, 1693] (by decide +kernel) (by decide +kernel)
  have h1 : GoodIn lw_tbl [.fieldLink RX12 169 "CodeLifterModel" "thrown" "I", .methodLink RX12 241 yX12_isText, .instanceMethod yX12_isText, .selects RX12 yX12_isText yX12_isText, .initialized RX12, .fieldLink RX12 188 "CodeLifterModel" "at" "I"] := fun w h => h0 w (List.mem_cons_of_mem _ h)
  exact fun w h => (List.mem_cons.mp h).elim (fun e => h0 w (List.mem_cons.mpr (Or.inl e))) ((goodIn_app (goodIn_app h1 gl_X12) gl_X12_isText) w)
set_option maxRecDepth 20000 in
theorem ug_L_law_X12_fault : GoodIn lw_tbl (wsV RL 36 RX12 yX12_fault us_X12_fault) := goodIn_app (goodIn_r _ [1971, 1972, 1973, 223] (by decide +kernel) (by decide +kernel)) gl_X12_fault
set_option maxRecDepth 20000 in
theorem gl_X11_code : GoodIn lw_tbl us_X11_code := by
  have h0 : GoodIn lw_tbl (.code yX11_code cX11_code 2 (some .int) :: [.fieldLink RX11 10 "CodeLifter" "tape" "LCodeLifter$Tape;", .fieldLink RX11 23 "CodeLifter" "draft" "LCodeLifter$Listing;", .methodLink RX11 121 yX9_read, .instanceMethod yX9_read, .selects RX9 yX9_read yX9_read, .initialized RX9]) := goodIn_r _ [918, 815, 817, 874, 875, 876, 212] (by decide +kernel) (by decide +kernel)
  have h1 : GoodIn lw_tbl [.fieldLink RX11 10 "CodeLifter" "tape" "LCodeLifter$Tape;", .fieldLink RX11 23 "CodeLifter" "draft" "LCodeLifter$Listing;", .methodLink RX11 121 yX9_read, .instanceMethod yX9_read, .selects RX9 yX9_read yX9_read, .initialized RX9] := fun w h => h0 w (List.mem_cons_of_mem _ h)
  exact fun w h => (List.mem_cons.mp h).elim (fun e => h0 w (List.mem_cons.mpr (Or.inl e))) ((goodIn_app (goodIn_app h1 gl_X11) gl_X9_read) w)
set_option maxRecDepth 20000 in
theorem ug_L_law_X11_code : GoodIn lw_tbl (wsV RL 37 RX11 yX11_code us_X11_code) := goodIn_app (goodIn_r _ [915, 916, 917, 211] (by decide +kernel) (by decide +kernel)) gl_X11_code
set_option maxRecDepth 20000 in
theorem gl_X12_code : GoodIn lw_tbl us_X12_code := by
  have h0 : GoodIn lw_tbl (.code yX12_code cX12_code 2 (some .int) :: [.fieldLink RX12 169 "CodeLifterModel" "thrown" "I", .methodLink RX12 241 yX12_isText, .instanceMethod yX12_isText, .selects RX12 yX12_isText yX12_isText, .initialized RX12]) := goodIn_r _ [2024, 1690, 1975, 1977, 90, 223] (by decide +kernel) (by decide +kernel)
  have h1 : GoodIn lw_tbl [.fieldLink RX12 169 "CodeLifterModel" "thrown" "I", .methodLink RX12 241 yX12_isText, .instanceMethod yX12_isText, .selects RX12 yX12_isText yX12_isText, .initialized RX12] := fun w h => h0 w (List.mem_cons_of_mem _ h)
  exact fun w h => (List.mem_cons.mp h).elim (fun e => h0 w (List.mem_cons.mpr (Or.inl e))) ((goodIn_app (goodIn_app h1 gl_X12) gl_X12_isText) w)
set_option maxRecDepth 20000 in
theorem ug_L_law_X12_code : GoodIn lw_tbl (wsV RL 40 RX12 yX12_code us_X12_code) := goodIn_app (goodIn_r _ [2021, 2022, 2023, 223] (by decide +kernel) (by decide +kernel)) gl_X12_code
set_option maxRecDepth 20000 in
theorem gl_X11_put : GoodIn lw_tbl us_X11_put := by
  have h0 : GoodIn lw_tbl (.code yX11_put cX11_put 5 (some .int) :: [.fieldLink RX11 105 "CodeLifter" "loaded" "Z"]) := goodIn_r _ [1275, 827] (by decide +kernel) (by decide +kernel)
  have h1 : GoodIn lw_tbl [.fieldLink RX11 105 "CodeLifter" "loaded" "Z"] := fun w h => h0 w (List.mem_cons_of_mem _ h)
  exact fun w h => (List.mem_cons.mp h).elim (fun e => h0 w (List.mem_cons.mpr (Or.inl e))) ((goodIn_app h1 gl_X11) w)
set_option maxRecDepth 20000 in
theorem ug_L_law_X11_put : GoodIn lw_tbl (wsV RL 41 RX11 yX11_put us_X11_put) := goodIn_app (goodIn_r _ [1272, 1273, 1274, 211] (by decide +kernel) (by decide +kernel)) gl_X11_put
set_option maxRecDepth 20000 in
theorem gl_X12_put : GoodIn lw_tbl us_X12_put := by
  have h0 : GoodIn lw_tbl (.code yX12_put cX12_put 5 (some .int) :: [.fieldLink RX12 169 "CodeLifterModel" "thrown" "I", .fieldLink RX12 292 "CodeLifterModel" "isThere" "Z"]) := goodIn_r _ [2310, 1690, 1711] (by decide +kernel) (by decide +kernel)
  have h1 : GoodIn lw_tbl [.fieldLink RX12 169 "CodeLifterModel" "thrown" "I", .fieldLink RX12 292 "CodeLifterModel" "isThere" "Z"] := fun w h => h0 w (List.mem_cons_of_mem _ h)
  exact fun w h => (List.mem_cons.mp h).elim (fun e => h0 w (List.mem_cons.mpr (Or.inl e))) ((goodIn_app h1 gl_X12) w)
set_option maxRecDepth 20000 in
theorem ug_L_law_X12_put : GoodIn lw_tbl (wsV RL 45 RX12 yX12_put us_X12_put) := goodIn_app (goodIn_r _ [2307, 2308, 2309, 223] (by decide +kernel) (by decide +kernel)) gl_X12_put
set_option maxRecDepth 20000 in
theorem gl_X11_count : GoodIn lw_tbl us_X11_count := by
  have h0 : GoodIn lw_tbl (.code yX11_count cX11_count 2 (some .int) :: [.fieldLink RX11 105 "CodeLifter" "loaded" "Z", .constant RX11 153 (-1000000), .fieldLink RX11 10 "CodeLifter" "tape" "LCodeLifter$Tape;", .fieldLink RX11 113 "CodeLifter$Tape" "length" "I"]) := goodIn_r _ [1283, 827, 1284, 815, 253] (by decide +kernel) (by decide +kernel)
  have h1 : GoodIn lw_tbl [.fieldLink RX11 105 "CodeLifter" "loaded" "Z", .constant RX11 153 (-1000000), .fieldLink RX11 10 "CodeLifter" "tape" "LCodeLifter$Tape;", .fieldLink RX11 113 "CodeLifter$Tape" "length" "I"] := fun w h => h0 w (List.mem_cons_of_mem _ h)
  exact fun w h => (List.mem_cons.mp h).elim (fun e => h0 w (List.mem_cons.mpr (Or.inl e))) ((goodIn_app (goodIn_app h1 gl_X11) gl_X9) w)
set_option maxRecDepth 20000 in
theorem ug_L_law_X11_count : GoodIn lw_tbl (wsV RL 46 RX11 yX11_count us_X11_count) := goodIn_app (goodIn_r _ [1280, 1281, 1282, 211] (by decide +kernel) (by decide +kernel)) gl_X11_count
set_option maxRecDepth 20000 in
theorem gl_X12_count : GoodIn lw_tbl us_X12_count := by
  have h0 : GoodIn lw_tbl (.code yX12_count cX12_count 2 (some .int) :: [.fieldLink RX12 169 "CodeLifterModel" "thrown" "I", .fieldLink RX12 292 "CodeLifterModel" "isThere" "Z", .constant RX12 614 (-1000000), .fieldLink RX12 177 "CodeLifterModel" "length" "I"]) := goodIn_r _ [2401, 1690, 1711, 2380, 1692] (by decide +kernel) (by decide +kernel)
  have h1 : GoodIn lw_tbl [.fieldLink RX12 169 "CodeLifterModel" "thrown" "I", .fieldLink RX12 292 "CodeLifterModel" "isThere" "Z", .constant RX12 614 (-1000000), .fieldLink RX12 177 "CodeLifterModel" "length" "I"] := fun w h => h0 w (List.mem_cons_of_mem _ h)
  exact fun w h => (List.mem_cons.mp h).elim (fun e => h0 w (List.mem_cons.mpr (Or.inl e))) ((goodIn_app h1 gl_X12) w)
set_option maxRecDepth 20000 in
theorem ug_L_law_X12_count : GoodIn lw_tbl (wsV RL 50 RX12 yX12_count us_X12_count) := goodIn_app (goodIn_r _ [2398, 2399, 2400, 223] (by decide +kernel) (by decide +kernel)) gl_X12_count
set_option maxRecDepth 20000 in
theorem gl_X11_instruction : GoodIn lw_tbl us_X11_instruction := by
  have h0 : GoodIn lw_tbl (.code yX11_instruction cX11_instruction 3 (some .int) :: [.fieldLink RX11 105 "CodeLifter" "loaded" "Z", .classLink RX11 196 "java/util/NoSuchElementException", .initialized "java/util/NoSuchElementException"]) := goodIn_r _ [1604, 827, 1605, 236] (by decide +kernel) (by decide +kernel)
  have h1 : GoodIn lw_tbl [.fieldLink RX11 105 "CodeLifter" "loaded" "Z", .classLink RX11 196 "java/util/NoSuchElementException", .initialized "java/util/NoSuchElementException"] := fun w h => h0 w (List.mem_cons_of_mem _ h)
  exact fun w h => (List.mem_cons.mp h).elim (fun e => h0 w (List.mem_cons.mpr (Or.inl e))) ((goodIn_app (goodIn_app h1 gl_X11) gl_ats) w)
set_option maxRecDepth 20000 in
theorem gl_L_instruction : GoodIn lw_tbl us_L_instruction := by
  have h0 : GoodIn lw_tbl (.codeWith yL_instruction cL_instruction 5 (some .int) [(0, 10, 13, 13)] :: [.methodLink RL 7 yX11_instruction, .instanceMethod yX11_instruction, .selects RX11 yX11_instruction yX11_instruction, .initialized RX11, .classLink RL 13 "java/util/NoSuchElementException"]) := goodIn_r _ [1599, 1601, 1602, 1603, 211, 1600] (by decide +kernel) (by decide +kernel)
  have h1 : GoodIn lw_tbl [.methodLink RL 7 yX11_instruction, .instanceMethod yX11_instruction, .selects RX11 yX11_instruction yX11_instruction, .initialized RX11, .classLink RL 13 "java/util/NoSuchElementException"] := fun w h => h0 w (List.mem_cons_of_mem _ h)
  exact fun w h => (List.mem_cons.mp h).elim (fun e => h0 w (List.mem_cons.mpr (Or.inl e))) ((goodIn_app h1 gl_X11_instruction) w)
set_option maxRecDepth 20000 in
theorem ug_L_law_L_instruction : GoodIn lw_tbl (va_wsS RL 51 yL_instruction us_L_instruction) := goodIn_app (goodIn_r _ [1597, 1598, 210] (by decide +kernel) (by decide +kernel)) gl_L_instruction
set_option maxRecDepth 20000 in
theorem gl_X12_instruction_ : GoodIn lw_tbl us_X12_instruction_ := by
  have h0 : GoodIn lw_tbl (.code yX12_instruction_ cX12_instruction_ 3 (some .int) :: [.fieldLink RX12 292 "CodeLifterModel" "isThere" "Z", .fieldLink RX12 169 "CodeLifterModel" "thrown" "I"]) := goodIn_r _ [2429, 1711, 1690] (by decide +kernel) (by decide +kernel)
  have h1 : GoodIn lw_tbl [.fieldLink RX12 292 "CodeLifterModel" "isThere" "Z", .fieldLink RX12 169 "CodeLifterModel" "thrown" "I"] := fun w h => h0 w (List.mem_cons_of_mem _ h)
  exact fun w h => (List.mem_cons.mp h).elim (fun e => h0 w (List.mem_cons.mpr (Or.inl e))) ((goodIn_app h1 gl_X12) w)
set_option maxRecDepth 20000 in
theorem ug_L_law_X12_instruction_ : GoodIn lw_tbl (wsV RL 56 RX12 yX12_instruction_ us_X12_instruction_) := goodIn_app (goodIn_r _ [2426, 2427, 2428, 223] (by decide +kernel) (by decide +kernel)) gl_X12_instruction_
set_option maxRecDepth 20000 in
theorem gl_X12_thrown : GoodIn lw_tbl us_X12_thrown := by
  have h0 : GoodIn lw_tbl (.code yX12_thrown cX12_thrown 1 (some .int) :: [.fieldLink RX12 169 "CodeLifterModel" "thrown" "I"]) := goodIn_r _ [1955, 1690] (by decide +kernel) (by decide +kernel)
  have h1 : GoodIn lw_tbl [.fieldLink RX12 169 "CodeLifterModel" "thrown" "I"] := fun w h => h0 w (List.mem_cons_of_mem _ h)
  exact fun w h => (List.mem_cons.mp h).elim (fun e => h0 w (List.mem_cons.mpr (Or.inl e))) ((goodIn_app h1 gl_X12) w)
set_option maxRecDepth 20000 in
theorem ug_L_law_X12_thrown : GoodIn lw_tbl (wsV RL 57 RX12 yX12_thrown us_X12_thrown) := goodIn_app (goodIn_r _ [1952, 1953, 1954, 223] (by decide +kernel) (by decide +kernel)) gl_X12_thrown
set_option maxRecDepth 20000 in
theorem gl_X11_isBlock : GoodIn lw_tbl us_X11_isBlock := by
  have h0 : GoodIn lw_tbl (.code yX11_isBlock cX11_isBlock 2 (some .boolean) :: [.fieldLink RX11 105 "CodeLifter" "loaded" "Z"]) := goodIn_r _ [1297, 827] (by decide +kernel) (by decide +kernel)
  have h1 : GoodIn lw_tbl [.fieldLink RX11 105 "CodeLifter" "loaded" "Z"] := fun w h => h0 w (List.mem_cons_of_mem _ h)
  exact fun w h => (List.mem_cons.mp h).elim (fun e => h0 w (List.mem_cons.mpr (Or.inl e))) ((goodIn_app h1 gl_X11) w)
set_option maxRecDepth 20000 in
theorem gl_X11_block : GoodIn lw_tbl us_X11_block := by
  have h0 : GoodIn lw_tbl (.code yX11_block cX11_block 3 (some .int) :: [.methodLink RX11 216 yX11_isBlock, .instanceMethod yX11_isBlock, .selects RX11 yX11_isBlock yX11_isBlock, .initialized RX11, .classLink RX11 196 "java/util/NoSuchElementException", .initialized "java/util/NoSuchElementException"]) := goodIn_r _ [1677, 1294, 1296, 63, 211, 1605, 236] (by decide +kernel) (by decide +kernel)
  have h1 : GoodIn lw_tbl [.methodLink RX11 216 yX11_isBlock, .instanceMethod yX11_isBlock, .selects RX11 yX11_isBlock yX11_isBlock, .initialized RX11, .classLink RX11 196 "java/util/NoSuchElementException", .initialized "java/util/NoSuchElementException"] := fun w h => h0 w (List.mem_cons_of_mem _ h)
  exact fun w h => (List.mem_cons.mp h).elim (fun e => h0 w (List.mem_cons.mpr (Or.inl e))) ((goodIn_app (goodIn_app h1 gl_X11_isBlock) gl_ats) w)
set_option maxRecDepth 20000 in
theorem gl_L_block : GoodIn lw_tbl us_L_block := by
  have h0 : GoodIn lw_tbl (.codeWith yL_block cL_block 5 (some .int) [(0, 10, 13, 13)] :: [.methodLink RL 15 yX11_block, .instanceMethod yX11_block, .selects RX11 yX11_block yX11_block, .initialized RX11, .classLink RL 13 "java/util/NoSuchElementException"]) := goodIn_r _ [1673, 1674, 1675, 1676, 211, 1600] (by decide +kernel) (by decide +kernel)
  have h1 : GoodIn lw_tbl [.methodLink RL 15 yX11_block, .instanceMethod yX11_block, .selects RX11 yX11_block yX11_block, .initialized RX11, .classLink RL 13 "java/util/NoSuchElementException"] := fun w h => h0 w (List.mem_cons_of_mem _ h)
  exact fun w h => (List.mem_cons.mp h).elim (fun e => h0 w (List.mem_cons.mpr (Or.inl e))) ((goodIn_app h1 gl_X11_block) w)
set_option maxRecDepth 20000 in
theorem ug_L_law_L_block : GoodIn lw_tbl (va_wsS RL 60 yL_block us_L_block) := goodIn_app (goodIn_r _ [1671, 1672, 210] (by decide +kernel) (by decide +kernel)) gl_L_block
set_option maxRecDepth 20000 in
theorem gl_X12_isBlock : GoodIn lw_tbl us_X12_isBlock := by
  have h0 : GoodIn lw_tbl (.code yX12_isBlock cX12_isBlock 2 (some .boolean) :: [.fieldLink RX12 292 "CodeLifterModel" "isThere" "Z"]) := goodIn_r _ [2388, 1711] (by decide +kernel) (by decide +kernel)
  have h1 : GoodIn lw_tbl [.fieldLink RX12 292 "CodeLifterModel" "isThere" "Z"] := fun w h => h0 w (List.mem_cons_of_mem _ h)
  exact fun w h => (List.mem_cons.mp h).elim (fun e => h0 w (List.mem_cons.mpr (Or.inl e))) ((goodIn_app h1 gl_X12) w)
set_option maxRecDepth 20000 in
theorem gl_X12_block : GoodIn lw_tbl us_X12_block := by
  have h0 : GoodIn lw_tbl (.code yX12_block cX12_block 3 (some .int) :: [.methodLink RX12 615 yX12_isBlock, .instanceMethod yX12_isBlock, .selects RX12 yX12_isBlock yX12_isBlock, .initialized RX12, .fieldLink RX12 169 "CodeLifterModel" "thrown" "I"]) := goodIn_r _ [2434, 2385, 2387, 172, 223, 1690] (by decide +kernel) (by decide +kernel)
  have h1 : GoodIn lw_tbl [.methodLink RX12 615 yX12_isBlock, .instanceMethod yX12_isBlock, .selects RX12 yX12_isBlock yX12_isBlock, .initialized RX12, .fieldLink RX12 169 "CodeLifterModel" "thrown" "I"] := fun w h => h0 w (List.mem_cons_of_mem _ h)
  exact fun w h => (List.mem_cons.mp h).elim (fun e => h0 w (List.mem_cons.mpr (Or.inl e))) ((goodIn_app (goodIn_app h1 gl_X12) gl_X12_isBlock) w)
set_option maxRecDepth 20000 in
theorem ug_L_law_X12_block : GoodIn lw_tbl (wsV RL 62 RX12 yX12_block us_X12_block) := goodIn_app (goodIn_r _ [2431, 2432, 2433, 223] (by decide +kernel) (by decide +kernel)) gl_X12_block
set_option maxRecDepth 20000 in
theorem gl_X11_edge : GoodIn lw_tbl us_X11_edge := by
  have h0 : GoodIn lw_tbl (.code yX11_edge cX11_edge 3 (some .int) :: [.fieldLink RX11 105 "CodeLifter" "loaded" "Z", .constant RX11 153 (-1000000)]) := goodIn_r _ [1289, 827, 1284] (by decide +kernel) (by decide +kernel)
  have h1 : GoodIn lw_tbl [.fieldLink RX11 105 "CodeLifter" "loaded" "Z", .constant RX11 153 (-1000000)] := fun w h => h0 w (List.mem_cons_of_mem _ h)
  exact fun w h => (List.mem_cons.mp h).elim (fun e => h0 w (List.mem_cons.mpr (Or.inl e))) ((goodIn_app h1 gl_X11) w)
set_option maxRecDepth 20000 in
theorem ug_L_law_X11_edge : GoodIn lw_tbl (wsV RL 63 RX11 yX11_edge us_X11_edge) := goodIn_app (goodIn_r _ [1286, 1287, 1288, 211] (by decide +kernel) (by decide +kernel)) gl_X11_edge
set_option maxRecDepth 20000 in
theorem gl_X12_edge : GoodIn lw_tbl us_X12_edge := by
  have h0 : GoodIn lw_tbl (.code yX12_edge cX12_edge 3 (some .int) :: [.fieldLink RX12 169 "CodeLifterModel" "thrown" "I", .fieldLink RX12 292 "CodeLifterModel" "isThere" "Z", .constant RX12 614 (-1000000)]) := goodIn_r _ [2450, 1690, 1711, 2380] (by decide +kernel) (by decide +kernel)
  have h1 : GoodIn lw_tbl [.fieldLink RX12 169 "CodeLifterModel" "thrown" "I", .fieldLink RX12 292 "CodeLifterModel" "isThere" "Z", .constant RX12 614 (-1000000)] := fun w h => h0 w (List.mem_cons_of_mem _ h)
  exact fun w h => (List.mem_cons.mp h).elim (fun e => h0 w (List.mem_cons.mpr (Or.inl e))) ((goodIn_app h1 gl_X12) w)
set_option maxRecDepth 20000 in
theorem ug_L_law_X12_edge : GoodIn lw_tbl (wsV RL 66 RX12 yX12_edge us_X12_edge) := goodIn_app (goodIn_r _ [2447, 2448, 2449, 223] (by decide +kernel) (by decide +kernel)) gl_X12_edge
set_option maxRecDepth 20000 in
theorem gl_X11_dominates : GoodIn lw_tbl us_X11_dominates := by
  have h0 : GoodIn lw_tbl (.code yX11_dominates cX11_dominates 3 (some .boolean) :: [.methodLink RX11 216 yX11_isBlock, .instanceMethod yX11_isBlock, .selects RX11 yX11_isBlock yX11_isBlock, .initialized RX11]) := goodIn_r _ [1293, 1294, 1296, 63, 211] (by decide +kernel) (by decide +kernel)
  have h1 : GoodIn lw_tbl [.methodLink RX11 216 yX11_isBlock, .instanceMethod yX11_isBlock, .selects RX11 yX11_isBlock yX11_isBlock, .initialized RX11] := fun w h => h0 w (List.mem_cons_of_mem _ h)
  exact fun w h => (List.mem_cons.mp h).elim (fun e => h0 w (List.mem_cons.mpr (Or.inl e))) ((goodIn_app h1 gl_X11_isBlock) w)
set_option maxRecDepth 20000 in
theorem ug_L_law_X11_dominates : GoodIn lw_tbl (wsV RL 67 RX11 yX11_dominates us_X11_dominates) := goodIn_app (goodIn_r _ [1290, 1291, 1292, 211] (by decide +kernel) (by decide +kernel)) gl_X11_dominates
set_option maxRecDepth 20000 in
theorem gl_X12_dominates : GoodIn lw_tbl us_X12_dominates := by
  have h0 : GoodIn lw_tbl (.code yX12_dominates cX12_dominates 3 (some .boolean) :: [.fieldLink RX12 169 "CodeLifterModel" "thrown" "I", .methodLink RX12 615 yX12_isBlock, .instanceMethod yX12_isBlock, .selects RX12 yX12_isBlock yX12_isBlock, .initialized RX12]) := goodIn_r _ [2454, 1690, 2385, 2387, 172, 223] (by decide +kernel) (by decide +kernel)
  have h1 : GoodIn lw_tbl [.fieldLink RX12 169 "CodeLifterModel" "thrown" "I", .methodLink RX12 615 yX12_isBlock, .instanceMethod yX12_isBlock, .selects RX12 yX12_isBlock yX12_isBlock, .initialized RX12] := fun w h => h0 w (List.mem_cons_of_mem _ h)
  exact fun w h => (List.mem_cons.mp h).elim (fun e => h0 w (List.mem_cons.mpr (Or.inl e))) ((goodIn_app (goodIn_app h1 gl_X12) gl_X12_isBlock) w)
set_option maxRecDepth 20000 in
theorem ug_L_law_X12_dominates : GoodIn lw_tbl (wsV RL 71 RX12 yX12_dominates us_X12_dominates) := goodIn_app (goodIn_r _ [2451, 2452, 2453, 223] (by decide +kernel) (by decide +kernel)) gl_X12_dominates
set_option maxRecDepth 20000 in
theorem gl_X11_loop : GoodIn lw_tbl us_X11_loop := by
  have h0 : GoodIn lw_tbl (.code yX11_loop cX11_loop 2 (some .long) :: [.methodLink RX11 216 yX11_isBlock, .instanceMethod yX11_isBlock, .selects RX11 yX11_isBlock yX11_isBlock, .initialized RX11, .constantLong RX11 273 (-1)]) := goodIn_r _ [1302, 1294, 1296, 63, 211, 1303] (by decide +kernel) (by decide +kernel)
  have h1 : GoodIn lw_tbl [.methodLink RX11 216 yX11_isBlock, .instanceMethod yX11_isBlock, .selects RX11 yX11_isBlock yX11_isBlock, .initialized RX11, .constantLong RX11 273 (-1)] := fun w h => h0 w (List.mem_cons_of_mem _ h)
  exact fun w h => (List.mem_cons.mp h).elim (fun e => h0 w (List.mem_cons.mpr (Or.inl e))) ((goodIn_app h1 gl_X11_isBlock) w)
set_option maxRecDepth 20000 in
theorem ug_L_law_X11_loop : GoodIn lw_tbl (wsV RL 72 RX11 yX11_loop us_X11_loop) := goodIn_app (goodIn_r _ [1299, 1300, 1301, 211] (by decide +kernel) (by decide +kernel)) gl_X11_loop
set_option maxRecDepth 20000 in
theorem gl_X12_loop : GoodIn lw_tbl us_X12_loop := by
  have h0 : GoodIn lw_tbl (.code yX12_loop cX12_loop 2 (some .long) :: [.fieldLink RX12 169 "CodeLifterModel" "thrown" "I", .methodLink RX12 615 yX12_isBlock, .instanceMethod yX12_isBlock, .selects RX12 yX12_isBlock yX12_isBlock, .initialized RX12, .constantLong RX12 652 (-1)]) := goodIn_r _ [2458, 1690, 2385, 2387, 172, 223, 2459] (by decide +kernel) (by decide +kernel)
  have h1 : GoodIn lw_tbl [.fieldLink RX12 169 "CodeLifterModel" "thrown" "I", .methodLink RX12 615 yX12_isBlock, .instanceMethod yX12_isBlock, .selects RX12 yX12_isBlock yX12_isBlock, .initialized RX12, .constantLong RX12 652 (-1)] := fun w h => h0 w (List.mem_cons_of_mem _ h)
  exact fun w h => (List.mem_cons.mp h).elim (fun e => h0 w (List.mem_cons.mpr (Or.inl e))) ((goodIn_app (goodIn_app h1 gl_X12) gl_X12_isBlock) w)
set_option maxRecDepth 20000 in
theorem ug_L_law_X12_loop : GoodIn lw_tbl (wsV RL 76 RX12 yX12_loop us_X12_loop) := goodIn_app (goodIn_r _ [2455, 2456, 2457, 223] (by decide +kernel) (by decide +kernel)) gl_X12_loop
set_option maxRecDepth 20000 in
theorem gl_X11_statement : GoodIn lw_tbl us_X11_statement := by
  have h0 : GoodIn lw_tbl (.code yX11_statement cX11_statement 6 (some .int) :: [.methodLink RX11 216 yX11_isBlock, .instanceMethod yX11_isBlock, .selects RX11 yX11_isBlock yX11_isBlock, .initialized RX11, .constant RX11 153 (-1000000)]) := goodIn_r _ [1307, 1294, 1296, 63, 211, 1284] (by decide +kernel) (by decide +kernel)
  have h1 : GoodIn lw_tbl [.methodLink RX11 216 yX11_isBlock, .instanceMethod yX11_isBlock, .selects RX11 yX11_isBlock yX11_isBlock, .initialized RX11, .constant RX11 153 (-1000000)] := fun w h => h0 w (List.mem_cons_of_mem _ h)
  exact fun w h => (List.mem_cons.mp h).elim (fun e => h0 w (List.mem_cons.mpr (Or.inl e))) ((goodIn_app h1 gl_X11_isBlock) w)
set_option maxRecDepth 20000 in
theorem ug_L_law_X11_statement : GoodIn lw_tbl (wsV RL 77 RX11 yX11_statement us_X11_statement) := goodIn_app (goodIn_r _ [1304, 1305, 1306, 211] (by decide +kernel) (by decide +kernel)) gl_X11_statement
set_option maxRecDepth 20000 in
theorem gl_X12_statement : GoodIn lw_tbl us_X12_statement := by
  have h0 : GoodIn lw_tbl (.code yX12_statement cX12_statement 6 (some .int) :: [.fieldLink RX12 169 "CodeLifterModel" "thrown" "I", .methodLink RX12 615 yX12_isBlock, .instanceMethod yX12_isBlock, .selects RX12 yX12_isBlock yX12_isBlock, .initialized RX12, .constant RX12 614 (-1000000)]) := goodIn_r _ [2392, 1690, 2385, 2387, 172, 223, 2380] (by decide +kernel) (by decide +kernel)
  have h1 : GoodIn lw_tbl [.fieldLink RX12 169 "CodeLifterModel" "thrown" "I", .methodLink RX12 615 yX12_isBlock, .instanceMethod yX12_isBlock, .selects RX12 yX12_isBlock yX12_isBlock, .initialized RX12, .constant RX12 614 (-1000000)] := fun w h => h0 w (List.mem_cons_of_mem _ h)
  exact fun w h => (List.mem_cons.mp h).elim (fun e => h0 w (List.mem_cons.mpr (Or.inl e))) ((goodIn_app (goodIn_app h1 gl_X12) gl_X12_isBlock) w)
set_option maxRecDepth 20000 in
theorem ug_L_law_X12_statement : GoodIn lw_tbl (wsV RL 80 RX12 yX12_statement us_X12_statement) := goodIn_app (goodIn_r _ [2389, 2390, 2391, 223] (by decide +kernel) (by decide +kernel)) gl_X12_statement
set_option maxRecDepth 20000 in
theorem gl_X11_condition : GoodIn lw_tbl us_X11_condition := by
  have h0 : GoodIn lw_tbl (.code yX11_condition cX11_condition 4 (some .int) :: [.methodLink RX11 216 yX11_isBlock, .instanceMethod yX11_isBlock, .selects RX11 yX11_isBlock yX11_isBlock, .initialized RX11]) := goodIn_r _ [1388, 1294, 1296, 63, 211] (by decide +kernel) (by decide +kernel)
  have h1 : GoodIn lw_tbl [.methodLink RX11 216 yX11_isBlock, .instanceMethod yX11_isBlock, .selects RX11 yX11_isBlock yX11_isBlock, .initialized RX11] := fun w h => h0 w (List.mem_cons_of_mem _ h)
  exact fun w h => (List.mem_cons.mp h).elim (fun e => h0 w (List.mem_cons.mpr (Or.inl e))) ((goodIn_app h1 gl_X11_isBlock) w)
set_option maxRecDepth 20000 in
theorem ug_L_law_X11_condition : GoodIn lw_tbl (wsV RL 81 RX11 yX11_condition us_X11_condition) := goodIn_app (goodIn_r _ [1385, 1386, 1387, 211] (by decide +kernel) (by decide +kernel)) gl_X11_condition
set_option maxRecDepth 20000 in
theorem gl_X12_condition : GoodIn lw_tbl us_X12_condition := by
  have h0 : GoodIn lw_tbl (.code yX12_condition cX12_condition 3 (some .int) :: [.fieldLink RX12 169 "CodeLifterModel" "thrown" "I", .methodLink RX12 615 yX12_isBlock, .instanceMethod yX12_isBlock, .selects RX12 yX12_isBlock yX12_isBlock, .initialized RX12]) := goodIn_r _ [2384, 1690, 2385, 2387, 172, 223] (by decide +kernel) (by decide +kernel)
  have h1 : GoodIn lw_tbl [.fieldLink RX12 169 "CodeLifterModel" "thrown" "I", .methodLink RX12 615 yX12_isBlock, .instanceMethod yX12_isBlock, .selects RX12 yX12_isBlock yX12_isBlock, .initialized RX12] := fun w h => h0 w (List.mem_cons_of_mem _ h)
  exact fun w h => (List.mem_cons.mp h).elim (fun e => h0 w (List.mem_cons.mpr (Or.inl e))) ((goodIn_app (goodIn_app h1 gl_X12) gl_X12_isBlock) w)
set_option maxRecDepth 20000 in
theorem ug_L_law_X12_condition : GoodIn lw_tbl (wsV RL 84 RX12 yX12_condition us_X12_condition) := goodIn_app (goodIn_r _ [2381, 2382, 2383, 223] (by decide +kernel) (by decide +kernel)) gl_X12_condition
set_option maxRecDepth 20000 in
theorem gl_X11_isLine : GoodIn lw_tbl us_X11_isLine := by
  have h0 : GoodIn lw_tbl (.code yX11_isLine cX11_isLine 2 (some .boolean) :: [.fieldLink RX11 105 "CodeLifter" "loaded" "Z"]) := goodIn_r _ [1400, 827] (by decide +kernel) (by decide +kernel)
  have h1 : GoodIn lw_tbl [.fieldLink RX11 105 "CodeLifter" "loaded" "Z"] := fun w h => h0 w (List.mem_cons_of_mem _ h)
  exact fun w h => (List.mem_cons.mp h).elim (fun e => h0 w (List.mem_cons.mpr (Or.inl e))) ((goodIn_app h1 gl_X11) w)
set_option maxRecDepth 20000 in
theorem gl_X11_line : GoodIn lw_tbl us_X11_line := by
  have h0 : GoodIn lw_tbl (.code yX11_line cX11_line 3 (some .int) :: [.methodLink RX11 299 yX11_isLine, .instanceMethod yX11_isLine, .selects RX11 yX11_isLine yX11_isLine, .initialized RX11, .constant RX11 153 (-1000000)]) := goodIn_r _ [1396, 1397, 1399, 69, 211, 1284] (by decide +kernel) (by decide +kernel)
  have h1 : GoodIn lw_tbl [.methodLink RX11 299 yX11_isLine, .instanceMethod yX11_isLine, .selects RX11 yX11_isLine yX11_isLine, .initialized RX11, .constant RX11 153 (-1000000)] := fun w h => h0 w (List.mem_cons_of_mem _ h)
  exact fun w h => (List.mem_cons.mp h).elim (fun e => h0 w (List.mem_cons.mpr (Or.inl e))) ((goodIn_app h1 gl_X11_isLine) w)
set_option maxRecDepth 20000 in
theorem ug_L_law_X11_line : GoodIn lw_tbl (wsV RL 85 RX11 yX11_line us_X11_line) := goodIn_app (goodIn_r _ [1393, 1394, 1395, 211] (by decide +kernel) (by decide +kernel)) gl_X11_line
set_option maxRecDepth 20000 in
theorem gl_X12_isLine : GoodIn lw_tbl us_X12_isLine := by
  have h0 : GoodIn lw_tbl (.code yX12_isLine cX12_isLine 2 (some .boolean) :: [.fieldLink RX12 292 "CodeLifterModel" "isThere" "Z"]) := goodIn_r _ [2324, 1711] (by decide +kernel) (by decide +kernel)
  have h1 : GoodIn lw_tbl [.fieldLink RX12 292 "CodeLifterModel" "isThere" "Z"] := fun w h => h0 w (List.mem_cons_of_mem _ h)
  exact fun w h => (List.mem_cons.mp h).elim (fun e => h0 w (List.mem_cons.mpr (Or.inl e))) ((goodIn_app h1 gl_X12) w)
set_option maxRecDepth 20000 in
theorem gl_X12_line_ : GoodIn lw_tbl us_X12_line_ := by
  have h0 : GoodIn lw_tbl (.code yX12_line_ cX12_line_ 3 (some .int) :: [.fieldLink RX12 169 "CodeLifterModel" "thrown" "I", .methodLink RX12 603 yX12_isLine, .instanceMethod yX12_isLine, .selects RX12 yX12_isLine yX12_isLine, .initialized RX12, .constant RX12 614 (-1000000)]) := goodIn_r _ [2378, 1690, 2321, 2323, 162, 223, 2380] (by decide +kernel) (by decide +kernel)
  have h1 : GoodIn lw_tbl [.fieldLink RX12 169 "CodeLifterModel" "thrown" "I", .methodLink RX12 603 yX12_isLine, .instanceMethod yX12_isLine, .selects RX12 yX12_isLine yX12_isLine, .initialized RX12, .constant RX12 614 (-1000000)] := fun w h => h0 w (List.mem_cons_of_mem _ h)
  exact fun w h => (List.mem_cons.mp h).elim (fun e => h0 w (List.mem_cons.mpr (Or.inl e))) ((goodIn_app (goodIn_app h1 gl_X12) gl_X12_isLine) w)
set_option maxRecDepth 20000 in
theorem ug_L_law_X12_line_ : GoodIn lw_tbl (wsV RL 88 RX12 yX12_line_ us_X12_line_) := goodIn_app (goodIn_r _ [2375, 2376, 2377, 223] (by decide +kernel) (by decide +kernel)) gl_X12_line_
set_option maxRecDepth 20000 in
theorem gl_X11_spell : GoodIn lw_tbl us_X11_spell := by
  have h0 : GoodIn lw_tbl (.code yX11_spell cX11_spell 4 (some .int) :: [.methodLink RX11 299 yX11_isLine, .instanceMethod yX11_isLine, .selects RX11 yX11_isLine yX11_isLine, .initialized RX11]) := goodIn_r _ [1404, 1397, 1399, 69, 211] (by decide +kernel) (by decide +kernel)
  have h1 : GoodIn lw_tbl [.methodLink RX11 299 yX11_isLine, .instanceMethod yX11_isLine, .selects RX11 yX11_isLine yX11_isLine, .initialized RX11] := fun w h => h0 w (List.mem_cons_of_mem _ h)
  exact fun w h => (List.mem_cons.mp h).elim (fun e => h0 w (List.mem_cons.mpr (Or.inl e))) ((goodIn_app h1 gl_X11_isLine) w)
set_option maxRecDepth 20000 in
theorem ug_L_law_X11_spell : GoodIn lw_tbl (wsV RL 89 RX11 yX11_spell us_X11_spell) := goodIn_app (goodIn_r _ [1401, 1402, 1403, 211] (by decide +kernel) (by decide +kernel)) gl_X11_spell
set_option maxRecDepth 20000 in
theorem gl_X12_spell : GoodIn lw_tbl us_X12_spell := by
  have h0 : GoodIn lw_tbl (.code yX12_spell cX12_spell 3 (some .int) :: [.fieldLink RX12 169 "CodeLifterModel" "thrown" "I", .methodLink RX12 603 yX12_isLine, .instanceMethod yX12_isLine, .selects RX12 yX12_isLine yX12_isLine, .initialized RX12]) := goodIn_r _ [2320, 1690, 2321, 2323, 162, 223] (by decide +kernel) (by decide +kernel)
  have h1 : GoodIn lw_tbl [.fieldLink RX12 169 "CodeLifterModel" "thrown" "I", .methodLink RX12 603 yX12_isLine, .instanceMethod yX12_isLine, .selects RX12 yX12_isLine yX12_isLine, .initialized RX12] := fun w h => h0 w (List.mem_cons_of_mem _ h)
  exact fun w h => (List.mem_cons.mp h).elim (fun e => h0 w (List.mem_cons.mpr (Or.inl e))) ((goodIn_app (goodIn_app h1 gl_X12) gl_X12_isLine) w)
set_option maxRecDepth 20000 in
theorem ug_L_law_X12_spell : GoodIn lw_tbl (wsV RL 92 RX12 yX12_spell us_X12_spell) := goodIn_app (goodIn_r _ [2317, 2318, 2319, 223] (by decide +kernel) (by decide +kernel)) gl_X12_spell
set_option maxRecDepth 20000 in
theorem gl_X11_type : GoodIn lw_tbl us_X11_type := by
  have h0 : GoodIn lw_tbl (.code yX11_type cX11_type 3 (some .int) :: [.fieldLink RX11 105 "CodeLifter" "loaded" "Z"]) := goodIn_r _ [1438, 827] (by decide +kernel) (by decide +kernel)
  have h1 : GoodIn lw_tbl [.fieldLink RX11 105 "CodeLifter" "loaded" "Z"] := fun w h => h0 w (List.mem_cons_of_mem _ h)
  exact fun w h => (List.mem_cons.mp h).elim (fun e => h0 w (List.mem_cons.mpr (Or.inl e))) ((goodIn_app h1 gl_X11) w)
set_option maxRecDepth 20000 in
theorem ug_L_law_X11_type : GoodIn lw_tbl (wsV RL 93 RX11 yX11_type us_X11_type) := goodIn_app (goodIn_r _ [1435, 1436, 1437, 211] (by decide +kernel) (by decide +kernel)) gl_X11_type
set_option maxRecDepth 20000 in
theorem gl_X12_type : GoodIn lw_tbl us_X12_type := by
  have h0 : GoodIn lw_tbl (.code yX12_type cX12_type 3 (some .int) :: [.fieldLink RX12 169 "CodeLifterModel" "thrown" "I", .fieldLink RX12 292 "CodeLifterModel" "isThere" "Z"]) := goodIn_r _ [2463, 1690, 1711] (by decide +kernel) (by decide +kernel)
  have h1 : GoodIn lw_tbl [.fieldLink RX12 169 "CodeLifterModel" "thrown" "I", .fieldLink RX12 292 "CodeLifterModel" "isThere" "Z"] := fun w h => h0 w (List.mem_cons_of_mem _ h)
  exact fun w h => (List.mem_cons.mp h).elim (fun e => h0 w (List.mem_cons.mpr (Or.inl e))) ((goodIn_app h1 gl_X12) w)
set_option maxRecDepth 20000 in
theorem ug_L_law_X12_type : GoodIn lw_tbl (wsV RL 96 RX12 yX12_type us_X12_type) := goodIn_app (goodIn_r _ [2460, 2461, 2462, 223] (by decide +kernel) (by decide +kernel)) gl_X12_type
set_option maxRecDepth 20000 in
theorem gl_X11_canRun : GoodIn lw_tbl us_X11_canRun := by
  have h0 : GoodIn lw_tbl (.code yX11_canRun cX11_canRun 3 (some .boolean) :: [.fieldLink RX11 105 "CodeLifter" "loaded" "Z"]) := goodIn_r _ [1449, 827] (by decide +kernel) (by decide +kernel)
  have h1 : GoodIn lw_tbl [.fieldLink RX11 105 "CodeLifter" "loaded" "Z"] := fun w h => h0 w (List.mem_cons_of_mem _ h)
  exact fun w h => (List.mem_cons.mp h).elim (fun e => h0 w (List.mem_cons.mpr (Or.inl e))) ((goodIn_app h1 gl_X11) w)
set_option maxRecDepth 20000 in
theorem gl_X11_run : GoodIn lw_tbl us_X11_run := by
  have h0 : GoodIn lw_tbl (.code yX11_run cX11_run 7 (some .int) :: [.methodLink RX11 322 yX11_canRun, .instanceMethod yX11_canRun, .selects RX11 yX11_canRun yX11_canRun, .initialized RX11, .constant RX11 153 (-1000000)]) := goodIn_r _ [1445, 1446, 1448, 72, 211, 1284] (by decide +kernel) (by decide +kernel)
  have h1 : GoodIn lw_tbl [.methodLink RX11 322 yX11_canRun, .instanceMethod yX11_canRun, .selects RX11 yX11_canRun yX11_canRun, .initialized RX11, .constant RX11 153 (-1000000)] := fun w h => h0 w (List.mem_cons_of_mem _ h)
  exact fun w h => (List.mem_cons.mp h).elim (fun e => h0 w (List.mem_cons.mpr (Or.inl e))) ((goodIn_app h1 gl_X11_canRun) w)
set_option maxRecDepth 20000 in
theorem ug_L_law_X11_run : GoodIn lw_tbl (wsV RL 97 RX11 yX11_run us_X11_run) := goodIn_app (goodIn_r _ [1442, 1443, 1444, 211] (by decide +kernel) (by decide +kernel)) gl_X11_run
set_option maxRecDepth 20000 in
theorem gl_X12_isIn : GoodIn lw_tbl us_X12_isIn := by
  have h0 : GoodIn lw_tbl (.code yX12_isIn cX12_isIn 6 (some .boolean) :: []) := goodIn_r _ [2313] (by decide +kernel) (by decide +kernel)
  have h1 : GoodIn lw_tbl [] := fun w h => h0 w (List.mem_cons_of_mem _ h)
  exact fun w h => (List.mem_cons.mp h).elim (fun e => h0 w (List.mem_cons.mpr (Or.inl e))) (h1 w)
set_option maxRecDepth 20000 in
theorem gl_X12_hasRun : GoodIn lw_tbl us_X12_hasRun := by
  have h0 : GoodIn lw_tbl (.code yX12_hasRun cX12_hasRun 6 (some .boolean) :: [.fieldLink RX12 292 "CodeLifterModel" "isThere" "Z"]) := goodIn_r _ [2512, 1711] (by decide +kernel) (by decide +kernel)
  have h1 : GoodIn lw_tbl [.fieldLink RX12 292 "CodeLifterModel" "isThere" "Z"] := fun w h => h0 w (List.mem_cons_of_mem _ h)
  exact fun w h => (List.mem_cons.mp h).elim (fun e => h0 w (List.mem_cons.mpr (Or.inl e))) ((goodIn_app h1 gl_X12) w)
set_option maxRecDepth 20000 in
theorem gl_X12_run : GoodIn lw_tbl us_X12_run := by
  have h0 : GoodIn lw_tbl (.code yX12_run cX12_run 7 (some .int) :: [.fieldLink RX12 169 "CodeLifterModel" "thrown" "I", .constantLong RX12 764 (11), .methodLink RX12 312 yX12_isIn, .static yX12_isIn, .initialized RX12, .constant RX12 614 (-1000000), .methodLink RX12 766 yX12_hasRun, .instanceMethod yX12_hasRun, .selects RX12 yX12_hasRun yX12_hasRun]) := goodIn_r _ [2507, 1690, 2508, 2311, 2312, 223, 2380, 2509, 2511, 189] (by decide +kernel) (by decide +kernel)
  have h1 : GoodIn lw_tbl [.fieldLink RX12 169 "CodeLifterModel" "thrown" "I", .constantLong RX12 764 (11), .methodLink RX12 312 yX12_isIn, .static yX12_isIn, .initialized RX12, .constant RX12 614 (-1000000), .methodLink RX12 766 yX12_hasRun, .instanceMethod yX12_hasRun, .selects RX12 yX12_hasRun yX12_hasRun] := fun w h => h0 w (List.mem_cons_of_mem _ h)
  exact fun w h => (List.mem_cons.mp h).elim (fun e => h0 w (List.mem_cons.mpr (Or.inl e))) ((goodIn_app (goodIn_app (goodIn_app h1 gl_X12) gl_X12_isIn) gl_X12_hasRun) w)
set_option maxRecDepth 20000 in
theorem ug_L_law_X12_run : GoodIn lw_tbl (wsV RL 101 RX12 yX12_run us_X12_run) := goodIn_app (goodIn_r _ [2504, 2505, 2506, 223] (by decide +kernel) (by decide +kernel)) gl_X12_run
set_option maxRecDepth 20000 in
theorem gl_X11_output : GoodIn lw_tbl us_X11_output := by
  have h0 : GoodIn lw_tbl (.code yX11_output cX11_output 7 (some .int) :: [.methodLink RX11 322 yX11_canRun, .instanceMethod yX11_canRun, .selects RX11 yX11_canRun yX11_canRun, .initialized RX11, .constant RX11 153 (-1000000)]) := goodIn_r _ [1539, 1446, 1448, 72, 211, 1284] (by decide +kernel) (by decide +kernel)
  have h1 : GoodIn lw_tbl [.methodLink RX11 322 yX11_canRun, .instanceMethod yX11_canRun, .selects RX11 yX11_canRun yX11_canRun, .initialized RX11, .constant RX11 153 (-1000000)] := fun w h => h0 w (List.mem_cons_of_mem _ h)
  exact fun w h => (List.mem_cons.mp h).elim (fun e => h0 w (List.mem_cons.mpr (Or.inl e))) ((goodIn_app h1 gl_X11_canRun) w)
set_option maxRecDepth 20000 in
theorem ug_L_law_X11_output : GoodIn lw_tbl (wsV RL 102 RX11 yX11_output us_X11_output) := goodIn_app (goodIn_r _ [1536, 1537, 1538, 211] (by decide +kernel) (by decide +kernel)) gl_X11_output
set_option maxRecDepth 20000 in
theorem gl_X12_output : GoodIn lw_tbl us_X12_output := by
  have h0 : GoodIn lw_tbl (.code yX12_output cX12_output 7 (some .int) :: [.fieldLink RX12 169 "CodeLifterModel" "thrown" "I", .constant RX12 614 (-1000000), .methodLink RX12 766 yX12_hasRun, .instanceMethod yX12_hasRun, .selects RX12 yX12_hasRun yX12_hasRun, .initialized RX12]) := goodIn_r _ [2598, 1690, 2380, 2509, 2511, 189, 223] (by decide +kernel) (by decide +kernel)
  have h1 : GoodIn lw_tbl [.fieldLink RX12 169 "CodeLifterModel" "thrown" "I", .constant RX12 614 (-1000000), .methodLink RX12 766 yX12_hasRun, .instanceMethod yX12_hasRun, .selects RX12 yX12_hasRun yX12_hasRun, .initialized RX12] := fun w h => h0 w (List.mem_cons_of_mem _ h)
  exact fun w h => (List.mem_cons.mp h).elim (fun e => h0 w (List.mem_cons.mpr (Or.inl e))) ((goodIn_app (goodIn_app h1 gl_X12) gl_X12_hasRun) w)
set_option maxRecDepth 20000 in
theorem ug_L_law_X12_output : GoodIn lw_tbl (wsV RL 105 RX12 yX12_output us_X12_output) := goodIn_app (goodIn_r _ [2595, 2596, 2597, 223] (by decide +kernel) (by decide +kernel)) gl_X12_output
set_option maxRecDepth 20000 in
theorem gl_X11_comesTo : GoodIn lw_tbl us_X11_comesTo := by
  have h0 : GoodIn lw_tbl (.code yX11_comesTo cX11_comesTo 2 (some .long) :: [.methodLink RX11 216 yX11_isBlock, .instanceMethod yX11_isBlock, .selects RX11 yX11_isBlock yX11_isBlock, .initialized RX11, .constantLong RX11 273 (-1)]) := goodIn_r _ [1543, 1294, 1296, 63, 211, 1303] (by decide +kernel) (by decide +kernel)
  have h1 : GoodIn lw_tbl [.methodLink RX11 216 yX11_isBlock, .instanceMethod yX11_isBlock, .selects RX11 yX11_isBlock yX11_isBlock, .initialized RX11, .constantLong RX11 273 (-1)] := fun w h => h0 w (List.mem_cons_of_mem _ h)
  exact fun w h => (List.mem_cons.mp h).elim (fun e => h0 w (List.mem_cons.mpr (Or.inl e))) ((goodIn_app h1 gl_X11_isBlock) w)
set_option maxRecDepth 20000 in
theorem ug_L_law_X11_comesTo : GoodIn lw_tbl (wsV RL 106 RX11 yX11_comesTo us_X11_comesTo) := goodIn_app (goodIn_r _ [1540, 1541, 1542, 211] (by decide +kernel) (by decide +kernel)) gl_X11_comesTo
set_option maxRecDepth 20000 in
theorem gl_X12_comesTo : GoodIn lw_tbl us_X12_comesTo := by
  have h0 : GoodIn lw_tbl (.code yX12_comesTo cX12_comesTo 6 (some .long) :: [.fieldLink RX12 169 "CodeLifterModel" "thrown" "I", .methodLink RX12 615 yX12_isBlock, .instanceMethod yX12_isBlock, .selects RX12 yX12_isBlock yX12_isBlock, .initialized RX12, .constantLong RX12 652 (-1)]) := goodIn_r _ [2467, 1690, 2385, 2387, 172, 223, 2459] (by decide +kernel) (by decide +kernel)
  have h1 : GoodIn lw_tbl [.fieldLink RX12 169 "CodeLifterModel" "thrown" "I", .methodLink RX12 615 yX12_isBlock, .instanceMethod yX12_isBlock, .selects RX12 yX12_isBlock yX12_isBlock, .initialized RX12, .constantLong RX12 652 (-1)] := fun w h => h0 w (List.mem_cons_of_mem _ h)
  exact fun w h => (List.mem_cons.mp h).elim (fun e => h0 w (List.mem_cons.mpr (Or.inl e))) ((goodIn_app (goodIn_app h1 gl_X12) gl_X12_isBlock) w)
set_option maxRecDepth 20000 in
theorem ug_L_law_X12_comesTo : GoodIn lw_tbl (wsV RL 109 RX12 yX12_comesTo us_X12_comesTo) := goodIn_app (goodIn_r _ [2464, 2465, 2466, 223] (by decide +kernel) (by decide +kernel)) gl_X12_comesTo
set_option maxRecDepth 20000 in
theorem gl_X11_far : GoodIn lw_tbl us_X11_far := by
  have h0 : GoodIn lw_tbl (.code yX11_far cX11_far 3 (some .int) :: [.methodLink RX11 216 yX11_isBlock, .instanceMethod yX11_isBlock, .selects RX11 yX11_isBlock yX11_isBlock, .initialized RX11]) := goodIn_r _ [1551, 1294, 1296, 63, 211] (by decide +kernel) (by decide +kernel)
  have h1 : GoodIn lw_tbl [.methodLink RX11 216 yX11_isBlock, .instanceMethod yX11_isBlock, .selects RX11 yX11_isBlock yX11_isBlock, .initialized RX11] := fun w h => h0 w (List.mem_cons_of_mem _ h)
  exact fun w h => (List.mem_cons.mp h).elim (fun e => h0 w (List.mem_cons.mpr (Or.inl e))) ((goodIn_app h1 gl_X11_isBlock) w)
set_option maxRecDepth 20000 in
theorem ug_L_law_X11_far : GoodIn lw_tbl (wsV RL 110 RX11 yX11_far us_X11_far) := goodIn_app (goodIn_r _ [1548, 1549, 1550, 211] (by decide +kernel) (by decide +kernel)) gl_X11_far
set_option maxRecDepth 20000 in
theorem gl_X12_far : GoodIn lw_tbl us_X12_far := by
  have h0 : GoodIn lw_tbl (.code yX12_far cX12_far 9 (some .int) :: [.fieldLink RX12 169 "CodeLifterModel" "thrown" "I", .methodLink RX12 615 yX12_isBlock, .instanceMethod yX12_isBlock, .selects RX12 yX12_isBlock yX12_isBlock, .initialized RX12]) := goodIn_r _ [2471, 1690, 2385, 2387, 172, 223] (by decide +kernel) (by decide +kernel)
  have h1 : GoodIn lw_tbl [.fieldLink RX12 169 "CodeLifterModel" "thrown" "I", .methodLink RX12 615 yX12_isBlock, .instanceMethod yX12_isBlock, .selects RX12 yX12_isBlock yX12_isBlock, .initialized RX12] := fun w h => h0 w (List.mem_cons_of_mem _ h)
  exact fun w h => (List.mem_cons.mp h).elim (fun e => h0 w (List.mem_cons.mpr (Or.inl e))) ((goodIn_app (goodIn_app h1 gl_X12) gl_X12_isBlock) w)
set_option maxRecDepth 20000 in
theorem ug_L_law_X12_far : GoodIn lw_tbl (wsV RL 113 RX12 yX12_far us_X12_far) := goodIn_app (goodIn_r _ [2468, 2469, 2470, 223] (by decide +kernel) (by decide +kernel)) gl_X12_far
set_option maxRecDepth 20000 in
theorem gl_X11_most : GoodIn lw_tbl us_X11_most := by
  have h0 : GoodIn lw_tbl (.code yX11_most cX11_most 2 (some .int) :: [.fieldLink RX11 105 "CodeLifter" "loaded" "Z", .constant RX11 153 (-1000000)]) := goodIn_r _ [1559, 827, 1284] (by decide +kernel) (by decide +kernel)
  have h1 : GoodIn lw_tbl [.fieldLink RX11 105 "CodeLifter" "loaded" "Z", .constant RX11 153 (-1000000)] := fun w h => h0 w (List.mem_cons_of_mem _ h)
  exact fun w h => (List.mem_cons.mp h).elim (fun e => h0 w (List.mem_cons.mpr (Or.inl e))) ((goodIn_app h1 gl_X11) w)
set_option maxRecDepth 20000 in
theorem ug_L_law_X11_most : GoodIn lw_tbl (wsV RL 114 RX11 yX11_most us_X11_most) := goodIn_app (goodIn_r _ [1556, 1557, 1558, 211] (by decide +kernel) (by decide +kernel)) gl_X11_most
set_option maxRecDepth 20000 in
theorem gl_X12_most : GoodIn lw_tbl us_X12_most := by
  have h0 : GoodIn lw_tbl (.code yX12_most cX12_most 2 (some .int) :: [.fieldLink RX12 169 "CodeLifterModel" "thrown" "I", .fieldLink RX12 292 "CodeLifterModel" "isThere" "Z", .constant RX12 614 (-1000000)]) := goodIn_r _ [2475, 1690, 1711, 2380] (by decide +kernel) (by decide +kernel)
  have h1 : GoodIn lw_tbl [.fieldLink RX12 169 "CodeLifterModel" "thrown" "I", .fieldLink RX12 292 "CodeLifterModel" "isThere" "Z", .constant RX12 614 (-1000000)] := fun w h => h0 w (List.mem_cons_of_mem _ h)
  exact fun w h => (List.mem_cons.mp h).elim (fun e => h0 w (List.mem_cons.mpr (Or.inl e))) ((goodIn_app h1 gl_X12) w)
set_option maxRecDepth 20000 in
theorem ug_L_law_X12_most : GoodIn lw_tbl (wsV RL 117 RX12 yX12_most us_X12_most) := goodIn_app (goodIn_r _ [2472, 2473, 2474, 223] (by decide +kernel) (by decide +kernel)) gl_X12_most