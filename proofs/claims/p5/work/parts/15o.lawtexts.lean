abbrev FLt : List Cond := flatC (Jvm.Cond.and given_1 narrow_1)
def txC (C : String) (k len : Nat) (byt : List Int32) : List Cond := [.exactly (.string C k) "java/lang/String", .eq (.field (.string C k) "java/lang/String" "coder" "B") (.int 0), .arrayOf (.field (.string C k) "java/lang/String" "value" "[B") .byte, .eq (.length (.field (.string C k) "java/lang/String" "value" "[B")) (.int (Int32.ofNat len))] ++ (List.range len).map (fun j => .eq (.elem (.field (.string C k) "java/lang/String" "value" "[B") (.int (Int32.ofNat j))) (.int (byt.getD j 0)))
theorem tx_in {w : List Cond} (st : Nat) (h : w = (FLt.drop st).take w.length) : ∀ c ∈ w, c ∈ FLt := by
  intro c hc
  rw [h] at hc
  exact List.mem_of_mem_drop (List.mem_of_mem_take hc)
/-- one text at its place -/
def TXo (A : Nat → Prop) (U : State) (H : Heap) (len : Nat) (byt : List Int32) (a v : Nat) : Prop := va_O "java/lang/String" a A U H ∧ va_OF "java/lang/String" "coder" "B" (.int 0) a A U H ∧ va_OF "java/lang/String" "value" "[B" (.ref v) a A U H ∧ va_T .byte v len (fun j => .int (byt.getD j 0)) A U H
theorem tx_one {args : Array Value} {s : State} {A : Nat → Prop} {C : String} {k len : Nat} {byt : List Int32} (hl : len < 2 ^ 31) (h : ∀ c ∈ txC C k len byt, c.before args s = true) (hA : ∀ a : Nat, a < s.heap.size → ¬ A a) : ∃ q : Nat × Nat, TXo A s s.heap len byt q.1 q.2 ∧ (Term.string C k).eval args s none [] s = some (.ref q.1) := by
  obtain ⟨ad, av, h1, h2⟩ := vk_Sof (args := args) (s := s) (N := 1) (tm := fun _ => .string C k) (len := [len]) (byt := [byt]) (A := A)
    (fun i hi => by obtain rfl : i = 0 := by omega
                    exact hl)
    (fun i hi => h _ (by unfold txC; simp)) (fun i hi => h _ (by unfold txC; simp)) (fun i hi => h _ (by unfold txC; simp))
    (fun i hi => by obtain rfl : i = 0 := by omega
                    exact h _ (by unfold txC; simp))
    (fun i hi j hj => by obtain rfl : i = 0 := by omega
                         exact h _ (by unfold txC; exact List.mem_append_right _ (List.mem_map.mpr ⟨j, List.mem_range.mpr hj, rfl⟩)))
    (fun i j hi hj hne => absurd (show i = j by omega) hne) hA
  exact ⟨(ad 0, av 0), h1.1 0 (by omega), h2 0 (by omega)⟩
theorem ofN {n : Nat} (h : n ≤ 3584) : (Int32.ofNat n).toInt = (n : Int) := nI_toInt (by omega)
/-- two texts at one place say the same -/
theorem tx_inj {A : Nat → Prop} {U : State} {H : Heap} {len len2 : Nat} {byt byt2 : List Int32} {a v v2 : Nat} (hl : len ≤ 3584) (hl2 : len2 ≤ 3584) (h : TXo A U H len byt a v) (h2 : TXo A U H len2 byt2 a v2) : len = len2 ∧ (List.range len).map (fun j => byt.getD j 0) = (List.range len2).map (fun j => byt2.getD j 0) := by
  obtain ⟨-, -, ⟨c1, k1, i1, f1, e1, a1, a2, a3, a4, a5, a6⟩, cell, b1, b2, b3, b4, b5, b6, b7⟩ := h
  obtain ⟨-, -, ⟨c2, k2, i2, f2, e2, x1, x2, x3, x4, x5, x6⟩, cell2, y1, y2, y3, y4, y5, y6, y7⟩ := h2
  have g := Option.some.inj (a1.symm.trans x1)
  obtain ⟨-, -, -, rfl⟩ : c1 = c2 ∧ k1 = k2 ∧ i1 = i2 ∧ f1 = f2 := by
    simp only [Prod.mk.injEq] at g
    exact g
  have g2 := Option.some.inj (a3.symm.trans x3)
  subst g2
  have g3 := Option.some.inj (a5.symm.trans x5)
  injection g3 with g3
  subst g3
  have g4 := Option.some.inj (b1.symm.trans y1)
  subst g4
  have g5 : len = len2 := by
    have := congrArg Int32.toInt (b5.symm.trans y5)
    rw [ofN hl, ofN hl2] at this
    omega
  subst g5
  refine ⟨rfl, List.map_congr_left fun j hj => ?_⟩
  have hj := List.mem_range.mp hj
  have := Option.some.inj ((b6 j hj).symm.trans (y6 j hj))
  injection this
/-- all texts of a class -/
theorem tx_all {args : Array Value} {s : State} {A : Nat → Prop} {C : String} {N : Nat} {L : List (Nat × String)} {len : List Nat} {byt : List (List Int32)} (hl : ∀ i, i < N → len.getD i 0 ≤ 3584) (h : ∀ i, i < N → ∀ c ∈ txC C (L.getD i (0, "")).1 (len.getD i 0) (byt.getD i []), c.before args s = true) (hA : ∀ a : Nat, a < s.heap.size → ¬ A a)
    (hd : ∀ i, i < N → ∀ j, j < N → (len.getD i 0 = len.getD j 0 ∧ (List.range (len.getD i 0)).map (fun p => (byt.getD i []).getD p 0) = (List.range (len.getD j 0)).map (fun p => (byt.getD j []).getD p 0)) → i = j) :
    ∃ q : Nat → Nat × Nat, vk_S N len byt (fun i => (q i).1) (fun i => (q i).2) A s s.heap ∧ ∀ i, i < N → (Term.string C (L.getD i (0, "")).1).eval args s none [] s = some (.ref (q i).1) := by
  have h0 : ∀ i : Nat, ∃ q : Nat × Nat, i < N → TXo A s s.heap (len.getD i 0) (byt.getD i []) q.1 q.2 ∧ (Term.string C (L.getD i (0, "")).1).eval args s none [] s = some (.ref q.1) := by
    intro i
    by_cases hi : i < N
    · obtain ⟨q, hq⟩ := tx_one (A := A) (Nat.lt_of_le_of_lt (hl i hi) (by decide)) (h i hi) hA
      exact ⟨q, fun _ => hq⟩
    · exact ⟨(0, 0), fun z => absurd z hi⟩
  obtain ⟨q, hq⟩ := Classical.axiomOfChoice h0
  refine ⟨q, ⟨fun i hi => (hq i hi).1, fun i j hi hj e => ?_⟩, fun i hi => (hq i hi).2⟩
  have t1 := (hq i hi).1
  have t2 := (hq j hj).1
  rw [show (q i).1 = (q j).1 from e] at t1
  exact hd i hi j hj (tx_inj (hl i hi) (hl j hj) t1 t2)
set_option maxRecDepth 40000 in
theorem tp_0 : ∀ c ∈ txC RX6 50 6 [108, 111, 111, 112, 32, 66], c ∈ FLt := tx_in 78 (by decide +kernel)
set_option maxRecDepth 40000 in
theorem tp_1 : ∀ c ∈ txC RX6 52 1 [123], c ∈ FLt := tx_in 88 (by decide +kernel)
set_option maxRecDepth 40000 in
theorem tp_2 : ∀ c ∈ txC RX6 58 7 [98, 108, 111, 99, 107, 32, 66], c ∈ FLt := tx_in 93 (by decide +kernel)
set_option maxRecDepth 40000 in
theorem tp_3 : ∀ c ∈ txC RX6 60 3 [105, 102, 32], c ∈ FLt := tx_in 104 (by decide +kernel)
set_option maxRecDepth 40000 in
theorem tp_4 : ∀ c ∈ txC RX6 71 5 [101, 108, 115, 101, 123], c ∈ FLt := tx_in 111 (by decide +kernel)
set_option maxRecDepth 40000 in
theorem tp_5 : ∀ c ∈ txC RX6 73 1 [125], c ∈ FLt := tx_in 120 (by decide +kernel)
set_option maxRecDepth 40000 in
theorem tp_6 : ∀ c ∈ txC RX6 75 7 [98, 114, 101, 97, 107, 32, 66], c ∈ FLt := tx_in 125 (by decide +kernel)
set_option maxRecDepth 40000 in
theorem tp_7 : ∀ c ∈ txC RX6 77 1 [59], c ∈ FLt := tx_in 73 (by decide +kernel)
set_option maxRecDepth 40000 in
theorem tp_8 : ∀ c ∈ txC RX6 79 10 [99, 111, 110, 116, 105, 110, 117, 101, 32, 66], c ∈ FLt := tx_in 136 (by decide +kernel)
set_option maxRecDepth 40000 in
theorem tp_9 : ∀ c ∈ txC RX6 81 6 [103, 111, 116, 111, 32, 66], c ∈ FLt := tx_in 150 (by decide +kernel)
set_option maxRecDepth 40000 in
theorem tp_10 : ∀ c ∈ txC RX6 83 4 [116, 114, 121, 123], c ∈ FLt := tx_in 160 (by decide +kernel)
set_option maxRecDepth 40000 in
theorem tp_11 : ∀ c ∈ txC RX6 85 8 [125, 99, 97, 116, 99, 104, 32, 66], c ∈ FLt := tx_in 168 (by decide +kernel)
set_option maxRecDepth 40000 in
theorem tp_12 : ∀ c ∈ txC RX6 87 1 [66], c ∈ FLt := tx_in 180 (by decide +kernel)
set_option maxRecDepth 40000 in
theorem tp_13 : ∀ c ∈ txC RX6 89 1 [58], c ∈ FLt := tx_in 185 (by decide +kernel)
set_option maxRecDepth 40000 in
theorem tp_14 : ∀ c ∈ txC RX6 101 1 [61], c ∈ FLt := tx_in 40 (by decide +kernel)
set_option maxRecDepth 40000 in
theorem tp_15 : ∀ c ∈ txC RX6 106 4 [111, 117, 116, 32], c ∈ FLt := tx_in 45 (by decide +kernel)
set_option maxRecDepth 40000 in
theorem tp_16 : ∀ c ∈ txC RX6 108 6 [116, 104, 114, 111, 119, 32], c ∈ FLt := tx_in 53 (by decide +kernel)
set_option maxRecDepth 40000 in
theorem tp_17 : ∀ c ∈ txC RX6 110 6 [114, 101, 116, 117, 114, 110], c ∈ FLt := tx_in 63 (by decide +kernel)
set_option maxRecDepth 40000 in
theorem tp_18 : ∀ c ∈ txC RX6 123 2 [105, 110], c ∈ FLt := tx_in 24 (by decide +kernel)
set_option maxRecDepth 40000 in
theorem tp_19 : ∀ c ∈ txC RX6 129 1 [40], c ∈ FLt := tx_in 30 (by decide +kernel)
set_option maxRecDepth 40000 in
theorem tp_20 : ∀ c ∈ txC RX6 134 1 [41], c ∈ FLt := tx_in 35 (by decide +kernel)
theorem tp_all (i : Nat) (hi : i < spN) : ∀ c ∈ txC RX6 (spL.getD i (0, "")).1 (spLen.getD i 0) (spByt.getD i []), c ∈ FLt := by
  match i, hi with
  | 0, _ => exact tp_0
  | 1, _ => exact tp_1
  | 2, _ => exact tp_2
  | 3, _ => exact tp_3
  | 4, _ => exact tp_4
  | 5, _ => exact tp_5
  | 6, _ => exact tp_6
  | 7, _ => exact tp_7
  | 8, _ => exact tp_8
  | 9, _ => exact tp_9
  | 10, _ => exact tp_10
  | 11, _ => exact tp_11
  | 12, _ => exact tp_12
  | 13, _ => exact tp_13
  | 14, _ => exact tp_14
  | 15, _ => exact tp_15
  | 16, _ => exact tp_16
  | 17, _ => exact tp_17
  | 18, _ => exact tp_18
  | 19, _ => exact tp_19
  | 20, _ => exact tp_20
  | n + 21, h => exact absurd h (by unfold spN; omega)
theorem tp_dis : ∀ i, i < spN → ∀ j, j < spN → (spLen.getD i 0 = spLen.getD j 0 ∧ (List.range (spLen.getD i 0)).map (fun p => (spByt.getD i []).getD p 0) = (List.range (spLen.getD j 0)).map (fun p => (spByt.getD j []).getD p 0)) → i = j := by decide +kernel
theorem tp_len : ∀ i, i < spN → spLen.getD i 0 ≤ 3584 := by decide +kernel
set_option maxRecDepth 40000 in
theorem tp_ref : spL.map (fun q => Cond.stringRef RX6 q.1 q.2) = [1418, 1419, 1424, 1425, 1426, 1427, 1428, 1417, 1429, 1430, 1431, 1432, 1433, 1434, 1413, 1414, 1415, 1416, 1328, 1382, 1383].filterMap (fun i => lw_tbl[i]?) := by decide +kernel
set_option maxRecDepth 40000 in
theorem tm_0 : ∀ c ∈ txC RX12 202 16 [43, 45, 42, 47, 37, 60, 61, 33, 110, 100, 112, 119, 105, 111, 116, 114], c ∈ FLt := tx_in 230 (by decide +kernel)
set_option maxRecDepth 40000 in
theorem tm_1 : ∀ c ∈ txC RX12 223 5 [107, 108, 115, 103, 122], c ∈ FLt := tx_in 250 (by decide +kernel)
set_option maxRecDepth 40000 in
theorem tm_2 : ∀ c ∈ txC RX12 244 8 [43, 45, 42, 47, 37, 60, 61, 119], c ∈ FLt := tx_in 259 (by decide +kernel)
set_option maxRecDepth 40000 in
theorem tm_3 : ∀ c ∈ txC RX12 246 8 [33, 110, 100, 112, 115, 122, 111, 116], c ∈ FLt := tx_in 271 (by decide +kernel)
set_option maxRecDepth 40000 in
theorem tm_4 : ∀ c ∈ txC RX12 248 12 [107, 108, 43, 45, 42, 47, 37, 60, 61, 33, 110, 105], c ∈ FLt := tx_in 283 (by decide +kernel)
set_option maxRecDepth 40000 in
theorem tm_5 : ∀ c ∈ txC RX12 250 3 [47, 37, 116], c ∈ FLt := tx_in 306 (by decide +kernel)
set_option maxRecDepth 40000 in
theorem tm_6 : ∀ c ∈ txC RX12 252 3 [103, 116, 114], c ∈ FLt := tx_in 299 (by decide +kernel)
set_option maxRecDepth 40000 in
theorem tm_7 : ∀ c ∈ txC RX12 319 4 [103, 122, 116, 114], c ∈ FLt := tx_in 313 (by decide +kernel)
set_option maxRecDepth 40000 in
theorem tm_8 : ∀ c ∈ txC RX12 442 7 [43, 45, 42, 47, 37, 60, 61], c ∈ FLt := tx_in 321 (by decide +kernel)
set_option maxRecDepth 40000 in
theorem tm_9 : ∀ c ∈ txC RX12 462 2 [116, 114], c ∈ FLt := tx_in 332 (by decide +kernel)
set_option maxRecDepth 40000 in
theorem tm_10 : ∀ c ∈ txC RX12 562 2 [105, 110], c ∈ FLt := tx_in 369 (by decide +kernel)
set_option maxRecDepth 40000 in
theorem tm_11 : ∀ c ∈ txC RX12 570 4 [111, 117, 116, 32], c ∈ FLt := tx_in 338 (by decide +kernel)
set_option maxRecDepth 40000 in
theorem tm_12 : ∀ c ∈ txC RX12 572 6 [116, 104, 114, 111, 119, 32], c ∈ FLt := tx_in 347 (by decide +kernel)
set_option maxRecDepth 40000 in
theorem tm_13 : ∀ c ∈ txC RX12 574 6 [114, 101, 116, 117, 114, 110], c ∈ FLt := tx_in 358 (by decide +kernel)
set_option maxRecDepth 40000 in
theorem tm_14 : ∀ c ∈ txC RX12 579 5 [108, 111, 111, 112, 32], c ∈ FLt := tx_in 376 (by decide +kernel)
set_option maxRecDepth 40000 in
theorem tm_15 : ∀ c ∈ txC RX12 585 6 [98, 108, 111, 99, 107, 32], c ∈ FLt := tx_in 385 (by decide +kernel)
set_option maxRecDepth 40000 in
theorem tm_16 : ∀ c ∈ txC RX12 587 3 [105, 102, 32], c ∈ FLt := tx_in 395 (by decide +kernel)
set_option maxRecDepth 40000 in
theorem tm_17 : ∀ c ∈ txC RX12 589 5 [101, 108, 115, 101, 123], c ∈ FLt := tx_in 403 (by decide +kernel)
set_option maxRecDepth 40000 in
theorem tm_18 : ∀ c ∈ txC RX12 591 6 [98, 114, 101, 97, 107, 32], c ∈ FLt := tx_in 413 (by decide +kernel)
set_option maxRecDepth 40000 in
theorem tm_19 : ∀ c ∈ txC RX12 593 9 [99, 111, 110, 116, 105, 110, 117, 101, 32], c ∈ FLt := tx_in 423 (by decide +kernel)
set_option maxRecDepth 40000 in
theorem tm_20 : ∀ c ∈ txC RX12 595 5 [103, 111, 116, 111, 32], c ∈ FLt := tx_in 436 (by decide +kernel)
set_option maxRecDepth 40000 in
theorem tm_21 : ∀ c ∈ txC RX12 597 4 [116, 114, 121, 123], c ∈ FLt := tx_in 445 (by decide +kernel)
set_option maxRecDepth 40000 in
theorem tm_22 : ∀ c ∈ txC RX12 599 7 [125, 99, 97, 116, 99, 104, 32], c ∈ FLt := tx_in 454 (by decide +kernel)
set_option maxRecDepth 40000 in
theorem tm_23 : ∀ c ∈ txC RX12 601 0 [], c ∈ FLt := tx_in 465 (by decide +kernel)
theorem tm_all (i : Nat) (hi : i < smN) : ∀ c ∈ txC RX12 (smL.getD i (0, "")).1 (smLen.getD i 0) (smByt.getD i []), c ∈ FLt := by
  match i, hi with
  | 0, _ => exact tm_0
  | 1, _ => exact tm_1
  | 2, _ => exact tm_2
  | 3, _ => exact tm_3
  | 4, _ => exact tm_4
  | 5, _ => exact tm_5
  | 6, _ => exact tm_6
  | 7, _ => exact tm_7
  | 8, _ => exact tm_8
  | 9, _ => exact tm_9
  | 10, _ => exact tm_10
  | 11, _ => exact tm_11
  | 12, _ => exact tm_12
  | 13, _ => exact tm_13
  | 14, _ => exact tm_14
  | 15, _ => exact tm_15
  | 16, _ => exact tm_16
  | 17, _ => exact tm_17
  | 18, _ => exact tm_18
  | 19, _ => exact tm_19
  | 20, _ => exact tm_20
  | 21, _ => exact tm_21
  | 22, _ => exact tm_22
  | 23, _ => exact tm_23
  | n + 24, h => exact absurd h (by unfold smN; omega)
theorem tm_dis : ∀ i, i < smN → ∀ j, j < smN → (smLen.getD i 0 = smLen.getD j 0 ∧ (List.range (smLen.getD i 0)).map (fun p => (smByt.getD i []).getD p 0) = (List.range (smLen.getD j 0)).map (fun p => (smByt.getD j []).getD p 0)) → i = j := by decide +kernel
theorem tm_len : ∀ i, i < smN → smLen.getD i 0 ≤ 3584 := by decide +kernel
set_option maxRecDepth 40000 in
theorem tm_ref : smL.map (fun q => Cond.stringRef RX12 q.1 q.2) = [1990, 1996, 2042, 2043, 2047, 2062, 2051, 2083, 2213, 2218, 2352, 2341, 2346, 2347, 2353, 2358, 2359, 2360, 2361, 2362, 2363, 2364, 2365, 2366].filterMap (fun i => lw_tbl[i]?) := by decide +kernel
set_option maxRecDepth 40000 in
theorem nw_ref : nwL.map (fun q => Cond.methodLinkNest q.1 q.2.1 q.2.2.1 q.2.2.2) = [1003, 1147, 1164, 1183, 1596, 1222, 935, 945, 1505, 1506, 1509, 1381, 1169, 1172, 1029, 890].filterMap (fun i => lw_tbl[i]?) := by decide +kernel
theorem ref_in {α : Type} {L : List α} {g : α → Cond} {ps : List Nat} (h : L.map g = ps.filterMap (fun i => lw_tbl[i]?)) {q : α} (hq : q ∈ L) : g q ∈ lw_tbl := by
  have h1 : g q ∈ ps.filterMap (fun i => lw_tbl[i]?) := by rw [← h]; exact List.mem_map_of_mem hq
  obtain ⟨i, _, hi⟩ := List.mem_filterMap.mp h1
  exact List.mem_of_getElem? hi
theorem nw_start {args : Array Value} {s : State} (hts : ∀ w ∈ lw_tbl, w.before args s = true) : NW s := fun q hq => va_Nw.of rfl (hts _ (ref_in nw_ref hq))
theorem arr_of {args : Array Value} {s : State} {ty : FieldType} (h4 : ty = .int ∨ ty = .byte ∨ ty = .boolean ∨ ty = .long) (h : (Cond.arrayClass ty).before args s = true) : ∃ cA : ClassId, ArrOfT s cA ty ∧ va_RA s cA ty := by
  obtain ⟨cA, kA, comp, h1, h2, h3⟩ := Cond.arrayClass_spec h
  refine ⟨cA, fun n z => ⟨fun k q => ?_, kA, h2, comp, h3⟩, ?_⟩
  · rcases h4 with rfl | rfl | rfl | rfl <;> cases q
  · rcases h4 with rfl | rfl | rfl | rfl <;> exact h1
theorem CZ.perm {D : va_G} {A : Nat → Prop} {s : State} {H : Heap} {locs : List Loc} {w w2 : va_W} (h : CZ D A s H locs w) (hp : w.Perm w2) : CZ D A s H locs w2 := by
  obtain ⟨h1, h2, h3⟩ := h
  rw [pz_in] at h1
  rw [dz_in] at h2
  exact ⟨pz_in.mpr fun q hq => h1 q (hp.mem_iff.mpr hq), dz_in.mpr ⟨(hp.map _).nodup_iff.mp h2.1, fun q hq => h2.2 q (hp.mem_iff.mpr hq)⟩, h3⟩
