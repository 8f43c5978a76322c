theorem prN {D : va_G} {y : Nat → ClassId} {A : Nat → Prop} {s : State} {H : Heap} {locs : List Loc} {w : va_W} {vs : List Value} (hK : va_K D vwCl (TYL y) s) (h9 : va_Nw (.methodLinkNest RX11 9 yX9_init RX11) s) (h18 : va_Nw (.methodLinkNest RX11 18 yX3_init RX11) s) (h46 : va_Nw (.methodLinkNest RX11 46 yX7_init RX11) s) (hC : CZ D A s H locs w) : ∀ U : State, U.heap = H → s.WarmedH U.vm → va_Pc vs (PCn D y w H.size) vs.toArray U := by
  intro U hU hW
  obtain ⟨h0, h1⟩ := prC (vs := vs) hK hC U hU hW
  exact ⟨h0, h1, va_Nw.warmM hW h9, va_Nw.warmM hW h18, va_Nw.warmM hW h46⟩
theorem vk_cg {N : Nat} {len : List Nat} {byt : List (List Int32)} {a v a2 v2 : Nat → Nat} {A : Nat → Prop} {U : State} {H : Heap} (ha : ∀ i, i < N → a i = a2 i) (hv : ∀ i, i < N → v i = v2 i) (h : vk_S N len byt a v A U H) : vk_S N len byt a2 v2 A U H :=
  ⟨fun i hi => by rw [← ha i hi, ← hv i hi]; exact h.1 i hi, fun i j hi hj e => h.2 i j hi hj (by rw [ha i hi, ha j hj]; exact e)⟩
set_option maxRecDepth 40000 in
theorem ss_start {args : Array Value} {s : State} (hts : ∀ w ∈ lw_tbl, w.before args s = true) (hgv : (Jvm.Cond.and given_1 narrow_1).before args s = true) : ∃ ad av : Nat → Nat, SS ad av (ALs s) s s.heap := by
  have hf := flat_of_before _ hgv
  have hA : ∀ a : Nat, a < s.heap.size → ¬ ALs s a := fun a h => Nat.not_le.mpr h
  obtain ⟨qp, p1, p2⟩ := tx_all (A := ALs s) (C := RX6) (N := spN) (L := spL) tp_len (fun i hi c hc => hf c (tp_all i hi c hc)) hA tp_dis
  obtain ⟨qm, m1, m2⟩ := tx_all (A := ALs s) (C := RX12) (N := smN) (L := smL) tm_len (fun i hi c hc => hf c (tm_all i hi c hc)) hA tm_dis
  have lp : spN = 21 := rfl
  have lm : smN = 24 := rfl
  refine ⟨fun i => if i < 100 then (qp i).1 else (qm (i - 100)).1, fun i => if i < 100 then (qp i).2 else (qm (i - 100)).2, ?_, ?_, ?_, ?_, ?_, ?_⟩
  · intro i k tx hi
    have hl : i < spN := (List.getElem?_eq_some_iff.mp hi).1
    have e := p2 i hl
    rw [List.getD_eq_getElem?_getD, hi] at e
    have e9 : (if i < 100 then (qp i).1 else (qm (i - 100)).1) = (qp i).1 := if_pos (by omega)
    show vk_R RX6 k tx (if i < 100 then (qp i).1 else (qm (i - 100)).1) s
    rw [e9]
    exact vk_R.of (hts _ (ref_in tp_ref (List.mem_of_getElem? hi))) e
  · intro i k tx hi
    have hl : i < smN := (List.getElem?_eq_some_iff.mp hi).1
    have e := m2 i hl
    rw [List.getD_eq_getElem?_getD, hi] at e
    have e9 : (if 100 + i < 100 then (qp (100 + i)).1 else (qm (100 + i - 100)).1) = (qm i).1 := by rw [if_neg (by omega), Nat.add_sub_cancel_left]
    show vk_R RX12 k tx (if 100 + i < 100 then (qp (100 + i)).1 else (qm (100 + i - 100)).1) s
    rw [e9]
    exact vk_R.of (hts _ (ref_in tm_ref (List.mem_of_getElem? hi))) e
  · exact vk_cg (fun i hi => (if_pos (by omega)).symm) (fun i hi => (if_pos (by omega)).symm) p1
  · refine vk_cg (fun i hi => ?_) (fun i hi => ?_) m1
    · show (qm i).1 = (if 100 + i < 100 then (qp (100 + i)).1 else (qm (100 + i - 100)).1)
      rw [if_neg (by omega), Nat.add_sub_cancel_left]
    · show (qm i).2 = (if 100 + i < 100 then (qp (100 + i)).2 else (qm (100 + i - 100)).2)
      rw [if_neg (by omega), Nat.add_sub_cancel_left]
  · exact va_Zof (hts (.laysStatic "java/lang/String" "COMPACT_STRINGS" "Z") (List.mem_of_getElem? (i := 1342) (by decide +kernel))) (hts (.initialized "java/lang/String") (List.mem_of_getElem? (i := 225) (by decide +kernel))) (va_eqt (hf (.eq (.static "java/lang/String" "COMPACT_STRINGS" "Z") (.int 1)) (List.mem_of_getElem? (i := 4) (by decide +kernel)))) hA
  · exact va_Zqof (hts (.laysStatic "jdk/internal/util/Preconditions" "SIOOBE_FORMATTER" "Ljava/util/function/BiFunction;") (List.mem_of_getElem? (i := 1358) (by decide +kernel))) (hts (.initialized "jdk/internal/util/Preconditions") (List.mem_of_getElem? (i := 227) (by decide +kernel))) (hf (.isRef (.static "jdk/internal/util/Preconditions" "SIOOBE_FORMATTER" "Ljava/util/function/BiFunction;")) (List.mem_of_getElem? (i := 5) (by decide +kernel))) hA
set_option maxRecDepth 40000 in
theorem xe_start1 {args : Array Value} {s : State} (hts : ∀ w ∈ lw_tbl, w.before args s = true) (hgv : (Jvm.Cond.and given_1 narrow_1).before args s = true) : ∃ sa : Nat, xE sa 198 "no such instruction" (ALs s) s s.heap := by
  have hf := flat_of_before _ hgv
  obtain ⟨sa, c, cA, kA, q1, -⟩ := Cond.exactly_spec (args := args) (first := s) (o := none) (s := s) (idx := []) (t := .string RX11 198) (cls := "java/lang/String") (hf (.exactly (.string RX11 198) "java/lang/String") (List.mem_of_getElem? (i := 190) (by decide +kernel)))
  exact ⟨sa, vk_R.of (hts (.stringRef RX11 198 "no such instruction") (List.mem_of_getElem? (i := 1644) (by decide +kernel))) q1, vx_Zqof (hts (.laysStatic Bundle.tN "UNASSIGNED_STACK" Bundle.steD) (List.mem_of_getElem? (i := 1632) (by decide +kernel))) (hts (.initialized Bundle.tN) (List.mem_of_getElem? (i := 233) (by decide +kernel))) (hf (.isRef (.static Bundle.tN "UNASSIGNED_STACK" Bundle.steD)) (List.mem_of_getElem? (i := 9) (by decide +kernel))) (fun a h => Nat.not_le.mpr h), vx_Zqof (hts (.laysStatic Bundle.tN "SUPPRESSED_SENTINEL" Bundle.listD) (List.mem_of_getElem? (i := 1634) (by decide +kernel))) (hts (.initialized Bundle.tN) (List.mem_of_getElem? (i := 233) (by decide +kernel))) (hf (.isRef (.static Bundle.tN "SUPPRESSED_SENTINEL" Bundle.listD)) (List.mem_of_getElem? (i := 10) (by decide +kernel))) (fun a h => Nat.not_le.mpr h), va_Nw.of rfl (hts (.castable "java/util/NoSuchElementException" "java/util/NoSuchElementException") (List.mem_of_getElem? (i := 1607) (by decide +kernel))), va_Nw.of rfl (hts (.declares ⟨"java/lang/RuntimeException", "<init>", "(Ljava/lang/String;)V"⟩) (List.mem_of_getElem? (i := 1609) (by decide +kernel))), va_Nw.of rfl (hts (.declares ⟨"java/lang/Exception", "<init>", "(Ljava/lang/String;)V"⟩) (List.mem_of_getElem? (i := 1611) (by decide +kernel))), va_Nw.of rfl (hts (.declares ⟨"java/lang/Throwable", "<init>", "(Ljava/lang/String;)V"⟩) (List.mem_of_getElem? (i := 1613) (by decide +kernel)))⟩
set_option maxRecDepth 40000 in
theorem xe_start2 {args : Array Value} {s : State} (hts : ∀ w ∈ lw_tbl, w.before args s = true) (hgv : (Jvm.Cond.and given_1 narrow_1).before args s = true) : ∃ sa : Nat, xE sa 220 "no such block" (ALs s) s s.heap := by
  have hf := flat_of_before _ hgv
  obtain ⟨sa, c, cA, kA, q1, -⟩ := Cond.exactly_spec (args := args) (first := s) (o := none) (s := s) (idx := []) (t := .string RX11 220) (cls := "java/lang/String") (hf (.exactly (.string RX11 220) "java/lang/String") (List.mem_of_getElem? (i := 213) (by decide +kernel)))
  exact ⟨sa, vk_R.of (hts (.stringRef RX11 220 "no such block") (List.mem_of_getElem? (i := 1678) (by decide +kernel))) q1, vx_Zqof (hts (.laysStatic Bundle.tN "UNASSIGNED_STACK" Bundle.steD) (List.mem_of_getElem? (i := 1632) (by decide +kernel))) (hts (.initialized Bundle.tN) (List.mem_of_getElem? (i := 233) (by decide +kernel))) (hf (.isRef (.static Bundle.tN "UNASSIGNED_STACK" Bundle.steD)) (List.mem_of_getElem? (i := 9) (by decide +kernel))) (fun a h => Nat.not_le.mpr h), vx_Zqof (hts (.laysStatic Bundle.tN "SUPPRESSED_SENTINEL" Bundle.listD) (List.mem_of_getElem? (i := 1634) (by decide +kernel))) (hts (.initialized Bundle.tN) (List.mem_of_getElem? (i := 233) (by decide +kernel))) (hf (.isRef (.static Bundle.tN "SUPPRESSED_SENTINEL" Bundle.listD)) (List.mem_of_getElem? (i := 10) (by decide +kernel))) (fun a h => Nat.not_le.mpr h), va_Nw.of rfl (hts (.castable "java/util/NoSuchElementException" "java/util/NoSuchElementException") (List.mem_of_getElem? (i := 1607) (by decide +kernel))), va_Nw.of rfl (hts (.declares ⟨"java/lang/RuntimeException", "<init>", "(Ljava/lang/String;)V"⟩) (List.mem_of_getElem? (i := 1609) (by decide +kernel))), va_Nw.of rfl (hts (.declares ⟨"java/lang/Exception", "<init>", "(Ljava/lang/String;)V"⟩) (List.mem_of_getElem? (i := 1611) (by decide +kernel))), va_Nw.of rfl (hts (.declares ⟨"java/lang/Throwable", "<init>", "(Ljava/lang/String;)V"⟩) (List.mem_of_getElem? (i := 1613) (by decide +kernel)))⟩
set_option maxHeartbeats 8000000 in
set_option maxRecDepth 100000 in
theorem whole_start {p : Program} {e : Env} {s : State} {m : MethodId} {below : List Frame} {meth : Method} {c : Code} (l : Launch) (hflags : l.flags = flags0) {b L : Nat} {xs : Nat → Int32} (hL : L ≤ 3584) (C0 : lw_At p s m meth c b L xs) (hJ0 : JT ZS ZS) : W p l e room_1 s m #[Value.ref b] below meth c s.heap [] 0 0 (lw_Z below #[Value.ref b] s) (entryFrame m ([Value.ref b] : List Value).toArray 7) := by
  obtain ⟨hx, hb, hr, hml, hown, hts, hX, hbl, hlocks, hgv⟩ := id C0
  have hown : s.vm.findClass RL = some m.cls := hown
  have hA : ∀ q : Nat, s.heap.size ≤ q → ALs s q := fun _ h => h
  have hfl : l.stackTraces = false := by unfold Launch.stackTraces; rw [hflags]; decide +kernel
  obtain ⟨ad, av, hV⟩ := ss_start hts hgv
  obtain ⟨sa1, hE1⟩ := xe_start1 hts hgv
  obtain ⟨sa2, hE2⟩ := xe_start2 hts hgv
  have hN := nw_start hts
  obtain ⟨c0, i0, hKn0⟩ := u_known (C := RX0) (T := TX0) (N := 16) (n := 16) hts il_X0 (hts (.instantiable RX0 16) (List.mem_of_getElem? (i := 325) (by decide +kernel)))
  obtain ⟨c1, i1, hKn1⟩ := u_known (C := RX1) (T := TX1) (N := 14) (n := 14) hts il_X1 (hts (.instantiable RX1 14) (List.mem_of_getElem? (i := 535) (by decide +kernel)))
  obtain ⟨c2, i2, hKn2⟩ := u_known (C := RX2) (T := TX2) (N := 13) (n := 13) hts il_X2 (hts (.instantiable RX2 13) (List.mem_of_getElem? (i := 659) (by decide +kernel)))
  obtain ⟨c3, i3, hKn3⟩ := u_known (C := RX3) (T := TX3) (N := 8) (n := 8) hts il_X3 (hts (.instantiable RX3 8) (List.mem_of_getElem? (i := 265) (by decide +kernel)))
  obtain ⟨c4, i4, hKn4⟩ := u_known (C := RX4) (T := TX4) (N := 5) (n := 5) hts il_X4 (hts (.instantiable RX4 5) (List.mem_of_getElem? (i := 634) (by decide +kernel)))
  obtain ⟨c5, i5, hKn5⟩ := u_known (C := RX5) (T := TX5) (N := 20) (n := 20) hts il_X5 (hts (.instantiable RX5 20) (List.mem_of_getElem? (i := 719) (by decide +kernel)))
  obtain ⟨c6, i6, hKn6⟩ := u_known (C := RX6) (T := TX6) (N := 5) (n := 5) hts il_X6 (hts (.instantiable RX6 5) (List.mem_of_getElem? (i := 794) (by decide +kernel)))
  obtain ⟨c7, i7, hKn7⟩ := u_known (C := RX7) (T := TX7) (N := 6) (n := 6) hts il_X7 (hts (.instantiable RX7 6) (List.mem_of_getElem? (i := 495) (by decide +kernel)))
  obtain ⟨c8, i8, hKn8⟩ := u_known (C := RX8) (T := TX8) (N := 18) (n := 18) hts il_X8 (hts (.instantiable RX8 18) (List.mem_of_getElem? (i := 417) (by decide +kernel)))
  obtain ⟨c9, i9, hKn9⟩ := u_known (C := RX9) (T := TX9) (N := 3) (n := 3) hts il_X9 (hts (.instantiable RX9 3) (List.mem_of_getElem? (i := 246) (by decide +kernel)))
  obtain ⟨c10, i10, hKn10⟩ := u_known (C := RX10) (T := TX10) (N := 6) (n := 6) hts il_X10 (hts (.instantiable RX10 6) (List.mem_of_getElem? (i := 606) (by decide +kernel)))
  obtain ⟨c11, i11, hKn11⟩ := u_known (C := RX11) (T := TX11) (N := 13) (n := 13) hts il_X11 (hts (.instantiable RX11 13) (List.mem_of_getElem? (i := 238) (by decide +kernel)))
  obtain ⟨c12, i12, hKn12⟩ := u_known (C := RX12) (T := TX12) (N := 87) (n := 87) hts il_X12 (hts (.instantiable RX12 87) (List.mem_of_getElem? (i := 1685) (by decide +kernel)))
  obtain ⟨dC, dI, hKc⟩ : ∃ (dC : Nat → ClassId) (dI : Nat → Nat → Nat), ∀ (k : Nat) (q : vw_C), vwCl[k]? = some q → u_Kn s q.1 q.2.1 q.2.2 (dC k) (dI k) := by
    refine ⟨fun k => ([c0, c1, c2, c3, c4, c5, c6, c7, c8, c9, c10, c11, c12] : List ClassId).getD k c0, fun k => ([i0, i1, i2, i3, i4, i5, i6, i7, i8, i9, i10, i11, i12] : List (Nat → Nat)).getD k i0, ?_⟩
    intro k q hq
    match k, hq with
    | 0, hq => cases hq; exact hKn0
    | 1, hq => cases hq; exact hKn1
    | 2, hq => cases hq; exact hKn2
    | 3, hq => cases hq; exact hKn3
    | 4, hq => cases hq; exact hKn4
    | 5, hq => cases hq; exact hKn5
    | 6, hq => cases hq; exact hKn6
    | 7, hq => cases hq; exact hKn7
    | 8, hq => cases hq; exact hKn8
    | 9, hq => cases hq; exact hKn9
    | 10, hq => cases hq; exact hKn10
    | 11, hq => cases hq; exact hKn11
    | 12, hq => cases hq; exact hKn12
    | k + 13, hq => simp [vwCl] at hq
  obtain ⟨yint, hyint⟩ := arr_of (ty := .int) (by decide) (hts (.arrayClass .int) (List.mem_of_getElem? (i := 323) (by decide +kernel)))
  obtain ⟨ybyte, hybyte⟩ := arr_of (ty := .byte) (by decide) (hts (.arrayClass .byte) (List.mem_of_getElem? (i := 263) (by decide +kernel)))
  obtain ⟨yboolean, hyboolean⟩ := arr_of (ty := .boolean) (by decide) (hts (.arrayClass .boolean) (List.mem_of_getElem? (i := 415) (by decide +kernel)))
  obtain ⟨ylong, hylong⟩ := arr_of (ty := .long) (by decide) (hts (.arrayClass .long) (List.mem_of_getElem? (i := 414) (by decide +kernel)))
  obtain ⟨y, hy⟩ : ∃ y : Nat → ClassId, y = fun k => ([yint, ybyte, yboolean, ylong] : List ClassId).getD k yint := ⟨_, rfl⟩
  have hK : va_K (dC, dI) vwCl (TYL y) s := by
    refine ⟨hKc, fun k q hq => ?_⟩
    subst hy
    match k, hq with
    | 0, hq => cases hq; exact hyint
    | 1, hq => cases hq; exact hybyte
    | 2, hq => cases hq; exact hyboolean
    | 3, hq => cases hq; exact hylong
    | k + 4, hq => simp at hq
  have hC : CZ (dC, dI) (ALs s) s s.heap [] [] := ⟨pz_in.mpr (fun q h => absurd h List.not_mem_nil), dz_in.mpr ⟨List.Pairwise.nil, fun q h => absurd h List.not_mem_nil⟩, va_S.rf⟩
  have hl := lv_entry ([.ref b]) (n := 7) (Nat.le_of_ble_eq_true rfl)
  rw [lg_entry_eq]
  generalize (lg_sl ([.ref b]) ++ List.replicate (7 - (lg_sl ([.ref b])).length) Slot.unset).toArray = ls at hl ⊢
  have hl : lv_has ls 7 [(0, .ref b)] := hl
  have hN9 : va_Nw (.methodLinkNest RX11 9 yX9_init RX11) s := va_Nw.of rfl (hts (.methodLinkNest RX11 9 yX9_init RX11) (List.mem_of_getElem? (i := 247) (by decide +kernel)))
  have hN18 : va_Nw (.methodLinkNest RX11 18 yX3_init RX11) s := va_Nw.of rfl (hts (.methodLinkNest RX11 18 yX3_init RX11) (List.mem_of_getElem? (i := 266) (by decide +kernel)))
  have hN46 : va_Nw (.methodLinkNest RX11 46 yX7_init RX11) s := va_Nw.of rfl (hts (.methodLinkNest RX11 46 yX7_init RX11) (List.mem_of_getElem? (i := 496) (by decide +kernel)))
  refine va_new (ci := 11) (fs := [.null, .null, .null, .null, .null, .null, .null, .null, .null, .null, .null, .null, .int 0]) (C := RX11) (T := TX11) (N := 13) hx hb hts il_X11 tyX11 tyX11_ok hown (hts (.classLink RL 8 RX11) (List.mem_of_getElem? (i := 237) (by decide +kernel))) (hts (.instantiable RX11 13) (List.mem_of_getElem? (i := 238) (by decide +kernel))) (hts (.initialized RX11) (List.mem_of_getElem? (i := 211) (by decide +kernel))) hK hC.1 hC.2.1 hC.2.2 hA rfl (by decide) (Nat.le_of_ble_eq_true rfl) (Nat.le_of_ble_eq_true rfl) dL_law_0 (fun q0 H hP hD hS => ?_)
  have hC : CZ (dC, dI) (ALs s) s H _ ([] ++ ([(q0, .inr (11, [.null, .null, .null, .null, .null, .null, .null, .null, .null, .null, .null, .null, .int 0]))] ++ [])) := ⟨hP, hD, hS⟩
  refine W.widen (k := 1) (n := 13) (Nat.le_of_ble_eq_true rfl) (Nat.le_of_ble_eq_true rfl) ?_
  refine lv_dup hx hb dL_law_3 rfl ?_
  have hM := CZ.mid hC
  have hF := frZ hM hA
  refine va_callv (va_runI (As := []) (rest := [.ref q0]) ⟨hx, hb, hml, hown, hts⟩ (k_X11_init (D := (dC, dI)) (y := y) l q0 _) (cwI 0 hts lc_i11 rfl rfl rfl (hts (.initialized RX11) (List.mem_of_getElem? (i := 211) (by decide +kernel))) (hts (.methodLink RL 18 yX11_init) (List.mem_of_getElem? (i := 239) (by decide +kernel))) (hts (.instanceMethod yX11_init) (List.mem_of_getElem? (i := 240) (by decide +kernel))) rfl (by decide +kernel) ⟨Nat.le_of_ble_eq_true rfl, Nat.le_of_ble_eq_true rfl⟩) ⟨blN, prN hK hN9 hN18 hN46 hM⟩ rfl rfl hl.1 rfl (lv_room (Nat.le_of_ble_eq_true rfl)) dL_law_4 ⟨Nat.le_of_ble_eq_true rfl, Nat.le_of_ble_eq_true rfl⟩) hM.2.2 (fun q _ h => hF q h) hF (fun u t H locs ht hvm hw hB hz1 hk1 hS => ?_)
  subst ht
  have hC := CZ.back hC hA hk1 hB.1 hB.2 hS
  obtain ⟨ox, hox⟩ : ∃ o : Nat → Nat, o = fun k => if k = 0 then q0 else u k := ⟨_, rfl⟩
  have ox0 : ox 0 = q0 := by rw [hox]; rfl
  rw [List.nil_append, List.append_nil] at hC
  have hC : CZ (dC, dI) (ALs s) s t.heap locs (WX y ox ZS) := by rw [hox]; exact hC
  refine W.widen (k := 78) (n := 10423) (Nat.le_of_ble_eq_true rfl) (Nat.le_of_ble_eq_true rfl) ?_
  refine lv_astore_n (lv' := [(1, .ref q0), (0, .ref b)]) hx hb dL_law_7 rfl hl (by decide) rfl (fun ls hl => ?_)
  refine va_new (ci := 12) (fs := [.int 0, .null, .int 0, .int 0, .null, .null, .null, .int 0, .int 0, .null, .null, .null, .null, .null, .null, .int 0, .int 0, .int 0, .int 0, .null, .null, .int 0, .null, .null, .null, .null, .int 0, .null, .null, .null, .null, .null, .int 0, .null, .null, .null, .null, .int 0, .long 0, .int 0, .int 0, .null, .null, .null, .int 0, .null, .null, .null, .null, .null, .int 0, .int 0, .null, .int 0, .int 0, .null, .null, .null, .null, .null, .null, .null, .null, .null, .null, .int 0, .int 0, .null, .null, .int 0, .null, .int 0, .null, .null, .int 0, .int 0, .int 0, .int 0, .int 0, .int 0, .int 0, .int 0, .int 0, .null, .int 0, .null, .null]) (C := RX12) (T := TX12) (N := 87) hx hb hts il_X12 tyX12 tyX12_ok hown (hts (.classLink RL 19 RX12) (List.mem_of_getElem? (i := 1684) (by decide +kernel))) (hts (.instantiable RX12 87) (List.mem_of_getElem? (i := 1685) (by decide +kernel))) (hts (.initialized RX12) (List.mem_of_getElem? (i := 223) (by decide +kernel))) hK hC.1 hC.2.1 hC.2.2 hA rfl (by decide) (Nat.le_of_ble_eq_true rfl) (Nat.le_of_ble_eq_true rfl) dL_law_8 (fun q1 H hP hD hS => ?_)
  have hC : CZ (dC, dI) (ALs s) s H _ (WX y ox ZS ++ ([(q1, .inr (12, [.int 0, .null, .int 0, .int 0, .null, .null, .null, .int 0, .int 0, .null, .null, .null, .null, .null, .null, .int 0, .int 0, .int 0, .int 0, .null, .null, .int 0, .null, .null, .null, .null, .int 0, .null, .null, .null, .null, .null, .int 0, .null, .null, .null, .null, .int 0, .long 0, .int 0, .int 0, .null, .null, .null, .int 0, .null, .null, .null, .null, .null, .int 0, .int 0, .null, .int 0, .int 0, .null, .null, .null, .null, .null, .null, .null, .null, .null, .null, .int 0, .int 0, .null, .null, .int 0, .null, .int 0, .null, .null, .int 0, .int 0, .int 0, .int 0, .int 0, .int 0, .int 0, .int 0, .int 0, .null, .int 0, .null, .null]))] ++ [])) := ⟨hP, hD, hS⟩
  refine W.widen (k := 79) (n := 10510) (Nat.le_of_ble_eq_true rfl) (Nat.le_of_ble_eq_true rfl) ?_
  refine lv_dup hx hb dL_law_11 rfl ?_
  have hM := CZ.mid hC
  have hF := frZ hM hA
  refine va_callv (va_runI (As := []) (rest := [.ref q1]) ⟨hx, hb, hml, hown, hts⟩ (k_X12_init (D := (dC, dI)) (y := y) l q1 _) (cwI 0 hts lc_i12 rfl rfl rfl (hts (.initialized RX12) (List.mem_of_getElem? (i := 223) (by decide +kernel))) (hts (.methodLink RL 21 yX12_init) (List.mem_of_getElem? (i := 1686) (by decide +kernel))) (hts (.instanceMethod yX12_init) (List.mem_of_getElem? (i := 1687) (by decide +kernel))) rfl (by decide +kernel) ⟨Nat.le_of_ble_eq_true rfl, Nat.le_of_ble_eq_true rfl⟩) ⟨blC, prC hK hM⟩ rfl rfl hl.1 rfl (lv_room (Nat.le_of_ble_eq_true rfl)) dL_law_12 ⟨Nat.le_of_ble_eq_true rfl, Nat.le_of_ble_eq_true rfl⟩) hM.2.2 (fun q _ h => hF q h) hF (fun u2 t H locs ht hvm hw hB hz1 hk1 hS => ?_)
  subst ht
  have hC := CZ.back hC hA hk1 hB.1 hB.2 hS
  obtain ⟨om, hom⟩ : ∃ o : Nat → Nat, o = fun k => if k = 0 then q1 else u2 (k - 1) := ⟨_, rfl⟩
  have om0 : om 0 = q1 := by rw [hom]; rfl
  rw [kx12_wm, ← hom, List.append_nil] at hC
  refine W.widen (k := 131) (n := 55262) (Nat.le_of_ble_eq_true rfl) (Nat.le_of_ble_eq_true rfl) ?_
  refine lv_astore_n (lv' := [(2, .ref q1), (1, .ref q0), (0, .ref b)]) hx hb dL_law_15 rfl hl (by decide) rfl (fun ls hl => ?_)
  refine lv_iconst (v := 1) hx hb dL_law_16 (by decide) ?_
  refine va_newa (atype := .long) (ty := .long) (n := 1) (N' := 1) (a0 := (1, .inr (.inl (fun _ => 0)))) hx hb (hts (.arrayClass .long) (List.mem_of_getElem? (i := 414) (by decide +kernel))) rfl hK hC.1 hC.2.1 hC.2.2 hA (fun cA => rfl) (by decide) (by decide) (Nat.le_of_ble_eq_true rfl) (Nat.le_of_ble_eq_true rfl) (Nat.le_of_ble_eq_true rfl) dL_law_17 (fun q2 cJ H hK1 hP hD hS => ?_)
  have hcj : cJ = y 3 := ra_eq (ty := .long) (by decide) ((hK1.2 4 (cJ, .long) rfl).2) ((hK.2 3 _ rfl).2)
  subst hcj
  have hC : CZ (dC, dI) (ALs s) s H _ ((WX y ox ZS ++ WM y om ZS) ++ [(q2, .inl (y 3, 1, .inr (.inl (fun _ => 0))))]) := ⟨hP, hD, hS⟩
  have hC : CZ (dC, dI) (ALs s) s H _ (LWd y om ox q2 ZS ZS (fun _ => 0)) := CZ.perm hC ((List.perm_append_comm.append_right _).trans (by rw [List.append_assoc]))
  refine W.widen (k := 132) (n := 55263) (Nat.le_of_ble_eq_true rfl) (Nat.le_of_ble_eq_true rfl) ?_
  refine lv_astore_n (lv' := [(3, .ref q2), (2, .ref q1), (1, .ref q0), (0, .ref b)]) hx hb dL_law_19 rfl hl (by decide) rfl (fun ls hl => ?_)
  refine lv_iconst (v := 0) hx hb dL_law_20 (by decide) ?_
  refine lv_istore (lv' := [(4, .int 0), (3, .ref q2), (2, .ref q1), (1, .ref q0), (0, .ref b)]) hx hb dL_law_21 hl (by decide) rfl (fun ls hl => ?_)
  rw [← ox0, ← om0] at hl
  exact law_loop l hfl C0 ⟨hK, hN, hV, hE1, hE2⟩ hL 513 ls hJ0 hC (by decide) (by decide) (by rw [show (0 : Int32).toInt = 0 from rfl]; omega) (by decide) (by decide) hl
