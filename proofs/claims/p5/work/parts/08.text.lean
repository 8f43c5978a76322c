/-- a text's byte -/
def byS (i j : Nat) : Int32 := if i < 100 then (spByt.getD i []).getD j 0 else (smByt.getD (i - 100) []).getD j 0
theorem by_all : ∀ l ∈ spByt ++ smByt, ∀ b ∈ l, (b &&& 255 : Int32) = b := by decide +kernel
theorem by_and (i j : Nat) : (byS i j &&& 255 : Int32) = byS i j := by
  have key : ∀ (L : List (List Int32)) (q : Nat), (∀ l ∈ L, l ∈ spByt ++ smByt) → ((L.getD q []).getD j 0 &&& 255 : Int32) = (L.getD q []).getD j 0 := by
    intro L q hL
    by_cases h1 : q < L.length
    · have e1 : L.getD q [] = L[q] := by simp [List.getD_eq_getElem?_getD, List.getElem?_eq_getElem h1]
      rw [e1]
      by_cases h2 : j < L[q].length
      · have e2 : L[q].getD j 0 = L[q][j] := by simp [List.getD_eq_getElem?_getD, List.getElem?_eq_getElem h2]
        rw [e2]
        exact by_all _ (hL _ (List.getElem_mem h1)) _ (List.getElem_mem h2)
      · have e2 : L[q].getD j 0 = 0 := by simp [List.getD_eq_getElem?_getD, List.getElem?_eq_none (Nat.le_of_not_lt h2)]
        rw [e2]; decide
    · have e1 : L.getD q [] = [] := by simp [List.getD_eq_getElem?_getD, List.getElem?_eq_none (Nat.le_of_not_lt h1)]
      rw [e1]
      have e2 : ([] : List Int32).getD j 0 = 0 := by simp
      rw [e2]; decide
  unfold byS
  by_cases h : i < 100
  · rw [if_pos h]; exact key spByt i (fun l hl => List.mem_append_left _ hl)
  · rw [if_neg h]; exact key smByt (i - 100) (fun l hl => List.mem_append_right _ hl)
theorem ss_at {ad av : Nat → Nat} {A : Nat → Prop} {U : State} {H : Heap} (hV : SS ad av A U H) {i n : Nat} (hi : lnS i = n) (hin : i < 21 ∨ (100 ≤ i ∧ i < 124)) : va_O "java/lang/String" (ad i) A U H ∧ va_OF "java/lang/String" "coder" "B" (.int 0) (ad i) A U H ∧ va_OF "java/lang/String" "value" "[B" (.ref (av i)) (ad i) A U H ∧ va_T .byte (av i) n (fun j => .int (byS i j)) A U H := by
  subst hi
  rcases hin with h | ⟨h1, h2⟩
  · have q := hV.2.2.1.1 i h
    have e0 : i < 100 := by omega
    simp only [lnS, byS, if_pos e0]
    exact q
  · obtain ⟨j, rfl⟩ : ∃ j, i = 100 + j := ⟨i - 100, by omega⟩
    have q := hV.2.2.2.1.1 j (show j < 24 by omega)
    have e0 : ¬ 100 + j < 100 := by omega
    have e1 : 100 + j - 100 = j := by omega
    simp only [lnS, byS, if_neg e0, e1]
    exact q
section CS
variable {p : Program} {l : Launch} {e : Env} {R : Room} {s : State} {m : MethodId} {args : Array Value} {below : List Frame} {meth : Method} {c : Code} {H : Heap} {locs : List Loc} {Q : State → Prop} {pc : Nat} {ls : Array Slot} {rest st0 As : List Value} {A : Nat → Prop} {cc bytes : ByteArray} {D : va_G} {y : Nat → ClassId} {ad av : Nat → Nat} {w w2 : va_W} {own C : String} {y' : MethodName} {maxL nL idx n fr lo b i : Nat}
theorem cc_Ri {v : Int32} {rt : FieldType} (hM : ∀ sz : Nat, Met l y' (Cond.code y' bytes maxL (some rt) :: ALW) { frames := fr, cells := 0, slots := 0, locals := lo } (va_Pc (.ref b :: As) (PZ D y ad av w sz)) (QZi D w v w2 sz) 0 0 (va_A w sz)) (hx : p.tables.exec = Jvm.exec) (hb : c.code = cc) (hml : c.maxLocals = nL) (hta : ∀ w ∈ ALW, w.before args s = true) (hown : s.vm.findClass own = some m.cls) (hK : va_K D vwCl (TYL y) s) (hN : NW s) (hV : SS ad av A s s.heap) (hA : ∀ q, s.heap.size ≤ q → A q) (hC : CZ D A s H locs w) (hRc : R.cells = 0) (hRs : R.slots = 0) (hfr : fr + 1 ≤ R.frames) (hlo : 8 + (maxL + 11) + lo ≤ R.locals) (w1 : Cond.methodLink own idx y' ∈ ALW) (hrv : ∃ cell : Cell, H[b]? = some cell ∧ cell.vm.isStatics = false ∧ s.vm.findClass y'.cls = some cell.cls) (w2' : Cond.instanceMethod y' ∈ ALW) (w3 : Cond.selects y'.cls y' y' ∈ ALW) (w4 : Cond.initialized y'.cls ∈ ALW) (w5 : Cond.code y' bytes maxL (some rt) ∈ ALW) (hd : y'.cls ≠ "java/lang/invoke/MethodHandle" ∧ y'.cls ≠ "java/lang/invoke/VarHandle" ∧ (parseMethodDescriptor y'.desc).map (fun d => d.parameters.length) = some n) (hst : st0 = As.reverse ++ .ref b :: rest) (hn : As.length = n) (hsz : ls.size = nL) (hcat : Nat.ble ((rest.map fun v => v.category).sum) 8 = true) (hdg : decode cc pc = .ok (.invokevirtual idx, 3)) (kk : ∀ (H1 : Heap) (locs1 : List Loc), CZ D A s H1 locs1 w2 → W p l e R s m args below meth c H1 locs1 0 0 Q (F0 m (pc + 3) ls (.int v :: rest))) : W p l e R s m args below meth c H locs 0 0 Q (F0 m pc ls st0) := by
  have hM := hM H.size
  exact bhi (va_runV (As := As) (rest := rest) ⟨hx, hb, hml, hown, hta⟩ hM (cwV n hta (gdV w1 w2' w3 w4 w5) rfl rfl rfl ⟨rfl, hd.1, hd.2.1, hd.2.2⟩ ⟨hfr, hlo⟩) ⟨blZ, hrv, prZ hK hN hV hA hC⟩ rfl hn hsz hst (lv_room (Nat.le_of_ble_eq_true hcat)) hdg ⟨by rw [hRc]; exact Nat.le_refl 0, by rw [hRs]; exact Nat.le_refl 0⟩) hA hC kk
end CS
set_option maxHeartbeats 8000000 in
set_option maxRecDepth 100000 in
theorem r_coder {D : va_G} {y : Nat → ClassId} {ad av : Nat → Nat} {w : va_W} {i n : Nat} (hi : lnS i = n) (hin : i < 21 ∨ (100 ≤ i ∧ i < 124)) (l : Launch) (sz : Nat) : Met l yJ0_coder_7d493 (Cond.code yJ0_coder_7d493 cJ0_coder_7d493 1 (some .byte) :: ALW) { frames := 0, cells := 0, slots := 0, locals := 0 } (va_Pc [.ref (ad i)] (PZ D y ad av w sz)) (QZi D w 0 w sz) 0 0 (va_A w sz) := by
  refine met_i (by decide) (Nat.le_of_ble_eq_true rfl) ?_
  intro p e R s m args below meth c Q A ls hx hb hml hta hown hRc hRs hRf hRl hN hK hV hA hret hC hl
  have hl : lv_has ls 1 [(0, .ref (ad i))] := hl
  obtain ⟨hO, hCo, hVa, hT⟩ := ss_at hV hi hin
  refine va_gets hx hb hV.2.2.2.2.1 hC.2.2 hown (hta _ wq_486) (fun _ h => h) dJ0_coder_7d493_0 ?_
  refine lv_if_eq (tgt := 13) hx hb dJ0_coder_7d493_3 (by decide) (fun c1 => absurd c1 (by decide)) (fun c1 => ?_)
  refine lv_aload_n hx hb dJ0_coder_7d493_6 rfl (lv_at hl 0 rfl) ?_
  refine vk_getf hx hb hCo hC.2.2 hown (hta _ wq_487) (fun _ h => h) dJ0_coder_7d493_7 ?_
  refine lv_goto (tgt := 14) hx hb dJ0_coder_7d493_10 (by decide) ?_
  exact hret _ _ _ _ _ _ rfl rfl rfl dJ0_coder_7d493_14 hC
set_option maxHeartbeats 8000000 in
set_option maxRecDepth 100000 in
theorem r_isLatin1 {D : va_G} {y : Nat → ClassId} {ad av : Nat → Nat} {w : va_W} {i n : Nat} (hi : lnS i = n) (hin : i < 21 ∨ (100 ≤ i ∧ i < 124)) (l : Launch) (sz : Nat) : Met l yJ0_isLatin1_aae02 (Cond.code yJ0_isLatin1_aae02 cJ0_isLatin1_aae02 1 (some .boolean) :: ALW) { frames := 0, cells := 0, slots := 0, locals := 0 } (va_Pc [.ref (ad i)] (PZ D y ad av w sz)) (QZi D w 1 w sz) 0 0 (va_A w sz) := by
  refine met_i (by decide) (Nat.le_of_ble_eq_true rfl) ?_
  intro p e R s m args below meth c Q A ls hx hb hml hta hown hRc hRs hRf hRl hN hK hV hA hret hC hl
  have hl : lv_has ls 1 [(0, .ref (ad i))] := hl
  obtain ⟨hO, hCo, hVa, hT⟩ := ss_at hV hi hin
  refine va_gets hx hb hV.2.2.2.2.1 hC.2.2 hown (hta _ wq_486) (fun _ h => h) dJ0_isLatin1_aae02_0 ?_
  refine lv_if_eq (tgt := 17) hx hb dJ0_isLatin1_aae02_3 (by decide) (fun c1 => absurd c1 (by decide)) (fun c1 => ?_)
  refine lv_aload_n hx hb dJ0_isLatin1_aae02_6 rfl (lv_at hl 0 rfl) ?_
  refine vk_getf hx hb hCo hC.2.2 hown (hta _ wq_487) (fun _ h => h) dJ0_isLatin1_aae02_7 ?_
  refine lv_if_ne (tgt := 17) hx hb dJ0_isLatin1_aae02_10 (by decide) (fun c1 => absurd rfl c1) (fun c1 => ?_)
  refine lv_iconst (v := 1) hx hb dJ0_isLatin1_aae02_13 (by decide) ?_
  refine lv_goto (tgt := 18) hx hb dJ0_isLatin1_aae02_14 (by decide) ?_
  exact hret _ _ _ _ _ _ rfl rfl rfl dJ0_isLatin1_aae02_18 hC
theorem shr_0 : ∀ n : Nat, n < 32 → (Int32.ofNat n) >>> ((0 : Int32) &&& 31) = Int32.ofNat n := by decide +kernel
set_option maxHeartbeats 8000000 in
set_option maxRecDepth 100000 in
theorem r_length {D : va_G} {y : Nat → ClassId} {ad av : Nat → Nat} {w : va_W} {i n : Nat} (hi : lnS i = n) (hin : i < 21 ∨ (100 ≤ i ∧ i < 124)) (hn : n < 32) (l : Launch) (sz : Nat) : Met l yJ0_length_8abf5 (Cond.code yJ0_length_8abf5 cJ0_length_8abf5 1 (some .int) :: ALW) { frames := 1, cells := 0, slots := 0, locals := 40 } (va_Pc [.ref (ad i)] (PZ D y ad av w sz)) (QZi D w (Int32.ofNat n) w sz) 0 0 (va_A w sz) := by
  refine met_i (by decide) (Nat.le_of_ble_eq_true rfl) ?_
  intro p e R s m args below meth c Q A ls hx hb hml hta hown hRc hRs hRf hRl hN hK hV hA hret hC hl
  have hl : lv_has ls 1 [(0, .ref (ad i))] := hl
  obtain ⟨hO, hCo, hVa, hT⟩ := ss_at hV hi hin
  refine lv_aload_n hx hb dJ0_length_8abf5_0 rfl (lv_at hl 0 rfl) ?_
  refine vk_getf hx hb hVa hC.2.2 hown (hta _ wq_489) (fun _ h => h) dJ0_length_8abf5_1 ?_
  refine va_tlen hx hb hT hC.2.2 rfl dJ0_length_8abf5_4 ?_
  refine lv_aload_n hx hb dJ0_length_8abf5_5 rfl (lv_at hl 0 rfl) ?_
  have hrv : ∃ cell : Cell, s.heap[ad i]? = some cell ∧ cell.vm.isStatics = false ∧ s.vm.findClass "java/lang/String" = some cell.cls := by
    obtain ⟨cell, h1, h2, h3, -⟩ := hO
    exact ⟨cell, h1, h2, h3⟩
  refine cc_Ri (r_coder (y := y) hi hin l) hx hb hml hta hown hK hN hV hA hC hRc hRs (by omega) (by omega) wq_490 hrv wq_491 wq_492 wq_493 wq_485 hd_J0_coder_7d493 (As := []) (rest := [.int (Int32.ofNat n)]) rfl rfl hl.1 rfl dJ0_length_8abf5_6 (fun H locs hC => ?_)
  refine lv_ishr hx hb dJ0_length_8abf5_9 ?_
  rw [shr_0 n hn]
  exact hret _ _ _ _ _ _ rfl rfl rfl dJ0_length_8abf5_10 hC
set_option maxHeartbeats 8000000 in
set_option maxRecDepth 100000 in
theorem r_chk {D : va_G} {y : Nat → ClassId} {ad av : Nat → Nat} {w : va_W} {k n : Int32} {fm : Value} (hk0 : ¬ k < 0) (hk1 : k < n) (hfl : (lg_sl [.int k, .int n, fm]).length ≤ 3) (hfc : fm.category = 1) (l : Launch) (sz : Nat) : Met l yJ3_checkIndex_8e157 (Cond.code yJ3_checkIndex_8e157 cJ3_checkIndex_8e157 3 (some .int) :: ALW) { frames := 0, cells := 0, slots := 0, locals := 0 } (va_Pc [.int k, .int n, fm] (PZ D y ad av w sz)) (QZi D w k w sz) 0 0 (va_A w sz) := by
  refine met_i (by decide) (hfl) ?_
  intro p e R s m args below meth c Q A ls hx hb hml hta hown hRc hRs hRf hRl hN hK hV hA hret hC hl
  have hl : lv_has ls 3 [(0, .int k), (1, .int n), (2, fm)] := hl
  refine lv_iload_n hx hb dJ3_checkIndex_8e157_0 rfl (lv_at hl 0 rfl) ?_
  refine lv_if_lt (tgt := 9) hx hb dJ3_checkIndex_8e157_1 (by decide) (fun c1 => absurd c1 hk0) (fun c1 => ?_)
  refine lv_iload_n hx hb dJ3_checkIndex_8e157_4 rfl (lv_at hl 0 rfl) ?_
  refine lv_iload_n hx hb dJ3_checkIndex_8e157_5 rfl (lv_at hl 1 rfl) ?_
  refine lv_icmp_lt (tgt := 16) hx hb dJ3_checkIndex_8e157_6 (by decide) (fun c2 => ?_) (fun c2 => absurd hk1 c2)
  refine lv_iload_n hx hb dJ3_checkIndex_8e157_16 rfl (lv_at hl 0 rfl) ?_
  exact hret _ _ _ _ _ _ rfl rfl rfl dJ3_checkIndex_8e157_17 hC
set_option maxHeartbeats 8000000 in
set_option maxRecDepth 100000 in
theorem r_chkS {D : va_G} {y : Nat → ClassId} {ad av : Nat → Nat} {w : va_W} {k n : Int32} (hk0 : ¬ k < 0) (hk1 : k < n) (l : Launch) (sz : Nat) : Met l yJ0_checkIndex_df160 (Cond.code yJ0_checkIndex_df160 cJ0_checkIndex_df160 2 none :: ALW) { frames := 1, cells := 0, slots := 0, locals := 40 } (va_Pc [.int k, .int n] (PZ D y ad av w sz)) (QZv D w w sz) 0 0 (va_A w sz) := by
  refine met_v (by decide) (Nat.le_of_ble_eq_true rfl) ?_
  intro p e R s m args below meth c Q A ls hx hb hml hta hown hRc hRs hRf hRl hN hK hV hA hret hC hl
  have hl : lv_has ls 2 [(0, .int k), (1, .int n)] := hl
  refine lv_iload_n hx hb dJ0_checkIndex_df160_0 rfl (lv_at hl 0 rfl) ?_
  refine lv_iload_n hx hb dJ0_checkIndex_df160_1 rfl (lv_at hl 1 rfl) ?_
  rcases hV.2.2.2.2.2 with hZ | ⟨t, hZ⟩
  · refine va_gets hx hb hZ hC.2.2 hown (hta _ wq_497) (fun _ h => h) dJ0_checkIndex_df160_2 ?_
    exact cc_Si (r_chk (fm := .null) (y := y) hk0 hk1 (Nat.le_of_ble_eq_true rfl) rfl l) hx hb hml hta hown hK hN hV hA hC hRc hRs (by omega) (by omega) wq_498 wq_499 wq_500 wq_495 hd_J3_checkIndex_8e157 (As := [.int k, .int n, .null]) (rest := []) rfl rfl hl.1 rfl dJ0_checkIndex_df160_5 (fun H locs hC => lv_pop hx hb dJ0_checkIndex_df160_8 rfl (hret _ _ _ _ _ rfl dJ0_checkIndex_df160_9 hC))
  · refine va_gets hx hb hZ hC.2.2 hown (hta _ wq_497) (fun _ h => h) dJ0_checkIndex_df160_2 ?_
    exact cc_Si (r_chk (fm := .ref t) (y := y) hk0 hk1 (Nat.le_of_ble_eq_true rfl) rfl l) hx hb hml hta hown hK hN hV hA hC hRc hRs (by omega) (by omega) wq_498 wq_499 wq_500 wq_495 hd_J3_checkIndex_8e157 (As := [.int k, .int n, .ref t]) (rest := []) rfl rfl hl.1 rfl dJ0_checkIndex_df160_5 (fun H locs hC => lv_pop hx hb dJ0_checkIndex_df160_8 rfl (hret _ _ _ _ _ rfl dJ0_checkIndex_df160_9 hC))
set_option maxHeartbeats 8000000 in
set_option maxRecDepth 100000 in
theorem r_chLat {D : va_G} {y : Nat → ClassId} {ad av : Nat → Nat} {w : va_W} {i n : Nat} (hi : lnS i = n) (hin : i < 21 ∨ (100 ≤ i ∧ i < 124)) (hn : n < 32) {k v : Int32} (hk : vp_in k n) (e1 : v = byS i k.toNatClampNeg) (l : Launch) (sz : Nat) : Met l yJ1_charAt_3b067 (Cond.code yJ1_charAt_3b067 cJ1_charAt_3b067 2 (some .char) :: ALW) { frames := 2, cells := 0, slots := 0, locals := 80 } (va_Pc [.ref (av i), .int k] (PZ D y ad av w sz)) (QZi D w v w sz) 0 0 (va_A w sz) := by
  refine met_i (by decide) (Nat.le_of_ble_eq_true rfl) ?_
  intro p e R s m args below meth c Q A ls hx hb hml hta hown hRc hRs hRf hRl hN hK hV hA hret hC hl
  have hl : lv_has ls 2 [(0, .ref (av i)), (1, .int k)] := hl
  obtain ⟨hO, hCo, hVa, hT⟩ := ss_at hV hi hin
  have hk2 := vp_in_iff.mp hk
  have h9 : (0 : Int32).toInt = 0 := by decide
  have hk0 : ¬ k < 0 := by rw [fa_lt]; omega
  have hk1 : k < Int32.ofNat n := by rw [fa_lt]; have := nI_toInt (n := n) (by omega); show k.toInt < (nI n).toInt; omega
  refine lv_iload_n hx hb dJ1_charAt_3b067_0 rfl (lv_at hl 1 rfl) ?_
  refine lv_aload_n hx hb dJ1_charAt_3b067_1 rfl (lv_at hl 0 rfl) ?_
  refine va_tlen hx hb hT hC.2.2 rfl dJ1_charAt_3b067_2 ?_
  refine cc_Sv (r_chkS (y := y) hk0 hk1 l) hx hb hml hta hown hK hN hV hA hC hRc hRs (by omega) (by omega) wq_502 wq_503 wq_493 wq_496 hd_J0_checkIndex_df160 (As := [.int k, .int (Int32.ofNat n)]) (rest := []) rfl rfl hl.1 rfl dJ1_charAt_3b067_3 (fun H locs hC => ?_)
  refine lv_aload_n hx hb dJ1_charAt_3b067_6 rfl (lv_at hl 0 rfl) ?_
  refine lv_iload_n hx hb dJ1_charAt_3b067_7 rfl (lv_at hl 1 rfl) ?_
  refine va_tb hx hb hT hC.2.2 hk rfl dJ1_charAt_3b067_8 ?_
  refine lv_sipush (v := 255) hx hb dJ1_charAt_3b067_9 (by decide) ?_
  refine lv_iand hx hb dJ1_charAt_3b067_12 ?_
  refine lv_i2c (v := v) hx hb dJ1_charAt_3b067_13 (by rw [sc_c2, by_and]; exact e1.symm) ?_
  exact hret _ _ _ _ _ _ rfl rfl (by rw [e1, ← by_and]; exact sc_nar _) dJ1_charAt_3b067_14 hC
set_option maxHeartbeats 8000000 in
set_option maxRecDepth 100000 in
theorem r_charAt {D : va_G} {y : Nat → ClassId} {ad av : Nat → Nat} {w : va_W} {i n : Nat} (hi : lnS i = n) (hin : i < 21 ∨ (100 ≤ i ∧ i < 124)) (hn : n < 32) {k v : Int32} (hk : vp_in k n) (e1 : v = byS i k.toNatClampNeg) (l : Launch) (sz : Nat) : Met l yJ0_charAt_5068e (Cond.code yJ0_charAt_5068e cJ0_charAt_5068e 2 (some .char) :: ALW) { frames := 3, cells := 0, slots := 0, locals := 120 } (va_Pc [.ref (ad i), .int k] (PZ D y ad av w sz)) (QZi D w v w sz) 0 0 (va_A w sz) := by
  refine met_i (by decide) (Nat.le_of_ble_eq_true rfl) ?_
  intro p e R s m args below meth c Q A ls hx hb hml hta hown hRc hRs hRf hRl hN hK hV hA hret hC hl
  have hl : lv_has ls 2 [(0, .ref (ad i)), (1, .int k)] := hl
  obtain ⟨hO, hCo, hVa, hT⟩ := ss_at hV hi hin
  refine lv_aload_n hx hb dJ0_charAt_5068e_0 rfl (lv_at hl 0 rfl) ?_
  have hrv : ∃ cell : Cell, s.heap[ad i]? = some cell ∧ cell.vm.isStatics = false ∧ s.vm.findClass "java/lang/String" = some cell.cls := by
    obtain ⟨cell, h1, h2, h3, -⟩ := hO
    exact ⟨cell, h1, h2, h3⟩
  refine cc_Ri (r_isLatin1 (y := y) hi hin l) hx hb hml hta hown hK hN hV hA hC hRc hRs (by omega) (by omega) wq_519 hrv wq_520 wq_521 wq_493 wq_494 hd_J0_isLatin1_aae02 (As := []) (rest := []) rfl rfl hl.1 rfl dJ0_charAt_5068e_1 (fun H locs hC => ?_)
  refine lv_if_eq (tgt := 16) hx hb dJ0_charAt_5068e_4 (by decide) (fun c1 => absurd c1 (by decide)) (fun c1 => ?_)
  refine lv_aload_n hx hb dJ0_charAt_5068e_7 rfl (lv_at hl 0 rfl) ?_
  refine vk_getf hx hb hVa hC.2.2 hown (hta _ wq_489) (fun _ h => h) dJ0_charAt_5068e_8 ?_
  refine lv_iload_n hx hb dJ0_charAt_5068e_11 rfl (lv_at hl 1 rfl) ?_
  refine cc_Si (r_chLat (y := y) hi hin hn hk e1 l) hx hb hml hta hown hK hN hV hA hC hRc hRs (by omega) (by omega) wq_522 wq_523 wq_524 wq_501 hd_J1_charAt_3b067 (As := [.ref (av i), .int k]) (rest := []) rfl rfl hl.1 rfl dJ0_charAt_5068e_12 (fun H locs hC => ?_)
  exact hret _ _ _ _ _ _ rfl rfl (by rw [e1, ← by_and]; exact sc_nar _) dJ0_charAt_5068e_15 hC
section CT
variable {p : Program} {l : Launch} {e : Env} {R : Room} {s : State} {m : MethodId} {args : Array Value} {below : List Frame} {meth : Method} {c : Code} {H : Heap} {locs : List Loc} {Q : State → Prop} {pc : Nat} {ls : Array Slot} {rest : List Value} {A : Nat → Prop} {cc : ByteArray} {D : va_G} {y : Nat → ClassId} {ad av : Nat → Nat} {w : va_W} {own : String} {nL idx : Nat}
theorem rv_S {i n : Nat} (hV : SS ad av A s s.heap) (hi : lnS i = n) (hin : i < 21 ∨ (100 ≤ i ∧ i < 124)) (hC : CZ D A s H locs w) : ∃ cell : Cell, H[ad i]? = some cell ∧ cell.vm.isStatics = false ∧ s.vm.findClass "java/lang/String" = some cell.cls := by
  obtain ⟨cell, h1, h2, h3, -⟩ := (ss_at hV hi hin).1.kept hC.2.2.2.1
  exact ⟨cell, h1, h2, h3⟩
theorem cc_length (hx : p.tables.exec = Jvm.exec) (hb : c.code = cc) (hml : c.maxLocals = nL) (hta : ∀ w ∈ ALW, w.before args s = true) (hown : s.vm.findClass own = some m.cls) (hK : va_K D vwCl (TYL y) s) (hN : NW s) (hV : SS ad av A s s.heap) (hA : ∀ q, s.heap.size ≤ q → A q) (hC : CZ D A s H locs w) (hRc : R.cells = 0) (hRs : R.slots = 0) (hfr : 8 ≤ R.frames) (hlo : 200 ≤ R.locals) (w1 : Cond.methodLink own idx yJ0_length_8abf5 ∈ ALW) {i n : Nat} (hi : lnS i = n) (hin : i < 21 ∨ (100 ≤ i ∧ i < 124)) (hn : n < 32) (hsz : ls.size = nL) (hcat : Nat.ble ((rest.map fun v => v.category).sum) 8 = true) (hdg : decode cc pc = .ok (.invokevirtual idx, 3)) (k : ∀ (H1 : Heap) (locs1 : List Loc), CZ D A s H1 locs1 w → W p l e R s m args below meth c H1 locs1 0 0 Q (F0 m (pc + 3) ls (.int (Int32.ofNat n) :: rest))) : W p l e R s m args below meth c H locs 0 0 Q (F0 m pc ls (.ref (ad i) :: rest)) :=
  cc_Ri (r_length (y := y) hi hin hn l) hx hb hml hta hown hK hN hV hA hC hRc hRs (by omega) (by omega) w1 (rv_S hV hi hin hC) wq_529 wq_530 wq_493 wq_488 hd_J0_length_8abf5 (As := []) (rest := rest) rfl rfl hsz hcat hdg k
theorem cc_charAt (hx : p.tables.exec = Jvm.exec) (hb : c.code = cc) (hml : c.maxLocals = nL) (hta : ∀ w ∈ ALW, w.before args s = true) (hown : s.vm.findClass own = some m.cls) (hK : va_K D vwCl (TYL y) s) (hN : NW s) (hV : SS ad av A s s.heap) (hA : ∀ q, s.heap.size ≤ q → A q) (hC : CZ D A s H locs w) (hRc : R.cells = 0) (hRs : R.slots = 0) (hfr : 8 ≤ R.frames) (hlo : 200 ≤ R.locals) (w1 : Cond.methodLink own idx yJ0_charAt_5068e ∈ ALW) {i n : Nat} (hi : lnS i = n) (hin : i < 21 ∨ (100 ≤ i ∧ i < 124)) (hn : n < 32) {k0 v : Int32} (hk0 : vp_in k0 n) (e1 : v = chS i k0) (hsz : ls.size = nL) (hcat : Nat.ble ((rest.map fun v => v.category).sum) 8 = true) (hdg : decode cc pc = .ok (.invokevirtual idx, 3)) (k : ∀ (H1 : Heap) (locs1 : List Loc), CZ D A s H1 locs1 w → W p l e R s m args below meth c H1 locs1 0 0 Q (F0 m (pc + 3) ls (.int v :: rest))) : W p l e R s m args below meth c H locs 0 0 Q (F0 m pc ls (.int k0 :: .ref (ad i) :: rest)) :=
  cc_Ri (r_charAt (y := y) hi hin hn hk0 (e1.trans rfl) l) hx hb hml hta hown hK hN hV hA hC hRc hRs (by omega) (by omega) w1 (rv_S hV hi hin hC) wq_532 wq_533 wq_493 wq_527 hd_J0_charAt_5068e (As := [.int k0]) (rest := rest) rfl rfl hsz hcat hdg k
end CT
