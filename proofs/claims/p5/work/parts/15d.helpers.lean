theorem alx_good : ∀ w ∈ ALX, ((w.onTables && w.keeps) = true ∨ ∃ ty, w = .arrayClass ty) := by
  intro w hw
  unfold ALX at hw
  rcases List.mem_append.mp hw with h | h
  · exact alw_good w h
  · have g : ([.classLink RX11 196 "java/util/NoSuchElementException", .initialized "java/util/NoSuchElementException"] ++ n13_at.filter goodWord : List Cond).all goodWord = true := by decide +kernel
    exact good_of_word (List.all_eq_true.mp g w h)
def ALH_instruction : List Cond := [.methodLink RL 7 yX11_instruction, .instanceMethod yX11_instruction, .selects RX11 yX11_instruction yX11_instruction, .initialized RX11, .classLink RL 13 "java/util/NoSuchElementException", Cond.code yX11_instruction cX11_instruction 3 (some .int)] ++ ALX
def ALH_block : List Cond := [.methodLink RL 15 yX11_block, .instanceMethod yX11_block, .selects RX11 yX11_block yX11_block, .initialized RX11, .classLink RL 13 "java/util/NoSuchElementException", Cond.code yX11_block cX11_block 3 (some .int)] ++ ALX
/-- a callee's words without those of the throw -/
theorem gi_sub {own C : String} {idx : Nat} {y' : MethodName} {cd : Cond} {T : List Cond} (h : GoodIn T (wsV own idx C y' (cd :: ALX))) : GoodIn T (wsV own idx C y' (cd :: ALW)) := by
  intro w hw
  refine h w ?_
  unfold wsV at hw ⊢
  rcases List.mem_append.mp hw with z | z
  · exact List.mem_append_left _ z
  · rcases List.mem_cons.mp z with z | z
    · exact List.mem_append_right _ (List.mem_cons.mpr (Or.inl z))
    · exact List.mem_append_right _ (List.mem_cons_of_mem _ (alx_w w z))
theorem blX {D : va_G} {y : Nat → ClassId} {ad av : Nat → Nat} {w : va_W} {sa k : Nat} {tx : String} {sz : Nat} {vs : List Value} : FrameBlind (va_Pc vs (PX D y ad av w sa k tx sz)) := by
  intro a U g mk h
  obtain ⟨h0, ⟨h1, h2, h3, h4, h5, h6⟩, h7⟩ := h
  exact ⟨h0, ⟨h1, h2, va_K.moved (u := U) (U := U.calling g mk a) (Vm.Alike.refl U.vm) h3, h4, NW.same rfl h5, SS.same (u := U) (U := U.calling g mk a) rfl h6⟩, xE.same (u := U) (U := U.calling g mk a) rfl h7⟩
theorem prX {D : va_G} {y : Nat → ClassId} {ad av : Nat → Nat} {A : Nat → Prop} {s : State} {H : Heap} {locs : List Loc} {w : va_W} {vs : List Value} {sa k : Nat} {tx : String} (hK : va_K D vwCl (TYL y) s) (hN : NW s) (hV : SS ad av A s s.heap) (hE : xE sa k tx A s s.heap) (hA : ∀ q, s.heap.size ≤ q → A q) (hC : CZ D A s H locs w) : ∀ U : State, U.heap = H → s.WarmedH U.vm → va_Pc vs (PX D y ad av w sa k tx H.size) vs.toArray U := by
  intro U hU hW
  obtain ⟨h0, h1⟩ := prZ (vs := vs) hK hN hV hA hC U hU hW
  refine ⟨h0, h1, ?_⟩
  rw [hU]
  exact ((hE.kept hC.2.2.2.1).narrow (frZ hC hA)).warm hW
abbrev WXO (y : Nat → ClassId) (o : Nat → Nat) (σ : Sto) (a3 : Nat) (f : Nat → Int64) : va_W := WX y o σ ++ [(a3, .inl (y 3, 1, .inr (.inl f)))]
abbrev QLo (D : va_G) (w : va_W) (w2 : (Nat → Int64) → va_W) (sz : Nat) : Array Value → State → Outcome → State → Prop := va_Qi (fun (_ : Int32) (_ : Nat → Int64) => True) (fun (f : Nat → Int64) (t : State) => BZ D w (w2 f) sz t) (va_A w sz)

theorem gi_L_instruction : GoodIn (Cond.codeWith yL_instruction cL_instruction 5 (some .int) [(0, 10, 13, 13)] :: ALH_instruction) (wsV RL 7 RX11 yX11_instruction (Cond.code yX11_instruction cX11_instruction 3 (some .int) :: ALX)) := by
  intro w hw
  have hm : w ∈ Cond.codeWith yL_instruction cL_instruction 5 (some .int) [(0, 10, 13, 13)] :: ALH_instruction := by
    unfold wsV at hw
    simp only [List.cons_append, List.nil_append, List.mem_cons] at hw
    unfold ALH_instruction
    simp only [List.cons_append, List.nil_append, List.mem_cons]
    rcases hw with h | h | h | h | h | h
    · simp [h]
    · simp [h]
    · simp [h]
    · simp [h]
    · simp [h]
    · simp [h]
  refine ⟨hm, ?_⟩
  unfold wsV at hw
  rcases List.mem_append.mp hw with h | h
  · exact good_of_word (List.all_eq_true.mp (by decide +kernel : ([.methodLink RL 7 yX11_instruction, .instanceMethod yX11_instruction, .selects RX11 yX11_instruction yX11_instruction, .initialized RX11] : List Cond).all goodWord = true) w h)
  · rcases List.mem_cons.mp h with h | h
    · rw [h]; exact Or.inl rfl
    · exact alx_good w h
set_option maxHeartbeats 8000000 in
set_option maxRecDepth 100000 in
theorem l_instruction {D : va_G} {y : Nat → ClassId} {o : Nat → Nat} {ad av : Nat → Nat} {x1 x2 : Int32} {σ : Sto} {sa : Nat} (l : Launch) (hfl : l.stackTraces = false) (hB : BX σ) (a3 : Nat) (f : Nat → Int64) (sz : Nat) : Met l yL_instruction (Cond.codeWith yL_instruction cL_instruction 5 (some .int) [(0, 10, 13, 13)] :: ALH_instruction) { frames := 7, cells := 1, slots := 6, locals := 104 } (va_Pc [.ref (o 0), .int x1, .int x2, .ref a3] (PX D y ad av (WXO y o σ a3 f) sa 198 "no such instruction" sz)) (QLo D (WXO y o σ a3 f) (WXO y o σ a3) sz) 1 6 (va_A (WXO y o σ a3 f) sz) := by
  refine va_MetW (cc := cL_instruction) (maxL := 5) (ret := (some .int)) (hh := [(0, 10, 13, 13)]) (by decide) rfl ?_
  intro p e s m args below meth c s₁ B hml hv
  obtain ⟨rfl, ⟨hsz, hP, hK, hD0, hN, hV⟩, hE⟩ := hv
  have hx := B.exec
  have hb := B.bytes
  have hr := B.returns
  have hts := atoms_spec (ws := Cond.codeWith yL_instruction cL_instruction 5 (some .int) [(0, 10, 13, 13)] :: ALH_instruction) B.pre
  have hown : s.vm.findClass RL = some m.cls := findClass_of_methodNamed B.named
  have hlocks := B.notSynchronized
  have hTab := vx_table (x := yL_instruction) B (hts (.codeWith yL_instruction cL_instruction 5 (some .int) [(0, 10, 13, 13)]) List.mem_cons_self)
  subst hsz
  have hD := hD0.self (sz := s.heap.size)
  generalize hAe : va_A (WXO y o σ a3 f) s.heap.size = A at hD hE hV ⊢
  have hA : ∀ q : Nat, s.heap.size ≤ q → A q := fun q h => by rw [← hAe]; exact Or.inr h
  have hC : CZ D A s s.heap [] ([] ++ (WX y o σ ++ [(a3, .inl (y 3, 1, .inr (.inl f)))])) := ⟨hP, hD, va_S.rf⟩
  have hM := CZ.mid hC
  have hF := frZ hM hA
  have hl := lv_entry ([.ref (o 0), .int x1, .int x2, .ref a3]) (n := 5) (Nat.le_of_ble_eq_true rfl)
  rw [lg_entry_eq]
  generalize (lg_sl ([.ref (o 0), .int x1, .int x2, .ref a3]) ++ List.replicate (5 - (lg_sl ([.ref (o 0), .int x1, .int x2, .ref a3])).length) Slot.unset).toArray = ls at hl ⊢
  have hl : lv_has ls 5 [(0, .ref (o 0)), (1, .int x1), (2, .int x2), (3, .ref a3)] := hl
  refine lv_aload_n hx hb dL_instruction_0 rfl (lv_at hl 3 rfl) ?_
  refine lv_iconst (v := 0) hx hb dL_instruction_1 (by decide) ?_
  refine lv_aload_n hx hb dL_instruction_2 rfl (lv_at hl 0 rfl) ?_
  refine lv_iload_n hx hb dL_instruction_3 rfl (lv_at hl 1 rfl) ?_
  refine lv_iload_n hx hb dL_instruction_4 rfl (lv_at hl 2 rfl) ?_
  by_cases hq : XIN x1 x2 σ
  · obtain ⟨v, ev, -⟩ := s_X11_instruction hB hq
    refine va_calli (va_runV (As := [.int x1, .int x2]) (rest := [.int 0, .ref a3]) ⟨hx, hb, hml, hown, hts⟩ (r_X11_instruction (D := D) (y := y) (o := o) (ad := ad) (av := av) ev l s.heap.size) (cwV 2 hts (gi_sub gi_L_instruction) rfl rfl rfl (by decide +kernel) ⟨Nat.le_of_ble_eq_true rfl, Nat.le_of_ble_eq_true rfl⟩) ⟨blZ, va_recv hK hM.1 (ci := 11) (q0 := 0) rfl rfl, prZ hK hN hV hA hM⟩ rfl rfl hl.1 rfl (lv_room (Nat.le_of_ble_eq_true rfl)) dL_instruction_5 ⟨Nat.le_of_ble_eq_true rfl, Nat.le_of_ble_eq_true rfl⟩) hM.2.2 (fun q _ h => hF q h) hF (fun r u t H locs ht hvm hw hB hz1 hk1 hS => ?_)
    subst ht
    have hC2 := CZ.back hC hA hk1 hB.1 hB.2 hS
    refine lv_i2l hx hb dL_instruction_8 rfl ?_
    refine va_last hx hb hK hC2.1 hC2.2.1 hC2.2.2 78 3 rfl rfl (by unfold vp_in; decide : vp_in 0 1) dL_instruction_9 (fun H1 l1 a b d => ?_)
    refine W.widen (k := 1) (n := 6) (Nat.le_of_ble_eq_true rfl) (Nat.le_of_ble_eq_true rfl) ?_
    refine lv_goto (tgt := 17) hx hb dL_instruction_10 (by decide) ?_
    refine lv_iconst (v := 0) hx hb dL_instruction_17 (by decide) ?_
    refine W.iret (v := 0) hx hb hr (fun t ht hW => ⟨⟨0, vp_updL f (0 : Int32).toNatClampNeg r.toInt64, rfl, trivial, by rw [ht]; exact a, ?_⟩, by rw [hAe]; exact d.F ht⟩) ?_ dL_instruction_18
    · exact d.2.2
    · rw [hAe]; exact b
  · refine vx_calli (vx_runV (As := [.int x1, .int x2]) (rest := [.int 0, .ref a3]) ⟨hx, hb, hml, hown, hts⟩ (x_X11_instruction (D := D) (y := y) (o := o) (ad := ad) (av := av) (sa := sa) l hfl  hq s.heap.size) (cwV 2 hts gi_L_instruction rfl rfl rfl (by decide +kernel) ⟨Nat.le_of_ble_eq_true rfl, Nat.le_of_ble_eq_true rfl⟩) ⟨blX, va_recv hK hM.1 (ci := 11) (q0 := 0) rfl rfl, prX hK hN hV hE hA hM⟩ rfl rfl hl.1 rfl (lv_room (Nat.le_of_ble_eq_true rfl)) dL_instruction_5 ⟨Nat.le_of_ble_eq_true rfl, Nat.le_of_ble_eq_true rfl⟩) hM.2.2 (fun q _ h => hF q h) hF (fun q _ h => hF q h) (fun E ce q9 u t H locs ht hvm hpx hBX hz1 hk1 hS hcell hcv hcl => ?_) (fun r u t H locs ht hvm hw => hw.elim)
    obtain ⟨rfl, hBX⟩ := hBX
    subst ht
    have hC2 := CZ.back hC hA hk1 hBX.1 hBX.2 hS
    refine vx_widen (k := 1) (n := 6) (Nat.le_of_ble_eq_true rfl) (Nat.le_of_ble_eq_true rfl) ?_
    refine vx_catch (name := "java/util/NoSuchElementException") hown [] ⟨0, 10, 13, 13⟩ [] (by rw [hTab]; rfl) (fun z h => absurd h List.not_mem_nil) (by decide) (by decide) (hts (.classLink RL 13 "java/util/NoSuchElementException") (List.mem_cons_of_mem _ (by unfold ALH_instruction; simp))) (hE.2.2.2.1.use rfl) hcell hcv hcl ?_
    refine lv_astore (lv' := [(4, .ref q9), (0, .ref (o 0)), (1, .int x1), (2, .int x2), (3, .ref a3)]) hx hb dL_instruction_13 hl (by decide) rfl (fun ls hl => ?_)
    refine lv_iconst (v := 1) hx hb dL_instruction_15 (by decide) ?_
    refine W.iret (v := 1) hx hb hr (fun t ht hW => ⟨⟨1, f, rfl, trivial, by rw [ht]; exact hC2.1, ?_⟩, by rw [hAe]; exact hS.F ht⟩) ?_ dL_instruction_16
    · exact hS.2.2
    · rw [hAe]; exact hC2.2.1

theorem gi_L_block : GoodIn (Cond.codeWith yL_block cL_block 5 (some .int) [(0, 10, 13, 13)] :: ALH_block) (wsV RL 15 RX11 yX11_block (Cond.code yX11_block cX11_block 3 (some .int) :: ALX)) := by
  intro w hw
  have hm : w ∈ Cond.codeWith yL_block cL_block 5 (some .int) [(0, 10, 13, 13)] :: ALH_block := by
    unfold wsV at hw
    simp only [List.cons_append, List.nil_append, List.mem_cons] at hw
    unfold ALH_block
    simp only [List.cons_append, List.nil_append, List.mem_cons]
    rcases hw with h | h | h | h | h | h
    · simp [h]
    · simp [h]
    · simp [h]
    · simp [h]
    · simp [h]
    · simp [h]
  refine ⟨hm, ?_⟩
  unfold wsV at hw
  rcases List.mem_append.mp hw with h | h
  · exact good_of_word (List.all_eq_true.mp (by decide +kernel : ([.methodLink RL 15 yX11_block, .instanceMethod yX11_block, .selects RX11 yX11_block yX11_block, .initialized RX11] : List Cond).all goodWord = true) w h)
  · rcases List.mem_cons.mp h with h | h
    · rw [h]; exact Or.inl rfl
    · exact alx_good w h
set_option maxHeartbeats 8000000 in
set_option maxRecDepth 100000 in
theorem l_block {D : va_G} {y : Nat → ClassId} {o : Nat → Nat} {ad av : Nat → Nat} {x1 x2 : Int32} {σ : Sto} {sa : Nat} (l : Launch) (hfl : l.stackTraces = false) (hB : BX σ) (a3 : Nat) (f : Nat → Int64) (sz : Nat) : Met l yL_block (Cond.codeWith yL_block cL_block 5 (some .int) [(0, 10, 13, 13)] :: ALH_block) { frames := 7, cells := 1, slots := 6, locals := 104 } (va_Pc [.ref (o 0), .int x1, .int x2, .ref a3] (PX D y ad av (WXO y o σ a3 f) sa 220 "no such block" sz)) (QLo D (WXO y o σ a3 f) (WXO y o σ a3) sz) 1 6 (va_A (WXO y o σ a3 f) sz) := by
  refine va_MetW (cc := cL_block) (maxL := 5) (ret := (some .int)) (hh := [(0, 10, 13, 13)]) (by decide) rfl ?_
  intro p e s m args below meth c s₁ B hml hv
  obtain ⟨rfl, ⟨hsz, hP, hK, hD0, hN, hV⟩, hE⟩ := hv
  have hx := B.exec
  have hb := B.bytes
  have hr := B.returns
  have hts := atoms_spec (ws := Cond.codeWith yL_block cL_block 5 (some .int) [(0, 10, 13, 13)] :: ALH_block) B.pre
  have hown : s.vm.findClass RL = some m.cls := findClass_of_methodNamed B.named
  have hlocks := B.notSynchronized
  have hTab := vx_table (x := yL_block) B (hts (.codeWith yL_block cL_block 5 (some .int) [(0, 10, 13, 13)]) List.mem_cons_self)
  subst hsz
  have hD := hD0.self (sz := s.heap.size)
  generalize hAe : va_A (WXO y o σ a3 f) s.heap.size = A at hD hE hV ⊢
  have hA : ∀ q : Nat, s.heap.size ≤ q → A q := fun q h => by rw [← hAe]; exact Or.inr h
  have hC : CZ D A s s.heap [] ([] ++ (WX y o σ ++ [(a3, .inl (y 3, 1, .inr (.inl f)))])) := ⟨hP, hD, va_S.rf⟩
  have hM := CZ.mid hC
  have hF := frZ hM hA
  have hl := lv_entry ([.ref (o 0), .int x1, .int x2, .ref a3]) (n := 5) (Nat.le_of_ble_eq_true rfl)
  rw [lg_entry_eq]
  generalize (lg_sl ([.ref (o 0), .int x1, .int x2, .ref a3]) ++ List.replicate (5 - (lg_sl ([.ref (o 0), .int x1, .int x2, .ref a3])).length) Slot.unset).toArray = ls at hl ⊢
  have hl : lv_has ls 5 [(0, .ref (o 0)), (1, .int x1), (2, .int x2), (3, .ref a3)] := hl
  refine lv_aload_n hx hb dL_block_0 rfl (lv_at hl 3 rfl) ?_
  refine lv_iconst (v := 0) hx hb dL_block_1 (by decide) ?_
  refine lv_aload_n hx hb dL_block_2 rfl (lv_at hl 0 rfl) ?_
  refine lv_iload_n hx hb dL_block_3 rfl (lv_at hl 1 rfl) ?_
  refine lv_iload_n hx hb dL_block_4 rfl (lv_at hl 2 rfl) ?_
  by_cases hq : XBL x1 x2 σ
  · obtain ⟨v, ev, -⟩ := s_X11_block hB hq
    refine va_calli (va_runV (As := [.int x1, .int x2]) (rest := [.int 0, .ref a3]) ⟨hx, hb, hml, hown, hts⟩ (r_X11_block (D := D) (y := y) (o := o) (ad := ad) (av := av) ev l s.heap.size) (cwV 2 hts (gi_sub gi_L_block) rfl rfl rfl (by decide +kernel) ⟨Nat.le_of_ble_eq_true rfl, Nat.le_of_ble_eq_true rfl⟩) ⟨blZ, va_recv hK hM.1 (ci := 11) (q0 := 0) rfl rfl, prZ hK hN hV hA hM⟩ rfl rfl hl.1 rfl (lv_room (Nat.le_of_ble_eq_true rfl)) dL_block_5 ⟨Nat.le_of_ble_eq_true rfl, Nat.le_of_ble_eq_true rfl⟩) hM.2.2 (fun q _ h => hF q h) hF (fun r u t H locs ht hvm hw hB hz1 hk1 hS => ?_)
    subst ht
    have hC2 := CZ.back hC hA hk1 hB.1 hB.2 hS
    refine lv_i2l hx hb dL_block_8 rfl ?_
    refine va_last hx hb hK hC2.1 hC2.2.1 hC2.2.2 78 3 rfl rfl (by unfold vp_in; decide : vp_in 0 1) dL_block_9 (fun H1 l1 a b d => ?_)
    refine W.widen (k := 1) (n := 6) (Nat.le_of_ble_eq_true rfl) (Nat.le_of_ble_eq_true rfl) ?_
    refine lv_goto (tgt := 17) hx hb dL_block_10 (by decide) ?_
    refine lv_iconst (v := 0) hx hb dL_block_17 (by decide) ?_
    refine W.iret (v := 0) hx hb hr (fun t ht hW => ⟨⟨0, vp_updL f (0 : Int32).toNatClampNeg r.toInt64, rfl, trivial, by rw [ht]; exact a, ?_⟩, by rw [hAe]; exact d.F ht⟩) ?_ dL_block_18
    · exact d.2.2
    · rw [hAe]; exact b
  · refine vx_calli (vx_runV (As := [.int x1, .int x2]) (rest := [.int 0, .ref a3]) ⟨hx, hb, hml, hown, hts⟩ (x_X11_block (D := D) (y := y) (o := o) (ad := ad) (av := av) (sa := sa) l hfl hB hq s.heap.size) (cwV 2 hts gi_L_block rfl rfl rfl (by decide +kernel) ⟨Nat.le_of_ble_eq_true rfl, Nat.le_of_ble_eq_true rfl⟩) ⟨blX, va_recv hK hM.1 (ci := 11) (q0 := 0) rfl rfl, prX hK hN hV hE hA hM⟩ rfl rfl hl.1 rfl (lv_room (Nat.le_of_ble_eq_true rfl)) dL_block_5 ⟨Nat.le_of_ble_eq_true rfl, Nat.le_of_ble_eq_true rfl⟩) hM.2.2 (fun q _ h => hF q h) hF (fun q _ h => hF q h) (fun E ce q9 u t H locs ht hvm hpx hBX hz1 hk1 hS hcell hcv hcl => ?_) (fun r u t H locs ht hvm hw => hw.elim)
    obtain ⟨rfl, hBX⟩ := hBX
    subst ht
    have hC2 := CZ.back hC hA hk1 hBX.1 hBX.2 hS
    refine vx_widen (k := 1) (n := 6) (Nat.le_of_ble_eq_true rfl) (Nat.le_of_ble_eq_true rfl) ?_
    refine vx_catch (name := "java/util/NoSuchElementException") hown [] ⟨0, 10, 13, 13⟩ [] (by rw [hTab]; rfl) (fun z h => absurd h List.not_mem_nil) (by decide) (by decide) (hts (.classLink RL 13 "java/util/NoSuchElementException") (List.mem_cons_of_mem _ (by unfold ALH_block; simp))) (hE.2.2.2.1.use rfl) hcell hcv hcl ?_
    refine lv_astore (lv' := [(4, .ref q9), (0, .ref (o 0)), (1, .int x1), (2, .int x2), (3, .ref a3)]) hx hb dL_block_13 hl (by decide) rfl (fun ls hl => ?_)
    refine lv_iconst (v := 1) hx hb dL_block_15 (by decide) ?_
    refine W.iret (v := 1) hx hb hr (fun t ht hW => ⟨⟨1, f, rfl, trivial, by rw [ht]; exact hC2.1, ?_⟩, by rw [hAe]; exact hS.F ht⟩) ?_ dL_block_16
    · exact hS.2.2
    · rw [hAe]; exact hC2.2.1
