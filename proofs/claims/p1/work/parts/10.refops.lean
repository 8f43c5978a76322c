def us_X12_isIn : List Cond := .code yX12_isIn cX12_isIn 6 (some .boolean) :: []
set_option maxHeartbeats 8000000 in
set_option maxRecDepth 100000 in
/-- the reference's isIn on a new object -/
theorem c_X12_isIn (l : Launch) (dC : Nat → ClassId) (dI : Nat → Nat → Nat) (sz : Nat)  (p0 : Int64) (p1 : Int64) (p2 : Int64) : Met l yX12_isIn us_X12_isIn ({ frames := 0, cells := 0, slots := 0, locals := 0 }) (va_Pc [.long p0, .long p1, .long p2] (fun U => U.heap.size = sz ∧ va_P (dC, dI) vwCl [] U.heap ∧ va_K (dC, dI) vwCl [] U ∧ va_D (fun _ => True) [])) (va_Qi (fun (r : Int32) (u : Unit) => True) (fun (u : Unit) (t : State) => True) (va_A [] sz)) 0 0 (va_A [] sz) := by
  refine Met.ofW (cc := cX12_isIn) (maxL := 6) (ret := (some .boolean)) (by decide) rfl ?_
  intro p e s m args below meth c s₁ B hml hv
  obtain ⟨rfl, hsz, hP, hK, hD0⟩ := hv
  have hx := B.exec
  have hb := B.bytes
  have hr := B.returns
  have hts := atoms_spec (ws := us_X12_isIn) B.pre
  have hown : s.vm.findClass RX12 = some m.cls := findClass_of_methodNamed B.named
  have hlocks := B.notSynchronized
  subst hsz
  have hD := hD0.self (sz := s.heap.size)
  generalize hAe : va_A [] s.heap.size = A at hD ⊢
  have hA : ∀ q : Nat, s.heap.size ≤ q → A q := fun q h => by rw [← hAe]; exact Or.inr h
  have hS : va_S A s.heap s.heap [] := va_S.rf
  have hP : va_P (dC, dI) vwCl [] s.heap := hP
  have hl := lv_entry ([.long p0, .long p1, .long p2]) (n := 6) (Nat.le_of_ble_eq_true rfl)
  rw [lg_entry_eq]
  generalize (lg_sl ([.long p0, .long p1, .long p2]) ++ List.replicate (6 - (lg_sl ([.long p0, .long p1, .long p2])).length) Slot.unset).toArray = ls at hl ⊢
  have hl : lv_has ls 6 [(0, .long p0), (2, .long p1), (4, .long p2)] := hl
  refine lv_lload_n hx hb dX12_isIn_0 rfl (lv_at hl 0 rfl) ?_
  refine lv_lload_n hx hb dX12_isIn_1 rfl (lv_at hl 1 rfl) ?_
  refine W.lcmp hx hb dX12_isIn_2 ?_
  refine lv_topi (fun v_1 e_1 => ?_)
  refine lv_if_lt (tgt := 17) hx hb dX12_isIn_3 (by decide) (fun c_2 => ?_) (fun c_2 => ?_)
  · refine lv_iconst (v := 0) hx hb dX12_isIn_17 (by decide) ?_
    refine W.widen (k := 0) (n := 0) (Nat.le_of_ble_eq_true rfl) (Nat.le_of_ble_eq_true rfl) ?_
    exact W.zret (v := 0) hx hb hr rfl (fun t ht hW => ⟨⟨0, (), rfl, trivial, trivial⟩, hS.F ht⟩) hS.2.2 dX12_isIn_18
  · refine lv_lload_n hx hb dX12_isIn_6 rfl (lv_at hl 0 rfl) ?_
    refine lv_lload hx hb dX12_isIn_7 (lv_at hl 2 rfl) ?_
    refine W.lcmp hx hb dX12_isIn_9 ?_
    refine lv_topi (fun v_3 e_3 => ?_)
    refine lv_if_gt (tgt := 17) hx hb dX12_isIn_10 (by decide) (fun c_4 => ?_) (fun c_4 => ?_)
    · refine lv_iconst (v := 0) hx hb dX12_isIn_17 (by decide) ?_
      refine W.widen (k := 0) (n := 0) (Nat.le_of_ble_eq_true rfl) (Nat.le_of_ble_eq_true rfl) ?_
      exact W.zret (v := 0) hx hb hr rfl (fun t ht hW => ⟨⟨0, (), rfl, trivial, trivial⟩, hS.F ht⟩) hS.2.2 dX12_isIn_18
    · refine lv_iconst (v := 1) hx hb dX12_isIn_13 (by decide) ?_
      refine lv_goto (tgt := 18) hx hb dX12_isIn_14 (by decide) ?_
      refine W.widen (k := 0) (n := 0) (Nat.le_of_ble_eq_true rfl) (Nat.le_of_ble_eq_true rfl) ?_
      exact W.zret (v := 1) hx hb hr rfl (fun t ht hW => ⟨⟨1, (), rfl, trivial, trivial⟩, hS.F ht⟩) hS.2.2 dX12_isIn_18

def us_X12_here : List Cond := .code yX12_here cX12_here 1 (some .int) :: ([.fieldLink RX12 188 "CodeLifterModel" "at" "I", .fieldLink RX12 177 "CodeLifterModel" "length" "I"] ++ wsX120)
theorem ui_X12_here_X12 : ∀ w ∈ wsX120, w ∈ us_X12_here := fun _ h => List.mem_cons_of_mem _ (List.mem_append_right _ h)
set_option maxHeartbeats 8000000 in
set_option maxRecDepth 100000 in
/-- the reference's here on a new object -/
theorem c_X12_here (l : Launch) (dC : Nat → ClassId) (dI : Nat → Nat → Nat) (sz : Nat) (h0 : Nat) (g : Nat → Nat)  : Met l yX12_here us_X12_here ({ frames := 0, cells := 0, slots := 0, locals := 0 }) (va_Pc [.ref h0] (fun U => U.heap.size = sz ∧ va_P (dC, dI) vwCl [(h0, .inr (12, mF g 0 0 0 0 0))] U.heap ∧ va_K (dC, dI) vwCl [] U ∧ va_D (fun _ => True) [(h0, .inr (12, mF g 0 0 0 0 0))])) (va_Qi (fun (r : Int32) (u : Unit) => r = -1) (fun (u : Unit) (t : State) => va_P (dC, dI) vwCl [(h0, .inr (12, mF g 0 0 0 0 0))] t.heap ∧ va_D (va_A [(h0, .inr (12, mF g 0 0 0 0 0))] sz) [(h0, .inr (12, mF g 0 0 0 0 0))]) (va_A [(h0, .inr (12, mF g 0 0 0 0 0))] sz)) 0 0 (va_A [(h0, .inr (12, mF g 0 0 0 0 0))] sz) := by
  refine Met.ofW (cc := cX12_here) (maxL := 1) (ret := (some .int)) (by decide) rfl ?_
  intro p e s m args below meth c s₁ B hml hv
  obtain ⟨rfl, hsz, hP, hK, hD0⟩ := hv
  have hx := B.exec
  have hb := B.bytes
  have hr := B.returns
  have hts := atoms_spec (ws := us_X12_here) B.pre
  have hown : s.vm.findClass RX12 = some m.cls := findClass_of_methodNamed B.named
  have hlocks := B.notSynchronized
  subst hsz
  have hD := hD0.self (sz := s.heap.size)
  generalize hAe : va_A [(h0, .inr (12, mF g 0 0 0 0 0))] s.heap.size = A at hD ⊢
  have hA : ∀ q : Nat, s.heap.size ≤ q → A q := fun q h => by rw [← hAe]; exact Or.inr h
  have hS : va_S A s.heap s.heap [] := va_S.rf
  have hP : va_P (dC, dI) vwCl [(h0, .inr (12, mF g 0 0 0 0 0))] s.heap := hP
  have hl := lv_entry ([.ref h0]) (n := 1) (Nat.le_of_ble_eq_true rfl)
  rw [lg_entry_eq]
  generalize (lg_sl ([.ref h0]) ++ List.replicate (1 - (lg_sl ([.ref h0])).length) Slot.unset).toArray = ls at hl ⊢
  have hl : lv_has ls 1 [(0, .ref h0)] := hl
  refine lv_aload_n hx hb dX12_here_0 rfl (lv_at hl 0 rfl) ?_
  refine va_get (D := (dC, dI)) (ci := 12) (v := .int 0) (C := RX12) (T := TX12) (N := 87) hx hb hts ui_X12_here_X12 hown hK hP 0 rfl rfl 3 (by decide) (hts (.fieldLink RX12 188 "CodeLifterModel" "at" "I") (by decide +kernel)) (fun _ h9 => h9) rfl dX12_here_1 ?_
  refine lv_aload_n hx hb dX12_here_4 rfl (lv_at hl 0 rfl) ?_
  refine va_get (D := (dC, dI)) (ci := 12) (v := .int 0) (C := RX12) (T := TX12) (N := 87) hx hb hts ui_X12_here_X12 hown hK hP 0 rfl rfl 2 (by decide) (hts (.fieldLink RX12 177 "CodeLifterModel" "length" "I") (by decide +kernel)) (fun _ h9 => h9) rfl dX12_here_5 ?_
  refine lv_icmp_ge (tgt := 27) hx hb dX12_here_8 (by decide) (fun c_1 => ?_) (fun c_1 => absurd (by decide) c_1)
  refine lv_iconst (v := (-1)) hx hb dX12_here_27 (by decide) ?_
  have hP9 := hP
  have hD9 := hD
  refine W.widen (k := 0) (n := 0) (Nat.le_of_ble_eq_true rfl) (Nat.le_of_ble_eq_true rfl) ?_
  exact W.iret (v := (-1)) hx hb hr (fun t ht hW => ⟨⟨(-1), (), rfl, rfl, ⟨by rw [ht]; exact hP9, by first | exact hD9 | (rw [hAe]; exact hD9)⟩⟩, hS.F ht⟩) hS.2.2 dX12_here_28

def us_X12_look : List Cond := .code yX12_look cX12_look 1 (some .int) :: ([.methodLink RX12 191 yX12_here, .instanceMethod yX12_here, .selects RX12 yX12_here yX12_here, .initialized RX12] ++ us_X12_here)
set_option maxRecDepth 20000 in
theorem ugg_X12_look_X12_here : GoodIn us_X12_look us_X12_here := goodIn_sub (fun _ h => List.mem_cons_of_mem _ (List.mem_append_right _ h)) (by decide +kernel)
set_option maxRecDepth 20000 in
theorem ug_X12_look_X12_here : GoodIn us_X12_look (wsV RX12 191 RX12 yX12_here us_X12_here) := goodIn_app (goodIn_of _ (by decide +kernel)) ugg_X12_look_X12_here
set_option maxHeartbeats 8000000 in
set_option maxRecDepth 100000 in
/-- the reference's look on a new object -/
theorem c_X12_look (l : Launch) (dC : Nat → ClassId) (dI : Nat → Nat → Nat) (sz : Nat) (h0 : Nat) (g : Nat → Nat)  : Met l yX12_look us_X12_look ({ frames := 1, cells := 0, slots := 0, locals := 20 }) (va_Pc [.ref h0] (fun U => U.heap.size = sz ∧ va_P (dC, dI) vwCl [(h0, .inr (12, mF g 0 0 0 0 0))] U.heap ∧ va_K (dC, dI) vwCl [] U ∧ va_D (fun _ => True) [(h0, .inr (12, mF g 0 0 0 0 0))])) (va_Qi (fun (r : Int32) (u : Unit) => r = -1) (fun (u : Unit) (t : State) => va_P (dC, dI) vwCl [(h0, .inr (12, mF g 0 0 0 0 0))] t.heap ∧ va_D (va_A [(h0, .inr (12, mF g 0 0 0 0 0))] sz) [(h0, .inr (12, mF g 0 0 0 0 0))]) (va_A [(h0, .inr (12, mF g 0 0 0 0 0))] sz)) 0 0 (va_A [(h0, .inr (12, mF g 0 0 0 0 0))] sz) := by
  refine Met.ofW (cc := cX12_look) (maxL := 1) (ret := (some .int)) (by decide) rfl ?_
  intro p e s m args below meth c s₁ B hml hv
  obtain ⟨rfl, hsz, hP, hK, hD0⟩ := hv
  have hx := B.exec
  have hb := B.bytes
  have hr := B.returns
  have hts := atoms_spec (ws := us_X12_look) B.pre
  have hown : s.vm.findClass RX12 = some m.cls := findClass_of_methodNamed B.named
  have hlocks := B.notSynchronized
  subst hsz
  have hD := hD0.self (sz := s.heap.size)
  generalize hAe : va_A [(h0, .inr (12, mF g 0 0 0 0 0))] s.heap.size = A at hD ⊢
  have hA : ∀ q : Nat, s.heap.size ≤ q → A q := fun q h => by rw [← hAe]; exact Or.inr h
  have hS : va_S A s.heap s.heap [] := va_S.rf
  have hP : va_P (dC, dI) vwCl [(h0, .inr (12, mF g 0 0 0 0 0))] s.heap := hP
  have hl := lv_entry ([.ref h0]) (n := 1) (Nat.le_of_ble_eq_true rfl)
  rw [lg_entry_eq]
  generalize (lg_sl ([.ref h0]) ++ List.replicate (1 - (lg_sl ([.ref h0])).length) Slot.unset).toArray = ls at hl ⊢
  have hl : lv_has ls 1 [(0, .ref h0)] := hl
  refine lv_aload_n hx hb dX12_look_0 rfl (lv_at hl 0 rfl) ?_
  have hPc := hP.sub (ws' := [(h0, .inr (12, mF g 0 0 0 0 0))]) [0] rfl
  have hDc := hD.sub (ws' := [(h0, .inr (12, mF g 0 0 0 0 0))]) [0] (by decide) rfl
  have hKc := hK.sub (tys' := []) [] rfl
  have hFc := va_free (wc := [(h0, .inr (12, mF g 0 0 0 0 0))]) hD hS hA [0] rfl
  refine va_calli (va_runV (As := []) (rest := []) ⟨hx, hb, hml, hown, hts⟩ (c_X12_here l dC dI s.heap.size h0 g ) (cwV 0 hts ug_X12_look_X12_here rfl rfl rfl (by decide +kernel) ⟨Nat.le_of_ble_eq_true rfl, Nat.le_of_ble_eq_true rfl⟩) ⟨fun a U g mk q => by obtain ⟨q0, q1, qP, qK, qD⟩ := q; exact ⟨q0, q1, qP, va_K.moved (u := U) (U := U.calling g mk a) (Vm.Alike.refl U.vm) qK, qD⟩, va_recv hKc hPc (ci := 12) (q0 := 0) rfl rfl, fun U hU hW => ⟨rfl, by rw [hU], by rw [hU]; exact hPc, va_K.moved hW.alike hKc, hDc.weaken (fun _ _ _ _ => trivial)⟩⟩ rfl rfl hl.1 rfl (lv_room (Nat.le_of_ble_eq_true rfl)) dX12_look_1 ⟨Nat.le_of_ble_eq_true rfl, Nat.le_of_ble_eq_true rfl⟩) hS (fun q _ h => hFc q h) hFc (fun r_1 u t H locs ht hvm hw hB hz1 hk1 hS => ?_)
  obtain ⟨hP1, hD1⟩ := hB
  rw [ht] at hP1
  obtain ⟨hP, hD⟩ := va_join (wr := []) (w1 := [(h0, .inr (12, mF g 0 0 0 0 0))]) hP hD [0] [] rfl rfl (by decide) (by decide) hk1 hFc hP1 hD1
  clear hPc hDc hFc hk1 hz1
  have hP : va_P (dC, dI) vwCl [(h0, .inr (12, mF g 0 0 0 0 0))] H := hP
  have hD : va_D A [(h0, .inr (12, mF g 0 0 0 0 0))] := hD
  obtain rfl := hw
  refine lv_bipush (v := 32) hx hb dX12_look_4 (by decide) ?_
  refine lv_icmp_ne (tgt := 22) hx hb dX12_look_6 (by decide) (fun c_2 => ?_) (fun c_2 => absurd c_2 (by decide))
  refine lv_aload_n hx hb dX12_look_22 rfl (lv_at hl 0 rfl) ?_
  have hPc := hP.sub (ws' := [(h0, .inr (12, mF g 0 0 0 0 0))]) [0] rfl
  have hDc := hD.sub (ws' := [(h0, .inr (12, mF g 0 0 0 0 0))]) [0] (by decide) rfl
  have hKc := hK.sub (tys' := []) [] rfl
  have hFc := va_free (wc := [(h0, .inr (12, mF g 0 0 0 0 0))]) hD hS hA [0] rfl
  refine va_calli (va_runV (As := []) (rest := []) ⟨hx, hb, hml, hown, hts⟩ (c_X12_here l dC dI H.size h0 g ) (cwV 0 hts ug_X12_look_X12_here rfl rfl rfl (by decide +kernel) ⟨Nat.le_of_ble_eq_true rfl, Nat.le_of_ble_eq_true rfl⟩) ⟨fun a U g mk q => by obtain ⟨q0, q1, qP, qK, qD⟩ := q; exact ⟨q0, q1, qP, va_K.moved (u := U) (U := U.calling g mk a) (Vm.Alike.refl U.vm) qK, qD⟩, va_recv hKc hPc (ci := 12) (q0 := 0) rfl rfl, fun U hU hW => ⟨rfl, by rw [hU], by rw [hU]; exact hPc, va_K.moved hW.alike hKc, hDc.weaken (fun _ _ _ _ => trivial)⟩⟩ rfl rfl hl.1 rfl (lv_room (Nat.le_of_ble_eq_true rfl)) dX12_look_23 ⟨Nat.le_of_ble_eq_true rfl, Nat.le_of_ble_eq_true rfl⟩) hS (fun q _ h => hFc q h) hFc (fun r_3 u t H locs ht hvm hw hB hz1 hk1 hS => ?_)
  obtain ⟨hP1, hD1⟩ := hB
  rw [ht] at hP1
  obtain ⟨hP, hD⟩ := va_join (wr := []) (w1 := [(h0, .inr (12, mF g 0 0 0 0 0))]) hP hD [0] [] rfl rfl (by decide) (by decide) hk1 hFc hP1 hD1
  clear hPc hDc hFc hk1 hz1
  have hP : va_P (dC, dI) vwCl [(h0, .inr (12, mF g 0 0 0 0 0))] H := hP
  have hD : va_D A [(h0, .inr (12, mF g 0 0 0 0 0))] := hD
  obtain rfl := hw
  have hP9 := hP
  have hD9 := hD
  refine W.widen (k := 0) (n := 0) (Nat.le_of_ble_eq_true rfl) (Nat.le_of_ble_eq_true rfl) ?_
  exact W.iret (v := (-1)) hx hb hr (fun t ht hW => ⟨⟨(-1), (), rfl, rfl, ⟨by rw [ht]; exact hP9, by first | exact hD9 | (rw [hAe]; exact hD9)⟩⟩, hS.F ht⟩) hS.2.2 dX12_look_26

def us_X12_isText : List Cond := .code yX12_isText cX12_isText 2 (some .boolean) :: (([.fieldLink RX12 188 "CodeLifterModel" "at" "I", .fieldLink RX12 216 "CodeLifterModel" "codesRead" "I", .fieldLink RX12 230 "CodeLifterModel" "handlersRead" "I", .methodLink RX12 195 yX12_look, .instanceMethod yX12_look, .selects RX12 yX12_look yX12_look, .initialized RX12] ++ wsX120) ++ us_X12_look)
theorem ui_X12_isText_X12 : ∀ w ∈ wsX120, w ∈ us_X12_isText := fun _ h => List.mem_cons_of_mem _ (List.mem_append_left _ (List.mem_append_right _ h))
set_option maxRecDepth 20000 in
theorem ugg_X12_isText_X12_look : GoodIn us_X12_isText us_X12_look := goodIn_sub (fun _ h => List.mem_cons_of_mem _ (List.mem_append_right _ h)) (by decide +kernel)
set_option maxRecDepth 20000 in
theorem ug_X12_isText_X12_look : GoodIn us_X12_isText (wsV RX12 195 RX12 yX12_look us_X12_look) := goodIn_app (goodIn_of _ (by decide +kernel)) ugg_X12_isText_X12_look
set_option maxHeartbeats 8000000 in
set_option maxRecDepth 100000 in
/-- the reference's isText on a new object -/
theorem c_X12_isText (l : Launch) (dC : Nat → ClassId) (dI : Nat → Nat → Nat) (sz : Nat) (h0 : Nat) (g : Nat → Nat)  : Met l yX12_isText us_X12_isText ({ frames := 2, cells := 0, slots := 0, locals := 40 }) (va_Pc [.ref h0] (fun U => U.heap.size = sz ∧ va_P (dC, dI) vwCl [(h0, .inr (12, mF g 0 0 0 0 0))] U.heap ∧ va_K (dC, dI) vwCl [] U ∧ va_D (fun _ => True) [(h0, .inr (12, mF g 0 0 0 0 0))])) (va_Qi (fun (r : Int32) (u : Unit) => r = 0) (fun (u : Unit) (t : State) => va_P (dC, dI) vwCl [(h0, .inr (12, mF g 0 0 0 0 0))] t.heap ∧ va_D (va_A [(h0, .inr (12, mF g 0 0 0 0 0))] sz) [(h0, .inr (12, mF g 0 0 0 0 0))]) (va_A [(h0, .inr (12, mF g 0 0 0 0 0))] sz)) 0 0 (va_A [(h0, .inr (12, mF g 0 0 0 0 0))] sz) := by
  refine Met.ofW (cc := cX12_isText) (maxL := 2) (ret := (some .boolean)) (by decide) rfl ?_
  intro p e s m args below meth c s₁ B hml hv
  obtain ⟨rfl, hsz, hP, hK, hD0⟩ := hv
  have hx := B.exec
  have hb := B.bytes
  have hr := B.returns
  have hts := atoms_spec (ws := us_X12_isText) B.pre
  have hown : s.vm.findClass RX12 = some m.cls := findClass_of_methodNamed B.named
  have hlocks := B.notSynchronized
  subst hsz
  have hD := hD0.self (sz := s.heap.size)
  generalize hAe : va_A [(h0, .inr (12, mF g 0 0 0 0 0))] s.heap.size = A at hD ⊢
  have hA : ∀ q : Nat, s.heap.size ≤ q → A q := fun q h => by rw [← hAe]; exact Or.inr h
  have hS : va_S A s.heap s.heap [] := va_S.rf
  have hP : va_P (dC, dI) vwCl [(h0, .inr (12, mF g 0 0 0 0 0))] s.heap := hP
  have hl := lv_entry ([.ref h0]) (n := 2) (Nat.le_of_ble_eq_true rfl)
  rw [lg_entry_eq]
  generalize (lg_sl ([.ref h0]) ++ List.replicate (2 - (lg_sl ([.ref h0])).length) Slot.unset).toArray = ls at hl ⊢
  have hl : lv_has ls 2 [(0, .ref h0)] := hl
  refine lv_aload_n hx hb dX12_isText_0 rfl (lv_at hl 0 rfl) ?_
  refine lv_iconst (v := 0) hx hb dX12_isText_1 (by decide) ?_
  refine va_put (D := (dC, dI)) (ci := 12) (v := .int 0) (ty := .int) (C := RX12) (T := TX12) (N := 87) hx hb hts ui_X12_isText_X12 tyX12 tyX12_ok nmX12 hown hK hP hD hS 0 rfl rfl 3 (by decide) (hts (.fieldLink RX12 188 "CodeLifterModel" "at" "I") (by decide +kernel)) (fun _ h9 => h9) rfl (by decide +kernel) rfl rfl (Nat.le_of_ble_eq_true rfl) dX12_isText_2 (fun H locs hP hD hS => ?_)
  have hP : va_P (dC, dI) vwCl [(h0, .inr (12, mF g 0 0 0 0 0))] H := hP
  have hD : va_D A [(h0, .inr (12, mF g 0 0 0 0 0))] := hD
  refine lv_aload_n hx hb dX12_isText_5 rfl (lv_at hl 0 rfl) ?_
  refine lv_iconst (v := 0) hx hb dX12_isText_6 (by decide) ?_
  refine va_put (D := (dC, dI)) (ci := 12) (v := .int 0) (ty := .int) (C := RX12) (T := TX12) (N := 87) hx hb hts ui_X12_isText_X12 tyX12 tyX12_ok nmX12 hown hK hP hD hS 0 rfl rfl 7 (by decide) (hts (.fieldLink RX12 216 "CodeLifterModel" "codesRead" "I") (by decide +kernel)) (fun _ h9 => h9) rfl (by decide +kernel) rfl rfl (Nat.le_of_ble_eq_true rfl) dX12_isText_7 (fun H locs hP hD hS => ?_)
  have hP : va_P (dC, dI) vwCl [(h0, .inr (12, mF g 0 0 0 0 0))] H := hP
  have hD : va_D A [(h0, .inr (12, mF g 0 0 0 0 0))] := hD
  refine lv_aload_n hx hb dX12_isText_10 rfl (lv_at hl 0 rfl) ?_
  refine lv_iconst (v := 0) hx hb dX12_isText_11 (by decide) ?_
  refine va_put (D := (dC, dI)) (ci := 12) (v := .int 0) (ty := .int) (C := RX12) (T := TX12) (N := 87) hx hb hts ui_X12_isText_X12 tyX12 tyX12_ok nmX12 hown hK hP hD hS 0 rfl rfl 8 (by decide) (hts (.fieldLink RX12 230 "CodeLifterModel" "handlersRead" "I") (by decide +kernel)) (fun _ h9 => h9) rfl (by decide +kernel) rfl rfl (Nat.le_of_ble_eq_true rfl) dX12_isText_12 (fun H locs hP hD hS => ?_)
  have hP : va_P (dC, dI) vwCl [(h0, .inr (12, mF g 0 0 0 0 0))] H := hP
  have hD : va_D A [(h0, .inr (12, mF g 0 0 0 0 0))] := hD
  refine lv_aload_n hx hb dX12_isText_15 rfl (lv_at hl 0 rfl) ?_
  have hPc := hP.sub (ws' := [(h0, .inr (12, mF g 0 0 0 0 0))]) [0] rfl
  have hDc := hD.sub (ws' := [(h0, .inr (12, mF g 0 0 0 0 0))]) [0] (by decide) rfl
  have hKc := hK.sub (tys' := []) [] rfl
  have hFc := va_free (wc := [(h0, .inr (12, mF g 0 0 0 0 0))]) hD hS hA [0] rfl
  refine va_calli (va_runV (As := []) (rest := []) ⟨hx, hb, hml, hown, hts⟩ (c_X12_look l dC dI H.size h0 g ) (cwV 0 hts ug_X12_isText_X12_look rfl rfl rfl (by decide +kernel) ⟨Nat.le_of_ble_eq_true rfl, Nat.le_of_ble_eq_true rfl⟩) ⟨fun a U g mk q => by obtain ⟨q0, q1, qP, qK, qD⟩ := q; exact ⟨q0, q1, qP, va_K.moved (u := U) (U := U.calling g mk a) (Vm.Alike.refl U.vm) qK, qD⟩, va_recv hKc hPc (ci := 12) (q0 := 0) rfl rfl, fun U hU hW => ⟨rfl, by rw [hU], by rw [hU]; exact hPc, va_K.moved hW.alike hKc, hDc.weaken (fun _ _ _ _ => trivial)⟩⟩ rfl rfl hl.1 rfl (lv_room (Nat.le_of_ble_eq_true rfl)) dX12_isText_16 ⟨Nat.le_of_ble_eq_true rfl, Nat.le_of_ble_eq_true rfl⟩) hS (fun q _ h => hFc q h) hFc (fun r_1 u t H locs ht hvm hw hB hz1 hk1 hS => ?_)
  obtain ⟨hP1, hD1⟩ := hB
  rw [ht] at hP1
  obtain ⟨hP, hD⟩ := va_join (wr := []) (w1 := [(h0, .inr (12, mF g 0 0 0 0 0))]) hP hD [0] [] rfl rfl (by decide) (by decide) hk1 hFc hP1 hD1
  clear hPc hDc hFc hk1 hz1
  have hP : va_P (dC, dI) vwCl [(h0, .inr (12, mF g 0 0 0 0 0))] H := hP
  have hD : va_D A [(h0, .inr (12, mF g 0 0 0 0 0))] := hD
  obtain rfl := hw
  refine lv_istore_n (lv' := [(1, .int (-1)), (0, .ref h0)]) hx hb dX12_isText_19 rfl hl (by decide) rfl (fun ls hl => ?_)
  refine lv_iload_n hx hb dX12_isText_20 rfl (lv_at hl 0 rfl) ?_
  refine lv_iconst (v := (-1)) hx hb dX12_isText_21 (by decide) ?_
  refine lv_icmp_eq (tgt := 49) hx hb dX12_isText_22 (by decide) (fun c_2 => ?_) (fun c_2 => absurd (by decide) c_2)
  refine lv_aload_n hx hb dX12_isText_49 rfl (lv_at hl 1 rfl) ?_
  refine va_get (D := (dC, dI)) (ci := 12) (v := .int 0) (C := RX12) (T := TX12) (N := 87) hx hb hts ui_X12_isText_X12 hown hK hP 0 rfl rfl 7 (by decide) (hts (.fieldLink RX12 216 "CodeLifterModel" "codesRead" "I") (by decide +kernel)) (fun _ h9 => h9) rfl dX12_isText_50 ?_
  refine lv_if_ne (tgt := 58) hx hb dX12_isText_53 (by decide) (fun c_3 => absurd (by decide) c_3) (fun c_3 => ?_)
  refine lv_iconst (v := 0) hx hb dX12_isText_56 (by decide) ?_
  have hP9 := hP
  have hD9 := hD
  refine W.widen (k := 0) (n := 0) (Nat.le_of_ble_eq_true rfl) (Nat.le_of_ble_eq_true rfl) ?_
  exact W.zret (v := 0) hx hb hr rfl (fun t ht hW => ⟨⟨0, (), rfl, rfl, ⟨by rw [ht]; exact hP9, by first | exact hD9 | (rw [hAe]; exact hD9)⟩⟩, hS.F ht⟩) hS.2.2 dX12_isText_57

def us_X12_fault : List Cond := .code yX12_fault cX12_fault 1 (some .int) :: (([.fieldLink RX12 169 "CodeLifterModel" "thrown" "I", .methodLink RX12 241 yX12_isText, .instanceMethod yX12_isText, .selects RX12 yX12_isText yX12_isText, .initialized RX12, .fieldLink RX12 188 "CodeLifterModel" "at" "I"] ++ wsX120) ++ us_X12_isText)
theorem ui_X12_fault_X12 : ∀ w ∈ wsX120, w ∈ us_X12_fault := fun _ h => List.mem_cons_of_mem _ (List.mem_append_left _ (List.mem_append_right _ h))
set_option maxRecDepth 20000 in
theorem ugg_X12_fault_X12_isText : GoodIn us_X12_fault us_X12_isText := goodIn_sub (fun _ h => List.mem_cons_of_mem _ (List.mem_append_right _ h)) (by decide +kernel)
set_option maxRecDepth 20000 in
theorem ug_X12_fault_X12_isText : GoodIn us_X12_fault (wsV RX12 241 RX12 yX12_isText us_X12_isText) := goodIn_app (goodIn_of _ (by decide +kernel)) ugg_X12_fault_X12_isText
set_option maxHeartbeats 8000000 in
set_option maxRecDepth 100000 in
/-- the reference's fault on a new object -/
theorem c_X12_fault (l : Launch) (dC : Nat → ClassId) (dI : Nat → Nat → Nat) (sz : Nat) (h0 : Nat) (g : Nat → Nat)  : Met l yX12_fault us_X12_fault ({ frames := 3, cells := 0, slots := 0, locals := 61 }) (va_Pc [.ref h0] (fun U => U.heap.size = sz ∧ va_P (dC, dI) vwCl [(h0, .inr (12, mF g 0 0 0 0 0))] U.heap ∧ va_K (dC, dI) vwCl [] U ∧ va_D (fun _ => True) [(h0, .inr (12, mF g 0 0 0 0 0))])) (va_Qi (fun (r : Int32) (u : Unit) => r = 0) (fun (u : Unit) (t : State) => True) (va_A [(h0, .inr (12, mF g 0 0 0 0 0))] sz)) 0 0 (va_A [(h0, .inr (12, mF g 0 0 0 0 0))] sz) := by
  refine Met.ofW (cc := cX12_fault) (maxL := 1) (ret := (some .int)) (by decide) rfl ?_
  intro p e s m args below meth c s₁ B hml hv
  obtain ⟨rfl, hsz, hP, hK, hD0⟩ := hv
  have hx := B.exec
  have hb := B.bytes
  have hr := B.returns
  have hts := atoms_spec (ws := us_X12_fault) B.pre
  have hown : s.vm.findClass RX12 = some m.cls := findClass_of_methodNamed B.named
  have hlocks := B.notSynchronized
  subst hsz
  have hD := hD0.self (sz := s.heap.size)
  generalize hAe : va_A [(h0, .inr (12, mF g 0 0 0 0 0))] s.heap.size = A at hD ⊢
  have hA : ∀ q : Nat, s.heap.size ≤ q → A q := fun q h => by rw [← hAe]; exact Or.inr h
  have hS : va_S A s.heap s.heap [] := va_S.rf
  have hP : va_P (dC, dI) vwCl [(h0, .inr (12, mF g 0 0 0 0 0))] s.heap := hP
  have hl := lv_entry ([.ref h0]) (n := 1) (Nat.le_of_ble_eq_true rfl)
  rw [lg_entry_eq]
  generalize (lg_sl ([.ref h0]) ++ List.replicate (1 - (lg_sl ([.ref h0])).length) Slot.unset).toArray = ls at hl ⊢
  have hl : lv_has ls 1 [(0, .ref h0)] := hl
  refine lv_aload_n hx hb dX12_fault_0 rfl (lv_at hl 0 rfl) ?_
  refine lv_iconst (v := 0) hx hb dX12_fault_1 (by decide) ?_
  refine va_put (D := (dC, dI)) (ci := 12) (v := .int 0) (ty := .int) (C := RX12) (T := TX12) (N := 87) hx hb hts ui_X12_fault_X12 tyX12 tyX12_ok nmX12 hown hK hP hD hS 0 rfl rfl 0 (by decide) (hts (.fieldLink RX12 169 "CodeLifterModel" "thrown" "I") (by decide +kernel)) (fun _ h9 => h9) rfl (by decide +kernel) rfl rfl (Nat.le_of_ble_eq_true rfl) dX12_fault_2 (fun H locs hP hD hS => ?_)
  have hP : va_P (dC, dI) vwCl [(h0, .inr (12, mF g 0 0 0 0 0))] H := hP
  have hD : va_D A [(h0, .inr (12, mF g 0 0 0 0 0))] := hD
  refine lv_aload_n hx hb dX12_fault_5 rfl (lv_at hl 0 rfl) ?_
  have hPc := hP.sub (ws' := [(h0, .inr (12, mF g 0 0 0 0 0))]) [0] rfl
  have hDc := hD.sub (ws' := [(h0, .inr (12, mF g 0 0 0 0 0))]) [0] (by decide) rfl
  have hKc := hK.sub (tys' := []) [] rfl
  have hFc := va_free (wc := [(h0, .inr (12, mF g 0 0 0 0 0))]) hD hS hA [0] rfl
  refine va_calli (va_runV (As := []) (rest := []) ⟨hx, hb, hml, hown, hts⟩ (c_X12_isText l dC dI H.size h0 g ) (cwV 0 hts ug_X12_fault_X12_isText rfl rfl rfl (by decide +kernel) ⟨Nat.le_of_ble_eq_true rfl, Nat.le_of_ble_eq_true rfl⟩) ⟨fun a U g mk q => by obtain ⟨q0, q1, qP, qK, qD⟩ := q; exact ⟨q0, q1, qP, va_K.moved (u := U) (U := U.calling g mk a) (Vm.Alike.refl U.vm) qK, qD⟩, va_recv hKc hPc (ci := 12) (q0 := 0) rfl rfl, fun U hU hW => ⟨rfl, by rw [hU], by rw [hU]; exact hPc, va_K.moved hW.alike hKc, hDc.weaken (fun _ _ _ _ => trivial)⟩⟩ rfl rfl hl.1 rfl (lv_room (Nat.le_of_ble_eq_true rfl)) dX12_fault_6 ⟨Nat.le_of_ble_eq_true rfl, Nat.le_of_ble_eq_true rfl⟩) hS (fun q _ h => hFc q h) hFc (fun r_1 u t H locs ht hvm hw hB hz1 hk1 hS => ?_)
  obtain ⟨hP1, hD1⟩ := hB
  rw [ht] at hP1
  obtain ⟨hP, hD⟩ := va_join (wr := []) (w1 := [(h0, .inr (12, mF g 0 0 0 0 0))]) hP hD [0] [] rfl rfl (by decide) (by decide) hk1 hFc hP1 hD1
  clear hPc hDc hFc hk1 hz1
  have hP : va_P (dC, dI) vwCl [(h0, .inr (12, mF g 0 0 0 0 0))] H := hP
  have hD : va_D A [(h0, .inr (12, mF g 0 0 0 0 0))] := hD
  obtain rfl := hw
  refine lv_if_eq (tgt := 16) hx hb dX12_fault_9 (by decide) (fun c_2 => ?_) (fun c_2 => absurd (by decide) c_2)
  refine lv_aload_n hx hb dX12_fault_16 rfl (lv_at hl 0 rfl) ?_
  refine va_get (D := (dC, dI)) (ci := 12) (v := .int 0) (C := RX12) (T := TX12) (N := 87) hx hb hts ui_X12_fault_X12 hown hK hP 0 rfl rfl 3 (by decide) (hts (.fieldLink RX12 188 "CodeLifterModel" "at" "I") (by decide +kernel)) (fun _ h9 => h9) rfl dX12_fault_17 ?_
  refine W.widen (k := 0) (n := 0) (Nat.le_of_ble_eq_true rfl) (Nat.le_of_ble_eq_true rfl) ?_
  exact W.iret (v := 0) hx hb hr (fun t ht hW => ⟨⟨0, (), rfl, rfl, trivial⟩, hS.F ht⟩) hS.2.2 dX12_fault_20

def us_X12_code : List Cond := .code yX12_code cX12_code 2 (some .int) :: (([.fieldLink RX12 169 "CodeLifterModel" "thrown" "I", .methodLink RX12 241 yX12_isText, .instanceMethod yX12_isText, .selects RX12 yX12_isText yX12_isText, .initialized RX12] ++ wsX120) ++ us_X12_isText)
theorem ui_X12_code_X12 : ∀ w ∈ wsX120, w ∈ us_X12_code := fun _ h => List.mem_cons_of_mem _ (List.mem_append_left _ (List.mem_append_right _ h))
set_option maxRecDepth 20000 in
theorem ugg_X12_code_X12_isText : GoodIn us_X12_code us_X12_isText := goodIn_sub (fun _ h => List.mem_cons_of_mem _ (List.mem_append_right _ h)) (by decide +kernel)
set_option maxRecDepth 20000 in
theorem ug_X12_code_X12_isText : GoodIn us_X12_code (wsV RX12 241 RX12 yX12_isText us_X12_isText) := goodIn_app (goodIn_of _ (by decide +kernel)) ugg_X12_code_X12_isText
set_option maxHeartbeats 8000000 in
set_option maxRecDepth 100000 in
/-- the reference's code on a new object -/
theorem c_X12_code (l : Launch) (dC : Nat → ClassId) (dI : Nat → Nat → Nat) (sz : Nat) (h0 : Nat) (g : Nat → Nat)  : Met l yX12_code us_X12_code ({ frames := 3, cells := 0, slots := 0, locals := 61 }) (va_Pc [.ref h0] (fun U => U.heap.size = sz ∧ va_P (dC, dI) vwCl [(h0, .inr (12, mF g 0 0 0 0 0))] U.heap ∧ va_K (dC, dI) vwCl [] U ∧ va_D (fun _ => True) [(h0, .inr (12, mF g 0 0 0 0 0))])) (va_Qi (fun (r : Int32) (u : Unit) => r = -1) (fun (u : Unit) (t : State) => True) (va_A [(h0, .inr (12, mF g 0 0 0 0 0))] sz)) 0 0 (va_A [(h0, .inr (12, mF g 0 0 0 0 0))] sz) := by
  refine Met.ofW (cc := cX12_code) (maxL := 2) (ret := (some .int)) (by decide) rfl ?_
  intro p e s m args below meth c s₁ B hml hv
  obtain ⟨rfl, hsz, hP, hK, hD0⟩ := hv
  have hx := B.exec
  have hb := B.bytes
  have hr := B.returns
  have hts := atoms_spec (ws := us_X12_code) B.pre
  have hown : s.vm.findClass RX12 = some m.cls := findClass_of_methodNamed B.named
  have hlocks := B.notSynchronized
  subst hsz
  have hD := hD0.self (sz := s.heap.size)
  generalize hAe : va_A [(h0, .inr (12, mF g 0 0 0 0 0))] s.heap.size = A at hD ⊢
  have hA : ∀ q : Nat, s.heap.size ≤ q → A q := fun q h => by rw [← hAe]; exact Or.inr h
  have hS : va_S A s.heap s.heap [] := va_S.rf
  have hP : va_P (dC, dI) vwCl [(h0, .inr (12, mF g 0 0 0 0 0))] s.heap := hP
  have hl := lv_entry ([.ref h0]) (n := 2) (Nat.le_of_ble_eq_true rfl)
  rw [lg_entry_eq]
  generalize (lg_sl ([.ref h0]) ++ List.replicate (2 - (lg_sl ([.ref h0])).length) Slot.unset).toArray = ls at hl ⊢
  have hl : lv_has ls 2 [(0, .ref h0)] := hl
  refine lv_aload_n hx hb dX12_code_0 rfl (lv_at hl 0 rfl) ?_
  refine lv_iconst (v := 0) hx hb dX12_code_1 (by decide) ?_
  refine va_put (D := (dC, dI)) (ci := 12) (v := .int 0) (ty := .int) (C := RX12) (T := TX12) (N := 87) hx hb hts ui_X12_code_X12 tyX12 tyX12_ok nmX12 hown hK hP hD hS 0 rfl rfl 0 (by decide) (hts (.fieldLink RX12 169 "CodeLifterModel" "thrown" "I") (by decide +kernel)) (fun _ h9 => h9) rfl (by decide +kernel) rfl rfl (Nat.le_of_ble_eq_true rfl) dX12_code_2 (fun H locs hP hD hS => ?_)
  have hP : va_P (dC, dI) vwCl [(h0, .inr (12, mF g 0 0 0 0 0))] H := hP
  have hD : va_D A [(h0, .inr (12, mF g 0 0 0 0 0))] := hD
  refine lv_aload_n hx hb dX12_code_5 rfl (lv_at hl 0 rfl) ?_
  have hPc := hP.sub (ws' := [(h0, .inr (12, mF g 0 0 0 0 0))]) [0] rfl
  have hDc := hD.sub (ws' := [(h0, .inr (12, mF g 0 0 0 0 0))]) [0] (by decide) rfl
  have hKc := hK.sub (tys' := []) [] rfl
  have hFc := va_free (wc := [(h0, .inr (12, mF g 0 0 0 0 0))]) hD hS hA [0] rfl
  refine va_calli (va_runV (As := []) (rest := []) ⟨hx, hb, hml, hown, hts⟩ (c_X12_isText l dC dI H.size h0 g ) (cwV 0 hts ug_X12_code_X12_isText rfl rfl rfl (by decide +kernel) ⟨Nat.le_of_ble_eq_true rfl, Nat.le_of_ble_eq_true rfl⟩) ⟨fun a U g mk q => by obtain ⟨q0, q1, qP, qK, qD⟩ := q; exact ⟨q0, q1, qP, va_K.moved (u := U) (U := U.calling g mk a) (Vm.Alike.refl U.vm) qK, qD⟩, va_recv hKc hPc (ci := 12) (q0 := 0) rfl rfl, fun U hU hW => ⟨rfl, by rw [hU], by rw [hU]; exact hPc, va_K.moved hW.alike hKc, hDc.weaken (fun _ _ _ _ => trivial)⟩⟩ rfl rfl hl.1 rfl (lv_room (Nat.le_of_ble_eq_true rfl)) dX12_code_6 ⟨Nat.le_of_ble_eq_true rfl, Nat.le_of_ble_eq_true rfl⟩) hS (fun q _ h => hFc q h) hFc (fun r_1 u t H locs ht hvm hw hB hz1 hk1 hS => ?_)
  obtain ⟨hP1, hD1⟩ := hB
  rw [ht] at hP1
  obtain ⟨hP, hD⟩ := va_join (wr := []) (w1 := [(h0, .inr (12, mF g 0 0 0 0 0))]) hP hD [0] [] rfl rfl (by decide) (by decide) hk1 hFc hP1 hD1
  clear hPc hDc hFc hk1 hz1
  have hP : va_P (dC, dI) vwCl [(h0, .inr (12, mF g 0 0 0 0 0))] H := hP
  have hD : va_D A [(h0, .inr (12, mF g 0 0 0 0 0))] := hD
  obtain rfl := hw
  refine lv_if_ne (tgt := 14) hx hb dX12_code_9 (by decide) (fun c_2 => absurd (by decide) c_2) (fun c_2 => ?_)
  refine lv_iconst (v := (-1)) hx hb dX12_code_12 (by decide) ?_
  refine W.widen (k := 0) (n := 0) (Nat.le_of_ble_eq_true rfl) (Nat.le_of_ble_eq_true rfl) ?_
  exact W.iret (v := (-1)) hx hb hr (fun t ht hW => ⟨⟨(-1), (), rfl, rfl, trivial⟩, hS.F ht⟩) hS.2.2 dX12_code_13

def us_X12_end : List Cond := .code yX12_end cX12_end 2 (some .boolean) :: ([.fieldLink RX12 169 "CodeLifterModel" "thrown" "I", .fieldLink RX12 177 "CodeLifterModel" "length" "I"] ++ wsX120)
theorem ui_X12_end_X12 : ∀ w ∈ wsX120, w ∈ us_X12_end := fun _ h => List.mem_cons_of_mem _ (List.mem_append_right _ h)
set_option maxHeartbeats 8000000 in
set_option maxRecDepth 100000 in
/-- the reference's end on a new object -/
theorem c_X12_end (l : Launch) (dC : Nat → ClassId) (dI : Nat → Nat → Nat) (sz : Nat) (h0 : Nat) (g : Nat → Nat) (p0 : Int32) : Met l yX12_end us_X12_end ({ frames := 0, cells := 0, slots := 0, locals := 0 }) (va_Pc [.ref h0, .int p0] (fun U => U.heap.size = sz ∧ va_P (dC, dI) vwCl [(h0, .inr (12, mF g 0 0 0 0 0))] U.heap ∧ va_K (dC, dI) vwCl [] U ∧ va_D (fun _ => True) [(h0, .inr (12, mF g 0 0 0 0 0))])) (va_Qi (fun (r : Int32) (u : Unit) => r = en p0) (fun (u : Unit) (t : State) => True) (va_A [(h0, .inr (12, mF g 0 0 0 0 0))] sz)) 0 0 (va_A [(h0, .inr (12, mF g 0 0 0 0 0))] sz) := by
  refine Met.ofW (cc := cX12_end) (maxL := 2) (ret := (some .boolean)) (by decide) rfl ?_
  intro p e s m args below meth c s₁ B hml hv
  obtain ⟨rfl, hsz, hP, hK, hD0⟩ := hv
  have hx := B.exec
  have hb := B.bytes
  have hr := B.returns
  have hts := atoms_spec (ws := us_X12_end) B.pre
  have hown : s.vm.findClass RX12 = some m.cls := findClass_of_methodNamed B.named
  have hlocks := B.notSynchronized
  subst hsz
  have hD := hD0.self (sz := s.heap.size)
  generalize hAe : va_A [(h0, .inr (12, mF g 0 0 0 0 0))] s.heap.size = A at hD ⊢
  have hA : ∀ q : Nat, s.heap.size ≤ q → A q := fun q h => by rw [← hAe]; exact Or.inr h
  have hS : va_S A s.heap s.heap [] := va_S.rf
  have hP : va_P (dC, dI) vwCl [(h0, .inr (12, mF g 0 0 0 0 0))] s.heap := hP
  have hl := lv_entry ([.ref h0, .int p0]) (n := 2) (Nat.le_of_ble_eq_true rfl)
  rw [lg_entry_eq]
  generalize (lg_sl ([.ref h0, .int p0]) ++ List.replicate (2 - (lg_sl ([.ref h0, .int p0])).length) Slot.unset).toArray = ls at hl ⊢
  have hl : lv_has ls 2 [(0, .ref h0), (1, .int p0)] := hl
  refine lv_aload_n hx hb dX12_end_0 rfl (lv_at hl 0 rfl) ?_
  refine lv_iconst (v := 0) hx hb dX12_end_1 (by decide) ?_
  refine va_put (D := (dC, dI)) (ci := 12) (v := .int 0) (ty := .int) (C := RX12) (T := TX12) (N := 87) hx hb hts ui_X12_end_X12 tyX12 tyX12_ok nmX12 hown hK hP hD hS 0 rfl rfl 0 (by decide) (hts (.fieldLink RX12 169 "CodeLifterModel" "thrown" "I") (by decide +kernel)) (fun _ h9 => h9) rfl (by decide +kernel) rfl rfl (Nat.le_of_ble_eq_true rfl) dX12_end_2 (fun H locs hP hD hS => ?_)
  have hP : va_P (dC, dI) vwCl [(h0, .inr (12, mF g 0 0 0 0 0))] H := hP
  have hD : va_D A [(h0, .inr (12, mF g 0 0 0 0 0))] := hD
  refine lv_iload_n hx hb dX12_end_5 rfl (lv_at hl 1 rfl) ?_
  refine lv_if_lt (tgt := 17) hx hb dX12_end_6 (by decide) (fun c_1 => ?_) (fun c_1 => ?_)
  · refine lv_iconst (v := 0) hx hb dX12_end_17 (by decide) ?_
    refine W.widen (k := 0) (n := 0) (Nat.le_of_ble_eq_true rfl) (Nat.le_of_ble_eq_true rfl) ?_
    exact W.zret (v := 0) hx hb hr rfl (fun t ht hW => ⟨⟨0, (), rfl, (by unfold en; split <;> first | rfl | contradiction | (split <;> first | rfl | contradiction)), trivial⟩, hS.F ht⟩) hS.2.2 dX12_end_18
  · refine lv_iload_n hx hb dX12_end_9 rfl (lv_at hl 1 rfl) ?_
    refine lv_aload_n hx hb dX12_end_10 rfl (lv_at hl 0 rfl) ?_
    refine va_get (D := (dC, dI)) (ci := 12) (v := .int 0) (C := RX12) (T := TX12) (N := 87) hx hb hts ui_X12_end_X12 hown hK hP 0 rfl rfl 2 (by decide) (hts (.fieldLink RX12 177 "CodeLifterModel" "length" "I") (by decide +kernel)) (fun _ h9 => h9) rfl dX12_end_11 ?_
    refine lv_icmp_le (tgt := 19) hx hb dX12_end_14 (by decide) (fun c_2 => ?_) (fun c_2 => ?_)
    · refine lv_aload_n hx hb dX12_end_19 rfl (lv_at hl 0 rfl) ?_
      refine lv_iload_n hx hb dX12_end_20 rfl (lv_at hl 1 rfl) ?_
      refine va_put (D := (dC, dI)) (ci := 12) (v := .int p0) (ty := .int) (C := RX12) (T := TX12) (N := 87) hx hb hts ui_X12_end_X12 tyX12 tyX12_ok nmX12 hown hK hP hD hS 0 rfl rfl 2 (by decide) (hts (.fieldLink RX12 177 "CodeLifterModel" "length" "I") (by decide +kernel)) (fun _ h9 => h9) rfl (by decide +kernel) rfl rfl (Nat.le_of_ble_eq_true rfl) dX12_end_21 (fun H locs hP hD hS => ?_)
      have hP : va_P (dC, dI) vwCl [(h0, .inr (12, mF g 0 p0 0 0 0))] H := hP
      have hD : va_D A [(h0, .inr (12, mF g 0 p0 0 0 0))] := hD
      refine lv_iconst (v := 1) hx hb dX12_end_24 (by decide) ?_
      refine W.widen (k := 0) (n := 0) (Nat.le_of_ble_eq_true rfl) (Nat.le_of_ble_eq_true rfl) ?_
      exact W.zret (v := 1) hx hb hr rfl (fun t ht hW => ⟨⟨1, (), rfl, (by unfold en; split <;> first | rfl | contradiction | (split <;> first | rfl | contradiction)), trivial⟩, hS.F ht⟩) hS.2.2 dX12_end_25
    · refine lv_iconst (v := 0) hx hb dX12_end_17 (by decide) ?_
      refine W.widen (k := 0) (n := 0) (Nat.le_of_ble_eq_true rfl) (Nat.le_of_ble_eq_true rfl) ?_
      exact W.zret (v := 0) hx hb hr rfl (fun t ht hW => ⟨⟨0, (), rfl, (by unfold en; split <;> first | rfl | contradiction | (split <;> first | rfl | contradiction)), trivial⟩, hS.F ht⟩) hS.2.2 dX12_end_18

def us_X12_count : List Cond := .code yX12_count cX12_count 2 (some .int) :: ([.fieldLink RX12 169 "CodeLifterModel" "thrown" "I", .fieldLink RX12 292 "CodeLifterModel" "isThere" "Z", .constant RX12 614 (-1000000), .fieldLink RX12 177 "CodeLifterModel" "length" "I"] ++ wsX120)
theorem ui_X12_count_X12 : ∀ w ∈ wsX120, w ∈ us_X12_count := fun _ h => List.mem_cons_of_mem _ (List.mem_append_right _ h)
set_option maxHeartbeats 8000000 in
set_option maxRecDepth 100000 in
/-- the reference's count on a new object -/
theorem c_X12_count (l : Launch) (dC : Nat → ClassId) (dI : Nat → Nat → Nat) (sz : Nat) (h0 : Nat) (g : Nat → Nat) (p0 : Int32) : Met l yX12_count us_X12_count ({ frames := 0, cells := 0, slots := 0, locals := 0 }) (va_Pc [.ref h0, .int p0] (fun U => U.heap.size = sz ∧ va_P (dC, dI) vwCl [(h0, .inr (12, mF g 0 0 0 0 0))] U.heap ∧ va_K (dC, dI) vwCl [] U ∧ va_D (fun _ => True) [(h0, .inr (12, mF g 0 0 0 0 0))])) (va_Qi (fun (r : Int32) (u : Unit) => r = co p0) (fun (u : Unit) (t : State) => True) (va_A [(h0, .inr (12, mF g 0 0 0 0 0))] sz)) 0 0 (va_A [(h0, .inr (12, mF g 0 0 0 0 0))] sz) := by
  refine Met.ofW (cc := cX12_count) (maxL := 2) (ret := (some .int)) (by decide) rfl ?_
  intro p e s m args below meth c s₁ B hml hv
  obtain ⟨rfl, hsz, hP, hK, hD0⟩ := hv
  have hx := B.exec
  have hb := B.bytes
  have hr := B.returns
  have hts := atoms_spec (ws := us_X12_count) B.pre
  have hown : s.vm.findClass RX12 = some m.cls := findClass_of_methodNamed B.named
  have hlocks := B.notSynchronized
  subst hsz
  have hD := hD0.self (sz := s.heap.size)
  generalize hAe : va_A [(h0, .inr (12, mF g 0 0 0 0 0))] s.heap.size = A at hD ⊢
  have hA : ∀ q : Nat, s.heap.size ≤ q → A q := fun q h => by rw [← hAe]; exact Or.inr h
  have hS : va_S A s.heap s.heap [] := va_S.rf
  have hP : va_P (dC, dI) vwCl [(h0, .inr (12, mF g 0 0 0 0 0))] s.heap := hP
  have hl := lv_entry ([.ref h0, .int p0]) (n := 2) (Nat.le_of_ble_eq_true rfl)
  rw [lg_entry_eq]
  generalize (lg_sl ([.ref h0, .int p0]) ++ List.replicate (2 - (lg_sl ([.ref h0, .int p0])).length) Slot.unset).toArray = ls at hl ⊢
  have hl : lv_has ls 2 [(0, .ref h0), (1, .int p0)] := hl
  refine lv_aload_n hx hb dX12_count_0 rfl (lv_at hl 0 rfl) ?_
  refine lv_iconst (v := 0) hx hb dX12_count_1 (by decide) ?_
  refine va_put (D := (dC, dI)) (ci := 12) (v := .int 0) (ty := .int) (C := RX12) (T := TX12) (N := 87) hx hb hts ui_X12_count_X12 tyX12 tyX12_ok nmX12 hown hK hP hD hS 0 rfl rfl 0 (by decide) (hts (.fieldLink RX12 169 "CodeLifterModel" "thrown" "I") (by decide +kernel)) (fun _ h9 => h9) rfl (by decide +kernel) rfl rfl (Nat.le_of_ble_eq_true rfl) dX12_count_2 (fun H locs hP hD hS => ?_)
  have hP : va_P (dC, dI) vwCl [(h0, .inr (12, mF g 0 0 0 0 0))] H := hP
  have hD : va_D A [(h0, .inr (12, mF g 0 0 0 0 0))] := hD
  refine lv_iload_n hx hb dX12_count_5 rfl (lv_at hl 1 rfl) ?_
  refine lv_bipush (v := 12) hx hb dX12_count_6 (by decide) ?_
  refine lv_icmp_ne (tgt := 16) hx hb dX12_count_8 (by decide) (fun c_1 => ?_) (fun c_1 => ?_)
  · refine lv_aload_n hx hb dX12_count_16 rfl (lv_at hl 0 rfl) ?_
    refine va_get (D := (dC, dI)) (ci := 12) (v := .int 0) (C := RX12) (T := TX12) (N := 87) hx hb hts ui_X12_count_X12 hown hK hP 0 rfl rfl 21 (by decide) (hts (.fieldLink RX12 292 "CodeLifterModel" "isThere" "Z") (by decide +kernel)) (fun _ h9 => h9) rfl dX12_count_17 ?_
    refine lv_if_ne (tgt := 27) hx hb dX12_count_20 (by decide) (fun c_2 => absurd (by decide) c_2) (fun c_2 => ?_)
    refine lv_ldcw hx hb hown (hts (.constant RX12 614 (-1000000)) (by decide +kernel)) dX12_count_23 ?_
    refine W.widen (k := 0) (n := 0) (Nat.le_of_ble_eq_true rfl) (Nat.le_of_ble_eq_true rfl) ?_
    exact W.iret (v := (-1000000)) hx hb hr (fun t ht hW => ⟨⟨(-1000000), (), rfl, (by unfold co; split <;> first | rfl | contradiction), trivial⟩, hS.F ht⟩) hS.2.2 dX12_count_26
  · refine lv_aload_n hx hb dX12_count_11 rfl (lv_at hl 0 rfl) ?_
    refine va_get (D := (dC, dI)) (ci := 12) (v := .int 0) (C := RX12) (T := TX12) (N := 87) hx hb hts ui_X12_count_X12 hown hK hP 0 rfl rfl 2 (by decide) (hts (.fieldLink RX12 177 "CodeLifterModel" "length" "I") (by decide +kernel)) (fun _ h9 => h9) rfl dX12_count_12 ?_
    refine W.widen (k := 0) (n := 0) (Nat.le_of_ble_eq_true rfl) (Nat.le_of_ble_eq_true rfl) ?_
    exact W.iret (v := 0) hx hb hr (fun t ht hW => ⟨⟨0, (), rfl, (by unfold co; split <;> first | rfl | contradiction), trivial⟩, hS.F ht⟩) hS.2.2 dX12_count_15

def us_X12_isBlock : List Cond := .code yX12_isBlock cX12_isBlock 2 (some .boolean) :: ([.fieldLink RX12 292 "CodeLifterModel" "isThere" "Z"] ++ wsX120)
theorem ui_X12_isBlock_X12 : ∀ w ∈ wsX120, w ∈ us_X12_isBlock := fun _ h => List.mem_cons_of_mem _ (List.mem_append_right _ h)
set_option maxHeartbeats 8000000 in
set_option maxRecDepth 100000 in
/-- the reference's isBlock on a new object -/
theorem c_X12_isBlock (l : Launch) (dC : Nat → ClassId) (dI : Nat → Nat → Nat) (sz : Nat) (h0 : Nat) (g : Nat → Nat) (p0 : Int32) : Met l yX12_isBlock us_X12_isBlock ({ frames := 0, cells := 0, slots := 0, locals := 0 }) (va_Pc [.ref h0, .int p0] (fun U => U.heap.size = sz ∧ va_P (dC, dI) vwCl [(h0, .inr (12, mF g 0 0 0 0 0))] U.heap ∧ va_K (dC, dI) vwCl [] U ∧ va_D (fun _ => True) [(h0, .inr (12, mF g 0 0 0 0 0))])) (va_Qi (fun (r : Int32) (u : Unit) => r = 0) (fun (u : Unit) (t : State) => va_P (dC, dI) vwCl [(h0, .inr (12, mF g 0 0 0 0 0))] t.heap ∧ va_D (va_A [(h0, .inr (12, mF g 0 0 0 0 0))] sz) [(h0, .inr (12, mF g 0 0 0 0 0))]) (va_A [(h0, .inr (12, mF g 0 0 0 0 0))] sz)) 0 0 (va_A [(h0, .inr (12, mF g 0 0 0 0 0))] sz) := by
  refine Met.ofW (cc := cX12_isBlock) (maxL := 2) (ret := (some .boolean)) (by decide) rfl ?_
  intro p e s m args below meth c s₁ B hml hv
  obtain ⟨rfl, hsz, hP, hK, hD0⟩ := hv
  have hx := B.exec
  have hb := B.bytes
  have hr := B.returns
  have hts := atoms_spec (ws := us_X12_isBlock) B.pre
  have hown : s.vm.findClass RX12 = some m.cls := findClass_of_methodNamed B.named
  have hlocks := B.notSynchronized
  subst hsz
  have hD := hD0.self (sz := s.heap.size)
  generalize hAe : va_A [(h0, .inr (12, mF g 0 0 0 0 0))] s.heap.size = A at hD ⊢
  have hA : ∀ q : Nat, s.heap.size ≤ q → A q := fun q h => by rw [← hAe]; exact Or.inr h
  have hS : va_S A s.heap s.heap [] := va_S.rf
  have hP : va_P (dC, dI) vwCl [(h0, .inr (12, mF g 0 0 0 0 0))] s.heap := hP
  have hl := lv_entry ([.ref h0, .int p0]) (n := 2) (Nat.le_of_ble_eq_true rfl)
  rw [lg_entry_eq]
  generalize (lg_sl ([.ref h0, .int p0]) ++ List.replicate (2 - (lg_sl ([.ref h0, .int p0])).length) Slot.unset).toArray = ls at hl ⊢
  have hl : lv_has ls 2 [(0, .ref h0), (1, .int p0)] := hl
  refine lv_aload_n hx hb dX12_isBlock_0 rfl (lv_at hl 0 rfl) ?_
  refine va_get (D := (dC, dI)) (ci := 12) (v := .int 0) (C := RX12) (T := TX12) (N := 87) hx hb hts ui_X12_isBlock_X12 hown hK hP 0 rfl rfl 21 (by decide) (hts (.fieldLink RX12 292 "CodeLifterModel" "isThere" "Z") (by decide +kernel)) (fun _ h9 => h9) rfl dX12_isBlock_1 ?_
  refine lv_if_eq (tgt := 27) hx hb dX12_isBlock_4 (by decide) (fun c_1 => ?_) (fun c_1 => absurd (by decide) c_1)
  refine lv_iconst (v := 0) hx hb dX12_isBlock_27 (by decide) ?_
  have hP9 := hP
  have hD9 := hD
  refine W.widen (k := 0) (n := 0) (Nat.le_of_ble_eq_true rfl) (Nat.le_of_ble_eq_true rfl) ?_
  exact W.zret (v := 0) hx hb hr rfl (fun t ht hW => ⟨⟨0, (), rfl, rfl, ⟨by rw [ht]; exact hP9, by first | exact hD9 | (rw [hAe]; exact hD9)⟩⟩, hS.F ht⟩) hS.2.2 dX12_isBlock_28

def us_X12_isLine : List Cond := .code yX12_isLine cX12_isLine 2 (some .boolean) :: ([.fieldLink RX12 292 "CodeLifterModel" "isThere" "Z"] ++ wsX120)
theorem ui_X12_isLine_X12 : ∀ w ∈ wsX120, w ∈ us_X12_isLine := fun _ h => List.mem_cons_of_mem _ (List.mem_append_right _ h)
set_option maxHeartbeats 8000000 in
set_option maxRecDepth 100000 in
/-- the reference's isLine on a new object -/
theorem c_X12_isLine (l : Launch) (dC : Nat → ClassId) (dI : Nat → Nat → Nat) (sz : Nat) (h0 : Nat) (g : Nat → Nat) (p0 : Int32) : Met l yX12_isLine us_X12_isLine ({ frames := 0, cells := 0, slots := 0, locals := 0 }) (va_Pc [.ref h0, .int p0] (fun U => U.heap.size = sz ∧ va_P (dC, dI) vwCl [(h0, .inr (12, mF g 0 0 0 0 0))] U.heap ∧ va_K (dC, dI) vwCl [] U ∧ va_D (fun _ => True) [(h0, .inr (12, mF g 0 0 0 0 0))])) (va_Qi (fun (r : Int32) (u : Unit) => r = 0) (fun (u : Unit) (t : State) => va_P (dC, dI) vwCl [(h0, .inr (12, mF g 0 0 0 0 0))] t.heap ∧ va_D (va_A [(h0, .inr (12, mF g 0 0 0 0 0))] sz) [(h0, .inr (12, mF g 0 0 0 0 0))]) (va_A [(h0, .inr (12, mF g 0 0 0 0 0))] sz)) 0 0 (va_A [(h0, .inr (12, mF g 0 0 0 0 0))] sz) := by
  refine Met.ofW (cc := cX12_isLine) (maxL := 2) (ret := (some .boolean)) (by decide) rfl ?_
  intro p e s m args below meth c s₁ B hml hv
  obtain ⟨rfl, hsz, hP, hK, hD0⟩ := hv
  have hx := B.exec
  have hb := B.bytes
  have hr := B.returns
  have hts := atoms_spec (ws := us_X12_isLine) B.pre
  have hown : s.vm.findClass RX12 = some m.cls := findClass_of_methodNamed B.named
  have hlocks := B.notSynchronized
  subst hsz
  have hD := hD0.self (sz := s.heap.size)
  generalize hAe : va_A [(h0, .inr (12, mF g 0 0 0 0 0))] s.heap.size = A at hD ⊢
  have hA : ∀ q : Nat, s.heap.size ≤ q → A q := fun q h => by rw [← hAe]; exact Or.inr h
  have hS : va_S A s.heap s.heap [] := va_S.rf
  have hP : va_P (dC, dI) vwCl [(h0, .inr (12, mF g 0 0 0 0 0))] s.heap := hP
  have hl := lv_entry ([.ref h0, .int p0]) (n := 2) (Nat.le_of_ble_eq_true rfl)
  rw [lg_entry_eq]
  generalize (lg_sl ([.ref h0, .int p0]) ++ List.replicate (2 - (lg_sl ([.ref h0, .int p0])).length) Slot.unset).toArray = ls at hl ⊢
  have hl : lv_has ls 2 [(0, .ref h0), (1, .int p0)] := hl
  refine lv_aload_n hx hb dX12_isLine_0 rfl (lv_at hl 0 rfl) ?_
  refine va_get (D := (dC, dI)) (ci := 12) (v := .int 0) (C := RX12) (T := TX12) (N := 87) hx hb hts ui_X12_isLine_X12 hown hK hP 0 rfl rfl 21 (by decide) (hts (.fieldLink RX12 292 "CodeLifterModel" "isThere" "Z") (by decide +kernel)) (fun _ h9 => h9) rfl dX12_isLine_1 ?_
  refine lv_if_eq (tgt := 35) hx hb dX12_isLine_4 (by decide) (fun c_1 => ?_) (fun c_1 => absurd (by decide) c_1)
  refine lv_iconst (v := 0) hx hb dX12_isLine_35 (by decide) ?_
  have hP9 := hP
  have hD9 := hD
  refine W.widen (k := 0) (n := 0) (Nat.le_of_ble_eq_true rfl) (Nat.le_of_ble_eq_true rfl) ?_
  exact W.zret (v := 0) hx hb hr rfl (fun t ht hW => ⟨⟨0, (), rfl, rfl, ⟨by rw [ht]; exact hP9, by first | exact hD9 | (rw [hAe]; exact hD9)⟩⟩, hS.F ht⟩) hS.2.2 dX12_isLine_36

def us_X12_hasRun : List Cond := .code yX12_hasRun cX12_hasRun 6 (some .boolean) :: ([.fieldLink RX12 292 "CodeLifterModel" "isThere" "Z"] ++ wsX120)
theorem ui_X12_hasRun_X12 : ∀ w ∈ wsX120, w ∈ us_X12_hasRun := fun _ h => List.mem_cons_of_mem _ (List.mem_append_right _ h)
set_option maxHeartbeats 8000000 in
set_option maxRecDepth 100000 in
/-- the reference's hasRun on a new object -/
theorem c_X12_hasRun (l : Launch) (dC : Nat → ClassId) (dI : Nat → Nat → Nat) (sz : Nat) (h0 : Nat) (g : Nat → Nat) (p0 : Int32) (p1 : Int32) (p2 : Int32) (p3 : Int32) (p4 : Int32) : Met l yX12_hasRun us_X12_hasRun ({ frames := 0, cells := 0, slots := 0, locals := 0 }) (va_Pc [.ref h0, .int p0, .int p1, .int p2, .int p3, .int p4] (fun U => U.heap.size = sz ∧ va_P (dC, dI) vwCl [(h0, .inr (12, mF g 0 0 0 0 0))] U.heap ∧ va_K (dC, dI) vwCl [] U ∧ va_D (fun _ => True) [(h0, .inr (12, mF g 0 0 0 0 0))])) (va_Qi (fun (r : Int32) (u : Unit) => r = 0) (fun (u : Unit) (t : State) => va_P (dC, dI) vwCl [(h0, .inr (12, mF g 0 0 0 0 0))] t.heap ∧ va_D (va_A [(h0, .inr (12, mF g 0 0 0 0 0))] sz) [(h0, .inr (12, mF g 0 0 0 0 0))]) (va_A [(h0, .inr (12, mF g 0 0 0 0 0))] sz)) 0 0 (va_A [(h0, .inr (12, mF g 0 0 0 0 0))] sz) := by
  refine Met.ofW (cc := cX12_hasRun) (maxL := 6) (ret := (some .boolean)) (by decide) rfl ?_
  intro p e s m args below meth c s₁ B hml hv
  obtain ⟨rfl, hsz, hP, hK, hD0⟩ := hv
  have hx := B.exec
  have hb := B.bytes
  have hr := B.returns
  have hts := atoms_spec (ws := us_X12_hasRun) B.pre
  have hown : s.vm.findClass RX12 = some m.cls := findClass_of_methodNamed B.named
  have hlocks := B.notSynchronized
  subst hsz
  have hD := hD0.self (sz := s.heap.size)
  generalize hAe : va_A [(h0, .inr (12, mF g 0 0 0 0 0))] s.heap.size = A at hD ⊢
  have hA : ∀ q : Nat, s.heap.size ≤ q → A q := fun q h => by rw [← hAe]; exact Or.inr h
  have hS : va_S A s.heap s.heap [] := va_S.rf
  have hP : va_P (dC, dI) vwCl [(h0, .inr (12, mF g 0 0 0 0 0))] s.heap := hP
  have hl := lv_entry ([.ref h0, .int p0, .int p1, .int p2, .int p3, .int p4]) (n := 6) (Nat.le_of_ble_eq_true rfl)
  rw [lg_entry_eq]
  generalize (lg_sl ([.ref h0, .int p0, .int p1, .int p2, .int p3, .int p4]) ++ List.replicate (6 - (lg_sl ([.ref h0, .int p0, .int p1, .int p2, .int p3, .int p4])).length) Slot.unset).toArray = ls at hl ⊢
  have hl : lv_has ls 6 [(0, .ref h0), (1, .int p0), (2, .int p1), (3, .int p2), (4, .int p3), (5, .int p4)] := hl
  refine lv_aload_n hx hb dX12_hasRun_0 rfl (lv_at hl 0 rfl) ?_
  refine va_get (D := (dC, dI)) (ci := 12) (v := .int 0) (C := RX12) (T := TX12) (N := 87) hx hb hts ui_X12_hasRun_X12 hown hK hP 0 rfl rfl 21 (by decide) (hts (.fieldLink RX12 292 "CodeLifterModel" "isThere" "Z") (by decide +kernel)) (fun _ h9 => h9) rfl dX12_hasRun_1 ?_
  refine lv_if_eq (tgt := 43) hx hb dX12_hasRun_4 (by decide) (fun c_1 => ?_) (fun c_1 => absurd (by decide) c_1)
  refine lv_iconst (v := 0) hx hb dX12_hasRun_43 (by decide) ?_
  have hP9 := hP
  have hD9 := hD
  refine W.widen (k := 0) (n := 0) (Nat.le_of_ble_eq_true rfl) (Nat.le_of_ble_eq_true rfl) ?_
  exact W.zret (v := 0) hx hb hr rfl (fun t ht hW => ⟨⟨0, (), rfl, rfl, ⟨by rw [ht]; exact hP9, by first | exact hD9 | (rw [hAe]; exact hD9)⟩⟩, hS.F ht⟩) hS.2.2 dX12_hasRun_44

def us_X12_put : List Cond := .code yX12_put cX12_put 5 (some .int) :: ([.fieldLink RX12 169 "CodeLifterModel" "thrown" "I", .fieldLink RX12 292 "CodeLifterModel" "isThere" "Z"] ++ wsX120)
theorem ui_X12_put_X12 : ∀ w ∈ wsX120, w ∈ us_X12_put := fun _ h => List.mem_cons_of_mem _ (List.mem_append_right _ h)
set_option maxHeartbeats 8000000 in
set_option maxRecDepth 100000 in
/-- the reference's put on a new object -/
theorem c_X12_put (l : Launch) (dC : Nat → ClassId) (dI : Nat → Nat → Nat) (sz : Nat) (h0 : Nat) (g : Nat → Nat) (p0 : Int32) (p1 : Int32) (p2 : Int32) : Met l yX12_put us_X12_put ({ frames := 1, cells := 0, slots := 0, locals := 25 }) (va_Pc [.ref h0, .int p0, .int p1, .int p2] (fun U => U.heap.size = sz ∧ va_P (dC, dI) vwCl [(h0, .inr (12, mF g 0 0 0 0 0))] U.heap ∧ va_K (dC, dI) vwCl [] U ∧ va_D (fun _ => True) [(h0, .inr (12, mF g 0 0 0 0 0))])) (va_Qi (fun (r : Int32) (u : Unit) => r = (-1)) (fun (u : Unit) (t : State) => True) (va_A [(h0, .inr (12, mF g 0 0 0 0 0))] sz)) 0 0 (va_A [(h0, .inr (12, mF g 0 0 0 0 0))] sz) := by
  refine Met.ofW (cc := cX12_put) (maxL := 5) (ret := (some .int)) (by decide) rfl ?_
  intro p e s m args below meth c s₁ B hml hv
  obtain ⟨rfl, hsz, hP, hK, hD0⟩ := hv
  have hx := B.exec
  have hb := B.bytes
  have hr := B.returns
  have hts := atoms_spec (ws := us_X12_put) B.pre
  have hown : s.vm.findClass RX12 = some m.cls := findClass_of_methodNamed B.named
  have hlocks := B.notSynchronized
  subst hsz
  have hD := hD0.self (sz := s.heap.size)
  generalize hAe : va_A [(h0, .inr (12, mF g 0 0 0 0 0))] s.heap.size = A at hD ⊢
  have hA : ∀ q : Nat, s.heap.size ≤ q → A q := fun q h => by rw [← hAe]; exact Or.inr h
  have hS : va_S A s.heap s.heap [] := va_S.rf
  have hP : va_P (dC, dI) vwCl [(h0, .inr (12, mF g 0 0 0 0 0))] s.heap := hP
  have hl := lv_entry ([.ref h0, .int p0, .int p1, .int p2]) (n := 5) (Nat.le_of_ble_eq_true rfl)
  rw [lg_entry_eq]
  generalize (lg_sl ([.ref h0, .int p0, .int p1, .int p2]) ++ List.replicate (5 - (lg_sl ([.ref h0, .int p0, .int p1, .int p2])).length) Slot.unset).toArray = ls at hl ⊢
  have hl : lv_has ls 5 [(0, .ref h0), (1, .int p0), (2, .int p1), (3, .int p2)] := hl
  refine lv_aload_n hx hb dX12_put_0 rfl (lv_at hl 0 rfl) ?_
  refine lv_iconst (v := 0) hx hb dX12_put_1 (by decide) ?_
  refine va_put (D := (dC, dI)) (ci := 12) (v := .int 0) (ty := .int) (C := RX12) (T := TX12) (N := 87) hx hb hts ui_X12_put_X12 tyX12 tyX12_ok nmX12 hown hK hP hD hS 0 rfl rfl 0 (by decide) (hts (.fieldLink RX12 169 "CodeLifterModel" "thrown" "I") (by decide +kernel)) (fun _ h9 => h9) rfl (by decide +kernel) rfl rfl (Nat.le_of_ble_eq_true rfl) dX12_put_2 (fun H locs hP hD hS => ?_)
  have hP : va_P (dC, dI) vwCl [(h0, .inr (12, mF g 0 0 0 0 0))] H := hP
  have hD : va_D A [(h0, .inr (12, mF g 0 0 0 0 0))] := hD
  refine lv_aload_n hx hb dX12_put_5 rfl (lv_at hl 0 rfl) ?_
  refine va_get (D := (dC, dI)) (ci := 12) (v := .int 0) (C := RX12) (T := TX12) (N := 87) hx hb hts ui_X12_put_X12 hown hK hP 0 rfl rfl 21 (by decide) (hts (.fieldLink RX12 292 "CodeLifterModel" "isThere" "Z") (by decide +kernel)) (fun _ h9 => h9) rfl dX12_put_6 ?_
  refine lv_if_eq (tgt := 36) hx hb dX12_put_9 (by decide) (fun c_1 => ?_) (fun c_1 => absurd (by decide) c_1)
  refine lv_iconst (v := (-1)) hx hb dX12_put_36 (by decide) ?_
  refine W.widen (k := 0) (n := 0) (Nat.le_of_ble_eq_true rfl) (Nat.le_of_ble_eq_true rfl) ?_
  exact W.iret (v := (-1)) hx hb hr (fun t ht hW => ⟨⟨(-1), (), rfl, rfl, trivial⟩, hS.F ht⟩) hS.2.2 dX12_put_37

def us_X12_edge : List Cond := .code yX12_edge cX12_edge 3 (some .int) :: ([.fieldLink RX12 169 "CodeLifterModel" "thrown" "I", .fieldLink RX12 292 "CodeLifterModel" "isThere" "Z", .constant RX12 614 (-1000000)] ++ wsX120)
theorem ui_X12_edge_X12 : ∀ w ∈ wsX120, w ∈ us_X12_edge := fun _ h => List.mem_cons_of_mem _ (List.mem_append_right _ h)
set_option maxHeartbeats 8000000 in
set_option maxRecDepth 100000 in
/-- the reference's edge on a new object -/
theorem c_X12_edge (l : Launch) (dC : Nat → ClassId) (dI : Nat → Nat → Nat) (sz : Nat) (h0 : Nat) (g : Nat → Nat) (p0 : Int32) (p1 : Int32) : Met l yX12_edge us_X12_edge ({ frames := 1, cells := 0, slots := 0, locals := 25 }) (va_Pc [.ref h0, .int p0, .int p1] (fun U => U.heap.size = sz ∧ va_P (dC, dI) vwCl [(h0, .inr (12, mF g 0 0 0 0 0))] U.heap ∧ va_K (dC, dI) vwCl [] U ∧ va_D (fun _ => True) [(h0, .inr (12, mF g 0 0 0 0 0))])) (va_Qi (fun (r : Int32) (u : Unit) => r = (-1000000)) (fun (u : Unit) (t : State) => True) (va_A [(h0, .inr (12, mF g 0 0 0 0 0))] sz)) 0 0 (va_A [(h0, .inr (12, mF g 0 0 0 0 0))] sz) := by
  refine Met.ofW (cc := cX12_edge) (maxL := 3) (ret := (some .int)) (by decide) rfl ?_
  intro p e s m args below meth c s₁ B hml hv
  obtain ⟨rfl, hsz, hP, hK, hD0⟩ := hv
  have hx := B.exec
  have hb := B.bytes
  have hr := B.returns
  have hts := atoms_spec (ws := us_X12_edge) B.pre
  have hown : s.vm.findClass RX12 = some m.cls := findClass_of_methodNamed B.named
  have hlocks := B.notSynchronized
  subst hsz
  have hD := hD0.self (sz := s.heap.size)
  generalize hAe : va_A [(h0, .inr (12, mF g 0 0 0 0 0))] s.heap.size = A at hD ⊢
  have hA : ∀ q : Nat, s.heap.size ≤ q → A q := fun q h => by rw [← hAe]; exact Or.inr h
  have hS : va_S A s.heap s.heap [] := va_S.rf
  have hP : va_P (dC, dI) vwCl [(h0, .inr (12, mF g 0 0 0 0 0))] s.heap := hP
  have hl := lv_entry ([.ref h0, .int p0, .int p1]) (n := 3) (Nat.le_of_ble_eq_true rfl)
  rw [lg_entry_eq]
  generalize (lg_sl ([.ref h0, .int p0, .int p1]) ++ List.replicate (3 - (lg_sl ([.ref h0, .int p0, .int p1])).length) Slot.unset).toArray = ls at hl ⊢
  have hl : lv_has ls 3 [(0, .ref h0), (1, .int p0), (2, .int p1)] := hl
  refine lv_aload_n hx hb dX12_edge_0 rfl (lv_at hl 0 rfl) ?_
  refine lv_iconst (v := 0) hx hb dX12_edge_1 (by decide) ?_
  refine va_put (D := (dC, dI)) (ci := 12) (v := .int 0) (ty := .int) (C := RX12) (T := TX12) (N := 87) hx hb hts ui_X12_edge_X12 tyX12 tyX12_ok nmX12 hown hK hP hD hS 0 rfl rfl 0 (by decide) (hts (.fieldLink RX12 169 "CodeLifterModel" "thrown" "I") (by decide +kernel)) (fun _ h9 => h9) rfl (by decide +kernel) rfl rfl (Nat.le_of_ble_eq_true rfl) dX12_edge_2 (fun H locs hP hD hS => ?_)
  have hP : va_P (dC, dI) vwCl [(h0, .inr (12, mF g 0 0 0 0 0))] H := hP
  have hD : va_D A [(h0, .inr (12, mF g 0 0 0 0 0))] := hD
  refine lv_aload_n hx hb dX12_edge_5 rfl (lv_at hl 0 rfl) ?_
  refine va_get (D := (dC, dI)) (ci := 12) (v := .int 0) (C := RX12) (T := TX12) (N := 87) hx hb hts ui_X12_edge_X12 hown hK hP 0 rfl rfl 21 (by decide) (hts (.fieldLink RX12 292 "CodeLifterModel" "isThere" "Z") (by decide +kernel)) (fun _ h9 => h9) rfl dX12_edge_6 ?_
  refine lv_if_eq (tgt := 40) hx hb dX12_edge_9 (by decide) (fun c_1 => ?_) (fun c_1 => absurd (by decide) c_1)
  refine lv_ldcw hx hb hown (hts (.constant RX12 614 (-1000000)) (by decide +kernel)) dX12_edge_40 ?_
  refine W.widen (k := 0) (n := 0) (Nat.le_of_ble_eq_true rfl) (Nat.le_of_ble_eq_true rfl) ?_
  exact W.iret (v := (-1000000)) hx hb hr (fun t ht hW => ⟨⟨(-1000000), (), rfl, rfl, trivial⟩, hS.F ht⟩) hS.2.2 dX12_edge_43

def us_X12_dominates : List Cond := .code yX12_dominates cX12_dominates 3 (some .boolean) :: (([.fieldLink RX12 169 "CodeLifterModel" "thrown" "I", .methodLink RX12 615 yX12_isBlock, .instanceMethod yX12_isBlock, .selects RX12 yX12_isBlock yX12_isBlock, .initialized RX12] ++ wsX120) ++ us_X12_isBlock)
theorem ui_X12_dominates_X12 : ∀ w ∈ wsX120, w ∈ us_X12_dominates := fun _ h => List.mem_cons_of_mem _ (List.mem_append_left _ (List.mem_append_right _ h))
set_option maxRecDepth 20000 in
theorem ugg_X12_dominates_X12_isBlock : GoodIn us_X12_dominates us_X12_isBlock := goodIn_sub (fun _ h => List.mem_cons_of_mem _ (List.mem_append_right _ h)) (by decide +kernel)
set_option maxRecDepth 20000 in
theorem ug_X12_dominates_X12_isBlock : GoodIn us_X12_dominates (wsV RX12 615 RX12 yX12_isBlock us_X12_isBlock) := goodIn_app (goodIn_of _ (by decide +kernel)) ugg_X12_dominates_X12_isBlock
set_option maxHeartbeats 8000000 in
set_option maxRecDepth 100000 in
/-- the reference's dominates on a new object -/
theorem c_X12_dominates (l : Launch) (dC : Nat → ClassId) (dI : Nat → Nat → Nat) (sz : Nat) (h0 : Nat) (g : Nat → Nat) (p0 : Int32) (p1 : Int32) : Met l yX12_dominates us_X12_dominates ({ frames := 1, cells := 0, slots := 0, locals := 21 }) (va_Pc [.ref h0, .int p0, .int p1] (fun U => U.heap.size = sz ∧ va_P (dC, dI) vwCl [(h0, .inr (12, mF g 0 0 0 0 0))] U.heap ∧ va_K (dC, dI) vwCl [] U ∧ va_D (fun _ => True) [(h0, .inr (12, mF g 0 0 0 0 0))])) (va_Qi (fun (r : Int32) (u : Unit) => r = 0) (fun (u : Unit) (t : State) => True) (va_A [(h0, .inr (12, mF g 0 0 0 0 0))] sz)) 0 0 (va_A [(h0, .inr (12, mF g 0 0 0 0 0))] sz) := by
  refine Met.ofW (cc := cX12_dominates) (maxL := 3) (ret := (some .boolean)) (by decide) rfl ?_
  intro p e s m args below meth c s₁ B hml hv
  obtain ⟨rfl, hsz, hP, hK, hD0⟩ := hv
  have hx := B.exec
  have hb := B.bytes
  have hr := B.returns
  have hts := atoms_spec (ws := us_X12_dominates) B.pre
  have hown : s.vm.findClass RX12 = some m.cls := findClass_of_methodNamed B.named
  have hlocks := B.notSynchronized
  subst hsz
  have hD := hD0.self (sz := s.heap.size)
  generalize hAe : va_A [(h0, .inr (12, mF g 0 0 0 0 0))] s.heap.size = A at hD ⊢
  have hA : ∀ q : Nat, s.heap.size ≤ q → A q := fun q h => by rw [← hAe]; exact Or.inr h
  have hS : va_S A s.heap s.heap [] := va_S.rf
  have hP : va_P (dC, dI) vwCl [(h0, .inr (12, mF g 0 0 0 0 0))] s.heap := hP
  have hl := lv_entry ([.ref h0, .int p0, .int p1]) (n := 3) (Nat.le_of_ble_eq_true rfl)
  rw [lg_entry_eq]
  generalize (lg_sl ([.ref h0, .int p0, .int p1]) ++ List.replicate (3 - (lg_sl ([.ref h0, .int p0, .int p1])).length) Slot.unset).toArray = ls at hl ⊢
  have hl : lv_has ls 3 [(0, .ref h0), (1, .int p0), (2, .int p1)] := hl
  refine lv_aload_n hx hb dX12_dominates_0 rfl (lv_at hl 0 rfl) ?_
  refine lv_iconst (v := 0) hx hb dX12_dominates_1 (by decide) ?_
  refine va_put (D := (dC, dI)) (ci := 12) (v := .int 0) (ty := .int) (C := RX12) (T := TX12) (N := 87) hx hb hts ui_X12_dominates_X12 tyX12 tyX12_ok nmX12 hown hK hP hD hS 0 rfl rfl 0 (by decide) (hts (.fieldLink RX12 169 "CodeLifterModel" "thrown" "I") (by decide +kernel)) (fun _ h9 => h9) rfl (by decide +kernel) rfl rfl (Nat.le_of_ble_eq_true rfl) dX12_dominates_2 (fun H locs hP hD hS => ?_)
  have hP : va_P (dC, dI) vwCl [(h0, .inr (12, mF g 0 0 0 0 0))] H := hP
  have hD : va_D A [(h0, .inr (12, mF g 0 0 0 0 0))] := hD
  refine lv_aload_n hx hb dX12_dominates_5 rfl (lv_at hl 0 rfl) ?_
  refine lv_iload_n hx hb dX12_dominates_6 rfl (lv_at hl 1 rfl) ?_
  have hPc := hP.sub (ws' := [(h0, .inr (12, mF g 0 0 0 0 0))]) [0] rfl
  have hDc := hD.sub (ws' := [(h0, .inr (12, mF g 0 0 0 0 0))]) [0] (by decide) rfl
  have hKc := hK.sub (tys' := []) [] rfl
  have hFc := va_free (wc := [(h0, .inr (12, mF g 0 0 0 0 0))]) hD hS hA [0] rfl
  refine va_calli (va_runV (As := [.int p0]) (rest := []) ⟨hx, hb, hml, hown, hts⟩ (c_X12_isBlock l dC dI H.size h0 g p0) (cwV 1 hts ug_X12_dominates_X12_isBlock rfl rfl rfl (by decide +kernel) ⟨Nat.le_of_ble_eq_true rfl, Nat.le_of_ble_eq_true rfl⟩) ⟨fun a U g mk q => by obtain ⟨q0, q1, qP, qK, qD⟩ := q; exact ⟨q0, q1, qP, va_K.moved (u := U) (U := U.calling g mk a) (Vm.Alike.refl U.vm) qK, qD⟩, va_recv hKc hPc (ci := 12) (q0 := 0) rfl rfl, fun U hU hW => ⟨rfl, by rw [hU], by rw [hU]; exact hPc, va_K.moved hW.alike hKc, hDc.weaken (fun _ _ _ _ => trivial)⟩⟩ rfl rfl hl.1 rfl (lv_room (Nat.le_of_ble_eq_true rfl)) dX12_dominates_7 ⟨Nat.le_of_ble_eq_true rfl, Nat.le_of_ble_eq_true rfl⟩) hS (fun q _ h => hFc q h) hFc (fun r_1 u t H locs ht hvm hw hB hz1 hk1 hS => ?_)
  obtain ⟨hP1, hD1⟩ := hB
  rw [ht] at hP1
  obtain ⟨hP, hD⟩ := va_join (wr := []) (w1 := [(h0, .inr (12, mF g 0 0 0 0 0))]) hP hD [0] [] rfl rfl (by decide) (by decide) hk1 hFc hP1 hD1
  clear hPc hDc hFc hk1 hz1
  have hP : va_P (dC, dI) vwCl [(h0, .inr (12, mF g 0 0 0 0 0))] H := hP
  have hD : va_D A [(h0, .inr (12, mF g 0 0 0 0 0))] := hD
  obtain rfl := hw
  refine lv_if_eq (tgt := 38) hx hb dX12_dominates_10 (by decide) (fun c_2 => ?_) (fun c_2 => absurd (by decide) c_2)
  refine lv_iconst (v := 0) hx hb dX12_dominates_38 (by decide) ?_
  refine W.widen (k := 0) (n := 0) (Nat.le_of_ble_eq_true rfl) (Nat.le_of_ble_eq_true rfl) ?_
  exact W.zret (v := 0) hx hb hr rfl (fun t ht hW => ⟨⟨0, (), rfl, rfl, trivial⟩, hS.F ht⟩) hS.2.2 dX12_dominates_39

def us_X12_loop : List Cond := .code yX12_loop cX12_loop 2 (some .long) :: (([.fieldLink RX12 169 "CodeLifterModel" "thrown" "I", .methodLink RX12 615 yX12_isBlock, .instanceMethod yX12_isBlock, .selects RX12 yX12_isBlock yX12_isBlock, .initialized RX12, .constantLong RX12 652 (-1)] ++ wsX120) ++ us_X12_isBlock)
theorem ui_X12_loop_X12 : ∀ w ∈ wsX120, w ∈ us_X12_loop := fun _ h => List.mem_cons_of_mem _ (List.mem_append_left _ (List.mem_append_right _ h))
set_option maxRecDepth 20000 in
theorem ugg_X12_loop_X12_isBlock : GoodIn us_X12_loop us_X12_isBlock := goodIn_sub (fun _ h => List.mem_cons_of_mem _ (List.mem_append_right _ h)) (by decide +kernel)
set_option maxRecDepth 20000 in
theorem ug_X12_loop_X12_isBlock : GoodIn us_X12_loop (wsV RX12 615 RX12 yX12_isBlock us_X12_isBlock) := goodIn_app (goodIn_of _ (by decide +kernel)) ugg_X12_loop_X12_isBlock
set_option maxHeartbeats 8000000 in
set_option maxRecDepth 100000 in
/-- the reference's loop on a new object -/
theorem c_X12_loop (l : Launch) (dC : Nat → ClassId) (dI : Nat → Nat → Nat) (sz : Nat) (h0 : Nat) (g : Nat → Nat) (p0 : Int32) : Met l yX12_loop us_X12_loop ({ frames := 1, cells := 0, slots := 0, locals := 21 }) (va_Pc [.ref h0, .int p0] (fun U => U.heap.size = sz ∧ va_P (dC, dI) vwCl [(h0, .inr (12, mF g 0 0 0 0 0))] U.heap ∧ va_K (dC, dI) vwCl [] U ∧ va_D (fun _ => True) [(h0, .inr (12, mF g 0 0 0 0 0))])) (va_Ql (fun (r : Int64) (u : Unit) => r = (-1)) (fun (u : Unit) (t : State) => True) (va_A [(h0, .inr (12, mF g 0 0 0 0 0))] sz)) 0 0 (va_A [(h0, .inr (12, mF g 0 0 0 0 0))] sz) := by
  refine Met.ofW (cc := cX12_loop) (maxL := 2) (ret := (some .long)) (by decide) rfl ?_
  intro p e s m args below meth c s₁ B hml hv
  obtain ⟨rfl, hsz, hP, hK, hD0⟩ := hv
  have hx := B.exec
  have hb := B.bytes
  have hr := B.returns
  have hts := atoms_spec (ws := us_X12_loop) B.pre
  have hown : s.vm.findClass RX12 = some m.cls := findClass_of_methodNamed B.named
  have hlocks := B.notSynchronized
  subst hsz
  have hD := hD0.self (sz := s.heap.size)
  generalize hAe : va_A [(h0, .inr (12, mF g 0 0 0 0 0))] s.heap.size = A at hD ⊢
  have hA : ∀ q : Nat, s.heap.size ≤ q → A q := fun q h => by rw [← hAe]; exact Or.inr h
  have hS : va_S A s.heap s.heap [] := va_S.rf
  have hP : va_P (dC, dI) vwCl [(h0, .inr (12, mF g 0 0 0 0 0))] s.heap := hP
  have hl := lv_entry ([.ref h0, .int p0]) (n := 2) (Nat.le_of_ble_eq_true rfl)
  rw [lg_entry_eq]
  generalize (lg_sl ([.ref h0, .int p0]) ++ List.replicate (2 - (lg_sl ([.ref h0, .int p0])).length) Slot.unset).toArray = ls at hl ⊢
  have hl : lv_has ls 2 [(0, .ref h0), (1, .int p0)] := hl
  refine lv_aload_n hx hb dX12_loop_0 rfl (lv_at hl 0 rfl) ?_
  refine lv_iconst (v := 0) hx hb dX12_loop_1 (by decide) ?_
  refine va_put (D := (dC, dI)) (ci := 12) (v := .int 0) (ty := .int) (C := RX12) (T := TX12) (N := 87) hx hb hts ui_X12_loop_X12 tyX12 tyX12_ok nmX12 hown hK hP hD hS 0 rfl rfl 0 (by decide) (hts (.fieldLink RX12 169 "CodeLifterModel" "thrown" "I") (by decide +kernel)) (fun _ h9 => h9) rfl (by decide +kernel) rfl rfl (Nat.le_of_ble_eq_true rfl) dX12_loop_2 (fun H locs hP hD hS => ?_)
  have hP : va_P (dC, dI) vwCl [(h0, .inr (12, mF g 0 0 0 0 0))] H := hP
  have hD : va_D A [(h0, .inr (12, mF g 0 0 0 0 0))] := hD
  refine lv_aload_n hx hb dX12_loop_5 rfl (lv_at hl 0 rfl) ?_
  refine lv_iload_n hx hb dX12_loop_6 rfl (lv_at hl 1 rfl) ?_
  have hPc := hP.sub (ws' := [(h0, .inr (12, mF g 0 0 0 0 0))]) [0] rfl
  have hDc := hD.sub (ws' := [(h0, .inr (12, mF g 0 0 0 0 0))]) [0] (by decide) rfl
  have hKc := hK.sub (tys' := []) [] rfl
  have hFc := va_free (wc := [(h0, .inr (12, mF g 0 0 0 0 0))]) hD hS hA [0] rfl
  refine va_calli (va_runV (As := [.int p0]) (rest := []) ⟨hx, hb, hml, hown, hts⟩ (c_X12_isBlock l dC dI H.size h0 g p0) (cwV 1 hts ug_X12_loop_X12_isBlock rfl rfl rfl (by decide +kernel) ⟨Nat.le_of_ble_eq_true rfl, Nat.le_of_ble_eq_true rfl⟩) ⟨fun a U g mk q => by obtain ⟨q0, q1, qP, qK, qD⟩ := q; exact ⟨q0, q1, qP, va_K.moved (u := U) (U := U.calling g mk a) (Vm.Alike.refl U.vm) qK, qD⟩, va_recv hKc hPc (ci := 12) (q0 := 0) rfl rfl, fun U hU hW => ⟨rfl, by rw [hU], by rw [hU]; exact hPc, va_K.moved hW.alike hKc, hDc.weaken (fun _ _ _ _ => trivial)⟩⟩ rfl rfl hl.1 rfl (lv_room (Nat.le_of_ble_eq_true rfl)) dX12_loop_7 ⟨Nat.le_of_ble_eq_true rfl, Nat.le_of_ble_eq_true rfl⟩) hS (fun q _ h => hFc q h) hFc (fun r_1 u t H locs ht hvm hw hB hz1 hk1 hS => ?_)
  obtain ⟨hP1, hD1⟩ := hB
  rw [ht] at hP1
  obtain ⟨hP, hD⟩ := va_join (wr := []) (w1 := [(h0, .inr (12, mF g 0 0 0 0 0))]) hP hD [0] [] rfl rfl (by decide) (by decide) hk1 hFc hP1 hD1
  clear hPc hDc hFc hk1 hz1
  have hP : va_P (dC, dI) vwCl [(h0, .inr (12, mF g 0 0 0 0 0))] H := hP
  have hD : va_D A [(h0, .inr (12, mF g 0 0 0 0 0))] := hD
  obtain rfl := hw
  refine lv_if_eq (tgt := 33) hx hb dX12_loop_10 (by decide) (fun c_2 => ?_) (fun c_2 => absurd (by decide) c_2)
  refine lv_ldc2 hx hb hown (hts (.constantLong RX12 652 (-1)) (by decide +kernel)) dX12_loop_33 ?_
  refine W.widen (k := 0) (n := 0) (Nat.le_of_ble_eq_true rfl) (Nat.le_of_ble_eq_true rfl) ?_
  exact W.lret (v := (-1)) hx hb hr (fun t ht hW => ⟨⟨(-1), (), rfl, rfl, trivial⟩, hS.F ht⟩) hS.2.2 dX12_loop_36

def us_X12_statement : List Cond := .code yX12_statement cX12_statement 6 (some .int) :: (([.fieldLink RX12 169 "CodeLifterModel" "thrown" "I", .methodLink RX12 615 yX12_isBlock, .instanceMethod yX12_isBlock, .selects RX12 yX12_isBlock yX12_isBlock, .initialized RX12, .constant RX12 614 (-1000000)] ++ wsX120) ++ us_X12_isBlock)
theorem ui_X12_statement_X12 : ∀ w ∈ wsX120, w ∈ us_X12_statement := fun _ h => List.mem_cons_of_mem _ (List.mem_append_left _ (List.mem_append_right _ h))
set_option maxRecDepth 20000 in
theorem ugg_X12_statement_X12_isBlock : GoodIn us_X12_statement us_X12_isBlock := goodIn_sub (fun _ h => List.mem_cons_of_mem _ (List.mem_append_right _ h)) (by decide +kernel)
set_option maxRecDepth 20000 in
theorem ug_X12_statement_X12_isBlock : GoodIn us_X12_statement (wsV RX12 615 RX12 yX12_isBlock us_X12_isBlock) := goodIn_app (goodIn_of _ (by decide +kernel)) ugg_X12_statement_X12_isBlock
set_option maxHeartbeats 8000000 in
set_option maxRecDepth 100000 in
/-- the reference's statement on a new object -/
theorem c_X12_statement (l : Launch) (dC : Nat → ClassId) (dI : Nat → Nat → Nat) (sz : Nat) (h0 : Nat) (g : Nat → Nat) (p0 : Int32) (p1 : Int32) (p2 : Int32) : Met l yX12_statement us_X12_statement ({ frames := 1, cells := 0, slots := 0, locals := 25 }) (va_Pc [.ref h0, .int p0, .int p1, .int p2] (fun U => U.heap.size = sz ∧ va_P (dC, dI) vwCl [(h0, .inr (12, mF g 0 0 0 0 0))] U.heap ∧ va_K (dC, dI) vwCl [] U ∧ va_D (fun _ => True) [(h0, .inr (12, mF g 0 0 0 0 0))])) (va_Qi (fun (r : Int32) (u : Unit) => r = (-1000000)) (fun (u : Unit) (t : State) => True) (va_A [(h0, .inr (12, mF g 0 0 0 0 0))] sz)) 0 0 (va_A [(h0, .inr (12, mF g 0 0 0 0 0))] sz) := by
  refine Met.ofW (cc := cX12_statement) (maxL := 6) (ret := (some .int)) (by decide) rfl ?_
  intro p e s m args below meth c s₁ B hml hv
  obtain ⟨rfl, hsz, hP, hK, hD0⟩ := hv
  have hx := B.exec
  have hb := B.bytes
  have hr := B.returns
  have hts := atoms_spec (ws := us_X12_statement) B.pre
  have hown : s.vm.findClass RX12 = some m.cls := findClass_of_methodNamed B.named
  have hlocks := B.notSynchronized
  subst hsz
  have hD := hD0.self (sz := s.heap.size)
  generalize hAe : va_A [(h0, .inr (12, mF g 0 0 0 0 0))] s.heap.size = A at hD ⊢
  have hA : ∀ q : Nat, s.heap.size ≤ q → A q := fun q h => by rw [← hAe]; exact Or.inr h
  have hS : va_S A s.heap s.heap [] := va_S.rf
  have hP : va_P (dC, dI) vwCl [(h0, .inr (12, mF g 0 0 0 0 0))] s.heap := hP
  have hl := lv_entry ([.ref h0, .int p0, .int p1, .int p2]) (n := 6) (Nat.le_of_ble_eq_true rfl)
  rw [lg_entry_eq]
  generalize (lg_sl ([.ref h0, .int p0, .int p1, .int p2]) ++ List.replicate (6 - (lg_sl ([.ref h0, .int p0, .int p1, .int p2])).length) Slot.unset).toArray = ls at hl ⊢
  have hl : lv_has ls 6 [(0, .ref h0), (1, .int p0), (2, .int p1), (3, .int p2)] := hl
  refine lv_aload_n hx hb dX12_statement_0 rfl (lv_at hl 0 rfl) ?_
  refine lv_iconst (v := 0) hx hb dX12_statement_1 (by decide) ?_
  refine va_put (D := (dC, dI)) (ci := 12) (v := .int 0) (ty := .int) (C := RX12) (T := TX12) (N := 87) hx hb hts ui_X12_statement_X12 tyX12 tyX12_ok nmX12 hown hK hP hD hS 0 rfl rfl 0 (by decide) (hts (.fieldLink RX12 169 "CodeLifterModel" "thrown" "I") (by decide +kernel)) (fun _ h9 => h9) rfl (by decide +kernel) rfl rfl (Nat.le_of_ble_eq_true rfl) dX12_statement_2 (fun H locs hP hD hS => ?_)
  have hP : va_P (dC, dI) vwCl [(h0, .inr (12, mF g 0 0 0 0 0))] H := hP
  have hD : va_D A [(h0, .inr (12, mF g 0 0 0 0 0))] := hD
  refine lv_aload_n hx hb dX12_statement_5 rfl (lv_at hl 0 rfl) ?_
  refine lv_iload_n hx hb dX12_statement_6 rfl (lv_at hl 1 rfl) ?_
  have hPc := hP.sub (ws' := [(h0, .inr (12, mF g 0 0 0 0 0))]) [0] rfl
  have hDc := hD.sub (ws' := [(h0, .inr (12, mF g 0 0 0 0 0))]) [0] (by decide) rfl
  have hKc := hK.sub (tys' := []) [] rfl
  have hFc := va_free (wc := [(h0, .inr (12, mF g 0 0 0 0 0))]) hD hS hA [0] rfl
  refine va_calli (va_runV (As := [.int p0]) (rest := []) ⟨hx, hb, hml, hown, hts⟩ (c_X12_isBlock l dC dI H.size h0 g p0) (cwV 1 hts ug_X12_statement_X12_isBlock rfl rfl rfl (by decide +kernel) ⟨Nat.le_of_ble_eq_true rfl, Nat.le_of_ble_eq_true rfl⟩) ⟨fun a U g mk q => by obtain ⟨q0, q1, qP, qK, qD⟩ := q; exact ⟨q0, q1, qP, va_K.moved (u := U) (U := U.calling g mk a) (Vm.Alike.refl U.vm) qK, qD⟩, va_recv hKc hPc (ci := 12) (q0 := 0) rfl rfl, fun U hU hW => ⟨rfl, by rw [hU], by rw [hU]; exact hPc, va_K.moved hW.alike hKc, hDc.weaken (fun _ _ _ _ => trivial)⟩⟩ rfl rfl hl.1 rfl (lv_room (Nat.le_of_ble_eq_true rfl)) dX12_statement_7 ⟨Nat.le_of_ble_eq_true rfl, Nat.le_of_ble_eq_true rfl⟩) hS (fun q _ h => hFc q h) hFc (fun r_1 u t H locs ht hvm hw hB hz1 hk1 hS => ?_)
  obtain ⟨hP1, hD1⟩ := hB
  rw [ht] at hP1
  obtain ⟨hP, hD⟩ := va_join (wr := []) (w1 := [(h0, .inr (12, mF g 0 0 0 0 0))]) hP hD [0] [] rfl rfl (by decide) (by decide) hk1 hFc hP1 hD1
  clear hPc hDc hFc hk1 hz1
  have hP : va_P (dC, dI) vwCl [(h0, .inr (12, mF g 0 0 0 0 0))] H := hP
  have hD : va_D A [(h0, .inr (12, mF g 0 0 0 0 0))] := hD
  obtain rfl := hw
  refine lv_if_eq (tgt := 52) hx hb dX12_statement_10 (by decide) (fun c_2 => ?_) (fun c_2 => absurd (by decide) c_2)
  refine lv_ldcw hx hb hown (hts (.constant RX12 614 (-1000000)) (by decide +kernel)) dX12_statement_52 ?_
  refine W.widen (k := 0) (n := 0) (Nat.le_of_ble_eq_true rfl) (Nat.le_of_ble_eq_true rfl) ?_
  exact W.iret (v := (-1000000)) hx hb hr (fun t ht hW => ⟨⟨(-1000000), (), rfl, rfl, trivial⟩, hS.F ht⟩) hS.2.2 dX12_statement_55

def us_X12_condition : List Cond := .code yX12_condition cX12_condition 3 (some .int) :: (([.fieldLink RX12 169 "CodeLifterModel" "thrown" "I", .methodLink RX12 615 yX12_isBlock, .instanceMethod yX12_isBlock, .selects RX12 yX12_isBlock yX12_isBlock, .initialized RX12] ++ wsX120) ++ us_X12_isBlock)
theorem ui_X12_condition_X12 : ∀ w ∈ wsX120, w ∈ us_X12_condition := fun _ h => List.mem_cons_of_mem _ (List.mem_append_left _ (List.mem_append_right _ h))
set_option maxRecDepth 20000 in
theorem ugg_X12_condition_X12_isBlock : GoodIn us_X12_condition us_X12_isBlock := goodIn_sub (fun _ h => List.mem_cons_of_mem _ (List.mem_append_right _ h)) (by decide +kernel)
set_option maxRecDepth 20000 in
theorem ug_X12_condition_X12_isBlock : GoodIn us_X12_condition (wsV RX12 615 RX12 yX12_isBlock us_X12_isBlock) := goodIn_app (goodIn_of _ (by decide +kernel)) ugg_X12_condition_X12_isBlock
set_option maxHeartbeats 8000000 in
set_option maxRecDepth 100000 in
/-- the reference's condition on a new object -/
theorem c_X12_condition (l : Launch) (dC : Nat → ClassId) (dI : Nat → Nat → Nat) (sz : Nat) (h0 : Nat) (g : Nat → Nat) (p0 : Int32) (p1 : Int32) : Met l yX12_condition us_X12_condition ({ frames := 1, cells := 0, slots := 0, locals := 21 }) (va_Pc [.ref h0, .int p0, .int p1] (fun U => U.heap.size = sz ∧ va_P (dC, dI) vwCl [(h0, .inr (12, mF g 0 0 0 0 0))] U.heap ∧ va_K (dC, dI) vwCl [] U ∧ va_D (fun _ => True) [(h0, .inr (12, mF g 0 0 0 0 0))])) (va_Qi (fun (r : Int32) (u : Unit) => r = (-1)) (fun (u : Unit) (t : State) => True) (va_A [(h0, .inr (12, mF g 0 0 0 0 0))] sz)) 0 0 (va_A [(h0, .inr (12, mF g 0 0 0 0 0))] sz) := by
  refine Met.ofW (cc := cX12_condition) (maxL := 3) (ret := (some .int)) (by decide) rfl ?_
  intro p e s m args below meth c s₁ B hml hv
  obtain ⟨rfl, hsz, hP, hK, hD0⟩ := hv
  have hx := B.exec
  have hb := B.bytes
  have hr := B.returns
  have hts := atoms_spec (ws := us_X12_condition) B.pre
  have hown : s.vm.findClass RX12 = some m.cls := findClass_of_methodNamed B.named
  have hlocks := B.notSynchronized
  subst hsz
  have hD := hD0.self (sz := s.heap.size)
  generalize hAe : va_A [(h0, .inr (12, mF g 0 0 0 0 0))] s.heap.size = A at hD ⊢
  have hA : ∀ q : Nat, s.heap.size ≤ q → A q := fun q h => by rw [← hAe]; exact Or.inr h
  have hS : va_S A s.heap s.heap [] := va_S.rf
  have hP : va_P (dC, dI) vwCl [(h0, .inr (12, mF g 0 0 0 0 0))] s.heap := hP
  have hl := lv_entry ([.ref h0, .int p0, .int p1]) (n := 3) (Nat.le_of_ble_eq_true rfl)
  rw [lg_entry_eq]
  generalize (lg_sl ([.ref h0, .int p0, .int p1]) ++ List.replicate (3 - (lg_sl ([.ref h0, .int p0, .int p1])).length) Slot.unset).toArray = ls at hl ⊢
  have hl : lv_has ls 3 [(0, .ref h0), (1, .int p0), (2, .int p1)] := hl
  refine lv_aload_n hx hb dX12_condition_0 rfl (lv_at hl 0 rfl) ?_
  refine lv_iconst (v := 0) hx hb dX12_condition_1 (by decide) ?_
  refine va_put (D := (dC, dI)) (ci := 12) (v := .int 0) (ty := .int) (C := RX12) (T := TX12) (N := 87) hx hb hts ui_X12_condition_X12 tyX12 tyX12_ok nmX12 hown hK hP hD hS 0 rfl rfl 0 (by decide) (hts (.fieldLink RX12 169 "CodeLifterModel" "thrown" "I") (by decide +kernel)) (fun _ h9 => h9) rfl (by decide +kernel) rfl rfl (Nat.le_of_ble_eq_true rfl) dX12_condition_2 (fun H locs hP hD hS => ?_)
  have hP : va_P (dC, dI) vwCl [(h0, .inr (12, mF g 0 0 0 0 0))] H := hP
  have hD : va_D A [(h0, .inr (12, mF g 0 0 0 0 0))] := hD
  refine lv_aload_n hx hb dX12_condition_5 rfl (lv_at hl 0 rfl) ?_
  refine lv_iload_n hx hb dX12_condition_6 rfl (lv_at hl 1 rfl) ?_
  have hPc := hP.sub (ws' := [(h0, .inr (12, mF g 0 0 0 0 0))]) [0] rfl
  have hDc := hD.sub (ws' := [(h0, .inr (12, mF g 0 0 0 0 0))]) [0] (by decide) rfl
  have hKc := hK.sub (tys' := []) [] rfl
  have hFc := va_free (wc := [(h0, .inr (12, mF g 0 0 0 0 0))]) hD hS hA [0] rfl
  refine va_calli (va_runV (As := [.int p0]) (rest := []) ⟨hx, hb, hml, hown, hts⟩ (c_X12_isBlock l dC dI H.size h0 g p0) (cwV 1 hts ug_X12_condition_X12_isBlock rfl rfl rfl (by decide +kernel) ⟨Nat.le_of_ble_eq_true rfl, Nat.le_of_ble_eq_true rfl⟩) ⟨fun a U g mk q => by obtain ⟨q0, q1, qP, qK, qD⟩ := q; exact ⟨q0, q1, qP, va_K.moved (u := U) (U := U.calling g mk a) (Vm.Alike.refl U.vm) qK, qD⟩, va_recv hKc hPc (ci := 12) (q0 := 0) rfl rfl, fun U hU hW => ⟨rfl, by rw [hU], by rw [hU]; exact hPc, va_K.moved hW.alike hKc, hDc.weaken (fun _ _ _ _ => trivial)⟩⟩ rfl rfl hl.1 rfl (lv_room (Nat.le_of_ble_eq_true rfl)) dX12_condition_7 ⟨Nat.le_of_ble_eq_true rfl, Nat.le_of_ble_eq_true rfl⟩) hS (fun q _ h => hFc q h) hFc (fun r_1 u t H locs ht hvm hw hB hz1 hk1 hS => ?_)
  obtain ⟨hP1, hD1⟩ := hB
  rw [ht] at hP1
  obtain ⟨hP, hD⟩ := va_join (wr := []) (w1 := [(h0, .inr (12, mF g 0 0 0 0 0))]) hP hD [0] [] rfl rfl (by decide) (by decide) hk1 hFc hP1 hD1
  clear hPc hDc hFc hk1 hz1
  have hP : va_P (dC, dI) vwCl [(h0, .inr (12, mF g 0 0 0 0 0))] H := hP
  have hD : va_D A [(h0, .inr (12, mF g 0 0 0 0 0))] := hD
  obtain rfl := hw
  refine lv_if_eq (tgt := 23) hx hb dX12_condition_10 (by decide) (fun c_2 => ?_) (fun c_2 => absurd (by decide) c_2)
  refine lv_iconst (v := (-1)) hx hb dX12_condition_23 (by decide) ?_
  refine W.widen (k := 0) (n := 0) (Nat.le_of_ble_eq_true rfl) (Nat.le_of_ble_eq_true rfl) ?_
  exact W.iret (v := (-1)) hx hb hr (fun t ht hW => ⟨⟨(-1), (), rfl, rfl, trivial⟩, hS.F ht⟩) hS.2.2 dX12_condition_24

def us_X12_line_ : List Cond := .code yX12_line_ cX12_line_ 3 (some .int) :: (([.fieldLink RX12 169 "CodeLifterModel" "thrown" "I", .methodLink RX12 603 yX12_isLine, .instanceMethod yX12_isLine, .selects RX12 yX12_isLine yX12_isLine, .initialized RX12, .constant RX12 614 (-1000000)] ++ wsX120) ++ us_X12_isLine)
theorem ui_X12_line__X12 : ∀ w ∈ wsX120, w ∈ us_X12_line_ := fun _ h => List.mem_cons_of_mem _ (List.mem_append_left _ (List.mem_append_right _ h))
set_option maxRecDepth 20000 in
theorem ugg_X12_line__X12_isLine : GoodIn us_X12_line_ us_X12_isLine := goodIn_sub (fun _ h => List.mem_cons_of_mem _ (List.mem_append_right _ h)) (by decide +kernel)
set_option maxRecDepth 20000 in
theorem ug_X12_line__X12_isLine : GoodIn us_X12_line_ (wsV RX12 603 RX12 yX12_isLine us_X12_isLine) := goodIn_app (goodIn_of _ (by decide +kernel)) ugg_X12_line__X12_isLine
set_option maxHeartbeats 8000000 in
set_option maxRecDepth 100000 in
/-- the reference's line_ on a new object -/
theorem c_X12_line_ (l : Launch) (dC : Nat → ClassId) (dI : Nat → Nat → Nat) (sz : Nat) (h0 : Nat) (g : Nat → Nat) (p0 : Int32) (p1 : Int32) : Met l yX12_line_ us_X12_line_ ({ frames := 1, cells := 0, slots := 0, locals := 25 }) (va_Pc [.ref h0, .int p0, .int p1] (fun U => U.heap.size = sz ∧ va_P (dC, dI) vwCl [(h0, .inr (12, mF g 0 0 0 0 0))] U.heap ∧ va_K (dC, dI) vwCl [] U ∧ va_D (fun _ => True) [(h0, .inr (12, mF g 0 0 0 0 0))])) (va_Qi (fun (r : Int32) (u : Unit) => r = (-1000000)) (fun (u : Unit) (t : State) => True) (va_A [(h0, .inr (12, mF g 0 0 0 0 0))] sz)) 0 0 (va_A [(h0, .inr (12, mF g 0 0 0 0 0))] sz) := by
  refine Met.ofW (cc := cX12_line_) (maxL := 3) (ret := (some .int)) (by decide) rfl ?_
  intro p e s m args below meth c s₁ B hml hv
  obtain ⟨rfl, hsz, hP, hK, hD0⟩ := hv
  have hx := B.exec
  have hb := B.bytes
  have hr := B.returns
  have hts := atoms_spec (ws := us_X12_line_) B.pre
  have hown : s.vm.findClass RX12 = some m.cls := findClass_of_methodNamed B.named
  have hlocks := B.notSynchronized
  subst hsz
  have hD := hD0.self (sz := s.heap.size)
  generalize hAe : va_A [(h0, .inr (12, mF g 0 0 0 0 0))] s.heap.size = A at hD ⊢
  have hA : ∀ q : Nat, s.heap.size ≤ q → A q := fun q h => by rw [← hAe]; exact Or.inr h
  have hS : va_S A s.heap s.heap [] := va_S.rf
  have hP : va_P (dC, dI) vwCl [(h0, .inr (12, mF g 0 0 0 0 0))] s.heap := hP
  have hl := lv_entry ([.ref h0, .int p0, .int p1]) (n := 3) (Nat.le_of_ble_eq_true rfl)
  rw [lg_entry_eq]
  generalize (lg_sl ([.ref h0, .int p0, .int p1]) ++ List.replicate (3 - (lg_sl ([.ref h0, .int p0, .int p1])).length) Slot.unset).toArray = ls at hl ⊢
  have hl : lv_has ls 3 [(0, .ref h0), (1, .int p0), (2, .int p1)] := hl
  refine lv_aload_n hx hb dX12_line__0 rfl (lv_at hl 0 rfl) ?_
  refine lv_iconst (v := 0) hx hb dX12_line__1 (by decide) ?_
  refine va_put (D := (dC, dI)) (ci := 12) (v := .int 0) (ty := .int) (C := RX12) (T := TX12) (N := 87) hx hb hts ui_X12_line__X12 tyX12 tyX12_ok nmX12 hown hK hP hD hS 0 rfl rfl 0 (by decide) (hts (.fieldLink RX12 169 "CodeLifterModel" "thrown" "I") (by decide +kernel)) (fun _ h9 => h9) rfl (by decide +kernel) rfl rfl (Nat.le_of_ble_eq_true rfl) dX12_line__2 (fun H locs hP hD hS => ?_)
  have hP : va_P (dC, dI) vwCl [(h0, .inr (12, mF g 0 0 0 0 0))] H := hP
  have hD : va_D A [(h0, .inr (12, mF g 0 0 0 0 0))] := hD
  refine lv_aload_n hx hb dX12_line__5 rfl (lv_at hl 0 rfl) ?_
  refine lv_iload_n hx hb dX12_line__6 rfl (lv_at hl 1 rfl) ?_
  have hPc := hP.sub (ws' := [(h0, .inr (12, mF g 0 0 0 0 0))]) [0] rfl
  have hDc := hD.sub (ws' := [(h0, .inr (12, mF g 0 0 0 0 0))]) [0] (by decide) rfl
  have hKc := hK.sub (tys' := []) [] rfl
  have hFc := va_free (wc := [(h0, .inr (12, mF g 0 0 0 0 0))]) hD hS hA [0] rfl
  refine va_calli (va_runV (As := [.int p0]) (rest := []) ⟨hx, hb, hml, hown, hts⟩ (c_X12_isLine l dC dI H.size h0 g p0) (cwV 1 hts ug_X12_line__X12_isLine rfl rfl rfl (by decide +kernel) ⟨Nat.le_of_ble_eq_true rfl, Nat.le_of_ble_eq_true rfl⟩) ⟨fun a U g mk q => by obtain ⟨q0, q1, qP, qK, qD⟩ := q; exact ⟨q0, q1, qP, va_K.moved (u := U) (U := U.calling g mk a) (Vm.Alike.refl U.vm) qK, qD⟩, va_recv hKc hPc (ci := 12) (q0 := 0) rfl rfl, fun U hU hW => ⟨rfl, by rw [hU], by rw [hU]; exact hPc, va_K.moved hW.alike hKc, hDc.weaken (fun _ _ _ _ => trivial)⟩⟩ rfl rfl hl.1 rfl (lv_room (Nat.le_of_ble_eq_true rfl)) dX12_line__7 ⟨Nat.le_of_ble_eq_true rfl, Nat.le_of_ble_eq_true rfl⟩) hS (fun q _ h => hFc q h) hFc (fun r_1 u t H locs ht hvm hw hB hz1 hk1 hS => ?_)
  obtain ⟨hP1, hD1⟩ := hB
  rw [ht] at hP1
  obtain ⟨hP, hD⟩ := va_join (wr := []) (w1 := [(h0, .inr (12, mF g 0 0 0 0 0))]) hP hD [0] [] rfl rfl (by decide) (by decide) hk1 hFc hP1 hD1
  clear hPc hDc hFc hk1 hz1
  have hP : va_P (dC, dI) vwCl [(h0, .inr (12, mF g 0 0 0 0 0))] H := hP
  have hD : va_D A [(h0, .inr (12, mF g 0 0 0 0 0))] := hD
  obtain rfl := hw
  refine lv_if_eq (tgt := 25) hx hb dX12_line__10 (by decide) (fun c_2 => ?_) (fun c_2 => absurd (by decide) c_2)
  refine lv_ldcw hx hb hown (hts (.constant RX12 614 (-1000000)) (by decide +kernel)) dX12_line__25 ?_
  refine W.widen (k := 0) (n := 0) (Nat.le_of_ble_eq_true rfl) (Nat.le_of_ble_eq_true rfl) ?_
  exact W.iret (v := (-1000000)) hx hb hr (fun t ht hW => ⟨⟨(-1000000), (), rfl, rfl, trivial⟩, hS.F ht⟩) hS.2.2 dX12_line__28

def us_X12_spell : List Cond := .code yX12_spell cX12_spell 3 (some .int) :: (([.fieldLink RX12 169 "CodeLifterModel" "thrown" "I", .methodLink RX12 603 yX12_isLine, .instanceMethod yX12_isLine, .selects RX12 yX12_isLine yX12_isLine, .initialized RX12] ++ wsX120) ++ us_X12_isLine)
theorem ui_X12_spell_X12 : ∀ w ∈ wsX120, w ∈ us_X12_spell := fun _ h => List.mem_cons_of_mem _ (List.mem_append_left _ (List.mem_append_right _ h))
set_option maxRecDepth 20000 in
theorem ugg_X12_spell_X12_isLine : GoodIn us_X12_spell us_X12_isLine := goodIn_sub (fun _ h => List.mem_cons_of_mem _ (List.mem_append_right _ h)) (by decide +kernel)
set_option maxRecDepth 20000 in
theorem ug_X12_spell_X12_isLine : GoodIn us_X12_spell (wsV RX12 603 RX12 yX12_isLine us_X12_isLine) := goodIn_app (goodIn_of _ (by decide +kernel)) ugg_X12_spell_X12_isLine
set_option maxHeartbeats 8000000 in
set_option maxRecDepth 100000 in
/-- the reference's spell on a new object -/
theorem c_X12_spell (l : Launch) (dC : Nat → ClassId) (dI : Nat → Nat → Nat) (sz : Nat) (h0 : Nat) (g : Nat → Nat) (p0 : Int32) (p1 : Int32) : Met l yX12_spell us_X12_spell ({ frames := 1, cells := 0, slots := 0, locals := 21 }) (va_Pc [.ref h0, .int p0, .int p1] (fun U => U.heap.size = sz ∧ va_P (dC, dI) vwCl [(h0, .inr (12, mF g 0 0 0 0 0))] U.heap ∧ va_K (dC, dI) vwCl [] U ∧ va_D (fun _ => True) [(h0, .inr (12, mF g 0 0 0 0 0))])) (va_Qi (fun (r : Int32) (u : Unit) => r = (-1)) (fun (u : Unit) (t : State) => True) (va_A [(h0, .inr (12, mF g 0 0 0 0 0))] sz)) 0 0 (va_A [(h0, .inr (12, mF g 0 0 0 0 0))] sz) := by
  refine Met.ofW (cc := cX12_spell) (maxL := 3) (ret := (some .int)) (by decide) rfl ?_
  intro p e s m args below meth c s₁ B hml hv
  obtain ⟨rfl, hsz, hP, hK, hD0⟩ := hv
  have hx := B.exec
  have hb := B.bytes
  have hr := B.returns
  have hts := atoms_spec (ws := us_X12_spell) B.pre
  have hown : s.vm.findClass RX12 = some m.cls := findClass_of_methodNamed B.named
  have hlocks := B.notSynchronized
  subst hsz
  have hD := hD0.self (sz := s.heap.size)
  generalize hAe : va_A [(h0, .inr (12, mF g 0 0 0 0 0))] s.heap.size = A at hD ⊢
  have hA : ∀ q : Nat, s.heap.size ≤ q → A q := fun q h => by rw [← hAe]; exact Or.inr h
  have hS : va_S A s.heap s.heap [] := va_S.rf
  have hP : va_P (dC, dI) vwCl [(h0, .inr (12, mF g 0 0 0 0 0))] s.heap := hP
  have hl := lv_entry ([.ref h0, .int p0, .int p1]) (n := 3) (Nat.le_of_ble_eq_true rfl)
  rw [lg_entry_eq]
  generalize (lg_sl ([.ref h0, .int p0, .int p1]) ++ List.replicate (3 - (lg_sl ([.ref h0, .int p0, .int p1])).length) Slot.unset).toArray = ls at hl ⊢
  have hl : lv_has ls 3 [(0, .ref h0), (1, .int p0), (2, .int p1)] := hl
  refine lv_aload_n hx hb dX12_spell_0 rfl (lv_at hl 0 rfl) ?_
  refine lv_iconst (v := 0) hx hb dX12_spell_1 (by decide) ?_
  refine va_put (D := (dC, dI)) (ci := 12) (v := .int 0) (ty := .int) (C := RX12) (T := TX12) (N := 87) hx hb hts ui_X12_spell_X12 tyX12 tyX12_ok nmX12 hown hK hP hD hS 0 rfl rfl 0 (by decide) (hts (.fieldLink RX12 169 "CodeLifterModel" "thrown" "I") (by decide +kernel)) (fun _ h9 => h9) rfl (by decide +kernel) rfl rfl (Nat.le_of_ble_eq_true rfl) dX12_spell_2 (fun H locs hP hD hS => ?_)
  have hP : va_P (dC, dI) vwCl [(h0, .inr (12, mF g 0 0 0 0 0))] H := hP
  have hD : va_D A [(h0, .inr (12, mF g 0 0 0 0 0))] := hD
  refine lv_aload_n hx hb dX12_spell_5 rfl (lv_at hl 0 rfl) ?_
  refine lv_iload_n hx hb dX12_spell_6 rfl (lv_at hl 1 rfl) ?_
  have hPc := hP.sub (ws' := [(h0, .inr (12, mF g 0 0 0 0 0))]) [0] rfl
  have hDc := hD.sub (ws' := [(h0, .inr (12, mF g 0 0 0 0 0))]) [0] (by decide) rfl
  have hKc := hK.sub (tys' := []) [] rfl
  have hFc := va_free (wc := [(h0, .inr (12, mF g 0 0 0 0 0))]) hD hS hA [0] rfl
  refine va_calli (va_runV (As := [.int p0]) (rest := []) ⟨hx, hb, hml, hown, hts⟩ (c_X12_isLine l dC dI H.size h0 g p0) (cwV 1 hts ug_X12_spell_X12_isLine rfl rfl rfl (by decide +kernel) ⟨Nat.le_of_ble_eq_true rfl, Nat.le_of_ble_eq_true rfl⟩) ⟨fun a U g mk q => by obtain ⟨q0, q1, qP, qK, qD⟩ := q; exact ⟨q0, q1, qP, va_K.moved (u := U) (U := U.calling g mk a) (Vm.Alike.refl U.vm) qK, qD⟩, va_recv hKc hPc (ci := 12) (q0 := 0) rfl rfl, fun U hU hW => ⟨rfl, by rw [hU], by rw [hU]; exact hPc, va_K.moved hW.alike hKc, hDc.weaken (fun _ _ _ _ => trivial)⟩⟩ rfl rfl hl.1 rfl (lv_room (Nat.le_of_ble_eq_true rfl)) dX12_spell_7 ⟨Nat.le_of_ble_eq_true rfl, Nat.le_of_ble_eq_true rfl⟩) hS (fun q _ h => hFc q h) hFc (fun r_1 u t H locs ht hvm hw hB hz1 hk1 hS => ?_)
  obtain ⟨hP1, hD1⟩ := hB
  rw [ht] at hP1
  obtain ⟨hP, hD⟩ := va_join (wr := []) (w1 := [(h0, .inr (12, mF g 0 0 0 0 0))]) hP hD [0] [] rfl rfl (by decide) (by decide) hk1 hFc hP1 hD1
  clear hPc hDc hFc hk1 hz1
  have hP : va_P (dC, dI) vwCl [(h0, .inr (12, mF g 0 0 0 0 0))] H := hP
  have hD : va_D A [(h0, .inr (12, mF g 0 0 0 0 0))] := hD
  obtain rfl := hw
  refine lv_if_ne (tgt := 15) hx hb dX12_spell_10 (by decide) (fun c_2 => absurd (by decide) c_2) (fun c_2 => ?_)
  refine lv_iconst (v := (-1)) hx hb dX12_spell_13 (by decide) ?_
  refine W.widen (k := 0) (n := 0) (Nat.le_of_ble_eq_true rfl) (Nat.le_of_ble_eq_true rfl) ?_
  exact W.iret (v := (-1)) hx hb hr (fun t ht hW => ⟨⟨(-1), (), rfl, rfl, trivial⟩, hS.F ht⟩) hS.2.2 dX12_spell_14

def us_X12_type : List Cond := .code yX12_type cX12_type 3 (some .int) :: ([.fieldLink RX12 169 "CodeLifterModel" "thrown" "I", .fieldLink RX12 292 "CodeLifterModel" "isThere" "Z"] ++ wsX120)
theorem ui_X12_type_X12 : ∀ w ∈ wsX120, w ∈ us_X12_type := fun _ h => List.mem_cons_of_mem _ (List.mem_append_right _ h)
set_option maxHeartbeats 8000000 in
set_option maxRecDepth 100000 in
/-- the reference's type on a new object -/
theorem c_X12_type (l : Launch) (dC : Nat → ClassId) (dI : Nat → Nat → Nat) (sz : Nat) (h0 : Nat) (g : Nat → Nat) (p0 : Int32) (p1 : Int32) : Met l yX12_type us_X12_type ({ frames := 1, cells := 0, slots := 0, locals := 25 }) (va_Pc [.ref h0, .int p0, .int p1] (fun U => U.heap.size = sz ∧ va_P (dC, dI) vwCl [(h0, .inr (12, mF g 0 0 0 0 0))] U.heap ∧ va_K (dC, dI) vwCl [] U ∧ va_D (fun _ => True) [(h0, .inr (12, mF g 0 0 0 0 0))])) (va_Qi (fun (r : Int32) (u : Unit) => r = (-1)) (fun (u : Unit) (t : State) => True) (va_A [(h0, .inr (12, mF g 0 0 0 0 0))] sz)) 0 0 (va_A [(h0, .inr (12, mF g 0 0 0 0 0))] sz) := by
  refine Met.ofW (cc := cX12_type) (maxL := 3) (ret := (some .int)) (by decide) rfl ?_
  intro p e s m args below meth c s₁ B hml hv
  obtain ⟨rfl, hsz, hP, hK, hD0⟩ := hv
  have hx := B.exec
  have hb := B.bytes
  have hr := B.returns
  have hts := atoms_spec (ws := us_X12_type) B.pre
  have hown : s.vm.findClass RX12 = some m.cls := findClass_of_methodNamed B.named
  have hlocks := B.notSynchronized
  subst hsz
  have hD := hD0.self (sz := s.heap.size)
  generalize hAe : va_A [(h0, .inr (12, mF g 0 0 0 0 0))] s.heap.size = A at hD ⊢
  have hA : ∀ q : Nat, s.heap.size ≤ q → A q := fun q h => by rw [← hAe]; exact Or.inr h
  have hS : va_S A s.heap s.heap [] := va_S.rf
  have hP : va_P (dC, dI) vwCl [(h0, .inr (12, mF g 0 0 0 0 0))] s.heap := hP
  have hl := lv_entry ([.ref h0, .int p0, .int p1]) (n := 3) (Nat.le_of_ble_eq_true rfl)
  rw [lg_entry_eq]
  generalize (lg_sl ([.ref h0, .int p0, .int p1]) ++ List.replicate (3 - (lg_sl ([.ref h0, .int p0, .int p1])).length) Slot.unset).toArray = ls at hl ⊢
  have hl : lv_has ls 3 [(0, .ref h0), (1, .int p0), (2, .int p1)] := hl
  refine lv_aload_n hx hb dX12_type_0 rfl (lv_at hl 0 rfl) ?_
  refine lv_iconst (v := 0) hx hb dX12_type_1 (by decide) ?_
  refine va_put (D := (dC, dI)) (ci := 12) (v := .int 0) (ty := .int) (C := RX12) (T := TX12) (N := 87) hx hb hts ui_X12_type_X12 tyX12 tyX12_ok nmX12 hown hK hP hD hS 0 rfl rfl 0 (by decide) (hts (.fieldLink RX12 169 "CodeLifterModel" "thrown" "I") (by decide +kernel)) (fun _ h9 => h9) rfl (by decide +kernel) rfl rfl (Nat.le_of_ble_eq_true rfl) dX12_type_2 (fun H locs hP hD hS => ?_)
  have hP : va_P (dC, dI) vwCl [(h0, .inr (12, mF g 0 0 0 0 0))] H := hP
  have hD : va_D A [(h0, .inr (12, mF g 0 0 0 0 0))] := hD
  refine lv_aload_n hx hb dX12_type_5 rfl (lv_at hl 0 rfl) ?_
  refine va_get (D := (dC, dI)) (ci := 12) (v := .int 0) (C := RX12) (T := TX12) (N := 87) hx hb hts ui_X12_type_X12 hown hK hP 0 rfl rfl 21 (by decide) (hts (.fieldLink RX12 292 "CodeLifterModel" "isThere" "Z") (by decide +kernel)) (fun _ h9 => h9) rfl dX12_type_6 ?_
  refine lv_if_eq (tgt := 61) hx hb dX12_type_9 (by decide) (fun c_1 => ?_) (fun c_1 => absurd (by decide) c_1)
  refine lv_iconst (v := (-1)) hx hb dX12_type_61 (by decide) ?_
  refine W.widen (k := 0) (n := 0) (Nat.le_of_ble_eq_true rfl) (Nat.le_of_ble_eq_true rfl) ?_
  exact W.iret (v := (-1)) hx hb hr (fun t ht hW => ⟨⟨(-1), (), rfl, rfl, trivial⟩, hS.F ht⟩) hS.2.2 dX12_type_62

def us_X12_run : List Cond := .code yX12_run cX12_run 7 (some .int) :: ((([.fieldLink RX12 169 "CodeLifterModel" "thrown" "I", .constantLong RX12 764 (11), .methodLink RX12 312 yX12_isIn, .static yX12_isIn, .initialized RX12, .constant RX12 614 (-1000000), .methodLink RX12 766 yX12_hasRun, .instanceMethod yX12_hasRun, .selects RX12 yX12_hasRun yX12_hasRun] ++ wsX120) ++ us_X12_isIn) ++ us_X12_hasRun)
theorem ui_X12_run_X12 : ∀ w ∈ wsX120, w ∈ us_X12_run := fun _ h => List.mem_cons_of_mem _ (List.mem_append_left _ (List.mem_append_left _ (List.mem_append_right _ h)))
set_option maxRecDepth 20000 in
theorem ugg_X12_run_X12_isIn : GoodIn us_X12_run us_X12_isIn := goodIn_sub (fun _ h => List.mem_cons_of_mem _ (List.mem_append_left _ (List.mem_append_right _ h))) (by decide +kernel)
set_option maxRecDepth 20000 in
theorem ug_X12_run_X12_isIn : GoodIn us_X12_run (va_wsS RX12 312 yX12_isIn us_X12_isIn) := goodIn_app (goodIn_of _ (by decide +kernel)) ugg_X12_run_X12_isIn
set_option maxRecDepth 20000 in
theorem ugg_X12_run_X12_hasRun : GoodIn us_X12_run us_X12_hasRun := goodIn_sub (fun _ h => List.mem_cons_of_mem _ (List.mem_append_right _ h)) (by decide +kernel)
set_option maxRecDepth 20000 in
theorem ug_X12_run_X12_hasRun : GoodIn us_X12_run (wsV RX12 766 RX12 yX12_hasRun us_X12_hasRun) := goodIn_app (goodIn_of _ (by decide +kernel)) ugg_X12_run_X12_hasRun
set_option maxHeartbeats 8000000 in
set_option maxRecDepth 100000 in
/-- the reference's run on a new object -/
theorem c_X12_run (l : Launch) (dC : Nat → ClassId) (dI : Nat → Nat → Nat) (sz : Nat) (h0 : Nat) (g : Nat → Nat) (p0 : Int32) (p1 : Int32) (p2 : Int32) (p3 : Int32) (p4 : Int32) (p5 : Int32) : Met l yX12_run us_X12_run ({ frames := 1, cells := 0, slots := 0, locals := 25 }) (va_Pc [.ref h0, .int p0, .int p1, .int p2, .int p3, .int p4, .int p5] (fun U => U.heap.size = sz ∧ va_P (dC, dI) vwCl [(h0, .inr (12, mF g 0 0 0 0 0))] U.heap ∧ va_K (dC, dI) vwCl [] U ∧ va_D (fun _ => True) [(h0, .inr (12, mF g 0 0 0 0 0))])) (va_Qi (fun (r : Int32) (u : Unit) => r = (-1000000)) (fun (u : Unit) (t : State) => True) (va_A [(h0, .inr (12, mF g 0 0 0 0 0))] sz)) 0 0 (va_A [(h0, .inr (12, mF g 0 0 0 0 0))] sz) := by
  refine Met.ofW (cc := cX12_run) (maxL := 7) (ret := (some .int)) (by decide) rfl ?_
  intro p e s m args below meth c s₁ B hml hv
  obtain ⟨rfl, hsz, hP, hK, hD0⟩ := hv
  have hx := B.exec
  have hb := B.bytes
  have hr := B.returns
  have hts := atoms_spec (ws := us_X12_run) B.pre
  have hown : s.vm.findClass RX12 = some m.cls := findClass_of_methodNamed B.named
  have hlocks := B.notSynchronized
  subst hsz
  have hD := hD0.self (sz := s.heap.size)
  generalize hAe : va_A [(h0, .inr (12, mF g 0 0 0 0 0))] s.heap.size = A at hD ⊢
  have hA : ∀ q : Nat, s.heap.size ≤ q → A q := fun q h => by rw [← hAe]; exact Or.inr h
  have hS : va_S A s.heap s.heap [] := va_S.rf
  have hP : va_P (dC, dI) vwCl [(h0, .inr (12, mF g 0 0 0 0 0))] s.heap := hP
  have hl := lv_entry ([.ref h0, .int p0, .int p1, .int p2, .int p3, .int p4, .int p5]) (n := 7) (Nat.le_of_ble_eq_true rfl)
  rw [lg_entry_eq]
  generalize (lg_sl ([.ref h0, .int p0, .int p1, .int p2, .int p3, .int p4, .int p5]) ++ List.replicate (7 - (lg_sl ([.ref h0, .int p0, .int p1, .int p2, .int p3, .int p4, .int p5])).length) Slot.unset).toArray = ls at hl ⊢
  have hl : lv_has ls 7 [(0, .ref h0), (1, .int p0), (2, .int p1), (3, .int p2), (4, .int p3), (5, .int p4), (6, .int p5)] := hl
  refine lv_aload_n hx hb dX12_run_0 rfl (lv_at hl 0 rfl) ?_
  refine lv_iconst (v := 0) hx hb dX12_run_1 (by decide) ?_
  refine va_put (D := (dC, dI)) (ci := 12) (v := .int 0) (ty := .int) (C := RX12) (T := TX12) (N := 87) hx hb hts ui_X12_run_X12 tyX12 tyX12_ok nmX12 hown hK hP hD hS 0 rfl rfl 0 (by decide) (hts (.fieldLink RX12 169 "CodeLifterModel" "thrown" "I") (by decide +kernel)) (fun _ h9 => h9) rfl (by decide +kernel) rfl rfl (Nat.le_of_ble_eq_true rfl) dX12_run_2 (fun H locs hP hD hS => ?_)
  have hP : va_P (dC, dI) vwCl [(h0, .inr (12, mF g 0 0 0 0 0))] H := hP
  have hD : va_D A [(h0, .inr (12, mF g 0 0 0 0 0))] := hD
  refine lv_iload hx hb dX12_run_5 (lv_at hl 6 rfl) ?_
  refine lv_i2l hx hb dX12_run_7 rfl ?_
  refine lv_lconst (v := 0) hx hb dX12_run_8 rfl ?_
  refine lv_ldc2 hx hb hown (hts (.constantLong RX12 764 (11)) (by decide +kernel)) dX12_run_9 ?_
  have hPc := hP.sub (ws' := []) [] rfl
  have hDc := hD.sub (ws' := []) [] (by decide) rfl
  have hKc := hK.sub (tys' := []) [] rfl
  have hFc := va_free (wc := []) hD hS hA [] rfl
  refine va_calli (va_runS (As := [.long (p5).toInt64, .long 0, .long 11]) (rest := []) ⟨hx, hb, hml, hown, hts⟩ (c_X12_isIn l dC dI H.size ((p5).toInt64) 0 11) (va_cwS 3 hts ug_X12_run_X12_isIn rfl rfl rfl (by decide +kernel) ⟨Nat.le_of_ble_eq_true rfl, Nat.le_of_ble_eq_true rfl⟩) ⟨fun a U g mk q => by obtain ⟨q0, q1, qP, qK, qD⟩ := q; exact ⟨q0, q1, qP, va_K.moved (u := U) (U := U.calling g mk a) (Vm.Alike.refl U.vm) qK, qD⟩, fun U hU hW => ⟨rfl, by rw [hU], by rw [hU]; exact hPc, va_K.moved hW.alike hKc, hDc.weaken (fun _ _ _ _ => trivial)⟩⟩ rfl rfl hl.1 rfl (lv_room (Nat.le_of_ble_eq_true rfl)) dX12_run_12 ⟨Nat.le_of_ble_eq_true rfl, Nat.le_of_ble_eq_true rfl⟩) hS (fun q _ h => hFc q h) hFc (fun r_1 u t H locs ht hvm hw hB hz1 hk1 hS => ?_)
  obtain ⟨hP, hD⟩ := va_join (wr := [(h0, .inr (12, mF g 0 0 0 0 0))]) (w1 := []) hP hD [] [0] rfl rfl (by decide) (by decide) hk1 hFc p_nil d_nil
  clear hPc hDc hFc hk1 hz1
  have hP : va_P (dC, dI) vwCl [(h0, .inr (12, mF g 0 0 0 0 0))] H := hP
  have hD : va_D A [(h0, .inr (12, mF g 0 0 0 0 0))] := hD
  refine lv_if_eq (tgt := 32) hx hb dX12_run_15 (by decide) (fun c_2 => ?_) (fun c_2 => ?_)
  · refine lv_ldcw hx hb hown (hts (.constant RX12 614 (-1000000)) (by decide +kernel)) dX12_run_32 ?_
    refine W.widen (k := 0) (n := 0) (Nat.le_of_ble_eq_true rfl) (Nat.le_of_ble_eq_true rfl) ?_
    exact W.iret (v := (-1000000)) hx hb hr (fun t ht hW => ⟨⟨(-1000000), (), rfl, rfl, trivial⟩, hS.F ht⟩) hS.2.2 dX12_run_35
  · refine lv_aload_n hx hb dX12_run_18 rfl (lv_at hl 0 rfl) ?_
    refine lv_iload_n hx hb dX12_run_19 rfl (lv_at hl 1 rfl) ?_
    refine lv_iload_n hx hb dX12_run_20 rfl (lv_at hl 2 rfl) ?_
    refine lv_iload_n hx hb dX12_run_21 rfl (lv_at hl 3 rfl) ?_
    refine lv_iload hx hb dX12_run_22 (lv_at hl 4 rfl) ?_
    refine lv_iload hx hb dX12_run_24 (lv_at hl 5 rfl) ?_
    have hPc := hP.sub (ws' := [(h0, .inr (12, mF g 0 0 0 0 0))]) [0] rfl
    have hDc := hD.sub (ws' := [(h0, .inr (12, mF g 0 0 0 0 0))]) [0] (by decide) rfl
    have hKc := hK.sub (tys' := []) [] rfl
    have hFc := va_free (wc := [(h0, .inr (12, mF g 0 0 0 0 0))]) hD hS hA [0] rfl
    refine va_calli (va_runV (As := [.int p0, .int p1, .int p2, .int p3, .int p4]) (rest := []) ⟨hx, hb, hml, hown, hts⟩ (c_X12_hasRun l dC dI H.size h0 g p0 p1 p2 p3 p4) (cwV 5 hts ug_X12_run_X12_hasRun rfl rfl rfl (by decide +kernel) ⟨Nat.le_of_ble_eq_true rfl, Nat.le_of_ble_eq_true rfl⟩) ⟨fun a U g mk q => by obtain ⟨q0, q1, qP, qK, qD⟩ := q; exact ⟨q0, q1, qP, va_K.moved (u := U) (U := U.calling g mk a) (Vm.Alike.refl U.vm) qK, qD⟩, va_recv hKc hPc (ci := 12) (q0 := 0) rfl rfl, fun U hU hW => ⟨rfl, by rw [hU], by rw [hU]; exact hPc, va_K.moved hW.alike hKc, hDc.weaken (fun _ _ _ _ => trivial)⟩⟩ rfl rfl hl.1 rfl (lv_room (Nat.le_of_ble_eq_true rfl)) dX12_run_26 ⟨Nat.le_of_ble_eq_true rfl, Nat.le_of_ble_eq_true rfl⟩) hS (fun q _ h => hFc q h) hFc (fun r_3 u t H locs ht hvm hw hB hz1 hk1 hS => ?_)
    obtain ⟨hP1, hD1⟩ := hB
    rw [ht] at hP1
    obtain ⟨hP, hD⟩ := va_join (wr := []) (w1 := [(h0, .inr (12, mF g 0 0 0 0 0))]) hP hD [0] [] rfl rfl (by decide) (by decide) hk1 hFc hP1 hD1
    clear hPc hDc hFc hk1 hz1
    have hP : va_P (dC, dI) vwCl [(h0, .inr (12, mF g 0 0 0 0 0))] H := hP
    have hD : va_D A [(h0, .inr (12, mF g 0 0 0 0 0))] := hD
    obtain rfl := hw
    refine lv_if_ne (tgt := 36) hx hb dX12_run_29 (by decide) (fun c_4 => absurd (by decide) c_4) (fun c_4 => ?_)
    refine lv_ldcw hx hb hown (hts (.constant RX12 614 (-1000000)) (by decide +kernel)) dX12_run_32 ?_
    refine W.widen (k := 0) (n := 0) (Nat.le_of_ble_eq_true rfl) (Nat.le_of_ble_eq_true rfl) ?_
    exact W.iret (v := (-1000000)) hx hb hr (fun t ht hW => ⟨⟨(-1000000), (), rfl, rfl, trivial⟩, hS.F ht⟩) hS.2.2 dX12_run_35

def us_X12_output : List Cond := .code yX12_output cX12_output 7 (some .int) :: (([.fieldLink RX12 169 "CodeLifterModel" "thrown" "I", .constant RX12 614 (-1000000), .methodLink RX12 766 yX12_hasRun, .instanceMethod yX12_hasRun, .selects RX12 yX12_hasRun yX12_hasRun, .initialized RX12] ++ wsX120) ++ us_X12_hasRun)
theorem ui_X12_output_X12 : ∀ w ∈ wsX120, w ∈ us_X12_output := fun _ h => List.mem_cons_of_mem _ (List.mem_append_left _ (List.mem_append_right _ h))
set_option maxRecDepth 20000 in
theorem ugg_X12_output_X12_hasRun : GoodIn us_X12_output us_X12_hasRun := goodIn_sub (fun _ h => List.mem_cons_of_mem _ (List.mem_append_right _ h)) (by decide +kernel)
set_option maxRecDepth 20000 in
theorem ug_X12_output_X12_hasRun : GoodIn us_X12_output (wsV RX12 766 RX12 yX12_hasRun us_X12_hasRun) := goodIn_app (goodIn_of _ (by decide +kernel)) ugg_X12_output_X12_hasRun
set_option maxHeartbeats 8000000 in
set_option maxRecDepth 100000 in
/-- the reference's output on a new object -/
theorem c_X12_output (l : Launch) (dC : Nat → ClassId) (dI : Nat → Nat → Nat) (sz : Nat) (h0 : Nat) (g : Nat → Nat) (p0 : Int32) (p1 : Int32) (p2 : Int32) (p3 : Int32) (p4 : Int32) (p5 : Int32) : Met l yX12_output us_X12_output ({ frames := 1, cells := 0, slots := 0, locals := 25 }) (va_Pc [.ref h0, .int p0, .int p1, .int p2, .int p3, .int p4, .int p5] (fun U => U.heap.size = sz ∧ va_P (dC, dI) vwCl [(h0, .inr (12, mF g 0 0 0 0 0))] U.heap ∧ va_K (dC, dI) vwCl [] U ∧ va_D (fun _ => True) [(h0, .inr (12, mF g 0 0 0 0 0))])) (va_Qi (fun (r : Int32) (u : Unit) => r = (-1000000)) (fun (u : Unit) (t : State) => True) (va_A [(h0, .inr (12, mF g 0 0 0 0 0))] sz)) 0 0 (va_A [(h0, .inr (12, mF g 0 0 0 0 0))] sz) := by
  refine Met.ofW (cc := cX12_output) (maxL := 7) (ret := (some .int)) (by decide) rfl ?_
  intro p e s m args below meth c s₁ B hml hv
  obtain ⟨rfl, hsz, hP, hK, hD0⟩ := hv
  have hx := B.exec
  have hb := B.bytes
  have hr := B.returns
  have hts := atoms_spec (ws := us_X12_output) B.pre
  have hown : s.vm.findClass RX12 = some m.cls := findClass_of_methodNamed B.named
  have hlocks := B.notSynchronized
  subst hsz
  have hD := hD0.self (sz := s.heap.size)
  generalize hAe : va_A [(h0, .inr (12, mF g 0 0 0 0 0))] s.heap.size = A at hD ⊢
  have hA : ∀ q : Nat, s.heap.size ≤ q → A q := fun q h => by rw [← hAe]; exact Or.inr h
  have hS : va_S A s.heap s.heap [] := va_S.rf
  have hP : va_P (dC, dI) vwCl [(h0, .inr (12, mF g 0 0 0 0 0))] s.heap := hP
  have hl := lv_entry ([.ref h0, .int p0, .int p1, .int p2, .int p3, .int p4, .int p5]) (n := 7) (Nat.le_of_ble_eq_true rfl)
  rw [lg_entry_eq]
  generalize (lg_sl ([.ref h0, .int p0, .int p1, .int p2, .int p3, .int p4, .int p5]) ++ List.replicate (7 - (lg_sl ([.ref h0, .int p0, .int p1, .int p2, .int p3, .int p4, .int p5])).length) Slot.unset).toArray = ls at hl ⊢
  have hl : lv_has ls 7 [(0, .ref h0), (1, .int p0), (2, .int p1), (3, .int p2), (4, .int p3), (5, .int p4), (6, .int p5)] := hl
  refine lv_aload_n hx hb dX12_output_0 rfl (lv_at hl 0 rfl) ?_
  refine lv_iconst (v := 0) hx hb dX12_output_1 (by decide) ?_
  refine va_put (D := (dC, dI)) (ci := 12) (v := .int 0) (ty := .int) (C := RX12) (T := TX12) (N := 87) hx hb hts ui_X12_output_X12 tyX12 tyX12_ok nmX12 hown hK hP hD hS 0 rfl rfl 0 (by decide) (hts (.fieldLink RX12 169 "CodeLifterModel" "thrown" "I") (by decide +kernel)) (fun _ h9 => h9) rfl (by decide +kernel) rfl rfl (Nat.le_of_ble_eq_true rfl) dX12_output_2 (fun H locs hP hD hS => ?_)
  have hP : va_P (dC, dI) vwCl [(h0, .inr (12, mF g 0 0 0 0 0))] H := hP
  have hD : va_D A [(h0, .inr (12, mF g 0 0 0 0 0))] := hD
  refine lv_iload hx hb dX12_output_5 (lv_at hl 6 rfl) ?_
  refine lv_if_lt (tgt := 43) hx hb dX12_output_7 (by decide) (fun c_1 => ?_) (fun c_1 => ?_)
  · refine lv_ldcw hx hb hown (hts (.constant RX12 614 (-1000000)) (by decide +kernel)) dX12_output_43 ?_
    refine W.widen (k := 0) (n := 0) (Nat.le_of_ble_eq_true rfl) (Nat.le_of_ble_eq_true rfl) ?_
    exact W.iret (v := (-1000000)) hx hb hr (fun t ht hW => ⟨⟨(-1000000), (), rfl, rfl, trivial⟩, hS.F ht⟩) hS.2.2 dX12_output_46
  · refine lv_aload_n hx hb dX12_output_10 rfl (lv_at hl 0 rfl) ?_
    refine lv_iload_n hx hb dX12_output_11 rfl (lv_at hl 1 rfl) ?_
    refine lv_iload_n hx hb dX12_output_12 rfl (lv_at hl 2 rfl) ?_
    refine lv_iload_n hx hb dX12_output_13 rfl (lv_at hl 3 rfl) ?_
    refine lv_iload hx hb dX12_output_14 (lv_at hl 4 rfl) ?_
    refine lv_iload hx hb dX12_output_16 (lv_at hl 5 rfl) ?_
    have hPc := hP.sub (ws' := [(h0, .inr (12, mF g 0 0 0 0 0))]) [0] rfl
    have hDc := hD.sub (ws' := [(h0, .inr (12, mF g 0 0 0 0 0))]) [0] (by decide) rfl
    have hKc := hK.sub (tys' := []) [] rfl
    have hFc := va_free (wc := [(h0, .inr (12, mF g 0 0 0 0 0))]) hD hS hA [0] rfl
    refine va_calli (va_runV (As := [.int p0, .int p1, .int p2, .int p3, .int p4]) (rest := []) ⟨hx, hb, hml, hown, hts⟩ (c_X12_hasRun l dC dI H.size h0 g p0 p1 p2 p3 p4) (cwV 5 hts ug_X12_output_X12_hasRun rfl rfl rfl (by decide +kernel) ⟨Nat.le_of_ble_eq_true rfl, Nat.le_of_ble_eq_true rfl⟩) ⟨fun a U g mk q => by obtain ⟨q0, q1, qP, qK, qD⟩ := q; exact ⟨q0, q1, qP, va_K.moved (u := U) (U := U.calling g mk a) (Vm.Alike.refl U.vm) qK, qD⟩, va_recv hKc hPc (ci := 12) (q0 := 0) rfl rfl, fun U hU hW => ⟨rfl, by rw [hU], by rw [hU]; exact hPc, va_K.moved hW.alike hKc, hDc.weaken (fun _ _ _ _ => trivial)⟩⟩ rfl rfl hl.1 rfl (lv_room (Nat.le_of_ble_eq_true rfl)) dX12_output_18 ⟨Nat.le_of_ble_eq_true rfl, Nat.le_of_ble_eq_true rfl⟩) hS (fun q _ h => hFc q h) hFc (fun r_2 u t H locs ht hvm hw hB hz1 hk1 hS => ?_)
    obtain ⟨hP1, hD1⟩ := hB
    rw [ht] at hP1
    obtain ⟨hP, hD⟩ := va_join (wr := []) (w1 := [(h0, .inr (12, mF g 0 0 0 0 0))]) hP hD [0] [] rfl rfl (by decide) (by decide) hk1 hFc hP1 hD1
    clear hPc hDc hFc hk1 hz1
    have hP : va_P (dC, dI) vwCl [(h0, .inr (12, mF g 0 0 0 0 0))] H := hP
    have hD : va_D A [(h0, .inr (12, mF g 0 0 0 0 0))] := hD
    obtain rfl := hw
    refine lv_if_eq (tgt := 43) hx hb dX12_output_21 (by decide) (fun c_3 => ?_) (fun c_3 => absurd (by decide) c_3)
    refine lv_ldcw hx hb hown (hts (.constant RX12 614 (-1000000)) (by decide +kernel)) dX12_output_43 ?_
    refine W.widen (k := 0) (n := 0) (Nat.le_of_ble_eq_true rfl) (Nat.le_of_ble_eq_true rfl) ?_
    exact W.iret (v := (-1000000)) hx hb hr (fun t ht hW => ⟨⟨(-1000000), (), rfl, rfl, trivial⟩, hS.F ht⟩) hS.2.2 dX12_output_46

def us_X12_comesTo : List Cond := .code yX12_comesTo cX12_comesTo 6 (some .long) :: (([.fieldLink RX12 169 "CodeLifterModel" "thrown" "I", .methodLink RX12 615 yX12_isBlock, .instanceMethod yX12_isBlock, .selects RX12 yX12_isBlock yX12_isBlock, .initialized RX12, .constantLong RX12 652 (-1)] ++ wsX120) ++ us_X12_isBlock)
theorem ui_X12_comesTo_X12 : ∀ w ∈ wsX120, w ∈ us_X12_comesTo := fun _ h => List.mem_cons_of_mem _ (List.mem_append_left _ (List.mem_append_right _ h))
set_option maxRecDepth 20000 in
theorem ugg_X12_comesTo_X12_isBlock : GoodIn us_X12_comesTo us_X12_isBlock := goodIn_sub (fun _ h => List.mem_cons_of_mem _ (List.mem_append_right _ h)) (by decide +kernel)
set_option maxRecDepth 20000 in
theorem ug_X12_comesTo_X12_isBlock : GoodIn us_X12_comesTo (wsV RX12 615 RX12 yX12_isBlock us_X12_isBlock) := goodIn_app (goodIn_of _ (by decide +kernel)) ugg_X12_comesTo_X12_isBlock
set_option maxHeartbeats 8000000 in
set_option maxRecDepth 100000 in
/-- the reference's comesTo on a new object -/
theorem c_X12_comesTo (l : Launch) (dC : Nat → ClassId) (dI : Nat → Nat → Nat) (sz : Nat) (h0 : Nat) (g : Nat → Nat) (p0 : Int32) : Met l yX12_comesTo us_X12_comesTo ({ frames := 1, cells := 0, slots := 0, locals := 21 }) (va_Pc [.ref h0, .int p0] (fun U => U.heap.size = sz ∧ va_P (dC, dI) vwCl [(h0, .inr (12, mF g 0 0 0 0 0))] U.heap ∧ va_K (dC, dI) vwCl [] U ∧ va_D (fun _ => True) [(h0, .inr (12, mF g 0 0 0 0 0))])) (va_Ql (fun (r : Int64) (u : Unit) => r = (-1)) (fun (u : Unit) (t : State) => True) (va_A [(h0, .inr (12, mF g 0 0 0 0 0))] sz)) 0 0 (va_A [(h0, .inr (12, mF g 0 0 0 0 0))] sz) := by
  refine Met.ofW (cc := cX12_comesTo) (maxL := 6) (ret := (some .long)) (by decide) rfl ?_
  intro p e s m args below meth c s₁ B hml hv
  obtain ⟨rfl, hsz, hP, hK, hD0⟩ := hv
  have hx := B.exec
  have hb := B.bytes
  have hr := B.returns
  have hts := atoms_spec (ws := us_X12_comesTo) B.pre
  have hown : s.vm.findClass RX12 = some m.cls := findClass_of_methodNamed B.named
  have hlocks := B.notSynchronized
  subst hsz
  have hD := hD0.self (sz := s.heap.size)
  generalize hAe : va_A [(h0, .inr (12, mF g 0 0 0 0 0))] s.heap.size = A at hD ⊢
  have hA : ∀ q : Nat, s.heap.size ≤ q → A q := fun q h => by rw [← hAe]; exact Or.inr h
  have hS : va_S A s.heap s.heap [] := va_S.rf
  have hP : va_P (dC, dI) vwCl [(h0, .inr (12, mF g 0 0 0 0 0))] s.heap := hP
  have hl := lv_entry ([.ref h0, .int p0]) (n := 6) (Nat.le_of_ble_eq_true rfl)
  rw [lg_entry_eq]
  generalize (lg_sl ([.ref h0, .int p0]) ++ List.replicate (6 - (lg_sl ([.ref h0, .int p0])).length) Slot.unset).toArray = ls at hl ⊢
  have hl : lv_has ls 6 [(0, .ref h0), (1, .int p0)] := hl
  refine lv_aload_n hx hb dX12_comesTo_0 rfl (lv_at hl 0 rfl) ?_
  refine lv_iconst (v := 0) hx hb dX12_comesTo_1 (by decide) ?_
  refine va_put (D := (dC, dI)) (ci := 12) (v := .int 0) (ty := .int) (C := RX12) (T := TX12) (N := 87) hx hb hts ui_X12_comesTo_X12 tyX12 tyX12_ok nmX12 hown hK hP hD hS 0 rfl rfl 0 (by decide) (hts (.fieldLink RX12 169 "CodeLifterModel" "thrown" "I") (by decide +kernel)) (fun _ h9 => h9) rfl (by decide +kernel) rfl rfl (Nat.le_of_ble_eq_true rfl) dX12_comesTo_2 (fun H locs hP hD hS => ?_)
  have hP : va_P (dC, dI) vwCl [(h0, .inr (12, mF g 0 0 0 0 0))] H := hP
  have hD : va_D A [(h0, .inr (12, mF g 0 0 0 0 0))] := hD
  refine lv_aload_n hx hb dX12_comesTo_5 rfl (lv_at hl 0 rfl) ?_
  refine lv_iload_n hx hb dX12_comesTo_6 rfl (lv_at hl 1 rfl) ?_
  have hPc := hP.sub (ws' := [(h0, .inr (12, mF g 0 0 0 0 0))]) [0] rfl
  have hDc := hD.sub (ws' := [(h0, .inr (12, mF g 0 0 0 0 0))]) [0] (by decide) rfl
  have hKc := hK.sub (tys' := []) [] rfl
  have hFc := va_free (wc := [(h0, .inr (12, mF g 0 0 0 0 0))]) hD hS hA [0] rfl
  refine va_calli (va_runV (As := [.int p0]) (rest := []) ⟨hx, hb, hml, hown, hts⟩ (c_X12_isBlock l dC dI H.size h0 g p0) (cwV 1 hts ug_X12_comesTo_X12_isBlock rfl rfl rfl (by decide +kernel) ⟨Nat.le_of_ble_eq_true rfl, Nat.le_of_ble_eq_true rfl⟩) ⟨fun a U g mk q => by obtain ⟨q0, q1, qP, qK, qD⟩ := q; exact ⟨q0, q1, qP, va_K.moved (u := U) (U := U.calling g mk a) (Vm.Alike.refl U.vm) qK, qD⟩, va_recv hKc hPc (ci := 12) (q0 := 0) rfl rfl, fun U hU hW => ⟨rfl, by rw [hU], by rw [hU]; exact hPc, va_K.moved hW.alike hKc, hDc.weaken (fun _ _ _ _ => trivial)⟩⟩ rfl rfl hl.1 rfl (lv_room (Nat.le_of_ble_eq_true rfl)) dX12_comesTo_7 ⟨Nat.le_of_ble_eq_true rfl, Nat.le_of_ble_eq_true rfl⟩) hS (fun q _ h => hFc q h) hFc (fun r_1 u t H locs ht hvm hw hB hz1 hk1 hS => ?_)
  obtain ⟨hP1, hD1⟩ := hB
  rw [ht] at hP1
  obtain ⟨hP, hD⟩ := va_join (wr := []) (w1 := [(h0, .inr (12, mF g 0 0 0 0 0))]) hP hD [0] [] rfl rfl (by decide) (by decide) hk1 hFc hP1 hD1
  clear hPc hDc hFc hk1 hz1
  have hP : va_P (dC, dI) vwCl [(h0, .inr (12, mF g 0 0 0 0 0))] H := hP
  have hD : va_D A [(h0, .inr (12, mF g 0 0 0 0 0))] := hD
  obtain rfl := hw
  refine lv_if_ne (tgt := 17) hx hb dX12_comesTo_10 (by decide) (fun c_2 => absurd (by decide) c_2) (fun c_2 => ?_)
  refine lv_ldc2 hx hb hown (hts (.constantLong RX12 652 (-1)) (by decide +kernel)) dX12_comesTo_13 ?_
  refine W.widen (k := 0) (n := 0) (Nat.le_of_ble_eq_true rfl) (Nat.le_of_ble_eq_true rfl) ?_
  exact W.lret (v := (-1)) hx hb hr (fun t ht hW => ⟨⟨(-1), (), rfl, rfl, trivial⟩, hS.F ht⟩) hS.2.2 dX12_comesTo_16

def us_X12_far : List Cond := .code yX12_far cX12_far 9 (some .int) :: (([.fieldLink RX12 169 "CodeLifterModel" "thrown" "I", .methodLink RX12 615 yX12_isBlock, .instanceMethod yX12_isBlock, .selects RX12 yX12_isBlock yX12_isBlock, .initialized RX12] ++ wsX120) ++ us_X12_isBlock)
theorem ui_X12_far_X12 : ∀ w ∈ wsX120, w ∈ us_X12_far := fun _ h => List.mem_cons_of_mem _ (List.mem_append_left _ (List.mem_append_right _ h))
set_option maxRecDepth 20000 in
theorem ugg_X12_far_X12_isBlock : GoodIn us_X12_far us_X12_isBlock := goodIn_sub (fun _ h => List.mem_cons_of_mem _ (List.mem_append_right _ h)) (by decide +kernel)
set_option maxRecDepth 20000 in
theorem ug_X12_far_X12_isBlock : GoodIn us_X12_far (wsV RX12 615 RX12 yX12_isBlock us_X12_isBlock) := goodIn_app (goodIn_of _ (by decide +kernel)) ugg_X12_far_X12_isBlock
set_option maxHeartbeats 8000000 in
set_option maxRecDepth 100000 in
/-- the reference's far on a new object -/
theorem c_X12_far (l : Launch) (dC : Nat → ClassId) (dI : Nat → Nat → Nat) (sz : Nat) (h0 : Nat) (g : Nat → Nat) (p0 : Int32) (p1 : Int32) : Met l yX12_far us_X12_far ({ frames := 1, cells := 0, slots := 0, locals := 21 }) (va_Pc [.ref h0, .int p0, .int p1] (fun U => U.heap.size = sz ∧ va_P (dC, dI) vwCl [(h0, .inr (12, mF g 0 0 0 0 0))] U.heap ∧ va_K (dC, dI) vwCl [] U ∧ va_D (fun _ => True) [(h0, .inr (12, mF g 0 0 0 0 0))])) (va_Qi (fun (r : Int32) (u : Unit) => r = (-1)) (fun (u : Unit) (t : State) => True) (va_A [(h0, .inr (12, mF g 0 0 0 0 0))] sz)) 0 0 (va_A [(h0, .inr (12, mF g 0 0 0 0 0))] sz) := by
  refine Met.ofW (cc := cX12_far) (maxL := 9) (ret := (some .int)) (by decide) rfl ?_
  intro p e s m args below meth c s₁ B hml hv
  obtain ⟨rfl, hsz, hP, hK, hD0⟩ := hv
  have hx := B.exec
  have hb := B.bytes
  have hr := B.returns
  have hts := atoms_spec (ws := us_X12_far) B.pre
  have hown : s.vm.findClass RX12 = some m.cls := findClass_of_methodNamed B.named
  have hlocks := B.notSynchronized
  subst hsz
  have hD := hD0.self (sz := s.heap.size)
  generalize hAe : va_A [(h0, .inr (12, mF g 0 0 0 0 0))] s.heap.size = A at hD ⊢
  have hA : ∀ q : Nat, s.heap.size ≤ q → A q := fun q h => by rw [← hAe]; exact Or.inr h
  have hS : va_S A s.heap s.heap [] := va_S.rf
  have hP : va_P (dC, dI) vwCl [(h0, .inr (12, mF g 0 0 0 0 0))] s.heap := hP
  have hl := lv_entry ([.ref h0, .int p0, .int p1]) (n := 9) (Nat.le_of_ble_eq_true rfl)
  rw [lg_entry_eq]
  generalize (lg_sl ([.ref h0, .int p0, .int p1]) ++ List.replicate (9 - (lg_sl ([.ref h0, .int p0, .int p1])).length) Slot.unset).toArray = ls at hl ⊢
  have hl : lv_has ls 9 [(0, .ref h0), (1, .int p0), (2, .int p1)] := hl
  refine lv_aload_n hx hb dX12_far_0 rfl (lv_at hl 0 rfl) ?_
  refine lv_iconst (v := 0) hx hb dX12_far_1 (by decide) ?_
  refine va_put (D := (dC, dI)) (ci := 12) (v := .int 0) (ty := .int) (C := RX12) (T := TX12) (N := 87) hx hb hts ui_X12_far_X12 tyX12 tyX12_ok nmX12 hown hK hP hD hS 0 rfl rfl 0 (by decide) (hts (.fieldLink RX12 169 "CodeLifterModel" "thrown" "I") (by decide +kernel)) (fun _ h9 => h9) rfl (by decide +kernel) rfl rfl (Nat.le_of_ble_eq_true rfl) dX12_far_2 (fun H locs hP hD hS => ?_)
  have hP : va_P (dC, dI) vwCl [(h0, .inr (12, mF g 0 0 0 0 0))] H := hP
  have hD : va_D A [(h0, .inr (12, mF g 0 0 0 0 0))] := hD
  refine lv_aload_n hx hb dX12_far_5 rfl (lv_at hl 0 rfl) ?_
  refine lv_iload_n hx hb dX12_far_6 rfl (lv_at hl 1 rfl) ?_
  have hPc := hP.sub (ws' := [(h0, .inr (12, mF g 0 0 0 0 0))]) [0] rfl
  have hDc := hD.sub (ws' := [(h0, .inr (12, mF g 0 0 0 0 0))]) [0] (by decide) rfl
  have hKc := hK.sub (tys' := []) [] rfl
  have hFc := va_free (wc := [(h0, .inr (12, mF g 0 0 0 0 0))]) hD hS hA [0] rfl
  refine va_calli (va_runV (As := [.int p0]) (rest := []) ⟨hx, hb, hml, hown, hts⟩ (c_X12_isBlock l dC dI H.size h0 g p0) (cwV 1 hts ug_X12_far_X12_isBlock rfl rfl rfl (by decide +kernel) ⟨Nat.le_of_ble_eq_true rfl, Nat.le_of_ble_eq_true rfl⟩) ⟨fun a U g mk q => by obtain ⟨q0, q1, qP, qK, qD⟩ := q; exact ⟨q0, q1, qP, va_K.moved (u := U) (U := U.calling g mk a) (Vm.Alike.refl U.vm) qK, qD⟩, va_recv hKc hPc (ci := 12) (q0 := 0) rfl rfl, fun U hU hW => ⟨rfl, by rw [hU], by rw [hU]; exact hPc, va_K.moved hW.alike hKc, hDc.weaken (fun _ _ _ _ => trivial)⟩⟩ rfl rfl hl.1 rfl (lv_room (Nat.le_of_ble_eq_true rfl)) dX12_far_7 ⟨Nat.le_of_ble_eq_true rfl, Nat.le_of_ble_eq_true rfl⟩) hS (fun q _ h => hFc q h) hFc (fun r_1 u t H locs ht hvm hw hB hz1 hk1 hS => ?_)
  obtain ⟨hP1, hD1⟩ := hB
  rw [ht] at hP1
  obtain ⟨hP, hD⟩ := va_join (wr := []) (w1 := [(h0, .inr (12, mF g 0 0 0 0 0))]) hP hD [0] [] rfl rfl (by decide) (by decide) hk1 hFc hP1 hD1
  clear hPc hDc hFc hk1 hz1
  have hP : va_P (dC, dI) vwCl [(h0, .inr (12, mF g 0 0 0 0 0))] H := hP
  have hD : va_D A [(h0, .inr (12, mF g 0 0 0 0 0))] := hD
  obtain rfl := hw
  refine lv_if_eq (tgt := 21) hx hb dX12_far_10 (by decide) (fun c_2 => ?_) (fun c_2 => absurd (by decide) c_2)
  refine lv_iconst (v := (-1)) hx hb dX12_far_21 (by decide) ?_
  refine W.widen (k := 0) (n := 0) (Nat.le_of_ble_eq_true rfl) (Nat.le_of_ble_eq_true rfl) ?_
  exact W.iret (v := (-1)) hx hb hr (fun t ht hW => ⟨⟨(-1), (), rfl, rfl, trivial⟩, hS.F ht⟩) hS.2.2 dX12_far_22

def us_X12_most : List Cond := .code yX12_most cX12_most 2 (some .int) :: ([.fieldLink RX12 169 "CodeLifterModel" "thrown" "I", .fieldLink RX12 292 "CodeLifterModel" "isThere" "Z", .constant RX12 614 (-1000000)] ++ wsX120)
theorem ui_X12_most_X12 : ∀ w ∈ wsX120, w ∈ us_X12_most := fun _ h => List.mem_cons_of_mem _ (List.mem_append_right _ h)
set_option maxHeartbeats 8000000 in
set_option maxRecDepth 100000 in
/-- the reference's most on a new object -/
theorem c_X12_most (l : Launch) (dC : Nat → ClassId) (dI : Nat → Nat → Nat) (sz : Nat) (h0 : Nat) (g : Nat → Nat) (p0 : Int32) : Met l yX12_most us_X12_most ({ frames := 0, cells := 0, slots := 0, locals := 0 }) (va_Pc [.ref h0, .int p0] (fun U => U.heap.size = sz ∧ va_P (dC, dI) vwCl [(h0, .inr (12, mF g 0 0 0 0 0))] U.heap ∧ va_K (dC, dI) vwCl [] U ∧ va_D (fun _ => True) [(h0, .inr (12, mF g 0 0 0 0 0))])) (va_Qi (fun (r : Int32) (u : Unit) => r = (-1000000)) (fun (u : Unit) (t : State) => True) (va_A [(h0, .inr (12, mF g 0 0 0 0 0))] sz)) 0 0 (va_A [(h0, .inr (12, mF g 0 0 0 0 0))] sz) := by
  refine Met.ofW (cc := cX12_most) (maxL := 2) (ret := (some .int)) (by decide) rfl ?_
  intro p e s m args below meth c s₁ B hml hv
  obtain ⟨rfl, hsz, hP, hK, hD0⟩ := hv
  have hx := B.exec
  have hb := B.bytes
  have hr := B.returns
  have hts := atoms_spec (ws := us_X12_most) B.pre
  have hown : s.vm.findClass RX12 = some m.cls := findClass_of_methodNamed B.named
  have hlocks := B.notSynchronized
  subst hsz
  have hD := hD0.self (sz := s.heap.size)
  generalize hAe : va_A [(h0, .inr (12, mF g 0 0 0 0 0))] s.heap.size = A at hD ⊢
  have hA : ∀ q : Nat, s.heap.size ≤ q → A q := fun q h => by rw [← hAe]; exact Or.inr h
  have hS : va_S A s.heap s.heap [] := va_S.rf
  have hP : va_P (dC, dI) vwCl [(h0, .inr (12, mF g 0 0 0 0 0))] s.heap := hP
  have hl := lv_entry ([.ref h0, .int p0]) (n := 2) (Nat.le_of_ble_eq_true rfl)
  rw [lg_entry_eq]
  generalize (lg_sl ([.ref h0, .int p0]) ++ List.replicate (2 - (lg_sl ([.ref h0, .int p0])).length) Slot.unset).toArray = ls at hl ⊢
  have hl : lv_has ls 2 [(0, .ref h0), (1, .int p0)] := hl
  refine lv_aload_n hx hb dX12_most_0 rfl (lv_at hl 0 rfl) ?_
  refine lv_iconst (v := 0) hx hb dX12_most_1 (by decide) ?_
  refine va_put (D := (dC, dI)) (ci := 12) (v := .int 0) (ty := .int) (C := RX12) (T := TX12) (N := 87) hx hb hts ui_X12_most_X12 tyX12 tyX12_ok nmX12 hown hK hP hD hS 0 rfl rfl 0 (by decide) (hts (.fieldLink RX12 169 "CodeLifterModel" "thrown" "I") (by decide +kernel)) (fun _ h9 => h9) rfl (by decide +kernel) rfl rfl (Nat.le_of_ble_eq_true rfl) dX12_most_2 (fun H locs hP hD hS => ?_)
  have hP : va_P (dC, dI) vwCl [(h0, .inr (12, mF g 0 0 0 0 0))] H := hP
  have hD : va_D A [(h0, .inr (12, mF g 0 0 0 0 0))] := hD
  refine lv_aload_n hx hb dX12_most_5 rfl (lv_at hl 0 rfl) ?_
  refine va_get (D := (dC, dI)) (ci := 12) (v := .int 0) (C := RX12) (T := TX12) (N := 87) hx hb hts ui_X12_most_X12 hown hK hP 0 rfl rfl 21 (by decide) (hts (.fieldLink RX12 292 "CodeLifterModel" "isThere" "Z") (by decide +kernel)) (fun _ h9 => h9) rfl dX12_most_6 ?_
  refine lv_if_ne (tgt := 16) hx hb dX12_most_9 (by decide) (fun c_1 => absurd (by decide) c_1) (fun c_1 => ?_)
  refine lv_ldcw hx hb hown (hts (.constant RX12 614 (-1000000)) (by decide +kernel)) dX12_most_12 ?_
  refine W.widen (k := 0) (n := 0) (Nat.le_of_ble_eq_true rfl) (Nat.le_of_ble_eq_true rfl) ?_
  exact W.iret (v := (-1000000)) hx hb hr (fun t ht hW => ⟨⟨(-1000000), (), rfl, rfl, trivial⟩, hS.F ht⟩) hS.2.2 dX12_most_15

def us_X12_instruction_ : List Cond := .code yX12_instruction_ cX12_instruction_ 3 (some .int) :: ([.fieldLink RX12 292 "CodeLifterModel" "isThere" "Z", .fieldLink RX12 169 "CodeLifterModel" "thrown" "I"] ++ wsX120)
theorem ui_X12_instruction__X12 : ∀ w ∈ wsX120, w ∈ us_X12_instruction_ := fun _ h => List.mem_cons_of_mem _ (List.mem_append_right _ h)
set_option maxHeartbeats 8000000 in
set_option maxRecDepth 100000 in
/-- the reference's instruction_ on a new object -/
theorem c_X12_instruction_ (l : Launch) (dC : Nat → ClassId) (dI : Nat → Nat → Nat) (sz : Nat) (h0 : Nat) (g : Nat → Nat) (p0 : Int32) (p1 : Int32) : Met l yX12_instruction_ us_X12_instruction_ ({ frames := 1, cells := 0, slots := 0, locals := 25 }) (va_Pc [.ref h0, .int p0, .int p1] (fun U => U.heap.size = sz ∧ va_P (dC, dI) vwCl [(h0, .inr (12, mF g 0 0 0 0 0))] U.heap ∧ va_K (dC, dI) vwCl [] U ∧ va_D (fun _ => True) [(h0, .inr (12, mF g 0 0 0 0 0))])) (va_Qi (fun (r : Int32) (u : Unit) => True) (fun (u : Unit) (t : State) => va_P (dC, dI) vwCl [(h0, .inr (12, mF g 1 0 0 0 0))] t.heap ∧ va_D (va_A [(h0, .inr (12, mF g 0 0 0 0 0))] sz) [(h0, .inr (12, mF g 1 0 0 0 0))]) (va_A [(h0, .inr (12, mF g 0 0 0 0 0))] sz)) 0 0 (va_A [(h0, .inr (12, mF g 0 0 0 0 0))] sz) := by
  refine Met.ofW (cc := cX12_instruction_) (maxL := 3) (ret := (some .int)) (by decide) rfl ?_
  intro p e s m args below meth c s₁ B hml hv
  obtain ⟨rfl, hsz, hP, hK, hD0⟩ := hv
  have hx := B.exec
  have hb := B.bytes
  have hr := B.returns
  have hts := atoms_spec (ws := us_X12_instruction_) B.pre
  have hown : s.vm.findClass RX12 = some m.cls := findClass_of_methodNamed B.named
  have hlocks := B.notSynchronized
  subst hsz
  have hD := hD0.self (sz := s.heap.size)
  generalize hAe : va_A [(h0, .inr (12, mF g 0 0 0 0 0))] s.heap.size = A at hD ⊢
  have hA : ∀ q : Nat, s.heap.size ≤ q → A q := fun q h => by rw [← hAe]; exact Or.inr h
  have hS : va_S A s.heap s.heap [] := va_S.rf
  have hP : va_P (dC, dI) vwCl [(h0, .inr (12, mF g 0 0 0 0 0))] s.heap := hP
  have hl := lv_entry ([.ref h0, .int p0, .int p1]) (n := 3) (Nat.le_of_ble_eq_true rfl)
  rw [lg_entry_eq]
  generalize (lg_sl ([.ref h0, .int p0, .int p1]) ++ List.replicate (3 - (lg_sl ([.ref h0, .int p0, .int p1])).length) Slot.unset).toArray = ls at hl ⊢
  have hl : lv_has ls 3 [(0, .ref h0), (1, .int p0), (2, .int p1)] := hl
  refine lv_aload_n hx hb dX12_instruction__0 rfl (lv_at hl 0 rfl) ?_
  refine lv_aload_n hx hb dX12_instruction__1 rfl (lv_at hl 0 rfl) ?_
  refine va_get (D := (dC, dI)) (ci := 12) (v := .int 0) (C := RX12) (T := TX12) (N := 87) hx hb hts ui_X12_instruction__X12 hown hK hP 0 rfl rfl 21 (by decide) (hts (.fieldLink RX12 292 "CodeLifterModel" "isThere" "Z") (by decide +kernel)) (fun _ h9 => h9) rfl dX12_instruction__2 ?_
  refine lv_if_eq (tgt := 40) hx hb dX12_instruction__5 (by decide) (fun c_1 => ?_) (fun c_1 => absurd (by decide) c_1)
  refine lv_iconst (v := 1) hx hb dX12_instruction__40 (by decide) ?_
  refine va_put (D := (dC, dI)) (ci := 12) (v := .int 1) (ty := .int) (C := RX12) (T := TX12) (N := 87) hx hb hts ui_X12_instruction__X12 tyX12 tyX12_ok nmX12 hown hK hP hD hS 0 rfl rfl 0 (by decide) (hts (.fieldLink RX12 169 "CodeLifterModel" "thrown" "I") (by decide +kernel)) (fun _ h9 => h9) rfl (by decide +kernel) rfl rfl (Nat.le_of_ble_eq_true rfl) dX12_instruction__41 (fun H locs hP hD hS => ?_)
  have hP : va_P (dC, dI) vwCl [(h0, .inr (12, mF g 1 0 0 0 0))] H := hP
  have hD : va_D A [(h0, .inr (12, mF g 1 0 0 0 0))] := hD
  refine lv_aload_n hx hb dX12_instruction__44 rfl (lv_at hl 0 rfl) ?_
  refine va_get (D := (dC, dI)) (ci := 12) (v := .int 1) (C := RX12) (T := TX12) (N := 87) hx hb hts ui_X12_instruction__X12 hown hK hP 0 rfl rfl 0 (by decide) (hts (.fieldLink RX12 169 "CodeLifterModel" "thrown" "I") (by decide +kernel)) (fun _ h9 => h9) rfl dX12_instruction__45 ?_
  refine lv_if_le (tgt := 53) hx hb dX12_instruction__48 (by decide) (fun c_2 => absurd c_2 (by decide)) (fun c_2 => ?_)
  refine lv_iconst (v := 0) hx hb dX12_instruction__51 (by decide) ?_
  have hP9 := hP
  have hD9 := hD
  refine W.widen (k := 0) (n := 0) (Nat.le_of_ble_eq_true rfl) (Nat.le_of_ble_eq_true rfl) ?_
  exact W.iret (v := 0) hx hb hr (fun t ht hW => ⟨⟨0, (), rfl, trivial, ⟨by rw [ht]; exact hP9, by first | exact hD9 | (rw [hAe]; exact hD9)⟩⟩, hS.F ht⟩) hS.2.2 dX12_instruction__52

def us_X12_block : List Cond := .code yX12_block cX12_block 3 (some .int) :: (([.methodLink RX12 615 yX12_isBlock, .instanceMethod yX12_isBlock, .selects RX12 yX12_isBlock yX12_isBlock, .initialized RX12, .fieldLink RX12 169 "CodeLifterModel" "thrown" "I"] ++ wsX120) ++ us_X12_isBlock)
theorem ui_X12_block_X12 : ∀ w ∈ wsX120, w ∈ us_X12_block := fun _ h => List.mem_cons_of_mem _ (List.mem_append_left _ (List.mem_append_right _ h))
set_option maxRecDepth 20000 in
theorem ugg_X12_block_X12_isBlock : GoodIn us_X12_block us_X12_isBlock := goodIn_sub (fun _ h => List.mem_cons_of_mem _ (List.mem_append_right _ h)) (by decide +kernel)
set_option maxRecDepth 20000 in
theorem ug_X12_block_X12_isBlock : GoodIn us_X12_block (wsV RX12 615 RX12 yX12_isBlock us_X12_isBlock) := goodIn_app (goodIn_of _ (by decide +kernel)) ugg_X12_block_X12_isBlock
set_option maxHeartbeats 8000000 in
set_option maxRecDepth 100000 in
/-- the reference's block on a new object -/
theorem c_X12_block (l : Launch) (dC : Nat → ClassId) (dI : Nat → Nat → Nat) (sz : Nat) (h0 : Nat) (g : Nat → Nat) (p0 : Int32) (p1 : Int32) : Met l yX12_block us_X12_block ({ frames := 1, cells := 0, slots := 0, locals := 25 }) (va_Pc [.ref h0, .int p0, .int p1] (fun U => U.heap.size = sz ∧ va_P (dC, dI) vwCl [(h0, .inr (12, mF g 0 0 0 0 0))] U.heap ∧ va_K (dC, dI) vwCl [] U ∧ va_D (fun _ => True) [(h0, .inr (12, mF g 0 0 0 0 0))])) (va_Qi (fun (r : Int32) (u : Unit) => True) (fun (u : Unit) (t : State) => va_P (dC, dI) vwCl [(h0, .inr (12, mF g 1 0 0 0 0))] t.heap ∧ va_D (va_A [(h0, .inr (12, mF g 0 0 0 0 0))] sz) [(h0, .inr (12, mF g 1 0 0 0 0))]) (va_A [(h0, .inr (12, mF g 0 0 0 0 0))] sz)) 0 0 (va_A [(h0, .inr (12, mF g 0 0 0 0 0))] sz) := by
  refine Met.ofW (cc := cX12_block) (maxL := 3) (ret := (some .int)) (by decide) rfl ?_
  intro p e s m args below meth c s₁ B hml hv
  obtain ⟨rfl, hsz, hP, hK, hD0⟩ := hv
  have hx := B.exec
  have hb := B.bytes
  have hr := B.returns
  have hts := atoms_spec (ws := us_X12_block) B.pre
  have hown : s.vm.findClass RX12 = some m.cls := findClass_of_methodNamed B.named
  have hlocks := B.notSynchronized
  subst hsz
  have hD := hD0.self (sz := s.heap.size)
  generalize hAe : va_A [(h0, .inr (12, mF g 0 0 0 0 0))] s.heap.size = A at hD ⊢
  have hA : ∀ q : Nat, s.heap.size ≤ q → A q := fun q h => by rw [← hAe]; exact Or.inr h
  have hS : va_S A s.heap s.heap [] := va_S.rf
  have hP : va_P (dC, dI) vwCl [(h0, .inr (12, mF g 0 0 0 0 0))] s.heap := hP
  have hl := lv_entry ([.ref h0, .int p0, .int p1]) (n := 3) (Nat.le_of_ble_eq_true rfl)
  rw [lg_entry_eq]
  generalize (lg_sl ([.ref h0, .int p0, .int p1]) ++ List.replicate (3 - (lg_sl ([.ref h0, .int p0, .int p1])).length) Slot.unset).toArray = ls at hl ⊢
  have hl : lv_has ls 3 [(0, .ref h0), (1, .int p0), (2, .int p1)] := hl
  refine lv_aload_n hx hb dX12_block_0 rfl (lv_at hl 0 rfl) ?_
  refine lv_aload_n hx hb dX12_block_1 rfl (lv_at hl 0 rfl) ?_
  refine lv_iload_n hx hb dX12_block_2 rfl (lv_at hl 1 rfl) ?_
  have hPc := hP.sub (ws' := [(h0, .inr (12, mF g 0 0 0 0 0))]) [0] rfl
  have hDc := hD.sub (ws' := [(h0, .inr (12, mF g 0 0 0 0 0))]) [0] (by decide) rfl
  have hKc := hK.sub (tys' := []) [] rfl
  have hFc := va_free (wc := [(h0, .inr (12, mF g 0 0 0 0 0))]) hD hS hA [0] rfl
  refine va_calli (va_runV (As := [.int p0]) (rest := [.ref h0]) ⟨hx, hb, hml, hown, hts⟩ (c_X12_isBlock l dC dI s.heap.size h0 g p0) (cwV 1 hts ug_X12_block_X12_isBlock rfl rfl rfl (by decide +kernel) ⟨Nat.le_of_ble_eq_true rfl, Nat.le_of_ble_eq_true rfl⟩) ⟨fun a U g mk q => by obtain ⟨q0, q1, qP, qK, qD⟩ := q; exact ⟨q0, q1, qP, va_K.moved (u := U) (U := U.calling g mk a) (Vm.Alike.refl U.vm) qK, qD⟩, va_recv hKc hPc (ci := 12) (q0 := 0) rfl rfl, fun U hU hW => ⟨rfl, by rw [hU], by rw [hU]; exact hPc, va_K.moved hW.alike hKc, hDc.weaken (fun _ _ _ _ => trivial)⟩⟩ rfl rfl hl.1 rfl (lv_room (Nat.le_of_ble_eq_true rfl)) dX12_block_3 ⟨Nat.le_of_ble_eq_true rfl, Nat.le_of_ble_eq_true rfl⟩) hS (fun q _ h => hFc q h) hFc (fun r_1 u t H locs ht hvm hw hB hz1 hk1 hS => ?_)
  obtain ⟨hP1, hD1⟩ := hB
  rw [ht] at hP1
  obtain ⟨hP, hD⟩ := va_join (wr := []) (w1 := [(h0, .inr (12, mF g 0 0 0 0 0))]) hP hD [0] [] rfl rfl (by decide) (by decide) hk1 hFc hP1 hD1
  clear hPc hDc hFc hk1 hz1
  have hP : va_P (dC, dI) vwCl [(h0, .inr (12, mF g 0 0 0 0 0))] H := hP
  have hD : va_D A [(h0, .inr (12, mF g 0 0 0 0 0))] := hD
  obtain rfl := hw
  refine lv_if_eq (tgt := 25) hx hb dX12_block_6 (by decide) (fun c_2 => ?_) (fun c_2 => absurd (by decide) c_2)
  refine lv_iconst (v := 1) hx hb dX12_block_25 (by decide) ?_
  refine va_put (D := (dC, dI)) (ci := 12) (v := .int 1) (ty := .int) (C := RX12) (T := TX12) (N := 87) hx hb hts ui_X12_block_X12 tyX12 tyX12_ok nmX12 hown hK hP hD hS 0 rfl rfl 0 (by decide) (hts (.fieldLink RX12 169 "CodeLifterModel" "thrown" "I") (by decide +kernel)) (fun _ h9 => h9) rfl (by decide +kernel) rfl rfl (Nat.le_of_ble_eq_true rfl) dX12_block_26 (fun H locs hP hD hS => ?_)
  have hP : va_P (dC, dI) vwCl [(h0, .inr (12, mF g 1 0 0 0 0))] H := hP
  have hD : va_D A [(h0, .inr (12, mF g 1 0 0 0 0))] := hD
  refine lv_aload_n hx hb dX12_block_29 rfl (lv_at hl 0 rfl) ?_
  refine va_get (D := (dC, dI)) (ci := 12) (v := .int 1) (C := RX12) (T := TX12) (N := 87) hx hb hts ui_X12_block_X12 hown hK hP 0 rfl rfl 0 (by decide) (hts (.fieldLink RX12 169 "CodeLifterModel" "thrown" "I") (by decide +kernel)) (fun _ h9 => h9) rfl dX12_block_30 ?_
  refine lv_if_le (tgt := 38) hx hb dX12_block_33 (by decide) (fun c_3 => absurd c_3 (by decide)) (fun c_3 => ?_)
  refine lv_iconst (v := 0) hx hb dX12_block_36 (by decide) ?_
  have hP9 := hP
  have hD9 := hD
  refine W.widen (k := 0) (n := 0) (Nat.le_of_ble_eq_true rfl) (Nat.le_of_ble_eq_true rfl) ?_
  exact W.iret (v := 0) hx hb hr (fun t ht hW => ⟨⟨0, (), rfl, trivial, ⟨by rw [ht]; exact hP9, by first | exact hD9 | (rw [hAe]; exact hD9)⟩⟩, hS.F ht⟩) hS.2.2 dX12_block_37

def us_X12_thrown : List Cond := .code yX12_thrown cX12_thrown 1 (some .int) :: ([.fieldLink RX12 169 "CodeLifterModel" "thrown" "I"] ++ wsX120)
theorem ui_X12_thrown_X12 : ∀ w ∈ wsX120, w ∈ us_X12_thrown := fun _ h => List.mem_cons_of_mem _ (List.mem_append_right _ h)
set_option maxHeartbeats 8000000 in
set_option maxRecDepth 100000 in
/-- the reference's thrown on a new object -/
theorem c_X12_thrown (l : Launch) (dC : Nat → ClassId) (dI : Nat → Nat → Nat) (sz : Nat) (h0 : Nat) (g : Nat → Nat)  : Met l yX12_thrown us_X12_thrown ({ frames := 0, cells := 0, slots := 0, locals := 0 }) (va_Pc [.ref h0] (fun U => U.heap.size = sz ∧ va_P (dC, dI) vwCl [(h0, .inr (12, mF g 1 0 0 0 0))] U.heap ∧ va_K (dC, dI) vwCl [] U ∧ va_D (fun _ => True) [(h0, .inr (12, mF g 1 0 0 0 0))])) (va_Qi (fun (r : Int32) (u : Unit) => r = 1) (fun (u : Unit) (t : State) => True) (va_A [(h0, .inr (12, mF g 1 0 0 0 0))] sz)) 0 0 (va_A [(h0, .inr (12, mF g 1 0 0 0 0))] sz) := by
  refine Met.ofW (cc := cX12_thrown) (maxL := 1) (ret := (some .int)) (by decide) rfl ?_
  intro p e s m args below meth c s₁ B hml hv
  obtain ⟨rfl, hsz, hP, hK, hD0⟩ := hv
  have hx := B.exec
  have hb := B.bytes
  have hr := B.returns
  have hts := atoms_spec (ws := us_X12_thrown) B.pre
  have hown : s.vm.findClass RX12 = some m.cls := findClass_of_methodNamed B.named
  have hlocks := B.notSynchronized
  subst hsz
  have hD := hD0.self (sz := s.heap.size)
  generalize hAe : va_A [(h0, .inr (12, mF g 1 0 0 0 0))] s.heap.size = A at hD ⊢
  have hA : ∀ q : Nat, s.heap.size ≤ q → A q := fun q h => by rw [← hAe]; exact Or.inr h
  have hS : va_S A s.heap s.heap [] := va_S.rf
  have hP : va_P (dC, dI) vwCl [(h0, .inr (12, mF g 1 0 0 0 0))] s.heap := hP
  have hl := lv_entry ([.ref h0]) (n := 1) (Nat.le_of_ble_eq_true rfl)
  rw [lg_entry_eq]
  generalize (lg_sl ([.ref h0]) ++ List.replicate (1 - (lg_sl ([.ref h0])).length) Slot.unset).toArray = ls at hl ⊢
  have hl : lv_has ls 1 [(0, .ref h0)] := hl
  refine lv_aload_n hx hb dX12_thrown_0 rfl (lv_at hl 0 rfl) ?_
  refine va_get (D := (dC, dI)) (ci := 12) (v := .int 1) (C := RX12) (T := TX12) (N := 87) hx hb hts ui_X12_thrown_X12 hown hK hP 0 rfl rfl 0 (by decide) (hts (.fieldLink RX12 169 "CodeLifterModel" "thrown" "I") (by decide +kernel)) (fun _ h9 => h9) rfl dX12_thrown_1 ?_
  refine W.widen (k := 0) (n := 0) (Nat.le_of_ble_eq_true rfl) (Nat.le_of_ble_eq_true rfl) ?_
  exact W.iret (v := 1) hx hb hr (fun t ht hW => ⟨⟨1, (), rfl, rfl, trivial⟩, hS.F ht⟩) hS.2.2 dX12_thrown_4

def us_X12_feed : List Cond := .code yX12_feed cX12_feed 6 (some .int) :: ((([.fieldLink RX12 169 "CodeLifterModel" "thrown" "I", .fieldLink RX12 177 "CodeLifterModel" "length" "I", .methodLink RX12 180 yX12_bytesOf, .static yX12_bytesOf, .initialized RX12, .methodLink RX12 184 yX12_brings, .instanceMethod yX12_brings, .selects RX12 yX12_brings yX12_brings] ++ wsX120) ++ us_X12_bytesOf) ++ us_X12_brings)
theorem ui_X12_feed_X12 : ∀ w ∈ wsX120, w ∈ us_X12_feed := fun _ h => List.mem_cons_of_mem _ (List.mem_append_left _ (List.mem_append_left _ (List.mem_append_right _ h)))
set_option maxRecDepth 20000 in
theorem ugg_X12_feed_X12_bytesOf : GoodIn us_X12_feed us_X12_bytesOf := goodIn_sub (fun _ h => List.mem_cons_of_mem _ (List.mem_append_left _ (List.mem_append_right _ h))) (by decide +kernel)
set_option maxRecDepth 20000 in
theorem ug_X12_feed_X12_bytesOf : GoodIn us_X12_feed (va_wsS RX12 180 yX12_bytesOf us_X12_bytesOf) := goodIn_app (goodIn_of _ (by decide +kernel)) ugg_X12_feed_X12_bytesOf
set_option maxRecDepth 20000 in
theorem ugg_X12_feed_X12_brings : GoodIn us_X12_feed us_X12_brings := goodIn_sub (fun _ h => List.mem_cons_of_mem _ (List.mem_append_right _ h)) (by decide +kernel)
set_option maxRecDepth 20000 in
theorem ug_X12_feed_X12_brings : GoodIn us_X12_feed (wsV RX12 184 RX12 yX12_brings us_X12_brings) := goodIn_app (goodIn_of _ (by decide +kernel)) ugg_X12_feed_X12_brings
set_option maxHeartbeats 8000000 in
set_option maxRecDepth 100000 in
/-- the reference's feed on a new object -/
theorem c_X12_feed (l : Launch) (dC : Nat → ClassId) (dI : Nat → Nat → Nat) (sz : Nat) (h0 : Nat) (g : Nat → Nat) (p0 : Int32) (p1 : Int32) (p2 : Int32) (p3 : Int32) (p4 : Int32) (cB : ClassId) : Met l yX12_feed us_X12_feed ({ frames := 1, cells := 0, slots := 0, locals := 23 }) (va_Pc [.ref h0, .int p0, .int p1, .int p2, .int p3, .int p4] (fun U => U.heap.size = sz ∧ va_P (dC, dI) vwCl [(h0, .inr (12, mF g 0 0 0 0 0)), ((g 0), .inl (cB, 240, .inl (fun _ => 0)))] U.heap ∧ va_K (dC, dI) vwCl [(cB, .byte)] U ∧ va_D (fun _ => True) [(h0, .inr (12, mF g 0 0 0 0 0)), ((g 0), .inl (cB, 240, .inl (fun _ => 0)))])) (va_Qi (fun (r : Int32) (u : Unit) => r = nI (0 + zn p0 4 + zn p1 4 + zn p2 4 + zn p3 4 + zn p4 4)) (fun (u : Unit) (t : State) => True) (va_A [(h0, .inr (12, mF g 0 0 0 0 0)), ((g 0), .inl (cB, 240, .inl (fun _ => 0)))] sz)) 0 0 (va_A [(h0, .inr (12, mF g 0 0 0 0 0)), ((g 0), .inl (cB, 240, .inl (fun _ => 0)))] sz) := by
  refine Met.ofW (cc := cX12_feed) (maxL := 6) (ret := (some .int)) (by decide) rfl ?_
  intro p e s m args below meth c s₁ B hml hv
  obtain ⟨rfl, hsz, hP, hK, hD0⟩ := hv
  have hx := B.exec
  have hb := B.bytes
  have hr := B.returns
  have hts := atoms_spec (ws := us_X12_feed) B.pre
  have hown : s.vm.findClass RX12 = some m.cls := findClass_of_methodNamed B.named
  have hlocks := B.notSynchronized
  subst hsz
  have hD := hD0.self (sz := s.heap.size)
  generalize hAe : va_A [(h0, .inr (12, mF g 0 0 0 0 0)), ((g 0), .inl (cB, 240, .inl (fun _ => 0)))] s.heap.size = A at hD ⊢
  have hA : ∀ q : Nat, s.heap.size ≤ q → A q := fun q h => by rw [← hAe]; exact Or.inr h
  have hS : va_S A s.heap s.heap [] := va_S.rf
  have hP : va_P (dC, dI) vwCl [(h0, .inr (12, mF g 0 0 0 0 0)), ((g 0), .inl (cB, 240, .inl (fun _ => 0)))] s.heap := hP
  have hl := lv_entry ([.ref h0, .int p0, .int p1, .int p2, .int p3, .int p4]) (n := 6) (Nat.le_of_ble_eq_true rfl)
  rw [lg_entry_eq]
  generalize (lg_sl ([.ref h0, .int p0, .int p1, .int p2, .int p3, .int p4]) ++ List.replicate (6 - (lg_sl ([.ref h0, .int p0, .int p1, .int p2, .int p3, .int p4])).length) Slot.unset).toArray = ls at hl ⊢
  have hl : lv_has ls 6 [(0, .ref h0), (1, .int p0), (2, .int p1), (3, .int p2), (4, .int p3), (5, .int p4)] := hl
  refine lv_aload_n hx hb dX12_feed_0 rfl (lv_at hl 0 rfl) ?_
  refine lv_iconst (v := 0) hx hb dX12_feed_1 (by decide) ?_
  refine va_put (D := (dC, dI)) (ci := 12) (v := .int 0) (ty := .int) (C := RX12) (T := TX12) (N := 87) hx hb hts ui_X12_feed_X12 tyX12 tyX12_ok nmX12 hown hK hP hD hS 0 rfl rfl 0 (by decide) (hts (.fieldLink RX12 169 "CodeLifterModel" "thrown" "I") (by decide +kernel)) (fun _ h9 => h9) rfl (by decide +kernel) rfl rfl (Nat.le_of_ble_eq_true rfl) dX12_feed_2 (fun H locs hP hD hS => ?_)
  have hP : va_P (dC, dI) vwCl [(h0, .inr (12, mF g 0 0 0 0 0)), ((g 0), .inl (cB, 240, .inl (fun _ => 0)))] H := hP
  have hD : va_D A [(h0, .inr (12, mF g 0 0 0 0 0)), ((g 0), .inl (cB, 240, .inl (fun _ => 0)))] := hD
  refine lv_aload_n hx hb dX12_feed_5 rfl (lv_at hl 0 rfl) ?_
  refine va_get (D := (dC, dI)) (ci := 12) (v := .int 0) (C := RX12) (T := TX12) (N := 87) hx hb hts ui_X12_feed_X12 hown hK hP 0 rfl rfl 2 (by decide) (hts (.fieldLink RX12 177 "CodeLifterModel" "length" "I") (by decide +kernel)) (fun _ h9 => h9) rfl dX12_feed_6 ?_
  refine lv_iload_n hx hb dX12_feed_9 rfl (lv_at hl 1 rfl) ?_
  have hPc := hP.sub (ws' := []) [] rfl
  have hDc := hD.sub (ws' := []) [] (by decide) rfl
  have hKc := hK.sub (tys' := []) [] rfl
  have hFc := va_free (wc := []) hD hS hA [] rfl
  refine va_calli (va_runS (As := [.int p0]) (rest := [.int 0]) ⟨hx, hb, hml, hown, hts⟩ (c_X12_bytesOf l dC dI H.size p0) (va_cwS 1 hts ug_X12_feed_X12_bytesOf rfl rfl rfl (by decide +kernel) ⟨Nat.le_of_ble_eq_true rfl, Nat.le_of_ble_eq_true rfl⟩) ⟨fun a U g mk q => by obtain ⟨q0, q1, qP, qK, qD⟩ := q; exact ⟨q0, q1, qP, va_K.moved (u := U) (U := U.calling g mk a) (Vm.Alike.refl U.vm) qK, qD⟩, fun U hU hW => ⟨rfl, by rw [hU], by rw [hU]; exact hPc, va_K.moved hW.alike hKc, hDc.weaken (fun _ _ _ _ => trivial)⟩⟩ rfl rfl hl.1 rfl (lv_room (Nat.le_of_ble_eq_true rfl)) dX12_feed_10 ⟨Nat.le_of_ble_eq_true rfl, Nat.le_of_ble_eq_true rfl⟩) hS (fun q _ h => hFc q h) hFc (fun r_1 u t H locs ht hvm hw hB hz1 hk1 hS => ?_)
  obtain ⟨hP, hD⟩ := va_join (wr := [(h0, .inr (12, mF g 0 0 0 0 0)), ((g 0), .inl (cB, 240, .inl (fun _ => 0)))]) (w1 := []) hP hD [] [0, 1] rfl rfl (by decide) (by decide) hk1 hFc p_nil d_nil
  clear hPc hDc hFc hk1 hz1
  have hP : va_P (dC, dI) vwCl [(h0, .inr (12, mF g 0 0 0 0 0)), ((g 0), .inl (cB, 240, .inl (fun _ => 0)))] H := hP
  have hD : va_D A [(h0, .inr (12, mF g 0 0 0 0 0)), ((g 0), .inl (cB, 240, .inl (fun _ => 0)))] := hD
  obtain rfl := hw
  refine lv_iadd hx hb dX12_feed_13 ?_
  refine lv_topi (fun v_2 e_2 => ?_)
  obtain rfl : v_2 = (nI (0 + zn p0 4)) := by rw [e_2]; exact nI_add 0 (zn p0 4)
  refine lv_iload_n hx hb dX12_feed_14 rfl (lv_at hl 2 rfl) ?_
  have hPc := hP.sub (ws' := []) [] rfl
  have hDc := hD.sub (ws' := []) [] (by decide) rfl
  have hKc := hK.sub (tys' := []) [] rfl
  have hFc := va_free (wc := []) hD hS hA [] rfl
  refine va_calli (va_runS (As := [.int p1]) (rest := [.int (nI (0 + zn p0 4))]) ⟨hx, hb, hml, hown, hts⟩ (c_X12_bytesOf l dC dI H.size p1) (va_cwS 1 hts ug_X12_feed_X12_bytesOf rfl rfl rfl (by decide +kernel) ⟨Nat.le_of_ble_eq_true rfl, Nat.le_of_ble_eq_true rfl⟩) ⟨fun a U g mk q => by obtain ⟨q0, q1, qP, qK, qD⟩ := q; exact ⟨q0, q1, qP, va_K.moved (u := U) (U := U.calling g mk a) (Vm.Alike.refl U.vm) qK, qD⟩, fun U hU hW => ⟨rfl, by rw [hU], by rw [hU]; exact hPc, va_K.moved hW.alike hKc, hDc.weaken (fun _ _ _ _ => trivial)⟩⟩ rfl rfl hl.1 rfl (lv_room (Nat.le_of_ble_eq_true rfl)) dX12_feed_15 ⟨Nat.le_of_ble_eq_true rfl, Nat.le_of_ble_eq_true rfl⟩) hS (fun q _ h => hFc q h) hFc (fun r_3 u t H locs ht hvm hw hB hz1 hk1 hS => ?_)
  obtain ⟨hP, hD⟩ := va_join (wr := [(h0, .inr (12, mF g 0 0 0 0 0)), ((g 0), .inl (cB, 240, .inl (fun _ => 0)))]) (w1 := []) hP hD [] [0, 1] rfl rfl (by decide) (by decide) hk1 hFc p_nil d_nil
  clear hPc hDc hFc hk1 hz1
  have hP : va_P (dC, dI) vwCl [(h0, .inr (12, mF g 0 0 0 0 0)), ((g 0), .inl (cB, 240, .inl (fun _ => 0)))] H := hP
  have hD : va_D A [(h0, .inr (12, mF g 0 0 0 0 0)), ((g 0), .inl (cB, 240, .inl (fun _ => 0)))] := hD
  obtain rfl := hw
  refine lv_iadd hx hb dX12_feed_18 ?_
  refine lv_topi (fun v_4 e_4 => ?_)
  obtain rfl : v_4 = (nI (0 + zn p0 4 + zn p1 4)) := by rw [e_4]; exact nI_add (0 + zn p0 4) (zn p1 4)
  refine lv_iload_n hx hb dX12_feed_19 rfl (lv_at hl 3 rfl) ?_
  have hPc := hP.sub (ws' := []) [] rfl
  have hDc := hD.sub (ws' := []) [] (by decide) rfl
  have hKc := hK.sub (tys' := []) [] rfl
  have hFc := va_free (wc := []) hD hS hA [] rfl
  refine va_calli (va_runS (As := [.int p2]) (rest := [.int (nI (0 + zn p0 4 + zn p1 4))]) ⟨hx, hb, hml, hown, hts⟩ (c_X12_bytesOf l dC dI H.size p2) (va_cwS 1 hts ug_X12_feed_X12_bytesOf rfl rfl rfl (by decide +kernel) ⟨Nat.le_of_ble_eq_true rfl, Nat.le_of_ble_eq_true rfl⟩) ⟨fun a U g mk q => by obtain ⟨q0, q1, qP, qK, qD⟩ := q; exact ⟨q0, q1, qP, va_K.moved (u := U) (U := U.calling g mk a) (Vm.Alike.refl U.vm) qK, qD⟩, fun U hU hW => ⟨rfl, by rw [hU], by rw [hU]; exact hPc, va_K.moved hW.alike hKc, hDc.weaken (fun _ _ _ _ => trivial)⟩⟩ rfl rfl hl.1 rfl (lv_room (Nat.le_of_ble_eq_true rfl)) dX12_feed_20 ⟨Nat.le_of_ble_eq_true rfl, Nat.le_of_ble_eq_true rfl⟩) hS (fun q _ h => hFc q h) hFc (fun r_5 u t H locs ht hvm hw hB hz1 hk1 hS => ?_)
  obtain ⟨hP, hD⟩ := va_join (wr := [(h0, .inr (12, mF g 0 0 0 0 0)), ((g 0), .inl (cB, 240, .inl (fun _ => 0)))]) (w1 := []) hP hD [] [0, 1] rfl rfl (by decide) (by decide) hk1 hFc p_nil d_nil
  clear hPc hDc hFc hk1 hz1
  have hP : va_P (dC, dI) vwCl [(h0, .inr (12, mF g 0 0 0 0 0)), ((g 0), .inl (cB, 240, .inl (fun _ => 0)))] H := hP
  have hD : va_D A [(h0, .inr (12, mF g 0 0 0 0 0)), ((g 0), .inl (cB, 240, .inl (fun _ => 0)))] := hD
  obtain rfl := hw
  refine lv_iadd hx hb dX12_feed_23 ?_
  refine lv_topi (fun v_6 e_6 => ?_)
  obtain rfl : v_6 = (nI (0 + zn p0 4 + zn p1 4 + zn p2 4)) := by rw [e_6]; exact nI_add (0 + zn p0 4 + zn p1 4) (zn p2 4)
  refine lv_iload hx hb dX12_feed_24 (lv_at hl 4 rfl) ?_
  have hPc := hP.sub (ws' := []) [] rfl
  have hDc := hD.sub (ws' := []) [] (by decide) rfl
  have hKc := hK.sub (tys' := []) [] rfl
  have hFc := va_free (wc := []) hD hS hA [] rfl
  refine va_calli (va_runS (As := [.int p3]) (rest := [.int (nI (0 + zn p0 4 + zn p1 4 + zn p2 4))]) ⟨hx, hb, hml, hown, hts⟩ (c_X12_bytesOf l dC dI H.size p3) (va_cwS 1 hts ug_X12_feed_X12_bytesOf rfl rfl rfl (by decide +kernel) ⟨Nat.le_of_ble_eq_true rfl, Nat.le_of_ble_eq_true rfl⟩) ⟨fun a U g mk q => by obtain ⟨q0, q1, qP, qK, qD⟩ := q; exact ⟨q0, q1, qP, va_K.moved (u := U) (U := U.calling g mk a) (Vm.Alike.refl U.vm) qK, qD⟩, fun U hU hW => ⟨rfl, by rw [hU], by rw [hU]; exact hPc, va_K.moved hW.alike hKc, hDc.weaken (fun _ _ _ _ => trivial)⟩⟩ rfl rfl hl.1 rfl (lv_room (Nat.le_of_ble_eq_true rfl)) dX12_feed_26 ⟨Nat.le_of_ble_eq_true rfl, Nat.le_of_ble_eq_true rfl⟩) hS (fun q _ h => hFc q h) hFc (fun r_7 u t H locs ht hvm hw hB hz1 hk1 hS => ?_)
  obtain ⟨hP, hD⟩ := va_join (wr := [(h0, .inr (12, mF g 0 0 0 0 0)), ((g 0), .inl (cB, 240, .inl (fun _ => 0)))]) (w1 := []) hP hD [] [0, 1] rfl rfl (by decide) (by decide) hk1 hFc p_nil d_nil
  clear hPc hDc hFc hk1 hz1
  have hP : va_P (dC, dI) vwCl [(h0, .inr (12, mF g 0 0 0 0 0)), ((g 0), .inl (cB, 240, .inl (fun _ => 0)))] H := hP
  have hD : va_D A [(h0, .inr (12, mF g 0 0 0 0 0)), ((g 0), .inl (cB, 240, .inl (fun _ => 0)))] := hD
  obtain rfl := hw
  refine lv_iadd hx hb dX12_feed_29 ?_
  refine lv_topi (fun v_8 e_8 => ?_)
  obtain rfl : v_8 = (nI (0 + zn p0 4 + zn p1 4 + zn p2 4 + zn p3 4)) := by rw [e_8]; exact nI_add (0 + zn p0 4 + zn p1 4 + zn p2 4) (zn p3 4)
  refine lv_iload hx hb dX12_feed_30 (lv_at hl 5 rfl) ?_
  have hPc := hP.sub (ws' := []) [] rfl
  have hDc := hD.sub (ws' := []) [] (by decide) rfl
  have hKc := hK.sub (tys' := []) [] rfl
  have hFc := va_free (wc := []) hD hS hA [] rfl
  refine va_calli (va_runS (As := [.int p4]) (rest := [.int (nI (0 + zn p0 4 + zn p1 4 + zn p2 4 + zn p3 4))]) ⟨hx, hb, hml, hown, hts⟩ (c_X12_bytesOf l dC dI H.size p4) (va_cwS 1 hts ug_X12_feed_X12_bytesOf rfl rfl rfl (by decide +kernel) ⟨Nat.le_of_ble_eq_true rfl, Nat.le_of_ble_eq_true rfl⟩) ⟨fun a U g mk q => by obtain ⟨q0, q1, qP, qK, qD⟩ := q; exact ⟨q0, q1, qP, va_K.moved (u := U) (U := U.calling g mk a) (Vm.Alike.refl U.vm) qK, qD⟩, fun U hU hW => ⟨rfl, by rw [hU], by rw [hU]; exact hPc, va_K.moved hW.alike hKc, hDc.weaken (fun _ _ _ _ => trivial)⟩⟩ rfl rfl hl.1 rfl (lv_room (Nat.le_of_ble_eq_true rfl)) dX12_feed_32 ⟨Nat.le_of_ble_eq_true rfl, Nat.le_of_ble_eq_true rfl⟩) hS (fun q _ h => hFc q h) hFc (fun r_9 u t H locs ht hvm hw hB hz1 hk1 hS => ?_)
  obtain ⟨hP, hD⟩ := va_join (wr := [(h0, .inr (12, mF g 0 0 0 0 0)), ((g 0), .inl (cB, 240, .inl (fun _ => 0)))]) (w1 := []) hP hD [] [0, 1] rfl rfl (by decide) (by decide) hk1 hFc p_nil d_nil
  clear hPc hDc hFc hk1 hz1
  have hP : va_P (dC, dI) vwCl [(h0, .inr (12, mF g 0 0 0 0 0)), ((g 0), .inl (cB, 240, .inl (fun _ => 0)))] H := hP
  have hD : va_D A [(h0, .inr (12, mF g 0 0 0 0 0)), ((g 0), .inl (cB, 240, .inl (fun _ => 0)))] := hD
  obtain rfl := hw
  refine lv_iadd hx hb dX12_feed_35 ?_
  refine lv_topi (fun v_10 e_10 => ?_)
  obtain rfl : v_10 = (nI (0 + zn p0 4 + zn p1 4 + zn p2 4 + zn p3 4 + zn p4 4)) := by rw [e_10]; exact nI_add (0 + zn p0 4 + zn p1 4 + zn p2 4 + zn p3 4) (zn p4 4)
  refine lv_sipush (v := 240) hx hb dX12_feed_36 (by decide) ?_
  refine lv_icmp_le (tgt := 44) hx hb dX12_feed_39 (by decide) (fun c_11 => ?_) (fun c_11 => absurd (nI_le (b := 240) (by have := zn_le p0 4; have := zn_le p1 4; have := zn_le p2 4; have := zn_le p3 4; have := zn_le p4 4; omega) (by omega)) c_11)
  refine lv_aload_n hx hb dX12_feed_44 rfl (lv_at hl 0 rfl) ?_
  refine lv_iload_n hx hb dX12_feed_45 rfl (lv_at hl 1 rfl) ?_
  have hPc := hP.sub (ws' := [(h0, .inr (12, mF g 0 0 0 0 0)), ((g 0), .inl (cB, 240, .inl (fun _ => 0)))]) [0, 1] rfl
  have hDc := hD.sub (ws' := [(h0, .inr (12, mF g 0 0 0 0 0)), ((g 0), .inl (cB, 240, .inl (fun _ => 0)))]) [0, 1] (by decide) rfl
  have hKc := hK.sub (tys' := [(cB, .byte)]) [0] rfl
  have hFc := va_free (wc := [(h0, .inr (12, mF g 0 0 0 0 0)), ((g 0), .inl (cB, 240, .inl (fun _ => 0)))]) hD hS hA [0, 1] rfl
  refine va_callv (va_runV (As := [.int p0]) (rest := []) ⟨hx, hb, hml, hown, hts⟩ (c_X12_brings l dC dI H.size h0 (0) g p0 0 0 0 0 (fun _ => 0) cB (by have := zn_le p0 4; have := zn_le p1 4; have := zn_le p2 4; have := zn_le p3 4; have := zn_le p4 4; omega)) (cwV 1 hts ug_X12_feed_X12_brings rfl rfl rfl (by decide +kernel) ⟨Nat.le_of_ble_eq_true rfl, Nat.le_of_ble_eq_true rfl⟩) ⟨fun a U g mk q => by obtain ⟨q0, q1, qP, qK, qD⟩ := q; exact ⟨q0, q1, qP, va_K.moved (u := U) (U := U.calling g mk a) (Vm.Alike.refl U.vm) qK, qD⟩, va_recv hKc hPc (ci := 12) (q0 := 0) rfl rfl, fun U hU hW => ⟨rfl, by rw [hU], by rw [hU]; exact hPc, va_K.moved hW.alike hKc, hDc.weaken (fun _ _ _ _ => trivial)⟩⟩ rfl rfl hl.1 rfl (lv_room (Nat.le_of_ble_eq_true rfl)) dX12_feed_46 ⟨Nat.le_of_ble_eq_true rfl, Nat.le_of_ble_eq_true rfl⟩) hS (fun q _ h => hFc q h) hFc (fun u t H locs ht hvm hw hB hz1 hk1 hS => ?_)
  obtain ⟨f_12, hP1, hD1⟩ := hB
  rw [ht] at hP1
  obtain ⟨hP, hD⟩ := va_join (wr := []) (w1 := [(h0, .inr (12, mF g 0 (nI (0 + zn p0 4)) 0 0 0)), ((g 0), .inl (cB, 240, .inl f_12))]) hP hD [0, 1] [] rfl rfl (by decide) (by decide) hk1 hFc hP1 hD1
  clear hPc hDc hFc hk1 hz1
  have hP : va_P (dC, dI) vwCl [(h0, .inr (12, mF g 0 (nI (0 + zn p0 4)) 0 0 0)), ((g 0), .inl (cB, 240, .inl f_12))] H := hP
  have hD : va_D A [(h0, .inr (12, mF g 0 (nI (0 + zn p0 4)) 0 0 0)), ((g 0), .inl (cB, 240, .inl f_12))] := hD
  refine lv_aload_n hx hb dX12_feed_49 rfl (lv_at hl 0 rfl) ?_
  refine lv_iload_n hx hb dX12_feed_50 rfl (lv_at hl 2 rfl) ?_
  have hPc := hP.sub (ws' := [(h0, .inr (12, mF g 0 (nI (0 + zn p0 4)) 0 0 0)), ((g 0), .inl (cB, 240, .inl f_12))]) [0, 1] rfl
  have hDc := hD.sub (ws' := [(h0, .inr (12, mF g 0 (nI (0 + zn p0 4)) 0 0 0)), ((g 0), .inl (cB, 240, .inl f_12))]) [0, 1] (by decide) rfl
  have hKc := hK.sub (tys' := [(cB, .byte)]) [0] rfl
  have hFc := va_free (wc := [(h0, .inr (12, mF g 0 (nI (0 + zn p0 4)) 0 0 0)), ((g 0), .inl (cB, 240, .inl f_12))]) hD hS hA [0, 1] rfl
  refine va_callv (va_runV (As := [.int p1]) (rest := []) ⟨hx, hb, hml, hown, hts⟩ (c_X12_brings l dC dI H.size h0 (0 + zn p0 4) g p1 0 0 0 0 f_12 cB (by have := zn_le p0 4; have := zn_le p1 4; have := zn_le p2 4; have := zn_le p3 4; have := zn_le p4 4; omega)) (cwV 1 hts ug_X12_feed_X12_brings rfl rfl rfl (by decide +kernel) ⟨Nat.le_of_ble_eq_true rfl, Nat.le_of_ble_eq_true rfl⟩) ⟨fun a U g mk q => by obtain ⟨q0, q1, qP, qK, qD⟩ := q; exact ⟨q0, q1, qP, va_K.moved (u := U) (U := U.calling g mk a) (Vm.Alike.refl U.vm) qK, qD⟩, va_recv hKc hPc (ci := 12) (q0 := 0) rfl rfl, fun U hU hW => ⟨rfl, by rw [hU], by rw [hU]; exact hPc, va_K.moved hW.alike hKc, hDc.weaken (fun _ _ _ _ => trivial)⟩⟩ rfl rfl hl.1 rfl (lv_room (Nat.le_of_ble_eq_true rfl)) dX12_feed_51 ⟨Nat.le_of_ble_eq_true rfl, Nat.le_of_ble_eq_true rfl⟩) hS (fun q _ h => hFc q h) hFc (fun u t H locs ht hvm hw hB hz1 hk1 hS => ?_)
  obtain ⟨f_14, hP1, hD1⟩ := hB
  rw [ht] at hP1
  obtain ⟨hP, hD⟩ := va_join (wr := []) (w1 := [(h0, .inr (12, mF g 0 (nI (0 + zn p0 4 + zn p1 4)) 0 0 0)), ((g 0), .inl (cB, 240, .inl f_14))]) hP hD [0, 1] [] rfl rfl (by decide) (by decide) hk1 hFc hP1 hD1
  clear hPc hDc hFc hk1 hz1
  have hP : va_P (dC, dI) vwCl [(h0, .inr (12, mF g 0 (nI (0 + zn p0 4 + zn p1 4)) 0 0 0)), ((g 0), .inl (cB, 240, .inl f_14))] H := hP
  have hD : va_D A [(h0, .inr (12, mF g 0 (nI (0 + zn p0 4 + zn p1 4)) 0 0 0)), ((g 0), .inl (cB, 240, .inl f_14))] := hD
  refine lv_aload_n hx hb dX12_feed_54 rfl (lv_at hl 0 rfl) ?_
  refine lv_iload_n hx hb dX12_feed_55 rfl (lv_at hl 3 rfl) ?_
  have hPc := hP.sub (ws' := [(h0, .inr (12, mF g 0 (nI (0 + zn p0 4 + zn p1 4)) 0 0 0)), ((g 0), .inl (cB, 240, .inl f_14))]) [0, 1] rfl
  have hDc := hD.sub (ws' := [(h0, .inr (12, mF g 0 (nI (0 + zn p0 4 + zn p1 4)) 0 0 0)), ((g 0), .inl (cB, 240, .inl f_14))]) [0, 1] (by decide) rfl
  have hKc := hK.sub (tys' := [(cB, .byte)]) [0] rfl
  have hFc := va_free (wc := [(h0, .inr (12, mF g 0 (nI (0 + zn p0 4 + zn p1 4)) 0 0 0)), ((g 0), .inl (cB, 240, .inl f_14))]) hD hS hA [0, 1] rfl
  refine va_callv (va_runV (As := [.int p2]) (rest := []) ⟨hx, hb, hml, hown, hts⟩ (c_X12_brings l dC dI H.size h0 (0 + zn p0 4 + zn p1 4) g p2 0 0 0 0 f_14 cB (by have := zn_le p0 4; have := zn_le p1 4; have := zn_le p2 4; have := zn_le p3 4; have := zn_le p4 4; omega)) (cwV 1 hts ug_X12_feed_X12_brings rfl rfl rfl (by decide +kernel) ⟨Nat.le_of_ble_eq_true rfl, Nat.le_of_ble_eq_true rfl⟩) ⟨fun a U g mk q => by obtain ⟨q0, q1, qP, qK, qD⟩ := q; exact ⟨q0, q1, qP, va_K.moved (u := U) (U := U.calling g mk a) (Vm.Alike.refl U.vm) qK, qD⟩, va_recv hKc hPc (ci := 12) (q0 := 0) rfl rfl, fun U hU hW => ⟨rfl, by rw [hU], by rw [hU]; exact hPc, va_K.moved hW.alike hKc, hDc.weaken (fun _ _ _ _ => trivial)⟩⟩ rfl rfl hl.1 rfl (lv_room (Nat.le_of_ble_eq_true rfl)) dX12_feed_56 ⟨Nat.le_of_ble_eq_true rfl, Nat.le_of_ble_eq_true rfl⟩) hS (fun q _ h => hFc q h) hFc (fun u t H locs ht hvm hw hB hz1 hk1 hS => ?_)
  obtain ⟨f_16, hP1, hD1⟩ := hB
  rw [ht] at hP1
  obtain ⟨hP, hD⟩ := va_join (wr := []) (w1 := [(h0, .inr (12, mF g 0 (nI (0 + zn p0 4 + zn p1 4 + zn p2 4)) 0 0 0)), ((g 0), .inl (cB, 240, .inl f_16))]) hP hD [0, 1] [] rfl rfl (by decide) (by decide) hk1 hFc hP1 hD1
  clear hPc hDc hFc hk1 hz1
  have hP : va_P (dC, dI) vwCl [(h0, .inr (12, mF g 0 (nI (0 + zn p0 4 + zn p1 4 + zn p2 4)) 0 0 0)), ((g 0), .inl (cB, 240, .inl f_16))] H := hP
  have hD : va_D A [(h0, .inr (12, mF g 0 (nI (0 + zn p0 4 + zn p1 4 + zn p2 4)) 0 0 0)), ((g 0), .inl (cB, 240, .inl f_16))] := hD
  refine lv_aload_n hx hb dX12_feed_59 rfl (lv_at hl 0 rfl) ?_
  refine lv_iload hx hb dX12_feed_60 (lv_at hl 4 rfl) ?_
  have hPc := hP.sub (ws' := [(h0, .inr (12, mF g 0 (nI (0 + zn p0 4 + zn p1 4 + zn p2 4)) 0 0 0)), ((g 0), .inl (cB, 240, .inl f_16))]) [0, 1] rfl
  have hDc := hD.sub (ws' := [(h0, .inr (12, mF g 0 (nI (0 + zn p0 4 + zn p1 4 + zn p2 4)) 0 0 0)), ((g 0), .inl (cB, 240, .inl f_16))]) [0, 1] (by decide) rfl
  have hKc := hK.sub (tys' := [(cB, .byte)]) [0] rfl
  have hFc := va_free (wc := [(h0, .inr (12, mF g 0 (nI (0 + zn p0 4 + zn p1 4 + zn p2 4)) 0 0 0)), ((g 0), .inl (cB, 240, .inl f_16))]) hD hS hA [0, 1] rfl
  refine va_callv (va_runV (As := [.int p3]) (rest := []) ⟨hx, hb, hml, hown, hts⟩ (c_X12_brings l dC dI H.size h0 (0 + zn p0 4 + zn p1 4 + zn p2 4) g p3 0 0 0 0 f_16 cB (by have := zn_le p0 4; have := zn_le p1 4; have := zn_le p2 4; have := zn_le p3 4; have := zn_le p4 4; omega)) (cwV 1 hts ug_X12_feed_X12_brings rfl rfl rfl (by decide +kernel) ⟨Nat.le_of_ble_eq_true rfl, Nat.le_of_ble_eq_true rfl⟩) ⟨fun a U g mk q => by obtain ⟨q0, q1, qP, qK, qD⟩ := q; exact ⟨q0, q1, qP, va_K.moved (u := U) (U := U.calling g mk a) (Vm.Alike.refl U.vm) qK, qD⟩, va_recv hKc hPc (ci := 12) (q0 := 0) rfl rfl, fun U hU hW => ⟨rfl, by rw [hU], by rw [hU]; exact hPc, va_K.moved hW.alike hKc, hDc.weaken (fun _ _ _ _ => trivial)⟩⟩ rfl rfl hl.1 rfl (lv_room (Nat.le_of_ble_eq_true rfl)) dX12_feed_62 ⟨Nat.le_of_ble_eq_true rfl, Nat.le_of_ble_eq_true rfl⟩) hS (fun q _ h => hFc q h) hFc (fun u t H locs ht hvm hw hB hz1 hk1 hS => ?_)
  obtain ⟨f_18, hP1, hD1⟩ := hB
  rw [ht] at hP1
  obtain ⟨hP, hD⟩ := va_join (wr := []) (w1 := [(h0, .inr (12, mF g 0 (nI (0 + zn p0 4 + zn p1 4 + zn p2 4 + zn p3 4)) 0 0 0)), ((g 0), .inl (cB, 240, .inl f_18))]) hP hD [0, 1] [] rfl rfl (by decide) (by decide) hk1 hFc hP1 hD1
  clear hPc hDc hFc hk1 hz1
  have hP : va_P (dC, dI) vwCl [(h0, .inr (12, mF g 0 (nI (0 + zn p0 4 + zn p1 4 + zn p2 4 + zn p3 4)) 0 0 0)), ((g 0), .inl (cB, 240, .inl f_18))] H := hP
  have hD : va_D A [(h0, .inr (12, mF g 0 (nI (0 + zn p0 4 + zn p1 4 + zn p2 4 + zn p3 4)) 0 0 0)), ((g 0), .inl (cB, 240, .inl f_18))] := hD
  refine lv_aload_n hx hb dX12_feed_65 rfl (lv_at hl 0 rfl) ?_
  refine lv_iload hx hb dX12_feed_66 (lv_at hl 5 rfl) ?_
  have hPc := hP.sub (ws' := [(h0, .inr (12, mF g 0 (nI (0 + zn p0 4 + zn p1 4 + zn p2 4 + zn p3 4)) 0 0 0)), ((g 0), .inl (cB, 240, .inl f_18))]) [0, 1] rfl
  have hDc := hD.sub (ws' := [(h0, .inr (12, mF g 0 (nI (0 + zn p0 4 + zn p1 4 + zn p2 4 + zn p3 4)) 0 0 0)), ((g 0), .inl (cB, 240, .inl f_18))]) [0, 1] (by decide) rfl
  have hKc := hK.sub (tys' := [(cB, .byte)]) [0] rfl
  have hFc := va_free (wc := [(h0, .inr (12, mF g 0 (nI (0 + zn p0 4 + zn p1 4 + zn p2 4 + zn p3 4)) 0 0 0)), ((g 0), .inl (cB, 240, .inl f_18))]) hD hS hA [0, 1] rfl
  refine va_callv (va_runV (As := [.int p4]) (rest := []) ⟨hx, hb, hml, hown, hts⟩ (c_X12_brings l dC dI H.size h0 (0 + zn p0 4 + zn p1 4 + zn p2 4 + zn p3 4) g p4 0 0 0 0 f_18 cB (by have := zn_le p0 4; have := zn_le p1 4; have := zn_le p2 4; have := zn_le p3 4; have := zn_le p4 4; omega)) (cwV 1 hts ug_X12_feed_X12_brings rfl rfl rfl (by decide +kernel) ⟨Nat.le_of_ble_eq_true rfl, Nat.le_of_ble_eq_true rfl⟩) ⟨fun a U g mk q => by obtain ⟨q0, q1, qP, qK, qD⟩ := q; exact ⟨q0, q1, qP, va_K.moved (u := U) (U := U.calling g mk a) (Vm.Alike.refl U.vm) qK, qD⟩, va_recv hKc hPc (ci := 12) (q0 := 0) rfl rfl, fun U hU hW => ⟨rfl, by rw [hU], by rw [hU]; exact hPc, va_K.moved hW.alike hKc, hDc.weaken (fun _ _ _ _ => trivial)⟩⟩ rfl rfl hl.1 rfl (lv_room (Nat.le_of_ble_eq_true rfl)) dX12_feed_68 ⟨Nat.le_of_ble_eq_true rfl, Nat.le_of_ble_eq_true rfl⟩) hS (fun q _ h => hFc q h) hFc (fun u t H locs ht hvm hw hB hz1 hk1 hS => ?_)
  obtain ⟨f_20, hP1, hD1⟩ := hB
  rw [ht] at hP1
  obtain ⟨hP, hD⟩ := va_join (wr := []) (w1 := [(h0, .inr (12, mF g 0 (nI (0 + zn p0 4 + zn p1 4 + zn p2 4 + zn p3 4 + zn p4 4)) 0 0 0)), ((g 0), .inl (cB, 240, .inl f_20))]) hP hD [0, 1] [] rfl rfl (by decide) (by decide) hk1 hFc hP1 hD1
  clear hPc hDc hFc hk1 hz1
  have hP : va_P (dC, dI) vwCl [(h0, .inr (12, mF g 0 (nI (0 + zn p0 4 + zn p1 4 + zn p2 4 + zn p3 4 + zn p4 4)) 0 0 0)), ((g 0), .inl (cB, 240, .inl f_20))] H := hP
  have hD : va_D A [(h0, .inr (12, mF g 0 (nI (0 + zn p0 4 + zn p1 4 + zn p2 4 + zn p3 4 + zn p4 4)) 0 0 0)), ((g 0), .inl (cB, 240, .inl f_20))] := hD
  refine lv_aload_n hx hb dX12_feed_71 rfl (lv_at hl 0 rfl) ?_
  refine va_get (D := (dC, dI)) (ci := 12) (v := .int (nI (0 + zn p0 4 + zn p1 4 + zn p2 4 + zn p3 4 + zn p4 4))) (C := RX12) (T := TX12) (N := 87) hx hb hts ui_X12_feed_X12 hown hK hP 0 rfl rfl 2 (by decide) (hts (.fieldLink RX12 177 "CodeLifterModel" "length" "I") (by decide +kernel)) (fun _ h9 => h9) rfl dX12_feed_72 ?_
  refine W.widen (k := 0) (n := 0) (Nat.le_of_ble_eq_true rfl) (Nat.le_of_ble_eq_true rfl) ?_
  exact W.iret (v := (nI (0 + zn p0 4 + zn p1 4 + zn p2 4 + zn p3 4 + zn p4 4))) hx hb hr (fun t ht hW => ⟨⟨(nI (0 + zn p0 4 + zn p1 4 + zn p2 4 + zn p3 4 + zn p4 4)), (), rfl, rfl, trivial⟩, hS.F ht⟩) hS.2.2 dX12_feed_75
