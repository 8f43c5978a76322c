def us_X11_feed : List Cond := .code yX11_feed cX11_feed 7 (some .int) :: (((([.methodLink RX11 109 yX11_bytesIn, .static yX11_bytesIn, .initialized RX11, .fieldLink RX11 10 "CodeLifter" "tape" "LCodeLifter$Tape;", .fieldLink RX11 113 "CodeLifter$Tape" "length" "I", .methodLink RX11 117 yX9_append, .instanceMethod yX9_append, .selects RX9 yX9_append yX9_append, .initialized RX9] ++ wsX110) ++ wsX90) ++ us_X11_bytesIn) ++ us_X9_append)
theorem ui_X11_feed_X11 : ∀ w ∈ wsX110, w ∈ us_X11_feed := fun _ h => List.mem_cons_of_mem _ (List.mem_append_left _ (List.mem_append_left _ (List.mem_append_left _ (List.mem_append_right _ h))))
theorem ui_X11_feed_X9 : ∀ w ∈ wsX90, w ∈ us_X11_feed := fun _ h => List.mem_cons_of_mem _ (List.mem_append_left _ (List.mem_append_left _ (List.mem_append_right _ h)))
set_option maxRecDepth 20000 in
theorem ugg_X11_feed_X11_bytesIn : GoodIn us_X11_feed us_X11_bytesIn := goodIn_sub (fun _ h => List.mem_cons_of_mem _ (List.mem_append_left _ (List.mem_append_right _ h))) (by decide +kernel)
set_option maxRecDepth 20000 in
theorem ug_X11_feed_X11_bytesIn : GoodIn us_X11_feed (va_wsS RX11 109 yX11_bytesIn us_X11_bytesIn) := goodIn_app (goodIn_of _ (by decide +kernel)) ugg_X11_feed_X11_bytesIn
set_option maxRecDepth 20000 in
theorem ugg_X11_feed_X9_append : GoodIn us_X11_feed us_X9_append := goodIn_sub (fun _ h => List.mem_cons_of_mem _ (List.mem_append_right _ h)) (by decide +kernel)
set_option maxRecDepth 20000 in
theorem ug_X11_feed_X9_append : GoodIn us_X11_feed (wsV RX11 117 RX9 yX9_append us_X9_append) := goodIn_app (goodIn_of _ (by decide +kernel)) ugg_X11_feed_X9_append
set_option maxHeartbeats 8000000 in
set_option maxRecDepth 100000 in
/-- feed on a new object -/
theorem c_X11_feed (l : Launch) (dC : Nat → ClassId) (dI : Nat → Nat → Nat) (sz : Nat) (h0 : Nat) (g : Nat → Nat) (p0 : Int32) (p1 : Int32) (p2 : Int32) (p3 : Int32) (p4 : Int32) (cB : ClassId) : Met l yX11_feed us_X11_feed ({ frames := 1, cells := 0, slots := 0, locals := 23 }) (va_Pc [.ref h0, .int p0, .int p1, .int p2, .int p3, .int p4] (fun U => U.heap.size = sz ∧ va_P (dC, dI) vwCl [(h0, .inr (11, [.ref (g 0), .ref (g 1), .ref (g 2), .ref (g 3), .ref (g 4), .ref (g 5), .ref (g 6), .ref (g 7), .ref (g 8), .ref (g 9), .ref (g 10), .ref (g 11), .int 0])), ((g 0), .inr (9, [.ref (g 12), .int 0, .int 0])), ((g 12), .inl (cB, 240, .inl (fun _ => 0)))] U.heap ∧ va_K (dC, dI) vwCl [(cB, .byte)] U ∧ va_D (fun _ => True) [(h0, .inr (11, [.ref (g 0), .ref (g 1), .ref (g 2), .ref (g 3), .ref (g 4), .ref (g 5), .ref (g 6), .ref (g 7), .ref (g 8), .ref (g 9), .ref (g 10), .ref (g 11), .int 0])), ((g 0), .inr (9, [.ref (g 12), .int 0, .int 0])), ((g 12), .inl (cB, 240, .inl (fun _ => 0)))])) (va_Qi (fun (r : Int32) (u : Unit) => r = nI (0 + zn p0 4 + zn p1 4 + zn p2 4 + zn p3 4 + zn p4 4)) (fun (u : Unit) (t : State) => True) (va_A [(h0, .inr (11, [.ref (g 0), .ref (g 1), .ref (g 2), .ref (g 3), .ref (g 4), .ref (g 5), .ref (g 6), .ref (g 7), .ref (g 8), .ref (g 9), .ref (g 10), .ref (g 11), .int 0])), ((g 0), .inr (9, [.ref (g 12), .int 0, .int 0])), ((g 12), .inl (cB, 240, .inl (fun _ => 0)))] sz)) 0 0 (va_A [(h0, .inr (11, [.ref (g 0), .ref (g 1), .ref (g 2), .ref (g 3), .ref (g 4), .ref (g 5), .ref (g 6), .ref (g 7), .ref (g 8), .ref (g 9), .ref (g 10), .ref (g 11), .int 0])), ((g 0), .inr (9, [.ref (g 12), .int 0, .int 0])), ((g 12), .inl (cB, 240, .inl (fun _ => 0)))] sz) := by
  refine Met.ofW (cc := cX11_feed) (maxL := 7) (ret := (some .int)) (by decide) rfl ?_
  intro p e s m args below meth c s₁ B hml hv
  obtain ⟨rfl, hsz, hP, hK, hD0⟩ := hv
  have hx := B.exec
  have hb := B.bytes
  have hr := B.returns
  have hts := atoms_spec (ws := us_X11_feed) B.pre
  have hown : s.vm.findClass RX11 = some m.cls := findClass_of_methodNamed B.named
  have hlocks := B.notSynchronized
  subst hsz
  have hD := hD0.self (sz := s.heap.size)
  generalize hAe : va_A [(h0, .inr (11, [.ref (g 0), .ref (g 1), .ref (g 2), .ref (g 3), .ref (g 4), .ref (g 5), .ref (g 6), .ref (g 7), .ref (g 8), .ref (g 9), .ref (g 10), .ref (g 11), .int 0])), ((g 0), .inr (9, [.ref (g 12), .int 0, .int 0])), ((g 12), .inl (cB, 240, .inl (fun _ => 0)))] s.heap.size = A at hD ⊢
  have hA : ∀ q : Nat, s.heap.size ≤ q → A q := fun q h => by rw [← hAe]; exact Or.inr h
  have hS : va_S A s.heap s.heap [] := va_S.rf
  have hP : va_P (dC, dI) vwCl [(h0, .inr (11, [.ref (g 0), .ref (g 1), .ref (g 2), .ref (g 3), .ref (g 4), .ref (g 5), .ref (g 6), .ref (g 7), .ref (g 8), .ref (g 9), .ref (g 10), .ref (g 11), .int 0])), ((g 0), .inr (9, [.ref (g 12), .int 0, .int 0])), ((g 12), .inl (cB, 240, .inl (fun _ => 0)))] s.heap := hP
  have hl := lv_entry ([.ref h0, .int p0, .int p1, .int p2, .int p3, .int p4]) (n := 7) (Nat.le_of_ble_eq_true rfl)
  rw [lg_entry_eq]
  generalize (lg_sl ([.ref h0, .int p0, .int p1, .int p2, .int p3, .int p4]) ++ List.replicate (7 - (lg_sl ([.ref h0, .int p0, .int p1, .int p2, .int p3, .int p4])).length) Slot.unset).toArray = ls at hl ⊢
  have hl : lv_has ls 7 [(0, .ref h0), (1, .int p0), (2, .int p1), (3, .int p2), (4, .int p3), (5, .int p4)] := hl
  refine lv_iload_n hx hb dX11_feed_0 rfl (lv_at hl 1 rfl) ?_
  have hPc := hP.sub (ws' := []) [] rfl
  have hDc := hD.sub (ws' := []) [] (by decide) rfl
  have hKc := hK.sub (tys' := []) [] rfl
  have hFc := va_free (wc := []) hD hS hA [] rfl
  refine va_calli (va_runS (As := [.int p0]) (rest := []) ⟨hx, hb, hml, hown, hts⟩ (c_X11_bytesIn l dC dI s.heap.size p0) (va_cwS 1 hts ug_X11_feed_X11_bytesIn rfl rfl rfl (by decide +kernel) ⟨Nat.le_of_ble_eq_true rfl, Nat.le_of_ble_eq_true rfl⟩) ⟨fun a U g mk q => by obtain ⟨q0, q1, qP, qK, qD⟩ := q; exact ⟨q0, q1, qP, va_K.moved (u := U) (U := U.calling g mk a) (Vm.Alike.refl U.vm) qK, qD⟩, fun U hU hW => ⟨rfl, by rw [hU], by rw [hU]; exact hPc, va_K.moved hW.alike hKc, hDc.weaken (fun _ _ _ _ => trivial)⟩⟩ rfl rfl hl.1 rfl (lv_room (Nat.le_of_ble_eq_true rfl)) dX11_feed_1 ⟨Nat.le_of_ble_eq_true rfl, Nat.le_of_ble_eq_true rfl⟩) hS (fun q _ h => hFc q h) hFc (fun r_1 u t H locs ht hvm hw hB hz1 hk1 hS => ?_)
  obtain ⟨hP, hD⟩ := va_join (wr := [(h0, .inr (11, [.ref (g 0), .ref (g 1), .ref (g 2), .ref (g 3), .ref (g 4), .ref (g 5), .ref (g 6), .ref (g 7), .ref (g 8), .ref (g 9), .ref (g 10), .ref (g 11), .int 0])), ((g 0), .inr (9, [.ref (g 12), .int 0, .int 0])), ((g 12), .inl (cB, 240, .inl (fun _ => 0)))]) (w1 := []) hP hD [] [0, 1, 2] rfl rfl (by decide) (by decide) hk1 hFc p_nil d_nil
  clear hPc hDc hFc hk1 hz1
  have hP : va_P (dC, dI) vwCl [(h0, .inr (11, [.ref (g 0), .ref (g 1), .ref (g 2), .ref (g 3), .ref (g 4), .ref (g 5), .ref (g 6), .ref (g 7), .ref (g 8), .ref (g 9), .ref (g 10), .ref (g 11), .int 0])), ((g 0), .inr (9, [.ref (g 12), .int 0, .int 0])), ((g 12), .inl (cB, 240, .inl (fun _ => 0)))] H := hP
  have hD : va_D A [(h0, .inr (11, [.ref (g 0), .ref (g 1), .ref (g 2), .ref (g 3), .ref (g 4), .ref (g 5), .ref (g 6), .ref (g 7), .ref (g 8), .ref (g 9), .ref (g 10), .ref (g 11), .int 0])), ((g 0), .inr (9, [.ref (g 12), .int 0, .int 0])), ((g 12), .inl (cB, 240, .inl (fun _ => 0)))] := hD
  obtain rfl := hw
  refine lv_iload_n hx hb dX11_feed_4 rfl (lv_at hl 2 rfl) ?_
  have hPc := hP.sub (ws' := []) [] rfl
  have hDc := hD.sub (ws' := []) [] (by decide) rfl
  have hKc := hK.sub (tys' := []) [] rfl
  have hFc := va_free (wc := []) hD hS hA [] rfl
  refine va_calli (va_runS (As := [.int p1]) (rest := [.int (nI (zn p0 4))]) ⟨hx, hb, hml, hown, hts⟩ (c_X11_bytesIn l dC dI H.size p1) (va_cwS 1 hts ug_X11_feed_X11_bytesIn rfl rfl rfl (by decide +kernel) ⟨Nat.le_of_ble_eq_true rfl, Nat.le_of_ble_eq_true rfl⟩) ⟨fun a U g mk q => by obtain ⟨q0, q1, qP, qK, qD⟩ := q; exact ⟨q0, q1, qP, va_K.moved (u := U) (U := U.calling g mk a) (Vm.Alike.refl U.vm) qK, qD⟩, fun U hU hW => ⟨rfl, by rw [hU], by rw [hU]; exact hPc, va_K.moved hW.alike hKc, hDc.weaken (fun _ _ _ _ => trivial)⟩⟩ rfl rfl hl.1 rfl (lv_room (Nat.le_of_ble_eq_true rfl)) dX11_feed_5 ⟨Nat.le_of_ble_eq_true rfl, Nat.le_of_ble_eq_true rfl⟩) hS (fun q _ h => hFc q h) hFc (fun r_2 u t H locs ht hvm hw hB hz1 hk1 hS => ?_)
  obtain ⟨hP, hD⟩ := va_join (wr := [(h0, .inr (11, [.ref (g 0), .ref (g 1), .ref (g 2), .ref (g 3), .ref (g 4), .ref (g 5), .ref (g 6), .ref (g 7), .ref (g 8), .ref (g 9), .ref (g 10), .ref (g 11), .int 0])), ((g 0), .inr (9, [.ref (g 12), .int 0, .int 0])), ((g 12), .inl (cB, 240, .inl (fun _ => 0)))]) (w1 := []) hP hD [] [0, 1, 2] rfl rfl (by decide) (by decide) hk1 hFc p_nil d_nil
  clear hPc hDc hFc hk1 hz1
  have hP : va_P (dC, dI) vwCl [(h0, .inr (11, [.ref (g 0), .ref (g 1), .ref (g 2), .ref (g 3), .ref (g 4), .ref (g 5), .ref (g 6), .ref (g 7), .ref (g 8), .ref (g 9), .ref (g 10), .ref (g 11), .int 0])), ((g 0), .inr (9, [.ref (g 12), .int 0, .int 0])), ((g 12), .inl (cB, 240, .inl (fun _ => 0)))] H := hP
  have hD : va_D A [(h0, .inr (11, [.ref (g 0), .ref (g 1), .ref (g 2), .ref (g 3), .ref (g 4), .ref (g 5), .ref (g 6), .ref (g 7), .ref (g 8), .ref (g 9), .ref (g 10), .ref (g 11), .int 0])), ((g 0), .inr (9, [.ref (g 12), .int 0, .int 0])), ((g 12), .inl (cB, 240, .inl (fun _ => 0)))] := hD
  obtain rfl := hw
  refine lv_iadd hx hb dX11_feed_8 ?_
  refine lv_topi (fun v_3 e_3 => ?_)
  obtain rfl : v_3 = (nI (zn p0 4 + zn p1 4)) := by rw [e_3]; exact nI_add (zn p0 4) (zn p1 4)
  refine lv_iload_n hx hb dX11_feed_9 rfl (lv_at hl 3 rfl) ?_
  have hPc := hP.sub (ws' := []) [] rfl
  have hDc := hD.sub (ws' := []) [] (by decide) rfl
  have hKc := hK.sub (tys' := []) [] rfl
  have hFc := va_free (wc := []) hD hS hA [] rfl
  refine va_calli (va_runS (As := [.int p2]) (rest := [.int (nI (zn p0 4 + zn p1 4))]) ⟨hx, hb, hml, hown, hts⟩ (c_X11_bytesIn l dC dI H.size p2) (va_cwS 1 hts ug_X11_feed_X11_bytesIn rfl rfl rfl (by decide +kernel) ⟨Nat.le_of_ble_eq_true rfl, Nat.le_of_ble_eq_true rfl⟩) ⟨fun a U g mk q => by obtain ⟨q0, q1, qP, qK, qD⟩ := q; exact ⟨q0, q1, qP, va_K.moved (u := U) (U := U.calling g mk a) (Vm.Alike.refl U.vm) qK, qD⟩, fun U hU hW => ⟨rfl, by rw [hU], by rw [hU]; exact hPc, va_K.moved hW.alike hKc, hDc.weaken (fun _ _ _ _ => trivial)⟩⟩ rfl rfl hl.1 rfl (lv_room (Nat.le_of_ble_eq_true rfl)) dX11_feed_10 ⟨Nat.le_of_ble_eq_true rfl, Nat.le_of_ble_eq_true rfl⟩) hS (fun q _ h => hFc q h) hFc (fun r_4 u t H locs ht hvm hw hB hz1 hk1 hS => ?_)
  obtain ⟨hP, hD⟩ := va_join (wr := [(h0, .inr (11, [.ref (g 0), .ref (g 1), .ref (g 2), .ref (g 3), .ref (g 4), .ref (g 5), .ref (g 6), .ref (g 7), .ref (g 8), .ref (g 9), .ref (g 10), .ref (g 11), .int 0])), ((g 0), .inr (9, [.ref (g 12), .int 0, .int 0])), ((g 12), .inl (cB, 240, .inl (fun _ => 0)))]) (w1 := []) hP hD [] [0, 1, 2] rfl rfl (by decide) (by decide) hk1 hFc p_nil d_nil
  clear hPc hDc hFc hk1 hz1
  have hP : va_P (dC, dI) vwCl [(h0, .inr (11, [.ref (g 0), .ref (g 1), .ref (g 2), .ref (g 3), .ref (g 4), .ref (g 5), .ref (g 6), .ref (g 7), .ref (g 8), .ref (g 9), .ref (g 10), .ref (g 11), .int 0])), ((g 0), .inr (9, [.ref (g 12), .int 0, .int 0])), ((g 12), .inl (cB, 240, .inl (fun _ => 0)))] H := hP
  have hD : va_D A [(h0, .inr (11, [.ref (g 0), .ref (g 1), .ref (g 2), .ref (g 3), .ref (g 4), .ref (g 5), .ref (g 6), .ref (g 7), .ref (g 8), .ref (g 9), .ref (g 10), .ref (g 11), .int 0])), ((g 0), .inr (9, [.ref (g 12), .int 0, .int 0])), ((g 12), .inl (cB, 240, .inl (fun _ => 0)))] := hD
  obtain rfl := hw
  refine lv_iadd hx hb dX11_feed_13 ?_
  refine lv_topi (fun v_5 e_5 => ?_)
  obtain rfl : v_5 = (nI (zn p0 4 + zn p1 4 + zn p2 4)) := by rw [e_5]; exact nI_add (zn p0 4 + zn p1 4) (zn p2 4)
  refine lv_iload hx hb dX11_feed_14 (lv_at hl 4 rfl) ?_
  have hPc := hP.sub (ws' := []) [] rfl
  have hDc := hD.sub (ws' := []) [] (by decide) rfl
  have hKc := hK.sub (tys' := []) [] rfl
  have hFc := va_free (wc := []) hD hS hA [] rfl
  refine va_calli (va_runS (As := [.int p3]) (rest := [.int (nI (zn p0 4 + zn p1 4 + zn p2 4))]) ⟨hx, hb, hml, hown, hts⟩ (c_X11_bytesIn l dC dI H.size p3) (va_cwS 1 hts ug_X11_feed_X11_bytesIn rfl rfl rfl (by decide +kernel) ⟨Nat.le_of_ble_eq_true rfl, Nat.le_of_ble_eq_true rfl⟩) ⟨fun a U g mk q => by obtain ⟨q0, q1, qP, qK, qD⟩ := q; exact ⟨q0, q1, qP, va_K.moved (u := U) (U := U.calling g mk a) (Vm.Alike.refl U.vm) qK, qD⟩, fun U hU hW => ⟨rfl, by rw [hU], by rw [hU]; exact hPc, va_K.moved hW.alike hKc, hDc.weaken (fun _ _ _ _ => trivial)⟩⟩ rfl rfl hl.1 rfl (lv_room (Nat.le_of_ble_eq_true rfl)) dX11_feed_16 ⟨Nat.le_of_ble_eq_true rfl, Nat.le_of_ble_eq_true rfl⟩) hS (fun q _ h => hFc q h) hFc (fun r_6 u t H locs ht hvm hw hB hz1 hk1 hS => ?_)
  obtain ⟨hP, hD⟩ := va_join (wr := [(h0, .inr (11, [.ref (g 0), .ref (g 1), .ref (g 2), .ref (g 3), .ref (g 4), .ref (g 5), .ref (g 6), .ref (g 7), .ref (g 8), .ref (g 9), .ref (g 10), .ref (g 11), .int 0])), ((g 0), .inr (9, [.ref (g 12), .int 0, .int 0])), ((g 12), .inl (cB, 240, .inl (fun _ => 0)))]) (w1 := []) hP hD [] [0, 1, 2] rfl rfl (by decide) (by decide) hk1 hFc p_nil d_nil
  clear hPc hDc hFc hk1 hz1
  have hP : va_P (dC, dI) vwCl [(h0, .inr (11, [.ref (g 0), .ref (g 1), .ref (g 2), .ref (g 3), .ref (g 4), .ref (g 5), .ref (g 6), .ref (g 7), .ref (g 8), .ref (g 9), .ref (g 10), .ref (g 11), .int 0])), ((g 0), .inr (9, [.ref (g 12), .int 0, .int 0])), ((g 12), .inl (cB, 240, .inl (fun _ => 0)))] H := hP
  have hD : va_D A [(h0, .inr (11, [.ref (g 0), .ref (g 1), .ref (g 2), .ref (g 3), .ref (g 4), .ref (g 5), .ref (g 6), .ref (g 7), .ref (g 8), .ref (g 9), .ref (g 10), .ref (g 11), .int 0])), ((g 0), .inr (9, [.ref (g 12), .int 0, .int 0])), ((g 12), .inl (cB, 240, .inl (fun _ => 0)))] := hD
  obtain rfl := hw
  refine lv_iadd hx hb dX11_feed_19 ?_
  refine lv_topi (fun v_7 e_7 => ?_)
  obtain rfl : v_7 = (nI (zn p0 4 + zn p1 4 + zn p2 4 + zn p3 4)) := by rw [e_7]; exact nI_add (zn p0 4 + zn p1 4 + zn p2 4) (zn p3 4)
  refine lv_iload hx hb dX11_feed_20 (lv_at hl 5 rfl) ?_
  have hPc := hP.sub (ws' := []) [] rfl
  have hDc := hD.sub (ws' := []) [] (by decide) rfl
  have hKc := hK.sub (tys' := []) [] rfl
  have hFc := va_free (wc := []) hD hS hA [] rfl
  refine va_calli (va_runS (As := [.int p4]) (rest := [.int (nI (zn p0 4 + zn p1 4 + zn p2 4 + zn p3 4))]) ⟨hx, hb, hml, hown, hts⟩ (c_X11_bytesIn l dC dI H.size p4) (va_cwS 1 hts ug_X11_feed_X11_bytesIn rfl rfl rfl (by decide +kernel) ⟨Nat.le_of_ble_eq_true rfl, Nat.le_of_ble_eq_true rfl⟩) ⟨fun a U g mk q => by obtain ⟨q0, q1, qP, qK, qD⟩ := q; exact ⟨q0, q1, qP, va_K.moved (u := U) (U := U.calling g mk a) (Vm.Alike.refl U.vm) qK, qD⟩, fun U hU hW => ⟨rfl, by rw [hU], by rw [hU]; exact hPc, va_K.moved hW.alike hKc, hDc.weaken (fun _ _ _ _ => trivial)⟩⟩ rfl rfl hl.1 rfl (lv_room (Nat.le_of_ble_eq_true rfl)) dX11_feed_22 ⟨Nat.le_of_ble_eq_true rfl, Nat.le_of_ble_eq_true rfl⟩) hS (fun q _ h => hFc q h) hFc (fun r_8 u t H locs ht hvm hw hB hz1 hk1 hS => ?_)
  obtain ⟨hP, hD⟩ := va_join (wr := [(h0, .inr (11, [.ref (g 0), .ref (g 1), .ref (g 2), .ref (g 3), .ref (g 4), .ref (g 5), .ref (g 6), .ref (g 7), .ref (g 8), .ref (g 9), .ref (g 10), .ref (g 11), .int 0])), ((g 0), .inr (9, [.ref (g 12), .int 0, .int 0])), ((g 12), .inl (cB, 240, .inl (fun _ => 0)))]) (w1 := []) hP hD [] [0, 1, 2] rfl rfl (by decide) (by decide) hk1 hFc p_nil d_nil
  clear hPc hDc hFc hk1 hz1
  have hP : va_P (dC, dI) vwCl [(h0, .inr (11, [.ref (g 0), .ref (g 1), .ref (g 2), .ref (g 3), .ref (g 4), .ref (g 5), .ref (g 6), .ref (g 7), .ref (g 8), .ref (g 9), .ref (g 10), .ref (g 11), .int 0])), ((g 0), .inr (9, [.ref (g 12), .int 0, .int 0])), ((g 12), .inl (cB, 240, .inl (fun _ => 0)))] H := hP
  have hD : va_D A [(h0, .inr (11, [.ref (g 0), .ref (g 1), .ref (g 2), .ref (g 3), .ref (g 4), .ref (g 5), .ref (g 6), .ref (g 7), .ref (g 8), .ref (g 9), .ref (g 10), .ref (g 11), .int 0])), ((g 0), .inr (9, [.ref (g 12), .int 0, .int 0])), ((g 12), .inl (cB, 240, .inl (fun _ => 0)))] := hD
  obtain rfl := hw
  refine lv_iadd hx hb dX11_feed_25 ?_
  refine lv_topi (fun v_9 e_9 => ?_)
  obtain rfl : v_9 = (nI (zn p0 4 + zn p1 4 + zn p2 4 + zn p3 4 + zn p4 4)) := by rw [e_9]; exact nI_add (zn p0 4 + zn p1 4 + zn p2 4 + zn p3 4) (zn p4 4)
  refine lv_istore (lv' := [(6, .int (nI (zn p0 4 + zn p1 4 + zn p2 4 + zn p3 4 + zn p4 4))), (0, .ref h0), (1, .int p0), (2, .int p1), (3, .int p2), (4, .int p3), (5, .int p4)]) hx hb dX11_feed_26 hl (by decide) rfl (fun ls hl => ?_)
  refine lv_aload_n hx hb dX11_feed_28 rfl (lv_at hl 1 rfl) ?_
  refine va_get (D := (dC, dI)) (ci := 11) (v := .ref (g 0)) (C := RX11) (T := TX11) (N := 13) hx hb hts ui_X11_feed_X11 hown hK hP 0 rfl rfl 0 (by decide) (hts (.fieldLink RX11 10 "CodeLifter" "tape" "LCodeLifter$Tape;") (by decide +kernel)) (fun _ h9 => h9) rfl dX11_feed_29 ?_
  refine va_get (D := (dC, dI)) (ci := 9) (v := .int 0) (C := RX9) (T := TX9) (N := 3) hx hb hts ui_X11_feed_X9 hown hK hP 1 rfl rfl 1 (by decide) (hts (.fieldLink RX11 113 "CodeLifter$Tape" "length" "I") (by decide +kernel)) (fun _ h9 => h9) rfl dX11_feed_32 ?_
  refine lv_iload hx hb dX11_feed_35 (lv_at hl 0 rfl) ?_
  refine lv_iadd hx hb dX11_feed_37 ?_
  refine lv_topi (fun v_10 e_10 => ?_)
  obtain rfl : v_10 = (nI (0 + (zn p0 4 + zn p1 4 + zn p2 4 + zn p3 4 + zn p4 4))) := by rw [e_10]; exact nI_add 0 (zn p0 4 + zn p1 4 + zn p2 4 + zn p3 4 + zn p4 4)
  refine lv_sipush (v := 240) hx hb dX11_feed_38 (by decide) ?_
  refine lv_icmp_le (tgt := 46) hx hb dX11_feed_41 (by decide) (fun c_11 => ?_) (fun c_11 => absurd (nI_le (b := 240) (by have := zn_le p0 4; have := zn_le p1 4; have := zn_le p2 4; have := zn_le p3 4; have := zn_le p4 4; omega) (by omega)) c_11)
  refine lv_aload_n hx hb dX11_feed_46 rfl (lv_at hl 1 rfl) ?_
  refine va_get (D := (dC, dI)) (ci := 11) (v := .ref (g 0)) (C := RX11) (T := TX11) (N := 13) hx hb hts ui_X11_feed_X11 hown hK hP 0 rfl rfl 0 (by decide) (hts (.fieldLink RX11 10 "CodeLifter" "tape" "LCodeLifter$Tape;") (by decide +kernel)) (fun _ h9 => h9) rfl dX11_feed_47 ?_
  refine lv_iload_n hx hb dX11_feed_50 rfl (lv_at hl 2 rfl) ?_
  have hPc := hP.sub (ws' := [((g 0), .inr (9, [.ref (g 12), .int 0, .int 0])), ((g 12), .inl (cB, 240, .inl (fun _ => 0)))]) [1, 2] rfl
  have hDc := hD.sub (ws' := [((g 0), .inr (9, [.ref (g 12), .int 0, .int 0])), ((g 12), .inl (cB, 240, .inl (fun _ => 0)))]) [1, 2] (by decide) rfl
  have hKc := hK.sub (tys' := [(cB, .byte)]) [0] rfl
  have hFc := va_free (wc := [((g 0), .inr (9, [.ref (g 12), .int 0, .int 0])), ((g 12), .inl (cB, 240, .inl (fun _ => 0)))]) hD hS hA [1, 2] rfl
  refine va_callv (va_runV (As := [.int p0]) (rest := []) ⟨hx, hb, hml, hown, hts⟩ (c_X9_append l dC dI H.size (g 0) (g 12) (0) p0 0 (fun _ => 0) cB (by have := zn_le p0 4; have := zn_le p1 4; have := zn_le p2 4; have := zn_le p3 4; have := zn_le p4 4; omega)) (cwV 1 hts ug_X11_feed_X9_append rfl rfl rfl (by decide +kernel) ⟨Nat.le_of_ble_eq_true rfl, Nat.le_of_ble_eq_true rfl⟩) ⟨fun a U g mk q => by obtain ⟨q0, q1, qP, qK, qD⟩ := q; exact ⟨q0, q1, qP, va_K.moved (u := U) (U := U.calling g mk a) (Vm.Alike.refl U.vm) qK, qD⟩, va_recv hKc hPc (ci := 9) (q0 := 0) rfl rfl, fun U hU hW => ⟨rfl, by rw [hU], by rw [hU]; exact hPc, va_K.moved hW.alike hKc, hDc.weaken (fun _ _ _ _ => trivial)⟩⟩ rfl rfl hl.1 rfl (lv_room (Nat.le_of_ble_eq_true rfl)) dX11_feed_51 ⟨Nat.le_of_ble_eq_true rfl, Nat.le_of_ble_eq_true rfl⟩) hS (fun q _ h => hFc q h) hFc (fun u t H locs ht hvm hw hB hz1 hk1 hS => ?_)
  obtain ⟨f_12, hP1, hD1⟩ := hB
  rw [ht] at hP1
  obtain ⟨hP, hD⟩ := va_join (wr := [(h0, .inr (11, [.ref (g 0), .ref (g 1), .ref (g 2), .ref (g 3), .ref (g 4), .ref (g 5), .ref (g 6), .ref (g 7), .ref (g 8), .ref (g 9), .ref (g 10), .ref (g 11), .int 0]))]) (w1 := [((g 0), .inr (9, [.ref (g 12), .int (nI (0 + zn p0 4)), .int 0])), ((g 12), .inl (cB, 240, .inl f_12))]) hP hD [1, 2] [0] rfl rfl (by decide) (by decide) hk1 hFc hP1 hD1
  clear hPc hDc hFc hk1 hz1
  have hP : va_P (dC, dI) vwCl [(h0, .inr (11, [.ref (g 0), .ref (g 1), .ref (g 2), .ref (g 3), .ref (g 4), .ref (g 5), .ref (g 6), .ref (g 7), .ref (g 8), .ref (g 9), .ref (g 10), .ref (g 11), .int 0])), ((g 0), .inr (9, [.ref (g 12), .int (nI (0 + zn p0 4)), .int 0])), ((g 12), .inl (cB, 240, .inl f_12))] H := hP
  have hD : va_D A [(h0, .inr (11, [.ref (g 0), .ref (g 1), .ref (g 2), .ref (g 3), .ref (g 4), .ref (g 5), .ref (g 6), .ref (g 7), .ref (g 8), .ref (g 9), .ref (g 10), .ref (g 11), .int 0])), ((g 0), .inr (9, [.ref (g 12), .int (nI (0 + zn p0 4)), .int 0])), ((g 12), .inl (cB, 240, .inl f_12))] := hD
  refine lv_aload_n hx hb dX11_feed_54 rfl (lv_at hl 1 rfl) ?_
  refine va_get (D := (dC, dI)) (ci := 11) (v := .ref (g 0)) (C := RX11) (T := TX11) (N := 13) hx hb hts ui_X11_feed_X11 hown hK hP 0 rfl rfl 0 (by decide) (hts (.fieldLink RX11 10 "CodeLifter" "tape" "LCodeLifter$Tape;") (by decide +kernel)) (fun _ h9 => h9) rfl dX11_feed_55 ?_
  refine lv_iload_n hx hb dX11_feed_58 rfl (lv_at hl 3 rfl) ?_
  have hPc := hP.sub (ws' := [((g 0), .inr (9, [.ref (g 12), .int (nI (0 + zn p0 4)), .int 0])), ((g 12), .inl (cB, 240, .inl f_12))]) [1, 2] rfl
  have hDc := hD.sub (ws' := [((g 0), .inr (9, [.ref (g 12), .int (nI (0 + zn p0 4)), .int 0])), ((g 12), .inl (cB, 240, .inl f_12))]) [1, 2] (by decide) rfl
  have hKc := hK.sub (tys' := [(cB, .byte)]) [0] rfl
  have hFc := va_free (wc := [((g 0), .inr (9, [.ref (g 12), .int (nI (0 + zn p0 4)), .int 0])), ((g 12), .inl (cB, 240, .inl f_12))]) hD hS hA [1, 2] rfl
  refine va_callv (va_runV (As := [.int p1]) (rest := []) ⟨hx, hb, hml, hown, hts⟩ (c_X9_append l dC dI H.size (g 0) (g 12) (0 + zn p0 4) p1 0 f_12 cB (by have := zn_le p0 4; have := zn_le p1 4; have := zn_le p2 4; have := zn_le p3 4; have := zn_le p4 4; omega)) (cwV 1 hts ug_X11_feed_X9_append rfl rfl rfl (by decide +kernel) ⟨Nat.le_of_ble_eq_true rfl, Nat.le_of_ble_eq_true rfl⟩) ⟨fun a U g mk q => by obtain ⟨q0, q1, qP, qK, qD⟩ := q; exact ⟨q0, q1, qP, va_K.moved (u := U) (U := U.calling g mk a) (Vm.Alike.refl U.vm) qK, qD⟩, va_recv hKc hPc (ci := 9) (q0 := 0) rfl rfl, fun U hU hW => ⟨rfl, by rw [hU], by rw [hU]; exact hPc, va_K.moved hW.alike hKc, hDc.weaken (fun _ _ _ _ => trivial)⟩⟩ rfl rfl hl.1 rfl (lv_room (Nat.le_of_ble_eq_true rfl)) dX11_feed_59 ⟨Nat.le_of_ble_eq_true rfl, Nat.le_of_ble_eq_true rfl⟩) hS (fun q _ h => hFc q h) hFc (fun u t H locs ht hvm hw hB hz1 hk1 hS => ?_)
  obtain ⟨f_14, hP1, hD1⟩ := hB
  rw [ht] at hP1
  obtain ⟨hP, hD⟩ := va_join (wr := [(h0, .inr (11, [.ref (g 0), .ref (g 1), .ref (g 2), .ref (g 3), .ref (g 4), .ref (g 5), .ref (g 6), .ref (g 7), .ref (g 8), .ref (g 9), .ref (g 10), .ref (g 11), .int 0]))]) (w1 := [((g 0), .inr (9, [.ref (g 12), .int (nI (0 + zn p0 4 + zn p1 4)), .int 0])), ((g 12), .inl (cB, 240, .inl f_14))]) hP hD [1, 2] [0] rfl rfl (by decide) (by decide) hk1 hFc hP1 hD1
  clear hPc hDc hFc hk1 hz1
  have hP : va_P (dC, dI) vwCl [(h0, .inr (11, [.ref (g 0), .ref (g 1), .ref (g 2), .ref (g 3), .ref (g 4), .ref (g 5), .ref (g 6), .ref (g 7), .ref (g 8), .ref (g 9), .ref (g 10), .ref (g 11), .int 0])), ((g 0), .inr (9, [.ref (g 12), .int (nI (0 + zn p0 4 + zn p1 4)), .int 0])), ((g 12), .inl (cB, 240, .inl f_14))] H := hP
  have hD : va_D A [(h0, .inr (11, [.ref (g 0), .ref (g 1), .ref (g 2), .ref (g 3), .ref (g 4), .ref (g 5), .ref (g 6), .ref (g 7), .ref (g 8), .ref (g 9), .ref (g 10), .ref (g 11), .int 0])), ((g 0), .inr (9, [.ref (g 12), .int (nI (0 + zn p0 4 + zn p1 4)), .int 0])), ((g 12), .inl (cB, 240, .inl f_14))] := hD
  refine lv_aload_n hx hb dX11_feed_62 rfl (lv_at hl 1 rfl) ?_
  refine va_get (D := (dC, dI)) (ci := 11) (v := .ref (g 0)) (C := RX11) (T := TX11) (N := 13) hx hb hts ui_X11_feed_X11 hown hK hP 0 rfl rfl 0 (by decide) (hts (.fieldLink RX11 10 "CodeLifter" "tape" "LCodeLifter$Tape;") (by decide +kernel)) (fun _ h9 => h9) rfl dX11_feed_63 ?_
  refine lv_iload_n hx hb dX11_feed_66 rfl (lv_at hl 4 rfl) ?_
  have hPc := hP.sub (ws' := [((g 0), .inr (9, [.ref (g 12), .int (nI (0 + zn p0 4 + zn p1 4)), .int 0])), ((g 12), .inl (cB, 240, .inl f_14))]) [1, 2] rfl
  have hDc := hD.sub (ws' := [((g 0), .inr (9, [.ref (g 12), .int (nI (0 + zn p0 4 + zn p1 4)), .int 0])), ((g 12), .inl (cB, 240, .inl f_14))]) [1, 2] (by decide) rfl
  have hKc := hK.sub (tys' := [(cB, .byte)]) [0] rfl
  have hFc := va_free (wc := [((g 0), .inr (9, [.ref (g 12), .int (nI (0 + zn p0 4 + zn p1 4)), .int 0])), ((g 12), .inl (cB, 240, .inl f_14))]) hD hS hA [1, 2] rfl
  refine va_callv (va_runV (As := [.int p2]) (rest := []) ⟨hx, hb, hml, hown, hts⟩ (c_X9_append l dC dI H.size (g 0) (g 12) (0 + zn p0 4 + zn p1 4) p2 0 f_14 cB (by have := zn_le p0 4; have := zn_le p1 4; have := zn_le p2 4; have := zn_le p3 4; have := zn_le p4 4; omega)) (cwV 1 hts ug_X11_feed_X9_append rfl rfl rfl (by decide +kernel) ⟨Nat.le_of_ble_eq_true rfl, Nat.le_of_ble_eq_true rfl⟩) ⟨fun a U g mk q => by obtain ⟨q0, q1, qP, qK, qD⟩ := q; exact ⟨q0, q1, qP, va_K.moved (u := U) (U := U.calling g mk a) (Vm.Alike.refl U.vm) qK, qD⟩, va_recv hKc hPc (ci := 9) (q0 := 0) rfl rfl, fun U hU hW => ⟨rfl, by rw [hU], by rw [hU]; exact hPc, va_K.moved hW.alike hKc, hDc.weaken (fun _ _ _ _ => trivial)⟩⟩ rfl rfl hl.1 rfl (lv_room (Nat.le_of_ble_eq_true rfl)) dX11_feed_67 ⟨Nat.le_of_ble_eq_true rfl, Nat.le_of_ble_eq_true rfl⟩) hS (fun q _ h => hFc q h) hFc (fun u t H locs ht hvm hw hB hz1 hk1 hS => ?_)
  obtain ⟨f_16, hP1, hD1⟩ := hB
  rw [ht] at hP1
  obtain ⟨hP, hD⟩ := va_join (wr := [(h0, .inr (11, [.ref (g 0), .ref (g 1), .ref (g 2), .ref (g 3), .ref (g 4), .ref (g 5), .ref (g 6), .ref (g 7), .ref (g 8), .ref (g 9), .ref (g 10), .ref (g 11), .int 0]))]) (w1 := [((g 0), .inr (9, [.ref (g 12), .int (nI (0 + zn p0 4 + zn p1 4 + zn p2 4)), .int 0])), ((g 12), .inl (cB, 240, .inl f_16))]) hP hD [1, 2] [0] rfl rfl (by decide) (by decide) hk1 hFc hP1 hD1
  clear hPc hDc hFc hk1 hz1
  have hP : va_P (dC, dI) vwCl [(h0, .inr (11, [.ref (g 0), .ref (g 1), .ref (g 2), .ref (g 3), .ref (g 4), .ref (g 5), .ref (g 6), .ref (g 7), .ref (g 8), .ref (g 9), .ref (g 10), .ref (g 11), .int 0])), ((g 0), .inr (9, [.ref (g 12), .int (nI (0 + zn p0 4 + zn p1 4 + zn p2 4)), .int 0])), ((g 12), .inl (cB, 240, .inl f_16))] H := hP
  have hD : va_D A [(h0, .inr (11, [.ref (g 0), .ref (g 1), .ref (g 2), .ref (g 3), .ref (g 4), .ref (g 5), .ref (g 6), .ref (g 7), .ref (g 8), .ref (g 9), .ref (g 10), .ref (g 11), .int 0])), ((g 0), .inr (9, [.ref (g 12), .int (nI (0 + zn p0 4 + zn p1 4 + zn p2 4)), .int 0])), ((g 12), .inl (cB, 240, .inl f_16))] := hD
  refine lv_aload_n hx hb dX11_feed_70 rfl (lv_at hl 1 rfl) ?_
  refine va_get (D := (dC, dI)) (ci := 11) (v := .ref (g 0)) (C := RX11) (T := TX11) (N := 13) hx hb hts ui_X11_feed_X11 hown hK hP 0 rfl rfl 0 (by decide) (hts (.fieldLink RX11 10 "CodeLifter" "tape" "LCodeLifter$Tape;") (by decide +kernel)) (fun _ h9 => h9) rfl dX11_feed_71 ?_
  refine lv_iload hx hb dX11_feed_74 (lv_at hl 5 rfl) ?_
  have hPc := hP.sub (ws' := [((g 0), .inr (9, [.ref (g 12), .int (nI (0 + zn p0 4 + zn p1 4 + zn p2 4)), .int 0])), ((g 12), .inl (cB, 240, .inl f_16))]) [1, 2] rfl
  have hDc := hD.sub (ws' := [((g 0), .inr (9, [.ref (g 12), .int (nI (0 + zn p0 4 + zn p1 4 + zn p2 4)), .int 0])), ((g 12), .inl (cB, 240, .inl f_16))]) [1, 2] (by decide) rfl
  have hKc := hK.sub (tys' := [(cB, .byte)]) [0] rfl
  have hFc := va_free (wc := [((g 0), .inr (9, [.ref (g 12), .int (nI (0 + zn p0 4 + zn p1 4 + zn p2 4)), .int 0])), ((g 12), .inl (cB, 240, .inl f_16))]) hD hS hA [1, 2] rfl
  refine va_callv (va_runV (As := [.int p3]) (rest := []) ⟨hx, hb, hml, hown, hts⟩ (c_X9_append l dC dI H.size (g 0) (g 12) (0 + zn p0 4 + zn p1 4 + zn p2 4) p3 0 f_16 cB (by have := zn_le p0 4; have := zn_le p1 4; have := zn_le p2 4; have := zn_le p3 4; have := zn_le p4 4; omega)) (cwV 1 hts ug_X11_feed_X9_append rfl rfl rfl (by decide +kernel) ⟨Nat.le_of_ble_eq_true rfl, Nat.le_of_ble_eq_true rfl⟩) ⟨fun a U g mk q => by obtain ⟨q0, q1, qP, qK, qD⟩ := q; exact ⟨q0, q1, qP, va_K.moved (u := U) (U := U.calling g mk a) (Vm.Alike.refl U.vm) qK, qD⟩, va_recv hKc hPc (ci := 9) (q0 := 0) rfl rfl, fun U hU hW => ⟨rfl, by rw [hU], by rw [hU]; exact hPc, va_K.moved hW.alike hKc, hDc.weaken (fun _ _ _ _ => trivial)⟩⟩ rfl rfl hl.1 rfl (lv_room (Nat.le_of_ble_eq_true rfl)) dX11_feed_76 ⟨Nat.le_of_ble_eq_true rfl, Nat.le_of_ble_eq_true rfl⟩) hS (fun q _ h => hFc q h) hFc (fun u t H locs ht hvm hw hB hz1 hk1 hS => ?_)
  obtain ⟨f_18, hP1, hD1⟩ := hB
  rw [ht] at hP1
  obtain ⟨hP, hD⟩ := va_join (wr := [(h0, .inr (11, [.ref (g 0), .ref (g 1), .ref (g 2), .ref (g 3), .ref (g 4), .ref (g 5), .ref (g 6), .ref (g 7), .ref (g 8), .ref (g 9), .ref (g 10), .ref (g 11), .int 0]))]) (w1 := [((g 0), .inr (9, [.ref (g 12), .int (nI (0 + zn p0 4 + zn p1 4 + zn p2 4 + zn p3 4)), .int 0])), ((g 12), .inl (cB, 240, .inl f_18))]) hP hD [1, 2] [0] rfl rfl (by decide) (by decide) hk1 hFc hP1 hD1
  clear hPc hDc hFc hk1 hz1
  have hP : va_P (dC, dI) vwCl [(h0, .inr (11, [.ref (g 0), .ref (g 1), .ref (g 2), .ref (g 3), .ref (g 4), .ref (g 5), .ref (g 6), .ref (g 7), .ref (g 8), .ref (g 9), .ref (g 10), .ref (g 11), .int 0])), ((g 0), .inr (9, [.ref (g 12), .int (nI (0 + zn p0 4 + zn p1 4 + zn p2 4 + zn p3 4)), .int 0])), ((g 12), .inl (cB, 240, .inl f_18))] H := hP
  have hD : va_D A [(h0, .inr (11, [.ref (g 0), .ref (g 1), .ref (g 2), .ref (g 3), .ref (g 4), .ref (g 5), .ref (g 6), .ref (g 7), .ref (g 8), .ref (g 9), .ref (g 10), .ref (g 11), .int 0])), ((g 0), .inr (9, [.ref (g 12), .int (nI (0 + zn p0 4 + zn p1 4 + zn p2 4 + zn p3 4)), .int 0])), ((g 12), .inl (cB, 240, .inl f_18))] := hD
  refine lv_aload_n hx hb dX11_feed_79 rfl (lv_at hl 1 rfl) ?_
  refine va_get (D := (dC, dI)) (ci := 11) (v := .ref (g 0)) (C := RX11) (T := TX11) (N := 13) hx hb hts ui_X11_feed_X11 hown hK hP 0 rfl rfl 0 (by decide) (hts (.fieldLink RX11 10 "CodeLifter" "tape" "LCodeLifter$Tape;") (by decide +kernel)) (fun _ h9 => h9) rfl dX11_feed_80 ?_
  refine lv_iload hx hb dX11_feed_83 (lv_at hl 6 rfl) ?_
  have hPc := hP.sub (ws' := [((g 0), .inr (9, [.ref (g 12), .int (nI (0 + zn p0 4 + zn p1 4 + zn p2 4 + zn p3 4)), .int 0])), ((g 12), .inl (cB, 240, .inl f_18))]) [1, 2] rfl
  have hDc := hD.sub (ws' := [((g 0), .inr (9, [.ref (g 12), .int (nI (0 + zn p0 4 + zn p1 4 + zn p2 4 + zn p3 4)), .int 0])), ((g 12), .inl (cB, 240, .inl f_18))]) [1, 2] (by decide) rfl
  have hKc := hK.sub (tys' := [(cB, .byte)]) [0] rfl
  have hFc := va_free (wc := [((g 0), .inr (9, [.ref (g 12), .int (nI (0 + zn p0 4 + zn p1 4 + zn p2 4 + zn p3 4)), .int 0])), ((g 12), .inl (cB, 240, .inl f_18))]) hD hS hA [1, 2] rfl
  refine va_callv (va_runV (As := [.int p4]) (rest := []) ⟨hx, hb, hml, hown, hts⟩ (c_X9_append l dC dI H.size (g 0) (g 12) (0 + zn p0 4 + zn p1 4 + zn p2 4 + zn p3 4) p4 0 f_18 cB (by have := zn_le p0 4; have := zn_le p1 4; have := zn_le p2 4; have := zn_le p3 4; have := zn_le p4 4; omega)) (cwV 1 hts ug_X11_feed_X9_append rfl rfl rfl (by decide +kernel) ⟨Nat.le_of_ble_eq_true rfl, Nat.le_of_ble_eq_true rfl⟩) ⟨fun a U g mk q => by obtain ⟨q0, q1, qP, qK, qD⟩ := q; exact ⟨q0, q1, qP, va_K.moved (u := U) (U := U.calling g mk a) (Vm.Alike.refl U.vm) qK, qD⟩, va_recv hKc hPc (ci := 9) (q0 := 0) rfl rfl, fun U hU hW => ⟨rfl, by rw [hU], by rw [hU]; exact hPc, va_K.moved hW.alike hKc, hDc.weaken (fun _ _ _ _ => trivial)⟩⟩ rfl rfl hl.1 rfl (lv_room (Nat.le_of_ble_eq_true rfl)) dX11_feed_85 ⟨Nat.le_of_ble_eq_true rfl, Nat.le_of_ble_eq_true rfl⟩) hS (fun q _ h => hFc q h) hFc (fun u t H locs ht hvm hw hB hz1 hk1 hS => ?_)
  obtain ⟨f_20, hP1, hD1⟩ := hB
  rw [ht] at hP1
  obtain ⟨hP, hD⟩ := va_join (wr := [(h0, .inr (11, [.ref (g 0), .ref (g 1), .ref (g 2), .ref (g 3), .ref (g 4), .ref (g 5), .ref (g 6), .ref (g 7), .ref (g 8), .ref (g 9), .ref (g 10), .ref (g 11), .int 0]))]) (w1 := [((g 0), .inr (9, [.ref (g 12), .int (nI (0 + zn p0 4 + zn p1 4 + zn p2 4 + zn p3 4 + zn p4 4)), .int 0])), ((g 12), .inl (cB, 240, .inl f_20))]) hP hD [1, 2] [0] rfl rfl (by decide) (by decide) hk1 hFc hP1 hD1
  clear hPc hDc hFc hk1 hz1
  have hP : va_P (dC, dI) vwCl [(h0, .inr (11, [.ref (g 0), .ref (g 1), .ref (g 2), .ref (g 3), .ref (g 4), .ref (g 5), .ref (g 6), .ref (g 7), .ref (g 8), .ref (g 9), .ref (g 10), .ref (g 11), .int 0])), ((g 0), .inr (9, [.ref (g 12), .int (nI (0 + zn p0 4 + zn p1 4 + zn p2 4 + zn p3 4 + zn p4 4)), .int 0])), ((g 12), .inl (cB, 240, .inl f_20))] H := hP
  have hD : va_D A [(h0, .inr (11, [.ref (g 0), .ref (g 1), .ref (g 2), .ref (g 3), .ref (g 4), .ref (g 5), .ref (g 6), .ref (g 7), .ref (g 8), .ref (g 9), .ref (g 10), .ref (g 11), .int 0])), ((g 0), .inr (9, [.ref (g 12), .int (nI (0 + zn p0 4 + zn p1 4 + zn p2 4 + zn p3 4 + zn p4 4)), .int 0])), ((g 12), .inl (cB, 240, .inl f_20))] := hD
  refine lv_aload_n hx hb dX11_feed_88 rfl (lv_at hl 1 rfl) ?_
  refine va_get (D := (dC, dI)) (ci := 11) (v := .ref (g 0)) (C := RX11) (T := TX11) (N := 13) hx hb hts ui_X11_feed_X11 hown hK hP 0 rfl rfl 0 (by decide) (hts (.fieldLink RX11 10 "CodeLifter" "tape" "LCodeLifter$Tape;") (by decide +kernel)) (fun _ h9 => h9) rfl dX11_feed_89 ?_
  refine va_get (D := (dC, dI)) (ci := 9) (v := .int (nI (0 + zn p0 4 + zn p1 4 + zn p2 4 + zn p3 4 + zn p4 4))) (C := RX9) (T := TX9) (N := 3) hx hb hts ui_X11_feed_X9 hown hK hP 1 rfl rfl 1 (by decide) (hts (.fieldLink RX11 113 "CodeLifter$Tape" "length" "I") (by decide +kernel)) (fun _ h9 => h9) rfl dX11_feed_92 ?_
  refine W.widen (k := 0) (n := 0) (Nat.le_of_ble_eq_true rfl) (Nat.le_of_ble_eq_true rfl) ?_
  exact W.iret (v := (nI (0 + zn p0 4 + zn p1 4 + zn p2 4 + zn p3 4 + zn p4 4))) hx hb hr (fun t ht hW => ⟨⟨(nI (0 + zn p0 4 + zn p1 4 + zn p2 4 + zn p3 4 + zn p4 4)), (), rfl, rfl, trivial⟩, hS.F ht⟩) hS.2.2 dX11_feed_95
