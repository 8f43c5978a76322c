/-- a loop: what holds at its head, by a number that falls -/
theorem loop_rule {p : Program} {l : Launch} {e : Env} {R : Room} {s : State} {m : MethodId} {args : Array Value} {below : List Frame} {meth : Method} {c : Code} {cells slots : Nat} {Q : State → Prop} {pc : Nat} {st : List Value} {I : Nat → Heap → List Loc → Array Slot → Prop} (step : ∀ (n : Nat) (H : Heap) (locs : List Loc) (ls : Array Slot), I n H locs ls → (∀ (n' : Nat), n' < n → ∀ (H' : Heap) (locs' : List Loc) (ls' : Array Slot), I n' H' locs' ls' → W p l e R s m args below meth c H' locs' cells slots Q (F0 m pc ls' st)) → W p l e R s m args below meth c H locs cells slots Q (F0 m pc ls st)) : ∀ (n : Nat) (H : Heap) (locs : List Loc) (ls : Array Slot), I n H locs ls → W p l e R s m args below meth c H locs cells slots Q (F0 m pc ls st) := by
  intro n
  induction n using Nat.strongRecOn with
  | _ n ih => exact fun H locs ls h => step n H locs ls h (fun n' hn' H' locs' ls' h' => ih n' hn' H' locs' ls' h')
/-- all elements of a row of ints lie between two numbers -/
def Rng (f : Nat → Int32) (n : Nat) (lo hi : Int) : Prop := ∀ j, j < n → lo ≤ (f j).toInt ∧ (f j).toInt ≤ hi
theorem Rng.get {f : Nat → Int32} {n : Nat} {lo hi : Int} (h : Rng f n lo hi) {i : Int32} (hi2 : vp_in i n) : lo ≤ (f i.toNatClampNeg).toInt ∧ (f i.toNatClampNeg).toInt ≤ hi := h _ (Nat.lt_of_not_le (fun q => hi2 (Or.inr q)))
theorem Rng.set {f : Nat → Int32} {n : Nat} {lo hi : Int} (h : Rng f n lo hi) {k : Nat} {x : Int32} (hx : lo ≤ x.toInt ∧ x.toInt ≤ hi) : Rng (upd f k x) n lo hi := by
  intro j hj
  by_cases e : j = k
  · rw [e, pk_us]; exact hx
  · rw [pk_un e]; exact h j hj

abbrev gX3 (cI : ClassId) (o : Nat) (a : Nat → Nat) (s_size : Int32) (s_handlers : Int32) (f_sign : Nat → Int32) (f_number : Nat → Int32) (f_depth : Nat → Int32) (f_from : Nat → Int32) (f_to : Nat → Int32) (f_goal : Nat → Int32) : va_W := [(o, .inr (3, [.int s_size, .int s_handlers, .ref (a 2), .ref (a 3), .ref (a 4), .ref (a 5), .ref (a 6), .ref (a 7)])), (a 2, .inl (cI, 40, .inl f_sign)), (a 3, .inl (cI, 40, .inl f_number)), (a 4, .inl (cI, 40, .inl f_depth)), (a 5, .inl (cI, 3, .inl f_from)), (a 6, .inl (cI, 3, .inl f_to)), (a 7, .inl (cI, 3, .inl f_goal))]
def us_X3_handlerOf : List Cond := .code yX3_handlerOf cX3_handlerOf 3 (some .int) :: ([.fieldLink RX3 34 "CodeLifter$Listing" "handlers" "I", .fieldLink RX3 21 "CodeLifter$Listing" "from" "[I", .fieldLink RX3 24 "CodeLifter$Listing" "to" "[I"] ++ wsX30)
theorem ui_X3_handlerOf_X3 : ∀ w ∈ wsX30, w ∈ us_X3_handlerOf := fun _ h => List.mem_cons_of_mem _ (List.mem_append_right _ h)
set_option maxHeartbeats 8000000 in
set_option maxRecDepth 100000 in
/-- handlerOf: none, or one of them -/
theorem c_X3_handlerOf (l : Launch) (dC : Nat → ClassId) (dI : Nat → Nat → Nat) (cI : ClassId) (sz : Nat) (h0 : Nat) (a : Nat → Nat) (zs zh : Int32) (fs fn fd ff ft fg : Nat → Int32) (i : Int32) (hzh : 0 ≤ zh.toInt ∧ zh.toInt ≤ 3) : Met l yX3_handlerOf us_X3_handlerOf ({ frames := 0, cells := 0, slots := 0, locals := 0 }) (va_Pc [.ref h0, .int i] (fun U => U.heap.size = sz ∧ va_P (dC, dI) vwCl ((gX3 cI h0 a zs zh fs fn fd ff ft fg)) U.heap ∧ va_K (dC, dI) vwCl [(cI, .int)] U ∧ va_D (fun _ => True) ((gX3 cI h0 a zs zh fs fn fd ff ft fg)))) (va_Qi (fun (r : Int32) (u : Unit) => -1 ≤ r.toInt ∧ r.toInt < zh.toInt) (fun (u : Unit) (t : State) => va_P (dC, dI) vwCl ((gX3 cI h0 a zs zh fs fn fd ff ft fg)) t.heap ∧ va_D (va_A ((gX3 cI h0 a zs zh fs fn fd ff ft fg)) sz) ((gX3 cI h0 a zs zh fs fn fd ff ft fg))) (va_A ((gX3 cI h0 a zs zh fs fn fd ff ft fg)) sz)) 0 0 (va_A ((gX3 cI h0 a zs zh fs fn fd ff ft fg)) sz) := by
  refine Met.ofW (cc := cX3_handlerOf) (maxL := 3) (ret := (some .int)) (by decide) rfl ?_
  intro p e s m args below meth c s₁ B hml hv
  obtain ⟨rfl, hsz, hP, hK, hD0⟩ := hv
  have hx := B.exec
  have hb := B.bytes
  have hr := B.returns
  have hts := atoms_spec (ws := us_X3_handlerOf) B.pre
  have hown : s.vm.findClass RX3 = some m.cls := findClass_of_methodNamed B.named
  have hlocks := B.notSynchronized
  subst hsz
  have hD := hD0.self (sz := s.heap.size)
  generalize hAe : va_A ((gX3 cI h0 a zs zh fs fn fd ff ft fg)) s.heap.size = A at hD ⊢
  have hA : ∀ q : Nat, s.heap.size ≤ q → A q := fun q h => by rw [← hAe]; exact Or.inr h
  clear hAe hD0
  have hS : va_S A s.heap s.heap [] := va_S.rf
  have hP : va_P (dC, dI) vwCl ((gX3 cI h0 a zs zh fs fn fd ff ft fg)) s.heap := hP
  have hl := lv_entry ([.ref h0, .int i]) (n := 3) (Nat.le_of_ble_eq_true rfl)
  rw [lg_entry_eq]
  generalize (lg_sl ([.ref h0, .int i]) ++ List.replicate (3 - (lg_sl ([.ref h0, .int i])).length) Slot.unset).toArray = ls at hl ⊢
  have hl : lv_has ls 3 [(0, .ref h0), (1, .int i)] := hl
  have k_m1 : ((-1) : Int32).toInt = -1 := by decide
  have k_0 : (0 : Int32).toInt = 0 := by decide
  have k_1 : (1 : Int32).toInt = 1 := by decide
  refine lv_iconst (v := 0) hx hb dX3_handlerOf_0 (by decide) ?_
  refine lv_istore_n (lv' := [(2, .int 0), (0, .ref h0), (1, .int i)]) hx hb dX3_handlerOf_1 rfl hl (by decide) rfl (fun ls hl => ?_)
  refine loop_rule (I := fun n H locs ls => ∃ (x2_1 : Int32), n = (zh.toInt - x2_1.toInt).toNat ∧ (0 ≤ x2_1.toInt ∧ x2_1.toInt ≤ zh.toInt) ∧ va_P (dC, dI) vwCl ((gX3 cI h0 a zs zh fs fn fd ff ft fg)) H ∧ va_D A ((gX3 cI h0 a zs zh fs fn fd ff ft fg)) ∧ va_S A s.heap H locs ∧ lv_has ls 3 [(2, .int x2_1), (0, .ref h0), (1, .int i)]) ?_ _ _ _ _ ⟨0, rfl, (by omega), hP, hD, hS, hl⟩
  clear hP hD hS hl
  intro n H locs ls hI ih
  obtain ⟨x2_1, hn_1, hi, hP, hD, hS, hl⟩ := hI
  refine lv_iload_n hx hb dX3_handlerOf_2 rfl (lv_at hl 0 rfl) ?_
  refine lv_aload_n hx hb dX3_handlerOf_3 rfl (lv_at hl 1 rfl) ?_
  refine va_get (D := (dC, dI)) (ci := 3) (v := .int zh) (C := RX3) (T := TX3) (N := 8) hx hb hts ui_X3_handlerOf_X3 hown hK hP 0 rfl rfl 1 (by decide) (hts (.fieldLink RX3 34 "CodeLifter$Listing" "handlers" "I") (by decide +kernel)) (fun _ h9 => h9) rfl dX3_handlerOf_4 ?_
  refine lv_icmp_ge (tgt := 38) hx hb dX3_handlerOf_7 (by decide) (fun c_2 => ?_) (fun c_2 => ?_)
  · rw [fa_le] at c_2
    refine lv_iconst (v := (-1)) hx hb dX3_handlerOf_38 (by decide) ?_
    have hP9 := hP
    have hD9 := hD
    exact W.iret (v := (-1)) hx hb hr (fun t ht hW => ⟨⟨(-1), (), rfl, (by omega), ⟨by rw [ht]; exact hP9, hD9⟩⟩, hS.F ht⟩) hS.2.2 dX3_handlerOf_39
  · rw [fa_le] at c_2
    refine lv_aload_n hx hb dX3_handlerOf_10 rfl (lv_at hl 1 rfl) ?_
    refine va_get (D := (dC, dI)) (ci := 3) (v := .ref (a 5)) (C := RX3) (T := TX3) (N := 8) hx hb hts ui_X3_handlerOf_X3 hown hK hP 0 rfl rfl 5 (by decide) (hts (.fieldLink RX3 21 "CodeLifter$Listing" "from" "[I") (by decide +kernel)) (fun _ h9 => h9) rfl dX3_handlerOf_11 ?_
    refine lv_iload_n hx hb dX3_handlerOf_14 rfl (lv_at hl 0 rfl) ?_
    have hi_3 : vp_in x2_1 3 := vp_in_iff.mpr ⟨by omega, by omega⟩
    refine va_iald hx hb hK hP 4 0 rfl rfl hi_3 dX3_handlerOf_15 ?_
    refine lv_topi (fun v_4 e_4 => ?_)
    refine lv_iload_n hx hb dX3_handlerOf_16 rfl (lv_at hl 2 rfl) ?_
    refine lv_icmp_gt (tgt := 32) hx hb dX3_handlerOf_17 (by decide) (fun c_5 => ?_) (fun c_5 => ?_)
    · rw [fa_lt] at c_5
      obtain ⟨v_6, e_6⟩ : ∃ y : Int32, y = x2_1 + 1 := ⟨_, rfl⟩
      have r_6 : v_6.toInt = x2_1.toInt + 1 := by rw [e_6]; exact fb_addI (by omega) (by omega)
      refine lv_iinc (v := v_6) (lv' := [(2, .int v_6), (0, .ref h0), (1, .int i)]) hx hb dX3_handlerOf_32 hl (k := 0) rfl e_6.symm (by decide) rfl (fun ls hl => ?_)
      refine lv_goto (tgt := 2) hx hb dX3_handlerOf_35 (by decide) ?_
      exact ih _ (by rw [hn_1]; omega) _ _ _ ⟨v_6, rfl, (by omega), hP, hD, hS, (lv_sub hl [0, 1, 2] rfl)⟩
    · rw [fa_lt] at c_5
      refine lv_iload_n hx hb dX3_handlerOf_20 rfl (lv_at hl 2 rfl) ?_
      refine lv_aload_n hx hb dX3_handlerOf_21 rfl (lv_at hl 1 rfl) ?_
      refine va_get (D := (dC, dI)) (ci := 3) (v := .ref (a 6)) (C := RX3) (T := TX3) (N := 8) hx hb hts ui_X3_handlerOf_X3 hown hK hP 0 rfl rfl 6 (by decide) (hts (.fieldLink RX3 24 "CodeLifter$Listing" "to" "[I") (by decide +kernel)) (fun _ h9 => h9) rfl dX3_handlerOf_22 ?_
      refine lv_iload_n hx hb dX3_handlerOf_25 rfl (lv_at hl 0 rfl) ?_
      have hi_7 : vp_in x2_1 3 := vp_in_iff.mpr ⟨by omega, by omega⟩
      refine va_iald hx hb hK hP 5 0 rfl rfl hi_7 dX3_handlerOf_26 ?_
      refine lv_topi (fun v_8 e_8 => ?_)
      refine lv_icmp_ge (tgt := 32) hx hb dX3_handlerOf_27 (by decide) (fun c_9 => ?_) (fun c_9 => ?_)
      · rw [fa_le] at c_9
        obtain ⟨v_10, e_10⟩ : ∃ y : Int32, y = x2_1 + 1 := ⟨_, rfl⟩
        have r_10 : v_10.toInt = x2_1.toInt + 1 := by rw [e_10]; exact fb_addI (by omega) (by omega)
        refine lv_iinc (v := v_10) (lv' := [(2, .int v_10), (0, .ref h0), (1, .int i)]) hx hb dX3_handlerOf_32 hl (k := 0) rfl e_10.symm (by decide) rfl (fun ls hl => ?_)
        refine lv_goto (tgt := 2) hx hb dX3_handlerOf_35 (by decide) ?_
        exact ih _ (by rw [hn_1]; omega) _ _ _ ⟨v_10, rfl, (by omega), hP, hD, hS, (lv_sub hl [0, 1, 2] rfl)⟩
      · rw [fa_le] at c_9
        refine lv_iload_n hx hb dX3_handlerOf_30 rfl (lv_at hl 0 rfl) ?_
        have hP9 := hP
        have hD9 := hD
        exact W.iret (v := x2_1) hx hb hr (fun t ht hW => ⟨⟨x2_1, (), rfl, (by omega), ⟨by rw [ht]; exact hP9, hD9⟩⟩, hS.F ht⟩) hS.2.2 dX3_handlerOf_31
