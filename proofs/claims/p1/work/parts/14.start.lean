set_option maxHeartbeats 8000000 in
set_option maxRecDepth 100000 in
/-- the loop's head behind the making: a script of seven ints is one call, a shorter one none -/
theorem law_head {p : Program} {e : Env} {s : State} {m : MethodId} {below : List Frame} {meth : Method} {c : Code} (l : Launch) {b L : Nat} {xs : Nat → Int32} (hL : L ≤ 7) (C0 : lw_At p s m meth c b L xs) {dC : Nat → ClassId} {dI : Nat → Nat → Nat} (q0 q1 q2 : Nat) (gx gm : Nat → Nat) (cX cM cJ : ClassId) (sa1 sa2 : Nat) (hfl : l.stackTraces = false) (hE1 : xE sa1 198 "no such instruction" (fun q : Nat => s.heap.size ≤ q) s s.heap) (hE2 : xE sa2 220 "no such block" (fun q : Nat => s.heap.size ≤ q) s s.heap) {H : Heap} {locs : List Loc} (hK : va_K (dC, dI) vwCl [(cX, .byte), (cM, .byte), (cJ, .long)] s) (hP : va_P (dC, dI) vwCl [(q0, .inr (11, [.ref (gx 0), .ref (gx 1), .ref (gx 2), .ref (gx 3), .ref (gx 4), .ref (gx 5), .ref (gx 6), .ref (gx 7), .ref (gx 8), .ref (gx 9), .ref (gx 10), .ref (gx 11), .int 0])), ((gx 0), .inr (9, [.ref (gx 12), .int 0, .int 0])), ((gx 12), .inl (cX, 240, .inl (fun _ => 0))), ((gx 2), .inr (3, [.int 0, .int 0, .ref (gx 13), .ref (gx 14), .ref (gx 15), .ref (gx 16), .ref (gx 17), .ref (gx 18)])), (q1, .inr (12, mF gm 0 0 0 0 0)), ((gm 0), .inl (cM, 240, .inl (fun _ => 0))), (q2, .inl (cJ, 1, .inr (.inl (fun _ => 0))))] H) (hD : va_D (fun q : Nat => s.heap.size ≤ q) [(q0, .inr (11, [.ref (gx 0), .ref (gx 1), .ref (gx 2), .ref (gx 3), .ref (gx 4), .ref (gx 5), .ref (gx 6), .ref (gx 7), .ref (gx 8), .ref (gx 9), .ref (gx 10), .ref (gx 11), .int 0])), ((gx 0), .inr (9, [.ref (gx 12), .int 0, .int 0])), ((gx 12), .inl (cX, 240, .inl (fun _ => 0))), ((gx 2), .inr (3, [.int 0, .int 0, .ref (gx 13), .ref (gx 14), .ref (gx 15), .ref (gx 16), .ref (gx 17), .ref (gx 18)])), (q1, .inr (12, mF gm 0 0 0 0 0)), ((gm 0), .inl (cM, 240, .inl (fun _ => 0))), (q2, .inl (cJ, 1, .inr (.inl (fun _ => 0))))]) (hS : va_S (fun q : Nat => s.heap.size ≤ q) s.heap H locs) (ls : Array Slot) (hl : lv_has ls 7 [(4, .int 0), (3, .ref q2), (2, .ref q1), (1, .ref q0), (0, .ref b)]) : W p l e room_1 s m #[Value.ref b] below meth c H locs 132 55263 (lw_Z below #[Value.ref b] s) (F0 m 23 ls []) := by
  rcases (show L = 7 ∨ L = 0 ∨ L = 1 ∨ L = 2 ∨ L = 3 ∨ L = 4 ∨ L = 5 ∨ L = 6 by omega) with rfl | rfl | rfl | rfl | rfl | rfl | rfl | rfl
  · have hC0 := C0
    obtain ⟨hx, hb, hr, hml, hown, hts, hX, hbl, hlocks, hgv⟩ := C0
    have hown : s.vm.findClass RL = some m.cls := hown
    have hA : ∀ q : Nat, s.heap.size ≤ q → (fun q : Nat => s.heap.size ≤ q) q := fun _ h => h
    have hbA : ¬ (fun q : Nat => s.heap.size ≤ q) b := Nat.not_le.mpr hbl
    refine lv_iload hx hb dL_law_23 (lv_at hl 0 rfl) ?_
    refine lv_aload_n hx hb dL_law_25 rfl (lv_at hl 4 rfl) ?_
    refine va_slen hx hb hX hbl hbA hS dL_law_26 ?_
    refine lv_topi (fun v_1 e_1 => ?_)
    obtain rfl : v_1 = 7 := by rw [e_1]; decide
    refine lv_bipush (v := 7) hx hb dL_law_27 (by decide) ?_
    refine lv_isub hx hb dL_law_29 ?_
    refine lv_topi (fun v_2 e_2 => ?_)
    obtain rfl : v_2 = 0 := by rw [e_2]; decide
    refine lv_icmp_gt (tgt := 1039) hx hb dL_law_30 (by decide) (fun c_3 => absurd c_3 (by decide)) (fun c_3 => ?_)
    refine lv_aload_n hx hb dL_law_33 rfl (lv_at hl 4 rfl) ?_
    refine lv_iload hx hb dL_law_34 (lv_at hl 0 rfl) ?_
    refine va_sld hx hb hX hbl hbA hS (by unfold vp_in; decide : vp_in 0 7) dL_law_36 ?_
    refine lv_bipush (v := 31) hx hb dL_law_37 (by decide) ?_
    refine lv_iand hx hb dL_law_39 ?_
    refine lv_topi (fun v_4 e_4 => ?_)
    obtain ⟨j, hj, ej⟩ := pk_andE (xs (Int32.toNatClampNeg 0)) (m := 31) 5 (by decide)
    obtain rfl : v_4 = nI j := by rw [e_4]; exact ej
    rcases (show j = 0 ∨ j = 1 ∨ j = 2 ∨ j = 3 ∨ j = 4 ∨ j = 5 ∨ j = 6 ∨ j = 7 ∨ j = 8 ∨ j = 9 ∨ j = 10 ∨ j = 11 ∨ j = 12 ∨ j = 13 ∨ j = 14 ∨ j = 15 ∨ j = 16 ∨ j = 17 ∨ j = 18 ∨ j = 19 ∨ j = 20 ∨ 21 ≤ j by omega) with rfl | rfl | rfl | rfl | rfl | rfl | rfl | rfl | rfl | rfl | rfl | rfl | rfl | rfl | rfl | rfl | rfl | rfl | rfl | rfl | rfl | hj2
    · refine lv_tableIn (off := 100) (tgt := 140) hx hb dL_law_40 (by decide) (by decide) (by decide) (by decide) ?_
      exact law_case_0 l hC0 q0 q1 q2 gx gm cX cM cJ sa1 sa2 hfl hE1 hE2 hK hP hD hS ls hl
    · refine lv_tableIn (off := 173) (tgt := 213) hx hb dL_law_40 (by decide) (by decide) (by decide) (by decide) ?_
      exact law_case_1 l hC0 q0 q1 q2 gx gm cX cM cJ sa1 sa2 hfl hE1 hE2 hK hP hD hS ls hl
    · refine lv_tableIn (off := 198) (tgt := 238) hx hb dL_law_40 (by decide) (by decide) (by decide) (by decide) ?_
      exact law_case_2 l hC0 q0 q1 q2 gx gm cX cM cJ sa1 sa2 hfl hE1 hE2 hK hP hD hS ls hl
    · refine lv_tableIn (off := 211) (tgt := 251) hx hb dL_law_40 (by decide) (by decide) (by decide) (by decide) ?_
      exact law_case_3 l hC0 q0 q1 q2 gx gm cX cM cJ sa1 sa2 hfl hE1 hE2 hK hP hD hS ls hl
    · refine lv_tableIn (off := 224) (tgt := 264) hx hb dL_law_40 (by decide) (by decide) (by decide) (by decide) ?_
      exact law_case_4 l hC0 q0 q1 q2 gx gm cX cM cJ sa1 sa2 hfl hE1 hE2 hK hP hD hS ls hl
    · refine lv_tableIn (off := 273) (tgt := 313) hx hb dL_law_40 (by decide) (by decide) (by decide) (by decide) ?_
      exact law_case_5 l hC0 q0 q1 q2 gx gm cX cM cJ sa1 sa2 hfl hE1 hE2 hK hP hD hS ls hl
    · refine lv_tableIn (off := 298) (tgt := 338) hx hb dL_law_40 (by decide) (by decide) (by decide) (by decide) ?_
      exact law_case_6 l hC0 q0 q1 q2 gx gm cX cM cJ sa1 sa2 hfl hE1 hE2 hK hP hD hS ls hl
    · refine lv_tableIn (off := 366) (tgt := 406) hx hb dL_law_40 (by decide) (by decide) (by decide) (by decide) ?_
      exact law_case_7 l hC0 q0 q1 q2 gx gm cX cM cJ sa1 sa2 hfl hE1 hE2 hK hP hD hS ls hl
    · refine lv_tableIn (off := 434) (tgt := 474) hx hb dL_law_40 (by decide) (by decide) (by decide) (by decide) ?_
      exact law_case_8 l hC0 q0 q1 q2 gx gm cX cM cJ sa1 sa2 hfl hE1 hE2 hK hP hD hS ls hl
    · refine lv_tableIn (off := 471) (tgt := 511) hx hb dL_law_40 (by decide) (by decide) (by decide) (by decide) ?_
      exact law_case_9 l hC0 q0 q1 q2 gx gm cX cM cJ sa1 sa2 hfl hE1 hE2 hK hP hD hS ls hl
    · refine lv_tableIn (off := 508) (tgt := 548) hx hb dL_law_40 (by decide) (by decide) (by decide) (by decide) ?_
      exact law_case_10 l hC0 q0 q1 q2 gx gm cX cM cJ sa1 sa2 hfl hE1 hE2 hK hP hD hS ls hl
    · refine lv_tableIn (off := 534) (tgt := 574) hx hb dL_law_40 (by decide) (by decide) (by decide) (by decide) ?_
      exact law_case_11 l hC0 q0 q1 q2 gx gm cX cM cJ sa1 sa2 hfl hE1 hE2 hK hP hD hS ls hl
    · refine lv_tableIn (off := 583) (tgt := 623) hx hb dL_law_40 (by decide) (by decide) (by decide) (by decide) ?_
      exact law_case_12 l hC0 q0 q1 q2 gx gm cX cM cJ sa1 sa2 hfl hE1 hE2 hK hP hD hS ls hl
    · refine lv_tableIn (off := 620) (tgt := 660) hx hb dL_law_40 (by decide) (by decide) (by decide) (by decide) ?_
      exact law_case_13 l hC0 q0 q1 q2 gx gm cX cM cJ sa1 sa2 hfl hE1 hE2 hK hP hD hS ls hl
    · refine lv_tableIn (off := 657) (tgt := 697) hx hb dL_law_40 (by decide) (by decide) (by decide) (by decide) ?_
      exact law_case_14 l hC0 q0 q1 q2 gx gm cX cM cJ sa1 sa2 hfl hE1 hE2 hK hP hD hS ls hl
    · refine lv_tableIn (off := 694) (tgt := 734) hx hb dL_law_40 (by decide) (by decide) (by decide) (by decide) ?_
      exact law_case_15 l hC0 q0 q1 q2 gx gm cX cM cJ sa1 sa2 hfl hE1 hE2 hK hP hD hS ls hl
    · refine lv_tableIn (off := 731) (tgt := 771) hx hb dL_law_40 (by decide) (by decide) (by decide) (by decide) ?_
      exact law_case_16 l hC0 q0 q1 q2 gx gm cX cM cJ sa1 sa2 hfl hE1 hE2 hK hP hD hS ls hl
    · refine lv_tableIn (off := 818) (tgt := 858) hx hb dL_law_40 (by decide) (by decide) (by decide) (by decide) ?_
      exact law_case_17 l hC0 q0 q1 q2 gx gm cX cM cJ sa1 sa2 hfl hE1 hE2 hK hP hD hS ls hl
    · refine lv_tableIn (off := 905) (tgt := 945) hx hb dL_law_40 (by decide) (by decide) (by decide) (by decide) ?_
      exact law_case_18 l hC0 q0 q1 q2 gx gm cX cM cJ sa1 sa2 hfl hE1 hE2 hK hP hD hS ls hl
    · refine lv_tableIn (off := 931) (tgt := 971) hx hb dL_law_40 (by decide) (by decide) (by decide) (by decide) ?_
      exact law_case_19 l hC0 q0 q1 q2 gx gm cX cM cJ sa1 sa2 hfl hE1 hE2 hK hP hD hS ls hl
    · refine lv_tableIn (off := 968) (tgt := 1008) hx hb dL_law_40 (by decide) (by decide) (by decide) (by decide) ?_
      exact law_case_20 l hC0 q0 q1 q2 gx gm cX cM cJ sa1 sa2 hfl hE1 hE2 hK hP hD hS ls hl
    · refine lv_tableOut (tgt := 1033) hx hb dL_law_40 (Or.inr (by rw [nI_toInt (by omega)]; omega)) (by decide) ?_
      exact law_tail l hC0 hS (Nat.le_of_ble_eq_true rfl) (Nat.le_of_ble_eq_true rfl) ls (lv_sub hl [0, 4] rfl)
  · have hC0 := C0
    obtain ⟨hx, hb, hr, hml, hown, hts, hX, hbl, hlocks, hgv⟩ := C0
    have hown : s.vm.findClass RL = some m.cls := hown
    have hA : ∀ q : Nat, s.heap.size ≤ q → (fun q : Nat => s.heap.size ≤ q) q := fun _ h => h
    have hbA : ¬ (fun q : Nat => s.heap.size ≤ q) b := Nat.not_le.mpr hbl
    refine lv_iload hx hb dL_law_23 (lv_at hl 0 rfl) ?_
    refine lv_aload_n hx hb dL_law_25 rfl (lv_at hl 4 rfl) ?_
    refine va_slen hx hb hX hbl hbA hS dL_law_26 ?_
    refine lv_topi (fun v_1 e_1 => ?_)
    obtain rfl : v_1 = 0 := by rw [e_1]; decide
    refine lv_bipush (v := 7) hx hb dL_law_27 (by decide) ?_
    refine lv_isub hx hb dL_law_29 ?_
    refine lv_topi (fun v_2 e_2 => ?_)
    obtain rfl : v_2 = (-7) := by rw [e_2]; decide
    refine lv_icmp_gt (tgt := 1039) hx hb dL_law_30 (by decide) (fun c_3 => ?_) (fun c_3 => absurd (by decide) c_3)
    refine lv_iconst (v := 1) hx hb dL_law_1039 (by decide) ?_
    refine va_forget (fun q hq => hS.2.2 q hq) ?_
    refine W.widen (k := 600002) (n := 7302232) (Nat.le_of_ble_eq_true rfl) (Nat.le_of_ble_eq_true rfl) ?_
    exact lw_ret hx hb hr hlocks dL_law_1040
  · have hC0 := C0
    obtain ⟨hx, hb, hr, hml, hown, hts, hX, hbl, hlocks, hgv⟩ := C0
    have hown : s.vm.findClass RL = some m.cls := hown
    have hA : ∀ q : Nat, s.heap.size ≤ q → (fun q : Nat => s.heap.size ≤ q) q := fun _ h => h
    have hbA : ¬ (fun q : Nat => s.heap.size ≤ q) b := Nat.not_le.mpr hbl
    refine lv_iload hx hb dL_law_23 (lv_at hl 0 rfl) ?_
    refine lv_aload_n hx hb dL_law_25 rfl (lv_at hl 4 rfl) ?_
    refine va_slen hx hb hX hbl hbA hS dL_law_26 ?_
    refine lv_topi (fun v_1 e_1 => ?_)
    obtain rfl : v_1 = 1 := by rw [e_1]; decide
    refine lv_bipush (v := 7) hx hb dL_law_27 (by decide) ?_
    refine lv_isub hx hb dL_law_29 ?_
    refine lv_topi (fun v_2 e_2 => ?_)
    obtain rfl : v_2 = (-6) := by rw [e_2]; decide
    refine lv_icmp_gt (tgt := 1039) hx hb dL_law_30 (by decide) (fun c_3 => ?_) (fun c_3 => absurd (by decide) c_3)
    refine lv_iconst (v := 1) hx hb dL_law_1039 (by decide) ?_
    refine va_forget (fun q hq => hS.2.2 q hq) ?_
    refine W.widen (k := 600002) (n := 7302232) (Nat.le_of_ble_eq_true rfl) (Nat.le_of_ble_eq_true rfl) ?_
    exact lw_ret hx hb hr hlocks dL_law_1040
  · have hC0 := C0
    obtain ⟨hx, hb, hr, hml, hown, hts, hX, hbl, hlocks, hgv⟩ := C0
    have hown : s.vm.findClass RL = some m.cls := hown
    have hA : ∀ q : Nat, s.heap.size ≤ q → (fun q : Nat => s.heap.size ≤ q) q := fun _ h => h
    have hbA : ¬ (fun q : Nat => s.heap.size ≤ q) b := Nat.not_le.mpr hbl
    refine lv_iload hx hb dL_law_23 (lv_at hl 0 rfl) ?_
    refine lv_aload_n hx hb dL_law_25 rfl (lv_at hl 4 rfl) ?_
    refine va_slen hx hb hX hbl hbA hS dL_law_26 ?_
    refine lv_topi (fun v_1 e_1 => ?_)
    obtain rfl : v_1 = 2 := by rw [e_1]; decide
    refine lv_bipush (v := 7) hx hb dL_law_27 (by decide) ?_
    refine lv_isub hx hb dL_law_29 ?_
    refine lv_topi (fun v_2 e_2 => ?_)
    obtain rfl : v_2 = (-5) := by rw [e_2]; decide
    refine lv_icmp_gt (tgt := 1039) hx hb dL_law_30 (by decide) (fun c_3 => ?_) (fun c_3 => absurd (by decide) c_3)
    refine lv_iconst (v := 1) hx hb dL_law_1039 (by decide) ?_
    refine va_forget (fun q hq => hS.2.2 q hq) ?_
    refine W.widen (k := 600002) (n := 7302232) (Nat.le_of_ble_eq_true rfl) (Nat.le_of_ble_eq_true rfl) ?_
    exact lw_ret hx hb hr hlocks dL_law_1040
  · have hC0 := C0
    obtain ⟨hx, hb, hr, hml, hown, hts, hX, hbl, hlocks, hgv⟩ := C0
    have hown : s.vm.findClass RL = some m.cls := hown
    have hA : ∀ q : Nat, s.heap.size ≤ q → (fun q : Nat => s.heap.size ≤ q) q := fun _ h => h
    have hbA : ¬ (fun q : Nat => s.heap.size ≤ q) b := Nat.not_le.mpr hbl
    refine lv_iload hx hb dL_law_23 (lv_at hl 0 rfl) ?_
    refine lv_aload_n hx hb dL_law_25 rfl (lv_at hl 4 rfl) ?_
    refine va_slen hx hb hX hbl hbA hS dL_law_26 ?_
    refine lv_topi (fun v_1 e_1 => ?_)
    obtain rfl : v_1 = 3 := by rw [e_1]; decide
    refine lv_bipush (v := 7) hx hb dL_law_27 (by decide) ?_
    refine lv_isub hx hb dL_law_29 ?_
    refine lv_topi (fun v_2 e_2 => ?_)
    obtain rfl : v_2 = (-4) := by rw [e_2]; decide
    refine lv_icmp_gt (tgt := 1039) hx hb dL_law_30 (by decide) (fun c_3 => ?_) (fun c_3 => absurd (by decide) c_3)
    refine lv_iconst (v := 1) hx hb dL_law_1039 (by decide) ?_
    refine va_forget (fun q hq => hS.2.2 q hq) ?_
    refine W.widen (k := 600002) (n := 7302232) (Nat.le_of_ble_eq_true rfl) (Nat.le_of_ble_eq_true rfl) ?_
    exact lw_ret hx hb hr hlocks dL_law_1040
  · have hC0 := C0
    obtain ⟨hx, hb, hr, hml, hown, hts, hX, hbl, hlocks, hgv⟩ := C0
    have hown : s.vm.findClass RL = some m.cls := hown
    have hA : ∀ q : Nat, s.heap.size ≤ q → (fun q : Nat => s.heap.size ≤ q) q := fun _ h => h
    have hbA : ¬ (fun q : Nat => s.heap.size ≤ q) b := Nat.not_le.mpr hbl
    refine lv_iload hx hb dL_law_23 (lv_at hl 0 rfl) ?_
    refine lv_aload_n hx hb dL_law_25 rfl (lv_at hl 4 rfl) ?_
    refine va_slen hx hb hX hbl hbA hS dL_law_26 ?_
    refine lv_topi (fun v_1 e_1 => ?_)
    obtain rfl : v_1 = 4 := by rw [e_1]; decide
    refine lv_bipush (v := 7) hx hb dL_law_27 (by decide) ?_
    refine lv_isub hx hb dL_law_29 ?_
    refine lv_topi (fun v_2 e_2 => ?_)
    obtain rfl : v_2 = (-3) := by rw [e_2]; decide
    refine lv_icmp_gt (tgt := 1039) hx hb dL_law_30 (by decide) (fun c_3 => ?_) (fun c_3 => absurd (by decide) c_3)
    refine lv_iconst (v := 1) hx hb dL_law_1039 (by decide) ?_
    refine va_forget (fun q hq => hS.2.2 q hq) ?_
    refine W.widen (k := 600002) (n := 7302232) (Nat.le_of_ble_eq_true rfl) (Nat.le_of_ble_eq_true rfl) ?_
    exact lw_ret hx hb hr hlocks dL_law_1040
  · have hC0 := C0
    obtain ⟨hx, hb, hr, hml, hown, hts, hX, hbl, hlocks, hgv⟩ := C0
    have hown : s.vm.findClass RL = some m.cls := hown
    have hA : ∀ q : Nat, s.heap.size ≤ q → (fun q : Nat => s.heap.size ≤ q) q := fun _ h => h
    have hbA : ¬ (fun q : Nat => s.heap.size ≤ q) b := Nat.not_le.mpr hbl
    refine lv_iload hx hb dL_law_23 (lv_at hl 0 rfl) ?_
    refine lv_aload_n hx hb dL_law_25 rfl (lv_at hl 4 rfl) ?_
    refine va_slen hx hb hX hbl hbA hS dL_law_26 ?_
    refine lv_topi (fun v_1 e_1 => ?_)
    obtain rfl : v_1 = 5 := by rw [e_1]; decide
    refine lv_bipush (v := 7) hx hb dL_law_27 (by decide) ?_
    refine lv_isub hx hb dL_law_29 ?_
    refine lv_topi (fun v_2 e_2 => ?_)
    obtain rfl : v_2 = (-2) := by rw [e_2]; decide
    refine lv_icmp_gt (tgt := 1039) hx hb dL_law_30 (by decide) (fun c_3 => ?_) (fun c_3 => absurd (by decide) c_3)
    refine lv_iconst (v := 1) hx hb dL_law_1039 (by decide) ?_
    refine va_forget (fun q hq => hS.2.2 q hq) ?_
    refine W.widen (k := 600002) (n := 7302232) (Nat.le_of_ble_eq_true rfl) (Nat.le_of_ble_eq_true rfl) ?_
    exact lw_ret hx hb hr hlocks dL_law_1040
  · have hC0 := C0
    obtain ⟨hx, hb, hr, hml, hown, hts, hX, hbl, hlocks, hgv⟩ := C0
    have hown : s.vm.findClass RL = some m.cls := hown
    have hA : ∀ q : Nat, s.heap.size ≤ q → (fun q : Nat => s.heap.size ≤ q) q := fun _ h => h
    have hbA : ¬ (fun q : Nat => s.heap.size ≤ q) b := Nat.not_le.mpr hbl
    refine lv_iload hx hb dL_law_23 (lv_at hl 0 rfl) ?_
    refine lv_aload_n hx hb dL_law_25 rfl (lv_at hl 4 rfl) ?_
    refine va_slen hx hb hX hbl hbA hS dL_law_26 ?_
    refine lv_topi (fun v_1 e_1 => ?_)
    obtain rfl : v_1 = 6 := by rw [e_1]; decide
    refine lv_bipush (v := 7) hx hb dL_law_27 (by decide) ?_
    refine lv_isub hx hb dL_law_29 ?_
    refine lv_topi (fun v_2 e_2 => ?_)
    obtain rfl : v_2 = (-1) := by rw [e_2]; decide
    refine lv_icmp_gt (tgt := 1039) hx hb dL_law_30 (by decide) (fun c_3 => ?_) (fun c_3 => absurd (by decide) c_3)
    refine lv_iconst (v := 1) hx hb dL_law_1039 (by decide) ?_
    refine va_forget (fun q hq => hS.2.2 q hq) ?_
    refine W.widen (k := 600002) (n := 7302232) (Nat.le_of_ble_eq_true rfl) (Nat.le_of_ble_eq_true rfl) ?_
    exact lw_ret hx hb hr hlocks dL_law_1040

set_option maxHeartbeats 8000000 in
set_option maxRecDepth 100000 in
/-- THE LAW, from its entry -/
theorem whole_start {p : Program} {e : Env} {s : State} {m : MethodId} {below : List Frame} {meth : Method} {c : Code} (l : Launch) (hflags : l.flags = flags0) {b L : Nat} {xs : Nat → Int32} (hL : L ≤ 7) (C0 : lw_At p s m meth c b L xs) : W p l e room_1 s m #[Value.ref b] below meth c s.heap [] 0 0 (lw_Z below #[Value.ref b] s) (entryFrame m ([Value.ref b] : List Value).toArray 7) := by
  obtain ⟨hx, hb, hr, hml, hown, hts, hX, hbl, hlocks, hgv⟩ := id C0
  have hown : s.vm.findClass RL = some m.cls := hown
  have hA : ∀ q : Nat, s.heap.size ≤ q → (fun q : Nat => s.heap.size ≤ q) q := fun _ h => h
  have hbA : ¬ (fun q : Nat => s.heap.size ≤ q) b := Nat.not_le.mpr hbl
  have hfl : l.stackTraces = false := by unfold Launch.stackTraces; rw [hflags]; decide +kernel
  obtain ⟨c0, i0, hKn0⟩ := u_known (C := RX0) (T := TX0) (N := 16) (n := 16) hts il_X0 (hts (.instantiable RX0 16) (List.mem_of_getElem? (i := 325) (by decide +kernel)))
  obtain ⟨c1, i1, hKn1⟩ := u_known (C := RX1) (T := TX1) (N := 14) (n := 14) hts il_X1 (hts (.instantiable RX1 14) (List.mem_of_getElem? (i := 535) (by decide +kernel)))
  obtain ⟨c2, i2, hKn2⟩ := u_known (C := RX2) (T := TX2) (N := 13) (n := 13) hts il_X2 (hts (.instantiable RX2 13) (List.mem_of_getElem? (i := 659) (by decide +kernel)))
  obtain ⟨c3, i3, hKn3⟩ := u_known (C := RX3) (T := TX3) (N := 8) (n := 8) hts il_X3 (hts (.instantiable RX3 8) (List.mem_of_getElem? (i := 265) (by decide +kernel)))
  obtain ⟨c4, i4, hKn4⟩ := u_known (C := RX4) (T := TX4) (N := 5) (n := 5) hts il_X4 (hts (.instantiable RX4 5) (List.mem_of_getElem? (i := 634) (by decide +kernel)))
  obtain ⟨c5, i5, hKn5⟩ := u_known (C := RX5) (T := TX5) (N := 20) (n := 20) hts il_X5 (hts (.instantiable RX5 20) (List.mem_of_getElem? (i := 719) (by decide +kernel)))
  obtain ⟨c6, i6, hKn6⟩ := u_known (C := RX6) (T := TX6) (N := 5) (n := 5) hts il_X6 (hts (.instantiable RX6 5) (List.mem_of_getElem? (i := 794) (by decide +kernel)))
  obtain ⟨c7, i7, hKn7⟩ := u_known (C := RX7) (T := TX7) (N := 6) (n := 6) hts il_X7 (hts (.instantiable RX7 6) (List.mem_of_getElem? (i := 495) (by decide +kernel)))
  obtain ⟨c8, i8, hKn8⟩ := u_known (C := RX8) (T := TX8) (N := 18) (n := 18) hts il_X8 (hts (.instantiable RX8 18) (List.mem_of_getElem? (i := 417) (by decide +kernel)))
  obtain ⟨c9, i9, hKn9⟩ := u_known (C := RX9) (T := TX9) (N := 3) (n := 3) hts il_X9 (hts (.instantiable RX9 3) (List.mem_of_getElem? (i := 246) (by decide +kernel)))
  obtain ⟨c10, i10, hKn10⟩ := u_known (C := RX10) (T := TX10) (N := 6) (n := 6) hts il_X10 (hts (.instantiable RX10 6) (List.mem_of_getElem? (i := 606) (by decide +kernel)))
  obtain ⟨c11, i11, hKn11⟩ := u_known (C := RX11) (T := TX11) (N := 13) (n := 13) hts il_X11 (hts (.instantiable RX11 13) (List.mem_of_getElem? (i := 238) (by decide +kernel)))
  obtain ⟨c12, i12, hKn12⟩ := u_known (C := RX12) (T := TX12) (N := 87) (n := 87) hts il_X12 (hts (.instantiable RX12 87) (List.mem_of_getElem? (i := 1685) (by decide +kernel)))
  obtain ⟨dC, dI, hKc⟩ : ∃ (dC : Nat → ClassId) (dI : Nat → Nat → Nat), ∀ (k : Nat) (q : vw_C), vwCl[k]? = some q → u_Kn s q.1 q.2.1 q.2.2 (dC k) (dI k) := by
    refine ⟨fun k => ([c0, c1, c2, c3, c4, c5, c6, c7, c8, c9, c10, c11, c12] : List ClassId).getD k c0, fun k => ([i0, i1, i2, i3, i4, i5, i6, i7, i8, i9, i10, i11, i12] : List (Nat → Nat)).getD k i0, ?_⟩
    intro k q hq
    match k, hq with
    | 0, hq => cases hq; exact hKn0
    | 1, hq => cases hq; exact hKn1
    | 2, hq => cases hq; exact hKn2
    | 3, hq => cases hq; exact hKn3
    | 4, hq => cases hq; exact hKn4
    | 5, hq => cases hq; exact hKn5
    | 6, hq => cases hq; exact hKn6
    | 7, hq => cases hq; exact hKn7
    | 8, hq => cases hq; exact hKn8
    | 9, hq => cases hq; exact hKn9
    | 10, hq => cases hq; exact hKn10
    | 11, hq => cases hq; exact hKn11
    | 12, hq => cases hq; exact hKn12
    | k + 13, hq => simp [vwCl] at hq
  have hS : va_S (fun q : Nat => s.heap.size ≤ q) s.heap s.heap [] := va_S.rf
  have hK : va_K (dC, dI) vwCl [] s := ⟨hKc, fun k q h => by simp at h⟩
  have hP : va_P (dC, dI) vwCl [] s.heap := p_nil
  have hD : va_D (fun q : Nat => s.heap.size ≤ q) [] := d_nil
  have hl := lv_entry ([.ref b]) (n := 7) (Nat.le_of_ble_eq_true rfl)
  rw [lg_entry_eq]
  generalize (lg_sl ([.ref b]) ++ List.replicate (7 - (lg_sl ([.ref b])).length) Slot.unset).toArray = ls at hl ⊢
  have hl : lv_has ls 7 [(0, .ref b)] := hl
  have hN9 : va_Nw (.methodLinkNest RX11 9 yX9_init RX11) s := va_Nw.of rfl (hts (.methodLinkNest RX11 9 yX9_init RX11) (List.mem_of_getElem? (i := 247) (by decide +kernel)))
  have hN18 : va_Nw (.methodLinkNest RX11 18 yX3_init RX11) s := va_Nw.of rfl (hts (.methodLinkNest RX11 18 yX3_init RX11) (List.mem_of_getElem? (i := 266) (by decide +kernel)))
  have hN46 : va_Nw (.methodLinkNest RX11 46 yX7_init RX11) s := va_Nw.of rfl (hts (.methodLinkNest RX11 46 yX7_init RX11) (List.mem_of_getElem? (i := 496) (by decide +kernel)))
  have hflat := flat_of_before _ hgv
  obtain ⟨sa1, hev_sa1⟩ : ∃ a : Nat, (Term.string RX11 198).eval #[Value.ref b] s none [] s = some (.ref a) := by
    obtain ⟨a, c, cA, kA, q1, -⟩ := Cond.exactly_spec (args := #[Value.ref b]) (first := s) (o := none) (s := s) (idx := []) (t := .string RX11 198) (cls := "java/lang/String") (hflat _ (by decide +kernel))
    exact ⟨a, q1⟩
  have hE1 : xE sa1 198 "no such instruction" (fun q : Nat => s.heap.size ≤ q) s s.heap := ⟨vk_R.of (hts (.stringRef RX11 198 "no such instruction") (List.mem_of_getElem? (i := 1644) (by decide +kernel))) hev_sa1, vx_Zqof (hts (.laysStatic Bundle.tN "UNASSIGNED_STACK" Bundle.steD) (List.mem_of_getElem? (i := 1632) (by decide +kernel))) (hts (.initialized Bundle.tN) (List.mem_of_getElem? (i := 233) (by decide +kernel))) (hflat (.isRef (.static Bundle.tN "UNASSIGNED_STACK" Bundle.steD)) (by decide +kernel)) (fun a h => Nat.not_le.mpr h), vx_Zqof (hts (.laysStatic Bundle.tN "SUPPRESSED_SENTINEL" Bundle.listD) (List.mem_of_getElem? (i := 1634) (by decide +kernel))) (hts (.initialized Bundle.tN) (List.mem_of_getElem? (i := 233) (by decide +kernel))) (hflat (.isRef (.static Bundle.tN "SUPPRESSED_SENTINEL" Bundle.listD)) (by decide +kernel)) (fun a h => Nat.not_le.mpr h), va_Nw.of rfl (hts (.castable "java/util/NoSuchElementException" "java/util/NoSuchElementException") (List.mem_of_getElem? (i := 1607) (by decide +kernel))), va_Nw.of rfl (hts (.declares ⟨"java/lang/RuntimeException", "<init>", "(Ljava/lang/String;)V"⟩) (List.mem_of_getElem? (i := 1609) (by decide +kernel))), va_Nw.of rfl (hts (.declares ⟨"java/lang/Exception", "<init>", "(Ljava/lang/String;)V"⟩) (List.mem_of_getElem? (i := 1611) (by decide +kernel))), va_Nw.of rfl (hts (.declares ⟨"java/lang/Throwable", "<init>", "(Ljava/lang/String;)V"⟩) (List.mem_of_getElem? (i := 1613) (by decide +kernel)))⟩
  obtain ⟨sa2, hev_sa2⟩ : ∃ a : Nat, (Term.string RX11 220).eval #[Value.ref b] s none [] s = some (.ref a) := by
    obtain ⟨a, c, cA, kA, q1, -⟩ := Cond.exactly_spec (args := #[Value.ref b]) (first := s) (o := none) (s := s) (idx := []) (t := .string RX11 220) (cls := "java/lang/String") (hflat _ (by decide +kernel))
    exact ⟨a, q1⟩
  have hE2 : xE sa2 220 "no such block" (fun q : Nat => s.heap.size ≤ q) s s.heap := ⟨vk_R.of (hts (.stringRef RX11 220 "no such block") (List.mem_of_getElem? (i := 1678) (by decide +kernel))) hev_sa2, vx_Zqof (hts (.laysStatic Bundle.tN "UNASSIGNED_STACK" Bundle.steD) (List.mem_of_getElem? (i := 1632) (by decide +kernel))) (hts (.initialized Bundle.tN) (List.mem_of_getElem? (i := 233) (by decide +kernel))) (hflat (.isRef (.static Bundle.tN "UNASSIGNED_STACK" Bundle.steD)) (by decide +kernel)) (fun a h => Nat.not_le.mpr h), vx_Zqof (hts (.laysStatic Bundle.tN "SUPPRESSED_SENTINEL" Bundle.listD) (List.mem_of_getElem? (i := 1634) (by decide +kernel))) (hts (.initialized Bundle.tN) (List.mem_of_getElem? (i := 233) (by decide +kernel))) (hflat (.isRef (.static Bundle.tN "SUPPRESSED_SENTINEL" Bundle.listD)) (by decide +kernel)) (fun a h => Nat.not_le.mpr h), va_Nw.of rfl (hts (.castable "java/util/NoSuchElementException" "java/util/NoSuchElementException") (List.mem_of_getElem? (i := 1607) (by decide +kernel))), va_Nw.of rfl (hts (.declares ⟨"java/lang/RuntimeException", "<init>", "(Ljava/lang/String;)V"⟩) (List.mem_of_getElem? (i := 1609) (by decide +kernel))), va_Nw.of rfl (hts (.declares ⟨"java/lang/Exception", "<init>", "(Ljava/lang/String;)V"⟩) (List.mem_of_getElem? (i := 1611) (by decide +kernel))), va_Nw.of rfl (hts (.declares ⟨"java/lang/Throwable", "<init>", "(Ljava/lang/String;)V"⟩) (List.mem_of_getElem? (i := 1613) (by decide +kernel)))⟩
  refine va_new (ci := 11) (fs := [.null, .null, .null, .null, .null, .null, .null, .null, .null, .null, .null, .null, .int 0]) (C := RX11) (T := TX11) (N := 13) hx hb hts il_X11 tyX11 tyX11_ok hown (hts (.classLink RL 8 RX11) (List.mem_of_getElem? (i := 237) (by decide +kernel))) (hts (.instantiable RX11 13) (List.mem_of_getElem? (i := 238) (by decide +kernel))) (hts (.initialized RX11) (List.mem_of_getElem? (i := 211) (by decide +kernel))) hK hP hD hS hA rfl (by decide) (Nat.le_of_ble_eq_true rfl) (Nat.le_of_ble_eq_true rfl) dL_law_0 (fun q0 H hP hD hS => ?_)
  have hP : va_P (dC, dI) vwCl [(q0, .inr (11, [.null, .null, .null, .null, .null, .null, .null, .null, .null, .null, .null, .null, .int 0]))] H := hP
  have hD : va_D (fun q : Nat => s.heap.size ≤ q) [(q0, .inr (11, [.null, .null, .null, .null, .null, .null, .null, .null, .null, .null, .null, .null, .int 0]))] := hD
  refine W.widen (k := 1) (n := 13) (Nat.le_of_ble_eq_true rfl) (Nat.le_of_ble_eq_true rfl) ?_
  refine lv_dup hx hb dL_law_3 rfl ?_
  have hPc := hP.sub (ws' := [(q0, .inr (11, [.null, .null, .null, .null, .null, .null, .null, .null, .null, .null, .null, .null, .int 0]))]) [0] rfl
  have hDc := hD.sub (ws' := [(q0, .inr (11, [.null, .null, .null, .null, .null, .null, .null, .null, .null, .null, .null, .null, .int 0]))]) [0] (by decide) rfl
  have hKc := hK.sub (tys' := []) [] rfl
  have hFc := va_free (wc := [(q0, .inr (11, [.null, .null, .null, .null, .null, .null, .null, .null, .null, .null, .null, .null, .int 0]))]) hD hS hA [0] rfl
  refine va_callv (va_runI (As := []) (rest := [.ref q0]) ⟨hx, hb, hml, hown, hts⟩ (c_X11_init l dC dI H.size q0) (cwI 0 hts ug_L_law_X11_init rfl rfl rfl (hts (.initialized RX11) (List.mem_of_getElem? (i := 211) (by decide +kernel))) (hts (.methodLink RL 18 yX11_init) (List.mem_of_getElem? (i := 239) (by decide +kernel))) (hts (.instanceMethod yX11_init) (List.mem_of_getElem? (i := 240) (by decide +kernel))) rfl (by decide +kernel) ⟨Nat.le_of_ble_eq_true rfl, Nat.le_of_ble_eq_true rfl⟩) ⟨fun a U g mk q => by obtain ⟨q0, q1, qP, qK, qD, qE0, qE1, qE2⟩ := q; exact ⟨q0, q1, qP, va_K.moved (u := U) (U := U.calling g mk a) (Vm.Alike.refl U.vm) qK, qD, va_Nw.same rfl rfl qE0, va_Nw.same rfl rfl qE1, va_Nw.same rfl rfl qE2⟩, fun U hU hW => ⟨rfl, by rw [hU], by rw [hU]; exact hPc, va_K.moved hW.alike hKc, hDc.weaken (fun _ _ _ _ => trivial), va_Nw.warmM hW hN9, va_Nw.warmM hW hN18, va_Nw.warmM hW hN46⟩⟩ rfl rfl hl.1 rfl (lv_room (Nat.le_of_ble_eq_true rfl)) dL_law_4 ⟨Nat.le_of_ble_eq_true rfl, Nat.le_of_ble_eq_true rfl⟩) hS (fun q _ h => hFc q h) hFc (fun u t H locs ht hvm hw hB hz1 hk1 hS => ?_)
  obtain ⟨gx, cX, hP1, hK1, hD1⟩ := hB
  rw [ht] at hP1
  have hK1 := va_K.moved hvm.symm hK1
  obtain ⟨hP, hD⟩ := va_join (wr := []) (w1 := [(q0, .inr (11, [.ref (gx 0), .ref (gx 1), .ref (gx 2), .ref (gx 3), .ref (gx 4), .ref (gx 5), .ref (gx 6), .ref (gx 7), .ref (gx 8), .ref (gx 9), .ref (gx 10), .ref (gx 11), .int 0])), ((gx 0), .inr (9, [.ref (gx 12), .int 0, .int 0])), ((gx 12), .inl (cX, 240, .inl (fun _ => 0))), ((gx 2), .inr (3, [.int 0, .int 0, .ref (gx 13), .ref (gx 14), .ref (gx 15), .ref (gx 16), .ref (gx 17), .ref (gx 18)]))]) hP hD [0] [] rfl rfl (by decide) (by decide) hk1 hFc hP1 hD1
  have hK := hK.app hK1
  clear hPc hDc hFc hk1 hz1
  have hP : va_P (dC, dI) vwCl [(q0, .inr (11, [.ref (gx 0), .ref (gx 1), .ref (gx 2), .ref (gx 3), .ref (gx 4), .ref (gx 5), .ref (gx 6), .ref (gx 7), .ref (gx 8), .ref (gx 9), .ref (gx 10), .ref (gx 11), .int 0])), ((gx 0), .inr (9, [.ref (gx 12), .int 0, .int 0])), ((gx 12), .inl (cX, 240, .inl (fun _ => 0))), ((gx 2), .inr (3, [.int 0, .int 0, .ref (gx 13), .ref (gx 14), .ref (gx 15), .ref (gx 16), .ref (gx 17), .ref (gx 18)]))] H := hP
  have hD : va_D (fun q : Nat => s.heap.size ≤ q) [(q0, .inr (11, [.ref (gx 0), .ref (gx 1), .ref (gx 2), .ref (gx 3), .ref (gx 4), .ref (gx 5), .ref (gx 6), .ref (gx 7), .ref (gx 8), .ref (gx 9), .ref (gx 10), .ref (gx 11), .int 0])), ((gx 0), .inr (9, [.ref (gx 12), .int 0, .int 0])), ((gx 12), .inl (cX, 240, .inl (fun _ => 0))), ((gx 2), .inr (3, [.int 0, .int 0, .ref (gx 13), .ref (gx 14), .ref (gx 15), .ref (gx 16), .ref (gx 17), .ref (gx 18)]))] := hD
  have hK : va_K (dC, dI) vwCl [(cX, .byte)] s := hK
  refine W.widen (k := 78) (n := 10423) (Nat.le_of_ble_eq_true rfl) (Nat.le_of_ble_eq_true rfl) ?_
  refine lv_astore_n (lv' := [(1, .ref q0), (0, .ref b)]) hx hb dL_law_7 rfl hl (by decide) rfl (fun ls hl => ?_)
  refine va_new (ci := 12) (fs := [.int 0, .null, .int 0, .int 0, .null, .null, .null, .int 0, .int 0, .null, .null, .null, .null, .null, .null, .int 0, .int 0, .int 0, .int 0, .null, .null, .int 0, .null, .null, .null, .null, .int 0, .null, .null, .null, .null, .null, .int 0, .null, .null, .null, .null, .int 0, .long 0, .int 0, .int 0, .null, .null, .null, .int 0, .null, .null, .null, .null, .null, .int 0, .int 0, .null, .int 0, .int 0, .null, .null, .null, .null, .null, .null, .null, .null, .null, .null, .int 0, .int 0, .null, .null, .int 0, .null, .int 0, .null, .null, .int 0, .int 0, .int 0, .int 0, .int 0, .int 0, .int 0, .int 0, .int 0, .null, .int 0, .null, .null]) (C := RX12) (T := TX12) (N := 87) hx hb hts il_X12 tyX12 tyX12_ok hown (hts (.classLink RL 19 RX12) (List.mem_of_getElem? (i := 1684) (by decide +kernel))) (hts (.instantiable RX12 87) (List.mem_of_getElem? (i := 1685) (by decide +kernel))) (hts (.initialized RX12) (List.mem_of_getElem? (i := 223) (by decide +kernel))) hK hP hD hS hA rfl (by decide) (Nat.le_of_ble_eq_true rfl) (Nat.le_of_ble_eq_true rfl) dL_law_8 (fun q1 H hP hD hS => ?_)
  have hP : va_P (dC, dI) vwCl [(q0, .inr (11, [.ref (gx 0), .ref (gx 1), .ref (gx 2), .ref (gx 3), .ref (gx 4), .ref (gx 5), .ref (gx 6), .ref (gx 7), .ref (gx 8), .ref (gx 9), .ref (gx 10), .ref (gx 11), .int 0])), ((gx 0), .inr (9, [.ref (gx 12), .int 0, .int 0])), ((gx 12), .inl (cX, 240, .inl (fun _ => 0))), ((gx 2), .inr (3, [.int 0, .int 0, .ref (gx 13), .ref (gx 14), .ref (gx 15), .ref (gx 16), .ref (gx 17), .ref (gx 18)])), (q1, .inr (12, [.int 0, .null, .int 0, .int 0, .null, .null, .null, .int 0, .int 0, .null, .null, .null, .null, .null, .null, .int 0, .int 0, .int 0, .int 0, .null, .null, .int 0, .null, .null, .null, .null, .int 0, .null, .null, .null, .null, .null, .int 0, .null, .null, .null, .null, .int 0, .long 0, .int 0, .int 0, .null, .null, .null, .int 0, .null, .null, .null, .null, .null, .int 0, .int 0, .null, .int 0, .int 0, .null, .null, .null, .null, .null, .null, .null, .null, .null, .null, .int 0, .int 0, .null, .null, .int 0, .null, .int 0, .null, .null, .int 0, .int 0, .int 0, .int 0, .int 0, .int 0, .int 0, .int 0, .int 0, .null, .int 0, .null, .null]))] H := hP
  have hD : va_D (fun q : Nat => s.heap.size ≤ q) [(q0, .inr (11, [.ref (gx 0), .ref (gx 1), .ref (gx 2), .ref (gx 3), .ref (gx 4), .ref (gx 5), .ref (gx 6), .ref (gx 7), .ref (gx 8), .ref (gx 9), .ref (gx 10), .ref (gx 11), .int 0])), ((gx 0), .inr (9, [.ref (gx 12), .int 0, .int 0])), ((gx 12), .inl (cX, 240, .inl (fun _ => 0))), ((gx 2), .inr (3, [.int 0, .int 0, .ref (gx 13), .ref (gx 14), .ref (gx 15), .ref (gx 16), .ref (gx 17), .ref (gx 18)])), (q1, .inr (12, [.int 0, .null, .int 0, .int 0, .null, .null, .null, .int 0, .int 0, .null, .null, .null, .null, .null, .null, .int 0, .int 0, .int 0, .int 0, .null, .null, .int 0, .null, .null, .null, .null, .int 0, .null, .null, .null, .null, .null, .int 0, .null, .null, .null, .null, .int 0, .long 0, .int 0, .int 0, .null, .null, .null, .int 0, .null, .null, .null, .null, .null, .int 0, .int 0, .null, .int 0, .int 0, .null, .null, .null, .null, .null, .null, .null, .null, .null, .null, .int 0, .int 0, .null, .null, .int 0, .null, .int 0, .null, .null, .int 0, .int 0, .int 0, .int 0, .int 0, .int 0, .int 0, .int 0, .int 0, .null, .int 0, .null, .null]))] := hD
  refine W.widen (k := 79) (n := 10510) (Nat.le_of_ble_eq_true rfl) (Nat.le_of_ble_eq_true rfl) ?_
  refine lv_dup hx hb dL_law_11 rfl ?_
  have hPc := hP.sub (ws' := [(q1, .inr (12, [.int 0, .null, .int 0, .int 0, .null, .null, .null, .int 0, .int 0, .null, .null, .null, .null, .null, .null, .int 0, .int 0, .int 0, .int 0, .null, .null, .int 0, .null, .null, .null, .null, .int 0, .null, .null, .null, .null, .null, .int 0, .null, .null, .null, .null, .int 0, .long 0, .int 0, .int 0, .null, .null, .null, .int 0, .null, .null, .null, .null, .null, .int 0, .int 0, .null, .int 0, .int 0, .null, .null, .null, .null, .null, .null, .null, .null, .null, .null, .int 0, .int 0, .null, .null, .int 0, .null, .int 0, .null, .null, .int 0, .int 0, .int 0, .int 0, .int 0, .int 0, .int 0, .int 0, .int 0, .null, .int 0, .null, .null]))]) [4] rfl
  have hDc := hD.sub (ws' := [(q1, .inr (12, [.int 0, .null, .int 0, .int 0, .null, .null, .null, .int 0, .int 0, .null, .null, .null, .null, .null, .null, .int 0, .int 0, .int 0, .int 0, .null, .null, .int 0, .null, .null, .null, .null, .int 0, .null, .null, .null, .null, .null, .int 0, .null, .null, .null, .null, .int 0, .long 0, .int 0, .int 0, .null, .null, .null, .int 0, .null, .null, .null, .null, .null, .int 0, .int 0, .null, .int 0, .int 0, .null, .null, .null, .null, .null, .null, .null, .null, .null, .null, .int 0, .int 0, .null, .null, .int 0, .null, .int 0, .null, .null, .int 0, .int 0, .int 0, .int 0, .int 0, .int 0, .int 0, .int 0, .int 0, .null, .int 0, .null, .null]))]) [4] (by decide) rfl
  have hKc := hK.sub (tys' := []) [] rfl
  have hFc := va_free (wc := [(q1, .inr (12, [.int 0, .null, .int 0, .int 0, .null, .null, .null, .int 0, .int 0, .null, .null, .null, .null, .null, .null, .int 0, .int 0, .int 0, .int 0, .null, .null, .int 0, .null, .null, .null, .null, .int 0, .null, .null, .null, .null, .null, .int 0, .null, .null, .null, .null, .int 0, .long 0, .int 0, .int 0, .null, .null, .null, .int 0, .null, .null, .null, .null, .null, .int 0, .int 0, .null, .int 0, .int 0, .null, .null, .null, .null, .null, .null, .null, .null, .null, .null, .int 0, .int 0, .null, .null, .int 0, .null, .int 0, .null, .null, .int 0, .int 0, .int 0, .int 0, .int 0, .int 0, .int 0, .int 0, .int 0, .null, .int 0, .null, .null]))]) hD hS hA [4] rfl
  refine va_callv (va_runI (As := []) (rest := [.ref q1]) ⟨hx, hb, hml, hown, hts⟩ (c_X12_init l dC dI H.size q1) (cwI 0 hts ug_L_law_X12_init rfl rfl rfl (hts (.initialized RX12) (List.mem_of_getElem? (i := 223) (by decide +kernel))) (hts (.methodLink RL 21 yX12_init) (List.mem_of_getElem? (i := 1686) (by decide +kernel))) (hts (.instanceMethod yX12_init) (List.mem_of_getElem? (i := 1687) (by decide +kernel))) rfl (by decide +kernel) ⟨Nat.le_of_ble_eq_true rfl, Nat.le_of_ble_eq_true rfl⟩) ⟨fun a U g mk q => by obtain ⟨q0, q1, qP, qK, qD⟩ := q; exact ⟨q0, q1, qP, va_K.moved (u := U) (U := U.calling g mk a) (Vm.Alike.refl U.vm) qK, qD⟩, fun U hU hW => ⟨rfl, by rw [hU], by rw [hU]; exact hPc, va_K.moved hW.alike hKc, hDc.weaken (fun _ _ _ _ => trivial)⟩⟩ rfl rfl hl.1 rfl (lv_room (Nat.le_of_ble_eq_true rfl)) dL_law_12 ⟨Nat.le_of_ble_eq_true rfl, Nat.le_of_ble_eq_true rfl⟩) hS (fun q _ h => hFc q h) hFc (fun u t H locs ht hvm hw hB hz1 hk1 hS => ?_)
  obtain ⟨gm, cM, hP1, hK1, hD1⟩ := hB
  rw [ht] at hP1
  have hK1 := va_K.moved hvm.symm hK1
  obtain ⟨hP, hD⟩ := va_join (wr := [(q0, .inr (11, [.ref (gx 0), .ref (gx 1), .ref (gx 2), .ref (gx 3), .ref (gx 4), .ref (gx 5), .ref (gx 6), .ref (gx 7), .ref (gx 8), .ref (gx 9), .ref (gx 10), .ref (gx 11), .int 0])), ((gx 0), .inr (9, [.ref (gx 12), .int 0, .int 0])), ((gx 12), .inl (cX, 240, .inl (fun _ => 0))), ((gx 2), .inr (3, [.int 0, .int 0, .ref (gx 13), .ref (gx 14), .ref (gx 15), .ref (gx 16), .ref (gx 17), .ref (gx 18)]))]) (w1 := [(q1, .inr (12, mF gm 0 0 0 0 0)), ((gm 0), .inl (cM, 240, .inl (fun _ => 0)))]) hP hD [4] [0, 1, 2, 3] rfl rfl (by decide) (by decide) hk1 hFc hP1 hD1
  have hK := hK.app hK1
  clear hPc hDc hFc hk1 hz1
  have hP : va_P (dC, dI) vwCl [(q0, .inr (11, [.ref (gx 0), .ref (gx 1), .ref (gx 2), .ref (gx 3), .ref (gx 4), .ref (gx 5), .ref (gx 6), .ref (gx 7), .ref (gx 8), .ref (gx 9), .ref (gx 10), .ref (gx 11), .int 0])), ((gx 0), .inr (9, [.ref (gx 12), .int 0, .int 0])), ((gx 12), .inl (cX, 240, .inl (fun _ => 0))), ((gx 2), .inr (3, [.int 0, .int 0, .ref (gx 13), .ref (gx 14), .ref (gx 15), .ref (gx 16), .ref (gx 17), .ref (gx 18)])), (q1, .inr (12, mF gm 0 0 0 0 0)), ((gm 0), .inl (cM, 240, .inl (fun _ => 0)))] H := hP
  have hD : va_D (fun q : Nat => s.heap.size ≤ q) [(q0, .inr (11, [.ref (gx 0), .ref (gx 1), .ref (gx 2), .ref (gx 3), .ref (gx 4), .ref (gx 5), .ref (gx 6), .ref (gx 7), .ref (gx 8), .ref (gx 9), .ref (gx 10), .ref (gx 11), .int 0])), ((gx 0), .inr (9, [.ref (gx 12), .int 0, .int 0])), ((gx 12), .inl (cX, 240, .inl (fun _ => 0))), ((gx 2), .inr (3, [.int 0, .int 0, .ref (gx 13), .ref (gx 14), .ref (gx 15), .ref (gx 16), .ref (gx 17), .ref (gx 18)])), (q1, .inr (12, mF gm 0 0 0 0 0)), ((gm 0), .inl (cM, 240, .inl (fun _ => 0)))] := hD
  have hK : va_K (dC, dI) vwCl [(cX, .byte), (cM, .byte)] s := hK
  refine W.widen (k := 131) (n := 55262) (Nat.le_of_ble_eq_true rfl) (Nat.le_of_ble_eq_true rfl) ?_
  refine lv_astore_n (lv' := [(2, .ref q1), (1, .ref q0), (0, .ref b)]) hx hb dL_law_15 rfl hl (by decide) rfl (fun ls hl => ?_)
  refine lv_iconst (v := 1) hx hb dL_law_16 (by decide) ?_
  refine va_newa (atype := .long) (ty := .long) (n := 1) (N' := 1) (a0 := (1, .inr (.inl (fun _ => 0)))) hx hb (hts (.arrayClass .long) (List.mem_of_getElem? (i := 414) (by decide +kernel))) rfl hK hP hD hS hA (fun cA => rfl) (by decide) (by decide) (Nat.le_of_ble_eq_true rfl) (Nat.le_of_ble_eq_true rfl) (Nat.le_of_ble_eq_true rfl) dL_law_17 (fun q2 cJ H hK hP hD hS => ?_)
  have hP : va_P (dC, dI) vwCl [(q0, .inr (11, [.ref (gx 0), .ref (gx 1), .ref (gx 2), .ref (gx 3), .ref (gx 4), .ref (gx 5), .ref (gx 6), .ref (gx 7), .ref (gx 8), .ref (gx 9), .ref (gx 10), .ref (gx 11), .int 0])), ((gx 0), .inr (9, [.ref (gx 12), .int 0, .int 0])), ((gx 12), .inl (cX, 240, .inl (fun _ => 0))), ((gx 2), .inr (3, [.int 0, .int 0, .ref (gx 13), .ref (gx 14), .ref (gx 15), .ref (gx 16), .ref (gx 17), .ref (gx 18)])), (q1, .inr (12, mF gm 0 0 0 0 0)), ((gm 0), .inl (cM, 240, .inl (fun _ => 0))), (q2, .inl (cJ, 1, .inr (.inl (fun _ => 0))))] H := hP
  have hD : va_D (fun q : Nat => s.heap.size ≤ q) [(q0, .inr (11, [.ref (gx 0), .ref (gx 1), .ref (gx 2), .ref (gx 3), .ref (gx 4), .ref (gx 5), .ref (gx 6), .ref (gx 7), .ref (gx 8), .ref (gx 9), .ref (gx 10), .ref (gx 11), .int 0])), ((gx 0), .inr (9, [.ref (gx 12), .int 0, .int 0])), ((gx 12), .inl (cX, 240, .inl (fun _ => 0))), ((gx 2), .inr (3, [.int 0, .int 0, .ref (gx 13), .ref (gx 14), .ref (gx 15), .ref (gx 16), .ref (gx 17), .ref (gx 18)])), (q1, .inr (12, mF gm 0 0 0 0 0)), ((gm 0), .inl (cM, 240, .inl (fun _ => 0))), (q2, .inl (cJ, 1, .inr (.inl (fun _ => 0))))] := hD
  have hK : va_K (dC, dI) vwCl [(cX, .byte), (cM, .byte), (cJ, .long)] s := hK
  refine W.widen (k := 132) (n := 55263) (Nat.le_of_ble_eq_true rfl) (Nat.le_of_ble_eq_true rfl) ?_
  refine lv_astore_n (lv' := [(3, .ref q2), (2, .ref q1), (1, .ref q0), (0, .ref b)]) hx hb dL_law_19 rfl hl (by decide) rfl (fun ls hl => ?_)
  refine lv_iconst (v := 0) hx hb dL_law_20 (by decide) ?_
  refine lv_istore (lv' := [(4, .int 0), (3, .ref q2), (2, .ref q1), (1, .ref q0), (0, .ref b)]) hx hb dL_law_21 hl (by decide) rfl (fun ls hl => ?_)
  exact law_head l hL C0 q0 q1 q2 gx gm cX cM cJ sa1 sa2 hfl hE1 hE2 (hK.sub (tys' := [(cX, .byte), (cM, .byte), (cJ, .long)]) [0, 1, 2] rfl) (hP.sub (ws' := [(q0, .inr (11, [.ref (gx 0), .ref (gx 1), .ref (gx 2), .ref (gx 3), .ref (gx 4), .ref (gx 5), .ref (gx 6), .ref (gx 7), .ref (gx 8), .ref (gx 9), .ref (gx 10), .ref (gx 11), .int 0])), ((gx 0), .inr (9, [.ref (gx 12), .int 0, .int 0])), ((gx 12), .inl (cX, 240, .inl (fun _ => 0))), ((gx 2), .inr (3, [.int 0, .int 0, .ref (gx 13), .ref (gx 14), .ref (gx 15), .ref (gx 16), .ref (gx 17), .ref (gx 18)])), (q1, .inr (12, mF gm 0 0 0 0 0)), ((gm 0), .inl (cM, 240, .inl (fun _ => 0))), (q2, .inl (cJ, 1, .inr (.inl (fun _ => 0))))]) [0, 1, 2, 3, 4, 5, 6] rfl) (hD.sub (ws' := [(q0, .inr (11, [.ref (gx 0), .ref (gx 1), .ref (gx 2), .ref (gx 3), .ref (gx 4), .ref (gx 5), .ref (gx 6), .ref (gx 7), .ref (gx 8), .ref (gx 9), .ref (gx 10), .ref (gx 11), .int 0])), ((gx 0), .inr (9, [.ref (gx 12), .int 0, .int 0])), ((gx 12), .inl (cX, 240, .inl (fun _ => 0))), ((gx 2), .inr (3, [.int 0, .int 0, .ref (gx 13), .ref (gx 14), .ref (gx 15), .ref (gx 16), .ref (gx 17), .ref (gx 18)])), (q1, .inr (12, mF gm 0 0 0 0 0)), ((gm 0), .inl (cM, 240, .inl (fun _ => 0))), (q2, .inl (cJ, 1, .inr (.inl (fun _ => 0))))]) [0, 1, 2, 3, 4, 5, 6] (by decide) rfl) hS ls (lv_sub hl [0, 1, 2, 3, 4] rfl)
