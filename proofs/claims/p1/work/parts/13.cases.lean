set_option maxHeartbeats 8000000 in
set_option maxRecDepth 100000 in
/-- behind the one call: the loop ends, the law answers 1 -/
theorem law_tail {p : Program} {e : Env} {s : State} {m : MethodId} {below : List Frame} {meth : Method} {c : Code} (l : Launch) {b : Nat} {xs : Nat → Int32} (C0 : lw_At p s m meth c b 7 xs) {H : Heap} {locs : List Loc} {cells slots : Nat} (hS : va_S (fun q : Nat => s.heap.size ≤ q) s.heap H locs) (hc9 : cells ≤ 600002) (hs9 : slots ≤ 7302232) (ls : Array Slot) (hl : lv_has ls 7 [(4, .int 0), (0, .ref b)]) : W p l e room_1 s m #[Value.ref b] below meth c H locs cells slots (lw_Z below #[Value.ref b] s) (F0 m 1033 ls []) := by
  obtain ⟨hx, hb, hr, hml, hown, hts, hX, hbl, hlocks, hgv⟩ := C0
  have hown : s.vm.findClass RL = some m.cls := hown
  have hA : ∀ q : Nat, s.heap.size ≤ q → (fun q : Nat => s.heap.size ≤ q) q := fun _ h => h
  have hbA : ¬ (fun q : Nat => s.heap.size ≤ q) b := Nat.not_le.mpr hbl
  refine lv_iinc (v := 7) (lv' := [(4, .int 7), (0, .ref b)]) hx hb dL_law_1033 hl (k := 0) rfl (by decide) (by decide) rfl (fun ls hl => ?_)
  refine lv_goto (tgt := 23) hx hb dL_law_1036 (by decide) ?_
  refine lv_iload hx hb dL_law_23 (lv_at hl 0 rfl) ?_
  refine lv_aload_n hx hb dL_law_25 rfl (lv_at hl 1 rfl) ?_
  refine va_slen hx hb hX hbl hbA hS dL_law_26 ?_
  refine lv_topi (fun v_1 e_1 => ?_)
  obtain rfl : v_1 = 7 := by rw [e_1]; decide
  refine lv_bipush (v := 7) hx hb dL_law_27 (by decide) ?_
  refine lv_isub hx hb dL_law_29 ?_
  refine lv_topi (fun v_2 e_2 => ?_)
  obtain rfl : v_2 = 0 := by rw [e_2]; decide
  refine lv_icmp_gt (tgt := 1039) hx hb dL_law_30 (by decide) (fun c_3 => ?_) (fun c_3 => absurd (by decide) c_3)
  refine lv_iconst (v := 1) hx hb dL_law_1039 (by decide) ?_
  refine va_forget (fun q hq => hS.2.2 q hq) ?_
  refine W.widen (k := 600002) (n := 7302232) hc9 hs9 ?_
  exact lw_ret hx hb hr hlocks dL_law_1040

set_option maxHeartbeats 8000000 in
set_option maxRecDepth 100000 in
/-- the call of place 0 -/
theorem law_case_0 {p : Program} {e : Env} {s : State} {m : MethodId} {below : List Frame} {meth : Method} {c : Code} (l : Launch) {b : Nat} {xs : Nat → Int32} (C0 : lw_At p s m meth c b 7 xs) {dC : Nat → ClassId} {dI : Nat → Nat → Nat} (q0 q1 q2 : Nat) (gx gm : Nat → Nat) (cX cM cJ : ClassId) (sa1 sa2 : Nat) (hfl : l.stackTraces = false) (hE1 : xE sa1 198 "no such instruction" (fun q : Nat => s.heap.size ≤ q) s s.heap) (hE2 : xE sa2 220 "no such block" (fun q : Nat => s.heap.size ≤ q) s s.heap) {H : Heap} {locs : List Loc} (hK : va_K (dC, dI) vwCl [(cX, .byte), (cM, .byte), (cJ, .long)] s) (hP : va_P (dC, dI) vwCl [(q0, .inr (11, [.ref (gx 0), .ref (gx 1), .ref (gx 2), .ref (gx 3), .ref (gx 4), .ref (gx 5), .ref (gx 6), .ref (gx 7), .ref (gx 8), .ref (gx 9), .ref (gx 10), .ref (gx 11), .int 0])), ((gx 0), .inr (9, [.ref (gx 12), .int 0, .int 0])), ((gx 12), .inl (cX, 240, .inl (fun _ => 0))), ((gx 2), .inr (3, [.int 0, .int 0, .ref (gx 13), .ref (gx 14), .ref (gx 15), .ref (gx 16), .ref (gx 17), .ref (gx 18)])), (q1, .inr (12, mF gm 0 0 0 0 0)), ((gm 0), .inl (cM, 240, .inl (fun _ => 0))), (q2, .inl (cJ, 1, .inr (.inl (fun _ => 0))))] H) (hD : va_D (fun q : Nat => s.heap.size ≤ q) [(q0, .inr (11, [.ref (gx 0), .ref (gx 1), .ref (gx 2), .ref (gx 3), .ref (gx 4), .ref (gx 5), .ref (gx 6), .ref (gx 7), .ref (gx 8), .ref (gx 9), .ref (gx 10), .ref (gx 11), .int 0])), ((gx 0), .inr (9, [.ref (gx 12), .int 0, .int 0])), ((gx 12), .inl (cX, 240, .inl (fun _ => 0))), ((gx 2), .inr (3, [.int 0, .int 0, .ref (gx 13), .ref (gx 14), .ref (gx 15), .ref (gx 16), .ref (gx 17), .ref (gx 18)])), (q1, .inr (12, mF gm 0 0 0 0 0)), ((gm 0), .inl (cM, 240, .inl (fun _ => 0))), (q2, .inl (cJ, 1, .inr (.inl (fun _ => 0))))]) (hS : va_S (fun q : Nat => s.heap.size ≤ q) s.heap H locs) (ls : Array Slot) (hl : lv_has ls 7 [(4, .int 0), (3, .ref q2), (2, .ref q1), (1, .ref q0), (0, .ref b)]) : W p l e room_1 s m #[Value.ref b] below meth c H locs 132 55263 (lw_Z below #[Value.ref b] s) (F0 m 140 ls []) := by
  have hC0 := C0
  obtain ⟨hx, hb, hr, hml, hown, hts, hX, hbl, hlocks, hgv⟩ := C0
  have hown : s.vm.findClass RL = some m.cls := hown
  have hA : ∀ q : Nat, s.heap.size ≤ q → (fun q : Nat => s.heap.size ≤ q) q := fun _ h => h
  have hbA : ¬ (fun q : Nat => s.heap.size ≤ q) b := Nat.not_le.mpr hbl
  refine lv_aload_n hx hb dL_law_140 rfl (lv_at hl 3 rfl) ?_
  refine lv_aload_n hx hb dL_law_141 rfl (lv_at hl 4 rfl) ?_
  refine lv_iload hx hb dL_law_142 (lv_at hl 0 rfl) ?_
  refine lv_iconst (v := 1) hx hb dL_law_144 (by decide) ?_
  refine lv_iadd hx hb dL_law_145 ?_
  refine lv_topi (fun v_1 e_1 => ?_)
  obtain rfl : v_1 = 1 := by rw [e_1]; decide
  refine va_sld hx hb hX hbl hbA hS (by unfold vp_in; decide : vp_in 1 7) dL_law_146 ?_
  refine lv_aload_n hx hb dL_law_147 rfl (lv_at hl 4 rfl) ?_
  refine lv_iload hx hb dL_law_148 (lv_at hl 0 rfl) ?_
  refine lv_iconst (v := 2) hx hb dL_law_150 (by decide) ?_
  refine lv_iadd hx hb dL_law_151 ?_
  refine lv_topi (fun v_2 e_2 => ?_)
  obtain rfl : v_2 = 2 := by rw [e_2]; decide
  refine va_sld hx hb hX hbl hbA hS (by unfold vp_in; decide : vp_in 2 7) dL_law_152 ?_
  refine lv_aload_n hx hb dL_law_153 rfl (lv_at hl 4 rfl) ?_
  refine lv_iload hx hb dL_law_154 (lv_at hl 0 rfl) ?_
  refine lv_iconst (v := 3) hx hb dL_law_156 (by decide) ?_
  refine lv_iadd hx hb dL_law_157 ?_
  refine lv_topi (fun v_3 e_3 => ?_)
  obtain rfl : v_3 = 3 := by rw [e_3]; decide
  refine va_sld hx hb hX hbl hbA hS (by unfold vp_in; decide : vp_in 3 7) dL_law_158 ?_
  refine lv_aload_n hx hb dL_law_159 rfl (lv_at hl 4 rfl) ?_
  refine lv_iload hx hb dL_law_160 (lv_at hl 0 rfl) ?_
  refine lv_iconst (v := 4) hx hb dL_law_162 (by decide) ?_
  refine lv_iadd hx hb dL_law_163 ?_
  refine lv_topi (fun v_4 e_4 => ?_)
  obtain rfl : v_4 = 4 := by rw [e_4]; decide
  refine va_sld hx hb hX hbl hbA hS (by unfold vp_in; decide : vp_in 4 7) dL_law_164 ?_
  refine lv_aload_n hx hb dL_law_165 rfl (lv_at hl 4 rfl) ?_
  refine lv_iload hx hb dL_law_166 (lv_at hl 0 rfl) ?_
  refine lv_iconst (v := 5) hx hb dL_law_168 (by decide) ?_
  refine lv_iadd hx hb dL_law_169 ?_
  refine lv_topi (fun v_5 e_5 => ?_)
  obtain rfl : v_5 = 5 := by rw [e_5]; decide
  refine va_sld hx hb hX hbl hbA hS (by unfold vp_in; decide : vp_in 5 7) dL_law_170 ?_
  have hPc := hP.sub (ws' := [(q0, .inr (11, [.ref (gx 0), .ref (gx 1), .ref (gx 2), .ref (gx 3), .ref (gx 4), .ref (gx 5), .ref (gx 6), .ref (gx 7), .ref (gx 8), .ref (gx 9), .ref (gx 10), .ref (gx 11), .int 0])), ((gx 0), .inr (9, [.ref (gx 12), .int 0, .int 0])), ((gx 12), .inl (cX, 240, .inl (fun _ => 0)))]) [0, 1, 2] rfl
  have hDc := hD.sub (ws' := [(q0, .inr (11, [.ref (gx 0), .ref (gx 1), .ref (gx 2), .ref (gx 3), .ref (gx 4), .ref (gx 5), .ref (gx 6), .ref (gx 7), .ref (gx 8), .ref (gx 9), .ref (gx 10), .ref (gx 11), .int 0])), ((gx 0), .inr (9, [.ref (gx 12), .int 0, .int 0])), ((gx 12), .inl (cX, 240, .inl (fun _ => 0)))]) [0, 1, 2] (by decide) rfl
  have hKc := hK.sub (tys' := [(cX, .byte)]) [0] rfl
  have hFc := va_free (wc := [(q0, .inr (11, [.ref (gx 0), .ref (gx 1), .ref (gx 2), .ref (gx 3), .ref (gx 4), .ref (gx 5), .ref (gx 6), .ref (gx 7), .ref (gx 8), .ref (gx 9), .ref (gx 10), .ref (gx 11), .int 0])), ((gx 0), .inr (9, [.ref (gx 12), .int 0, .int 0])), ((gx 12), .inl (cX, 240, .inl (fun _ => 0)))]) hD hS hA [0, 1, 2] rfl
  refine va_calli (va_runV (As := [.int (xs (Int32.toNatClampNeg 1)), .int (xs (Int32.toNatClampNeg 2)), .int (xs (Int32.toNatClampNeg 3)), .int (xs (Int32.toNatClampNeg 4)), .int (xs (Int32.toNatClampNeg 5))]) (rest := []) ⟨hx, hb, hml, hown, hts⟩ (c_X11_feed l dC dI H.size q0 gx (xs (Int32.toNatClampNeg 1)) (xs (Int32.toNatClampNeg 2)) (xs (Int32.toNatClampNeg 3)) (xs (Int32.toNatClampNeg 4)) (xs (Int32.toNatClampNeg 5)) cX) (cwV 5 hts ug_L_law_X11_feed rfl rfl rfl (by decide +kernel) ⟨Nat.le_of_ble_eq_true rfl, Nat.le_of_ble_eq_true rfl⟩) ⟨fun a U g mk q => by obtain ⟨q0, q1, qP, qK, qD⟩ := q; exact ⟨q0, q1, qP, va_K.moved (u := U) (U := U.calling g mk a) (Vm.Alike.refl U.vm) qK, qD⟩, va_recv hKc hPc (ci := 11) (q0 := 0) rfl rfl, fun U hU hW => ⟨rfl, by rw [hU], by rw [hU]; exact hPc, va_K.moved hW.alike hKc, hDc.weaken (fun _ _ _ _ => trivial)⟩⟩ rfl rfl hl.1 rfl (lv_room (Nat.le_of_ble_eq_true rfl)) dL_law_171 ⟨Nat.le_of_ble_eq_true rfl, Nat.le_of_ble_eq_true rfl⟩) hS (fun q _ h => hFc q h) hFc (fun r_6 u t H locs ht hvm hw hB hz1 hk1 hS => ?_)
  obtain ⟨hP, hD⟩ := va_join (wr := [((gx 2), .inr (3, [.int 0, .int 0, .ref (gx 13), .ref (gx 14), .ref (gx 15), .ref (gx 16), .ref (gx 17), .ref (gx 18)])), (q1, .inr (12, mF gm 0 0 0 0 0)), ((gm 0), .inl (cM, 240, .inl (fun _ => 0))), (q2, .inl (cJ, 1, .inr (.inl (fun _ => 0))))]) (w1 := []) hP hD [0, 1, 2] [3, 4, 5, 6] rfl rfl (by decide) (by decide) hk1 hFc p_nil d_nil
  clear hPc hDc hFc hk1 hz1
  have hP : va_P (dC, dI) vwCl [((gx 2), .inr (3, [.int 0, .int 0, .ref (gx 13), .ref (gx 14), .ref (gx 15), .ref (gx 16), .ref (gx 17), .ref (gx 18)])), (q1, .inr (12, mF gm 0 0 0 0 0)), ((gm 0), .inl (cM, 240, .inl (fun _ => 0))), (q2, .inl (cJ, 1, .inr (.inl (fun _ => 0))))] H := hP
  have hD : va_D (fun q : Nat => s.heap.size ≤ q) [((gx 2), .inr (3, [.int 0, .int 0, .ref (gx 13), .ref (gx 14), .ref (gx 15), .ref (gx 16), .ref (gx 17), .ref (gx 18)])), (q1, .inr (12, mF gm 0 0 0 0 0)), ((gm 0), .inl (cM, 240, .inl (fun _ => 0))), (q2, .inl (cJ, 1, .inr (.inl (fun _ => 0))))] := hD
  obtain rfl : r_6 = nI (0 + zn (xs (Int32.toNatClampNeg 1)) 4 + zn (xs (Int32.toNatClampNeg 2)) 4 + zn (xs (Int32.toNatClampNeg 3)) 4 + zn (xs (Int32.toNatClampNeg 4)) 4 + zn (xs (Int32.toNatClampNeg 5)) 4) := hw
  refine lv_aload_n hx hb dL_law_174 rfl (lv_at hl 2 rfl) ?_
  refine lv_aload_n hx hb dL_law_175 rfl (lv_at hl 4 rfl) ?_
  refine lv_iload hx hb dL_law_176 (lv_at hl 0 rfl) ?_
  refine lv_iconst (v := 1) hx hb dL_law_178 (by decide) ?_
  refine lv_iadd hx hb dL_law_179 ?_
  refine lv_topi (fun v_8 e_8 => ?_)
  obtain rfl : v_8 = 1 := by rw [e_8]; decide
  refine va_sld hx hb hX hbl hbA hS (by unfold vp_in; decide : vp_in 1 7) dL_law_180 ?_
  refine lv_aload_n hx hb dL_law_181 rfl (lv_at hl 4 rfl) ?_
  refine lv_iload hx hb dL_law_182 (lv_at hl 0 rfl) ?_
  refine lv_iconst (v := 2) hx hb dL_law_184 (by decide) ?_
  refine lv_iadd hx hb dL_law_185 ?_
  refine lv_topi (fun v_9 e_9 => ?_)
  obtain rfl : v_9 = 2 := by rw [e_9]; decide
  refine va_sld hx hb hX hbl hbA hS (by unfold vp_in; decide : vp_in 2 7) dL_law_186 ?_
  refine lv_aload_n hx hb dL_law_187 rfl (lv_at hl 4 rfl) ?_
  refine lv_iload hx hb dL_law_188 (lv_at hl 0 rfl) ?_
  refine lv_iconst (v := 3) hx hb dL_law_190 (by decide) ?_
  refine lv_iadd hx hb dL_law_191 ?_
  refine lv_topi (fun v_10 e_10 => ?_)
  obtain rfl : v_10 = 3 := by rw [e_10]; decide
  refine va_sld hx hb hX hbl hbA hS (by unfold vp_in; decide : vp_in 3 7) dL_law_192 ?_
  refine lv_aload_n hx hb dL_law_193 rfl (lv_at hl 4 rfl) ?_
  refine lv_iload hx hb dL_law_194 (lv_at hl 0 rfl) ?_
  refine lv_iconst (v := 4) hx hb dL_law_196 (by decide) ?_
  refine lv_iadd hx hb dL_law_197 ?_
  refine lv_topi (fun v_11 e_11 => ?_)
  obtain rfl : v_11 = 4 := by rw [e_11]; decide
  refine va_sld hx hb hX hbl hbA hS (by unfold vp_in; decide : vp_in 4 7) dL_law_198 ?_
  refine lv_aload_n hx hb dL_law_199 rfl (lv_at hl 4 rfl) ?_
  refine lv_iload hx hb dL_law_200 (lv_at hl 0 rfl) ?_
  refine lv_iconst (v := 5) hx hb dL_law_202 (by decide) ?_
  refine lv_iadd hx hb dL_law_203 ?_
  refine lv_topi (fun v_12 e_12 => ?_)
  obtain rfl : v_12 = 5 := by rw [e_12]; decide
  refine va_sld hx hb hX hbl hbA hS (by unfold vp_in; decide : vp_in 5 7) dL_law_204 ?_
  have hPc := hP.sub (ws' := [(q1, .inr (12, mF gm 0 0 0 0 0)), ((gm 0), .inl (cM, 240, .inl (fun _ => 0)))]) [1, 2] rfl
  have hDc := hD.sub (ws' := [(q1, .inr (12, mF gm 0 0 0 0 0)), ((gm 0), .inl (cM, 240, .inl (fun _ => 0)))]) [1, 2] (by decide) rfl
  have hKc := hK.sub (tys' := [(cM, .byte)]) [1] rfl
  have hFc := va_free (wc := [(q1, .inr (12, mF gm 0 0 0 0 0)), ((gm 0), .inl (cM, 240, .inl (fun _ => 0)))]) hD hS hA [1, 2] rfl
  refine va_calli (va_runV (As := [.int (xs (Int32.toNatClampNeg 1)), .int (xs (Int32.toNatClampNeg 2)), .int (xs (Int32.toNatClampNeg 3)), .int (xs (Int32.toNatClampNeg 4)), .int (xs (Int32.toNatClampNeg 5))]) (rest := [.int (nI (0 + zn (xs (Int32.toNatClampNeg 1)) 4 + zn (xs (Int32.toNatClampNeg 2)) 4 + zn (xs (Int32.toNatClampNeg 3)) 4 + zn (xs (Int32.toNatClampNeg 4)) 4 + zn (xs (Int32.toNatClampNeg 5)) 4))]) ⟨hx, hb, hml, hown, hts⟩ (c_X12_feed l dC dI H.size q1 gm (xs (Int32.toNatClampNeg 1)) (xs (Int32.toNatClampNeg 2)) (xs (Int32.toNatClampNeg 3)) (xs (Int32.toNatClampNeg 4)) (xs (Int32.toNatClampNeg 5)) cM) (cwV 5 hts ug_L_law_X12_feed rfl rfl rfl (by decide +kernel) ⟨Nat.le_of_ble_eq_true rfl, Nat.le_of_ble_eq_true rfl⟩) ⟨fun a U g mk q => by obtain ⟨q0, q1, qP, qK, qD⟩ := q; exact ⟨q0, q1, qP, va_K.moved (u := U) (U := U.calling g mk a) (Vm.Alike.refl U.vm) qK, qD⟩, va_recv hKc hPc (ci := 12) (q0 := 0) rfl rfl, fun U hU hW => ⟨rfl, by rw [hU], by rw [hU]; exact hPc, va_K.moved hW.alike hKc, hDc.weaken (fun _ _ _ _ => trivial)⟩⟩ rfl rfl hl.1 rfl (lv_room (Nat.le_of_ble_eq_true rfl)) dL_law_205 ⟨Nat.le_of_ble_eq_true rfl, Nat.le_of_ble_eq_true rfl⟩) hS (fun q _ h => hFc q h) hFc (fun r_13 u t H locs ht hvm hw hB hz1 hk1 hS => ?_)
  obtain ⟨hP, hD⟩ := va_join (wr := [((gx 2), .inr (3, [.int 0, .int 0, .ref (gx 13), .ref (gx 14), .ref (gx 15), .ref (gx 16), .ref (gx 17), .ref (gx 18)])), (q2, .inl (cJ, 1, .inr (.inl (fun _ => 0))))]) (w1 := []) hP hD [1, 2] [0, 3] rfl rfl (by decide) (by decide) hk1 hFc p_nil d_nil
  clear hPc hDc hFc hk1 hz1
  have hP : va_P (dC, dI) vwCl [((gx 2), .inr (3, [.int 0, .int 0, .ref (gx 13), .ref (gx 14), .ref (gx 15), .ref (gx 16), .ref (gx 17), .ref (gx 18)])), (q2, .inl (cJ, 1, .inr (.inl (fun _ => 0))))] H := hP
  have hD : va_D (fun q : Nat => s.heap.size ≤ q) [((gx 2), .inr (3, [.int 0, .int 0, .ref (gx 13), .ref (gx 14), .ref (gx 15), .ref (gx 16), .ref (gx 17), .ref (gx 18)])), (q2, .inl (cJ, 1, .inr (.inl (fun _ => 0))))] := hD
  obtain rfl : r_13 = nI (0 + zn (xs (Int32.toNatClampNeg 1)) 4 + zn (xs (Int32.toNatClampNeg 2)) 4 + zn (xs (Int32.toNatClampNeg 3)) 4 + zn (xs (Int32.toNatClampNeg 4)) 4 + zn (xs (Int32.toNatClampNeg 5)) 4) := hw
  refine lv_icmp_eq (tgt := 1033) hx hb dL_law_208 (by decide) (fun c_9 => ?_) (fun c_9 => absurd rfl c_9)
  exact law_tail l hC0 hS (Nat.le_of_ble_eq_true rfl) (Nat.le_of_ble_eq_true rfl) ls (lv_sub hl [0, 4] rfl)

set_option maxHeartbeats 8000000 in
set_option maxRecDepth 100000 in
/-- the call of place 1 -/
theorem law_case_1 {p : Program} {e : Env} {s : State} {m : MethodId} {below : List Frame} {meth : Method} {c : Code} (l : Launch) {b : Nat} {xs : Nat → Int32} (C0 : lw_At p s m meth c b 7 xs) {dC : Nat → ClassId} {dI : Nat → Nat → Nat} (q0 q1 q2 : Nat) (gx gm : Nat → Nat) (cX cM cJ : ClassId) (sa1 sa2 : Nat) (hfl : l.stackTraces = false) (hE1 : xE sa1 198 "no such instruction" (fun q : Nat => s.heap.size ≤ q) s s.heap) (hE2 : xE sa2 220 "no such block" (fun q : Nat => s.heap.size ≤ q) s s.heap) {H : Heap} {locs : List Loc} (hK : va_K (dC, dI) vwCl [(cX, .byte), (cM, .byte), (cJ, .long)] s) (hP : va_P (dC, dI) vwCl [(q0, .inr (11, [.ref (gx 0), .ref (gx 1), .ref (gx 2), .ref (gx 3), .ref (gx 4), .ref (gx 5), .ref (gx 6), .ref (gx 7), .ref (gx 8), .ref (gx 9), .ref (gx 10), .ref (gx 11), .int 0])), ((gx 0), .inr (9, [.ref (gx 12), .int 0, .int 0])), ((gx 12), .inl (cX, 240, .inl (fun _ => 0))), ((gx 2), .inr (3, [.int 0, .int 0, .ref (gx 13), .ref (gx 14), .ref (gx 15), .ref (gx 16), .ref (gx 17), .ref (gx 18)])), (q1, .inr (12, mF gm 0 0 0 0 0)), ((gm 0), .inl (cM, 240, .inl (fun _ => 0))), (q2, .inl (cJ, 1, .inr (.inl (fun _ => 0))))] H) (hD : va_D (fun q : Nat => s.heap.size ≤ q) [(q0, .inr (11, [.ref (gx 0), .ref (gx 1), .ref (gx 2), .ref (gx 3), .ref (gx 4), .ref (gx 5), .ref (gx 6), .ref (gx 7), .ref (gx 8), .ref (gx 9), .ref (gx 10), .ref (gx 11), .int 0])), ((gx 0), .inr (9, [.ref (gx 12), .int 0, .int 0])), ((gx 12), .inl (cX, 240, .inl (fun _ => 0))), ((gx 2), .inr (3, [.int 0, .int 0, .ref (gx 13), .ref (gx 14), .ref (gx 15), .ref (gx 16), .ref (gx 17), .ref (gx 18)])), (q1, .inr (12, mF gm 0 0 0 0 0)), ((gm 0), .inl (cM, 240, .inl (fun _ => 0))), (q2, .inl (cJ, 1, .inr (.inl (fun _ => 0))))]) (hS : va_S (fun q : Nat => s.heap.size ≤ q) s.heap H locs) (ls : Array Slot) (hl : lv_has ls 7 [(4, .int 0), (3, .ref q2), (2, .ref q1), (1, .ref q0), (0, .ref b)]) : W p l e room_1 s m #[Value.ref b] below meth c H locs 132 55263 (lw_Z below #[Value.ref b] s) (F0 m 213 ls []) := by
  have hC0 := C0
  obtain ⟨hx, hb, hr, hml, hown, hts, hX, hbl, hlocks, hgv⟩ := C0
  have hown : s.vm.findClass RL = some m.cls := hown
  have hA : ∀ q : Nat, s.heap.size ≤ q → (fun q : Nat => s.heap.size ≤ q) q := fun _ h => h
  have hbA : ¬ (fun q : Nat => s.heap.size ≤ q) b := Nat.not_le.mpr hbl
  refine lv_aload_n hx hb dL_law_213 rfl (lv_at hl 3 rfl) ?_
  refine lv_aload_n hx hb dL_law_214 rfl (lv_at hl 4 rfl) ?_
  refine lv_iload hx hb dL_law_215 (lv_at hl 0 rfl) ?_
  refine lv_iconst (v := 1) hx hb dL_law_217 (by decide) ?_
  refine lv_iadd hx hb dL_law_218 ?_
  refine lv_topi (fun v_1 e_1 => ?_)
  obtain rfl : v_1 = 1 := by rw [e_1]; decide
  refine va_sld hx hb hX hbl hbA hS (by unfold vp_in; decide : vp_in 1 7) dL_law_219 ?_
  have hPc := hP.sub (ws' := [(q0, .inr (11, [.ref (gx 0), .ref (gx 1), .ref (gx 2), .ref (gx 3), .ref (gx 4), .ref (gx 5), .ref (gx 6), .ref (gx 7), .ref (gx 8), .ref (gx 9), .ref (gx 10), .ref (gx 11), .int 0])), ((gx 0), .inr (9, [.ref (gx 12), .int 0, .int 0]))]) [0, 1] rfl
  have hDc := hD.sub (ws' := [(q0, .inr (11, [.ref (gx 0), .ref (gx 1), .ref (gx 2), .ref (gx 3), .ref (gx 4), .ref (gx 5), .ref (gx 6), .ref (gx 7), .ref (gx 8), .ref (gx 9), .ref (gx 10), .ref (gx 11), .int 0])), ((gx 0), .inr (9, [.ref (gx 12), .int 0, .int 0]))]) [0, 1] (by decide) rfl
  have hKc := hK.sub (tys' := []) [] rfl
  have hFc := va_free (wc := [(q0, .inr (11, [.ref (gx 0), .ref (gx 1), .ref (gx 2), .ref (gx 3), .ref (gx 4), .ref (gx 5), .ref (gx 6), .ref (gx 7), .ref (gx 8), .ref (gx 9), .ref (gx 10), .ref (gx 11), .int 0])), ((gx 0), .inr (9, [.ref (gx 12), .int 0, .int 0]))]) hD hS hA [0, 1] rfl
  refine va_calli (va_runV (As := [.int (xs (Int32.toNatClampNeg 1))]) (rest := []) ⟨hx, hb, hml, hown, hts⟩ (c_X11_end l dC dI H.size q0 gx (xs (Int32.toNatClampNeg 1))) (cwV 1 hts ug_L_law_X11_end rfl rfl rfl (by decide +kernel) ⟨Nat.le_of_ble_eq_true rfl, Nat.le_of_ble_eq_true rfl⟩) ⟨fun a U g mk q => by obtain ⟨q0, q1, qP, qK, qD⟩ := q; exact ⟨q0, q1, qP, va_K.moved (u := U) (U := U.calling g mk a) (Vm.Alike.refl U.vm) qK, qD⟩, va_recv hKc hPc (ci := 11) (q0 := 0) rfl rfl, fun U hU hW => ⟨rfl, by rw [hU], by rw [hU]; exact hPc, va_K.moved hW.alike hKc, hDc.weaken (fun _ _ _ _ => trivial)⟩⟩ rfl rfl hl.1 rfl (lv_room (Nat.le_of_ble_eq_true rfl)) dL_law_220 ⟨Nat.le_of_ble_eq_true rfl, Nat.le_of_ble_eq_true rfl⟩) hS (fun q _ h => hFc q h) hFc (fun r_2 u t H locs ht hvm hw hB hz1 hk1 hS => ?_)
  obtain ⟨hP, hD⟩ := va_join (wr := [((gx 12), .inl (cX, 240, .inl (fun _ => 0))), ((gx 2), .inr (3, [.int 0, .int 0, .ref (gx 13), .ref (gx 14), .ref (gx 15), .ref (gx 16), .ref (gx 17), .ref (gx 18)])), (q1, .inr (12, mF gm 0 0 0 0 0)), ((gm 0), .inl (cM, 240, .inl (fun _ => 0))), (q2, .inl (cJ, 1, .inr (.inl (fun _ => 0))))]) (w1 := []) hP hD [0, 1] [2, 3, 4, 5, 6] rfl rfl (by decide) (by decide) hk1 hFc p_nil d_nil
  clear hPc hDc hFc hk1 hz1
  have hP : va_P (dC, dI) vwCl [((gx 12), .inl (cX, 240, .inl (fun _ => 0))), ((gx 2), .inr (3, [.int 0, .int 0, .ref (gx 13), .ref (gx 14), .ref (gx 15), .ref (gx 16), .ref (gx 17), .ref (gx 18)])), (q1, .inr (12, mF gm 0 0 0 0 0)), ((gm 0), .inl (cM, 240, .inl (fun _ => 0))), (q2, .inl (cJ, 1, .inr (.inl (fun _ => 0))))] H := hP
  have hD : va_D (fun q : Nat => s.heap.size ≤ q) [((gx 12), .inl (cX, 240, .inl (fun _ => 0))), ((gx 2), .inr (3, [.int 0, .int 0, .ref (gx 13), .ref (gx 14), .ref (gx 15), .ref (gx 16), .ref (gx 17), .ref (gx 18)])), (q1, .inr (12, mF gm 0 0 0 0 0)), ((gm 0), .inl (cM, 240, .inl (fun _ => 0))), (q2, .inl (cJ, 1, .inr (.inl (fun _ => 0))))] := hD
  obtain rfl : r_2 = en (xs (Int32.toNatClampNeg 1)) := hw
  refine lv_aload_n hx hb dL_law_223 rfl (lv_at hl 2 rfl) ?_
  refine lv_aload_n hx hb dL_law_224 rfl (lv_at hl 4 rfl) ?_
  refine lv_iload hx hb dL_law_225 (lv_at hl 0 rfl) ?_
  refine lv_iconst (v := 1) hx hb dL_law_227 (by decide) ?_
  refine lv_iadd hx hb dL_law_228 ?_
  refine lv_topi (fun v_4 e_4 => ?_)
  obtain rfl : v_4 = 1 := by rw [e_4]; decide
  refine va_sld hx hb hX hbl hbA hS (by unfold vp_in; decide : vp_in 1 7) dL_law_229 ?_
  have hPc := hP.sub (ws' := [(q1, .inr (12, mF gm 0 0 0 0 0))]) [2] rfl
  have hDc := hD.sub (ws' := [(q1, .inr (12, mF gm 0 0 0 0 0))]) [2] (by decide) rfl
  have hKc := hK.sub (tys' := []) [] rfl
  have hFc := va_free (wc := [(q1, .inr (12, mF gm 0 0 0 0 0))]) hD hS hA [2] rfl
  refine va_calli (va_runV (As := [.int (xs (Int32.toNatClampNeg 1))]) (rest := [.int (en (xs (Int32.toNatClampNeg 1)))]) ⟨hx, hb, hml, hown, hts⟩ (c_X12_end l dC dI H.size q1 gm (xs (Int32.toNatClampNeg 1))) (cwV 1 hts ug_L_law_X12_end rfl rfl rfl (by decide +kernel) ⟨Nat.le_of_ble_eq_true rfl, Nat.le_of_ble_eq_true rfl⟩) ⟨fun a U g mk q => by obtain ⟨q0, q1, qP, qK, qD⟩ := q; exact ⟨q0, q1, qP, va_K.moved (u := U) (U := U.calling g mk a) (Vm.Alike.refl U.vm) qK, qD⟩, va_recv hKc hPc (ci := 12) (q0 := 0) rfl rfl, fun U hU hW => ⟨rfl, by rw [hU], by rw [hU]; exact hPc, va_K.moved hW.alike hKc, hDc.weaken (fun _ _ _ _ => trivial)⟩⟩ rfl rfl hl.1 rfl (lv_room (Nat.le_of_ble_eq_true rfl)) dL_law_230 ⟨Nat.le_of_ble_eq_true rfl, Nat.le_of_ble_eq_true rfl⟩) hS (fun q _ h => hFc q h) hFc (fun r_5 u t H locs ht hvm hw hB hz1 hk1 hS => ?_)
  obtain ⟨hP, hD⟩ := va_join (wr := [((gx 12), .inl (cX, 240, .inl (fun _ => 0))), ((gx 2), .inr (3, [.int 0, .int 0, .ref (gx 13), .ref (gx 14), .ref (gx 15), .ref (gx 16), .ref (gx 17), .ref (gx 18)])), ((gm 0), .inl (cM, 240, .inl (fun _ => 0))), (q2, .inl (cJ, 1, .inr (.inl (fun _ => 0))))]) (w1 := []) hP hD [2] [0, 1, 3, 4] rfl rfl (by decide) (by decide) hk1 hFc p_nil d_nil
  clear hPc hDc hFc hk1 hz1
  have hP : va_P (dC, dI) vwCl [((gx 12), .inl (cX, 240, .inl (fun _ => 0))), ((gx 2), .inr (3, [.int 0, .int 0, .ref (gx 13), .ref (gx 14), .ref (gx 15), .ref (gx 16), .ref (gx 17), .ref (gx 18)])), ((gm 0), .inl (cM, 240, .inl (fun _ => 0))), (q2, .inl (cJ, 1, .inr (.inl (fun _ => 0))))] H := hP
  have hD : va_D (fun q : Nat => s.heap.size ≤ q) [((gx 12), .inl (cX, 240, .inl (fun _ => 0))), ((gx 2), .inr (3, [.int 0, .int 0, .ref (gx 13), .ref (gx 14), .ref (gx 15), .ref (gx 16), .ref (gx 17), .ref (gx 18)])), ((gm 0), .inl (cM, 240, .inl (fun _ => 0))), (q2, .inl (cJ, 1, .inr (.inl (fun _ => 0))))] := hD
  obtain rfl : r_5 = en (xs (Int32.toNatClampNeg 1)) := hw
  refine lv_icmp_eq (tgt := 1033) hx hb dL_law_233 (by decide) (fun c_9 => ?_) (fun c_9 => absurd rfl c_9)
  exact law_tail l hC0 hS (Nat.le_of_ble_eq_true rfl) (Nat.le_of_ble_eq_true rfl) ls (lv_sub hl [0, 4] rfl)

set_option maxHeartbeats 8000000 in
set_option maxRecDepth 100000 in
/-- the call of place 2 -/
theorem law_case_2 {p : Program} {e : Env} {s : State} {m : MethodId} {below : List Frame} {meth : Method} {c : Code} (l : Launch) {b : Nat} {xs : Nat → Int32} (C0 : lw_At p s m meth c b 7 xs) {dC : Nat → ClassId} {dI : Nat → Nat → Nat} (q0 q1 q2 : Nat) (gx gm : Nat → Nat) (cX cM cJ : ClassId) (sa1 sa2 : Nat) (hfl : l.stackTraces = false) (hE1 : xE sa1 198 "no such instruction" (fun q : Nat => s.heap.size ≤ q) s s.heap) (hE2 : xE sa2 220 "no such block" (fun q : Nat => s.heap.size ≤ q) s s.heap) {H : Heap} {locs : List Loc} (hK : va_K (dC, dI) vwCl [(cX, .byte), (cM, .byte), (cJ, .long)] s) (hP : va_P (dC, dI) vwCl [(q0, .inr (11, [.ref (gx 0), .ref (gx 1), .ref (gx 2), .ref (gx 3), .ref (gx 4), .ref (gx 5), .ref (gx 6), .ref (gx 7), .ref (gx 8), .ref (gx 9), .ref (gx 10), .ref (gx 11), .int 0])), ((gx 0), .inr (9, [.ref (gx 12), .int 0, .int 0])), ((gx 12), .inl (cX, 240, .inl (fun _ => 0))), ((gx 2), .inr (3, [.int 0, .int 0, .ref (gx 13), .ref (gx 14), .ref (gx 15), .ref (gx 16), .ref (gx 17), .ref (gx 18)])), (q1, .inr (12, mF gm 0 0 0 0 0)), ((gm 0), .inl (cM, 240, .inl (fun _ => 0))), (q2, .inl (cJ, 1, .inr (.inl (fun _ => 0))))] H) (hD : va_D (fun q : Nat => s.heap.size ≤ q) [(q0, .inr (11, [.ref (gx 0), .ref (gx 1), .ref (gx 2), .ref (gx 3), .ref (gx 4), .ref (gx 5), .ref (gx 6), .ref (gx 7), .ref (gx 8), .ref (gx 9), .ref (gx 10), .ref (gx 11), .int 0])), ((gx 0), .inr (9, [.ref (gx 12), .int 0, .int 0])), ((gx 12), .inl (cX, 240, .inl (fun _ => 0))), ((gx 2), .inr (3, [.int 0, .int 0, .ref (gx 13), .ref (gx 14), .ref (gx 15), .ref (gx 16), .ref (gx 17), .ref (gx 18)])), (q1, .inr (12, mF gm 0 0 0 0 0)), ((gm 0), .inl (cM, 240, .inl (fun _ => 0))), (q2, .inl (cJ, 1, .inr (.inl (fun _ => 0))))]) (hS : va_S (fun q : Nat => s.heap.size ≤ q) s.heap H locs) (ls : Array Slot) (hl : lv_has ls 7 [(4, .int 0), (3, .ref q2), (2, .ref q1), (1, .ref q0), (0, .ref b)]) : W p l e room_1 s m #[Value.ref b] below meth c H locs 132 55263 (lw_Z below #[Value.ref b] s) (F0 m 238 ls []) := by
  have hC0 := C0
  obtain ⟨hx, hb, hr, hml, hown, hts, hX, hbl, hlocks, hgv⟩ := C0
  have hown : s.vm.findClass RL = some m.cls := hown
  have hA : ∀ q : Nat, s.heap.size ≤ q → (fun q : Nat => s.heap.size ≤ q) q := fun _ h => h
  have hbA : ¬ (fun q : Nat => s.heap.size ≤ q) b := Nat.not_le.mpr hbl
  refine lv_aload_n hx hb dL_law_238 rfl (lv_at hl 3 rfl) ?_
  have hPc := hP.sub (ws' := [(q0, .inr (11, [.ref (gx 0), .ref (gx 1), .ref (gx 2), .ref (gx 3), .ref (gx 4), .ref (gx 5), .ref (gx 6), .ref (gx 7), .ref (gx 8), .ref (gx 9), .ref (gx 10), .ref (gx 11), .int 0])), ((gx 0), .inr (9, [.ref (gx 12), .int 0, .int 0])), ((gx 2), .inr (3, [.int 0, .int 0, .ref (gx 13), .ref (gx 14), .ref (gx 15), .ref (gx 16), .ref (gx 17), .ref (gx 18)]))]) [0, 1, 3] rfl
  have hDc := hD.sub (ws' := [(q0, .inr (11, [.ref (gx 0), .ref (gx 1), .ref (gx 2), .ref (gx 3), .ref (gx 4), .ref (gx 5), .ref (gx 6), .ref (gx 7), .ref (gx 8), .ref (gx 9), .ref (gx 10), .ref (gx 11), .int 0])), ((gx 0), .inr (9, [.ref (gx 12), .int 0, .int 0])), ((gx 2), .inr (3, [.int 0, .int 0, .ref (gx 13), .ref (gx 14), .ref (gx 15), .ref (gx 16), .ref (gx 17), .ref (gx 18)]))]) [0, 1, 3] (by decide) rfl
  have hKc := hK.sub (tys' := []) [] rfl
  have hFc := va_free (wc := [(q0, .inr (11, [.ref (gx 0), .ref (gx 1), .ref (gx 2), .ref (gx 3), .ref (gx 4), .ref (gx 5), .ref (gx 6), .ref (gx 7), .ref (gx 8), .ref (gx 9), .ref (gx 10), .ref (gx 11), .int 0])), ((gx 0), .inr (9, [.ref (gx 12), .int 0, .int 0])), ((gx 2), .inr (3, [.int 0, .int 0, .ref (gx 13), .ref (gx 14), .ref (gx 15), .ref (gx 16), .ref (gx 17), .ref (gx 18)]))]) hD hS hA [0, 1, 3] rfl
  refine va_calli (va_runV (As := []) (rest := []) ⟨hx, hb, hml, hown, hts⟩ (c_X11_fault l dC dI H.size q0 gx ) (cwV 0 hts ug_L_law_X11_fault rfl rfl rfl (by decide +kernel) ⟨Nat.le_of_ble_eq_true rfl, Nat.le_of_ble_eq_true rfl⟩) ⟨fun a U g mk q => by obtain ⟨q0, q1, qP, qK, qD⟩ := q; exact ⟨q0, q1, qP, va_K.moved (u := U) (U := U.calling g mk a) (Vm.Alike.refl U.vm) qK, qD⟩, va_recv hKc hPc (ci := 11) (q0 := 0) rfl rfl, fun U hU hW => ⟨rfl, by rw [hU], by rw [hU]; exact hPc, va_K.moved hW.alike hKc, hDc.weaken (fun _ _ _ _ => trivial)⟩⟩ rfl rfl hl.1 rfl (lv_room (Nat.le_of_ble_eq_true rfl)) dL_law_239 ⟨Nat.le_of_ble_eq_true rfl, Nat.le_of_ble_eq_true rfl⟩) hS (fun q _ h => hFc q h) hFc (fun r_1 u t H locs ht hvm hw hB hz1 hk1 hS => ?_)
  obtain ⟨hP, hD⟩ := va_join (wr := [((gx 12), .inl (cX, 240, .inl (fun _ => 0))), (q1, .inr (12, mF gm 0 0 0 0 0)), ((gm 0), .inl (cM, 240, .inl (fun _ => 0))), (q2, .inl (cJ, 1, .inr (.inl (fun _ => 0))))]) (w1 := []) hP hD [0, 1, 3] [2, 4, 5, 6] rfl rfl (by decide) (by decide) hk1 hFc p_nil d_nil
  clear hPc hDc hFc hk1 hz1
  have hP : va_P (dC, dI) vwCl [((gx 12), .inl (cX, 240, .inl (fun _ => 0))), (q1, .inr (12, mF gm 0 0 0 0 0)), ((gm 0), .inl (cM, 240, .inl (fun _ => 0))), (q2, .inl (cJ, 1, .inr (.inl (fun _ => 0))))] H := hP
  have hD : va_D (fun q : Nat => s.heap.size ≤ q) [((gx 12), .inl (cX, 240, .inl (fun _ => 0))), (q1, .inr (12, mF gm 0 0 0 0 0)), ((gm 0), .inl (cM, 240, .inl (fun _ => 0))), (q2, .inl (cJ, 1, .inr (.inl (fun _ => 0))))] := hD
  obtain rfl : r_1 = 0 := hw
  refine lv_aload_n hx hb dL_law_242 rfl (lv_at hl 2 rfl) ?_
  have hPc := hP.sub (ws' := [(q1, .inr (12, mF gm 0 0 0 0 0))]) [1] rfl
  have hDc := hD.sub (ws' := [(q1, .inr (12, mF gm 0 0 0 0 0))]) [1] (by decide) rfl
  have hKc := hK.sub (tys' := []) [] rfl
  have hFc := va_free (wc := [(q1, .inr (12, mF gm 0 0 0 0 0))]) hD hS hA [1] rfl
  refine va_calli (va_runV (As := []) (rest := [.int 0]) ⟨hx, hb, hml, hown, hts⟩ (c_X12_fault l dC dI H.size q1 gm ) (cwV 0 hts ug_L_law_X12_fault rfl rfl rfl (by decide +kernel) ⟨Nat.le_of_ble_eq_true rfl, Nat.le_of_ble_eq_true rfl⟩) ⟨fun a U g mk q => by obtain ⟨q0, q1, qP, qK, qD⟩ := q; exact ⟨q0, q1, qP, va_K.moved (u := U) (U := U.calling g mk a) (Vm.Alike.refl U.vm) qK, qD⟩, va_recv hKc hPc (ci := 12) (q0 := 0) rfl rfl, fun U hU hW => ⟨rfl, by rw [hU], by rw [hU]; exact hPc, va_K.moved hW.alike hKc, hDc.weaken (fun _ _ _ _ => trivial)⟩⟩ rfl rfl hl.1 rfl (lv_room (Nat.le_of_ble_eq_true rfl)) dL_law_243 ⟨Nat.le_of_ble_eq_true rfl, Nat.le_of_ble_eq_true rfl⟩) hS (fun q _ h => hFc q h) hFc (fun r_3 u t H locs ht hvm hw hB hz1 hk1 hS => ?_)
  obtain ⟨hP, hD⟩ := va_join (wr := [((gx 12), .inl (cX, 240, .inl (fun _ => 0))), ((gm 0), .inl (cM, 240, .inl (fun _ => 0))), (q2, .inl (cJ, 1, .inr (.inl (fun _ => 0))))]) (w1 := []) hP hD [1] [0, 2, 3] rfl rfl (by decide) (by decide) hk1 hFc p_nil d_nil
  clear hPc hDc hFc hk1 hz1
  have hP : va_P (dC, dI) vwCl [((gx 12), .inl (cX, 240, .inl (fun _ => 0))), ((gm 0), .inl (cM, 240, .inl (fun _ => 0))), (q2, .inl (cJ, 1, .inr (.inl (fun _ => 0))))] H := hP
  have hD : va_D (fun q : Nat => s.heap.size ≤ q) [((gx 12), .inl (cX, 240, .inl (fun _ => 0))), ((gm 0), .inl (cM, 240, .inl (fun _ => 0))), (q2, .inl (cJ, 1, .inr (.inl (fun _ => 0))))] := hD
  obtain rfl : r_3 = 0 := hw
  refine lv_icmp_eq (tgt := 1033) hx hb dL_law_246 (by decide) (fun c_5 => ?_) (fun c_5 => absurd (by decide) c_5)
  exact law_tail l hC0 hS (Nat.le_of_ble_eq_true rfl) (Nat.le_of_ble_eq_true rfl) ls (lv_sub hl [0, 4] rfl)

set_option maxHeartbeats 8000000 in
set_option maxRecDepth 100000 in
/-- the call of place 3 -/
theorem law_case_3 {p : Program} {e : Env} {s : State} {m : MethodId} {below : List Frame} {meth : Method} {c : Code} (l : Launch) {b : Nat} {xs : Nat → Int32} (C0 : lw_At p s m meth c b 7 xs) {dC : Nat → ClassId} {dI : Nat → Nat → Nat} (q0 q1 q2 : Nat) (gx gm : Nat → Nat) (cX cM cJ : ClassId) (sa1 sa2 : Nat) (hfl : l.stackTraces = false) (hE1 : xE sa1 198 "no such instruction" (fun q : Nat => s.heap.size ≤ q) s s.heap) (hE2 : xE sa2 220 "no such block" (fun q : Nat => s.heap.size ≤ q) s s.heap) {H : Heap} {locs : List Loc} (hK : va_K (dC, dI) vwCl [(cX, .byte), (cM, .byte), (cJ, .long)] s) (hP : va_P (dC, dI) vwCl [(q0, .inr (11, [.ref (gx 0), .ref (gx 1), .ref (gx 2), .ref (gx 3), .ref (gx 4), .ref (gx 5), .ref (gx 6), .ref (gx 7), .ref (gx 8), .ref (gx 9), .ref (gx 10), .ref (gx 11), .int 0])), ((gx 0), .inr (9, [.ref (gx 12), .int 0, .int 0])), ((gx 12), .inl (cX, 240, .inl (fun _ => 0))), ((gx 2), .inr (3, [.int 0, .int 0, .ref (gx 13), .ref (gx 14), .ref (gx 15), .ref (gx 16), .ref (gx 17), .ref (gx 18)])), (q1, .inr (12, mF gm 0 0 0 0 0)), ((gm 0), .inl (cM, 240, .inl (fun _ => 0))), (q2, .inl (cJ, 1, .inr (.inl (fun _ => 0))))] H) (hD : va_D (fun q : Nat => s.heap.size ≤ q) [(q0, .inr (11, [.ref (gx 0), .ref (gx 1), .ref (gx 2), .ref (gx 3), .ref (gx 4), .ref (gx 5), .ref (gx 6), .ref (gx 7), .ref (gx 8), .ref (gx 9), .ref (gx 10), .ref (gx 11), .int 0])), ((gx 0), .inr (9, [.ref (gx 12), .int 0, .int 0])), ((gx 12), .inl (cX, 240, .inl (fun _ => 0))), ((gx 2), .inr (3, [.int 0, .int 0, .ref (gx 13), .ref (gx 14), .ref (gx 15), .ref (gx 16), .ref (gx 17), .ref (gx 18)])), (q1, .inr (12, mF gm 0 0 0 0 0)), ((gm 0), .inl (cM, 240, .inl (fun _ => 0))), (q2, .inl (cJ, 1, .inr (.inl (fun _ => 0))))]) (hS : va_S (fun q : Nat => s.heap.size ≤ q) s.heap H locs) (ls : Array Slot) (hl : lv_has ls 7 [(4, .int 0), (3, .ref q2), (2, .ref q1), (1, .ref q0), (0, .ref b)]) : W p l e room_1 s m #[Value.ref b] below meth c H locs 132 55263 (lw_Z below #[Value.ref b] s) (F0 m 251 ls []) := by
  have hC0 := C0
  obtain ⟨hx, hb, hr, hml, hown, hts, hX, hbl, hlocks, hgv⟩ := C0
  have hown : s.vm.findClass RL = some m.cls := hown
  have hA : ∀ q : Nat, s.heap.size ≤ q → (fun q : Nat => s.heap.size ≤ q) q := fun _ h => h
  have hbA : ¬ (fun q : Nat => s.heap.size ≤ q) b := Nat.not_le.mpr hbl
  refine lv_aload_n hx hb dL_law_251 rfl (lv_at hl 3 rfl) ?_
  have hPc := hP.sub (ws' := [(q0, .inr (11, [.ref (gx 0), .ref (gx 1), .ref (gx 2), .ref (gx 3), .ref (gx 4), .ref (gx 5), .ref (gx 6), .ref (gx 7), .ref (gx 8), .ref (gx 9), .ref (gx 10), .ref (gx 11), .int 0])), ((gx 0), .inr (9, [.ref (gx 12), .int 0, .int 0])), ((gx 2), .inr (3, [.int 0, .int 0, .ref (gx 13), .ref (gx 14), .ref (gx 15), .ref (gx 16), .ref (gx 17), .ref (gx 18)]))]) [0, 1, 3] rfl
  have hDc := hD.sub (ws' := [(q0, .inr (11, [.ref (gx 0), .ref (gx 1), .ref (gx 2), .ref (gx 3), .ref (gx 4), .ref (gx 5), .ref (gx 6), .ref (gx 7), .ref (gx 8), .ref (gx 9), .ref (gx 10), .ref (gx 11), .int 0])), ((gx 0), .inr (9, [.ref (gx 12), .int 0, .int 0])), ((gx 2), .inr (3, [.int 0, .int 0, .ref (gx 13), .ref (gx 14), .ref (gx 15), .ref (gx 16), .ref (gx 17), .ref (gx 18)]))]) [0, 1, 3] (by decide) rfl
  have hKc := hK.sub (tys' := []) [] rfl
  have hFc := va_free (wc := [(q0, .inr (11, [.ref (gx 0), .ref (gx 1), .ref (gx 2), .ref (gx 3), .ref (gx 4), .ref (gx 5), .ref (gx 6), .ref (gx 7), .ref (gx 8), .ref (gx 9), .ref (gx 10), .ref (gx 11), .int 0])), ((gx 0), .inr (9, [.ref (gx 12), .int 0, .int 0])), ((gx 2), .inr (3, [.int 0, .int 0, .ref (gx 13), .ref (gx 14), .ref (gx 15), .ref (gx 16), .ref (gx 17), .ref (gx 18)]))]) hD hS hA [0, 1, 3] rfl
  refine va_calli (va_runV (As := []) (rest := []) ⟨hx, hb, hml, hown, hts⟩ (c_X11_code l dC dI H.size q0 gx ) (cwV 0 hts ug_L_law_X11_code rfl rfl rfl (by decide +kernel) ⟨Nat.le_of_ble_eq_true rfl, Nat.le_of_ble_eq_true rfl⟩) ⟨fun a U g mk q => by obtain ⟨q0, q1, qP, qK, qD⟩ := q; exact ⟨q0, q1, qP, va_K.moved (u := U) (U := U.calling g mk a) (Vm.Alike.refl U.vm) qK, qD⟩, va_recv hKc hPc (ci := 11) (q0 := 0) rfl rfl, fun U hU hW => ⟨rfl, by rw [hU], by rw [hU]; exact hPc, va_K.moved hW.alike hKc, hDc.weaken (fun _ _ _ _ => trivial)⟩⟩ rfl rfl hl.1 rfl (lv_room (Nat.le_of_ble_eq_true rfl)) dL_law_252 ⟨Nat.le_of_ble_eq_true rfl, Nat.le_of_ble_eq_true rfl⟩) hS (fun q _ h => hFc q h) hFc (fun r_1 u t H locs ht hvm hw hB hz1 hk1 hS => ?_)
  obtain ⟨hP, hD⟩ := va_join (wr := [((gx 12), .inl (cX, 240, .inl (fun _ => 0))), (q1, .inr (12, mF gm 0 0 0 0 0)), ((gm 0), .inl (cM, 240, .inl (fun _ => 0))), (q2, .inl (cJ, 1, .inr (.inl (fun _ => 0))))]) (w1 := []) hP hD [0, 1, 3] [2, 4, 5, 6] rfl rfl (by decide) (by decide) hk1 hFc p_nil d_nil
  clear hPc hDc hFc hk1 hz1
  have hP : va_P (dC, dI) vwCl [((gx 12), .inl (cX, 240, .inl (fun _ => 0))), (q1, .inr (12, mF gm 0 0 0 0 0)), ((gm 0), .inl (cM, 240, .inl (fun _ => 0))), (q2, .inl (cJ, 1, .inr (.inl (fun _ => 0))))] H := hP
  have hD : va_D (fun q : Nat => s.heap.size ≤ q) [((gx 12), .inl (cX, 240, .inl (fun _ => 0))), (q1, .inr (12, mF gm 0 0 0 0 0)), ((gm 0), .inl (cM, 240, .inl (fun _ => 0))), (q2, .inl (cJ, 1, .inr (.inl (fun _ => 0))))] := hD
  obtain rfl : r_1 = (-1) := hw
  refine lv_aload_n hx hb dL_law_255 rfl (lv_at hl 2 rfl) ?_
  have hPc := hP.sub (ws' := [(q1, .inr (12, mF gm 0 0 0 0 0))]) [1] rfl
  have hDc := hD.sub (ws' := [(q1, .inr (12, mF gm 0 0 0 0 0))]) [1] (by decide) rfl
  have hKc := hK.sub (tys' := []) [] rfl
  have hFc := va_free (wc := [(q1, .inr (12, mF gm 0 0 0 0 0))]) hD hS hA [1] rfl
  refine va_calli (va_runV (As := []) (rest := [.int (-1)]) ⟨hx, hb, hml, hown, hts⟩ (c_X12_code l dC dI H.size q1 gm ) (cwV 0 hts ug_L_law_X12_code rfl rfl rfl (by decide +kernel) ⟨Nat.le_of_ble_eq_true rfl, Nat.le_of_ble_eq_true rfl⟩) ⟨fun a U g mk q => by obtain ⟨q0, q1, qP, qK, qD⟩ := q; exact ⟨q0, q1, qP, va_K.moved (u := U) (U := U.calling g mk a) (Vm.Alike.refl U.vm) qK, qD⟩, va_recv hKc hPc (ci := 12) (q0 := 0) rfl rfl, fun U hU hW => ⟨rfl, by rw [hU], by rw [hU]; exact hPc, va_K.moved hW.alike hKc, hDc.weaken (fun _ _ _ _ => trivial)⟩⟩ rfl rfl hl.1 rfl (lv_room (Nat.le_of_ble_eq_true rfl)) dL_law_256 ⟨Nat.le_of_ble_eq_true rfl, Nat.le_of_ble_eq_true rfl⟩) hS (fun q _ h => hFc q h) hFc (fun r_3 u t H locs ht hvm hw hB hz1 hk1 hS => ?_)
  obtain ⟨hP, hD⟩ := va_join (wr := [((gx 12), .inl (cX, 240, .inl (fun _ => 0))), ((gm 0), .inl (cM, 240, .inl (fun _ => 0))), (q2, .inl (cJ, 1, .inr (.inl (fun _ => 0))))]) (w1 := []) hP hD [1] [0, 2, 3] rfl rfl (by decide) (by decide) hk1 hFc p_nil d_nil
  clear hPc hDc hFc hk1 hz1
  have hP : va_P (dC, dI) vwCl [((gx 12), .inl (cX, 240, .inl (fun _ => 0))), ((gm 0), .inl (cM, 240, .inl (fun _ => 0))), (q2, .inl (cJ, 1, .inr (.inl (fun _ => 0))))] H := hP
  have hD : va_D (fun q : Nat => s.heap.size ≤ q) [((gx 12), .inl (cX, 240, .inl (fun _ => 0))), ((gm 0), .inl (cM, 240, .inl (fun _ => 0))), (q2, .inl (cJ, 1, .inr (.inl (fun _ => 0))))] := hD
  obtain rfl : r_3 = -1 := hw
  refine lv_icmp_eq (tgt := 1033) hx hb dL_law_259 (by decide) (fun c_5 => ?_) (fun c_5 => absurd (by decide) c_5)
  exact law_tail l hC0 hS (Nat.le_of_ble_eq_true rfl) (Nat.le_of_ble_eq_true rfl) ls (lv_sub hl [0, 4] rfl)

set_option maxHeartbeats 8000000 in
set_option maxRecDepth 100000 in
/-- the call of place 4 -/
theorem law_case_4 {p : Program} {e : Env} {s : State} {m : MethodId} {below : List Frame} {meth : Method} {c : Code} (l : Launch) {b : Nat} {xs : Nat → Int32} (C0 : lw_At p s m meth c b 7 xs) {dC : Nat → ClassId} {dI : Nat → Nat → Nat} (q0 q1 q2 : Nat) (gx gm : Nat → Nat) (cX cM cJ : ClassId) (sa1 sa2 : Nat) (hfl : l.stackTraces = false) (hE1 : xE sa1 198 "no such instruction" (fun q : Nat => s.heap.size ≤ q) s s.heap) (hE2 : xE sa2 220 "no such block" (fun q : Nat => s.heap.size ≤ q) s s.heap) {H : Heap} {locs : List Loc} (hK : va_K (dC, dI) vwCl [(cX, .byte), (cM, .byte), (cJ, .long)] s) (hP : va_P (dC, dI) vwCl [(q0, .inr (11, [.ref (gx 0), .ref (gx 1), .ref (gx 2), .ref (gx 3), .ref (gx 4), .ref (gx 5), .ref (gx 6), .ref (gx 7), .ref (gx 8), .ref (gx 9), .ref (gx 10), .ref (gx 11), .int 0])), ((gx 0), .inr (9, [.ref (gx 12), .int 0, .int 0])), ((gx 12), .inl (cX, 240, .inl (fun _ => 0))), ((gx 2), .inr (3, [.int 0, .int 0, .ref (gx 13), .ref (gx 14), .ref (gx 15), .ref (gx 16), .ref (gx 17), .ref (gx 18)])), (q1, .inr (12, mF gm 0 0 0 0 0)), ((gm 0), .inl (cM, 240, .inl (fun _ => 0))), (q2, .inl (cJ, 1, .inr (.inl (fun _ => 0))))] H) (hD : va_D (fun q : Nat => s.heap.size ≤ q) [(q0, .inr (11, [.ref (gx 0), .ref (gx 1), .ref (gx 2), .ref (gx 3), .ref (gx 4), .ref (gx 5), .ref (gx 6), .ref (gx 7), .ref (gx 8), .ref (gx 9), .ref (gx 10), .ref (gx 11), .int 0])), ((gx 0), .inr (9, [.ref (gx 12), .int 0, .int 0])), ((gx 12), .inl (cX, 240, .inl (fun _ => 0))), ((gx 2), .inr (3, [.int 0, .int 0, .ref (gx 13), .ref (gx 14), .ref (gx 15), .ref (gx 16), .ref (gx 17), .ref (gx 18)])), (q1, .inr (12, mF gm 0 0 0 0 0)), ((gm 0), .inl (cM, 240, .inl (fun _ => 0))), (q2, .inl (cJ, 1, .inr (.inl (fun _ => 0))))]) (hS : va_S (fun q : Nat => s.heap.size ≤ q) s.heap H locs) (ls : Array Slot) (hl : lv_has ls 7 [(4, .int 0), (3, .ref q2), (2, .ref q1), (1, .ref q0), (0, .ref b)]) : W p l e room_1 s m #[Value.ref b] below meth c H locs 132 55263 (lw_Z below #[Value.ref b] s) (F0 m 264 ls []) := by
  have hC0 := C0
  obtain ⟨hx, hb, hr, hml, hown, hts, hX, hbl, hlocks, hgv⟩ := C0
  have hown : s.vm.findClass RL = some m.cls := hown
  have hA : ∀ q : Nat, s.heap.size ≤ q → (fun q : Nat => s.heap.size ≤ q) q := fun _ h => h
  have hbA : ¬ (fun q : Nat => s.heap.size ≤ q) b := Nat.not_le.mpr hbl
  refine lv_aload_n hx hb dL_law_264 rfl (lv_at hl 3 rfl) ?_
  refine lv_aload_n hx hb dL_law_265 rfl (lv_at hl 4 rfl) ?_
  refine lv_iload hx hb dL_law_266 (lv_at hl 0 rfl) ?_
  refine lv_iconst (v := 1) hx hb dL_law_268 (by decide) ?_
  refine lv_iadd hx hb dL_law_269 ?_
  refine lv_topi (fun v_1 e_1 => ?_)
  obtain rfl : v_1 = 1 := by rw [e_1]; decide
  refine va_sld hx hb hX hbl hbA hS (by unfold vp_in; decide : vp_in 1 7) dL_law_270 ?_
  refine lv_aload_n hx hb dL_law_271 rfl (lv_at hl 4 rfl) ?_
  refine lv_iload hx hb dL_law_272 (lv_at hl 0 rfl) ?_
  refine lv_iconst (v := 2) hx hb dL_law_274 (by decide) ?_
  refine lv_iadd hx hb dL_law_275 ?_
  refine lv_topi (fun v_2 e_2 => ?_)
  obtain rfl : v_2 = 2 := by rw [e_2]; decide
  refine va_sld hx hb hX hbl hbA hS (by unfold vp_in; decide : vp_in 2 7) dL_law_276 ?_
  refine lv_aload_n hx hb dL_law_277 rfl (lv_at hl 4 rfl) ?_
  refine lv_iload hx hb dL_law_278 (lv_at hl 0 rfl) ?_
  refine lv_iconst (v := 3) hx hb dL_law_280 (by decide) ?_
  refine lv_iadd hx hb dL_law_281 ?_
  refine lv_topi (fun v_3 e_3 => ?_)
  obtain rfl : v_3 = 3 := by rw [e_3]; decide
  refine va_sld hx hb hX hbl hbA hS (by unfold vp_in; decide : vp_in 3 7) dL_law_282 ?_
  have hPc := hP.sub (ws' := [(q0, .inr (11, [.ref (gx 0), .ref (gx 1), .ref (gx 2), .ref (gx 3), .ref (gx 4), .ref (gx 5), .ref (gx 6), .ref (gx 7), .ref (gx 8), .ref (gx 9), .ref (gx 10), .ref (gx 11), .int 0]))]) [0] rfl
  have hDc := hD.sub (ws' := [(q0, .inr (11, [.ref (gx 0), .ref (gx 1), .ref (gx 2), .ref (gx 3), .ref (gx 4), .ref (gx 5), .ref (gx 6), .ref (gx 7), .ref (gx 8), .ref (gx 9), .ref (gx 10), .ref (gx 11), .int 0]))]) [0] (by decide) rfl
  have hKc := hK.sub (tys' := []) [] rfl
  have hFc := va_free (wc := [(q0, .inr (11, [.ref (gx 0), .ref (gx 1), .ref (gx 2), .ref (gx 3), .ref (gx 4), .ref (gx 5), .ref (gx 6), .ref (gx 7), .ref (gx 8), .ref (gx 9), .ref (gx 10), .ref (gx 11), .int 0]))]) hD hS hA [0] rfl
  refine va_calli (va_runV (As := [.int (xs (Int32.toNatClampNeg 1)), .int (xs (Int32.toNatClampNeg 2)), .int (xs (Int32.toNatClampNeg 3))]) (rest := []) ⟨hx, hb, hml, hown, hts⟩ (c_X11_put l dC dI H.size q0 gx (xs (Int32.toNatClampNeg 1)) (xs (Int32.toNatClampNeg 2)) (xs (Int32.toNatClampNeg 3))) (cwV 3 hts ug_L_law_X11_put rfl rfl rfl (by decide +kernel) ⟨Nat.le_of_ble_eq_true rfl, Nat.le_of_ble_eq_true rfl⟩) ⟨fun a U g mk q => by obtain ⟨q0, q1, qP, qK, qD⟩ := q; exact ⟨q0, q1, qP, va_K.moved (u := U) (U := U.calling g mk a) (Vm.Alike.refl U.vm) qK, qD⟩, va_recv hKc hPc (ci := 11) (q0 := 0) rfl rfl, fun U hU hW => ⟨rfl, by rw [hU], by rw [hU]; exact hPc, va_K.moved hW.alike hKc, hDc.weaken (fun _ _ _ _ => trivial)⟩⟩ rfl rfl hl.1 rfl (lv_room (Nat.le_of_ble_eq_true rfl)) dL_law_283 ⟨Nat.le_of_ble_eq_true rfl, Nat.le_of_ble_eq_true rfl⟩) hS (fun q _ h => hFc q h) hFc (fun r_4 u t H locs ht hvm hw hB hz1 hk1 hS => ?_)
  obtain ⟨hP, hD⟩ := va_join (wr := [((gx 0), .inr (9, [.ref (gx 12), .int 0, .int 0])), ((gx 12), .inl (cX, 240, .inl (fun _ => 0))), ((gx 2), .inr (3, [.int 0, .int 0, .ref (gx 13), .ref (gx 14), .ref (gx 15), .ref (gx 16), .ref (gx 17), .ref (gx 18)])), (q1, .inr (12, mF gm 0 0 0 0 0)), ((gm 0), .inl (cM, 240, .inl (fun _ => 0))), (q2, .inl (cJ, 1, .inr (.inl (fun _ => 0))))]) (w1 := []) hP hD [0] [1, 2, 3, 4, 5, 6] rfl rfl (by decide) (by decide) hk1 hFc p_nil d_nil
  clear hPc hDc hFc hk1 hz1
  have hP : va_P (dC, dI) vwCl [((gx 0), .inr (9, [.ref (gx 12), .int 0, .int 0])), ((gx 12), .inl (cX, 240, .inl (fun _ => 0))), ((gx 2), .inr (3, [.int 0, .int 0, .ref (gx 13), .ref (gx 14), .ref (gx 15), .ref (gx 16), .ref (gx 17), .ref (gx 18)])), (q1, .inr (12, mF gm 0 0 0 0 0)), ((gm 0), .inl (cM, 240, .inl (fun _ => 0))), (q2, .inl (cJ, 1, .inr (.inl (fun _ => 0))))] H := hP
  have hD : va_D (fun q : Nat => s.heap.size ≤ q) [((gx 0), .inr (9, [.ref (gx 12), .int 0, .int 0])), ((gx 12), .inl (cX, 240, .inl (fun _ => 0))), ((gx 2), .inr (3, [.int 0, .int 0, .ref (gx 13), .ref (gx 14), .ref (gx 15), .ref (gx 16), .ref (gx 17), .ref (gx 18)])), (q1, .inr (12, mF gm 0 0 0 0 0)), ((gm 0), .inl (cM, 240, .inl (fun _ => 0))), (q2, .inl (cJ, 1, .inr (.inl (fun _ => 0))))] := hD
  obtain rfl : r_4 = (-1) := hw
  refine lv_aload_n hx hb dL_law_286 rfl (lv_at hl 2 rfl) ?_
  refine lv_aload_n hx hb dL_law_287 rfl (lv_at hl 4 rfl) ?_
  refine lv_iload hx hb dL_law_288 (lv_at hl 0 rfl) ?_
  refine lv_iconst (v := 1) hx hb dL_law_290 (by decide) ?_
  refine lv_iadd hx hb dL_law_291 ?_
  refine lv_topi (fun v_6 e_6 => ?_)
  obtain rfl : v_6 = 1 := by rw [e_6]; decide
  refine va_sld hx hb hX hbl hbA hS (by unfold vp_in; decide : vp_in 1 7) dL_law_292 ?_
  refine lv_aload_n hx hb dL_law_293 rfl (lv_at hl 4 rfl) ?_
  refine lv_iload hx hb dL_law_294 (lv_at hl 0 rfl) ?_
  refine lv_iconst (v := 2) hx hb dL_law_296 (by decide) ?_
  refine lv_iadd hx hb dL_law_297 ?_
  refine lv_topi (fun v_7 e_7 => ?_)
  obtain rfl : v_7 = 2 := by rw [e_7]; decide
  refine va_sld hx hb hX hbl hbA hS (by unfold vp_in; decide : vp_in 2 7) dL_law_298 ?_
  refine lv_aload_n hx hb dL_law_299 rfl (lv_at hl 4 rfl) ?_
  refine lv_iload hx hb dL_law_300 (lv_at hl 0 rfl) ?_
  refine lv_iconst (v := 3) hx hb dL_law_302 (by decide) ?_
  refine lv_iadd hx hb dL_law_303 ?_
  refine lv_topi (fun v_8 e_8 => ?_)
  obtain rfl : v_8 = 3 := by rw [e_8]; decide
  refine va_sld hx hb hX hbl hbA hS (by unfold vp_in; decide : vp_in 3 7) dL_law_304 ?_
  have hPc := hP.sub (ws' := [(q1, .inr (12, mF gm 0 0 0 0 0))]) [3] rfl
  have hDc := hD.sub (ws' := [(q1, .inr (12, mF gm 0 0 0 0 0))]) [3] (by decide) rfl
  have hKc := hK.sub (tys' := []) [] rfl
  have hFc := va_free (wc := [(q1, .inr (12, mF gm 0 0 0 0 0))]) hD hS hA [3] rfl
  refine va_calli (va_runV (As := [.int (xs (Int32.toNatClampNeg 1)), .int (xs (Int32.toNatClampNeg 2)), .int (xs (Int32.toNatClampNeg 3))]) (rest := [.int (-1)]) ⟨hx, hb, hml, hown, hts⟩ (c_X12_put l dC dI H.size q1 gm (xs (Int32.toNatClampNeg 1)) (xs (Int32.toNatClampNeg 2)) (xs (Int32.toNatClampNeg 3))) (cwV 3 hts ug_L_law_X12_put rfl rfl rfl (by decide +kernel) ⟨Nat.le_of_ble_eq_true rfl, Nat.le_of_ble_eq_true rfl⟩) ⟨fun a U g mk q => by obtain ⟨q0, q1, qP, qK, qD⟩ := q; exact ⟨q0, q1, qP, va_K.moved (u := U) (U := U.calling g mk a) (Vm.Alike.refl U.vm) qK, qD⟩, va_recv hKc hPc (ci := 12) (q0 := 0) rfl rfl, fun U hU hW => ⟨rfl, by rw [hU], by rw [hU]; exact hPc, va_K.moved hW.alike hKc, hDc.weaken (fun _ _ _ _ => trivial)⟩⟩ rfl rfl hl.1 rfl (lv_room (Nat.le_of_ble_eq_true rfl)) dL_law_305 ⟨Nat.le_of_ble_eq_true rfl, Nat.le_of_ble_eq_true rfl⟩) hS (fun q _ h => hFc q h) hFc (fun r_9 u t H locs ht hvm hw hB hz1 hk1 hS => ?_)
  obtain ⟨hP, hD⟩ := va_join (wr := [((gx 0), .inr (9, [.ref (gx 12), .int 0, .int 0])), ((gx 12), .inl (cX, 240, .inl (fun _ => 0))), ((gx 2), .inr (3, [.int 0, .int 0, .ref (gx 13), .ref (gx 14), .ref (gx 15), .ref (gx 16), .ref (gx 17), .ref (gx 18)])), ((gm 0), .inl (cM, 240, .inl (fun _ => 0))), (q2, .inl (cJ, 1, .inr (.inl (fun _ => 0))))]) (w1 := []) hP hD [3] [0, 1, 2, 4, 5] rfl rfl (by decide) (by decide) hk1 hFc p_nil d_nil
  clear hPc hDc hFc hk1 hz1
  have hP : va_P (dC, dI) vwCl [((gx 0), .inr (9, [.ref (gx 12), .int 0, .int 0])), ((gx 12), .inl (cX, 240, .inl (fun _ => 0))), ((gx 2), .inr (3, [.int 0, .int 0, .ref (gx 13), .ref (gx 14), .ref (gx 15), .ref (gx 16), .ref (gx 17), .ref (gx 18)])), ((gm 0), .inl (cM, 240, .inl (fun _ => 0))), (q2, .inl (cJ, 1, .inr (.inl (fun _ => 0))))] H := hP
  have hD : va_D (fun q : Nat => s.heap.size ≤ q) [((gx 0), .inr (9, [.ref (gx 12), .int 0, .int 0])), ((gx 12), .inl (cX, 240, .inl (fun _ => 0))), ((gx 2), .inr (3, [.int 0, .int 0, .ref (gx 13), .ref (gx 14), .ref (gx 15), .ref (gx 16), .ref (gx 17), .ref (gx 18)])), ((gm 0), .inl (cM, 240, .inl (fun _ => 0))), (q2, .inl (cJ, 1, .inr (.inl (fun _ => 0))))] := hD
  obtain rfl : r_9 = (-1) := hw
  refine lv_icmp_eq (tgt := 1033) hx hb dL_law_308 (by decide) (fun c_11 => ?_) (fun c_11 => absurd (by decide) c_11)
  exact law_tail l hC0 hS (Nat.le_of_ble_eq_true rfl) (Nat.le_of_ble_eq_true rfl) ls (lv_sub hl [0, 4] rfl)

set_option maxHeartbeats 8000000 in
set_option maxRecDepth 100000 in
/-- the call of place 5 -/
theorem law_case_5 {p : Program} {e : Env} {s : State} {m : MethodId} {below : List Frame} {meth : Method} {c : Code} (l : Launch) {b : Nat} {xs : Nat → Int32} (C0 : lw_At p s m meth c b 7 xs) {dC : Nat → ClassId} {dI : Nat → Nat → Nat} (q0 q1 q2 : Nat) (gx gm : Nat → Nat) (cX cM cJ : ClassId) (sa1 sa2 : Nat) (hfl : l.stackTraces = false) (hE1 : xE sa1 198 "no such instruction" (fun q : Nat => s.heap.size ≤ q) s s.heap) (hE2 : xE sa2 220 "no such block" (fun q : Nat => s.heap.size ≤ q) s s.heap) {H : Heap} {locs : List Loc} (hK : va_K (dC, dI) vwCl [(cX, .byte), (cM, .byte), (cJ, .long)] s) (hP : va_P (dC, dI) vwCl [(q0, .inr (11, [.ref (gx 0), .ref (gx 1), .ref (gx 2), .ref (gx 3), .ref (gx 4), .ref (gx 5), .ref (gx 6), .ref (gx 7), .ref (gx 8), .ref (gx 9), .ref (gx 10), .ref (gx 11), .int 0])), ((gx 0), .inr (9, [.ref (gx 12), .int 0, .int 0])), ((gx 12), .inl (cX, 240, .inl (fun _ => 0))), ((gx 2), .inr (3, [.int 0, .int 0, .ref (gx 13), .ref (gx 14), .ref (gx 15), .ref (gx 16), .ref (gx 17), .ref (gx 18)])), (q1, .inr (12, mF gm 0 0 0 0 0)), ((gm 0), .inl (cM, 240, .inl (fun _ => 0))), (q2, .inl (cJ, 1, .inr (.inl (fun _ => 0))))] H) (hD : va_D (fun q : Nat => s.heap.size ≤ q) [(q0, .inr (11, [.ref (gx 0), .ref (gx 1), .ref (gx 2), .ref (gx 3), .ref (gx 4), .ref (gx 5), .ref (gx 6), .ref (gx 7), .ref (gx 8), .ref (gx 9), .ref (gx 10), .ref (gx 11), .int 0])), ((gx 0), .inr (9, [.ref (gx 12), .int 0, .int 0])), ((gx 12), .inl (cX, 240, .inl (fun _ => 0))), ((gx 2), .inr (3, [.int 0, .int 0, .ref (gx 13), .ref (gx 14), .ref (gx 15), .ref (gx 16), .ref (gx 17), .ref (gx 18)])), (q1, .inr (12, mF gm 0 0 0 0 0)), ((gm 0), .inl (cM, 240, .inl (fun _ => 0))), (q2, .inl (cJ, 1, .inr (.inl (fun _ => 0))))]) (hS : va_S (fun q : Nat => s.heap.size ≤ q) s.heap H locs) (ls : Array Slot) (hl : lv_has ls 7 [(4, .int 0), (3, .ref q2), (2, .ref q1), (1, .ref q0), (0, .ref b)]) : W p l e room_1 s m #[Value.ref b] below meth c H locs 132 55263 (lw_Z below #[Value.ref b] s) (F0 m 313 ls []) := by
  have hC0 := C0
  obtain ⟨hx, hb, hr, hml, hown, hts, hX, hbl, hlocks, hgv⟩ := C0
  have hown : s.vm.findClass RL = some m.cls := hown
  have hA : ∀ q : Nat, s.heap.size ≤ q → (fun q : Nat => s.heap.size ≤ q) q := fun _ h => h
  have hbA : ¬ (fun q : Nat => s.heap.size ≤ q) b := Nat.not_le.mpr hbl
  refine lv_aload_n hx hb dL_law_313 rfl (lv_at hl 3 rfl) ?_
  refine lv_aload_n hx hb dL_law_314 rfl (lv_at hl 4 rfl) ?_
  refine lv_iload hx hb dL_law_315 (lv_at hl 0 rfl) ?_
  refine lv_iconst (v := 1) hx hb dL_law_317 (by decide) ?_
  refine lv_iadd hx hb dL_law_318 ?_
  refine lv_topi (fun v_1 e_1 => ?_)
  obtain rfl : v_1 = 1 := by rw [e_1]; decide
  refine va_sld hx hb hX hbl hbA hS (by unfold vp_in; decide : vp_in 1 7) dL_law_319 ?_
  have hPc := hP.sub (ws' := [(q0, .inr (11, [.ref (gx 0), .ref (gx 1), .ref (gx 2), .ref (gx 3), .ref (gx 4), .ref (gx 5), .ref (gx 6), .ref (gx 7), .ref (gx 8), .ref (gx 9), .ref (gx 10), .ref (gx 11), .int 0])), ((gx 0), .inr (9, [.ref (gx 12), .int 0, .int 0]))]) [0, 1] rfl
  have hDc := hD.sub (ws' := [(q0, .inr (11, [.ref (gx 0), .ref (gx 1), .ref (gx 2), .ref (gx 3), .ref (gx 4), .ref (gx 5), .ref (gx 6), .ref (gx 7), .ref (gx 8), .ref (gx 9), .ref (gx 10), .ref (gx 11), .int 0])), ((gx 0), .inr (9, [.ref (gx 12), .int 0, .int 0]))]) [0, 1] (by decide) rfl
  have hKc := hK.sub (tys' := []) [] rfl
  have hFc := va_free (wc := [(q0, .inr (11, [.ref (gx 0), .ref (gx 1), .ref (gx 2), .ref (gx 3), .ref (gx 4), .ref (gx 5), .ref (gx 6), .ref (gx 7), .ref (gx 8), .ref (gx 9), .ref (gx 10), .ref (gx 11), .int 0])), ((gx 0), .inr (9, [.ref (gx 12), .int 0, .int 0]))]) hD hS hA [0, 1] rfl
  refine va_calli (va_runV (As := [.int (xs (Int32.toNatClampNeg 1))]) (rest := []) ⟨hx, hb, hml, hown, hts⟩ (c_X11_count l dC dI H.size q0 gx (xs (Int32.toNatClampNeg 1))) (cwV 1 hts ug_L_law_X11_count rfl rfl rfl (by decide +kernel) ⟨Nat.le_of_ble_eq_true rfl, Nat.le_of_ble_eq_true rfl⟩) ⟨fun a U g mk q => by obtain ⟨q0, q1, qP, qK, qD⟩ := q; exact ⟨q0, q1, qP, va_K.moved (u := U) (U := U.calling g mk a) (Vm.Alike.refl U.vm) qK, qD⟩, va_recv hKc hPc (ci := 11) (q0 := 0) rfl rfl, fun U hU hW => ⟨rfl, by rw [hU], by rw [hU]; exact hPc, va_K.moved hW.alike hKc, hDc.weaken (fun _ _ _ _ => trivial)⟩⟩ rfl rfl hl.1 rfl (lv_room (Nat.le_of_ble_eq_true rfl)) dL_law_320 ⟨Nat.le_of_ble_eq_true rfl, Nat.le_of_ble_eq_true rfl⟩) hS (fun q _ h => hFc q h) hFc (fun r_2 u t H locs ht hvm hw hB hz1 hk1 hS => ?_)
  obtain ⟨hP, hD⟩ := va_join (wr := [((gx 12), .inl (cX, 240, .inl (fun _ => 0))), ((gx 2), .inr (3, [.int 0, .int 0, .ref (gx 13), .ref (gx 14), .ref (gx 15), .ref (gx 16), .ref (gx 17), .ref (gx 18)])), (q1, .inr (12, mF gm 0 0 0 0 0)), ((gm 0), .inl (cM, 240, .inl (fun _ => 0))), (q2, .inl (cJ, 1, .inr (.inl (fun _ => 0))))]) (w1 := []) hP hD [0, 1] [2, 3, 4, 5, 6] rfl rfl (by decide) (by decide) hk1 hFc p_nil d_nil
  clear hPc hDc hFc hk1 hz1
  have hP : va_P (dC, dI) vwCl [((gx 12), .inl (cX, 240, .inl (fun _ => 0))), ((gx 2), .inr (3, [.int 0, .int 0, .ref (gx 13), .ref (gx 14), .ref (gx 15), .ref (gx 16), .ref (gx 17), .ref (gx 18)])), (q1, .inr (12, mF gm 0 0 0 0 0)), ((gm 0), .inl (cM, 240, .inl (fun _ => 0))), (q2, .inl (cJ, 1, .inr (.inl (fun _ => 0))))] H := hP
  have hD : va_D (fun q : Nat => s.heap.size ≤ q) [((gx 12), .inl (cX, 240, .inl (fun _ => 0))), ((gx 2), .inr (3, [.int 0, .int 0, .ref (gx 13), .ref (gx 14), .ref (gx 15), .ref (gx 16), .ref (gx 17), .ref (gx 18)])), (q1, .inr (12, mF gm 0 0 0 0 0)), ((gm 0), .inl (cM, 240, .inl (fun _ => 0))), (q2, .inl (cJ, 1, .inr (.inl (fun _ => 0))))] := hD
  obtain rfl : r_2 = co (xs (Int32.toNatClampNeg 1)) := hw
  refine lv_aload_n hx hb dL_law_323 rfl (lv_at hl 2 rfl) ?_
  refine lv_aload_n hx hb dL_law_324 rfl (lv_at hl 4 rfl) ?_
  refine lv_iload hx hb dL_law_325 (lv_at hl 0 rfl) ?_
  refine lv_iconst (v := 1) hx hb dL_law_327 (by decide) ?_
  refine lv_iadd hx hb dL_law_328 ?_
  refine lv_topi (fun v_4 e_4 => ?_)
  obtain rfl : v_4 = 1 := by rw [e_4]; decide
  refine va_sld hx hb hX hbl hbA hS (by unfold vp_in; decide : vp_in 1 7) dL_law_329 ?_
  have hPc := hP.sub (ws' := [(q1, .inr (12, mF gm 0 0 0 0 0))]) [2] rfl
  have hDc := hD.sub (ws' := [(q1, .inr (12, mF gm 0 0 0 0 0))]) [2] (by decide) rfl
  have hKc := hK.sub (tys' := []) [] rfl
  have hFc := va_free (wc := [(q1, .inr (12, mF gm 0 0 0 0 0))]) hD hS hA [2] rfl
  refine va_calli (va_runV (As := [.int (xs (Int32.toNatClampNeg 1))]) (rest := [.int (co (xs (Int32.toNatClampNeg 1)))]) ⟨hx, hb, hml, hown, hts⟩ (c_X12_count l dC dI H.size q1 gm (xs (Int32.toNatClampNeg 1))) (cwV 1 hts ug_L_law_X12_count rfl rfl rfl (by decide +kernel) ⟨Nat.le_of_ble_eq_true rfl, Nat.le_of_ble_eq_true rfl⟩) ⟨fun a U g mk q => by obtain ⟨q0, q1, qP, qK, qD⟩ := q; exact ⟨q0, q1, qP, va_K.moved (u := U) (U := U.calling g mk a) (Vm.Alike.refl U.vm) qK, qD⟩, va_recv hKc hPc (ci := 12) (q0 := 0) rfl rfl, fun U hU hW => ⟨rfl, by rw [hU], by rw [hU]; exact hPc, va_K.moved hW.alike hKc, hDc.weaken (fun _ _ _ _ => trivial)⟩⟩ rfl rfl hl.1 rfl (lv_room (Nat.le_of_ble_eq_true rfl)) dL_law_330 ⟨Nat.le_of_ble_eq_true rfl, Nat.le_of_ble_eq_true rfl⟩) hS (fun q _ h => hFc q h) hFc (fun r_5 u t H locs ht hvm hw hB hz1 hk1 hS => ?_)
  obtain ⟨hP, hD⟩ := va_join (wr := [((gx 12), .inl (cX, 240, .inl (fun _ => 0))), ((gx 2), .inr (3, [.int 0, .int 0, .ref (gx 13), .ref (gx 14), .ref (gx 15), .ref (gx 16), .ref (gx 17), .ref (gx 18)])), ((gm 0), .inl (cM, 240, .inl (fun _ => 0))), (q2, .inl (cJ, 1, .inr (.inl (fun _ => 0))))]) (w1 := []) hP hD [2] [0, 1, 3, 4] rfl rfl (by decide) (by decide) hk1 hFc p_nil d_nil
  clear hPc hDc hFc hk1 hz1
  have hP : va_P (dC, dI) vwCl [((gx 12), .inl (cX, 240, .inl (fun _ => 0))), ((gx 2), .inr (3, [.int 0, .int 0, .ref (gx 13), .ref (gx 14), .ref (gx 15), .ref (gx 16), .ref (gx 17), .ref (gx 18)])), ((gm 0), .inl (cM, 240, .inl (fun _ => 0))), (q2, .inl (cJ, 1, .inr (.inl (fun _ => 0))))] H := hP
  have hD : va_D (fun q : Nat => s.heap.size ≤ q) [((gx 12), .inl (cX, 240, .inl (fun _ => 0))), ((gx 2), .inr (3, [.int 0, .int 0, .ref (gx 13), .ref (gx 14), .ref (gx 15), .ref (gx 16), .ref (gx 17), .ref (gx 18)])), ((gm 0), .inl (cM, 240, .inl (fun _ => 0))), (q2, .inl (cJ, 1, .inr (.inl (fun _ => 0))))] := hD
  obtain rfl : r_5 = co (xs (Int32.toNatClampNeg 1)) := hw
  refine lv_icmp_eq (tgt := 1033) hx hb dL_law_333 (by decide) (fun c_9 => ?_) (fun c_9 => absurd rfl c_9)
  exact law_tail l hC0 hS (Nat.le_of_ble_eq_true rfl) (Nat.le_of_ble_eq_true rfl) ls (lv_sub hl [0, 4] rfl)

set_option maxHeartbeats 8000000 in
set_option maxRecDepth 100000 in
/-- the call of place 6 -/
theorem law_case_6 {p : Program} {e : Env} {s : State} {m : MethodId} {below : List Frame} {meth : Method} {c : Code} (l : Launch) {b : Nat} {xs : Nat → Int32} (C0 : lw_At p s m meth c b 7 xs) {dC : Nat → ClassId} {dI : Nat → Nat → Nat} (q0 q1 q2 : Nat) (gx gm : Nat → Nat) (cX cM cJ : ClassId) (sa1 sa2 : Nat) (hfl : l.stackTraces = false) (hE1 : xE sa1 198 "no such instruction" (fun q : Nat => s.heap.size ≤ q) s s.heap) (hE2 : xE sa2 220 "no such block" (fun q : Nat => s.heap.size ≤ q) s s.heap) {H : Heap} {locs : List Loc} (hK : va_K (dC, dI) vwCl [(cX, .byte), (cM, .byte), (cJ, .long)] s) (hP : va_P (dC, dI) vwCl [(q0, .inr (11, [.ref (gx 0), .ref (gx 1), .ref (gx 2), .ref (gx 3), .ref (gx 4), .ref (gx 5), .ref (gx 6), .ref (gx 7), .ref (gx 8), .ref (gx 9), .ref (gx 10), .ref (gx 11), .int 0])), ((gx 0), .inr (9, [.ref (gx 12), .int 0, .int 0])), ((gx 12), .inl (cX, 240, .inl (fun _ => 0))), ((gx 2), .inr (3, [.int 0, .int 0, .ref (gx 13), .ref (gx 14), .ref (gx 15), .ref (gx 16), .ref (gx 17), .ref (gx 18)])), (q1, .inr (12, mF gm 0 0 0 0 0)), ((gm 0), .inl (cM, 240, .inl (fun _ => 0))), (q2, .inl (cJ, 1, .inr (.inl (fun _ => 0))))] H) (hD : va_D (fun q : Nat => s.heap.size ≤ q) [(q0, .inr (11, [.ref (gx 0), .ref (gx 1), .ref (gx 2), .ref (gx 3), .ref (gx 4), .ref (gx 5), .ref (gx 6), .ref (gx 7), .ref (gx 8), .ref (gx 9), .ref (gx 10), .ref (gx 11), .int 0])), ((gx 0), .inr (9, [.ref (gx 12), .int 0, .int 0])), ((gx 12), .inl (cX, 240, .inl (fun _ => 0))), ((gx 2), .inr (3, [.int 0, .int 0, .ref (gx 13), .ref (gx 14), .ref (gx 15), .ref (gx 16), .ref (gx 17), .ref (gx 18)])), (q1, .inr (12, mF gm 0 0 0 0 0)), ((gm 0), .inl (cM, 240, .inl (fun _ => 0))), (q2, .inl (cJ, 1, .inr (.inl (fun _ => 0))))]) (hS : va_S (fun q : Nat => s.heap.size ≤ q) s.heap H locs) (ls : Array Slot) (hl : lv_has ls 7 [(4, .int 0), (3, .ref q2), (2, .ref q1), (1, .ref q0), (0, .ref b)]) : W p l e room_1 s m #[Value.ref b] below meth c H locs 132 55263 (lw_Z below #[Value.ref b] s) (F0 m 338 ls []) := by
  have hC0 := C0
  obtain ⟨hx, hb, hr, hml, hown, hts, hX, hbl, hlocks, hgv⟩ := C0
  have hown : s.vm.findClass RL = some m.cls := hown
  have hA : ∀ q : Nat, s.heap.size ≤ q → (fun q : Nat => s.heap.size ≤ q) q := fun _ h => h
  have hbA : ¬ (fun q : Nat => s.heap.size ≤ q) b := Nat.not_le.mpr hbl
  refine lv_aload_n hx hb dL_law_338 rfl (lv_at hl 3 rfl) ?_
  refine lv_aload_n hx hb dL_law_339 rfl (lv_at hl 4 rfl) ?_
  refine lv_iload hx hb dL_law_340 (lv_at hl 0 rfl) ?_
  refine lv_iconst (v := 1) hx hb dL_law_342 (by decide) ?_
  refine lv_iadd hx hb dL_law_343 ?_
  refine lv_topi (fun v_1 e_1 => ?_)
  obtain rfl : v_1 = 1 := by rw [e_1]; decide
  refine va_sld hx hb hX hbl hbA hS (by unfold vp_in; decide : vp_in 1 7) dL_law_344 ?_
  refine lv_aload_n hx hb dL_law_345 rfl (lv_at hl 4 rfl) ?_
  refine lv_iload hx hb dL_law_346 (lv_at hl 0 rfl) ?_
  refine lv_iconst (v := 2) hx hb dL_law_348 (by decide) ?_
  refine lv_iadd hx hb dL_law_349 ?_
  refine lv_topi (fun v_2 e_2 => ?_)
  obtain rfl : v_2 = 2 := by rw [e_2]; decide
  refine va_sld hx hb hX hbl hbA hS (by unfold vp_in; decide : vp_in 2 7) dL_law_350 ?_
  refine lv_aload_n hx hb dL_law_351 rfl (lv_at hl 1 rfl) ?_
  have hPc := hP.sub (ws' := [(q0, .inr (11, [.ref (gx 0), .ref (gx 1), .ref (gx 2), .ref (gx 3), .ref (gx 4), .ref (gx 5), .ref (gx 6), .ref (gx 7), .ref (gx 8), .ref (gx 9), .ref (gx 10), .ref (gx 11), .int 0]))]) [0] rfl
  have hDc := hD.sub (ws' := [(q0, .inr (11, [.ref (gx 0), .ref (gx 1), .ref (gx 2), .ref (gx 3), .ref (gx 4), .ref (gx 5), .ref (gx 6), .ref (gx 7), .ref (gx 8), .ref (gx 9), .ref (gx 10), .ref (gx 11), .int 0]))]) [0] (by decide) rfl
  have hKc := hK.sub (tys' := []) [] rfl
  have hFc := va_free (wc := [(q0, .inr (11, [.ref (gx 0), .ref (gx 1), .ref (gx 2), .ref (gx 3), .ref (gx 4), .ref (gx 5), .ref (gx 6), .ref (gx 7), .ref (gx 8), .ref (gx 9), .ref (gx 10), .ref (gx 11), .int 0]))]) hD hS hA [0] rfl
  refine va_calli (vx_runSW (As := [.ref q0, .int (xs (Int32.toNatClampNeg 1)), .int (xs (Int32.toNatClampNeg 2)), .ref q2]) (rest := []) ⟨hx, hb, hml, hown, hts⟩ (c_L_instruction l hfl dC dI H.size q0 q2 gx (xs (Int32.toNatClampNeg 1)) (xs (Int32.toNatClampNeg 2)) sa1) (vx_cwSW 4 hts ug_L_law_L_instruction rfl rfl rfl (by decide +kernel) ⟨Nat.le_of_ble_eq_true rfl, Nat.le_of_ble_eq_true rfl⟩) ⟨fun a U g mk q => by obtain ⟨q0, q1, qP, qK, qD, qE0⟩ := q; exact ⟨q0, q1, qP, va_K.moved (u := U) (U := U.calling g mk a) (Vm.Alike.refl U.vm) qK, qD, xE.same rfl qE0⟩, fun U hU hW => ⟨rfl, by rw [hU], by rw [hU]; exact hPc, va_K.moved hW.alike hKc, hDc.weaken (fun _ _ _ _ => trivial), by rw [hU]; exact ((hE1.kept hS.2.1).narrow (fun q h => hFc q h)).warm hW⟩⟩ rfl rfl hl.1 rfl (lv_room (Nat.le_of_ble_eq_true rfl)) dL_law_352 ⟨Nat.le_of_ble_eq_true rfl, Nat.le_of_ble_eq_true rfl⟩) hS (fun q _ h => hFc q h) hFc (fun r_3 u t H locs ht hvm hw hB hz1 hk1 hS => ?_)
  obtain ⟨hP, hD⟩ := va_join (wr := [((gx 0), .inr (9, [.ref (gx 12), .int 0, .int 0])), ((gx 12), .inl (cX, 240, .inl (fun _ => 0))), ((gx 2), .inr (3, [.int 0, .int 0, .ref (gx 13), .ref (gx 14), .ref (gx 15), .ref (gx 16), .ref (gx 17), .ref (gx 18)])), (q1, .inr (12, mF gm 0 0 0 0 0)), ((gm 0), .inl (cM, 240, .inl (fun _ => 0))), (q2, .inl (cJ, 1, .inr (.inl (fun _ => 0))))]) (w1 := []) hP hD [0] [1, 2, 3, 4, 5, 6] rfl rfl (by decide) (by decide) hk1 hFc p_nil d_nil
  clear hPc hDc hFc hk1 hz1
  have hP : va_P (dC, dI) vwCl [((gx 0), .inr (9, [.ref (gx 12), .int 0, .int 0])), ((gx 12), .inl (cX, 240, .inl (fun _ => 0))), ((gx 2), .inr (3, [.int 0, .int 0, .ref (gx 13), .ref (gx 14), .ref (gx 15), .ref (gx 16), .ref (gx 17), .ref (gx 18)])), (q1, .inr (12, mF gm 0 0 0 0 0)), ((gm 0), .inl (cM, 240, .inl (fun _ => 0))), (q2, .inl (cJ, 1, .inr (.inl (fun _ => 0))))] H := hP
  have hD : va_D (fun q : Nat => s.heap.size ≤ q) [((gx 0), .inr (9, [.ref (gx 12), .int 0, .int 0])), ((gx 12), .inl (cX, 240, .inl (fun _ => 0))), ((gx 2), .inr (3, [.int 0, .int 0, .ref (gx 13), .ref (gx 14), .ref (gx 15), .ref (gx 16), .ref (gx 17), .ref (gx 18)])), (q1, .inr (12, mF gm 0 0 0 0 0)), ((gm 0), .inl (cM, 240, .inl (fun _ => 0))), (q2, .inl (cJ, 1, .inr (.inl (fun _ => 0))))] := hD
  refine W.widen (k := 133) (n := 55269) (Nat.le_of_ble_eq_true rfl) (Nat.le_of_ble_eq_true rfl) ?_
  obtain rfl : r_3 = 1 := hw
  refine lv_istore (lv' := [(5, .int 1), (4, .int 0), (3, .ref q2), (2, .ref q1), (1, .ref q0), (0, .ref b)]) hx hb dL_law_355 hl (by decide) rfl (fun ls hl => ?_)
  refine lv_aload_n hx hb dL_law_357 rfl (lv_at hl 3 rfl) ?_
  refine lv_aload_n hx hb dL_law_358 rfl (lv_at hl 5 rfl) ?_
  refine lv_iload hx hb dL_law_359 (lv_at hl 1 rfl) ?_
  refine lv_iconst (v := 1) hx hb dL_law_361 (by decide) ?_
  refine lv_iadd hx hb dL_law_362 ?_
  refine lv_topi (fun v_5 e_5 => ?_)
  obtain rfl : v_5 = 1 := by rw [e_5]; decide
  refine va_sld hx hb hX hbl hbA hS (by unfold vp_in; decide : vp_in 1 7) dL_law_363 ?_
  refine lv_aload_n hx hb dL_law_364 rfl (lv_at hl 5 rfl) ?_
  refine lv_iload hx hb dL_law_365 (lv_at hl 1 rfl) ?_
  refine lv_iconst (v := 2) hx hb dL_law_367 (by decide) ?_
  refine lv_iadd hx hb dL_law_368 ?_
  refine lv_topi (fun v_6 e_6 => ?_)
  obtain rfl : v_6 = 2 := by rw [e_6]; decide
  refine va_sld hx hb hX hbl hbA hS (by unfold vp_in; decide : vp_in 2 7) dL_law_369 ?_
  have hPc := hP.sub (ws' := [(q1, .inr (12, mF gm 0 0 0 0 0))]) [3] rfl
  have hDc := hD.sub (ws' := [(q1, .inr (12, mF gm 0 0 0 0 0))]) [3] (by decide) rfl
  have hKc := hK.sub (tys' := []) [] rfl
  have hFc := va_free (wc := [(q1, .inr (12, mF gm 0 0 0 0 0))]) hD hS hA [3] rfl
  refine va_calli (va_runV (As := [.int (xs (Int32.toNatClampNeg 1)), .int (xs (Int32.toNatClampNeg 2))]) (rest := []) ⟨hx, hb, hml, hown, hts⟩ (c_X12_instruction_ l dC dI H.size q1 gm (xs (Int32.toNatClampNeg 1)) (xs (Int32.toNatClampNeg 2))) (cwV 2 hts ug_L_law_X12_instruction_ rfl rfl rfl (by decide +kernel) ⟨Nat.le_of_ble_eq_true rfl, Nat.le_of_ble_eq_true rfl⟩) ⟨fun a U g mk q => by obtain ⟨q0, q1, qP, qK, qD⟩ := q; exact ⟨q0, q1, qP, va_K.moved (u := U) (U := U.calling g mk a) (Vm.Alike.refl U.vm) qK, qD⟩, va_recv hKc hPc (ci := 12) (q0 := 0) rfl rfl, fun U hU hW => ⟨rfl, by rw [hU], by rw [hU]; exact hPc, va_K.moved hW.alike hKc, hDc.weaken (fun _ _ _ _ => trivial)⟩⟩ rfl rfl hl.1 rfl (lv_room (Nat.le_of_ble_eq_true rfl)) dL_law_370 ⟨Nat.le_of_ble_eq_true rfl, Nat.le_of_ble_eq_true rfl⟩) hS (fun q _ h => hFc q h) hFc (fun r_7 u t H locs ht hvm hw hB hz1 hk1 hS => ?_)
  obtain ⟨hP1, hD1⟩ := hB
  rw [ht] at hP1
  obtain ⟨hP, hD⟩ := va_join (wr := [((gx 0), .inr (9, [.ref (gx 12), .int 0, .int 0])), ((gx 12), .inl (cX, 240, .inl (fun _ => 0))), ((gx 2), .inr (3, [.int 0, .int 0, .ref (gx 13), .ref (gx 14), .ref (gx 15), .ref (gx 16), .ref (gx 17), .ref (gx 18)])), ((gm 0), .inl (cM, 240, .inl (fun _ => 0))), (q2, .inl (cJ, 1, .inr (.inl (fun _ => 0))))]) (w1 := [(q1, .inr (12, mF gm 1 0 0 0 0))]) hP hD [3] [0, 1, 2, 4, 5] rfl rfl (by decide) (by decide) hk1 hFc hP1 hD1
  clear hPc hDc hFc hk1 hz1
  have hP : va_P (dC, dI) vwCl [((gx 0), .inr (9, [.ref (gx 12), .int 0, .int 0])), ((gx 12), .inl (cX, 240, .inl (fun _ => 0))), ((gx 2), .inr (3, [.int 0, .int 0, .ref (gx 13), .ref (gx 14), .ref (gx 15), .ref (gx 16), .ref (gx 17), .ref (gx 18)])), ((gm 0), .inl (cM, 240, .inl (fun _ => 0))), (q2, .inl (cJ, 1, .inr (.inl (fun _ => 0)))), (q1, .inr (12, mF gm 1 0 0 0 0))] H := hP
  have hD : va_D (fun q : Nat => s.heap.size ≤ q) [((gx 0), .inr (9, [.ref (gx 12), .int 0, .int 0])), ((gx 12), .inl (cX, 240, .inl (fun _ => 0))), ((gx 2), .inr (3, [.int 0, .int 0, .ref (gx 13), .ref (gx 14), .ref (gx 15), .ref (gx 16), .ref (gx 17), .ref (gx 18)])), ((gm 0), .inl (cM, 240, .inl (fun _ => 0))), (q2, .inl (cJ, 1, .inr (.inl (fun _ => 0)))), (q1, .inr (12, mF gm 1 0 0 0 0))] := hD
  refine lv_istore (lv' := [(6, .int r_7), (5, .int 1), (4, .int 0), (3, .ref q2), (2, .ref q1), (1, .ref q0), (0, .ref b)]) hx hb dL_law_373 hl (by decide) rfl (fun ls hl => ?_)
  refine lv_aload_n hx hb dL_law_375 rfl (lv_at hl 4 rfl) ?_
  have hPc := hP.sub (ws' := [(q1, .inr (12, mF gm 1 0 0 0 0))]) [5] rfl
  have hDc := hD.sub (ws' := [(q1, .inr (12, mF gm 1 0 0 0 0))]) [5] (by decide) rfl
  have hKc := hK.sub (tys' := []) [] rfl
  have hFc := va_free (wc := [(q1, .inr (12, mF gm 1 0 0 0 0))]) hD hS hA [5] rfl
  refine va_calli (va_runV (As := []) (rest := []) ⟨hx, hb, hml, hown, hts⟩ (c_X12_thrown l dC dI H.size q1 gm ) (cwV 0 hts ug_L_law_X12_thrown rfl rfl rfl (by decide +kernel) ⟨Nat.le_of_ble_eq_true rfl, Nat.le_of_ble_eq_true rfl⟩) ⟨fun a U g mk q => by obtain ⟨q0, q1, qP, qK, qD⟩ := q; exact ⟨q0, q1, qP, va_K.moved (u := U) (U := U.calling g mk a) (Vm.Alike.refl U.vm) qK, qD⟩, va_recv hKc hPc (ci := 12) (q0 := 0) rfl rfl, fun U hU hW => ⟨rfl, by rw [hU], by rw [hU]; exact hPc, va_K.moved hW.alike hKc, hDc.weaken (fun _ _ _ _ => trivial)⟩⟩ rfl rfl hl.1 rfl (lv_room (Nat.le_of_ble_eq_true rfl)) dL_law_376 ⟨Nat.le_of_ble_eq_true rfl, Nat.le_of_ble_eq_true rfl⟩) hS (fun q _ h => hFc q h) hFc (fun r_8 u t H locs ht hvm hw hB hz1 hk1 hS => ?_)
  obtain ⟨hP, hD⟩ := va_join (wr := [((gx 0), .inr (9, [.ref (gx 12), .int 0, .int 0])), ((gx 12), .inl (cX, 240, .inl (fun _ => 0))), ((gx 2), .inr (3, [.int 0, .int 0, .ref (gx 13), .ref (gx 14), .ref (gx 15), .ref (gx 16), .ref (gx 17), .ref (gx 18)])), ((gm 0), .inl (cM, 240, .inl (fun _ => 0))), (q2, .inl (cJ, 1, .inr (.inl (fun _ => 0))))]) (w1 := []) hP hD [5] [0, 1, 2, 3, 4] rfl rfl (by decide) (by decide) hk1 hFc p_nil d_nil
  clear hPc hDc hFc hk1 hz1
  have hP : va_P (dC, dI) vwCl [((gx 0), .inr (9, [.ref (gx 12), .int 0, .int 0])), ((gx 12), .inl (cX, 240, .inl (fun _ => 0))), ((gx 2), .inr (3, [.int 0, .int 0, .ref (gx 13), .ref (gx 14), .ref (gx 15), .ref (gx 16), .ref (gx 17), .ref (gx 18)])), ((gm 0), .inl (cM, 240, .inl (fun _ => 0))), (q2, .inl (cJ, 1, .inr (.inl (fun _ => 0))))] H := hP
  have hD : va_D (fun q : Nat => s.heap.size ≤ q) [((gx 0), .inr (9, [.ref (gx 12), .int 0, .int 0])), ((gx 12), .inl (cX, 240, .inl (fun _ => 0))), ((gx 2), .inr (3, [.int 0, .int 0, .ref (gx 13), .ref (gx 14), .ref (gx 15), .ref (gx 16), .ref (gx 17), .ref (gx 18)])), ((gm 0), .inl (cM, 240, .inl (fun _ => 0))), (q2, .inl (cJ, 1, .inr (.inl (fun _ => 0))))] := hD
  obtain rfl : r_8 = 1 := hw
  refine lv_iload hx hb dL_law_379 (lv_at hl 1 rfl) ?_
  refine lv_icmp_eq (tgt := 386) hx hb dL_law_381 (by decide) (fun c_10 => ?_) (fun c_10 => absurd (by decide) c_10)
  refine lv_iload hx hb dL_law_386 (lv_at hl 1 rfl) ?_
  refine lv_if_ne (tgt := 403) hx hb dL_law_388 (by decide) (fun c_11 => ?_) (fun c_11 => absurd c_11 (by decide))
  refine lv_goto (tgt := 1033) hx hb dL_law_403 (by decide) ?_
  exact law_tail l hC0 hS (Nat.le_of_ble_eq_true rfl) (Nat.le_of_ble_eq_true rfl) ls (lv_sub hl [2, 6] rfl)

set_option maxHeartbeats 8000000 in
set_option maxRecDepth 100000 in
/-- the call of place 7 -/
theorem law_case_7 {p : Program} {e : Env} {s : State} {m : MethodId} {below : List Frame} {meth : Method} {c : Code} (l : Launch) {b : Nat} {xs : Nat → Int32} (C0 : lw_At p s m meth c b 7 xs) {dC : Nat → ClassId} {dI : Nat → Nat → Nat} (q0 q1 q2 : Nat) (gx gm : Nat → Nat) (cX cM cJ : ClassId) (sa1 sa2 : Nat) (hfl : l.stackTraces = false) (hE1 : xE sa1 198 "no such instruction" (fun q : Nat => s.heap.size ≤ q) s s.heap) (hE2 : xE sa2 220 "no such block" (fun q : Nat => s.heap.size ≤ q) s s.heap) {H : Heap} {locs : List Loc} (hK : va_K (dC, dI) vwCl [(cX, .byte), (cM, .byte), (cJ, .long)] s) (hP : va_P (dC, dI) vwCl [(q0, .inr (11, [.ref (gx 0), .ref (gx 1), .ref (gx 2), .ref (gx 3), .ref (gx 4), .ref (gx 5), .ref (gx 6), .ref (gx 7), .ref (gx 8), .ref (gx 9), .ref (gx 10), .ref (gx 11), .int 0])), ((gx 0), .inr (9, [.ref (gx 12), .int 0, .int 0])), ((gx 12), .inl (cX, 240, .inl (fun _ => 0))), ((gx 2), .inr (3, [.int 0, .int 0, .ref (gx 13), .ref (gx 14), .ref (gx 15), .ref (gx 16), .ref (gx 17), .ref (gx 18)])), (q1, .inr (12, mF gm 0 0 0 0 0)), ((gm 0), .inl (cM, 240, .inl (fun _ => 0))), (q2, .inl (cJ, 1, .inr (.inl (fun _ => 0))))] H) (hD : va_D (fun q : Nat => s.heap.size ≤ q) [(q0, .inr (11, [.ref (gx 0), .ref (gx 1), .ref (gx 2), .ref (gx 3), .ref (gx 4), .ref (gx 5), .ref (gx 6), .ref (gx 7), .ref (gx 8), .ref (gx 9), .ref (gx 10), .ref (gx 11), .int 0])), ((gx 0), .inr (9, [.ref (gx 12), .int 0, .int 0])), ((gx 12), .inl (cX, 240, .inl (fun _ => 0))), ((gx 2), .inr (3, [.int 0, .int 0, .ref (gx 13), .ref (gx 14), .ref (gx 15), .ref (gx 16), .ref (gx 17), .ref (gx 18)])), (q1, .inr (12, mF gm 0 0 0 0 0)), ((gm 0), .inl (cM, 240, .inl (fun _ => 0))), (q2, .inl (cJ, 1, .inr (.inl (fun _ => 0))))]) (hS : va_S (fun q : Nat => s.heap.size ≤ q) s.heap H locs) (ls : Array Slot) (hl : lv_has ls 7 [(4, .int 0), (3, .ref q2), (2, .ref q1), (1, .ref q0), (0, .ref b)]) : W p l e room_1 s m #[Value.ref b] below meth c H locs 132 55263 (lw_Z below #[Value.ref b] s) (F0 m 406 ls []) := by
  have hC0 := C0
  obtain ⟨hx, hb, hr, hml, hown, hts, hX, hbl, hlocks, hgv⟩ := C0
  have hown : s.vm.findClass RL = some m.cls := hown
  have hA : ∀ q : Nat, s.heap.size ≤ q → (fun q : Nat => s.heap.size ≤ q) q := fun _ h => h
  have hbA : ¬ (fun q : Nat => s.heap.size ≤ q) b := Nat.not_le.mpr hbl
  refine lv_aload_n hx hb dL_law_406 rfl (lv_at hl 3 rfl) ?_
  refine lv_aload_n hx hb dL_law_407 rfl (lv_at hl 4 rfl) ?_
  refine lv_iload hx hb dL_law_408 (lv_at hl 0 rfl) ?_
  refine lv_iconst (v := 1) hx hb dL_law_410 (by decide) ?_
  refine lv_iadd hx hb dL_law_411 ?_
  refine lv_topi (fun v_1 e_1 => ?_)
  obtain rfl : v_1 = 1 := by rw [e_1]; decide
  refine va_sld hx hb hX hbl hbA hS (by unfold vp_in; decide : vp_in 1 7) dL_law_412 ?_
  refine lv_aload_n hx hb dL_law_413 rfl (lv_at hl 4 rfl) ?_
  refine lv_iload hx hb dL_law_414 (lv_at hl 0 rfl) ?_
  refine lv_iconst (v := 2) hx hb dL_law_416 (by decide) ?_
  refine lv_iadd hx hb dL_law_417 ?_
  refine lv_topi (fun v_2 e_2 => ?_)
  obtain rfl : v_2 = 2 := by rw [e_2]; decide
  refine va_sld hx hb hX hbl hbA hS (by unfold vp_in; decide : vp_in 2 7) dL_law_418 ?_
  refine lv_aload_n hx hb dL_law_419 rfl (lv_at hl 1 rfl) ?_
  have hPc := hP.sub (ws' := [(q0, .inr (11, [.ref (gx 0), .ref (gx 1), .ref (gx 2), .ref (gx 3), .ref (gx 4), .ref (gx 5), .ref (gx 6), .ref (gx 7), .ref (gx 8), .ref (gx 9), .ref (gx 10), .ref (gx 11), .int 0]))]) [0] rfl
  have hDc := hD.sub (ws' := [(q0, .inr (11, [.ref (gx 0), .ref (gx 1), .ref (gx 2), .ref (gx 3), .ref (gx 4), .ref (gx 5), .ref (gx 6), .ref (gx 7), .ref (gx 8), .ref (gx 9), .ref (gx 10), .ref (gx 11), .int 0]))]) [0] (by decide) rfl
  have hKc := hK.sub (tys' := []) [] rfl
  have hFc := va_free (wc := [(q0, .inr (11, [.ref (gx 0), .ref (gx 1), .ref (gx 2), .ref (gx 3), .ref (gx 4), .ref (gx 5), .ref (gx 6), .ref (gx 7), .ref (gx 8), .ref (gx 9), .ref (gx 10), .ref (gx 11), .int 0]))]) hD hS hA [0] rfl
  refine va_calli (vx_runSW (As := [.ref q0, .int (xs (Int32.toNatClampNeg 1)), .int (xs (Int32.toNatClampNeg 2)), .ref q2]) (rest := []) ⟨hx, hb, hml, hown, hts⟩ (c_L_block l hfl dC dI H.size q0 q2 gx (xs (Int32.toNatClampNeg 1)) (xs (Int32.toNatClampNeg 2)) sa2) (vx_cwSW 4 hts ug_L_law_L_block rfl rfl rfl (by decide +kernel) ⟨Nat.le_of_ble_eq_true rfl, Nat.le_of_ble_eq_true rfl⟩) ⟨fun a U g mk q => by obtain ⟨q0, q1, qP, qK, qD, qE0⟩ := q; exact ⟨q0, q1, qP, va_K.moved (u := U) (U := U.calling g mk a) (Vm.Alike.refl U.vm) qK, qD, xE.same rfl qE0⟩, fun U hU hW => ⟨rfl, by rw [hU], by rw [hU]; exact hPc, va_K.moved hW.alike hKc, hDc.weaken (fun _ _ _ _ => trivial), by rw [hU]; exact ((hE2.kept hS.2.1).narrow (fun q h => hFc q h)).warm hW⟩⟩ rfl rfl hl.1 rfl (lv_room (Nat.le_of_ble_eq_true rfl)) dL_law_420 ⟨Nat.le_of_ble_eq_true rfl, Nat.le_of_ble_eq_true rfl⟩) hS (fun q _ h => hFc q h) hFc (fun r_3 u t H locs ht hvm hw hB hz1 hk1 hS => ?_)
  obtain ⟨hP, hD⟩ := va_join (wr := [((gx 0), .inr (9, [.ref (gx 12), .int 0, .int 0])), ((gx 12), .inl (cX, 240, .inl (fun _ => 0))), ((gx 2), .inr (3, [.int 0, .int 0, .ref (gx 13), .ref (gx 14), .ref (gx 15), .ref (gx 16), .ref (gx 17), .ref (gx 18)])), (q1, .inr (12, mF gm 0 0 0 0 0)), ((gm 0), .inl (cM, 240, .inl (fun _ => 0))), (q2, .inl (cJ, 1, .inr (.inl (fun _ => 0))))]) (w1 := []) hP hD [0] [1, 2, 3, 4, 5, 6] rfl rfl (by decide) (by decide) hk1 hFc p_nil d_nil
  clear hPc hDc hFc hk1 hz1
  have hP : va_P (dC, dI) vwCl [((gx 0), .inr (9, [.ref (gx 12), .int 0, .int 0])), ((gx 12), .inl (cX, 240, .inl (fun _ => 0))), ((gx 2), .inr (3, [.int 0, .int 0, .ref (gx 13), .ref (gx 14), .ref (gx 15), .ref (gx 16), .ref (gx 17), .ref (gx 18)])), (q1, .inr (12, mF gm 0 0 0 0 0)), ((gm 0), .inl (cM, 240, .inl (fun _ => 0))), (q2, .inl (cJ, 1, .inr (.inl (fun _ => 0))))] H := hP
  have hD : va_D (fun q : Nat => s.heap.size ≤ q) [((gx 0), .inr (9, [.ref (gx 12), .int 0, .int 0])), ((gx 12), .inl (cX, 240, .inl (fun _ => 0))), ((gx 2), .inr (3, [.int 0, .int 0, .ref (gx 13), .ref (gx 14), .ref (gx 15), .ref (gx 16), .ref (gx 17), .ref (gx 18)])), (q1, .inr (12, mF gm 0 0 0 0 0)), ((gm 0), .inl (cM, 240, .inl (fun _ => 0))), (q2, .inl (cJ, 1, .inr (.inl (fun _ => 0))))] := hD
  refine W.widen (k := 133) (n := 55269) (Nat.le_of_ble_eq_true rfl) (Nat.le_of_ble_eq_true rfl) ?_
  obtain rfl : r_3 = 1 := hw
  refine lv_istore (lv' := [(5, .int 1), (4, .int 0), (3, .ref q2), (2, .ref q1), (1, .ref q0), (0, .ref b)]) hx hb dL_law_423 hl (by decide) rfl (fun ls hl => ?_)
  refine lv_aload_n hx hb dL_law_425 rfl (lv_at hl 3 rfl) ?_
  refine lv_aload_n hx hb dL_law_426 rfl (lv_at hl 5 rfl) ?_
  refine lv_iload hx hb dL_law_427 (lv_at hl 1 rfl) ?_
  refine lv_iconst (v := 1) hx hb dL_law_429 (by decide) ?_
  refine lv_iadd hx hb dL_law_430 ?_
  refine lv_topi (fun v_5 e_5 => ?_)
  obtain rfl : v_5 = 1 := by rw [e_5]; decide
  refine va_sld hx hb hX hbl hbA hS (by unfold vp_in; decide : vp_in 1 7) dL_law_431 ?_
  refine lv_aload_n hx hb dL_law_432 rfl (lv_at hl 5 rfl) ?_
  refine lv_iload hx hb dL_law_433 (lv_at hl 1 rfl) ?_
  refine lv_iconst (v := 2) hx hb dL_law_435 (by decide) ?_
  refine lv_iadd hx hb dL_law_436 ?_
  refine lv_topi (fun v_6 e_6 => ?_)
  obtain rfl : v_6 = 2 := by rw [e_6]; decide
  refine va_sld hx hb hX hbl hbA hS (by unfold vp_in; decide : vp_in 2 7) dL_law_437 ?_
  have hPc := hP.sub (ws' := [(q1, .inr (12, mF gm 0 0 0 0 0))]) [3] rfl
  have hDc := hD.sub (ws' := [(q1, .inr (12, mF gm 0 0 0 0 0))]) [3] (by decide) rfl
  have hKc := hK.sub (tys' := []) [] rfl
  have hFc := va_free (wc := [(q1, .inr (12, mF gm 0 0 0 0 0))]) hD hS hA [3] rfl
  refine va_calli (va_runV (As := [.int (xs (Int32.toNatClampNeg 1)), .int (xs (Int32.toNatClampNeg 2))]) (rest := []) ⟨hx, hb, hml, hown, hts⟩ (c_X12_block l dC dI H.size q1 gm (xs (Int32.toNatClampNeg 1)) (xs (Int32.toNatClampNeg 2))) (cwV 2 hts ug_L_law_X12_block rfl rfl rfl (by decide +kernel) ⟨Nat.le_of_ble_eq_true rfl, Nat.le_of_ble_eq_true rfl⟩) ⟨fun a U g mk q => by obtain ⟨q0, q1, qP, qK, qD⟩ := q; exact ⟨q0, q1, qP, va_K.moved (u := U) (U := U.calling g mk a) (Vm.Alike.refl U.vm) qK, qD⟩, va_recv hKc hPc (ci := 12) (q0 := 0) rfl rfl, fun U hU hW => ⟨rfl, by rw [hU], by rw [hU]; exact hPc, va_K.moved hW.alike hKc, hDc.weaken (fun _ _ _ _ => trivial)⟩⟩ rfl rfl hl.1 rfl (lv_room (Nat.le_of_ble_eq_true rfl)) dL_law_438 ⟨Nat.le_of_ble_eq_true rfl, Nat.le_of_ble_eq_true rfl⟩) hS (fun q _ h => hFc q h) hFc (fun r_7 u t H locs ht hvm hw hB hz1 hk1 hS => ?_)
  obtain ⟨hP1, hD1⟩ := hB
  rw [ht] at hP1
  obtain ⟨hP, hD⟩ := va_join (wr := [((gx 0), .inr (9, [.ref (gx 12), .int 0, .int 0])), ((gx 12), .inl (cX, 240, .inl (fun _ => 0))), ((gx 2), .inr (3, [.int 0, .int 0, .ref (gx 13), .ref (gx 14), .ref (gx 15), .ref (gx 16), .ref (gx 17), .ref (gx 18)])), ((gm 0), .inl (cM, 240, .inl (fun _ => 0))), (q2, .inl (cJ, 1, .inr (.inl (fun _ => 0))))]) (w1 := [(q1, .inr (12, mF gm 1 0 0 0 0))]) hP hD [3] [0, 1, 2, 4, 5] rfl rfl (by decide) (by decide) hk1 hFc hP1 hD1
  clear hPc hDc hFc hk1 hz1
  have hP : va_P (dC, dI) vwCl [((gx 0), .inr (9, [.ref (gx 12), .int 0, .int 0])), ((gx 12), .inl (cX, 240, .inl (fun _ => 0))), ((gx 2), .inr (3, [.int 0, .int 0, .ref (gx 13), .ref (gx 14), .ref (gx 15), .ref (gx 16), .ref (gx 17), .ref (gx 18)])), ((gm 0), .inl (cM, 240, .inl (fun _ => 0))), (q2, .inl (cJ, 1, .inr (.inl (fun _ => 0)))), (q1, .inr (12, mF gm 1 0 0 0 0))] H := hP
  have hD : va_D (fun q : Nat => s.heap.size ≤ q) [((gx 0), .inr (9, [.ref (gx 12), .int 0, .int 0])), ((gx 12), .inl (cX, 240, .inl (fun _ => 0))), ((gx 2), .inr (3, [.int 0, .int 0, .ref (gx 13), .ref (gx 14), .ref (gx 15), .ref (gx 16), .ref (gx 17), .ref (gx 18)])), ((gm 0), .inl (cM, 240, .inl (fun _ => 0))), (q2, .inl (cJ, 1, .inr (.inl (fun _ => 0)))), (q1, .inr (12, mF gm 1 0 0 0 0))] := hD
  refine lv_istore (lv' := [(6, .int r_7), (5, .int 1), (4, .int 0), (3, .ref q2), (2, .ref q1), (1, .ref q0), (0, .ref b)]) hx hb dL_law_441 hl (by decide) rfl (fun ls hl => ?_)
  refine lv_aload_n hx hb dL_law_443 rfl (lv_at hl 4 rfl) ?_
  have hPc := hP.sub (ws' := [(q1, .inr (12, mF gm 1 0 0 0 0))]) [5] rfl
  have hDc := hD.sub (ws' := [(q1, .inr (12, mF gm 1 0 0 0 0))]) [5] (by decide) rfl
  have hKc := hK.sub (tys' := []) [] rfl
  have hFc := va_free (wc := [(q1, .inr (12, mF gm 1 0 0 0 0))]) hD hS hA [5] rfl
  refine va_calli (va_runV (As := []) (rest := []) ⟨hx, hb, hml, hown, hts⟩ (c_X12_thrown l dC dI H.size q1 gm ) (cwV 0 hts ug_L_law_X12_thrown rfl rfl rfl (by decide +kernel) ⟨Nat.le_of_ble_eq_true rfl, Nat.le_of_ble_eq_true rfl⟩) ⟨fun a U g mk q => by obtain ⟨q0, q1, qP, qK, qD⟩ := q; exact ⟨q0, q1, qP, va_K.moved (u := U) (U := U.calling g mk a) (Vm.Alike.refl U.vm) qK, qD⟩, va_recv hKc hPc (ci := 12) (q0 := 0) rfl rfl, fun U hU hW => ⟨rfl, by rw [hU], by rw [hU]; exact hPc, va_K.moved hW.alike hKc, hDc.weaken (fun _ _ _ _ => trivial)⟩⟩ rfl rfl hl.1 rfl (lv_room (Nat.le_of_ble_eq_true rfl)) dL_law_444 ⟨Nat.le_of_ble_eq_true rfl, Nat.le_of_ble_eq_true rfl⟩) hS (fun q _ h => hFc q h) hFc (fun r_8 u t H locs ht hvm hw hB hz1 hk1 hS => ?_)
  obtain ⟨hP, hD⟩ := va_join (wr := [((gx 0), .inr (9, [.ref (gx 12), .int 0, .int 0])), ((gx 12), .inl (cX, 240, .inl (fun _ => 0))), ((gx 2), .inr (3, [.int 0, .int 0, .ref (gx 13), .ref (gx 14), .ref (gx 15), .ref (gx 16), .ref (gx 17), .ref (gx 18)])), ((gm 0), .inl (cM, 240, .inl (fun _ => 0))), (q2, .inl (cJ, 1, .inr (.inl (fun _ => 0))))]) (w1 := []) hP hD [5] [0, 1, 2, 3, 4] rfl rfl (by decide) (by decide) hk1 hFc p_nil d_nil
  clear hPc hDc hFc hk1 hz1
  have hP : va_P (dC, dI) vwCl [((gx 0), .inr (9, [.ref (gx 12), .int 0, .int 0])), ((gx 12), .inl (cX, 240, .inl (fun _ => 0))), ((gx 2), .inr (3, [.int 0, .int 0, .ref (gx 13), .ref (gx 14), .ref (gx 15), .ref (gx 16), .ref (gx 17), .ref (gx 18)])), ((gm 0), .inl (cM, 240, .inl (fun _ => 0))), (q2, .inl (cJ, 1, .inr (.inl (fun _ => 0))))] H := hP
  have hD : va_D (fun q : Nat => s.heap.size ≤ q) [((gx 0), .inr (9, [.ref (gx 12), .int 0, .int 0])), ((gx 12), .inl (cX, 240, .inl (fun _ => 0))), ((gx 2), .inr (3, [.int 0, .int 0, .ref (gx 13), .ref (gx 14), .ref (gx 15), .ref (gx 16), .ref (gx 17), .ref (gx 18)])), ((gm 0), .inl (cM, 240, .inl (fun _ => 0))), (q2, .inl (cJ, 1, .inr (.inl (fun _ => 0))))] := hD
  obtain rfl : r_8 = 1 := hw
  refine lv_iload hx hb dL_law_447 (lv_at hl 1 rfl) ?_
  refine lv_icmp_eq (tgt := 454) hx hb dL_law_449 (by decide) (fun c_10 => ?_) (fun c_10 => absurd (by decide) c_10)
  refine lv_iload hx hb dL_law_454 (lv_at hl 1 rfl) ?_
  refine lv_if_ne (tgt := 471) hx hb dL_law_456 (by decide) (fun c_11 => ?_) (fun c_11 => absurd c_11 (by decide))
  refine lv_goto (tgt := 1033) hx hb dL_law_471 (by decide) ?_
  exact law_tail l hC0 hS (Nat.le_of_ble_eq_true rfl) (Nat.le_of_ble_eq_true rfl) ls (lv_sub hl [2, 6] rfl)

set_option maxHeartbeats 8000000 in
set_option maxRecDepth 100000 in
/-- the call of place 8 -/
theorem law_case_8 {p : Program} {e : Env} {s : State} {m : MethodId} {below : List Frame} {meth : Method} {c : Code} (l : Launch) {b : Nat} {xs : Nat → Int32} (C0 : lw_At p s m meth c b 7 xs) {dC : Nat → ClassId} {dI : Nat → Nat → Nat} (q0 q1 q2 : Nat) (gx gm : Nat → Nat) (cX cM cJ : ClassId) (sa1 sa2 : Nat) (hfl : l.stackTraces = false) (hE1 : xE sa1 198 "no such instruction" (fun q : Nat => s.heap.size ≤ q) s s.heap) (hE2 : xE sa2 220 "no such block" (fun q : Nat => s.heap.size ≤ q) s s.heap) {H : Heap} {locs : List Loc} (hK : va_K (dC, dI) vwCl [(cX, .byte), (cM, .byte), (cJ, .long)] s) (hP : va_P (dC, dI) vwCl [(q0, .inr (11, [.ref (gx 0), .ref (gx 1), .ref (gx 2), .ref (gx 3), .ref (gx 4), .ref (gx 5), .ref (gx 6), .ref (gx 7), .ref (gx 8), .ref (gx 9), .ref (gx 10), .ref (gx 11), .int 0])), ((gx 0), .inr (9, [.ref (gx 12), .int 0, .int 0])), ((gx 12), .inl (cX, 240, .inl (fun _ => 0))), ((gx 2), .inr (3, [.int 0, .int 0, .ref (gx 13), .ref (gx 14), .ref (gx 15), .ref (gx 16), .ref (gx 17), .ref (gx 18)])), (q1, .inr (12, mF gm 0 0 0 0 0)), ((gm 0), .inl (cM, 240, .inl (fun _ => 0))), (q2, .inl (cJ, 1, .inr (.inl (fun _ => 0))))] H) (hD : va_D (fun q : Nat => s.heap.size ≤ q) [(q0, .inr (11, [.ref (gx 0), .ref (gx 1), .ref (gx 2), .ref (gx 3), .ref (gx 4), .ref (gx 5), .ref (gx 6), .ref (gx 7), .ref (gx 8), .ref (gx 9), .ref (gx 10), .ref (gx 11), .int 0])), ((gx 0), .inr (9, [.ref (gx 12), .int 0, .int 0])), ((gx 12), .inl (cX, 240, .inl (fun _ => 0))), ((gx 2), .inr (3, [.int 0, .int 0, .ref (gx 13), .ref (gx 14), .ref (gx 15), .ref (gx 16), .ref (gx 17), .ref (gx 18)])), (q1, .inr (12, mF gm 0 0 0 0 0)), ((gm 0), .inl (cM, 240, .inl (fun _ => 0))), (q2, .inl (cJ, 1, .inr (.inl (fun _ => 0))))]) (hS : va_S (fun q : Nat => s.heap.size ≤ q) s.heap H locs) (ls : Array Slot) (hl : lv_has ls 7 [(4, .int 0), (3, .ref q2), (2, .ref q1), (1, .ref q0), (0, .ref b)]) : W p l e room_1 s m #[Value.ref b] below meth c H locs 132 55263 (lw_Z below #[Value.ref b] s) (F0 m 474 ls []) := by
  have hC0 := C0
  obtain ⟨hx, hb, hr, hml, hown, hts, hX, hbl, hlocks, hgv⟩ := C0
  have hown : s.vm.findClass RL = some m.cls := hown
  have hA : ∀ q : Nat, s.heap.size ≤ q → (fun q : Nat => s.heap.size ≤ q) q := fun _ h => h
  have hbA : ¬ (fun q : Nat => s.heap.size ≤ q) b := Nat.not_le.mpr hbl
  refine lv_aload_n hx hb dL_law_474 rfl (lv_at hl 3 rfl) ?_
  refine lv_aload_n hx hb dL_law_475 rfl (lv_at hl 4 rfl) ?_
  refine lv_iload hx hb dL_law_476 (lv_at hl 0 rfl) ?_
  refine lv_iconst (v := 1) hx hb dL_law_478 (by decide) ?_
  refine lv_iadd hx hb dL_law_479 ?_
  refine lv_topi (fun v_1 e_1 => ?_)
  obtain rfl : v_1 = 1 := by rw [e_1]; decide
  refine va_sld hx hb hX hbl hbA hS (by unfold vp_in; decide : vp_in 1 7) dL_law_480 ?_
  refine lv_aload_n hx hb dL_law_481 rfl (lv_at hl 4 rfl) ?_
  refine lv_iload hx hb dL_law_482 (lv_at hl 0 rfl) ?_
  refine lv_iconst (v := 2) hx hb dL_law_484 (by decide) ?_
  refine lv_iadd hx hb dL_law_485 ?_
  refine lv_topi (fun v_2 e_2 => ?_)
  obtain rfl : v_2 = 2 := by rw [e_2]; decide
  refine va_sld hx hb hX hbl hbA hS (by unfold vp_in; decide : vp_in 2 7) dL_law_486 ?_
  have hPc := hP.sub (ws' := [(q0, .inr (11, [.ref (gx 0), .ref (gx 1), .ref (gx 2), .ref (gx 3), .ref (gx 4), .ref (gx 5), .ref (gx 6), .ref (gx 7), .ref (gx 8), .ref (gx 9), .ref (gx 10), .ref (gx 11), .int 0]))]) [0] rfl
  have hDc := hD.sub (ws' := [(q0, .inr (11, [.ref (gx 0), .ref (gx 1), .ref (gx 2), .ref (gx 3), .ref (gx 4), .ref (gx 5), .ref (gx 6), .ref (gx 7), .ref (gx 8), .ref (gx 9), .ref (gx 10), .ref (gx 11), .int 0]))]) [0] (by decide) rfl
  have hKc := hK.sub (tys' := []) [] rfl
  have hFc := va_free (wc := [(q0, .inr (11, [.ref (gx 0), .ref (gx 1), .ref (gx 2), .ref (gx 3), .ref (gx 4), .ref (gx 5), .ref (gx 6), .ref (gx 7), .ref (gx 8), .ref (gx 9), .ref (gx 10), .ref (gx 11), .int 0]))]) hD hS hA [0] rfl
  refine va_calli (va_runV (As := [.int (xs (Int32.toNatClampNeg 1)), .int (xs (Int32.toNatClampNeg 2))]) (rest := []) ⟨hx, hb, hml, hown, hts⟩ (c_X11_edge l dC dI H.size q0 gx (xs (Int32.toNatClampNeg 1)) (xs (Int32.toNatClampNeg 2))) (cwV 2 hts ug_L_law_X11_edge rfl rfl rfl (by decide +kernel) ⟨Nat.le_of_ble_eq_true rfl, Nat.le_of_ble_eq_true rfl⟩) ⟨fun a U g mk q => by obtain ⟨q0, q1, qP, qK, qD⟩ := q; exact ⟨q0, q1, qP, va_K.moved (u := U) (U := U.calling g mk a) (Vm.Alike.refl U.vm) qK, qD⟩, va_recv hKc hPc (ci := 11) (q0 := 0) rfl rfl, fun U hU hW => ⟨rfl, by rw [hU], by rw [hU]; exact hPc, va_K.moved hW.alike hKc, hDc.weaken (fun _ _ _ _ => trivial)⟩⟩ rfl rfl hl.1 rfl (lv_room (Nat.le_of_ble_eq_true rfl)) dL_law_487 ⟨Nat.le_of_ble_eq_true rfl, Nat.le_of_ble_eq_true rfl⟩) hS (fun q _ h => hFc q h) hFc (fun r_3 u t H locs ht hvm hw hB hz1 hk1 hS => ?_)
  obtain ⟨hP, hD⟩ := va_join (wr := [((gx 0), .inr (9, [.ref (gx 12), .int 0, .int 0])), ((gx 12), .inl (cX, 240, .inl (fun _ => 0))), ((gx 2), .inr (3, [.int 0, .int 0, .ref (gx 13), .ref (gx 14), .ref (gx 15), .ref (gx 16), .ref (gx 17), .ref (gx 18)])), (q1, .inr (12, mF gm 0 0 0 0 0)), ((gm 0), .inl (cM, 240, .inl (fun _ => 0))), (q2, .inl (cJ, 1, .inr (.inl (fun _ => 0))))]) (w1 := []) hP hD [0] [1, 2, 3, 4, 5, 6] rfl rfl (by decide) (by decide) hk1 hFc p_nil d_nil
  clear hPc hDc hFc hk1 hz1
  have hP : va_P (dC, dI) vwCl [((gx 0), .inr (9, [.ref (gx 12), .int 0, .int 0])), ((gx 12), .inl (cX, 240, .inl (fun _ => 0))), ((gx 2), .inr (3, [.int 0, .int 0, .ref (gx 13), .ref (gx 14), .ref (gx 15), .ref (gx 16), .ref (gx 17), .ref (gx 18)])), (q1, .inr (12, mF gm 0 0 0 0 0)), ((gm 0), .inl (cM, 240, .inl (fun _ => 0))), (q2, .inl (cJ, 1, .inr (.inl (fun _ => 0))))] H := hP
  have hD : va_D (fun q : Nat => s.heap.size ≤ q) [((gx 0), .inr (9, [.ref (gx 12), .int 0, .int 0])), ((gx 12), .inl (cX, 240, .inl (fun _ => 0))), ((gx 2), .inr (3, [.int 0, .int 0, .ref (gx 13), .ref (gx 14), .ref (gx 15), .ref (gx 16), .ref (gx 17), .ref (gx 18)])), (q1, .inr (12, mF gm 0 0 0 0 0)), ((gm 0), .inl (cM, 240, .inl (fun _ => 0))), (q2, .inl (cJ, 1, .inr (.inl (fun _ => 0))))] := hD
  obtain rfl : r_3 = (-1000000) := hw
  refine lv_aload_n hx hb dL_law_490 rfl (lv_at hl 2 rfl) ?_
  refine lv_aload_n hx hb dL_law_491 rfl (lv_at hl 4 rfl) ?_
  refine lv_iload hx hb dL_law_492 (lv_at hl 0 rfl) ?_
  refine lv_iconst (v := 1) hx hb dL_law_494 (by decide) ?_
  refine lv_iadd hx hb dL_law_495 ?_
  refine lv_topi (fun v_5 e_5 => ?_)
  obtain rfl : v_5 = 1 := by rw [e_5]; decide
  refine va_sld hx hb hX hbl hbA hS (by unfold vp_in; decide : vp_in 1 7) dL_law_496 ?_
  refine lv_aload_n hx hb dL_law_497 rfl (lv_at hl 4 rfl) ?_
  refine lv_iload hx hb dL_law_498 (lv_at hl 0 rfl) ?_
  refine lv_iconst (v := 2) hx hb dL_law_500 (by decide) ?_
  refine lv_iadd hx hb dL_law_501 ?_
  refine lv_topi (fun v_6 e_6 => ?_)
  obtain rfl : v_6 = 2 := by rw [e_6]; decide
  refine va_sld hx hb hX hbl hbA hS (by unfold vp_in; decide : vp_in 2 7) dL_law_502 ?_
  have hPc := hP.sub (ws' := [(q1, .inr (12, mF gm 0 0 0 0 0))]) [3] rfl
  have hDc := hD.sub (ws' := [(q1, .inr (12, mF gm 0 0 0 0 0))]) [3] (by decide) rfl
  have hKc := hK.sub (tys' := []) [] rfl
  have hFc := va_free (wc := [(q1, .inr (12, mF gm 0 0 0 0 0))]) hD hS hA [3] rfl
  refine va_calli (va_runV (As := [.int (xs (Int32.toNatClampNeg 1)), .int (xs (Int32.toNatClampNeg 2))]) (rest := [.int (-1000000)]) ⟨hx, hb, hml, hown, hts⟩ (c_X12_edge l dC dI H.size q1 gm (xs (Int32.toNatClampNeg 1)) (xs (Int32.toNatClampNeg 2))) (cwV 2 hts ug_L_law_X12_edge rfl rfl rfl (by decide +kernel) ⟨Nat.le_of_ble_eq_true rfl, Nat.le_of_ble_eq_true rfl⟩) ⟨fun a U g mk q => by obtain ⟨q0, q1, qP, qK, qD⟩ := q; exact ⟨q0, q1, qP, va_K.moved (u := U) (U := U.calling g mk a) (Vm.Alike.refl U.vm) qK, qD⟩, va_recv hKc hPc (ci := 12) (q0 := 0) rfl rfl, fun U hU hW => ⟨rfl, by rw [hU], by rw [hU]; exact hPc, va_K.moved hW.alike hKc, hDc.weaken (fun _ _ _ _ => trivial)⟩⟩ rfl rfl hl.1 rfl (lv_room (Nat.le_of_ble_eq_true rfl)) dL_law_503 ⟨Nat.le_of_ble_eq_true rfl, Nat.le_of_ble_eq_true rfl⟩) hS (fun q _ h => hFc q h) hFc (fun r_7 u t H locs ht hvm hw hB hz1 hk1 hS => ?_)
  obtain ⟨hP, hD⟩ := va_join (wr := [((gx 0), .inr (9, [.ref (gx 12), .int 0, .int 0])), ((gx 12), .inl (cX, 240, .inl (fun _ => 0))), ((gx 2), .inr (3, [.int 0, .int 0, .ref (gx 13), .ref (gx 14), .ref (gx 15), .ref (gx 16), .ref (gx 17), .ref (gx 18)])), ((gm 0), .inl (cM, 240, .inl (fun _ => 0))), (q2, .inl (cJ, 1, .inr (.inl (fun _ => 0))))]) (w1 := []) hP hD [3] [0, 1, 2, 4, 5] rfl rfl (by decide) (by decide) hk1 hFc p_nil d_nil
  clear hPc hDc hFc hk1 hz1
  have hP : va_P (dC, dI) vwCl [((gx 0), .inr (9, [.ref (gx 12), .int 0, .int 0])), ((gx 12), .inl (cX, 240, .inl (fun _ => 0))), ((gx 2), .inr (3, [.int 0, .int 0, .ref (gx 13), .ref (gx 14), .ref (gx 15), .ref (gx 16), .ref (gx 17), .ref (gx 18)])), ((gm 0), .inl (cM, 240, .inl (fun _ => 0))), (q2, .inl (cJ, 1, .inr (.inl (fun _ => 0))))] H := hP
  have hD : va_D (fun q : Nat => s.heap.size ≤ q) [((gx 0), .inr (9, [.ref (gx 12), .int 0, .int 0])), ((gx 12), .inl (cX, 240, .inl (fun _ => 0))), ((gx 2), .inr (3, [.int 0, .int 0, .ref (gx 13), .ref (gx 14), .ref (gx 15), .ref (gx 16), .ref (gx 17), .ref (gx 18)])), ((gm 0), .inl (cM, 240, .inl (fun _ => 0))), (q2, .inl (cJ, 1, .inr (.inl (fun _ => 0))))] := hD
  obtain rfl : r_7 = (-1000000) := hw
  refine lv_icmp_eq (tgt := 1033) hx hb dL_law_506 (by decide) (fun c_9 => ?_) (fun c_9 => absurd (by decide) c_9)
  exact law_tail l hC0 hS (Nat.le_of_ble_eq_true rfl) (Nat.le_of_ble_eq_true rfl) ls (lv_sub hl [0, 4] rfl)

set_option maxHeartbeats 8000000 in
set_option maxRecDepth 100000 in
/-- the call of place 9 -/
theorem law_case_9 {p : Program} {e : Env} {s : State} {m : MethodId} {below : List Frame} {meth : Method} {c : Code} (l : Launch) {b : Nat} {xs : Nat → Int32} (C0 : lw_At p s m meth c b 7 xs) {dC : Nat → ClassId} {dI : Nat → Nat → Nat} (q0 q1 q2 : Nat) (gx gm : Nat → Nat) (cX cM cJ : ClassId) (sa1 sa2 : Nat) (hfl : l.stackTraces = false) (hE1 : xE sa1 198 "no such instruction" (fun q : Nat => s.heap.size ≤ q) s s.heap) (hE2 : xE sa2 220 "no such block" (fun q : Nat => s.heap.size ≤ q) s s.heap) {H : Heap} {locs : List Loc} (hK : va_K (dC, dI) vwCl [(cX, .byte), (cM, .byte), (cJ, .long)] s) (hP : va_P (dC, dI) vwCl [(q0, .inr (11, [.ref (gx 0), .ref (gx 1), .ref (gx 2), .ref (gx 3), .ref (gx 4), .ref (gx 5), .ref (gx 6), .ref (gx 7), .ref (gx 8), .ref (gx 9), .ref (gx 10), .ref (gx 11), .int 0])), ((gx 0), .inr (9, [.ref (gx 12), .int 0, .int 0])), ((gx 12), .inl (cX, 240, .inl (fun _ => 0))), ((gx 2), .inr (3, [.int 0, .int 0, .ref (gx 13), .ref (gx 14), .ref (gx 15), .ref (gx 16), .ref (gx 17), .ref (gx 18)])), (q1, .inr (12, mF gm 0 0 0 0 0)), ((gm 0), .inl (cM, 240, .inl (fun _ => 0))), (q2, .inl (cJ, 1, .inr (.inl (fun _ => 0))))] H) (hD : va_D (fun q : Nat => s.heap.size ≤ q) [(q0, .inr (11, [.ref (gx 0), .ref (gx 1), .ref (gx 2), .ref (gx 3), .ref (gx 4), .ref (gx 5), .ref (gx 6), .ref (gx 7), .ref (gx 8), .ref (gx 9), .ref (gx 10), .ref (gx 11), .int 0])), ((gx 0), .inr (9, [.ref (gx 12), .int 0, .int 0])), ((gx 12), .inl (cX, 240, .inl (fun _ => 0))), ((gx 2), .inr (3, [.int 0, .int 0, .ref (gx 13), .ref (gx 14), .ref (gx 15), .ref (gx 16), .ref (gx 17), .ref (gx 18)])), (q1, .inr (12, mF gm 0 0 0 0 0)), ((gm 0), .inl (cM, 240, .inl (fun _ => 0))), (q2, .inl (cJ, 1, .inr (.inl (fun _ => 0))))]) (hS : va_S (fun q : Nat => s.heap.size ≤ q) s.heap H locs) (ls : Array Slot) (hl : lv_has ls 7 [(4, .int 0), (3, .ref q2), (2, .ref q1), (1, .ref q0), (0, .ref b)]) : W p l e room_1 s m #[Value.ref b] below meth c H locs 132 55263 (lw_Z below #[Value.ref b] s) (F0 m 511 ls []) := by
  have hC0 := C0
  obtain ⟨hx, hb, hr, hml, hown, hts, hX, hbl, hlocks, hgv⟩ := C0
  have hown : s.vm.findClass RL = some m.cls := hown
  have hA : ∀ q : Nat, s.heap.size ≤ q → (fun q : Nat => s.heap.size ≤ q) q := fun _ h => h
  have hbA : ¬ (fun q : Nat => s.heap.size ≤ q) b := Nat.not_le.mpr hbl
  refine lv_aload_n hx hb dL_law_511 rfl (lv_at hl 3 rfl) ?_
  refine lv_aload_n hx hb dL_law_512 rfl (lv_at hl 4 rfl) ?_
  refine lv_iload hx hb dL_law_513 (lv_at hl 0 rfl) ?_
  refine lv_iconst (v := 1) hx hb dL_law_515 (by decide) ?_
  refine lv_iadd hx hb dL_law_516 ?_
  refine lv_topi (fun v_1 e_1 => ?_)
  obtain rfl : v_1 = 1 := by rw [e_1]; decide
  refine va_sld hx hb hX hbl hbA hS (by unfold vp_in; decide : vp_in 1 7) dL_law_517 ?_
  refine lv_aload_n hx hb dL_law_518 rfl (lv_at hl 4 rfl) ?_
  refine lv_iload hx hb dL_law_519 (lv_at hl 0 rfl) ?_
  refine lv_iconst (v := 2) hx hb dL_law_521 (by decide) ?_
  refine lv_iadd hx hb dL_law_522 ?_
  refine lv_topi (fun v_2 e_2 => ?_)
  obtain rfl : v_2 = 2 := by rw [e_2]; decide
  refine va_sld hx hb hX hbl hbA hS (by unfold vp_in; decide : vp_in 2 7) dL_law_523 ?_
  have hPc := hP.sub (ws' := [(q0, .inr (11, [.ref (gx 0), .ref (gx 1), .ref (gx 2), .ref (gx 3), .ref (gx 4), .ref (gx 5), .ref (gx 6), .ref (gx 7), .ref (gx 8), .ref (gx 9), .ref (gx 10), .ref (gx 11), .int 0]))]) [0] rfl
  have hDc := hD.sub (ws' := [(q0, .inr (11, [.ref (gx 0), .ref (gx 1), .ref (gx 2), .ref (gx 3), .ref (gx 4), .ref (gx 5), .ref (gx 6), .ref (gx 7), .ref (gx 8), .ref (gx 9), .ref (gx 10), .ref (gx 11), .int 0]))]) [0] (by decide) rfl
  have hKc := hK.sub (tys' := []) [] rfl
  have hFc := va_free (wc := [(q0, .inr (11, [.ref (gx 0), .ref (gx 1), .ref (gx 2), .ref (gx 3), .ref (gx 4), .ref (gx 5), .ref (gx 6), .ref (gx 7), .ref (gx 8), .ref (gx 9), .ref (gx 10), .ref (gx 11), .int 0]))]) hD hS hA [0] rfl
  refine va_calli (va_runV (As := [.int (xs (Int32.toNatClampNeg 1)), .int (xs (Int32.toNatClampNeg 2))]) (rest := []) ⟨hx, hb, hml, hown, hts⟩ (c_X11_dominates l dC dI H.size q0 gx (xs (Int32.toNatClampNeg 1)) (xs (Int32.toNatClampNeg 2))) (cwV 2 hts ug_L_law_X11_dominates rfl rfl rfl (by decide +kernel) ⟨Nat.le_of_ble_eq_true rfl, Nat.le_of_ble_eq_true rfl⟩) ⟨fun a U g mk q => by obtain ⟨q0, q1, qP, qK, qD⟩ := q; exact ⟨q0, q1, qP, va_K.moved (u := U) (U := U.calling g mk a) (Vm.Alike.refl U.vm) qK, qD⟩, va_recv hKc hPc (ci := 11) (q0 := 0) rfl rfl, fun U hU hW => ⟨rfl, by rw [hU], by rw [hU]; exact hPc, va_K.moved hW.alike hKc, hDc.weaken (fun _ _ _ _ => trivial)⟩⟩ rfl rfl hl.1 rfl (lv_room (Nat.le_of_ble_eq_true rfl)) dL_law_524 ⟨Nat.le_of_ble_eq_true rfl, Nat.le_of_ble_eq_true rfl⟩) hS (fun q _ h => hFc q h) hFc (fun r_3 u t H locs ht hvm hw hB hz1 hk1 hS => ?_)
  obtain ⟨hP, hD⟩ := va_join (wr := [((gx 0), .inr (9, [.ref (gx 12), .int 0, .int 0])), ((gx 12), .inl (cX, 240, .inl (fun _ => 0))), ((gx 2), .inr (3, [.int 0, .int 0, .ref (gx 13), .ref (gx 14), .ref (gx 15), .ref (gx 16), .ref (gx 17), .ref (gx 18)])), (q1, .inr (12, mF gm 0 0 0 0 0)), ((gm 0), .inl (cM, 240, .inl (fun _ => 0))), (q2, .inl (cJ, 1, .inr (.inl (fun _ => 0))))]) (w1 := []) hP hD [0] [1, 2, 3, 4, 5, 6] rfl rfl (by decide) (by decide) hk1 hFc p_nil d_nil
  clear hPc hDc hFc hk1 hz1
  have hP : va_P (dC, dI) vwCl [((gx 0), .inr (9, [.ref (gx 12), .int 0, .int 0])), ((gx 12), .inl (cX, 240, .inl (fun _ => 0))), ((gx 2), .inr (3, [.int 0, .int 0, .ref (gx 13), .ref (gx 14), .ref (gx 15), .ref (gx 16), .ref (gx 17), .ref (gx 18)])), (q1, .inr (12, mF gm 0 0 0 0 0)), ((gm 0), .inl (cM, 240, .inl (fun _ => 0))), (q2, .inl (cJ, 1, .inr (.inl (fun _ => 0))))] H := hP
  have hD : va_D (fun q : Nat => s.heap.size ≤ q) [((gx 0), .inr (9, [.ref (gx 12), .int 0, .int 0])), ((gx 12), .inl (cX, 240, .inl (fun _ => 0))), ((gx 2), .inr (3, [.int 0, .int 0, .ref (gx 13), .ref (gx 14), .ref (gx 15), .ref (gx 16), .ref (gx 17), .ref (gx 18)])), (q1, .inr (12, mF gm 0 0 0 0 0)), ((gm 0), .inl (cM, 240, .inl (fun _ => 0))), (q2, .inl (cJ, 1, .inr (.inl (fun _ => 0))))] := hD
  obtain rfl : r_3 = 0 := hw
  refine lv_aload_n hx hb dL_law_527 rfl (lv_at hl 2 rfl) ?_
  refine lv_aload_n hx hb dL_law_528 rfl (lv_at hl 4 rfl) ?_
  refine lv_iload hx hb dL_law_529 (lv_at hl 0 rfl) ?_
  refine lv_iconst (v := 1) hx hb dL_law_531 (by decide) ?_
  refine lv_iadd hx hb dL_law_532 ?_
  refine lv_topi (fun v_5 e_5 => ?_)
  obtain rfl : v_5 = 1 := by rw [e_5]; decide
  refine va_sld hx hb hX hbl hbA hS (by unfold vp_in; decide : vp_in 1 7) dL_law_533 ?_
  refine lv_aload_n hx hb dL_law_534 rfl (lv_at hl 4 rfl) ?_
  refine lv_iload hx hb dL_law_535 (lv_at hl 0 rfl) ?_
  refine lv_iconst (v := 2) hx hb dL_law_537 (by decide) ?_
  refine lv_iadd hx hb dL_law_538 ?_
  refine lv_topi (fun v_6 e_6 => ?_)
  obtain rfl : v_6 = 2 := by rw [e_6]; decide
  refine va_sld hx hb hX hbl hbA hS (by unfold vp_in; decide : vp_in 2 7) dL_law_539 ?_
  have hPc := hP.sub (ws' := [(q1, .inr (12, mF gm 0 0 0 0 0))]) [3] rfl
  have hDc := hD.sub (ws' := [(q1, .inr (12, mF gm 0 0 0 0 0))]) [3] (by decide) rfl
  have hKc := hK.sub (tys' := []) [] rfl
  have hFc := va_free (wc := [(q1, .inr (12, mF gm 0 0 0 0 0))]) hD hS hA [3] rfl
  refine va_calli (va_runV (As := [.int (xs (Int32.toNatClampNeg 1)), .int (xs (Int32.toNatClampNeg 2))]) (rest := [.int 0]) ⟨hx, hb, hml, hown, hts⟩ (c_X12_dominates l dC dI H.size q1 gm (xs (Int32.toNatClampNeg 1)) (xs (Int32.toNatClampNeg 2))) (cwV 2 hts ug_L_law_X12_dominates rfl rfl rfl (by decide +kernel) ⟨Nat.le_of_ble_eq_true rfl, Nat.le_of_ble_eq_true rfl⟩) ⟨fun a U g mk q => by obtain ⟨q0, q1, qP, qK, qD⟩ := q; exact ⟨q0, q1, qP, va_K.moved (u := U) (U := U.calling g mk a) (Vm.Alike.refl U.vm) qK, qD⟩, va_recv hKc hPc (ci := 12) (q0 := 0) rfl rfl, fun U hU hW => ⟨rfl, by rw [hU], by rw [hU]; exact hPc, va_K.moved hW.alike hKc, hDc.weaken (fun _ _ _ _ => trivial)⟩⟩ rfl rfl hl.1 rfl (lv_room (Nat.le_of_ble_eq_true rfl)) dL_law_540 ⟨Nat.le_of_ble_eq_true rfl, Nat.le_of_ble_eq_true rfl⟩) hS (fun q _ h => hFc q h) hFc (fun r_7 u t H locs ht hvm hw hB hz1 hk1 hS => ?_)
  obtain ⟨hP, hD⟩ := va_join (wr := [((gx 0), .inr (9, [.ref (gx 12), .int 0, .int 0])), ((gx 12), .inl (cX, 240, .inl (fun _ => 0))), ((gx 2), .inr (3, [.int 0, .int 0, .ref (gx 13), .ref (gx 14), .ref (gx 15), .ref (gx 16), .ref (gx 17), .ref (gx 18)])), ((gm 0), .inl (cM, 240, .inl (fun _ => 0))), (q2, .inl (cJ, 1, .inr (.inl (fun _ => 0))))]) (w1 := []) hP hD [3] [0, 1, 2, 4, 5] rfl rfl (by decide) (by decide) hk1 hFc p_nil d_nil
  clear hPc hDc hFc hk1 hz1
  have hP : va_P (dC, dI) vwCl [((gx 0), .inr (9, [.ref (gx 12), .int 0, .int 0])), ((gx 12), .inl (cX, 240, .inl (fun _ => 0))), ((gx 2), .inr (3, [.int 0, .int 0, .ref (gx 13), .ref (gx 14), .ref (gx 15), .ref (gx 16), .ref (gx 17), .ref (gx 18)])), ((gm 0), .inl (cM, 240, .inl (fun _ => 0))), (q2, .inl (cJ, 1, .inr (.inl (fun _ => 0))))] H := hP
  have hD : va_D (fun q : Nat => s.heap.size ≤ q) [((gx 0), .inr (9, [.ref (gx 12), .int 0, .int 0])), ((gx 12), .inl (cX, 240, .inl (fun _ => 0))), ((gx 2), .inr (3, [.int 0, .int 0, .ref (gx 13), .ref (gx 14), .ref (gx 15), .ref (gx 16), .ref (gx 17), .ref (gx 18)])), ((gm 0), .inl (cM, 240, .inl (fun _ => 0))), (q2, .inl (cJ, 1, .inr (.inl (fun _ => 0))))] := hD
  obtain rfl : r_7 = 0 := hw
  refine lv_icmp_eq (tgt := 1033) hx hb dL_law_543 (by decide) (fun c_9 => ?_) (fun c_9 => absurd (by decide) c_9)
  exact law_tail l hC0 hS (Nat.le_of_ble_eq_true rfl) (Nat.le_of_ble_eq_true rfl) ls (lv_sub hl [0, 4] rfl)

set_option maxHeartbeats 8000000 in
set_option maxRecDepth 100000 in
/-- the call of place 10 -/
theorem law_case_10 {p : Program} {e : Env} {s : State} {m : MethodId} {below : List Frame} {meth : Method} {c : Code} (l : Launch) {b : Nat} {xs : Nat → Int32} (C0 : lw_At p s m meth c b 7 xs) {dC : Nat → ClassId} {dI : Nat → Nat → Nat} (q0 q1 q2 : Nat) (gx gm : Nat → Nat) (cX cM cJ : ClassId) (sa1 sa2 : Nat) (hfl : l.stackTraces = false) (hE1 : xE sa1 198 "no such instruction" (fun q : Nat => s.heap.size ≤ q) s s.heap) (hE2 : xE sa2 220 "no such block" (fun q : Nat => s.heap.size ≤ q) s s.heap) {H : Heap} {locs : List Loc} (hK : va_K (dC, dI) vwCl [(cX, .byte), (cM, .byte), (cJ, .long)] s) (hP : va_P (dC, dI) vwCl [(q0, .inr (11, [.ref (gx 0), .ref (gx 1), .ref (gx 2), .ref (gx 3), .ref (gx 4), .ref (gx 5), .ref (gx 6), .ref (gx 7), .ref (gx 8), .ref (gx 9), .ref (gx 10), .ref (gx 11), .int 0])), ((gx 0), .inr (9, [.ref (gx 12), .int 0, .int 0])), ((gx 12), .inl (cX, 240, .inl (fun _ => 0))), ((gx 2), .inr (3, [.int 0, .int 0, .ref (gx 13), .ref (gx 14), .ref (gx 15), .ref (gx 16), .ref (gx 17), .ref (gx 18)])), (q1, .inr (12, mF gm 0 0 0 0 0)), ((gm 0), .inl (cM, 240, .inl (fun _ => 0))), (q2, .inl (cJ, 1, .inr (.inl (fun _ => 0))))] H) (hD : va_D (fun q : Nat => s.heap.size ≤ q) [(q0, .inr (11, [.ref (gx 0), .ref (gx 1), .ref (gx 2), .ref (gx 3), .ref (gx 4), .ref (gx 5), .ref (gx 6), .ref (gx 7), .ref (gx 8), .ref (gx 9), .ref (gx 10), .ref (gx 11), .int 0])), ((gx 0), .inr (9, [.ref (gx 12), .int 0, .int 0])), ((gx 12), .inl (cX, 240, .inl (fun _ => 0))), ((gx 2), .inr (3, [.int 0, .int 0, .ref (gx 13), .ref (gx 14), .ref (gx 15), .ref (gx 16), .ref (gx 17), .ref (gx 18)])), (q1, .inr (12, mF gm 0 0 0 0 0)), ((gm 0), .inl (cM, 240, .inl (fun _ => 0))), (q2, .inl (cJ, 1, .inr (.inl (fun _ => 0))))]) (hS : va_S (fun q : Nat => s.heap.size ≤ q) s.heap H locs) (ls : Array Slot) (hl : lv_has ls 7 [(4, .int 0), (3, .ref q2), (2, .ref q1), (1, .ref q0), (0, .ref b)]) : W p l e room_1 s m #[Value.ref b] below meth c H locs 132 55263 (lw_Z below #[Value.ref b] s) (F0 m 548 ls []) := by
  have hC0 := C0
  obtain ⟨hx, hb, hr, hml, hown, hts, hX, hbl, hlocks, hgv⟩ := C0
  have hown : s.vm.findClass RL = some m.cls := hown
  have hA : ∀ q : Nat, s.heap.size ≤ q → (fun q : Nat => s.heap.size ≤ q) q := fun _ h => h
  have hbA : ¬ (fun q : Nat => s.heap.size ≤ q) b := Nat.not_le.mpr hbl
  refine lv_aload_n hx hb dL_law_548 rfl (lv_at hl 3 rfl) ?_
  refine lv_aload_n hx hb dL_law_549 rfl (lv_at hl 4 rfl) ?_
  refine lv_iload hx hb dL_law_550 (lv_at hl 0 rfl) ?_
  refine lv_iconst (v := 1) hx hb dL_law_552 (by decide) ?_
  refine lv_iadd hx hb dL_law_553 ?_
  refine lv_topi (fun v_1 e_1 => ?_)
  obtain rfl : v_1 = 1 := by rw [e_1]; decide
  refine va_sld hx hb hX hbl hbA hS (by unfold vp_in; decide : vp_in 1 7) dL_law_554 ?_
  have hPc := hP.sub (ws' := [(q0, .inr (11, [.ref (gx 0), .ref (gx 1), .ref (gx 2), .ref (gx 3), .ref (gx 4), .ref (gx 5), .ref (gx 6), .ref (gx 7), .ref (gx 8), .ref (gx 9), .ref (gx 10), .ref (gx 11), .int 0]))]) [0] rfl
  have hDc := hD.sub (ws' := [(q0, .inr (11, [.ref (gx 0), .ref (gx 1), .ref (gx 2), .ref (gx 3), .ref (gx 4), .ref (gx 5), .ref (gx 6), .ref (gx 7), .ref (gx 8), .ref (gx 9), .ref (gx 10), .ref (gx 11), .int 0]))]) [0] (by decide) rfl
  have hKc := hK.sub (tys' := []) [] rfl
  have hFc := va_free (wc := [(q0, .inr (11, [.ref (gx 0), .ref (gx 1), .ref (gx 2), .ref (gx 3), .ref (gx 4), .ref (gx 5), .ref (gx 6), .ref (gx 7), .ref (gx 8), .ref (gx 9), .ref (gx 10), .ref (gx 11), .int 0]))]) hD hS hA [0] rfl
  refine va_calll (va_runV (As := [.int (xs (Int32.toNatClampNeg 1))]) (rest := []) ⟨hx, hb, hml, hown, hts⟩ (c_X11_loop l dC dI H.size q0 gx (xs (Int32.toNatClampNeg 1))) (cwV 1 hts ug_L_law_X11_loop rfl rfl rfl (by decide +kernel) ⟨Nat.le_of_ble_eq_true rfl, Nat.le_of_ble_eq_true rfl⟩) ⟨fun a U g mk q => by obtain ⟨q0, q1, qP, qK, qD⟩ := q; exact ⟨q0, q1, qP, va_K.moved (u := U) (U := U.calling g mk a) (Vm.Alike.refl U.vm) qK, qD⟩, va_recv hKc hPc (ci := 11) (q0 := 0) rfl rfl, fun U hU hW => ⟨rfl, by rw [hU], by rw [hU]; exact hPc, va_K.moved hW.alike hKc, hDc.weaken (fun _ _ _ _ => trivial)⟩⟩ rfl rfl hl.1 rfl (lv_room (Nat.le_of_ble_eq_true rfl)) dL_law_555 ⟨Nat.le_of_ble_eq_true rfl, Nat.le_of_ble_eq_true rfl⟩) hS (fun q _ h => hFc q h) hFc (fun r_2 u t H locs ht hvm hw hB hz1 hk1 hS => ?_)
  obtain ⟨hP, hD⟩ := va_join (wr := [((gx 0), .inr (9, [.ref (gx 12), .int 0, .int 0])), ((gx 12), .inl (cX, 240, .inl (fun _ => 0))), ((gx 2), .inr (3, [.int 0, .int 0, .ref (gx 13), .ref (gx 14), .ref (gx 15), .ref (gx 16), .ref (gx 17), .ref (gx 18)])), (q1, .inr (12, mF gm 0 0 0 0 0)), ((gm 0), .inl (cM, 240, .inl (fun _ => 0))), (q2, .inl (cJ, 1, .inr (.inl (fun _ => 0))))]) (w1 := []) hP hD [0] [1, 2, 3, 4, 5, 6] rfl rfl (by decide) (by decide) hk1 hFc p_nil d_nil
  clear hPc hDc hFc hk1 hz1
  have hP : va_P (dC, dI) vwCl [((gx 0), .inr (9, [.ref (gx 12), .int 0, .int 0])), ((gx 12), .inl (cX, 240, .inl (fun _ => 0))), ((gx 2), .inr (3, [.int 0, .int 0, .ref (gx 13), .ref (gx 14), .ref (gx 15), .ref (gx 16), .ref (gx 17), .ref (gx 18)])), (q1, .inr (12, mF gm 0 0 0 0 0)), ((gm 0), .inl (cM, 240, .inl (fun _ => 0))), (q2, .inl (cJ, 1, .inr (.inl (fun _ => 0))))] H := hP
  have hD : va_D (fun q : Nat => s.heap.size ≤ q) [((gx 0), .inr (9, [.ref (gx 12), .int 0, .int 0])), ((gx 12), .inl (cX, 240, .inl (fun _ => 0))), ((gx 2), .inr (3, [.int 0, .int 0, .ref (gx 13), .ref (gx 14), .ref (gx 15), .ref (gx 16), .ref (gx 17), .ref (gx 18)])), (q1, .inr (12, mF gm 0 0 0 0 0)), ((gm 0), .inl (cM, 240, .inl (fun _ => 0))), (q2, .inl (cJ, 1, .inr (.inl (fun _ => 0))))] := hD
  obtain rfl : r_2 = (-1) := hw
  refine lv_aload_n hx hb dL_law_558 rfl (lv_at hl 2 rfl) ?_
  refine lv_aload_n hx hb dL_law_559 rfl (lv_at hl 4 rfl) ?_
  refine lv_iload hx hb dL_law_560 (lv_at hl 0 rfl) ?_
  refine lv_iconst (v := 1) hx hb dL_law_562 (by decide) ?_
  refine lv_iadd hx hb dL_law_563 ?_
  refine lv_topi (fun v_4 e_4 => ?_)
  obtain rfl : v_4 = 1 := by rw [e_4]; decide
  refine va_sld hx hb hX hbl hbA hS (by unfold vp_in; decide : vp_in 1 7) dL_law_564 ?_
  have hPc := hP.sub (ws' := [(q1, .inr (12, mF gm 0 0 0 0 0))]) [3] rfl
  have hDc := hD.sub (ws' := [(q1, .inr (12, mF gm 0 0 0 0 0))]) [3] (by decide) rfl
  have hKc := hK.sub (tys' := []) [] rfl
  have hFc := va_free (wc := [(q1, .inr (12, mF gm 0 0 0 0 0))]) hD hS hA [3] rfl
  refine va_calll (va_runV (As := [.int (xs (Int32.toNatClampNeg 1))]) (rest := [.long (-1)]) ⟨hx, hb, hml, hown, hts⟩ (c_X12_loop l dC dI H.size q1 gm (xs (Int32.toNatClampNeg 1))) (cwV 1 hts ug_L_law_X12_loop rfl rfl rfl (by decide +kernel) ⟨Nat.le_of_ble_eq_true rfl, Nat.le_of_ble_eq_true rfl⟩) ⟨fun a U g mk q => by obtain ⟨q0, q1, qP, qK, qD⟩ := q; exact ⟨q0, q1, qP, va_K.moved (u := U) (U := U.calling g mk a) (Vm.Alike.refl U.vm) qK, qD⟩, va_recv hKc hPc (ci := 12) (q0 := 0) rfl rfl, fun U hU hW => ⟨rfl, by rw [hU], by rw [hU]; exact hPc, va_K.moved hW.alike hKc, hDc.weaken (fun _ _ _ _ => trivial)⟩⟩ rfl rfl hl.1 rfl (lv_room (Nat.le_of_ble_eq_true rfl)) dL_law_565 ⟨Nat.le_of_ble_eq_true rfl, Nat.le_of_ble_eq_true rfl⟩) hS (fun q _ h => hFc q h) hFc (fun r_5 u t H locs ht hvm hw hB hz1 hk1 hS => ?_)
  obtain ⟨hP, hD⟩ := va_join (wr := [((gx 0), .inr (9, [.ref (gx 12), .int 0, .int 0])), ((gx 12), .inl (cX, 240, .inl (fun _ => 0))), ((gx 2), .inr (3, [.int 0, .int 0, .ref (gx 13), .ref (gx 14), .ref (gx 15), .ref (gx 16), .ref (gx 17), .ref (gx 18)])), ((gm 0), .inl (cM, 240, .inl (fun _ => 0))), (q2, .inl (cJ, 1, .inr (.inl (fun _ => 0))))]) (w1 := []) hP hD [3] [0, 1, 2, 4, 5] rfl rfl (by decide) (by decide) hk1 hFc p_nil d_nil
  clear hPc hDc hFc hk1 hz1
  have hP : va_P (dC, dI) vwCl [((gx 0), .inr (9, [.ref (gx 12), .int 0, .int 0])), ((gx 12), .inl (cX, 240, .inl (fun _ => 0))), ((gx 2), .inr (3, [.int 0, .int 0, .ref (gx 13), .ref (gx 14), .ref (gx 15), .ref (gx 16), .ref (gx 17), .ref (gx 18)])), ((gm 0), .inl (cM, 240, .inl (fun _ => 0))), (q2, .inl (cJ, 1, .inr (.inl (fun _ => 0))))] H := hP
  have hD : va_D (fun q : Nat => s.heap.size ≤ q) [((gx 0), .inr (9, [.ref (gx 12), .int 0, .int 0])), ((gx 12), .inl (cX, 240, .inl (fun _ => 0))), ((gx 2), .inr (3, [.int 0, .int 0, .ref (gx 13), .ref (gx 14), .ref (gx 15), .ref (gx 16), .ref (gx 17), .ref (gx 18)])), ((gm 0), .inl (cM, 240, .inl (fun _ => 0))), (q2, .inl (cJ, 1, .inr (.inl (fun _ => 0))))] := hD
  obtain rfl : r_5 = (-1) := hw
  refine W.lcmp hx hb dL_law_568 ?_
  refine lv_topi (fun v_7 e_7 => ?_)
  obtain rfl : v_7 = 0 := by rw [e_7]; decide
  refine lv_if_eq (tgt := 1033) hx hb dL_law_569 (by decide) (fun c_8 => ?_) (fun c_8 => absurd (by decide) c_8)
  exact law_tail l hC0 hS (Nat.le_of_ble_eq_true rfl) (Nat.le_of_ble_eq_true rfl) ls (lv_sub hl [0, 4] rfl)

set_option maxHeartbeats 8000000 in
set_option maxRecDepth 100000 in
/-- the call of place 11 -/
theorem law_case_11 {p : Program} {e : Env} {s : State} {m : MethodId} {below : List Frame} {meth : Method} {c : Code} (l : Launch) {b : Nat} {xs : Nat → Int32} (C0 : lw_At p s m meth c b 7 xs) {dC : Nat → ClassId} {dI : Nat → Nat → Nat} (q0 q1 q2 : Nat) (gx gm : Nat → Nat) (cX cM cJ : ClassId) (sa1 sa2 : Nat) (hfl : l.stackTraces = false) (hE1 : xE sa1 198 "no such instruction" (fun q : Nat => s.heap.size ≤ q) s s.heap) (hE2 : xE sa2 220 "no such block" (fun q : Nat => s.heap.size ≤ q) s s.heap) {H : Heap} {locs : List Loc} (hK : va_K (dC, dI) vwCl [(cX, .byte), (cM, .byte), (cJ, .long)] s) (hP : va_P (dC, dI) vwCl [(q0, .inr (11, [.ref (gx 0), .ref (gx 1), .ref (gx 2), .ref (gx 3), .ref (gx 4), .ref (gx 5), .ref (gx 6), .ref (gx 7), .ref (gx 8), .ref (gx 9), .ref (gx 10), .ref (gx 11), .int 0])), ((gx 0), .inr (9, [.ref (gx 12), .int 0, .int 0])), ((gx 12), .inl (cX, 240, .inl (fun _ => 0))), ((gx 2), .inr (3, [.int 0, .int 0, .ref (gx 13), .ref (gx 14), .ref (gx 15), .ref (gx 16), .ref (gx 17), .ref (gx 18)])), (q1, .inr (12, mF gm 0 0 0 0 0)), ((gm 0), .inl (cM, 240, .inl (fun _ => 0))), (q2, .inl (cJ, 1, .inr (.inl (fun _ => 0))))] H) (hD : va_D (fun q : Nat => s.heap.size ≤ q) [(q0, .inr (11, [.ref (gx 0), .ref (gx 1), .ref (gx 2), .ref (gx 3), .ref (gx 4), .ref (gx 5), .ref (gx 6), .ref (gx 7), .ref (gx 8), .ref (gx 9), .ref (gx 10), .ref (gx 11), .int 0])), ((gx 0), .inr (9, [.ref (gx 12), .int 0, .int 0])), ((gx 12), .inl (cX, 240, .inl (fun _ => 0))), ((gx 2), .inr (3, [.int 0, .int 0, .ref (gx 13), .ref (gx 14), .ref (gx 15), .ref (gx 16), .ref (gx 17), .ref (gx 18)])), (q1, .inr (12, mF gm 0 0 0 0 0)), ((gm 0), .inl (cM, 240, .inl (fun _ => 0))), (q2, .inl (cJ, 1, .inr (.inl (fun _ => 0))))]) (hS : va_S (fun q : Nat => s.heap.size ≤ q) s.heap H locs) (ls : Array Slot) (hl : lv_has ls 7 [(4, .int 0), (3, .ref q2), (2, .ref q1), (1, .ref q0), (0, .ref b)]) : W p l e room_1 s m #[Value.ref b] below meth c H locs 132 55263 (lw_Z below #[Value.ref b] s) (F0 m 574 ls []) := by
  have hC0 := C0
  obtain ⟨hx, hb, hr, hml, hown, hts, hX, hbl, hlocks, hgv⟩ := C0
  have hown : s.vm.findClass RL = some m.cls := hown
  have hA : ∀ q : Nat, s.heap.size ≤ q → (fun q : Nat => s.heap.size ≤ q) q := fun _ h => h
  have hbA : ¬ (fun q : Nat => s.heap.size ≤ q) b := Nat.not_le.mpr hbl
  refine lv_aload_n hx hb dL_law_574 rfl (lv_at hl 3 rfl) ?_
  refine lv_aload_n hx hb dL_law_575 rfl (lv_at hl 4 rfl) ?_
  refine lv_iload hx hb dL_law_576 (lv_at hl 0 rfl) ?_
  refine lv_iconst (v := 1) hx hb dL_law_578 (by decide) ?_
  refine lv_iadd hx hb dL_law_579 ?_
  refine lv_topi (fun v_1 e_1 => ?_)
  obtain rfl : v_1 = 1 := by rw [e_1]; decide
  refine va_sld hx hb hX hbl hbA hS (by unfold vp_in; decide : vp_in 1 7) dL_law_580 ?_
  refine lv_aload_n hx hb dL_law_581 rfl (lv_at hl 4 rfl) ?_
  refine lv_iload hx hb dL_law_582 (lv_at hl 0 rfl) ?_
  refine lv_iconst (v := 2) hx hb dL_law_584 (by decide) ?_
  refine lv_iadd hx hb dL_law_585 ?_
  refine lv_topi (fun v_2 e_2 => ?_)
  obtain rfl : v_2 = 2 := by rw [e_2]; decide
  refine va_sld hx hb hX hbl hbA hS (by unfold vp_in; decide : vp_in 2 7) dL_law_586 ?_
  refine lv_aload_n hx hb dL_law_587 rfl (lv_at hl 4 rfl) ?_
  refine lv_iload hx hb dL_law_588 (lv_at hl 0 rfl) ?_
  refine lv_iconst (v := 3) hx hb dL_law_590 (by decide) ?_
  refine lv_iadd hx hb dL_law_591 ?_
  refine lv_topi (fun v_3 e_3 => ?_)
  obtain rfl : v_3 = 3 := by rw [e_3]; decide
  refine va_sld hx hb hX hbl hbA hS (by unfold vp_in; decide : vp_in 3 7) dL_law_592 ?_
  have hPc := hP.sub (ws' := [(q0, .inr (11, [.ref (gx 0), .ref (gx 1), .ref (gx 2), .ref (gx 3), .ref (gx 4), .ref (gx 5), .ref (gx 6), .ref (gx 7), .ref (gx 8), .ref (gx 9), .ref (gx 10), .ref (gx 11), .int 0]))]) [0] rfl
  have hDc := hD.sub (ws' := [(q0, .inr (11, [.ref (gx 0), .ref (gx 1), .ref (gx 2), .ref (gx 3), .ref (gx 4), .ref (gx 5), .ref (gx 6), .ref (gx 7), .ref (gx 8), .ref (gx 9), .ref (gx 10), .ref (gx 11), .int 0]))]) [0] (by decide) rfl
  have hKc := hK.sub (tys' := []) [] rfl
  have hFc := va_free (wc := [(q0, .inr (11, [.ref (gx 0), .ref (gx 1), .ref (gx 2), .ref (gx 3), .ref (gx 4), .ref (gx 5), .ref (gx 6), .ref (gx 7), .ref (gx 8), .ref (gx 9), .ref (gx 10), .ref (gx 11), .int 0]))]) hD hS hA [0] rfl
  refine va_calli (va_runV (As := [.int (xs (Int32.toNatClampNeg 1)), .int (xs (Int32.toNatClampNeg 2)), .int (xs (Int32.toNatClampNeg 3))]) (rest := []) ⟨hx, hb, hml, hown, hts⟩ (c_X11_statement l dC dI H.size q0 gx (xs (Int32.toNatClampNeg 1)) (xs (Int32.toNatClampNeg 2)) (xs (Int32.toNatClampNeg 3))) (cwV 3 hts ug_L_law_X11_statement rfl rfl rfl (by decide +kernel) ⟨Nat.le_of_ble_eq_true rfl, Nat.le_of_ble_eq_true rfl⟩) ⟨fun a U g mk q => by obtain ⟨q0, q1, qP, qK, qD⟩ := q; exact ⟨q0, q1, qP, va_K.moved (u := U) (U := U.calling g mk a) (Vm.Alike.refl U.vm) qK, qD⟩, va_recv hKc hPc (ci := 11) (q0 := 0) rfl rfl, fun U hU hW => ⟨rfl, by rw [hU], by rw [hU]; exact hPc, va_K.moved hW.alike hKc, hDc.weaken (fun _ _ _ _ => trivial)⟩⟩ rfl rfl hl.1 rfl (lv_room (Nat.le_of_ble_eq_true rfl)) dL_law_593 ⟨Nat.le_of_ble_eq_true rfl, Nat.le_of_ble_eq_true rfl⟩) hS (fun q _ h => hFc q h) hFc (fun r_4 u t H locs ht hvm hw hB hz1 hk1 hS => ?_)
  obtain ⟨hP, hD⟩ := va_join (wr := [((gx 0), .inr (9, [.ref (gx 12), .int 0, .int 0])), ((gx 12), .inl (cX, 240, .inl (fun _ => 0))), ((gx 2), .inr (3, [.int 0, .int 0, .ref (gx 13), .ref (gx 14), .ref (gx 15), .ref (gx 16), .ref (gx 17), .ref (gx 18)])), (q1, .inr (12, mF gm 0 0 0 0 0)), ((gm 0), .inl (cM, 240, .inl (fun _ => 0))), (q2, .inl (cJ, 1, .inr (.inl (fun _ => 0))))]) (w1 := []) hP hD [0] [1, 2, 3, 4, 5, 6] rfl rfl (by decide) (by decide) hk1 hFc p_nil d_nil
  clear hPc hDc hFc hk1 hz1
  have hP : va_P (dC, dI) vwCl [((gx 0), .inr (9, [.ref (gx 12), .int 0, .int 0])), ((gx 12), .inl (cX, 240, .inl (fun _ => 0))), ((gx 2), .inr (3, [.int 0, .int 0, .ref (gx 13), .ref (gx 14), .ref (gx 15), .ref (gx 16), .ref (gx 17), .ref (gx 18)])), (q1, .inr (12, mF gm 0 0 0 0 0)), ((gm 0), .inl (cM, 240, .inl (fun _ => 0))), (q2, .inl (cJ, 1, .inr (.inl (fun _ => 0))))] H := hP
  have hD : va_D (fun q : Nat => s.heap.size ≤ q) [((gx 0), .inr (9, [.ref (gx 12), .int 0, .int 0])), ((gx 12), .inl (cX, 240, .inl (fun _ => 0))), ((gx 2), .inr (3, [.int 0, .int 0, .ref (gx 13), .ref (gx 14), .ref (gx 15), .ref (gx 16), .ref (gx 17), .ref (gx 18)])), (q1, .inr (12, mF gm 0 0 0 0 0)), ((gm 0), .inl (cM, 240, .inl (fun _ => 0))), (q2, .inl (cJ, 1, .inr (.inl (fun _ => 0))))] := hD
  obtain rfl : r_4 = (-1000000) := hw
  refine lv_aload_n hx hb dL_law_596 rfl (lv_at hl 2 rfl) ?_
  refine lv_aload_n hx hb dL_law_597 rfl (lv_at hl 4 rfl) ?_
  refine lv_iload hx hb dL_law_598 (lv_at hl 0 rfl) ?_
  refine lv_iconst (v := 1) hx hb dL_law_600 (by decide) ?_
  refine lv_iadd hx hb dL_law_601 ?_
  refine lv_topi (fun v_6 e_6 => ?_)
  obtain rfl : v_6 = 1 := by rw [e_6]; decide
  refine va_sld hx hb hX hbl hbA hS (by unfold vp_in; decide : vp_in 1 7) dL_law_602 ?_
  refine lv_aload_n hx hb dL_law_603 rfl (lv_at hl 4 rfl) ?_
  refine lv_iload hx hb dL_law_604 (lv_at hl 0 rfl) ?_
  refine lv_iconst (v := 2) hx hb dL_law_606 (by decide) ?_
  refine lv_iadd hx hb dL_law_607 ?_
  refine lv_topi (fun v_7 e_7 => ?_)
  obtain rfl : v_7 = 2 := by rw [e_7]; decide
  refine va_sld hx hb hX hbl hbA hS (by unfold vp_in; decide : vp_in 2 7) dL_law_608 ?_
  refine lv_aload_n hx hb dL_law_609 rfl (lv_at hl 4 rfl) ?_
  refine lv_iload hx hb dL_law_610 (lv_at hl 0 rfl) ?_
  refine lv_iconst (v := 3) hx hb dL_law_612 (by decide) ?_
  refine lv_iadd hx hb dL_law_613 ?_
  refine lv_topi (fun v_8 e_8 => ?_)
  obtain rfl : v_8 = 3 := by rw [e_8]; decide
  refine va_sld hx hb hX hbl hbA hS (by unfold vp_in; decide : vp_in 3 7) dL_law_614 ?_
  have hPc := hP.sub (ws' := [(q1, .inr (12, mF gm 0 0 0 0 0))]) [3] rfl
  have hDc := hD.sub (ws' := [(q1, .inr (12, mF gm 0 0 0 0 0))]) [3] (by decide) rfl
  have hKc := hK.sub (tys' := []) [] rfl
  have hFc := va_free (wc := [(q1, .inr (12, mF gm 0 0 0 0 0))]) hD hS hA [3] rfl
  refine va_calli (va_runV (As := [.int (xs (Int32.toNatClampNeg 1)), .int (xs (Int32.toNatClampNeg 2)), .int (xs (Int32.toNatClampNeg 3))]) (rest := [.int (-1000000)]) ⟨hx, hb, hml, hown, hts⟩ (c_X12_statement l dC dI H.size q1 gm (xs (Int32.toNatClampNeg 1)) (xs (Int32.toNatClampNeg 2)) (xs (Int32.toNatClampNeg 3))) (cwV 3 hts ug_L_law_X12_statement rfl rfl rfl (by decide +kernel) ⟨Nat.le_of_ble_eq_true rfl, Nat.le_of_ble_eq_true rfl⟩) ⟨fun a U g mk q => by obtain ⟨q0, q1, qP, qK, qD⟩ := q; exact ⟨q0, q1, qP, va_K.moved (u := U) (U := U.calling g mk a) (Vm.Alike.refl U.vm) qK, qD⟩, va_recv hKc hPc (ci := 12) (q0 := 0) rfl rfl, fun U hU hW => ⟨rfl, by rw [hU], by rw [hU]; exact hPc, va_K.moved hW.alike hKc, hDc.weaken (fun _ _ _ _ => trivial)⟩⟩ rfl rfl hl.1 rfl (lv_room (Nat.le_of_ble_eq_true rfl)) dL_law_615 ⟨Nat.le_of_ble_eq_true rfl, Nat.le_of_ble_eq_true rfl⟩) hS (fun q _ h => hFc q h) hFc (fun r_9 u t H locs ht hvm hw hB hz1 hk1 hS => ?_)
  obtain ⟨hP, hD⟩ := va_join (wr := [((gx 0), .inr (9, [.ref (gx 12), .int 0, .int 0])), ((gx 12), .inl (cX, 240, .inl (fun _ => 0))), ((gx 2), .inr (3, [.int 0, .int 0, .ref (gx 13), .ref (gx 14), .ref (gx 15), .ref (gx 16), .ref (gx 17), .ref (gx 18)])), ((gm 0), .inl (cM, 240, .inl (fun _ => 0))), (q2, .inl (cJ, 1, .inr (.inl (fun _ => 0))))]) (w1 := []) hP hD [3] [0, 1, 2, 4, 5] rfl rfl (by decide) (by decide) hk1 hFc p_nil d_nil
  clear hPc hDc hFc hk1 hz1
  have hP : va_P (dC, dI) vwCl [((gx 0), .inr (9, [.ref (gx 12), .int 0, .int 0])), ((gx 12), .inl (cX, 240, .inl (fun _ => 0))), ((gx 2), .inr (3, [.int 0, .int 0, .ref (gx 13), .ref (gx 14), .ref (gx 15), .ref (gx 16), .ref (gx 17), .ref (gx 18)])), ((gm 0), .inl (cM, 240, .inl (fun _ => 0))), (q2, .inl (cJ, 1, .inr (.inl (fun _ => 0))))] H := hP
  have hD : va_D (fun q : Nat => s.heap.size ≤ q) [((gx 0), .inr (9, [.ref (gx 12), .int 0, .int 0])), ((gx 12), .inl (cX, 240, .inl (fun _ => 0))), ((gx 2), .inr (3, [.int 0, .int 0, .ref (gx 13), .ref (gx 14), .ref (gx 15), .ref (gx 16), .ref (gx 17), .ref (gx 18)])), ((gm 0), .inl (cM, 240, .inl (fun _ => 0))), (q2, .inl (cJ, 1, .inr (.inl (fun _ => 0))))] := hD
  obtain rfl : r_9 = (-1000000) := hw
  refine lv_icmp_eq (tgt := 1033) hx hb dL_law_618 (by decide) (fun c_11 => ?_) (fun c_11 => absurd (by decide) c_11)
  exact law_tail l hC0 hS (Nat.le_of_ble_eq_true rfl) (Nat.le_of_ble_eq_true rfl) ls (lv_sub hl [0, 4] rfl)

set_option maxHeartbeats 8000000 in
set_option maxRecDepth 100000 in
/-- the call of place 12 -/
theorem law_case_12 {p : Program} {e : Env} {s : State} {m : MethodId} {below : List Frame} {meth : Method} {c : Code} (l : Launch) {b : Nat} {xs : Nat → Int32} (C0 : lw_At p s m meth c b 7 xs) {dC : Nat → ClassId} {dI : Nat → Nat → Nat} (q0 q1 q2 : Nat) (gx gm : Nat → Nat) (cX cM cJ : ClassId) (sa1 sa2 : Nat) (hfl : l.stackTraces = false) (hE1 : xE sa1 198 "no such instruction" (fun q : Nat => s.heap.size ≤ q) s s.heap) (hE2 : xE sa2 220 "no such block" (fun q : Nat => s.heap.size ≤ q) s s.heap) {H : Heap} {locs : List Loc} (hK : va_K (dC, dI) vwCl [(cX, .byte), (cM, .byte), (cJ, .long)] s) (hP : va_P (dC, dI) vwCl [(q0, .inr (11, [.ref (gx 0), .ref (gx 1), .ref (gx 2), .ref (gx 3), .ref (gx 4), .ref (gx 5), .ref (gx 6), .ref (gx 7), .ref (gx 8), .ref (gx 9), .ref (gx 10), .ref (gx 11), .int 0])), ((gx 0), .inr (9, [.ref (gx 12), .int 0, .int 0])), ((gx 12), .inl (cX, 240, .inl (fun _ => 0))), ((gx 2), .inr (3, [.int 0, .int 0, .ref (gx 13), .ref (gx 14), .ref (gx 15), .ref (gx 16), .ref (gx 17), .ref (gx 18)])), (q1, .inr (12, mF gm 0 0 0 0 0)), ((gm 0), .inl (cM, 240, .inl (fun _ => 0))), (q2, .inl (cJ, 1, .inr (.inl (fun _ => 0))))] H) (hD : va_D (fun q : Nat => s.heap.size ≤ q) [(q0, .inr (11, [.ref (gx 0), .ref (gx 1), .ref (gx 2), .ref (gx 3), .ref (gx 4), .ref (gx 5), .ref (gx 6), .ref (gx 7), .ref (gx 8), .ref (gx 9), .ref (gx 10), .ref (gx 11), .int 0])), ((gx 0), .inr (9, [.ref (gx 12), .int 0, .int 0])), ((gx 12), .inl (cX, 240, .inl (fun _ => 0))), ((gx 2), .inr (3, [.int 0, .int 0, .ref (gx 13), .ref (gx 14), .ref (gx 15), .ref (gx 16), .ref (gx 17), .ref (gx 18)])), (q1, .inr (12, mF gm 0 0 0 0 0)), ((gm 0), .inl (cM, 240, .inl (fun _ => 0))), (q2, .inl (cJ, 1, .inr (.inl (fun _ => 0))))]) (hS : va_S (fun q : Nat => s.heap.size ≤ q) s.heap H locs) (ls : Array Slot) (hl : lv_has ls 7 [(4, .int 0), (3, .ref q2), (2, .ref q1), (1, .ref q0), (0, .ref b)]) : W p l e room_1 s m #[Value.ref b] below meth c H locs 132 55263 (lw_Z below #[Value.ref b] s) (F0 m 623 ls []) := by
  have hC0 := C0
  obtain ⟨hx, hb, hr, hml, hown, hts, hX, hbl, hlocks, hgv⟩ := C0
  have hown : s.vm.findClass RL = some m.cls := hown
  have hA : ∀ q : Nat, s.heap.size ≤ q → (fun q : Nat => s.heap.size ≤ q) q := fun _ h => h
  have hbA : ¬ (fun q : Nat => s.heap.size ≤ q) b := Nat.not_le.mpr hbl
  refine lv_aload_n hx hb dL_law_623 rfl (lv_at hl 3 rfl) ?_
  refine lv_aload_n hx hb dL_law_624 rfl (lv_at hl 4 rfl) ?_
  refine lv_iload hx hb dL_law_625 (lv_at hl 0 rfl) ?_
  refine lv_iconst (v := 1) hx hb dL_law_627 (by decide) ?_
  refine lv_iadd hx hb dL_law_628 ?_
  refine lv_topi (fun v_1 e_1 => ?_)
  obtain rfl : v_1 = 1 := by rw [e_1]; decide
  refine va_sld hx hb hX hbl hbA hS (by unfold vp_in; decide : vp_in 1 7) dL_law_629 ?_
  refine lv_aload_n hx hb dL_law_630 rfl (lv_at hl 4 rfl) ?_
  refine lv_iload hx hb dL_law_631 (lv_at hl 0 rfl) ?_
  refine lv_iconst (v := 2) hx hb dL_law_633 (by decide) ?_
  refine lv_iadd hx hb dL_law_634 ?_
  refine lv_topi (fun v_2 e_2 => ?_)
  obtain rfl : v_2 = 2 := by rw [e_2]; decide
  refine va_sld hx hb hX hbl hbA hS (by unfold vp_in; decide : vp_in 2 7) dL_law_635 ?_
  have hPc := hP.sub (ws' := [(q0, .inr (11, [.ref (gx 0), .ref (gx 1), .ref (gx 2), .ref (gx 3), .ref (gx 4), .ref (gx 5), .ref (gx 6), .ref (gx 7), .ref (gx 8), .ref (gx 9), .ref (gx 10), .ref (gx 11), .int 0]))]) [0] rfl
  have hDc := hD.sub (ws' := [(q0, .inr (11, [.ref (gx 0), .ref (gx 1), .ref (gx 2), .ref (gx 3), .ref (gx 4), .ref (gx 5), .ref (gx 6), .ref (gx 7), .ref (gx 8), .ref (gx 9), .ref (gx 10), .ref (gx 11), .int 0]))]) [0] (by decide) rfl
  have hKc := hK.sub (tys' := []) [] rfl
  have hFc := va_free (wc := [(q0, .inr (11, [.ref (gx 0), .ref (gx 1), .ref (gx 2), .ref (gx 3), .ref (gx 4), .ref (gx 5), .ref (gx 6), .ref (gx 7), .ref (gx 8), .ref (gx 9), .ref (gx 10), .ref (gx 11), .int 0]))]) hD hS hA [0] rfl
  refine va_calli (va_runV (As := [.int (xs (Int32.toNatClampNeg 1)), .int (xs (Int32.toNatClampNeg 2))]) (rest := []) ⟨hx, hb, hml, hown, hts⟩ (c_X11_condition l dC dI H.size q0 gx (xs (Int32.toNatClampNeg 1)) (xs (Int32.toNatClampNeg 2))) (cwV 2 hts ug_L_law_X11_condition rfl rfl rfl (by decide +kernel) ⟨Nat.le_of_ble_eq_true rfl, Nat.le_of_ble_eq_true rfl⟩) ⟨fun a U g mk q => by obtain ⟨q0, q1, qP, qK, qD⟩ := q; exact ⟨q0, q1, qP, va_K.moved (u := U) (U := U.calling g mk a) (Vm.Alike.refl U.vm) qK, qD⟩, va_recv hKc hPc (ci := 11) (q0 := 0) rfl rfl, fun U hU hW => ⟨rfl, by rw [hU], by rw [hU]; exact hPc, va_K.moved hW.alike hKc, hDc.weaken (fun _ _ _ _ => trivial)⟩⟩ rfl rfl hl.1 rfl (lv_room (Nat.le_of_ble_eq_true rfl)) dL_law_636 ⟨Nat.le_of_ble_eq_true rfl, Nat.le_of_ble_eq_true rfl⟩) hS (fun q _ h => hFc q h) hFc (fun r_3 u t H locs ht hvm hw hB hz1 hk1 hS => ?_)
  obtain ⟨hP, hD⟩ := va_join (wr := [((gx 0), .inr (9, [.ref (gx 12), .int 0, .int 0])), ((gx 12), .inl (cX, 240, .inl (fun _ => 0))), ((gx 2), .inr (3, [.int 0, .int 0, .ref (gx 13), .ref (gx 14), .ref (gx 15), .ref (gx 16), .ref (gx 17), .ref (gx 18)])), (q1, .inr (12, mF gm 0 0 0 0 0)), ((gm 0), .inl (cM, 240, .inl (fun _ => 0))), (q2, .inl (cJ, 1, .inr (.inl (fun _ => 0))))]) (w1 := []) hP hD [0] [1, 2, 3, 4, 5, 6] rfl rfl (by decide) (by decide) hk1 hFc p_nil d_nil
  clear hPc hDc hFc hk1 hz1
  have hP : va_P (dC, dI) vwCl [((gx 0), .inr (9, [.ref (gx 12), .int 0, .int 0])), ((gx 12), .inl (cX, 240, .inl (fun _ => 0))), ((gx 2), .inr (3, [.int 0, .int 0, .ref (gx 13), .ref (gx 14), .ref (gx 15), .ref (gx 16), .ref (gx 17), .ref (gx 18)])), (q1, .inr (12, mF gm 0 0 0 0 0)), ((gm 0), .inl (cM, 240, .inl (fun _ => 0))), (q2, .inl (cJ, 1, .inr (.inl (fun _ => 0))))] H := hP
  have hD : va_D (fun q : Nat => s.heap.size ≤ q) [((gx 0), .inr (9, [.ref (gx 12), .int 0, .int 0])), ((gx 12), .inl (cX, 240, .inl (fun _ => 0))), ((gx 2), .inr (3, [.int 0, .int 0, .ref (gx 13), .ref (gx 14), .ref (gx 15), .ref (gx 16), .ref (gx 17), .ref (gx 18)])), (q1, .inr (12, mF gm 0 0 0 0 0)), ((gm 0), .inl (cM, 240, .inl (fun _ => 0))), (q2, .inl (cJ, 1, .inr (.inl (fun _ => 0))))] := hD
  obtain rfl : r_3 = (-1) := hw
  refine lv_aload_n hx hb dL_law_639 rfl (lv_at hl 2 rfl) ?_
  refine lv_aload_n hx hb dL_law_640 rfl (lv_at hl 4 rfl) ?_
  refine lv_iload hx hb dL_law_641 (lv_at hl 0 rfl) ?_
  refine lv_iconst (v := 1) hx hb dL_law_643 (by decide) ?_
  refine lv_iadd hx hb dL_law_644 ?_
  refine lv_topi (fun v_5 e_5 => ?_)
  obtain rfl : v_5 = 1 := by rw [e_5]; decide
  refine va_sld hx hb hX hbl hbA hS (by unfold vp_in; decide : vp_in 1 7) dL_law_645 ?_
  refine lv_aload_n hx hb dL_law_646 rfl (lv_at hl 4 rfl) ?_
  refine lv_iload hx hb dL_law_647 (lv_at hl 0 rfl) ?_
  refine lv_iconst (v := 2) hx hb dL_law_649 (by decide) ?_
  refine lv_iadd hx hb dL_law_650 ?_
  refine lv_topi (fun v_6 e_6 => ?_)
  obtain rfl : v_6 = 2 := by rw [e_6]; decide
  refine va_sld hx hb hX hbl hbA hS (by unfold vp_in; decide : vp_in 2 7) dL_law_651 ?_
  have hPc := hP.sub (ws' := [(q1, .inr (12, mF gm 0 0 0 0 0))]) [3] rfl
  have hDc := hD.sub (ws' := [(q1, .inr (12, mF gm 0 0 0 0 0))]) [3] (by decide) rfl
  have hKc := hK.sub (tys' := []) [] rfl
  have hFc := va_free (wc := [(q1, .inr (12, mF gm 0 0 0 0 0))]) hD hS hA [3] rfl
  refine va_calli (va_runV (As := [.int (xs (Int32.toNatClampNeg 1)), .int (xs (Int32.toNatClampNeg 2))]) (rest := [.int (-1)]) ⟨hx, hb, hml, hown, hts⟩ (c_X12_condition l dC dI H.size q1 gm (xs (Int32.toNatClampNeg 1)) (xs (Int32.toNatClampNeg 2))) (cwV 2 hts ug_L_law_X12_condition rfl rfl rfl (by decide +kernel) ⟨Nat.le_of_ble_eq_true rfl, Nat.le_of_ble_eq_true rfl⟩) ⟨fun a U g mk q => by obtain ⟨q0, q1, qP, qK, qD⟩ := q; exact ⟨q0, q1, qP, va_K.moved (u := U) (U := U.calling g mk a) (Vm.Alike.refl U.vm) qK, qD⟩, va_recv hKc hPc (ci := 12) (q0 := 0) rfl rfl, fun U hU hW => ⟨rfl, by rw [hU], by rw [hU]; exact hPc, va_K.moved hW.alike hKc, hDc.weaken (fun _ _ _ _ => trivial)⟩⟩ rfl rfl hl.1 rfl (lv_room (Nat.le_of_ble_eq_true rfl)) dL_law_652 ⟨Nat.le_of_ble_eq_true rfl, Nat.le_of_ble_eq_true rfl⟩) hS (fun q _ h => hFc q h) hFc (fun r_7 u t H locs ht hvm hw hB hz1 hk1 hS => ?_)
  obtain ⟨hP, hD⟩ := va_join (wr := [((gx 0), .inr (9, [.ref (gx 12), .int 0, .int 0])), ((gx 12), .inl (cX, 240, .inl (fun _ => 0))), ((gx 2), .inr (3, [.int 0, .int 0, .ref (gx 13), .ref (gx 14), .ref (gx 15), .ref (gx 16), .ref (gx 17), .ref (gx 18)])), ((gm 0), .inl (cM, 240, .inl (fun _ => 0))), (q2, .inl (cJ, 1, .inr (.inl (fun _ => 0))))]) (w1 := []) hP hD [3] [0, 1, 2, 4, 5] rfl rfl (by decide) (by decide) hk1 hFc p_nil d_nil
  clear hPc hDc hFc hk1 hz1
  have hP : va_P (dC, dI) vwCl [((gx 0), .inr (9, [.ref (gx 12), .int 0, .int 0])), ((gx 12), .inl (cX, 240, .inl (fun _ => 0))), ((gx 2), .inr (3, [.int 0, .int 0, .ref (gx 13), .ref (gx 14), .ref (gx 15), .ref (gx 16), .ref (gx 17), .ref (gx 18)])), ((gm 0), .inl (cM, 240, .inl (fun _ => 0))), (q2, .inl (cJ, 1, .inr (.inl (fun _ => 0))))] H := hP
  have hD : va_D (fun q : Nat => s.heap.size ≤ q) [((gx 0), .inr (9, [.ref (gx 12), .int 0, .int 0])), ((gx 12), .inl (cX, 240, .inl (fun _ => 0))), ((gx 2), .inr (3, [.int 0, .int 0, .ref (gx 13), .ref (gx 14), .ref (gx 15), .ref (gx 16), .ref (gx 17), .ref (gx 18)])), ((gm 0), .inl (cM, 240, .inl (fun _ => 0))), (q2, .inl (cJ, 1, .inr (.inl (fun _ => 0))))] := hD
  obtain rfl : r_7 = (-1) := hw
  refine lv_icmp_eq (tgt := 1033) hx hb dL_law_655 (by decide) (fun c_9 => ?_) (fun c_9 => absurd (by decide) c_9)
  exact law_tail l hC0 hS (Nat.le_of_ble_eq_true rfl) (Nat.le_of_ble_eq_true rfl) ls (lv_sub hl [0, 4] rfl)

set_option maxHeartbeats 8000000 in
set_option maxRecDepth 100000 in
/-- the call of place 13 -/
theorem law_case_13 {p : Program} {e : Env} {s : State} {m : MethodId} {below : List Frame} {meth : Method} {c : Code} (l : Launch) {b : Nat} {xs : Nat → Int32} (C0 : lw_At p s m meth c b 7 xs) {dC : Nat → ClassId} {dI : Nat → Nat → Nat} (q0 q1 q2 : Nat) (gx gm : Nat → Nat) (cX cM cJ : ClassId) (sa1 sa2 : Nat) (hfl : l.stackTraces = false) (hE1 : xE sa1 198 "no such instruction" (fun q : Nat => s.heap.size ≤ q) s s.heap) (hE2 : xE sa2 220 "no such block" (fun q : Nat => s.heap.size ≤ q) s s.heap) {H : Heap} {locs : List Loc} (hK : va_K (dC, dI) vwCl [(cX, .byte), (cM, .byte), (cJ, .long)] s) (hP : va_P (dC, dI) vwCl [(q0, .inr (11, [.ref (gx 0), .ref (gx 1), .ref (gx 2), .ref (gx 3), .ref (gx 4), .ref (gx 5), .ref (gx 6), .ref (gx 7), .ref (gx 8), .ref (gx 9), .ref (gx 10), .ref (gx 11), .int 0])), ((gx 0), .inr (9, [.ref (gx 12), .int 0, .int 0])), ((gx 12), .inl (cX, 240, .inl (fun _ => 0))), ((gx 2), .inr (3, [.int 0, .int 0, .ref (gx 13), .ref (gx 14), .ref (gx 15), .ref (gx 16), .ref (gx 17), .ref (gx 18)])), (q1, .inr (12, mF gm 0 0 0 0 0)), ((gm 0), .inl (cM, 240, .inl (fun _ => 0))), (q2, .inl (cJ, 1, .inr (.inl (fun _ => 0))))] H) (hD : va_D (fun q : Nat => s.heap.size ≤ q) [(q0, .inr (11, [.ref (gx 0), .ref (gx 1), .ref (gx 2), .ref (gx 3), .ref (gx 4), .ref (gx 5), .ref (gx 6), .ref (gx 7), .ref (gx 8), .ref (gx 9), .ref (gx 10), .ref (gx 11), .int 0])), ((gx 0), .inr (9, [.ref (gx 12), .int 0, .int 0])), ((gx 12), .inl (cX, 240, .inl (fun _ => 0))), ((gx 2), .inr (3, [.int 0, .int 0, .ref (gx 13), .ref (gx 14), .ref (gx 15), .ref (gx 16), .ref (gx 17), .ref (gx 18)])), (q1, .inr (12, mF gm 0 0 0 0 0)), ((gm 0), .inl (cM, 240, .inl (fun _ => 0))), (q2, .inl (cJ, 1, .inr (.inl (fun _ => 0))))]) (hS : va_S (fun q : Nat => s.heap.size ≤ q) s.heap H locs) (ls : Array Slot) (hl : lv_has ls 7 [(4, .int 0), (3, .ref q2), (2, .ref q1), (1, .ref q0), (0, .ref b)]) : W p l e room_1 s m #[Value.ref b] below meth c H locs 132 55263 (lw_Z below #[Value.ref b] s) (F0 m 660 ls []) := by
  have hC0 := C0
  obtain ⟨hx, hb, hr, hml, hown, hts, hX, hbl, hlocks, hgv⟩ := C0
  have hown : s.vm.findClass RL = some m.cls := hown
  have hA : ∀ q : Nat, s.heap.size ≤ q → (fun q : Nat => s.heap.size ≤ q) q := fun _ h => h
  have hbA : ¬ (fun q : Nat => s.heap.size ≤ q) b := Nat.not_le.mpr hbl
  refine lv_aload_n hx hb dL_law_660 rfl (lv_at hl 3 rfl) ?_
  refine lv_aload_n hx hb dL_law_661 rfl (lv_at hl 4 rfl) ?_
  refine lv_iload hx hb dL_law_662 (lv_at hl 0 rfl) ?_
  refine lv_iconst (v := 1) hx hb dL_law_664 (by decide) ?_
  refine lv_iadd hx hb dL_law_665 ?_
  refine lv_topi (fun v_1 e_1 => ?_)
  obtain rfl : v_1 = 1 := by rw [e_1]; decide
  refine va_sld hx hb hX hbl hbA hS (by unfold vp_in; decide : vp_in 1 7) dL_law_666 ?_
  refine lv_aload_n hx hb dL_law_667 rfl (lv_at hl 4 rfl) ?_
  refine lv_iload hx hb dL_law_668 (lv_at hl 0 rfl) ?_
  refine lv_iconst (v := 2) hx hb dL_law_670 (by decide) ?_
  refine lv_iadd hx hb dL_law_671 ?_
  refine lv_topi (fun v_2 e_2 => ?_)
  obtain rfl : v_2 = 2 := by rw [e_2]; decide
  refine va_sld hx hb hX hbl hbA hS (by unfold vp_in; decide : vp_in 2 7) dL_law_672 ?_
  have hPc := hP.sub (ws' := [(q0, .inr (11, [.ref (gx 0), .ref (gx 1), .ref (gx 2), .ref (gx 3), .ref (gx 4), .ref (gx 5), .ref (gx 6), .ref (gx 7), .ref (gx 8), .ref (gx 9), .ref (gx 10), .ref (gx 11), .int 0]))]) [0] rfl
  have hDc := hD.sub (ws' := [(q0, .inr (11, [.ref (gx 0), .ref (gx 1), .ref (gx 2), .ref (gx 3), .ref (gx 4), .ref (gx 5), .ref (gx 6), .ref (gx 7), .ref (gx 8), .ref (gx 9), .ref (gx 10), .ref (gx 11), .int 0]))]) [0] (by decide) rfl
  have hKc := hK.sub (tys' := []) [] rfl
  have hFc := va_free (wc := [(q0, .inr (11, [.ref (gx 0), .ref (gx 1), .ref (gx 2), .ref (gx 3), .ref (gx 4), .ref (gx 5), .ref (gx 6), .ref (gx 7), .ref (gx 8), .ref (gx 9), .ref (gx 10), .ref (gx 11), .int 0]))]) hD hS hA [0] rfl
  refine va_calli (va_runV (As := [.int (xs (Int32.toNatClampNeg 1)), .int (xs (Int32.toNatClampNeg 2))]) (rest := []) ⟨hx, hb, hml, hown, hts⟩ (c_X11_line l dC dI H.size q0 gx (xs (Int32.toNatClampNeg 1)) (xs (Int32.toNatClampNeg 2))) (cwV 2 hts ug_L_law_X11_line rfl rfl rfl (by decide +kernel) ⟨Nat.le_of_ble_eq_true rfl, Nat.le_of_ble_eq_true rfl⟩) ⟨fun a U g mk q => by obtain ⟨q0, q1, qP, qK, qD⟩ := q; exact ⟨q0, q1, qP, va_K.moved (u := U) (U := U.calling g mk a) (Vm.Alike.refl U.vm) qK, qD⟩, va_recv hKc hPc (ci := 11) (q0 := 0) rfl rfl, fun U hU hW => ⟨rfl, by rw [hU], by rw [hU]; exact hPc, va_K.moved hW.alike hKc, hDc.weaken (fun _ _ _ _ => trivial)⟩⟩ rfl rfl hl.1 rfl (lv_room (Nat.le_of_ble_eq_true rfl)) dL_law_673 ⟨Nat.le_of_ble_eq_true rfl, Nat.le_of_ble_eq_true rfl⟩) hS (fun q _ h => hFc q h) hFc (fun r_3 u t H locs ht hvm hw hB hz1 hk1 hS => ?_)
  obtain ⟨hP, hD⟩ := va_join (wr := [((gx 0), .inr (9, [.ref (gx 12), .int 0, .int 0])), ((gx 12), .inl (cX, 240, .inl (fun _ => 0))), ((gx 2), .inr (3, [.int 0, .int 0, .ref (gx 13), .ref (gx 14), .ref (gx 15), .ref (gx 16), .ref (gx 17), .ref (gx 18)])), (q1, .inr (12, mF gm 0 0 0 0 0)), ((gm 0), .inl (cM, 240, .inl (fun _ => 0))), (q2, .inl (cJ, 1, .inr (.inl (fun _ => 0))))]) (w1 := []) hP hD [0] [1, 2, 3, 4, 5, 6] rfl rfl (by decide) (by decide) hk1 hFc p_nil d_nil
  clear hPc hDc hFc hk1 hz1
  have hP : va_P (dC, dI) vwCl [((gx 0), .inr (9, [.ref (gx 12), .int 0, .int 0])), ((gx 12), .inl (cX, 240, .inl (fun _ => 0))), ((gx 2), .inr (3, [.int 0, .int 0, .ref (gx 13), .ref (gx 14), .ref (gx 15), .ref (gx 16), .ref (gx 17), .ref (gx 18)])), (q1, .inr (12, mF gm 0 0 0 0 0)), ((gm 0), .inl (cM, 240, .inl (fun _ => 0))), (q2, .inl (cJ, 1, .inr (.inl (fun _ => 0))))] H := hP
  have hD : va_D (fun q : Nat => s.heap.size ≤ q) [((gx 0), .inr (9, [.ref (gx 12), .int 0, .int 0])), ((gx 12), .inl (cX, 240, .inl (fun _ => 0))), ((gx 2), .inr (3, [.int 0, .int 0, .ref (gx 13), .ref (gx 14), .ref (gx 15), .ref (gx 16), .ref (gx 17), .ref (gx 18)])), (q1, .inr (12, mF gm 0 0 0 0 0)), ((gm 0), .inl (cM, 240, .inl (fun _ => 0))), (q2, .inl (cJ, 1, .inr (.inl (fun _ => 0))))] := hD
  obtain rfl : r_3 = (-1000000) := hw
  refine lv_aload_n hx hb dL_law_676 rfl (lv_at hl 2 rfl) ?_
  refine lv_aload_n hx hb dL_law_677 rfl (lv_at hl 4 rfl) ?_
  refine lv_iload hx hb dL_law_678 (lv_at hl 0 rfl) ?_
  refine lv_iconst (v := 1) hx hb dL_law_680 (by decide) ?_
  refine lv_iadd hx hb dL_law_681 ?_
  refine lv_topi (fun v_5 e_5 => ?_)
  obtain rfl : v_5 = 1 := by rw [e_5]; decide
  refine va_sld hx hb hX hbl hbA hS (by unfold vp_in; decide : vp_in 1 7) dL_law_682 ?_
  refine lv_aload_n hx hb dL_law_683 rfl (lv_at hl 4 rfl) ?_
  refine lv_iload hx hb dL_law_684 (lv_at hl 0 rfl) ?_
  refine lv_iconst (v := 2) hx hb dL_law_686 (by decide) ?_
  refine lv_iadd hx hb dL_law_687 ?_
  refine lv_topi (fun v_6 e_6 => ?_)
  obtain rfl : v_6 = 2 := by rw [e_6]; decide
  refine va_sld hx hb hX hbl hbA hS (by unfold vp_in; decide : vp_in 2 7) dL_law_688 ?_
  have hPc := hP.sub (ws' := [(q1, .inr (12, mF gm 0 0 0 0 0))]) [3] rfl
  have hDc := hD.sub (ws' := [(q1, .inr (12, mF gm 0 0 0 0 0))]) [3] (by decide) rfl
  have hKc := hK.sub (tys' := []) [] rfl
  have hFc := va_free (wc := [(q1, .inr (12, mF gm 0 0 0 0 0))]) hD hS hA [3] rfl
  refine va_calli (va_runV (As := [.int (xs (Int32.toNatClampNeg 1)), .int (xs (Int32.toNatClampNeg 2))]) (rest := [.int (-1000000)]) ⟨hx, hb, hml, hown, hts⟩ (c_X12_line_ l dC dI H.size q1 gm (xs (Int32.toNatClampNeg 1)) (xs (Int32.toNatClampNeg 2))) (cwV 2 hts ug_L_law_X12_line_ rfl rfl rfl (by decide +kernel) ⟨Nat.le_of_ble_eq_true rfl, Nat.le_of_ble_eq_true rfl⟩) ⟨fun a U g mk q => by obtain ⟨q0, q1, qP, qK, qD⟩ := q; exact ⟨q0, q1, qP, va_K.moved (u := U) (U := U.calling g mk a) (Vm.Alike.refl U.vm) qK, qD⟩, va_recv hKc hPc (ci := 12) (q0 := 0) rfl rfl, fun U hU hW => ⟨rfl, by rw [hU], by rw [hU]; exact hPc, va_K.moved hW.alike hKc, hDc.weaken (fun _ _ _ _ => trivial)⟩⟩ rfl rfl hl.1 rfl (lv_room (Nat.le_of_ble_eq_true rfl)) dL_law_689 ⟨Nat.le_of_ble_eq_true rfl, Nat.le_of_ble_eq_true rfl⟩) hS (fun q _ h => hFc q h) hFc (fun r_7 u t H locs ht hvm hw hB hz1 hk1 hS => ?_)
  obtain ⟨hP, hD⟩ := va_join (wr := [((gx 0), .inr (9, [.ref (gx 12), .int 0, .int 0])), ((gx 12), .inl (cX, 240, .inl (fun _ => 0))), ((gx 2), .inr (3, [.int 0, .int 0, .ref (gx 13), .ref (gx 14), .ref (gx 15), .ref (gx 16), .ref (gx 17), .ref (gx 18)])), ((gm 0), .inl (cM, 240, .inl (fun _ => 0))), (q2, .inl (cJ, 1, .inr (.inl (fun _ => 0))))]) (w1 := []) hP hD [3] [0, 1, 2, 4, 5] rfl rfl (by decide) (by decide) hk1 hFc p_nil d_nil
  clear hPc hDc hFc hk1 hz1
  have hP : va_P (dC, dI) vwCl [((gx 0), .inr (9, [.ref (gx 12), .int 0, .int 0])), ((gx 12), .inl (cX, 240, .inl (fun _ => 0))), ((gx 2), .inr (3, [.int 0, .int 0, .ref (gx 13), .ref (gx 14), .ref (gx 15), .ref (gx 16), .ref (gx 17), .ref (gx 18)])), ((gm 0), .inl (cM, 240, .inl (fun _ => 0))), (q2, .inl (cJ, 1, .inr (.inl (fun _ => 0))))] H := hP
  have hD : va_D (fun q : Nat => s.heap.size ≤ q) [((gx 0), .inr (9, [.ref (gx 12), .int 0, .int 0])), ((gx 12), .inl (cX, 240, .inl (fun _ => 0))), ((gx 2), .inr (3, [.int 0, .int 0, .ref (gx 13), .ref (gx 14), .ref (gx 15), .ref (gx 16), .ref (gx 17), .ref (gx 18)])), ((gm 0), .inl (cM, 240, .inl (fun _ => 0))), (q2, .inl (cJ, 1, .inr (.inl (fun _ => 0))))] := hD
  obtain rfl : r_7 = (-1000000) := hw
  refine lv_icmp_eq (tgt := 1033) hx hb dL_law_692 (by decide) (fun c_9 => ?_) (fun c_9 => absurd (by decide) c_9)
  exact law_tail l hC0 hS (Nat.le_of_ble_eq_true rfl) (Nat.le_of_ble_eq_true rfl) ls (lv_sub hl [0, 4] rfl)

set_option maxHeartbeats 8000000 in
set_option maxRecDepth 100000 in
/-- the call of place 14 -/
theorem law_case_14 {p : Program} {e : Env} {s : State} {m : MethodId} {below : List Frame} {meth : Method} {c : Code} (l : Launch) {b : Nat} {xs : Nat → Int32} (C0 : lw_At p s m meth c b 7 xs) {dC : Nat → ClassId} {dI : Nat → Nat → Nat} (q0 q1 q2 : Nat) (gx gm : Nat → Nat) (cX cM cJ : ClassId) (sa1 sa2 : Nat) (hfl : l.stackTraces = false) (hE1 : xE sa1 198 "no such instruction" (fun q : Nat => s.heap.size ≤ q) s s.heap) (hE2 : xE sa2 220 "no such block" (fun q : Nat => s.heap.size ≤ q) s s.heap) {H : Heap} {locs : List Loc} (hK : va_K (dC, dI) vwCl [(cX, .byte), (cM, .byte), (cJ, .long)] s) (hP : va_P (dC, dI) vwCl [(q0, .inr (11, [.ref (gx 0), .ref (gx 1), .ref (gx 2), .ref (gx 3), .ref (gx 4), .ref (gx 5), .ref (gx 6), .ref (gx 7), .ref (gx 8), .ref (gx 9), .ref (gx 10), .ref (gx 11), .int 0])), ((gx 0), .inr (9, [.ref (gx 12), .int 0, .int 0])), ((gx 12), .inl (cX, 240, .inl (fun _ => 0))), ((gx 2), .inr (3, [.int 0, .int 0, .ref (gx 13), .ref (gx 14), .ref (gx 15), .ref (gx 16), .ref (gx 17), .ref (gx 18)])), (q1, .inr (12, mF gm 0 0 0 0 0)), ((gm 0), .inl (cM, 240, .inl (fun _ => 0))), (q2, .inl (cJ, 1, .inr (.inl (fun _ => 0))))] H) (hD : va_D (fun q : Nat => s.heap.size ≤ q) [(q0, .inr (11, [.ref (gx 0), .ref (gx 1), .ref (gx 2), .ref (gx 3), .ref (gx 4), .ref (gx 5), .ref (gx 6), .ref (gx 7), .ref (gx 8), .ref (gx 9), .ref (gx 10), .ref (gx 11), .int 0])), ((gx 0), .inr (9, [.ref (gx 12), .int 0, .int 0])), ((gx 12), .inl (cX, 240, .inl (fun _ => 0))), ((gx 2), .inr (3, [.int 0, .int 0, .ref (gx 13), .ref (gx 14), .ref (gx 15), .ref (gx 16), .ref (gx 17), .ref (gx 18)])), (q1, .inr (12, mF gm 0 0 0 0 0)), ((gm 0), .inl (cM, 240, .inl (fun _ => 0))), (q2, .inl (cJ, 1, .inr (.inl (fun _ => 0))))]) (hS : va_S (fun q : Nat => s.heap.size ≤ q) s.heap H locs) (ls : Array Slot) (hl : lv_has ls 7 [(4, .int 0), (3, .ref q2), (2, .ref q1), (1, .ref q0), (0, .ref b)]) : W p l e room_1 s m #[Value.ref b] below meth c H locs 132 55263 (lw_Z below #[Value.ref b] s) (F0 m 697 ls []) := by
  have hC0 := C0
  obtain ⟨hx, hb, hr, hml, hown, hts, hX, hbl, hlocks, hgv⟩ := C0
  have hown : s.vm.findClass RL = some m.cls := hown
  have hA : ∀ q : Nat, s.heap.size ≤ q → (fun q : Nat => s.heap.size ≤ q) q := fun _ h => h
  have hbA : ¬ (fun q : Nat => s.heap.size ≤ q) b := Nat.not_le.mpr hbl
  refine lv_aload_n hx hb dL_law_697 rfl (lv_at hl 3 rfl) ?_
  refine lv_aload_n hx hb dL_law_698 rfl (lv_at hl 4 rfl) ?_
  refine lv_iload hx hb dL_law_699 (lv_at hl 0 rfl) ?_
  refine lv_iconst (v := 1) hx hb dL_law_701 (by decide) ?_
  refine lv_iadd hx hb dL_law_702 ?_
  refine lv_topi (fun v_1 e_1 => ?_)
  obtain rfl : v_1 = 1 := by rw [e_1]; decide
  refine va_sld hx hb hX hbl hbA hS (by unfold vp_in; decide : vp_in 1 7) dL_law_703 ?_
  refine lv_aload_n hx hb dL_law_704 rfl (lv_at hl 4 rfl) ?_
  refine lv_iload hx hb dL_law_705 (lv_at hl 0 rfl) ?_
  refine lv_iconst (v := 2) hx hb dL_law_707 (by decide) ?_
  refine lv_iadd hx hb dL_law_708 ?_
  refine lv_topi (fun v_2 e_2 => ?_)
  obtain rfl : v_2 = 2 := by rw [e_2]; decide
  refine va_sld hx hb hX hbl hbA hS (by unfold vp_in; decide : vp_in 2 7) dL_law_709 ?_
  have hPc := hP.sub (ws' := [(q0, .inr (11, [.ref (gx 0), .ref (gx 1), .ref (gx 2), .ref (gx 3), .ref (gx 4), .ref (gx 5), .ref (gx 6), .ref (gx 7), .ref (gx 8), .ref (gx 9), .ref (gx 10), .ref (gx 11), .int 0]))]) [0] rfl
  have hDc := hD.sub (ws' := [(q0, .inr (11, [.ref (gx 0), .ref (gx 1), .ref (gx 2), .ref (gx 3), .ref (gx 4), .ref (gx 5), .ref (gx 6), .ref (gx 7), .ref (gx 8), .ref (gx 9), .ref (gx 10), .ref (gx 11), .int 0]))]) [0] (by decide) rfl
  have hKc := hK.sub (tys' := []) [] rfl
  have hFc := va_free (wc := [(q0, .inr (11, [.ref (gx 0), .ref (gx 1), .ref (gx 2), .ref (gx 3), .ref (gx 4), .ref (gx 5), .ref (gx 6), .ref (gx 7), .ref (gx 8), .ref (gx 9), .ref (gx 10), .ref (gx 11), .int 0]))]) hD hS hA [0] rfl
  refine va_calli (va_runV (As := [.int (xs (Int32.toNatClampNeg 1)), .int (xs (Int32.toNatClampNeg 2))]) (rest := []) ⟨hx, hb, hml, hown, hts⟩ (c_X11_spell l dC dI H.size q0 gx (xs (Int32.toNatClampNeg 1)) (xs (Int32.toNatClampNeg 2))) (cwV 2 hts ug_L_law_X11_spell rfl rfl rfl (by decide +kernel) ⟨Nat.le_of_ble_eq_true rfl, Nat.le_of_ble_eq_true rfl⟩) ⟨fun a U g mk q => by obtain ⟨q0, q1, qP, qK, qD⟩ := q; exact ⟨q0, q1, qP, va_K.moved (u := U) (U := U.calling g mk a) (Vm.Alike.refl U.vm) qK, qD⟩, va_recv hKc hPc (ci := 11) (q0 := 0) rfl rfl, fun U hU hW => ⟨rfl, by rw [hU], by rw [hU]; exact hPc, va_K.moved hW.alike hKc, hDc.weaken (fun _ _ _ _ => trivial)⟩⟩ rfl rfl hl.1 rfl (lv_room (Nat.le_of_ble_eq_true rfl)) dL_law_710 ⟨Nat.le_of_ble_eq_true rfl, Nat.le_of_ble_eq_true rfl⟩) hS (fun q _ h => hFc q h) hFc (fun r_3 u t H locs ht hvm hw hB hz1 hk1 hS => ?_)
  obtain ⟨hP, hD⟩ := va_join (wr := [((gx 0), .inr (9, [.ref (gx 12), .int 0, .int 0])), ((gx 12), .inl (cX, 240, .inl (fun _ => 0))), ((gx 2), .inr (3, [.int 0, .int 0, .ref (gx 13), .ref (gx 14), .ref (gx 15), .ref (gx 16), .ref (gx 17), .ref (gx 18)])), (q1, .inr (12, mF gm 0 0 0 0 0)), ((gm 0), .inl (cM, 240, .inl (fun _ => 0))), (q2, .inl (cJ, 1, .inr (.inl (fun _ => 0))))]) (w1 := []) hP hD [0] [1, 2, 3, 4, 5, 6] rfl rfl (by decide) (by decide) hk1 hFc p_nil d_nil
  clear hPc hDc hFc hk1 hz1
  have hP : va_P (dC, dI) vwCl [((gx 0), .inr (9, [.ref (gx 12), .int 0, .int 0])), ((gx 12), .inl (cX, 240, .inl (fun _ => 0))), ((gx 2), .inr (3, [.int 0, .int 0, .ref (gx 13), .ref (gx 14), .ref (gx 15), .ref (gx 16), .ref (gx 17), .ref (gx 18)])), (q1, .inr (12, mF gm 0 0 0 0 0)), ((gm 0), .inl (cM, 240, .inl (fun _ => 0))), (q2, .inl (cJ, 1, .inr (.inl (fun _ => 0))))] H := hP
  have hD : va_D (fun q : Nat => s.heap.size ≤ q) [((gx 0), .inr (9, [.ref (gx 12), .int 0, .int 0])), ((gx 12), .inl (cX, 240, .inl (fun _ => 0))), ((gx 2), .inr (3, [.int 0, .int 0, .ref (gx 13), .ref (gx 14), .ref (gx 15), .ref (gx 16), .ref (gx 17), .ref (gx 18)])), (q1, .inr (12, mF gm 0 0 0 0 0)), ((gm 0), .inl (cM, 240, .inl (fun _ => 0))), (q2, .inl (cJ, 1, .inr (.inl (fun _ => 0))))] := hD
  obtain rfl : r_3 = (-1) := hw
  refine lv_aload_n hx hb dL_law_713 rfl (lv_at hl 2 rfl) ?_
  refine lv_aload_n hx hb dL_law_714 rfl (lv_at hl 4 rfl) ?_
  refine lv_iload hx hb dL_law_715 (lv_at hl 0 rfl) ?_
  refine lv_iconst (v := 1) hx hb dL_law_717 (by decide) ?_
  refine lv_iadd hx hb dL_law_718 ?_
  refine lv_topi (fun v_5 e_5 => ?_)
  obtain rfl : v_5 = 1 := by rw [e_5]; decide
  refine va_sld hx hb hX hbl hbA hS (by unfold vp_in; decide : vp_in 1 7) dL_law_719 ?_
  refine lv_aload_n hx hb dL_law_720 rfl (lv_at hl 4 rfl) ?_
  refine lv_iload hx hb dL_law_721 (lv_at hl 0 rfl) ?_
  refine lv_iconst (v := 2) hx hb dL_law_723 (by decide) ?_
  refine lv_iadd hx hb dL_law_724 ?_
  refine lv_topi (fun v_6 e_6 => ?_)
  obtain rfl : v_6 = 2 := by rw [e_6]; decide
  refine va_sld hx hb hX hbl hbA hS (by unfold vp_in; decide : vp_in 2 7) dL_law_725 ?_
  have hPc := hP.sub (ws' := [(q1, .inr (12, mF gm 0 0 0 0 0))]) [3] rfl
  have hDc := hD.sub (ws' := [(q1, .inr (12, mF gm 0 0 0 0 0))]) [3] (by decide) rfl
  have hKc := hK.sub (tys' := []) [] rfl
  have hFc := va_free (wc := [(q1, .inr (12, mF gm 0 0 0 0 0))]) hD hS hA [3] rfl
  refine va_calli (va_runV (As := [.int (xs (Int32.toNatClampNeg 1)), .int (xs (Int32.toNatClampNeg 2))]) (rest := [.int (-1)]) ⟨hx, hb, hml, hown, hts⟩ (c_X12_spell l dC dI H.size q1 gm (xs (Int32.toNatClampNeg 1)) (xs (Int32.toNatClampNeg 2))) (cwV 2 hts ug_L_law_X12_spell rfl rfl rfl (by decide +kernel) ⟨Nat.le_of_ble_eq_true rfl, Nat.le_of_ble_eq_true rfl⟩) ⟨fun a U g mk q => by obtain ⟨q0, q1, qP, qK, qD⟩ := q; exact ⟨q0, q1, qP, va_K.moved (u := U) (U := U.calling g mk a) (Vm.Alike.refl U.vm) qK, qD⟩, va_recv hKc hPc (ci := 12) (q0 := 0) rfl rfl, fun U hU hW => ⟨rfl, by rw [hU], by rw [hU]; exact hPc, va_K.moved hW.alike hKc, hDc.weaken (fun _ _ _ _ => trivial)⟩⟩ rfl rfl hl.1 rfl (lv_room (Nat.le_of_ble_eq_true rfl)) dL_law_726 ⟨Nat.le_of_ble_eq_true rfl, Nat.le_of_ble_eq_true rfl⟩) hS (fun q _ h => hFc q h) hFc (fun r_7 u t H locs ht hvm hw hB hz1 hk1 hS => ?_)
  obtain ⟨hP, hD⟩ := va_join (wr := [((gx 0), .inr (9, [.ref (gx 12), .int 0, .int 0])), ((gx 12), .inl (cX, 240, .inl (fun _ => 0))), ((gx 2), .inr (3, [.int 0, .int 0, .ref (gx 13), .ref (gx 14), .ref (gx 15), .ref (gx 16), .ref (gx 17), .ref (gx 18)])), ((gm 0), .inl (cM, 240, .inl (fun _ => 0))), (q2, .inl (cJ, 1, .inr (.inl (fun _ => 0))))]) (w1 := []) hP hD [3] [0, 1, 2, 4, 5] rfl rfl (by decide) (by decide) hk1 hFc p_nil d_nil
  clear hPc hDc hFc hk1 hz1
  have hP : va_P (dC, dI) vwCl [((gx 0), .inr (9, [.ref (gx 12), .int 0, .int 0])), ((gx 12), .inl (cX, 240, .inl (fun _ => 0))), ((gx 2), .inr (3, [.int 0, .int 0, .ref (gx 13), .ref (gx 14), .ref (gx 15), .ref (gx 16), .ref (gx 17), .ref (gx 18)])), ((gm 0), .inl (cM, 240, .inl (fun _ => 0))), (q2, .inl (cJ, 1, .inr (.inl (fun _ => 0))))] H := hP
  have hD : va_D (fun q : Nat => s.heap.size ≤ q) [((gx 0), .inr (9, [.ref (gx 12), .int 0, .int 0])), ((gx 12), .inl (cX, 240, .inl (fun _ => 0))), ((gx 2), .inr (3, [.int 0, .int 0, .ref (gx 13), .ref (gx 14), .ref (gx 15), .ref (gx 16), .ref (gx 17), .ref (gx 18)])), ((gm 0), .inl (cM, 240, .inl (fun _ => 0))), (q2, .inl (cJ, 1, .inr (.inl (fun _ => 0))))] := hD
  obtain rfl : r_7 = (-1) := hw
  refine lv_icmp_eq (tgt := 1033) hx hb dL_law_729 (by decide) (fun c_9 => ?_) (fun c_9 => absurd (by decide) c_9)
  exact law_tail l hC0 hS (Nat.le_of_ble_eq_true rfl) (Nat.le_of_ble_eq_true rfl) ls (lv_sub hl [0, 4] rfl)

set_option maxHeartbeats 8000000 in
set_option maxRecDepth 100000 in
/-- the call of place 15 -/
theorem law_case_15 {p : Program} {e : Env} {s : State} {m : MethodId} {below : List Frame} {meth : Method} {c : Code} (l : Launch) {b : Nat} {xs : Nat → Int32} (C0 : lw_At p s m meth c b 7 xs) {dC : Nat → ClassId} {dI : Nat → Nat → Nat} (q0 q1 q2 : Nat) (gx gm : Nat → Nat) (cX cM cJ : ClassId) (sa1 sa2 : Nat) (hfl : l.stackTraces = false) (hE1 : xE sa1 198 "no such instruction" (fun q : Nat => s.heap.size ≤ q) s s.heap) (hE2 : xE sa2 220 "no such block" (fun q : Nat => s.heap.size ≤ q) s s.heap) {H : Heap} {locs : List Loc} (hK : va_K (dC, dI) vwCl [(cX, .byte), (cM, .byte), (cJ, .long)] s) (hP : va_P (dC, dI) vwCl [(q0, .inr (11, [.ref (gx 0), .ref (gx 1), .ref (gx 2), .ref (gx 3), .ref (gx 4), .ref (gx 5), .ref (gx 6), .ref (gx 7), .ref (gx 8), .ref (gx 9), .ref (gx 10), .ref (gx 11), .int 0])), ((gx 0), .inr (9, [.ref (gx 12), .int 0, .int 0])), ((gx 12), .inl (cX, 240, .inl (fun _ => 0))), ((gx 2), .inr (3, [.int 0, .int 0, .ref (gx 13), .ref (gx 14), .ref (gx 15), .ref (gx 16), .ref (gx 17), .ref (gx 18)])), (q1, .inr (12, mF gm 0 0 0 0 0)), ((gm 0), .inl (cM, 240, .inl (fun _ => 0))), (q2, .inl (cJ, 1, .inr (.inl (fun _ => 0))))] H) (hD : va_D (fun q : Nat => s.heap.size ≤ q) [(q0, .inr (11, [.ref (gx 0), .ref (gx 1), .ref (gx 2), .ref (gx 3), .ref (gx 4), .ref (gx 5), .ref (gx 6), .ref (gx 7), .ref (gx 8), .ref (gx 9), .ref (gx 10), .ref (gx 11), .int 0])), ((gx 0), .inr (9, [.ref (gx 12), .int 0, .int 0])), ((gx 12), .inl (cX, 240, .inl (fun _ => 0))), ((gx 2), .inr (3, [.int 0, .int 0, .ref (gx 13), .ref (gx 14), .ref (gx 15), .ref (gx 16), .ref (gx 17), .ref (gx 18)])), (q1, .inr (12, mF gm 0 0 0 0 0)), ((gm 0), .inl (cM, 240, .inl (fun _ => 0))), (q2, .inl (cJ, 1, .inr (.inl (fun _ => 0))))]) (hS : va_S (fun q : Nat => s.heap.size ≤ q) s.heap H locs) (ls : Array Slot) (hl : lv_has ls 7 [(4, .int 0), (3, .ref q2), (2, .ref q1), (1, .ref q0), (0, .ref b)]) : W p l e room_1 s m #[Value.ref b] below meth c H locs 132 55263 (lw_Z below #[Value.ref b] s) (F0 m 734 ls []) := by
  have hC0 := C0
  obtain ⟨hx, hb, hr, hml, hown, hts, hX, hbl, hlocks, hgv⟩ := C0
  have hown : s.vm.findClass RL = some m.cls := hown
  have hA : ∀ q : Nat, s.heap.size ≤ q → (fun q : Nat => s.heap.size ≤ q) q := fun _ h => h
  have hbA : ¬ (fun q : Nat => s.heap.size ≤ q) b := Nat.not_le.mpr hbl
  refine lv_aload_n hx hb dL_law_734 rfl (lv_at hl 3 rfl) ?_
  refine lv_aload_n hx hb dL_law_735 rfl (lv_at hl 4 rfl) ?_
  refine lv_iload hx hb dL_law_736 (lv_at hl 0 rfl) ?_
  refine lv_iconst (v := 1) hx hb dL_law_738 (by decide) ?_
  refine lv_iadd hx hb dL_law_739 ?_
  refine lv_topi (fun v_1 e_1 => ?_)
  obtain rfl : v_1 = 1 := by rw [e_1]; decide
  refine va_sld hx hb hX hbl hbA hS (by unfold vp_in; decide : vp_in 1 7) dL_law_740 ?_
  refine lv_aload_n hx hb dL_law_741 rfl (lv_at hl 4 rfl) ?_
  refine lv_iload hx hb dL_law_742 (lv_at hl 0 rfl) ?_
  refine lv_iconst (v := 2) hx hb dL_law_744 (by decide) ?_
  refine lv_iadd hx hb dL_law_745 ?_
  refine lv_topi (fun v_2 e_2 => ?_)
  obtain rfl : v_2 = 2 := by rw [e_2]; decide
  refine va_sld hx hb hX hbl hbA hS (by unfold vp_in; decide : vp_in 2 7) dL_law_746 ?_
  have hPc := hP.sub (ws' := [(q0, .inr (11, [.ref (gx 0), .ref (gx 1), .ref (gx 2), .ref (gx 3), .ref (gx 4), .ref (gx 5), .ref (gx 6), .ref (gx 7), .ref (gx 8), .ref (gx 9), .ref (gx 10), .ref (gx 11), .int 0]))]) [0] rfl
  have hDc := hD.sub (ws' := [(q0, .inr (11, [.ref (gx 0), .ref (gx 1), .ref (gx 2), .ref (gx 3), .ref (gx 4), .ref (gx 5), .ref (gx 6), .ref (gx 7), .ref (gx 8), .ref (gx 9), .ref (gx 10), .ref (gx 11), .int 0]))]) [0] (by decide) rfl
  have hKc := hK.sub (tys' := []) [] rfl
  have hFc := va_free (wc := [(q0, .inr (11, [.ref (gx 0), .ref (gx 1), .ref (gx 2), .ref (gx 3), .ref (gx 4), .ref (gx 5), .ref (gx 6), .ref (gx 7), .ref (gx 8), .ref (gx 9), .ref (gx 10), .ref (gx 11), .int 0]))]) hD hS hA [0] rfl
  refine va_calli (va_runV (As := [.int (xs (Int32.toNatClampNeg 1)), .int (xs (Int32.toNatClampNeg 2))]) (rest := []) ⟨hx, hb, hml, hown, hts⟩ (c_X11_type l dC dI H.size q0 gx (xs (Int32.toNatClampNeg 1)) (xs (Int32.toNatClampNeg 2))) (cwV 2 hts ug_L_law_X11_type rfl rfl rfl (by decide +kernel) ⟨Nat.le_of_ble_eq_true rfl, Nat.le_of_ble_eq_true rfl⟩) ⟨fun a U g mk q => by obtain ⟨q0, q1, qP, qK, qD⟩ := q; exact ⟨q0, q1, qP, va_K.moved (u := U) (U := U.calling g mk a) (Vm.Alike.refl U.vm) qK, qD⟩, va_recv hKc hPc (ci := 11) (q0 := 0) rfl rfl, fun U hU hW => ⟨rfl, by rw [hU], by rw [hU]; exact hPc, va_K.moved hW.alike hKc, hDc.weaken (fun _ _ _ _ => trivial)⟩⟩ rfl rfl hl.1 rfl (lv_room (Nat.le_of_ble_eq_true rfl)) dL_law_747 ⟨Nat.le_of_ble_eq_true rfl, Nat.le_of_ble_eq_true rfl⟩) hS (fun q _ h => hFc q h) hFc (fun r_3 u t H locs ht hvm hw hB hz1 hk1 hS => ?_)
  obtain ⟨hP, hD⟩ := va_join (wr := [((gx 0), .inr (9, [.ref (gx 12), .int 0, .int 0])), ((gx 12), .inl (cX, 240, .inl (fun _ => 0))), ((gx 2), .inr (3, [.int 0, .int 0, .ref (gx 13), .ref (gx 14), .ref (gx 15), .ref (gx 16), .ref (gx 17), .ref (gx 18)])), (q1, .inr (12, mF gm 0 0 0 0 0)), ((gm 0), .inl (cM, 240, .inl (fun _ => 0))), (q2, .inl (cJ, 1, .inr (.inl (fun _ => 0))))]) (w1 := []) hP hD [0] [1, 2, 3, 4, 5, 6] rfl rfl (by decide) (by decide) hk1 hFc p_nil d_nil
  clear hPc hDc hFc hk1 hz1
  have hP : va_P (dC, dI) vwCl [((gx 0), .inr (9, [.ref (gx 12), .int 0, .int 0])), ((gx 12), .inl (cX, 240, .inl (fun _ => 0))), ((gx 2), .inr (3, [.int 0, .int 0, .ref (gx 13), .ref (gx 14), .ref (gx 15), .ref (gx 16), .ref (gx 17), .ref (gx 18)])), (q1, .inr (12, mF gm 0 0 0 0 0)), ((gm 0), .inl (cM, 240, .inl (fun _ => 0))), (q2, .inl (cJ, 1, .inr (.inl (fun _ => 0))))] H := hP
  have hD : va_D (fun q : Nat => s.heap.size ≤ q) [((gx 0), .inr (9, [.ref (gx 12), .int 0, .int 0])), ((gx 12), .inl (cX, 240, .inl (fun _ => 0))), ((gx 2), .inr (3, [.int 0, .int 0, .ref (gx 13), .ref (gx 14), .ref (gx 15), .ref (gx 16), .ref (gx 17), .ref (gx 18)])), (q1, .inr (12, mF gm 0 0 0 0 0)), ((gm 0), .inl (cM, 240, .inl (fun _ => 0))), (q2, .inl (cJ, 1, .inr (.inl (fun _ => 0))))] := hD
  obtain rfl : r_3 = (-1) := hw
  refine lv_aload_n hx hb dL_law_750 rfl (lv_at hl 2 rfl) ?_
  refine lv_aload_n hx hb dL_law_751 rfl (lv_at hl 4 rfl) ?_
  refine lv_iload hx hb dL_law_752 (lv_at hl 0 rfl) ?_
  refine lv_iconst (v := 1) hx hb dL_law_754 (by decide) ?_
  refine lv_iadd hx hb dL_law_755 ?_
  refine lv_topi (fun v_5 e_5 => ?_)
  obtain rfl : v_5 = 1 := by rw [e_5]; decide
  refine va_sld hx hb hX hbl hbA hS (by unfold vp_in; decide : vp_in 1 7) dL_law_756 ?_
  refine lv_aload_n hx hb dL_law_757 rfl (lv_at hl 4 rfl) ?_
  refine lv_iload hx hb dL_law_758 (lv_at hl 0 rfl) ?_
  refine lv_iconst (v := 2) hx hb dL_law_760 (by decide) ?_
  refine lv_iadd hx hb dL_law_761 ?_
  refine lv_topi (fun v_6 e_6 => ?_)
  obtain rfl : v_6 = 2 := by rw [e_6]; decide
  refine va_sld hx hb hX hbl hbA hS (by unfold vp_in; decide : vp_in 2 7) dL_law_762 ?_
  have hPc := hP.sub (ws' := [(q1, .inr (12, mF gm 0 0 0 0 0))]) [3] rfl
  have hDc := hD.sub (ws' := [(q1, .inr (12, mF gm 0 0 0 0 0))]) [3] (by decide) rfl
  have hKc := hK.sub (tys' := []) [] rfl
  have hFc := va_free (wc := [(q1, .inr (12, mF gm 0 0 0 0 0))]) hD hS hA [3] rfl
  refine va_calli (va_runV (As := [.int (xs (Int32.toNatClampNeg 1)), .int (xs (Int32.toNatClampNeg 2))]) (rest := [.int (-1)]) ⟨hx, hb, hml, hown, hts⟩ (c_X12_type l dC dI H.size q1 gm (xs (Int32.toNatClampNeg 1)) (xs (Int32.toNatClampNeg 2))) (cwV 2 hts ug_L_law_X12_type rfl rfl rfl (by decide +kernel) ⟨Nat.le_of_ble_eq_true rfl, Nat.le_of_ble_eq_true rfl⟩) ⟨fun a U g mk q => by obtain ⟨q0, q1, qP, qK, qD⟩ := q; exact ⟨q0, q1, qP, va_K.moved (u := U) (U := U.calling g mk a) (Vm.Alike.refl U.vm) qK, qD⟩, va_recv hKc hPc (ci := 12) (q0 := 0) rfl rfl, fun U hU hW => ⟨rfl, by rw [hU], by rw [hU]; exact hPc, va_K.moved hW.alike hKc, hDc.weaken (fun _ _ _ _ => trivial)⟩⟩ rfl rfl hl.1 rfl (lv_room (Nat.le_of_ble_eq_true rfl)) dL_law_763 ⟨Nat.le_of_ble_eq_true rfl, Nat.le_of_ble_eq_true rfl⟩) hS (fun q _ h => hFc q h) hFc (fun r_7 u t H locs ht hvm hw hB hz1 hk1 hS => ?_)
  obtain ⟨hP, hD⟩ := va_join (wr := [((gx 0), .inr (9, [.ref (gx 12), .int 0, .int 0])), ((gx 12), .inl (cX, 240, .inl (fun _ => 0))), ((gx 2), .inr (3, [.int 0, .int 0, .ref (gx 13), .ref (gx 14), .ref (gx 15), .ref (gx 16), .ref (gx 17), .ref (gx 18)])), ((gm 0), .inl (cM, 240, .inl (fun _ => 0))), (q2, .inl (cJ, 1, .inr (.inl (fun _ => 0))))]) (w1 := []) hP hD [3] [0, 1, 2, 4, 5] rfl rfl (by decide) (by decide) hk1 hFc p_nil d_nil
  clear hPc hDc hFc hk1 hz1
  have hP : va_P (dC, dI) vwCl [((gx 0), .inr (9, [.ref (gx 12), .int 0, .int 0])), ((gx 12), .inl (cX, 240, .inl (fun _ => 0))), ((gx 2), .inr (3, [.int 0, .int 0, .ref (gx 13), .ref (gx 14), .ref (gx 15), .ref (gx 16), .ref (gx 17), .ref (gx 18)])), ((gm 0), .inl (cM, 240, .inl (fun _ => 0))), (q2, .inl (cJ, 1, .inr (.inl (fun _ => 0))))] H := hP
  have hD : va_D (fun q : Nat => s.heap.size ≤ q) [((gx 0), .inr (9, [.ref (gx 12), .int 0, .int 0])), ((gx 12), .inl (cX, 240, .inl (fun _ => 0))), ((gx 2), .inr (3, [.int 0, .int 0, .ref (gx 13), .ref (gx 14), .ref (gx 15), .ref (gx 16), .ref (gx 17), .ref (gx 18)])), ((gm 0), .inl (cM, 240, .inl (fun _ => 0))), (q2, .inl (cJ, 1, .inr (.inl (fun _ => 0))))] := hD
  obtain rfl : r_7 = (-1) := hw
  refine lv_icmp_eq (tgt := 1033) hx hb dL_law_766 (by decide) (fun c_9 => ?_) (fun c_9 => absurd (by decide) c_9)
  exact law_tail l hC0 hS (Nat.le_of_ble_eq_true rfl) (Nat.le_of_ble_eq_true rfl) ls (lv_sub hl [0, 4] rfl)

set_option maxHeartbeats 8000000 in
set_option maxRecDepth 100000 in
/-- the call of place 16 -/
theorem law_case_16 {p : Program} {e : Env} {s : State} {m : MethodId} {below : List Frame} {meth : Method} {c : Code} (l : Launch) {b : Nat} {xs : Nat → Int32} (C0 : lw_At p s m meth c b 7 xs) {dC : Nat → ClassId} {dI : Nat → Nat → Nat} (q0 q1 q2 : Nat) (gx gm : Nat → Nat) (cX cM cJ : ClassId) (sa1 sa2 : Nat) (hfl : l.stackTraces = false) (hE1 : xE sa1 198 "no such instruction" (fun q : Nat => s.heap.size ≤ q) s s.heap) (hE2 : xE sa2 220 "no such block" (fun q : Nat => s.heap.size ≤ q) s s.heap) {H : Heap} {locs : List Loc} (hK : va_K (dC, dI) vwCl [(cX, .byte), (cM, .byte), (cJ, .long)] s) (hP : va_P (dC, dI) vwCl [(q0, .inr (11, [.ref (gx 0), .ref (gx 1), .ref (gx 2), .ref (gx 3), .ref (gx 4), .ref (gx 5), .ref (gx 6), .ref (gx 7), .ref (gx 8), .ref (gx 9), .ref (gx 10), .ref (gx 11), .int 0])), ((gx 0), .inr (9, [.ref (gx 12), .int 0, .int 0])), ((gx 12), .inl (cX, 240, .inl (fun _ => 0))), ((gx 2), .inr (3, [.int 0, .int 0, .ref (gx 13), .ref (gx 14), .ref (gx 15), .ref (gx 16), .ref (gx 17), .ref (gx 18)])), (q1, .inr (12, mF gm 0 0 0 0 0)), ((gm 0), .inl (cM, 240, .inl (fun _ => 0))), (q2, .inl (cJ, 1, .inr (.inl (fun _ => 0))))] H) (hD : va_D (fun q : Nat => s.heap.size ≤ q) [(q0, .inr (11, [.ref (gx 0), .ref (gx 1), .ref (gx 2), .ref (gx 3), .ref (gx 4), .ref (gx 5), .ref (gx 6), .ref (gx 7), .ref (gx 8), .ref (gx 9), .ref (gx 10), .ref (gx 11), .int 0])), ((gx 0), .inr (9, [.ref (gx 12), .int 0, .int 0])), ((gx 12), .inl (cX, 240, .inl (fun _ => 0))), ((gx 2), .inr (3, [.int 0, .int 0, .ref (gx 13), .ref (gx 14), .ref (gx 15), .ref (gx 16), .ref (gx 17), .ref (gx 18)])), (q1, .inr (12, mF gm 0 0 0 0 0)), ((gm 0), .inl (cM, 240, .inl (fun _ => 0))), (q2, .inl (cJ, 1, .inr (.inl (fun _ => 0))))]) (hS : va_S (fun q : Nat => s.heap.size ≤ q) s.heap H locs) (ls : Array Slot) (hl : lv_has ls 7 [(4, .int 0), (3, .ref q2), (2, .ref q1), (1, .ref q0), (0, .ref b)]) : W p l e room_1 s m #[Value.ref b] below meth c H locs 132 55263 (lw_Z below #[Value.ref b] s) (F0 m 771 ls []) := by
  have hC0 := C0
  obtain ⟨hx, hb, hr, hml, hown, hts, hX, hbl, hlocks, hgv⟩ := C0
  have hown : s.vm.findClass RL = some m.cls := hown
  have hA : ∀ q : Nat, s.heap.size ≤ q → (fun q : Nat => s.heap.size ≤ q) q := fun _ h => h
  have hbA : ¬ (fun q : Nat => s.heap.size ≤ q) b := Nat.not_le.mpr hbl
  refine lv_aload_n hx hb dL_law_771 rfl (lv_at hl 3 rfl) ?_
  refine lv_aload_n hx hb dL_law_772 rfl (lv_at hl 4 rfl) ?_
  refine lv_iload hx hb dL_law_773 (lv_at hl 0 rfl) ?_
  refine lv_iconst (v := 1) hx hb dL_law_775 (by decide) ?_
  refine lv_iadd hx hb dL_law_776 ?_
  refine lv_topi (fun v_1 e_1 => ?_)
  obtain rfl : v_1 = 1 := by rw [e_1]; decide
  refine va_sld hx hb hX hbl hbA hS (by unfold vp_in; decide : vp_in 1 7) dL_law_777 ?_
  refine lv_aload_n hx hb dL_law_778 rfl (lv_at hl 4 rfl) ?_
  refine lv_iload hx hb dL_law_779 (lv_at hl 0 rfl) ?_
  refine lv_iconst (v := 2) hx hb dL_law_781 (by decide) ?_
  refine lv_iadd hx hb dL_law_782 ?_
  refine lv_topi (fun v_2 e_2 => ?_)
  obtain rfl : v_2 = 2 := by rw [e_2]; decide
  refine va_sld hx hb hX hbl hbA hS (by unfold vp_in; decide : vp_in 2 7) dL_law_783 ?_
  refine lv_aload_n hx hb dL_law_784 rfl (lv_at hl 4 rfl) ?_
  refine lv_iload hx hb dL_law_785 (lv_at hl 0 rfl) ?_
  refine lv_iconst (v := 3) hx hb dL_law_787 (by decide) ?_
  refine lv_iadd hx hb dL_law_788 ?_
  refine lv_topi (fun v_3 e_3 => ?_)
  obtain rfl : v_3 = 3 := by rw [e_3]; decide
  refine va_sld hx hb hX hbl hbA hS (by unfold vp_in; decide : vp_in 3 7) dL_law_789 ?_
  refine lv_aload_n hx hb dL_law_790 rfl (lv_at hl 4 rfl) ?_
  refine lv_iload hx hb dL_law_791 (lv_at hl 0 rfl) ?_
  refine lv_iconst (v := 4) hx hb dL_law_793 (by decide) ?_
  refine lv_iadd hx hb dL_law_794 ?_
  refine lv_topi (fun v_4 e_4 => ?_)
  obtain rfl : v_4 = 4 := by rw [e_4]; decide
  refine va_sld hx hb hX hbl hbA hS (by unfold vp_in; decide : vp_in 4 7) dL_law_795 ?_
  refine lv_aload_n hx hb dL_law_796 rfl (lv_at hl 4 rfl) ?_
  refine lv_iload hx hb dL_law_797 (lv_at hl 0 rfl) ?_
  refine lv_iconst (v := 5) hx hb dL_law_799 (by decide) ?_
  refine lv_iadd hx hb dL_law_800 ?_
  refine lv_topi (fun v_5 e_5 => ?_)
  obtain rfl : v_5 = 5 := by rw [e_5]; decide
  refine va_sld hx hb hX hbl hbA hS (by unfold vp_in; decide : vp_in 5 7) dL_law_801 ?_
  refine lv_aload_n hx hb dL_law_802 rfl (lv_at hl 4 rfl) ?_
  refine lv_iload hx hb dL_law_803 (lv_at hl 0 rfl) ?_
  refine lv_bipush (v := 6) hx hb dL_law_805 (by decide) ?_
  refine lv_iadd hx hb dL_law_807 ?_
  refine lv_topi (fun v_6 e_6 => ?_)
  obtain rfl : v_6 = 6 := by rw [e_6]; decide
  refine va_sld hx hb hX hbl hbA hS (by unfold vp_in; decide : vp_in 6 7) dL_law_808 ?_
  have hPc := hP.sub (ws' := [(q0, .inr (11, [.ref (gx 0), .ref (gx 1), .ref (gx 2), .ref (gx 3), .ref (gx 4), .ref (gx 5), .ref (gx 6), .ref (gx 7), .ref (gx 8), .ref (gx 9), .ref (gx 10), .ref (gx 11), .int 0]))]) [0] rfl
  have hDc := hD.sub (ws' := [(q0, .inr (11, [.ref (gx 0), .ref (gx 1), .ref (gx 2), .ref (gx 3), .ref (gx 4), .ref (gx 5), .ref (gx 6), .ref (gx 7), .ref (gx 8), .ref (gx 9), .ref (gx 10), .ref (gx 11), .int 0]))]) [0] (by decide) rfl
  have hKc := hK.sub (tys' := []) [] rfl
  have hFc := va_free (wc := [(q0, .inr (11, [.ref (gx 0), .ref (gx 1), .ref (gx 2), .ref (gx 3), .ref (gx 4), .ref (gx 5), .ref (gx 6), .ref (gx 7), .ref (gx 8), .ref (gx 9), .ref (gx 10), .ref (gx 11), .int 0]))]) hD hS hA [0] rfl
  refine va_calli (va_runV (As := [.int (xs (Int32.toNatClampNeg 1)), .int (xs (Int32.toNatClampNeg 2)), .int (xs (Int32.toNatClampNeg 3)), .int (xs (Int32.toNatClampNeg 4)), .int (xs (Int32.toNatClampNeg 5)), .int (xs (Int32.toNatClampNeg 6))]) (rest := []) ⟨hx, hb, hml, hown, hts⟩ (c_X11_run l dC dI H.size q0 gx (xs (Int32.toNatClampNeg 1)) (xs (Int32.toNatClampNeg 2)) (xs (Int32.toNatClampNeg 3)) (xs (Int32.toNatClampNeg 4)) (xs (Int32.toNatClampNeg 5)) (xs (Int32.toNatClampNeg 6))) (cwV 6 hts ug_L_law_X11_run rfl rfl rfl (by decide +kernel) ⟨Nat.le_of_ble_eq_true rfl, Nat.le_of_ble_eq_true rfl⟩) ⟨fun a U g mk q => by obtain ⟨q0, q1, qP, qK, qD⟩ := q; exact ⟨q0, q1, qP, va_K.moved (u := U) (U := U.calling g mk a) (Vm.Alike.refl U.vm) qK, qD⟩, va_recv hKc hPc (ci := 11) (q0 := 0) rfl rfl, fun U hU hW => ⟨rfl, by rw [hU], by rw [hU]; exact hPc, va_K.moved hW.alike hKc, hDc.weaken (fun _ _ _ _ => trivial)⟩⟩ rfl rfl hl.1 rfl (lv_room (Nat.le_of_ble_eq_true rfl)) dL_law_809 ⟨Nat.le_of_ble_eq_true rfl, Nat.le_of_ble_eq_true rfl⟩) hS (fun q _ h => hFc q h) hFc (fun r_7 u t H locs ht hvm hw hB hz1 hk1 hS => ?_)
  obtain ⟨hP, hD⟩ := va_join (wr := [((gx 0), .inr (9, [.ref (gx 12), .int 0, .int 0])), ((gx 12), .inl (cX, 240, .inl (fun _ => 0))), ((gx 2), .inr (3, [.int 0, .int 0, .ref (gx 13), .ref (gx 14), .ref (gx 15), .ref (gx 16), .ref (gx 17), .ref (gx 18)])), (q1, .inr (12, mF gm 0 0 0 0 0)), ((gm 0), .inl (cM, 240, .inl (fun _ => 0))), (q2, .inl (cJ, 1, .inr (.inl (fun _ => 0))))]) (w1 := []) hP hD [0] [1, 2, 3, 4, 5, 6] rfl rfl (by decide) (by decide) hk1 hFc p_nil d_nil
  clear hPc hDc hFc hk1 hz1
  have hP : va_P (dC, dI) vwCl [((gx 0), .inr (9, [.ref (gx 12), .int 0, .int 0])), ((gx 12), .inl (cX, 240, .inl (fun _ => 0))), ((gx 2), .inr (3, [.int 0, .int 0, .ref (gx 13), .ref (gx 14), .ref (gx 15), .ref (gx 16), .ref (gx 17), .ref (gx 18)])), (q1, .inr (12, mF gm 0 0 0 0 0)), ((gm 0), .inl (cM, 240, .inl (fun _ => 0))), (q2, .inl (cJ, 1, .inr (.inl (fun _ => 0))))] H := hP
  have hD : va_D (fun q : Nat => s.heap.size ≤ q) [((gx 0), .inr (9, [.ref (gx 12), .int 0, .int 0])), ((gx 12), .inl (cX, 240, .inl (fun _ => 0))), ((gx 2), .inr (3, [.int 0, .int 0, .ref (gx 13), .ref (gx 14), .ref (gx 15), .ref (gx 16), .ref (gx 17), .ref (gx 18)])), (q1, .inr (12, mF gm 0 0 0 0 0)), ((gm 0), .inl (cM, 240, .inl (fun _ => 0))), (q2, .inl (cJ, 1, .inr (.inl (fun _ => 0))))] := hD
  obtain rfl : r_7 = (-1000000) := hw
  refine lv_aload_n hx hb dL_law_812 rfl (lv_at hl 2 rfl) ?_
  refine lv_aload_n hx hb dL_law_813 rfl (lv_at hl 4 rfl) ?_
  refine lv_iload hx hb dL_law_814 (lv_at hl 0 rfl) ?_
  refine lv_iconst (v := 1) hx hb dL_law_816 (by decide) ?_
  refine lv_iadd hx hb dL_law_817 ?_
  refine lv_topi (fun v_9 e_9 => ?_)
  obtain rfl : v_9 = 1 := by rw [e_9]; decide
  refine va_sld hx hb hX hbl hbA hS (by unfold vp_in; decide : vp_in 1 7) dL_law_818 ?_
  refine lv_aload_n hx hb dL_law_819 rfl (lv_at hl 4 rfl) ?_
  refine lv_iload hx hb dL_law_820 (lv_at hl 0 rfl) ?_
  refine lv_iconst (v := 2) hx hb dL_law_822 (by decide) ?_
  refine lv_iadd hx hb dL_law_823 ?_
  refine lv_topi (fun v_10 e_10 => ?_)
  obtain rfl : v_10 = 2 := by rw [e_10]; decide
  refine va_sld hx hb hX hbl hbA hS (by unfold vp_in; decide : vp_in 2 7) dL_law_824 ?_
  refine lv_aload_n hx hb dL_law_825 rfl (lv_at hl 4 rfl) ?_
  refine lv_iload hx hb dL_law_826 (lv_at hl 0 rfl) ?_
  refine lv_iconst (v := 3) hx hb dL_law_828 (by decide) ?_
  refine lv_iadd hx hb dL_law_829 ?_
  refine lv_topi (fun v_11 e_11 => ?_)
  obtain rfl : v_11 = 3 := by rw [e_11]; decide
  refine va_sld hx hb hX hbl hbA hS (by unfold vp_in; decide : vp_in 3 7) dL_law_830 ?_
  refine lv_aload_n hx hb dL_law_831 rfl (lv_at hl 4 rfl) ?_
  refine lv_iload hx hb dL_law_832 (lv_at hl 0 rfl) ?_
  refine lv_iconst (v := 4) hx hb dL_law_834 (by decide) ?_
  refine lv_iadd hx hb dL_law_835 ?_
  refine lv_topi (fun v_12 e_12 => ?_)
  obtain rfl : v_12 = 4 := by rw [e_12]; decide
  refine va_sld hx hb hX hbl hbA hS (by unfold vp_in; decide : vp_in 4 7) dL_law_836 ?_
  refine lv_aload_n hx hb dL_law_837 rfl (lv_at hl 4 rfl) ?_
  refine lv_iload hx hb dL_law_838 (lv_at hl 0 rfl) ?_
  refine lv_iconst (v := 5) hx hb dL_law_840 (by decide) ?_
  refine lv_iadd hx hb dL_law_841 ?_
  refine lv_topi (fun v_13 e_13 => ?_)
  obtain rfl : v_13 = 5 := by rw [e_13]; decide
  refine va_sld hx hb hX hbl hbA hS (by unfold vp_in; decide : vp_in 5 7) dL_law_842 ?_
  refine lv_aload_n hx hb dL_law_843 rfl (lv_at hl 4 rfl) ?_
  refine lv_iload hx hb dL_law_844 (lv_at hl 0 rfl) ?_
  refine lv_bipush (v := 6) hx hb dL_law_846 (by decide) ?_
  refine lv_iadd hx hb dL_law_848 ?_
  refine lv_topi (fun v_14 e_14 => ?_)
  obtain rfl : v_14 = 6 := by rw [e_14]; decide
  refine va_sld hx hb hX hbl hbA hS (by unfold vp_in; decide : vp_in 6 7) dL_law_849 ?_
  have hPc := hP.sub (ws' := [(q1, .inr (12, mF gm 0 0 0 0 0))]) [3] rfl
  have hDc := hD.sub (ws' := [(q1, .inr (12, mF gm 0 0 0 0 0))]) [3] (by decide) rfl
  have hKc := hK.sub (tys' := []) [] rfl
  have hFc := va_free (wc := [(q1, .inr (12, mF gm 0 0 0 0 0))]) hD hS hA [3] rfl
  refine va_calli (va_runV (As := [.int (xs (Int32.toNatClampNeg 1)), .int (xs (Int32.toNatClampNeg 2)), .int (xs (Int32.toNatClampNeg 3)), .int (xs (Int32.toNatClampNeg 4)), .int (xs (Int32.toNatClampNeg 5)), .int (xs (Int32.toNatClampNeg 6))]) (rest := [.int (-1000000)]) ⟨hx, hb, hml, hown, hts⟩ (c_X12_run l dC dI H.size q1 gm (xs (Int32.toNatClampNeg 1)) (xs (Int32.toNatClampNeg 2)) (xs (Int32.toNatClampNeg 3)) (xs (Int32.toNatClampNeg 4)) (xs (Int32.toNatClampNeg 5)) (xs (Int32.toNatClampNeg 6))) (cwV 6 hts ug_L_law_X12_run rfl rfl rfl (by decide +kernel) ⟨Nat.le_of_ble_eq_true rfl, Nat.le_of_ble_eq_true rfl⟩) ⟨fun a U g mk q => by obtain ⟨q0, q1, qP, qK, qD⟩ := q; exact ⟨q0, q1, qP, va_K.moved (u := U) (U := U.calling g mk a) (Vm.Alike.refl U.vm) qK, qD⟩, va_recv hKc hPc (ci := 12) (q0 := 0) rfl rfl, fun U hU hW => ⟨rfl, by rw [hU], by rw [hU]; exact hPc, va_K.moved hW.alike hKc, hDc.weaken (fun _ _ _ _ => trivial)⟩⟩ rfl rfl hl.1 rfl (lv_room (Nat.le_of_ble_eq_true rfl)) dL_law_850 ⟨Nat.le_of_ble_eq_true rfl, Nat.le_of_ble_eq_true rfl⟩) hS (fun q _ h => hFc q h) hFc (fun r_15 u t H locs ht hvm hw hB hz1 hk1 hS => ?_)
  obtain ⟨hP, hD⟩ := va_join (wr := [((gx 0), .inr (9, [.ref (gx 12), .int 0, .int 0])), ((gx 12), .inl (cX, 240, .inl (fun _ => 0))), ((gx 2), .inr (3, [.int 0, .int 0, .ref (gx 13), .ref (gx 14), .ref (gx 15), .ref (gx 16), .ref (gx 17), .ref (gx 18)])), ((gm 0), .inl (cM, 240, .inl (fun _ => 0))), (q2, .inl (cJ, 1, .inr (.inl (fun _ => 0))))]) (w1 := []) hP hD [3] [0, 1, 2, 4, 5] rfl rfl (by decide) (by decide) hk1 hFc p_nil d_nil
  clear hPc hDc hFc hk1 hz1
  have hP : va_P (dC, dI) vwCl [((gx 0), .inr (9, [.ref (gx 12), .int 0, .int 0])), ((gx 12), .inl (cX, 240, .inl (fun _ => 0))), ((gx 2), .inr (3, [.int 0, .int 0, .ref (gx 13), .ref (gx 14), .ref (gx 15), .ref (gx 16), .ref (gx 17), .ref (gx 18)])), ((gm 0), .inl (cM, 240, .inl (fun _ => 0))), (q2, .inl (cJ, 1, .inr (.inl (fun _ => 0))))] H := hP
  have hD : va_D (fun q : Nat => s.heap.size ≤ q) [((gx 0), .inr (9, [.ref (gx 12), .int 0, .int 0])), ((gx 12), .inl (cX, 240, .inl (fun _ => 0))), ((gx 2), .inr (3, [.int 0, .int 0, .ref (gx 13), .ref (gx 14), .ref (gx 15), .ref (gx 16), .ref (gx 17), .ref (gx 18)])), ((gm 0), .inl (cM, 240, .inl (fun _ => 0))), (q2, .inl (cJ, 1, .inr (.inl (fun _ => 0))))] := hD
  obtain rfl : r_15 = (-1000000) := hw
  refine lv_icmp_eq (tgt := 1033) hx hb dL_law_853 (by decide) (fun c_17 => ?_) (fun c_17 => absurd (by decide) c_17)
  exact law_tail l hC0 hS (Nat.le_of_ble_eq_true rfl) (Nat.le_of_ble_eq_true rfl) ls (lv_sub hl [0, 4] rfl)

set_option maxHeartbeats 8000000 in
set_option maxRecDepth 100000 in
/-- the call of place 17 -/
theorem law_case_17 {p : Program} {e : Env} {s : State} {m : MethodId} {below : List Frame} {meth : Method} {c : Code} (l : Launch) {b : Nat} {xs : Nat → Int32} (C0 : lw_At p s m meth c b 7 xs) {dC : Nat → ClassId} {dI : Nat → Nat → Nat} (q0 q1 q2 : Nat) (gx gm : Nat → Nat) (cX cM cJ : ClassId) (sa1 sa2 : Nat) (hfl : l.stackTraces = false) (hE1 : xE sa1 198 "no such instruction" (fun q : Nat => s.heap.size ≤ q) s s.heap) (hE2 : xE sa2 220 "no such block" (fun q : Nat => s.heap.size ≤ q) s s.heap) {H : Heap} {locs : List Loc} (hK : va_K (dC, dI) vwCl [(cX, .byte), (cM, .byte), (cJ, .long)] s) (hP : va_P (dC, dI) vwCl [(q0, .inr (11, [.ref (gx 0), .ref (gx 1), .ref (gx 2), .ref (gx 3), .ref (gx 4), .ref (gx 5), .ref (gx 6), .ref (gx 7), .ref (gx 8), .ref (gx 9), .ref (gx 10), .ref (gx 11), .int 0])), ((gx 0), .inr (9, [.ref (gx 12), .int 0, .int 0])), ((gx 12), .inl (cX, 240, .inl (fun _ => 0))), ((gx 2), .inr (3, [.int 0, .int 0, .ref (gx 13), .ref (gx 14), .ref (gx 15), .ref (gx 16), .ref (gx 17), .ref (gx 18)])), (q1, .inr (12, mF gm 0 0 0 0 0)), ((gm 0), .inl (cM, 240, .inl (fun _ => 0))), (q2, .inl (cJ, 1, .inr (.inl (fun _ => 0))))] H) (hD : va_D (fun q : Nat => s.heap.size ≤ q) [(q0, .inr (11, [.ref (gx 0), .ref (gx 1), .ref (gx 2), .ref (gx 3), .ref (gx 4), .ref (gx 5), .ref (gx 6), .ref (gx 7), .ref (gx 8), .ref (gx 9), .ref (gx 10), .ref (gx 11), .int 0])), ((gx 0), .inr (9, [.ref (gx 12), .int 0, .int 0])), ((gx 12), .inl (cX, 240, .inl (fun _ => 0))), ((gx 2), .inr (3, [.int 0, .int 0, .ref (gx 13), .ref (gx 14), .ref (gx 15), .ref (gx 16), .ref (gx 17), .ref (gx 18)])), (q1, .inr (12, mF gm 0 0 0 0 0)), ((gm 0), .inl (cM, 240, .inl (fun _ => 0))), (q2, .inl (cJ, 1, .inr (.inl (fun _ => 0))))]) (hS : va_S (fun q : Nat => s.heap.size ≤ q) s.heap H locs) (ls : Array Slot) (hl : lv_has ls 7 [(4, .int 0), (3, .ref q2), (2, .ref q1), (1, .ref q0), (0, .ref b)]) : W p l e room_1 s m #[Value.ref b] below meth c H locs 132 55263 (lw_Z below #[Value.ref b] s) (F0 m 858 ls []) := by
  have hC0 := C0
  obtain ⟨hx, hb, hr, hml, hown, hts, hX, hbl, hlocks, hgv⟩ := C0
  have hown : s.vm.findClass RL = some m.cls := hown
  have hA : ∀ q : Nat, s.heap.size ≤ q → (fun q : Nat => s.heap.size ≤ q) q := fun _ h => h
  have hbA : ¬ (fun q : Nat => s.heap.size ≤ q) b := Nat.not_le.mpr hbl
  refine lv_aload_n hx hb dL_law_858 rfl (lv_at hl 3 rfl) ?_
  refine lv_aload_n hx hb dL_law_859 rfl (lv_at hl 4 rfl) ?_
  refine lv_iload hx hb dL_law_860 (lv_at hl 0 rfl) ?_
  refine lv_iconst (v := 1) hx hb dL_law_862 (by decide) ?_
  refine lv_iadd hx hb dL_law_863 ?_
  refine lv_topi (fun v_1 e_1 => ?_)
  obtain rfl : v_1 = 1 := by rw [e_1]; decide
  refine va_sld hx hb hX hbl hbA hS (by unfold vp_in; decide : vp_in 1 7) dL_law_864 ?_
  refine lv_aload_n hx hb dL_law_865 rfl (lv_at hl 4 rfl) ?_
  refine lv_iload hx hb dL_law_866 (lv_at hl 0 rfl) ?_
  refine lv_iconst (v := 2) hx hb dL_law_868 (by decide) ?_
  refine lv_iadd hx hb dL_law_869 ?_
  refine lv_topi (fun v_2 e_2 => ?_)
  obtain rfl : v_2 = 2 := by rw [e_2]; decide
  refine va_sld hx hb hX hbl hbA hS (by unfold vp_in; decide : vp_in 2 7) dL_law_870 ?_
  refine lv_aload_n hx hb dL_law_871 rfl (lv_at hl 4 rfl) ?_
  refine lv_iload hx hb dL_law_872 (lv_at hl 0 rfl) ?_
  refine lv_iconst (v := 3) hx hb dL_law_874 (by decide) ?_
  refine lv_iadd hx hb dL_law_875 ?_
  refine lv_topi (fun v_3 e_3 => ?_)
  obtain rfl : v_3 = 3 := by rw [e_3]; decide
  refine va_sld hx hb hX hbl hbA hS (by unfold vp_in; decide : vp_in 3 7) dL_law_876 ?_
  refine lv_aload_n hx hb dL_law_877 rfl (lv_at hl 4 rfl) ?_
  refine lv_iload hx hb dL_law_878 (lv_at hl 0 rfl) ?_
  refine lv_iconst (v := 4) hx hb dL_law_880 (by decide) ?_
  refine lv_iadd hx hb dL_law_881 ?_
  refine lv_topi (fun v_4 e_4 => ?_)
  obtain rfl : v_4 = 4 := by rw [e_4]; decide
  refine va_sld hx hb hX hbl hbA hS (by unfold vp_in; decide : vp_in 4 7) dL_law_882 ?_
  refine lv_aload_n hx hb dL_law_883 rfl (lv_at hl 4 rfl) ?_
  refine lv_iload hx hb dL_law_884 (lv_at hl 0 rfl) ?_
  refine lv_iconst (v := 5) hx hb dL_law_886 (by decide) ?_
  refine lv_iadd hx hb dL_law_887 ?_
  refine lv_topi (fun v_5 e_5 => ?_)
  obtain rfl : v_5 = 5 := by rw [e_5]; decide
  refine va_sld hx hb hX hbl hbA hS (by unfold vp_in; decide : vp_in 5 7) dL_law_888 ?_
  refine lv_aload_n hx hb dL_law_889 rfl (lv_at hl 4 rfl) ?_
  refine lv_iload hx hb dL_law_890 (lv_at hl 0 rfl) ?_
  refine lv_bipush (v := 6) hx hb dL_law_892 (by decide) ?_
  refine lv_iadd hx hb dL_law_894 ?_
  refine lv_topi (fun v_6 e_6 => ?_)
  obtain rfl : v_6 = 6 := by rw [e_6]; decide
  refine va_sld hx hb hX hbl hbA hS (by unfold vp_in; decide : vp_in 6 7) dL_law_895 ?_
  have hPc := hP.sub (ws' := [(q0, .inr (11, [.ref (gx 0), .ref (gx 1), .ref (gx 2), .ref (gx 3), .ref (gx 4), .ref (gx 5), .ref (gx 6), .ref (gx 7), .ref (gx 8), .ref (gx 9), .ref (gx 10), .ref (gx 11), .int 0]))]) [0] rfl
  have hDc := hD.sub (ws' := [(q0, .inr (11, [.ref (gx 0), .ref (gx 1), .ref (gx 2), .ref (gx 3), .ref (gx 4), .ref (gx 5), .ref (gx 6), .ref (gx 7), .ref (gx 8), .ref (gx 9), .ref (gx 10), .ref (gx 11), .int 0]))]) [0] (by decide) rfl
  have hKc := hK.sub (tys' := []) [] rfl
  have hFc := va_free (wc := [(q0, .inr (11, [.ref (gx 0), .ref (gx 1), .ref (gx 2), .ref (gx 3), .ref (gx 4), .ref (gx 5), .ref (gx 6), .ref (gx 7), .ref (gx 8), .ref (gx 9), .ref (gx 10), .ref (gx 11), .int 0]))]) hD hS hA [0] rfl
  refine va_calli (va_runV (As := [.int (xs (Int32.toNatClampNeg 1)), .int (xs (Int32.toNatClampNeg 2)), .int (xs (Int32.toNatClampNeg 3)), .int (xs (Int32.toNatClampNeg 4)), .int (xs (Int32.toNatClampNeg 5)), .int (xs (Int32.toNatClampNeg 6))]) (rest := []) ⟨hx, hb, hml, hown, hts⟩ (c_X11_output l dC dI H.size q0 gx (xs (Int32.toNatClampNeg 1)) (xs (Int32.toNatClampNeg 2)) (xs (Int32.toNatClampNeg 3)) (xs (Int32.toNatClampNeg 4)) (xs (Int32.toNatClampNeg 5)) (xs (Int32.toNatClampNeg 6))) (cwV 6 hts ug_L_law_X11_output rfl rfl rfl (by decide +kernel) ⟨Nat.le_of_ble_eq_true rfl, Nat.le_of_ble_eq_true rfl⟩) ⟨fun a U g mk q => by obtain ⟨q0, q1, qP, qK, qD⟩ := q; exact ⟨q0, q1, qP, va_K.moved (u := U) (U := U.calling g mk a) (Vm.Alike.refl U.vm) qK, qD⟩, va_recv hKc hPc (ci := 11) (q0 := 0) rfl rfl, fun U hU hW => ⟨rfl, by rw [hU], by rw [hU]; exact hPc, va_K.moved hW.alike hKc, hDc.weaken (fun _ _ _ _ => trivial)⟩⟩ rfl rfl hl.1 rfl (lv_room (Nat.le_of_ble_eq_true rfl)) dL_law_896 ⟨Nat.le_of_ble_eq_true rfl, Nat.le_of_ble_eq_true rfl⟩) hS (fun q _ h => hFc q h) hFc (fun r_7 u t H locs ht hvm hw hB hz1 hk1 hS => ?_)
  obtain ⟨hP, hD⟩ := va_join (wr := [((gx 0), .inr (9, [.ref (gx 12), .int 0, .int 0])), ((gx 12), .inl (cX, 240, .inl (fun _ => 0))), ((gx 2), .inr (3, [.int 0, .int 0, .ref (gx 13), .ref (gx 14), .ref (gx 15), .ref (gx 16), .ref (gx 17), .ref (gx 18)])), (q1, .inr (12, mF gm 0 0 0 0 0)), ((gm 0), .inl (cM, 240, .inl (fun _ => 0))), (q2, .inl (cJ, 1, .inr (.inl (fun _ => 0))))]) (w1 := []) hP hD [0] [1, 2, 3, 4, 5, 6] rfl rfl (by decide) (by decide) hk1 hFc p_nil d_nil
  clear hPc hDc hFc hk1 hz1
  have hP : va_P (dC, dI) vwCl [((gx 0), .inr (9, [.ref (gx 12), .int 0, .int 0])), ((gx 12), .inl (cX, 240, .inl (fun _ => 0))), ((gx 2), .inr (3, [.int 0, .int 0, .ref (gx 13), .ref (gx 14), .ref (gx 15), .ref (gx 16), .ref (gx 17), .ref (gx 18)])), (q1, .inr (12, mF gm 0 0 0 0 0)), ((gm 0), .inl (cM, 240, .inl (fun _ => 0))), (q2, .inl (cJ, 1, .inr (.inl (fun _ => 0))))] H := hP
  have hD : va_D (fun q : Nat => s.heap.size ≤ q) [((gx 0), .inr (9, [.ref (gx 12), .int 0, .int 0])), ((gx 12), .inl (cX, 240, .inl (fun _ => 0))), ((gx 2), .inr (3, [.int 0, .int 0, .ref (gx 13), .ref (gx 14), .ref (gx 15), .ref (gx 16), .ref (gx 17), .ref (gx 18)])), (q1, .inr (12, mF gm 0 0 0 0 0)), ((gm 0), .inl (cM, 240, .inl (fun _ => 0))), (q2, .inl (cJ, 1, .inr (.inl (fun _ => 0))))] := hD
  obtain rfl : r_7 = (-1000000) := hw
  refine lv_aload_n hx hb dL_law_899 rfl (lv_at hl 2 rfl) ?_
  refine lv_aload_n hx hb dL_law_900 rfl (lv_at hl 4 rfl) ?_
  refine lv_iload hx hb dL_law_901 (lv_at hl 0 rfl) ?_
  refine lv_iconst (v := 1) hx hb dL_law_903 (by decide) ?_
  refine lv_iadd hx hb dL_law_904 ?_
  refine lv_topi (fun v_9 e_9 => ?_)
  obtain rfl : v_9 = 1 := by rw [e_9]; decide
  refine va_sld hx hb hX hbl hbA hS (by unfold vp_in; decide : vp_in 1 7) dL_law_905 ?_
  refine lv_aload_n hx hb dL_law_906 rfl (lv_at hl 4 rfl) ?_
  refine lv_iload hx hb dL_law_907 (lv_at hl 0 rfl) ?_
  refine lv_iconst (v := 2) hx hb dL_law_909 (by decide) ?_
  refine lv_iadd hx hb dL_law_910 ?_
  refine lv_topi (fun v_10 e_10 => ?_)
  obtain rfl : v_10 = 2 := by rw [e_10]; decide
  refine va_sld hx hb hX hbl hbA hS (by unfold vp_in; decide : vp_in 2 7) dL_law_911 ?_
  refine lv_aload_n hx hb dL_law_912 rfl (lv_at hl 4 rfl) ?_
  refine lv_iload hx hb dL_law_913 (lv_at hl 0 rfl) ?_
  refine lv_iconst (v := 3) hx hb dL_law_915 (by decide) ?_
  refine lv_iadd hx hb dL_law_916 ?_
  refine lv_topi (fun v_11 e_11 => ?_)
  obtain rfl : v_11 = 3 := by rw [e_11]; decide
  refine va_sld hx hb hX hbl hbA hS (by unfold vp_in; decide : vp_in 3 7) dL_law_917 ?_
  refine lv_aload_n hx hb dL_law_918 rfl (lv_at hl 4 rfl) ?_
  refine lv_iload hx hb dL_law_919 (lv_at hl 0 rfl) ?_
  refine lv_iconst (v := 4) hx hb dL_law_921 (by decide) ?_
  refine lv_iadd hx hb dL_law_922 ?_
  refine lv_topi (fun v_12 e_12 => ?_)
  obtain rfl : v_12 = 4 := by rw [e_12]; decide
  refine va_sld hx hb hX hbl hbA hS (by unfold vp_in; decide : vp_in 4 7) dL_law_923 ?_
  refine lv_aload_n hx hb dL_law_924 rfl (lv_at hl 4 rfl) ?_
  refine lv_iload hx hb dL_law_925 (lv_at hl 0 rfl) ?_
  refine lv_iconst (v := 5) hx hb dL_law_927 (by decide) ?_
  refine lv_iadd hx hb dL_law_928 ?_
  refine lv_topi (fun v_13 e_13 => ?_)
  obtain rfl : v_13 = 5 := by rw [e_13]; decide
  refine va_sld hx hb hX hbl hbA hS (by unfold vp_in; decide : vp_in 5 7) dL_law_929 ?_
  refine lv_aload_n hx hb dL_law_930 rfl (lv_at hl 4 rfl) ?_
  refine lv_iload hx hb dL_law_931 (lv_at hl 0 rfl) ?_
  refine lv_bipush (v := 6) hx hb dL_law_933 (by decide) ?_
  refine lv_iadd hx hb dL_law_935 ?_
  refine lv_topi (fun v_14 e_14 => ?_)
  obtain rfl : v_14 = 6 := by rw [e_14]; decide
  refine va_sld hx hb hX hbl hbA hS (by unfold vp_in; decide : vp_in 6 7) dL_law_936 ?_
  have hPc := hP.sub (ws' := [(q1, .inr (12, mF gm 0 0 0 0 0))]) [3] rfl
  have hDc := hD.sub (ws' := [(q1, .inr (12, mF gm 0 0 0 0 0))]) [3] (by decide) rfl
  have hKc := hK.sub (tys' := []) [] rfl
  have hFc := va_free (wc := [(q1, .inr (12, mF gm 0 0 0 0 0))]) hD hS hA [3] rfl
  refine va_calli (va_runV (As := [.int (xs (Int32.toNatClampNeg 1)), .int (xs (Int32.toNatClampNeg 2)), .int (xs (Int32.toNatClampNeg 3)), .int (xs (Int32.toNatClampNeg 4)), .int (xs (Int32.toNatClampNeg 5)), .int (xs (Int32.toNatClampNeg 6))]) (rest := [.int (-1000000)]) ⟨hx, hb, hml, hown, hts⟩ (c_X12_output l dC dI H.size q1 gm (xs (Int32.toNatClampNeg 1)) (xs (Int32.toNatClampNeg 2)) (xs (Int32.toNatClampNeg 3)) (xs (Int32.toNatClampNeg 4)) (xs (Int32.toNatClampNeg 5)) (xs (Int32.toNatClampNeg 6))) (cwV 6 hts ug_L_law_X12_output rfl rfl rfl (by decide +kernel) ⟨Nat.le_of_ble_eq_true rfl, Nat.le_of_ble_eq_true rfl⟩) ⟨fun a U g mk q => by obtain ⟨q0, q1, qP, qK, qD⟩ := q; exact ⟨q0, q1, qP, va_K.moved (u := U) (U := U.calling g mk a) (Vm.Alike.refl U.vm) qK, qD⟩, va_recv hKc hPc (ci := 12) (q0 := 0) rfl rfl, fun U hU hW => ⟨rfl, by rw [hU], by rw [hU]; exact hPc, va_K.moved hW.alike hKc, hDc.weaken (fun _ _ _ _ => trivial)⟩⟩ rfl rfl hl.1 rfl (lv_room (Nat.le_of_ble_eq_true rfl)) dL_law_937 ⟨Nat.le_of_ble_eq_true rfl, Nat.le_of_ble_eq_true rfl⟩) hS (fun q _ h => hFc q h) hFc (fun r_15 u t H locs ht hvm hw hB hz1 hk1 hS => ?_)
  obtain ⟨hP, hD⟩ := va_join (wr := [((gx 0), .inr (9, [.ref (gx 12), .int 0, .int 0])), ((gx 12), .inl (cX, 240, .inl (fun _ => 0))), ((gx 2), .inr (3, [.int 0, .int 0, .ref (gx 13), .ref (gx 14), .ref (gx 15), .ref (gx 16), .ref (gx 17), .ref (gx 18)])), ((gm 0), .inl (cM, 240, .inl (fun _ => 0))), (q2, .inl (cJ, 1, .inr (.inl (fun _ => 0))))]) (w1 := []) hP hD [3] [0, 1, 2, 4, 5] rfl rfl (by decide) (by decide) hk1 hFc p_nil d_nil
  clear hPc hDc hFc hk1 hz1
  have hP : va_P (dC, dI) vwCl [((gx 0), .inr (9, [.ref (gx 12), .int 0, .int 0])), ((gx 12), .inl (cX, 240, .inl (fun _ => 0))), ((gx 2), .inr (3, [.int 0, .int 0, .ref (gx 13), .ref (gx 14), .ref (gx 15), .ref (gx 16), .ref (gx 17), .ref (gx 18)])), ((gm 0), .inl (cM, 240, .inl (fun _ => 0))), (q2, .inl (cJ, 1, .inr (.inl (fun _ => 0))))] H := hP
  have hD : va_D (fun q : Nat => s.heap.size ≤ q) [((gx 0), .inr (9, [.ref (gx 12), .int 0, .int 0])), ((gx 12), .inl (cX, 240, .inl (fun _ => 0))), ((gx 2), .inr (3, [.int 0, .int 0, .ref (gx 13), .ref (gx 14), .ref (gx 15), .ref (gx 16), .ref (gx 17), .ref (gx 18)])), ((gm 0), .inl (cM, 240, .inl (fun _ => 0))), (q2, .inl (cJ, 1, .inr (.inl (fun _ => 0))))] := hD
  obtain rfl : r_15 = (-1000000) := hw
  refine lv_icmp_eq (tgt := 1033) hx hb dL_law_940 (by decide) (fun c_17 => ?_) (fun c_17 => absurd (by decide) c_17)
  exact law_tail l hC0 hS (Nat.le_of_ble_eq_true rfl) (Nat.le_of_ble_eq_true rfl) ls (lv_sub hl [0, 4] rfl)

set_option maxHeartbeats 8000000 in
set_option maxRecDepth 100000 in
/-- the call of place 18 -/
theorem law_case_18 {p : Program} {e : Env} {s : State} {m : MethodId} {below : List Frame} {meth : Method} {c : Code} (l : Launch) {b : Nat} {xs : Nat → Int32} (C0 : lw_At p s m meth c b 7 xs) {dC : Nat → ClassId} {dI : Nat → Nat → Nat} (q0 q1 q2 : Nat) (gx gm : Nat → Nat) (cX cM cJ : ClassId) (sa1 sa2 : Nat) (hfl : l.stackTraces = false) (hE1 : xE sa1 198 "no such instruction" (fun q : Nat => s.heap.size ≤ q) s s.heap) (hE2 : xE sa2 220 "no such block" (fun q : Nat => s.heap.size ≤ q) s s.heap) {H : Heap} {locs : List Loc} (hK : va_K (dC, dI) vwCl [(cX, .byte), (cM, .byte), (cJ, .long)] s) (hP : va_P (dC, dI) vwCl [(q0, .inr (11, [.ref (gx 0), .ref (gx 1), .ref (gx 2), .ref (gx 3), .ref (gx 4), .ref (gx 5), .ref (gx 6), .ref (gx 7), .ref (gx 8), .ref (gx 9), .ref (gx 10), .ref (gx 11), .int 0])), ((gx 0), .inr (9, [.ref (gx 12), .int 0, .int 0])), ((gx 12), .inl (cX, 240, .inl (fun _ => 0))), ((gx 2), .inr (3, [.int 0, .int 0, .ref (gx 13), .ref (gx 14), .ref (gx 15), .ref (gx 16), .ref (gx 17), .ref (gx 18)])), (q1, .inr (12, mF gm 0 0 0 0 0)), ((gm 0), .inl (cM, 240, .inl (fun _ => 0))), (q2, .inl (cJ, 1, .inr (.inl (fun _ => 0))))] H) (hD : va_D (fun q : Nat => s.heap.size ≤ q) [(q0, .inr (11, [.ref (gx 0), .ref (gx 1), .ref (gx 2), .ref (gx 3), .ref (gx 4), .ref (gx 5), .ref (gx 6), .ref (gx 7), .ref (gx 8), .ref (gx 9), .ref (gx 10), .ref (gx 11), .int 0])), ((gx 0), .inr (9, [.ref (gx 12), .int 0, .int 0])), ((gx 12), .inl (cX, 240, .inl (fun _ => 0))), ((gx 2), .inr (3, [.int 0, .int 0, .ref (gx 13), .ref (gx 14), .ref (gx 15), .ref (gx 16), .ref (gx 17), .ref (gx 18)])), (q1, .inr (12, mF gm 0 0 0 0 0)), ((gm 0), .inl (cM, 240, .inl (fun _ => 0))), (q2, .inl (cJ, 1, .inr (.inl (fun _ => 0))))]) (hS : va_S (fun q : Nat => s.heap.size ≤ q) s.heap H locs) (ls : Array Slot) (hl : lv_has ls 7 [(4, .int 0), (3, .ref q2), (2, .ref q1), (1, .ref q0), (0, .ref b)]) : W p l e room_1 s m #[Value.ref b] below meth c H locs 132 55263 (lw_Z below #[Value.ref b] s) (F0 m 945 ls []) := by
  have hC0 := C0
  obtain ⟨hx, hb, hr, hml, hown, hts, hX, hbl, hlocks, hgv⟩ := C0
  have hown : s.vm.findClass RL = some m.cls := hown
  have hA : ∀ q : Nat, s.heap.size ≤ q → (fun q : Nat => s.heap.size ≤ q) q := fun _ h => h
  have hbA : ¬ (fun q : Nat => s.heap.size ≤ q) b := Nat.not_le.mpr hbl
  refine lv_aload_n hx hb dL_law_945 rfl (lv_at hl 3 rfl) ?_
  refine lv_aload_n hx hb dL_law_946 rfl (lv_at hl 4 rfl) ?_
  refine lv_iload hx hb dL_law_947 (lv_at hl 0 rfl) ?_
  refine lv_iconst (v := 1) hx hb dL_law_949 (by decide) ?_
  refine lv_iadd hx hb dL_law_950 ?_
  refine lv_topi (fun v_1 e_1 => ?_)
  obtain rfl : v_1 = 1 := by rw [e_1]; decide
  refine va_sld hx hb hX hbl hbA hS (by unfold vp_in; decide : vp_in 1 7) dL_law_951 ?_
  have hPc := hP.sub (ws' := [(q0, .inr (11, [.ref (gx 0), .ref (gx 1), .ref (gx 2), .ref (gx 3), .ref (gx 4), .ref (gx 5), .ref (gx 6), .ref (gx 7), .ref (gx 8), .ref (gx 9), .ref (gx 10), .ref (gx 11), .int 0]))]) [0] rfl
  have hDc := hD.sub (ws' := [(q0, .inr (11, [.ref (gx 0), .ref (gx 1), .ref (gx 2), .ref (gx 3), .ref (gx 4), .ref (gx 5), .ref (gx 6), .ref (gx 7), .ref (gx 8), .ref (gx 9), .ref (gx 10), .ref (gx 11), .int 0]))]) [0] (by decide) rfl
  have hKc := hK.sub (tys' := []) [] rfl
  have hFc := va_free (wc := [(q0, .inr (11, [.ref (gx 0), .ref (gx 1), .ref (gx 2), .ref (gx 3), .ref (gx 4), .ref (gx 5), .ref (gx 6), .ref (gx 7), .ref (gx 8), .ref (gx 9), .ref (gx 10), .ref (gx 11), .int 0]))]) hD hS hA [0] rfl
  refine va_calll (va_runV (As := [.int (xs (Int32.toNatClampNeg 1))]) (rest := []) ⟨hx, hb, hml, hown, hts⟩ (c_X11_comesTo l dC dI H.size q0 gx (xs (Int32.toNatClampNeg 1))) (cwV 1 hts ug_L_law_X11_comesTo rfl rfl rfl (by decide +kernel) ⟨Nat.le_of_ble_eq_true rfl, Nat.le_of_ble_eq_true rfl⟩) ⟨fun a U g mk q => by obtain ⟨q0, q1, qP, qK, qD⟩ := q; exact ⟨q0, q1, qP, va_K.moved (u := U) (U := U.calling g mk a) (Vm.Alike.refl U.vm) qK, qD⟩, va_recv hKc hPc (ci := 11) (q0 := 0) rfl rfl, fun U hU hW => ⟨rfl, by rw [hU], by rw [hU]; exact hPc, va_K.moved hW.alike hKc, hDc.weaken (fun _ _ _ _ => trivial)⟩⟩ rfl rfl hl.1 rfl (lv_room (Nat.le_of_ble_eq_true rfl)) dL_law_952 ⟨Nat.le_of_ble_eq_true rfl, Nat.le_of_ble_eq_true rfl⟩) hS (fun q _ h => hFc q h) hFc (fun r_2 u t H locs ht hvm hw hB hz1 hk1 hS => ?_)
  obtain ⟨hP, hD⟩ := va_join (wr := [((gx 0), .inr (9, [.ref (gx 12), .int 0, .int 0])), ((gx 12), .inl (cX, 240, .inl (fun _ => 0))), ((gx 2), .inr (3, [.int 0, .int 0, .ref (gx 13), .ref (gx 14), .ref (gx 15), .ref (gx 16), .ref (gx 17), .ref (gx 18)])), (q1, .inr (12, mF gm 0 0 0 0 0)), ((gm 0), .inl (cM, 240, .inl (fun _ => 0))), (q2, .inl (cJ, 1, .inr (.inl (fun _ => 0))))]) (w1 := []) hP hD [0] [1, 2, 3, 4, 5, 6] rfl rfl (by decide) (by decide) hk1 hFc p_nil d_nil
  clear hPc hDc hFc hk1 hz1
  have hP : va_P (dC, dI) vwCl [((gx 0), .inr (9, [.ref (gx 12), .int 0, .int 0])), ((gx 12), .inl (cX, 240, .inl (fun _ => 0))), ((gx 2), .inr (3, [.int 0, .int 0, .ref (gx 13), .ref (gx 14), .ref (gx 15), .ref (gx 16), .ref (gx 17), .ref (gx 18)])), (q1, .inr (12, mF gm 0 0 0 0 0)), ((gm 0), .inl (cM, 240, .inl (fun _ => 0))), (q2, .inl (cJ, 1, .inr (.inl (fun _ => 0))))] H := hP
  have hD : va_D (fun q : Nat => s.heap.size ≤ q) [((gx 0), .inr (9, [.ref (gx 12), .int 0, .int 0])), ((gx 12), .inl (cX, 240, .inl (fun _ => 0))), ((gx 2), .inr (3, [.int 0, .int 0, .ref (gx 13), .ref (gx 14), .ref (gx 15), .ref (gx 16), .ref (gx 17), .ref (gx 18)])), (q1, .inr (12, mF gm 0 0 0 0 0)), ((gm 0), .inl (cM, 240, .inl (fun _ => 0))), (q2, .inl (cJ, 1, .inr (.inl (fun _ => 0))))] := hD
  obtain rfl : r_2 = (-1) := hw
  refine lv_aload_n hx hb dL_law_955 rfl (lv_at hl 2 rfl) ?_
  refine lv_aload_n hx hb dL_law_956 rfl (lv_at hl 4 rfl) ?_
  refine lv_iload hx hb dL_law_957 (lv_at hl 0 rfl) ?_
  refine lv_iconst (v := 1) hx hb dL_law_959 (by decide) ?_
  refine lv_iadd hx hb dL_law_960 ?_
  refine lv_topi (fun v_4 e_4 => ?_)
  obtain rfl : v_4 = 1 := by rw [e_4]; decide
  refine va_sld hx hb hX hbl hbA hS (by unfold vp_in; decide : vp_in 1 7) dL_law_961 ?_
  have hPc := hP.sub (ws' := [(q1, .inr (12, mF gm 0 0 0 0 0))]) [3] rfl
  have hDc := hD.sub (ws' := [(q1, .inr (12, mF gm 0 0 0 0 0))]) [3] (by decide) rfl
  have hKc := hK.sub (tys' := []) [] rfl
  have hFc := va_free (wc := [(q1, .inr (12, mF gm 0 0 0 0 0))]) hD hS hA [3] rfl
  refine va_calll (va_runV (As := [.int (xs (Int32.toNatClampNeg 1))]) (rest := [.long (-1)]) ⟨hx, hb, hml, hown, hts⟩ (c_X12_comesTo l dC dI H.size q1 gm (xs (Int32.toNatClampNeg 1))) (cwV 1 hts ug_L_law_X12_comesTo rfl rfl rfl (by decide +kernel) ⟨Nat.le_of_ble_eq_true rfl, Nat.le_of_ble_eq_true rfl⟩) ⟨fun a U g mk q => by obtain ⟨q0, q1, qP, qK, qD⟩ := q; exact ⟨q0, q1, qP, va_K.moved (u := U) (U := U.calling g mk a) (Vm.Alike.refl U.vm) qK, qD⟩, va_recv hKc hPc (ci := 12) (q0 := 0) rfl rfl, fun U hU hW => ⟨rfl, by rw [hU], by rw [hU]; exact hPc, va_K.moved hW.alike hKc, hDc.weaken (fun _ _ _ _ => trivial)⟩⟩ rfl rfl hl.1 rfl (lv_room (Nat.le_of_ble_eq_true rfl)) dL_law_962 ⟨Nat.le_of_ble_eq_true rfl, Nat.le_of_ble_eq_true rfl⟩) hS (fun q _ h => hFc q h) hFc (fun r_5 u t H locs ht hvm hw hB hz1 hk1 hS => ?_)
  obtain ⟨hP, hD⟩ := va_join (wr := [((gx 0), .inr (9, [.ref (gx 12), .int 0, .int 0])), ((gx 12), .inl (cX, 240, .inl (fun _ => 0))), ((gx 2), .inr (3, [.int 0, .int 0, .ref (gx 13), .ref (gx 14), .ref (gx 15), .ref (gx 16), .ref (gx 17), .ref (gx 18)])), ((gm 0), .inl (cM, 240, .inl (fun _ => 0))), (q2, .inl (cJ, 1, .inr (.inl (fun _ => 0))))]) (w1 := []) hP hD [3] [0, 1, 2, 4, 5] rfl rfl (by decide) (by decide) hk1 hFc p_nil d_nil
  clear hPc hDc hFc hk1 hz1
  have hP : va_P (dC, dI) vwCl [((gx 0), .inr (9, [.ref (gx 12), .int 0, .int 0])), ((gx 12), .inl (cX, 240, .inl (fun _ => 0))), ((gx 2), .inr (3, [.int 0, .int 0, .ref (gx 13), .ref (gx 14), .ref (gx 15), .ref (gx 16), .ref (gx 17), .ref (gx 18)])), ((gm 0), .inl (cM, 240, .inl (fun _ => 0))), (q2, .inl (cJ, 1, .inr (.inl (fun _ => 0))))] H := hP
  have hD : va_D (fun q : Nat => s.heap.size ≤ q) [((gx 0), .inr (9, [.ref (gx 12), .int 0, .int 0])), ((gx 12), .inl (cX, 240, .inl (fun _ => 0))), ((gx 2), .inr (3, [.int 0, .int 0, .ref (gx 13), .ref (gx 14), .ref (gx 15), .ref (gx 16), .ref (gx 17), .ref (gx 18)])), ((gm 0), .inl (cM, 240, .inl (fun _ => 0))), (q2, .inl (cJ, 1, .inr (.inl (fun _ => 0))))] := hD
  obtain rfl : r_5 = (-1) := hw
  refine W.lcmp hx hb dL_law_965 ?_
  refine lv_topi (fun v_7 e_7 => ?_)
  obtain rfl : v_7 = 0 := by rw [e_7]; decide
  refine lv_if_eq (tgt := 1033) hx hb dL_law_966 (by decide) (fun c_8 => ?_) (fun c_8 => absurd (by decide) c_8)
  exact law_tail l hC0 hS (Nat.le_of_ble_eq_true rfl) (Nat.le_of_ble_eq_true rfl) ls (lv_sub hl [0, 4] rfl)

set_option maxHeartbeats 8000000 in
set_option maxRecDepth 100000 in
/-- the call of place 19 -/
theorem law_case_19 {p : Program} {e : Env} {s : State} {m : MethodId} {below : List Frame} {meth : Method} {c : Code} (l : Launch) {b : Nat} {xs : Nat → Int32} (C0 : lw_At p s m meth c b 7 xs) {dC : Nat → ClassId} {dI : Nat → Nat → Nat} (q0 q1 q2 : Nat) (gx gm : Nat → Nat) (cX cM cJ : ClassId) (sa1 sa2 : Nat) (hfl : l.stackTraces = false) (hE1 : xE sa1 198 "no such instruction" (fun q : Nat => s.heap.size ≤ q) s s.heap) (hE2 : xE sa2 220 "no such block" (fun q : Nat => s.heap.size ≤ q) s s.heap) {H : Heap} {locs : List Loc} (hK : va_K (dC, dI) vwCl [(cX, .byte), (cM, .byte), (cJ, .long)] s) (hP : va_P (dC, dI) vwCl [(q0, .inr (11, [.ref (gx 0), .ref (gx 1), .ref (gx 2), .ref (gx 3), .ref (gx 4), .ref (gx 5), .ref (gx 6), .ref (gx 7), .ref (gx 8), .ref (gx 9), .ref (gx 10), .ref (gx 11), .int 0])), ((gx 0), .inr (9, [.ref (gx 12), .int 0, .int 0])), ((gx 12), .inl (cX, 240, .inl (fun _ => 0))), ((gx 2), .inr (3, [.int 0, .int 0, .ref (gx 13), .ref (gx 14), .ref (gx 15), .ref (gx 16), .ref (gx 17), .ref (gx 18)])), (q1, .inr (12, mF gm 0 0 0 0 0)), ((gm 0), .inl (cM, 240, .inl (fun _ => 0))), (q2, .inl (cJ, 1, .inr (.inl (fun _ => 0))))] H) (hD : va_D (fun q : Nat => s.heap.size ≤ q) [(q0, .inr (11, [.ref (gx 0), .ref (gx 1), .ref (gx 2), .ref (gx 3), .ref (gx 4), .ref (gx 5), .ref (gx 6), .ref (gx 7), .ref (gx 8), .ref (gx 9), .ref (gx 10), .ref (gx 11), .int 0])), ((gx 0), .inr (9, [.ref (gx 12), .int 0, .int 0])), ((gx 12), .inl (cX, 240, .inl (fun _ => 0))), ((gx 2), .inr (3, [.int 0, .int 0, .ref (gx 13), .ref (gx 14), .ref (gx 15), .ref (gx 16), .ref (gx 17), .ref (gx 18)])), (q1, .inr (12, mF gm 0 0 0 0 0)), ((gm 0), .inl (cM, 240, .inl (fun _ => 0))), (q2, .inl (cJ, 1, .inr (.inl (fun _ => 0))))]) (hS : va_S (fun q : Nat => s.heap.size ≤ q) s.heap H locs) (ls : Array Slot) (hl : lv_has ls 7 [(4, .int 0), (3, .ref q2), (2, .ref q1), (1, .ref q0), (0, .ref b)]) : W p l e room_1 s m #[Value.ref b] below meth c H locs 132 55263 (lw_Z below #[Value.ref b] s) (F0 m 971 ls []) := by
  have hC0 := C0
  obtain ⟨hx, hb, hr, hml, hown, hts, hX, hbl, hlocks, hgv⟩ := C0
  have hown : s.vm.findClass RL = some m.cls := hown
  have hA : ∀ q : Nat, s.heap.size ≤ q → (fun q : Nat => s.heap.size ≤ q) q := fun _ h => h
  have hbA : ¬ (fun q : Nat => s.heap.size ≤ q) b := Nat.not_le.mpr hbl
  refine lv_aload_n hx hb dL_law_971 rfl (lv_at hl 3 rfl) ?_
  refine lv_aload_n hx hb dL_law_972 rfl (lv_at hl 4 rfl) ?_
  refine lv_iload hx hb dL_law_973 (lv_at hl 0 rfl) ?_
  refine lv_iconst (v := 1) hx hb dL_law_975 (by decide) ?_
  refine lv_iadd hx hb dL_law_976 ?_
  refine lv_topi (fun v_1 e_1 => ?_)
  obtain rfl : v_1 = 1 := by rw [e_1]; decide
  refine va_sld hx hb hX hbl hbA hS (by unfold vp_in; decide : vp_in 1 7) dL_law_977 ?_
  refine lv_aload_n hx hb dL_law_978 rfl (lv_at hl 4 rfl) ?_
  refine lv_iload hx hb dL_law_979 (lv_at hl 0 rfl) ?_
  refine lv_iconst (v := 2) hx hb dL_law_981 (by decide) ?_
  refine lv_iadd hx hb dL_law_982 ?_
  refine lv_topi (fun v_2 e_2 => ?_)
  obtain rfl : v_2 = 2 := by rw [e_2]; decide
  refine va_sld hx hb hX hbl hbA hS (by unfold vp_in; decide : vp_in 2 7) dL_law_983 ?_
  have hPc := hP.sub (ws' := [(q0, .inr (11, [.ref (gx 0), .ref (gx 1), .ref (gx 2), .ref (gx 3), .ref (gx 4), .ref (gx 5), .ref (gx 6), .ref (gx 7), .ref (gx 8), .ref (gx 9), .ref (gx 10), .ref (gx 11), .int 0]))]) [0] rfl
  have hDc := hD.sub (ws' := [(q0, .inr (11, [.ref (gx 0), .ref (gx 1), .ref (gx 2), .ref (gx 3), .ref (gx 4), .ref (gx 5), .ref (gx 6), .ref (gx 7), .ref (gx 8), .ref (gx 9), .ref (gx 10), .ref (gx 11), .int 0]))]) [0] (by decide) rfl
  have hKc := hK.sub (tys' := []) [] rfl
  have hFc := va_free (wc := [(q0, .inr (11, [.ref (gx 0), .ref (gx 1), .ref (gx 2), .ref (gx 3), .ref (gx 4), .ref (gx 5), .ref (gx 6), .ref (gx 7), .ref (gx 8), .ref (gx 9), .ref (gx 10), .ref (gx 11), .int 0]))]) hD hS hA [0] rfl
  refine va_calli (va_runV (As := [.int (xs (Int32.toNatClampNeg 1)), .int (xs (Int32.toNatClampNeg 2))]) (rest := []) ⟨hx, hb, hml, hown, hts⟩ (c_X11_far l dC dI H.size q0 gx (xs (Int32.toNatClampNeg 1)) (xs (Int32.toNatClampNeg 2))) (cwV 2 hts ug_L_law_X11_far rfl rfl rfl (by decide +kernel) ⟨Nat.le_of_ble_eq_true rfl, Nat.le_of_ble_eq_true rfl⟩) ⟨fun a U g mk q => by obtain ⟨q0, q1, qP, qK, qD⟩ := q; exact ⟨q0, q1, qP, va_K.moved (u := U) (U := U.calling g mk a) (Vm.Alike.refl U.vm) qK, qD⟩, va_recv hKc hPc (ci := 11) (q0 := 0) rfl rfl, fun U hU hW => ⟨rfl, by rw [hU], by rw [hU]; exact hPc, va_K.moved hW.alike hKc, hDc.weaken (fun _ _ _ _ => trivial)⟩⟩ rfl rfl hl.1 rfl (lv_room (Nat.le_of_ble_eq_true rfl)) dL_law_984 ⟨Nat.le_of_ble_eq_true rfl, Nat.le_of_ble_eq_true rfl⟩) hS (fun q _ h => hFc q h) hFc (fun r_3 u t H locs ht hvm hw hB hz1 hk1 hS => ?_)
  obtain ⟨hP, hD⟩ := va_join (wr := [((gx 0), .inr (9, [.ref (gx 12), .int 0, .int 0])), ((gx 12), .inl (cX, 240, .inl (fun _ => 0))), ((gx 2), .inr (3, [.int 0, .int 0, .ref (gx 13), .ref (gx 14), .ref (gx 15), .ref (gx 16), .ref (gx 17), .ref (gx 18)])), (q1, .inr (12, mF gm 0 0 0 0 0)), ((gm 0), .inl (cM, 240, .inl (fun _ => 0))), (q2, .inl (cJ, 1, .inr (.inl (fun _ => 0))))]) (w1 := []) hP hD [0] [1, 2, 3, 4, 5, 6] rfl rfl (by decide) (by decide) hk1 hFc p_nil d_nil
  clear hPc hDc hFc hk1 hz1
  have hP : va_P (dC, dI) vwCl [((gx 0), .inr (9, [.ref (gx 12), .int 0, .int 0])), ((gx 12), .inl (cX, 240, .inl (fun _ => 0))), ((gx 2), .inr (3, [.int 0, .int 0, .ref (gx 13), .ref (gx 14), .ref (gx 15), .ref (gx 16), .ref (gx 17), .ref (gx 18)])), (q1, .inr (12, mF gm 0 0 0 0 0)), ((gm 0), .inl (cM, 240, .inl (fun _ => 0))), (q2, .inl (cJ, 1, .inr (.inl (fun _ => 0))))] H := hP
  have hD : va_D (fun q : Nat => s.heap.size ≤ q) [((gx 0), .inr (9, [.ref (gx 12), .int 0, .int 0])), ((gx 12), .inl (cX, 240, .inl (fun _ => 0))), ((gx 2), .inr (3, [.int 0, .int 0, .ref (gx 13), .ref (gx 14), .ref (gx 15), .ref (gx 16), .ref (gx 17), .ref (gx 18)])), (q1, .inr (12, mF gm 0 0 0 0 0)), ((gm 0), .inl (cM, 240, .inl (fun _ => 0))), (q2, .inl (cJ, 1, .inr (.inl (fun _ => 0))))] := hD
  obtain rfl : r_3 = (-1) := hw
  refine lv_aload_n hx hb dL_law_987 rfl (lv_at hl 2 rfl) ?_
  refine lv_aload_n hx hb dL_law_988 rfl (lv_at hl 4 rfl) ?_
  refine lv_iload hx hb dL_law_989 (lv_at hl 0 rfl) ?_
  refine lv_iconst (v := 1) hx hb dL_law_991 (by decide) ?_
  refine lv_iadd hx hb dL_law_992 ?_
  refine lv_topi (fun v_5 e_5 => ?_)
  obtain rfl : v_5 = 1 := by rw [e_5]; decide
  refine va_sld hx hb hX hbl hbA hS (by unfold vp_in; decide : vp_in 1 7) dL_law_993 ?_
  refine lv_aload_n hx hb dL_law_994 rfl (lv_at hl 4 rfl) ?_
  refine lv_iload hx hb dL_law_995 (lv_at hl 0 rfl) ?_
  refine lv_iconst (v := 2) hx hb dL_law_997 (by decide) ?_
  refine lv_iadd hx hb dL_law_998 ?_
  refine lv_topi (fun v_6 e_6 => ?_)
  obtain rfl : v_6 = 2 := by rw [e_6]; decide
  refine va_sld hx hb hX hbl hbA hS (by unfold vp_in; decide : vp_in 2 7) dL_law_999 ?_
  have hPc := hP.sub (ws' := [(q1, .inr (12, mF gm 0 0 0 0 0))]) [3] rfl
  have hDc := hD.sub (ws' := [(q1, .inr (12, mF gm 0 0 0 0 0))]) [3] (by decide) rfl
  have hKc := hK.sub (tys' := []) [] rfl
  have hFc := va_free (wc := [(q1, .inr (12, mF gm 0 0 0 0 0))]) hD hS hA [3] rfl
  refine va_calli (va_runV (As := [.int (xs (Int32.toNatClampNeg 1)), .int (xs (Int32.toNatClampNeg 2))]) (rest := [.int (-1)]) ⟨hx, hb, hml, hown, hts⟩ (c_X12_far l dC dI H.size q1 gm (xs (Int32.toNatClampNeg 1)) (xs (Int32.toNatClampNeg 2))) (cwV 2 hts ug_L_law_X12_far rfl rfl rfl (by decide +kernel) ⟨Nat.le_of_ble_eq_true rfl, Nat.le_of_ble_eq_true rfl⟩) ⟨fun a U g mk q => by obtain ⟨q0, q1, qP, qK, qD⟩ := q; exact ⟨q0, q1, qP, va_K.moved (u := U) (U := U.calling g mk a) (Vm.Alike.refl U.vm) qK, qD⟩, va_recv hKc hPc (ci := 12) (q0 := 0) rfl rfl, fun U hU hW => ⟨rfl, by rw [hU], by rw [hU]; exact hPc, va_K.moved hW.alike hKc, hDc.weaken (fun _ _ _ _ => trivial)⟩⟩ rfl rfl hl.1 rfl (lv_room (Nat.le_of_ble_eq_true rfl)) dL_law_1000 ⟨Nat.le_of_ble_eq_true rfl, Nat.le_of_ble_eq_true rfl⟩) hS (fun q _ h => hFc q h) hFc (fun r_7 u t H locs ht hvm hw hB hz1 hk1 hS => ?_)
  obtain ⟨hP, hD⟩ := va_join (wr := [((gx 0), .inr (9, [.ref (gx 12), .int 0, .int 0])), ((gx 12), .inl (cX, 240, .inl (fun _ => 0))), ((gx 2), .inr (3, [.int 0, .int 0, .ref (gx 13), .ref (gx 14), .ref (gx 15), .ref (gx 16), .ref (gx 17), .ref (gx 18)])), ((gm 0), .inl (cM, 240, .inl (fun _ => 0))), (q2, .inl (cJ, 1, .inr (.inl (fun _ => 0))))]) (w1 := []) hP hD [3] [0, 1, 2, 4, 5] rfl rfl (by decide) (by decide) hk1 hFc p_nil d_nil
  clear hPc hDc hFc hk1 hz1
  have hP : va_P (dC, dI) vwCl [((gx 0), .inr (9, [.ref (gx 12), .int 0, .int 0])), ((gx 12), .inl (cX, 240, .inl (fun _ => 0))), ((gx 2), .inr (3, [.int 0, .int 0, .ref (gx 13), .ref (gx 14), .ref (gx 15), .ref (gx 16), .ref (gx 17), .ref (gx 18)])), ((gm 0), .inl (cM, 240, .inl (fun _ => 0))), (q2, .inl (cJ, 1, .inr (.inl (fun _ => 0))))] H := hP
  have hD : va_D (fun q : Nat => s.heap.size ≤ q) [((gx 0), .inr (9, [.ref (gx 12), .int 0, .int 0])), ((gx 12), .inl (cX, 240, .inl (fun _ => 0))), ((gx 2), .inr (3, [.int 0, .int 0, .ref (gx 13), .ref (gx 14), .ref (gx 15), .ref (gx 16), .ref (gx 17), .ref (gx 18)])), ((gm 0), .inl (cM, 240, .inl (fun _ => 0))), (q2, .inl (cJ, 1, .inr (.inl (fun _ => 0))))] := hD
  obtain rfl : r_7 = (-1) := hw
  refine lv_icmp_eq (tgt := 1033) hx hb dL_law_1003 (by decide) (fun c_9 => ?_) (fun c_9 => absurd (by decide) c_9)
  exact law_tail l hC0 hS (Nat.le_of_ble_eq_true rfl) (Nat.le_of_ble_eq_true rfl) ls (lv_sub hl [0, 4] rfl)

set_option maxHeartbeats 8000000 in
set_option maxRecDepth 100000 in
/-- the call of place 20 -/
theorem law_case_20 {p : Program} {e : Env} {s : State} {m : MethodId} {below : List Frame} {meth : Method} {c : Code} (l : Launch) {b : Nat} {xs : Nat → Int32} (C0 : lw_At p s m meth c b 7 xs) {dC : Nat → ClassId} {dI : Nat → Nat → Nat} (q0 q1 q2 : Nat) (gx gm : Nat → Nat) (cX cM cJ : ClassId) (sa1 sa2 : Nat) (hfl : l.stackTraces = false) (hE1 : xE sa1 198 "no such instruction" (fun q : Nat => s.heap.size ≤ q) s s.heap) (hE2 : xE sa2 220 "no such block" (fun q : Nat => s.heap.size ≤ q) s s.heap) {H : Heap} {locs : List Loc} (hK : va_K (dC, dI) vwCl [(cX, .byte), (cM, .byte), (cJ, .long)] s) (hP : va_P (dC, dI) vwCl [(q0, .inr (11, [.ref (gx 0), .ref (gx 1), .ref (gx 2), .ref (gx 3), .ref (gx 4), .ref (gx 5), .ref (gx 6), .ref (gx 7), .ref (gx 8), .ref (gx 9), .ref (gx 10), .ref (gx 11), .int 0])), ((gx 0), .inr (9, [.ref (gx 12), .int 0, .int 0])), ((gx 12), .inl (cX, 240, .inl (fun _ => 0))), ((gx 2), .inr (3, [.int 0, .int 0, .ref (gx 13), .ref (gx 14), .ref (gx 15), .ref (gx 16), .ref (gx 17), .ref (gx 18)])), (q1, .inr (12, mF gm 0 0 0 0 0)), ((gm 0), .inl (cM, 240, .inl (fun _ => 0))), (q2, .inl (cJ, 1, .inr (.inl (fun _ => 0))))] H) (hD : va_D (fun q : Nat => s.heap.size ≤ q) [(q0, .inr (11, [.ref (gx 0), .ref (gx 1), .ref (gx 2), .ref (gx 3), .ref (gx 4), .ref (gx 5), .ref (gx 6), .ref (gx 7), .ref (gx 8), .ref (gx 9), .ref (gx 10), .ref (gx 11), .int 0])), ((gx 0), .inr (9, [.ref (gx 12), .int 0, .int 0])), ((gx 12), .inl (cX, 240, .inl (fun _ => 0))), ((gx 2), .inr (3, [.int 0, .int 0, .ref (gx 13), .ref (gx 14), .ref (gx 15), .ref (gx 16), .ref (gx 17), .ref (gx 18)])), (q1, .inr (12, mF gm 0 0 0 0 0)), ((gm 0), .inl (cM, 240, .inl (fun _ => 0))), (q2, .inl (cJ, 1, .inr (.inl (fun _ => 0))))]) (hS : va_S (fun q : Nat => s.heap.size ≤ q) s.heap H locs) (ls : Array Slot) (hl : lv_has ls 7 [(4, .int 0), (3, .ref q2), (2, .ref q1), (1, .ref q0), (0, .ref b)]) : W p l e room_1 s m #[Value.ref b] below meth c H locs 132 55263 (lw_Z below #[Value.ref b] s) (F0 m 1008 ls []) := by
  have hC0 := C0
  obtain ⟨hx, hb, hr, hml, hown, hts, hX, hbl, hlocks, hgv⟩ := C0
  have hown : s.vm.findClass RL = some m.cls := hown
  have hA : ∀ q : Nat, s.heap.size ≤ q → (fun q : Nat => s.heap.size ≤ q) q := fun _ h => h
  have hbA : ¬ (fun q : Nat => s.heap.size ≤ q) b := Nat.not_le.mpr hbl
  refine lv_aload_n hx hb dL_law_1008 rfl (lv_at hl 3 rfl) ?_
  refine lv_aload_n hx hb dL_law_1009 rfl (lv_at hl 4 rfl) ?_
  refine lv_iload hx hb dL_law_1010 (lv_at hl 0 rfl) ?_
  refine lv_iconst (v := 1) hx hb dL_law_1012 (by decide) ?_
  refine lv_iadd hx hb dL_law_1013 ?_
  refine lv_topi (fun v_1 e_1 => ?_)
  obtain rfl : v_1 = 1 := by rw [e_1]; decide
  refine va_sld hx hb hX hbl hbA hS (by unfold vp_in; decide : vp_in 1 7) dL_law_1014 ?_
  have hPc := hP.sub (ws' := [(q0, .inr (11, [.ref (gx 0), .ref (gx 1), .ref (gx 2), .ref (gx 3), .ref (gx 4), .ref (gx 5), .ref (gx 6), .ref (gx 7), .ref (gx 8), .ref (gx 9), .ref (gx 10), .ref (gx 11), .int 0]))]) [0] rfl
  have hDc := hD.sub (ws' := [(q0, .inr (11, [.ref (gx 0), .ref (gx 1), .ref (gx 2), .ref (gx 3), .ref (gx 4), .ref (gx 5), .ref (gx 6), .ref (gx 7), .ref (gx 8), .ref (gx 9), .ref (gx 10), .ref (gx 11), .int 0]))]) [0] (by decide) rfl
  have hKc := hK.sub (tys' := []) [] rfl
  have hFc := va_free (wc := [(q0, .inr (11, [.ref (gx 0), .ref (gx 1), .ref (gx 2), .ref (gx 3), .ref (gx 4), .ref (gx 5), .ref (gx 6), .ref (gx 7), .ref (gx 8), .ref (gx 9), .ref (gx 10), .ref (gx 11), .int 0]))]) hD hS hA [0] rfl
  refine va_calli (va_runV (As := [.int (xs (Int32.toNatClampNeg 1))]) (rest := []) ⟨hx, hb, hml, hown, hts⟩ (c_X11_most l dC dI H.size q0 gx (xs (Int32.toNatClampNeg 1))) (cwV 1 hts ug_L_law_X11_most rfl rfl rfl (by decide +kernel) ⟨Nat.le_of_ble_eq_true rfl, Nat.le_of_ble_eq_true rfl⟩) ⟨fun a U g mk q => by obtain ⟨q0, q1, qP, qK, qD⟩ := q; exact ⟨q0, q1, qP, va_K.moved (u := U) (U := U.calling g mk a) (Vm.Alike.refl U.vm) qK, qD⟩, va_recv hKc hPc (ci := 11) (q0 := 0) rfl rfl, fun U hU hW => ⟨rfl, by rw [hU], by rw [hU]; exact hPc, va_K.moved hW.alike hKc, hDc.weaken (fun _ _ _ _ => trivial)⟩⟩ rfl rfl hl.1 rfl (lv_room (Nat.le_of_ble_eq_true rfl)) dL_law_1015 ⟨Nat.le_of_ble_eq_true rfl, Nat.le_of_ble_eq_true rfl⟩) hS (fun q _ h => hFc q h) hFc (fun r_2 u t H locs ht hvm hw hB hz1 hk1 hS => ?_)
  obtain ⟨hP, hD⟩ := va_join (wr := [((gx 0), .inr (9, [.ref (gx 12), .int 0, .int 0])), ((gx 12), .inl (cX, 240, .inl (fun _ => 0))), ((gx 2), .inr (3, [.int 0, .int 0, .ref (gx 13), .ref (gx 14), .ref (gx 15), .ref (gx 16), .ref (gx 17), .ref (gx 18)])), (q1, .inr (12, mF gm 0 0 0 0 0)), ((gm 0), .inl (cM, 240, .inl (fun _ => 0))), (q2, .inl (cJ, 1, .inr (.inl (fun _ => 0))))]) (w1 := []) hP hD [0] [1, 2, 3, 4, 5, 6] rfl rfl (by decide) (by decide) hk1 hFc p_nil d_nil
  clear hPc hDc hFc hk1 hz1
  have hP : va_P (dC, dI) vwCl [((gx 0), .inr (9, [.ref (gx 12), .int 0, .int 0])), ((gx 12), .inl (cX, 240, .inl (fun _ => 0))), ((gx 2), .inr (3, [.int 0, .int 0, .ref (gx 13), .ref (gx 14), .ref (gx 15), .ref (gx 16), .ref (gx 17), .ref (gx 18)])), (q1, .inr (12, mF gm 0 0 0 0 0)), ((gm 0), .inl (cM, 240, .inl (fun _ => 0))), (q2, .inl (cJ, 1, .inr (.inl (fun _ => 0))))] H := hP
  have hD : va_D (fun q : Nat => s.heap.size ≤ q) [((gx 0), .inr (9, [.ref (gx 12), .int 0, .int 0])), ((gx 12), .inl (cX, 240, .inl (fun _ => 0))), ((gx 2), .inr (3, [.int 0, .int 0, .ref (gx 13), .ref (gx 14), .ref (gx 15), .ref (gx 16), .ref (gx 17), .ref (gx 18)])), (q1, .inr (12, mF gm 0 0 0 0 0)), ((gm 0), .inl (cM, 240, .inl (fun _ => 0))), (q2, .inl (cJ, 1, .inr (.inl (fun _ => 0))))] := hD
  obtain rfl : r_2 = (-1000000) := hw
  refine lv_aload_n hx hb dL_law_1018 rfl (lv_at hl 2 rfl) ?_
  refine lv_aload_n hx hb dL_law_1019 rfl (lv_at hl 4 rfl) ?_
  refine lv_iload hx hb dL_law_1020 (lv_at hl 0 rfl) ?_
  refine lv_iconst (v := 1) hx hb dL_law_1022 (by decide) ?_
  refine lv_iadd hx hb dL_law_1023 ?_
  refine lv_topi (fun v_4 e_4 => ?_)
  obtain rfl : v_4 = 1 := by rw [e_4]; decide
  refine va_sld hx hb hX hbl hbA hS (by unfold vp_in; decide : vp_in 1 7) dL_law_1024 ?_
  have hPc := hP.sub (ws' := [(q1, .inr (12, mF gm 0 0 0 0 0))]) [3] rfl
  have hDc := hD.sub (ws' := [(q1, .inr (12, mF gm 0 0 0 0 0))]) [3] (by decide) rfl
  have hKc := hK.sub (tys' := []) [] rfl
  have hFc := va_free (wc := [(q1, .inr (12, mF gm 0 0 0 0 0))]) hD hS hA [3] rfl
  refine va_calli (va_runV (As := [.int (xs (Int32.toNatClampNeg 1))]) (rest := [.int (-1000000)]) ⟨hx, hb, hml, hown, hts⟩ (c_X12_most l dC dI H.size q1 gm (xs (Int32.toNatClampNeg 1))) (cwV 1 hts ug_L_law_X12_most rfl rfl rfl (by decide +kernel) ⟨Nat.le_of_ble_eq_true rfl, Nat.le_of_ble_eq_true rfl⟩) ⟨fun a U g mk q => by obtain ⟨q0, q1, qP, qK, qD⟩ := q; exact ⟨q0, q1, qP, va_K.moved (u := U) (U := U.calling g mk a) (Vm.Alike.refl U.vm) qK, qD⟩, va_recv hKc hPc (ci := 12) (q0 := 0) rfl rfl, fun U hU hW => ⟨rfl, by rw [hU], by rw [hU]; exact hPc, va_K.moved hW.alike hKc, hDc.weaken (fun _ _ _ _ => trivial)⟩⟩ rfl rfl hl.1 rfl (lv_room (Nat.le_of_ble_eq_true rfl)) dL_law_1025 ⟨Nat.le_of_ble_eq_true rfl, Nat.le_of_ble_eq_true rfl⟩) hS (fun q _ h => hFc q h) hFc (fun r_5 u t H locs ht hvm hw hB hz1 hk1 hS => ?_)
  obtain ⟨hP, hD⟩ := va_join (wr := [((gx 0), .inr (9, [.ref (gx 12), .int 0, .int 0])), ((gx 12), .inl (cX, 240, .inl (fun _ => 0))), ((gx 2), .inr (3, [.int 0, .int 0, .ref (gx 13), .ref (gx 14), .ref (gx 15), .ref (gx 16), .ref (gx 17), .ref (gx 18)])), ((gm 0), .inl (cM, 240, .inl (fun _ => 0))), (q2, .inl (cJ, 1, .inr (.inl (fun _ => 0))))]) (w1 := []) hP hD [3] [0, 1, 2, 4, 5] rfl rfl (by decide) (by decide) hk1 hFc p_nil d_nil
  clear hPc hDc hFc hk1 hz1
  have hP : va_P (dC, dI) vwCl [((gx 0), .inr (9, [.ref (gx 12), .int 0, .int 0])), ((gx 12), .inl (cX, 240, .inl (fun _ => 0))), ((gx 2), .inr (3, [.int 0, .int 0, .ref (gx 13), .ref (gx 14), .ref (gx 15), .ref (gx 16), .ref (gx 17), .ref (gx 18)])), ((gm 0), .inl (cM, 240, .inl (fun _ => 0))), (q2, .inl (cJ, 1, .inr (.inl (fun _ => 0))))] H := hP
  have hD : va_D (fun q : Nat => s.heap.size ≤ q) [((gx 0), .inr (9, [.ref (gx 12), .int 0, .int 0])), ((gx 12), .inl (cX, 240, .inl (fun _ => 0))), ((gx 2), .inr (3, [.int 0, .int 0, .ref (gx 13), .ref (gx 14), .ref (gx 15), .ref (gx 16), .ref (gx 17), .ref (gx 18)])), ((gm 0), .inl (cM, 240, .inl (fun _ => 0))), (q2, .inl (cJ, 1, .inr (.inl (fun _ => 0))))] := hD
  obtain rfl : r_5 = (-1000000) := hw
  refine lv_icmp_eq (tgt := 1033) hx hb dL_law_1028 (by decide) (fun c_7 => ?_) (fun c_7 => absurd (by decide) c_7)
  exact law_tail l hC0 hS (Nat.le_of_ble_eq_true rfl) (Nat.le_of_ble_eq_true rfl) ls (lv_sub hl [0, 4] rfl)
