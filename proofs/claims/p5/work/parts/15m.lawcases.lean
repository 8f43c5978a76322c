set_option maxHeartbeats 8000000 in
set_option maxRecDepth 100000 in
theorem law_case_0 {p : Program} {e : Env} {s : State} {m : MethodId} {below : List Frame} {meth : Method} {c : Code} (l : Launch) (hfl : l.stackTraces = false) {b L : Nat} {xs : Nat → Int32} (C0 : lw_At p s m meth c b L xs) {D : va_G} {y : Nat → ClassId} {ad av : Nat → Nat} {sa1 sa2 : Nat} (E0 : LEn D y ad av sa1 sa2 s) {om ox : Nat → Nat} {a3 : Nat} {H : Heap} {locs : List Loc} {cells slots : Nat} {σ τ : Sto} {f : Nat → Int64} (hJ : JT σ τ) (hC : CZ D (ALs s) s H locs (LWd y om ox a3 τ σ f)) (hc9 : cells + 1 ≤ 601024) (hs9 : slots + 6 ≤ 7293034) {i : Int32} (hi : 0 ≤ i.toInt) (hi2 : i.toInt + 7 ≤ (L : Int)) (hL : L ≤ 3584) {Q : State → Prop} (ls : Array Slot) (hl : lv_has ls 7 [(4, .int i), (3, .ref a3), (2, .ref (om 0)), (1, .ref (ox 0)), (0, .ref b)]) (kk : ∀ (H1 : Heap) (locs1 : List Loc) (σ1 τ1 : Sto) (f1 : Nat → Int64) (cells1 slots1 : Nat) (ls1 : Array Slot), JT σ1 τ1 → CZ D (ALs s) s H1 locs1 (LWd y om ox a3 τ1 σ1 f1) → cells1 ≤ cells + 1 → slots1 ≤ slots + 6 → lv_has ls1 7 [(4, .int i), (3, .ref a3), (2, .ref (om 0)), (1, .ref (ox 0)), (0, .ref b)] → W p l e room_1 s m #[Value.ref b] below meth c H1 locs1 cells1 slots1 Q (F0 m 975 ls1 [])) : W p l e room_1 s m #[Value.ref b] below meth c H locs cells slots Q (F0 m 140 ls []) := by
  obtain ⟨hx, hb, hr, hml, hown, hts, hX, hbl, hlocks, hgv⟩ := C0
  obtain ⟨hK, hN, hV, hE1, hE2⟩ := E0
  have hown : s.vm.findClass RL = some m.cls := hown
  have hA : ∀ q : Nat, s.heap.size ≤ q → ALs s q := fun _ h => h
  have hbA : ¬ ALs s b := Nat.not_le.mpr hbl
  obtain ⟨v, σ2, τ2, e1, e2, hJ2⟩ := J_feed hJ (xs (i + 1).toNatClampNeg) (xs (i + 2).toNatClampNeg) (xs (i + 3).toNatClampNeg) (xs (i + 4).toNatClampNeg) (xs (i + 5).toNatClampNeg)
  refine lv_aload_n hx hb dL_law_140 rfl (lv_at hl 3 rfl) ?_
  refine lv_aload_n hx hb dL_law_141 rfl (lv_at hl 4 rfl) ?_
  refine lv_iload hx hb dL_law_142 (lv_at hl 0 rfl) ?_
  refine lv_iconst (v := 1) hx hb dL_law_144 (by decide) ?_
  refine lv_iadd hx hb dL_law_145 ?_
  refine va_sld hx hb hX hbl hbA hC.2.2 (vp_k hi hi2 hL 1 (by decide +kernel)) dL_law_146 ?_
  refine lv_aload_n hx hb dL_law_147 rfl (lv_at hl 4 rfl) ?_
  refine lv_iload hx hb dL_law_148 (lv_at hl 0 rfl) ?_
  refine lv_iconst (v := 2) hx hb dL_law_150 (by decide) ?_
  refine lv_iadd hx hb dL_law_151 ?_
  refine va_sld hx hb hX hbl hbA hC.2.2 (vp_k hi hi2 hL 2 (by decide +kernel)) dL_law_152 ?_
  refine lv_aload_n hx hb dL_law_153 rfl (lv_at hl 4 rfl) ?_
  refine lv_iload hx hb dL_law_154 (lv_at hl 0 rfl) ?_
  refine lv_iconst (v := 3) hx hb dL_law_156 (by decide) ?_
  refine lv_iadd hx hb dL_law_157 ?_
  refine va_sld hx hb hX hbl hbA hC.2.2 (vp_k hi hi2 hL 3 (by decide +kernel)) dL_law_158 ?_
  refine lv_aload_n hx hb dL_law_159 rfl (lv_at hl 4 rfl) ?_
  refine lv_iload hx hb dL_law_160 (lv_at hl 0 rfl) ?_
  refine lv_iconst (v := 4) hx hb dL_law_162 (by decide) ?_
  refine lv_iadd hx hb dL_law_163 ?_
  refine va_sld hx hb hX hbl hbA hC.2.2 (vp_k hi hi2 hL 4 (by decide +kernel)) dL_law_164 ?_
  refine lv_aload_n hx hb dL_law_165 rfl (lv_at hl 4 rfl) ?_
  refine lv_iload hx hb dL_law_166 (lv_at hl 0 rfl) ?_
  refine lv_iconst (v := 5) hx hb dL_law_168 (by decide) ?_
  refine lv_iadd hx hb dL_law_169 ?_
  refine va_sld hx hb hX hbl hbA hC.2.2 (vp_k hi hi2 hL 5 (by decide +kernel)) dL_law_170 ?_
  have hC : CZ D (ALs s) s _ _ (WM y om τ ++ (WX y ox σ ++ [(a3, .inl (y 3, 1, .inr (.inl f)))])) := hC
  have hM := CZ.mid hC
  have hF := frZ hM hA
  refine va_calli (va_runV (As := [.int (xs (i + 1).toNatClampNeg), .int (xs (i + 2).toNatClampNeg), .int (xs (i + 3).toNatClampNeg), .int (xs (i + 4).toNatClampNeg), .int (xs (i + 5).toNatClampNeg)]) (rest := []) ⟨hx, hb, hml, hown, hts⟩ (r_X11_feed (D := D) (y := y) (o := ox) (ad := ad) (av := av) e1 l _) (cwV 5 hts lc_22 rfl rfl rfl ⟨rfl, hd_X11_feed.1, hd_X11_feed.2.1, hd_X11_feed.2.2⟩ ⟨Nat.le_of_ble_eq_true rfl, Nat.le_of_ble_eq_true rfl⟩) ⟨blZ, va_recv hK hM.1 (ci := 11) (q0 := 0) rfl rfl, prZ hK hN hV hA hM⟩ rfl rfl hl.1 rfl (lv_room (Nat.le_of_ble_eq_true rfl)) dL_law_171 ⟨by show cells + 0 ≤ 601024; omega, by show slots + 0 ≤ 7293034; omega⟩) hM.2.2 (fun q _ h => hF q h) hF (fun r1 u t H locs ht hvm hw hB hz1 hk1 hS => ?_)
  subst ht
  have hC := CZ.back hC hA hk1 hB.1 hB.2 hS
  have hw1 := hw
  refine lv_pop hx hb dL_law_174 rfl ?_
  refine lv_aload_n hx hb dL_law_175 rfl (lv_at hl 2 rfl) ?_
  refine lv_aload_n hx hb dL_law_176 rfl (lv_at hl 4 rfl) ?_
  refine lv_iload hx hb dL_law_177 (lv_at hl 0 rfl) ?_
  refine lv_iconst (v := 1) hx hb dL_law_179 (by decide) ?_
  refine lv_iadd hx hb dL_law_180 ?_
  refine va_sld hx hb hX hbl hbA hC.2.2 (vp_k hi hi2 hL 1 (by decide +kernel)) dL_law_181 ?_
  refine lv_aload_n hx hb dL_law_182 rfl (lv_at hl 4 rfl) ?_
  refine lv_iload hx hb dL_law_183 (lv_at hl 0 rfl) ?_
  refine lv_iconst (v := 2) hx hb dL_law_185 (by decide) ?_
  refine lv_iadd hx hb dL_law_186 ?_
  refine va_sld hx hb hX hbl hbA hC.2.2 (vp_k hi hi2 hL 2 (by decide +kernel)) dL_law_187 ?_
  refine lv_aload_n hx hb dL_law_188 rfl (lv_at hl 4 rfl) ?_
  refine lv_iload hx hb dL_law_189 (lv_at hl 0 rfl) ?_
  refine lv_iconst (v := 3) hx hb dL_law_191 (by decide) ?_
  refine lv_iadd hx hb dL_law_192 ?_
  refine va_sld hx hb hX hbl hbA hC.2.2 (vp_k hi hi2 hL 3 (by decide +kernel)) dL_law_193 ?_
  refine lv_aload_n hx hb dL_law_194 rfl (lv_at hl 4 rfl) ?_
  refine lv_iload hx hb dL_law_195 (lv_at hl 0 rfl) ?_
  refine lv_iconst (v := 4) hx hb dL_law_197 (by decide) ?_
  refine lv_iadd hx hb dL_law_198 ?_
  refine va_sld hx hb hX hbl hbA hC.2.2 (vp_k hi hi2 hL 4 (by decide +kernel)) dL_law_199 ?_
  refine lv_aload_n hx hb dL_law_200 rfl (lv_at hl 4 rfl) ?_
  refine lv_iload hx hb dL_law_201 (lv_at hl 0 rfl) ?_
  refine lv_iconst (v := 5) hx hb dL_law_203 (by decide) ?_
  refine lv_iadd hx hb dL_law_204 ?_
  refine va_sld hx hb hX hbl hbA hC.2.2 (vp_k hi hi2 hL 5 (by decide +kernel)) dL_law_205 ?_
  have hC : CZ D (ALs s) s _ _ ([] ++ (WM y om τ ++ (WX y ox σ2 ++ [(a3, .inl (y 3, 1, .inr (.inl f)))]))) := hC
  have hM := CZ.mid hC
  have hF := frZ hM hA
  refine va_calli (va_runV (As := [.int (xs (i + 1).toNatClampNeg), .int (xs (i + 2).toNatClampNeg), .int (xs (i + 3).toNatClampNeg), .int (xs (i + 4).toNatClampNeg), .int (xs (i + 5).toNatClampNeg)]) (rest := []) ⟨hx, hb, hml, hown, hts⟩ (r_X12_feed (D := D) (y := y) (o := om) (ad := ad) (av := av) e2 l _) (cwV 5 hts lc_26 rfl rfl rfl ⟨rfl, hd_X12_feed.1, hd_X12_feed.2.1, hd_X12_feed.2.2⟩ ⟨Nat.le_of_ble_eq_true rfl, Nat.le_of_ble_eq_true rfl⟩) ⟨blZ, va_recv hK hM.1 (ci := 12) (q0 := 0) rfl rfl, prZ hK hN hV hA hM⟩ rfl rfl hl.1 rfl (lv_room (Nat.le_of_ble_eq_true rfl)) dL_law_206 ⟨by show cells + 0 + 0 ≤ 601024; omega, by show slots + 0 + 0 ≤ 7293034; omega⟩) hM.2.2 (fun q _ h => hF q h) hF (fun r2 u t H locs ht hvm hw hB hz1 hk1 hS => ?_)
  subst ht
  have hC := CZ.back hC hA hk1 hB.1 hB.2 hS
  refine lv_pop hx hb dL_law_209 rfl ?_
  refine lv_goto (tgt := 975) hx hb dL_law_210 (by decide) ?_
  have hC : CZ D (ALs s) s _ _ (LWd y om ox a3 τ2 σ2 f) := hC
  exact kk _ _ σ2 τ2 f _ _ _ hJ2 hC (by omega) (by omega) hl

set_option maxHeartbeats 8000000 in
set_option maxRecDepth 100000 in
theorem law_case_1 {p : Program} {e : Env} {s : State} {m : MethodId} {below : List Frame} {meth : Method} {c : Code} (l : Launch) (hfl : l.stackTraces = false) {b L : Nat} {xs : Nat → Int32} (C0 : lw_At p s m meth c b L xs) {D : va_G} {y : Nat → ClassId} {ad av : Nat → Nat} {sa1 sa2 : Nat} (E0 : LEn D y ad av sa1 sa2 s) {om ox : Nat → Nat} {a3 : Nat} {H : Heap} {locs : List Loc} {cells slots : Nat} {σ τ : Sto} {f : Nat → Int64} (hJ : JT σ τ) (hC : CZ D (ALs s) s H locs (LWd y om ox a3 τ σ f)) (hc9 : cells + 1 ≤ 601024) (hs9 : slots + 6 ≤ 7293034) {i : Int32} (hi : 0 ≤ i.toInt) (hi2 : i.toInt + 7 ≤ (L : Int)) (hL : L ≤ 3584) {Q : State → Prop} (ls : Array Slot) (hl : lv_has ls 7 [(4, .int i), (3, .ref a3), (2, .ref (om 0)), (1, .ref (ox 0)), (0, .ref b)]) (kk : ∀ (H1 : Heap) (locs1 : List Loc) (σ1 τ1 : Sto) (f1 : Nat → Int64) (cells1 slots1 : Nat) (ls1 : Array Slot), JT σ1 τ1 → CZ D (ALs s) s H1 locs1 (LWd y om ox a3 τ1 σ1 f1) → cells1 ≤ cells + 1 → slots1 ≤ slots + 6 → lv_has ls1 7 [(4, .int i), (3, .ref a3), (2, .ref (om 0)), (1, .ref (ox 0)), (0, .ref b)] → W p l e room_1 s m #[Value.ref b] below meth c H1 locs1 cells1 slots1 Q (F0 m 975 ls1 [])) : W p l e room_1 s m #[Value.ref b] below meth c H locs cells slots Q (F0 m 213 ls []) := by
  obtain ⟨hx, hb, hr, hml, hown, hts, hX, hbl, hlocks, hgv⟩ := C0
  obtain ⟨hK, hN, hV, hE1, hE2⟩ := E0
  have hown : s.vm.findClass RL = some m.cls := hown
  have hA : ∀ q : Nat, s.heap.size ≤ q → ALs s q := fun _ h => h
  have hbA : ¬ ALs s b := Nat.not_le.mpr hbl
  obtain ⟨v, σ2, τ2, e1, e2, hJ2⟩ := J_end hJ (xs (i + 1).toNatClampNeg)
  refine lv_aload_n hx hb dL_law_213 rfl (lv_at hl 3 rfl) ?_
  refine lv_aload_n hx hb dL_law_214 rfl (lv_at hl 4 rfl) ?_
  refine lv_iload hx hb dL_law_215 (lv_at hl 0 rfl) ?_
  refine lv_iconst (v := 1) hx hb dL_law_217 (by decide) ?_
  refine lv_iadd hx hb dL_law_218 ?_
  refine va_sld hx hb hX hbl hbA hC.2.2 (vp_k hi hi2 hL 1 (by decide +kernel)) dL_law_219 ?_
  have hC : CZ D (ALs s) s _ _ (WM y om τ ++ (WX y ox σ ++ [(a3, .inl (y 3, 1, .inr (.inl f)))])) := hC
  have hM := CZ.mid hC
  have hF := frZ hM hA
  refine va_calli (va_runV (As := [.int (xs (i + 1).toNatClampNeg)]) (rest := []) ⟨hx, hb, hml, hown, hts⟩ (r_X11_end (D := D) (y := y) (o := ox) (ad := ad) (av := av) e1 l _) (cwV 1 hts lc_27 rfl rfl rfl ⟨rfl, hd_X11_end.1, hd_X11_end.2.1, hd_X11_end.2.2⟩ ⟨Nat.le_of_ble_eq_true rfl, Nat.le_of_ble_eq_true rfl⟩) ⟨blZ, va_recv hK hM.1 (ci := 11) (q0 := 0) rfl rfl, prZ hK hN hV hA hM⟩ rfl rfl hl.1 rfl (lv_room (Nat.le_of_ble_eq_true rfl)) dL_law_220 ⟨by show cells + 0 ≤ 601024; omega, by show slots + 0 ≤ 7293034; omega⟩) hM.2.2 (fun q _ h => hF q h) hF (fun r1 u t H locs ht hvm hw hB hz1 hk1 hS => ?_)
  subst ht
  have hC := CZ.back hC hA hk1 hB.1 hB.2 hS
  have hw1 := hw
  refine lv_pop hx hb dL_law_223 rfl ?_
  refine lv_aload_n hx hb dL_law_224 rfl (lv_at hl 2 rfl) ?_
  refine lv_aload_n hx hb dL_law_225 rfl (lv_at hl 4 rfl) ?_
  refine lv_iload hx hb dL_law_226 (lv_at hl 0 rfl) ?_
  refine lv_iconst (v := 1) hx hb dL_law_228 (by decide) ?_
  refine lv_iadd hx hb dL_law_229 ?_
  refine va_sld hx hb hX hbl hbA hC.2.2 (vp_k hi hi2 hL 1 (by decide +kernel)) dL_law_230 ?_
  have hC : CZ D (ALs s) s _ _ ([] ++ (WM y om τ ++ (WX y ox σ2 ++ [(a3, .inl (y 3, 1, .inr (.inl f)))]))) := hC
  have hM := CZ.mid hC
  have hF := frZ hM hA
  refine va_calli (va_runV (As := [.int (xs (i + 1).toNatClampNeg)]) (rest := []) ⟨hx, hb, hml, hown, hts⟩ (r_X12_end (D := D) (y := y) (o := om) (ad := ad) (av := av) e2 l _) (cwV 1 hts lc_31 rfl rfl rfl ⟨rfl, hd_X12_end.1, hd_X12_end.2.1, hd_X12_end.2.2⟩ ⟨Nat.le_of_ble_eq_true rfl, Nat.le_of_ble_eq_true rfl⟩) ⟨blZ, va_recv hK hM.1 (ci := 12) (q0 := 0) rfl rfl, prZ hK hN hV hA hM⟩ rfl rfl hl.1 rfl (lv_room (Nat.le_of_ble_eq_true rfl)) dL_law_231 ⟨by show cells + 0 + 0 ≤ 601024; omega, by show slots + 0 + 0 ≤ 7293034; omega⟩) hM.2.2 (fun q _ h => hF q h) hF (fun r2 u t H locs ht hvm hw hB hz1 hk1 hS => ?_)
  subst ht
  have hC := CZ.back hC hA hk1 hB.1 hB.2 hS
  refine lv_pop hx hb dL_law_234 rfl ?_
  refine lv_goto (tgt := 975) hx hb dL_law_235 (by decide) ?_
  have hC : CZ D (ALs s) s _ _ (LWd y om ox a3 τ2 σ2 f) := hC
  exact kk _ _ σ2 τ2 f _ _ _ hJ2 hC (by omega) (by omega) hl

set_option maxHeartbeats 8000000 in
set_option maxRecDepth 100000 in
theorem law_case_2 {p : Program} {e : Env} {s : State} {m : MethodId} {below : List Frame} {meth : Method} {c : Code} (l : Launch) (hfl : l.stackTraces = false) {b L : Nat} {xs : Nat → Int32} (C0 : lw_At p s m meth c b L xs) {D : va_G} {y : Nat → ClassId} {ad av : Nat → Nat} {sa1 sa2 : Nat} (E0 : LEn D y ad av sa1 sa2 s) {om ox : Nat → Nat} {a3 : Nat} {H : Heap} {locs : List Loc} {cells slots : Nat} {σ τ : Sto} {f : Nat → Int64} (hJ : JT σ τ) (hC : CZ D (ALs s) s H locs (LWd y om ox a3 τ σ f)) (hc9 : cells + 1 ≤ 601024) (hs9 : slots + 6 ≤ 7293034) {i : Int32} (hi : 0 ≤ i.toInt) (hi2 : i.toInt + 7 ≤ (L : Int)) (hL : L ≤ 3584) {Q : State → Prop} (ls : Array Slot) (hl : lv_has ls 7 [(4, .int i), (3, .ref a3), (2, .ref (om 0)), (1, .ref (ox 0)), (0, .ref b)]) (kk : ∀ (H1 : Heap) (locs1 : List Loc) (σ1 τ1 : Sto) (f1 : Nat → Int64) (cells1 slots1 : Nat) (ls1 : Array Slot), JT σ1 τ1 → CZ D (ALs s) s H1 locs1 (LWd y om ox a3 τ1 σ1 f1) → cells1 ≤ cells + 1 → slots1 ≤ slots + 6 → lv_has ls1 7 [(4, .int i), (3, .ref a3), (2, .ref (om 0)), (1, .ref (ox 0)), (0, .ref b)] → W p l e room_1 s m #[Value.ref b] below meth c H1 locs1 cells1 slots1 Q (F0 m 975 ls1 [])) : W p l e room_1 s m #[Value.ref b] below meth c H locs cells slots Q (F0 m 238 ls []) := by
  obtain ⟨hx, hb, hr, hml, hown, hts, hX, hbl, hlocks, hgv⟩ := C0
  obtain ⟨hK, hN, hV, hE1, hE2⟩ := E0
  have hown : s.vm.findClass RL = some m.cls := hown
  have hA : ∀ q : Nat, s.heap.size ≤ q → ALs s q := fun _ h => h
  have hbA : ¬ ALs s b := Nat.not_le.mpr hbl
  obtain ⟨v, σ2, w, τ2, e1, e2, hJ2⟩ := J_fault hJ 
  refine lv_aload_n hx hb dL_law_238 rfl (lv_at hl 3 rfl) ?_
  have hC : CZ D (ALs s) s _ _ (WM y om τ ++ (WX y ox σ ++ [(a3, .inl (y 3, 1, .inr (.inl f)))])) := hC
  have hM := CZ.mid hC
  have hF := frZ hM hA
  refine va_calli (va_runV (As := []) (rest := []) ⟨hx, hb, hml, hown, hts⟩ (r_X11_fault (D := D) (y := y) (o := ox) (ad := ad) (av := av) e1 l _) (cwV 0 hts lc_32 rfl rfl rfl ⟨rfl, hd_X11_fault.1, hd_X11_fault.2.1, hd_X11_fault.2.2⟩ ⟨Nat.le_of_ble_eq_true rfl, Nat.le_of_ble_eq_true rfl⟩) ⟨blZ, va_recv hK hM.1 (ci := 11) (q0 := 0) rfl rfl, prZ hK hN hV hA hM⟩ rfl rfl hl.1 rfl (lv_room (Nat.le_of_ble_eq_true rfl)) dL_law_239 ⟨by show cells + 0 ≤ 601024; omega, by show slots + 0 ≤ 7293034; omega⟩) hM.2.2 (fun q _ h => hF q h) hF (fun r1 u t H locs ht hvm hw hB hz1 hk1 hS => ?_)
  subst ht
  have hC := CZ.back hC hA hk1 hB.1 hB.2 hS
  refine lv_pop hx hb dL_law_242 rfl ?_
  refine lv_aload_n hx hb dL_law_243 rfl (lv_at hl 2 rfl) ?_
  have hC : CZ D (ALs s) s _ _ ([] ++ (WM y om τ ++ (WX y ox σ2 ++ [(a3, .inl (y 3, 1, .inr (.inl f)))]))) := hC
  have hM := CZ.mid hC
  have hF := frZ hM hA
  refine va_calli (va_runV (As := []) (rest := []) ⟨hx, hb, hml, hown, hts⟩ (r_X12_fault (D := D) (y := y) (o := om) (ad := ad) (av := av) e2 l _) (cwV 0 hts lc_36 rfl rfl rfl ⟨rfl, hd_X12_fault.1, hd_X12_fault.2.1, hd_X12_fault.2.2⟩ ⟨Nat.le_of_ble_eq_true rfl, Nat.le_of_ble_eq_true rfl⟩) ⟨blZ, va_recv hK hM.1 (ci := 12) (q0 := 0) rfl rfl, prZ hK hN hV hA hM⟩ rfl rfl hl.1 rfl (lv_room (Nat.le_of_ble_eq_true rfl)) dL_law_244 ⟨by show cells + 0 + 0 ≤ 601024; omega, by show slots + 0 + 0 ≤ 7293034; omega⟩) hM.2.2 (fun q _ h => hF q h) hF (fun r2 u t H locs ht hvm hw hB hz1 hk1 hS => ?_)
  subst ht
  have hC := CZ.back hC hA hk1 hB.1 hB.2 hS
  refine lv_pop hx hb dL_law_247 rfl ?_
  refine lv_goto (tgt := 975) hx hb dL_law_248 (by decide) ?_
  have hC : CZ D (ALs s) s _ _ (LWd y om ox a3 τ2 σ2 f) := hC
  exact kk _ _ σ2 τ2 f _ _ _ hJ2 hC (by omega) (by omega) hl

set_option maxHeartbeats 8000000 in
set_option maxRecDepth 100000 in
theorem law_case_3 {p : Program} {e : Env} {s : State} {m : MethodId} {below : List Frame} {meth : Method} {c : Code} (l : Launch) (hfl : l.stackTraces = false) {b L : Nat} {xs : Nat → Int32} (C0 : lw_At p s m meth c b L xs) {D : va_G} {y : Nat → ClassId} {ad av : Nat → Nat} {sa1 sa2 : Nat} (E0 : LEn D y ad av sa1 sa2 s) {om ox : Nat → Nat} {a3 : Nat} {H : Heap} {locs : List Loc} {cells slots : Nat} {σ τ : Sto} {f : Nat → Int64} (hJ : JT σ τ) (hC : CZ D (ALs s) s H locs (LWd y om ox a3 τ σ f)) (hc9 : cells + 1 ≤ 601024) (hs9 : slots + 6 ≤ 7293034) {i : Int32} (hi : 0 ≤ i.toInt) (hi2 : i.toInt + 7 ≤ (L : Int)) (hL : L ≤ 3584) {Q : State → Prop} (ls : Array Slot) (hl : lv_has ls 7 [(4, .int i), (3, .ref a3), (2, .ref (om 0)), (1, .ref (ox 0)), (0, .ref b)]) (kk : ∀ (H1 : Heap) (locs1 : List Loc) (σ1 τ1 : Sto) (f1 : Nat → Int64) (cells1 slots1 : Nat) (ls1 : Array Slot), JT σ1 τ1 → CZ D (ALs s) s H1 locs1 (LWd y om ox a3 τ1 σ1 f1) → cells1 ≤ cells + 1 → slots1 ≤ slots + 6 → lv_has ls1 7 [(4, .int i), (3, .ref a3), (2, .ref (om 0)), (1, .ref (ox 0)), (0, .ref b)] → W p l e room_1 s m #[Value.ref b] below meth c H1 locs1 cells1 slots1 Q (F0 m 975 ls1 [])) : W p l e room_1 s m #[Value.ref b] below meth c H locs cells slots Q (F0 m 251 ls []) := by
  obtain ⟨hx, hb, hr, hml, hown, hts, hX, hbl, hlocks, hgv⟩ := C0
  obtain ⟨hK, hN, hV, hE1, hE2⟩ := E0
  have hown : s.vm.findClass RL = some m.cls := hown
  have hA : ∀ q : Nat, s.heap.size ≤ q → ALs s q := fun _ h => h
  have hbA : ¬ ALs s b := Nat.not_le.mpr hbl
  obtain ⟨v, σ2, τ2, e1, e2, hJ2⟩ := J_code2 hJ 
  refine lv_aload_n hx hb dL_law_251 rfl (lv_at hl 3 rfl) ?_
  have hC : CZ D (ALs s) s _ _ (WM y om τ ++ (WX y ox σ ++ [(a3, .inl (y 3, 1, .inr (.inl f)))])) := hC
  have hM := CZ.mid hC
  have hF := frZ hM hA
  refine va_calli (va_runV (As := []) (rest := []) ⟨hx, hb, hml, hown, hts⟩ (r_X11_code (D := D) (y := y) (o := ox) (ad := ad) (av := av) e1 l _) (cwV 0 hts lc_37 rfl rfl rfl ⟨rfl, hd_X11_code.1, hd_X11_code.2.1, hd_X11_code.2.2⟩ ⟨Nat.le_of_ble_eq_true rfl, Nat.le_of_ble_eq_true rfl⟩) ⟨blZ, va_recv hK hM.1 (ci := 11) (q0 := 0) rfl rfl, prZ hK hN hV hA hM⟩ rfl rfl hl.1 rfl (lv_room (Nat.le_of_ble_eq_true rfl)) dL_law_252 ⟨by show cells + 0 ≤ 601024; omega, by show slots + 0 ≤ 7293034; omega⟩) hM.2.2 (fun q _ h => hF q h) hF (fun r1 u t H locs ht hvm hw hB hz1 hk1 hS => ?_)
  subst ht
  have hC := CZ.back hC hA hk1 hB.1 hB.2 hS
  have hw1 := hw
  refine lv_aload_n hx hb dL_law_255 rfl (lv_at hl 2 rfl) ?_
  have hC : CZ D (ALs s) s _ _ ([] ++ (WM y om τ ++ (WX y ox σ2 ++ [(a3, .inl (y 3, 1, .inr (.inl f)))]))) := hC
  have hM := CZ.mid hC
  have hF := frZ hM hA
  refine va_calli (va_runV (As := []) (rest := [.int r1]) ⟨hx, hb, hml, hown, hts⟩ (r_X12_code (D := D) (y := y) (o := om) (ad := ad) (av := av) e2 l _) (cwV 0 hts lc_40 rfl rfl rfl ⟨rfl, hd_X12_code.1, hd_X12_code.2.1, hd_X12_code.2.2⟩ ⟨Nat.le_of_ble_eq_true rfl, Nat.le_of_ble_eq_true rfl⟩) ⟨blZ, va_recv hK hM.1 (ci := 12) (q0 := 0) rfl rfl, prZ hK hN hV hA hM⟩ rfl rfl hl.1 rfl (lv_room (Nat.le_of_ble_eq_true rfl)) dL_law_256 ⟨by show cells + 0 + 0 ≤ 601024; omega, by show slots + 0 + 0 ≤ 7293034; omega⟩) hM.2.2 (fun q _ h => hF q h) hF (fun r2 u t H locs ht hvm hw hB hz1 hk1 hS => ?_)
  subst ht
  have hC := CZ.back hC hA hk1 hB.1 hB.2 hS
  have hrr : r1 = r2 := hw1.trans hw.symm
  refine lv_icmp_eq (tgt := 975) hx hb dL_law_259 (by decide) (fun _ => ?_) (fun c9 => absurd hrr c9)
  have hC : CZ D (ALs s) s _ _ (LWd y om ox a3 τ2 σ2 f) := hC
  exact kk _ _ σ2 τ2 f _ _ _ hJ2 hC (by omega) (by omega) hl

set_option maxHeartbeats 8000000 in
set_option maxRecDepth 100000 in
theorem law_case_4 {p : Program} {e : Env} {s : State} {m : MethodId} {below : List Frame} {meth : Method} {c : Code} (l : Launch) (hfl : l.stackTraces = false) {b L : Nat} {xs : Nat → Int32} (C0 : lw_At p s m meth c b L xs) {D : va_G} {y : Nat → ClassId} {ad av : Nat → Nat} {sa1 sa2 : Nat} (E0 : LEn D y ad av sa1 sa2 s) {om ox : Nat → Nat} {a3 : Nat} {H : Heap} {locs : List Loc} {cells slots : Nat} {σ τ : Sto} {f : Nat → Int64} (hJ : JT σ τ) (hC : CZ D (ALs s) s H locs (LWd y om ox a3 τ σ f)) (hc9 : cells + 1 ≤ 601024) (hs9 : slots + 6 ≤ 7293034) {i : Int32} (hi : 0 ≤ i.toInt) (hi2 : i.toInt + 7 ≤ (L : Int)) (hL : L ≤ 3584) {Q : State → Prop} (ls : Array Slot) (hl : lv_has ls 7 [(4, .int i), (3, .ref a3), (2, .ref (om 0)), (1, .ref (ox 0)), (0, .ref b)]) (kk : ∀ (H1 : Heap) (locs1 : List Loc) (σ1 τ1 : Sto) (f1 : Nat → Int64) (cells1 slots1 : Nat) (ls1 : Array Slot), JT σ1 τ1 → CZ D (ALs s) s H1 locs1 (LWd y om ox a3 τ1 σ1 f1) → cells1 ≤ cells + 1 → slots1 ≤ slots + 6 → lv_has ls1 7 [(4, .int i), (3, .ref a3), (2, .ref (om 0)), (1, .ref (ox 0)), (0, .ref b)] → W p l e room_1 s m #[Value.ref b] below meth c H1 locs1 cells1 slots1 Q (F0 m 975 ls1 [])) : W p l e room_1 s m #[Value.ref b] below meth c H locs cells slots Q (F0 m 264 ls []) := by
  obtain ⟨hx, hb, hr, hml, hown, hts, hX, hbl, hlocks, hgv⟩ := C0
  obtain ⟨hK, hN, hV, hE1, hE2⟩ := E0
  have hown : s.vm.findClass RL = some m.cls := hown
  have hA : ∀ q : Nat, s.heap.size ≤ q → ALs s q := fun _ h => h
  have hbA : ¬ ALs s b := Nat.not_le.mpr hbl
  obtain ⟨v, σ2, w, τ2, e1, e2, hJ2⟩ := J_put hJ (xs (i + 1).toNatClampNeg) (xs (i + 2).toNatClampNeg) (xs (i + 3).toNatClampNeg)
  refine lv_aload_n hx hb dL_law_264 rfl (lv_at hl 3 rfl) ?_
  refine lv_aload_n hx hb dL_law_265 rfl (lv_at hl 4 rfl) ?_
  refine lv_iload hx hb dL_law_266 (lv_at hl 0 rfl) ?_
  refine lv_iconst (v := 1) hx hb dL_law_268 (by decide) ?_
  refine lv_iadd hx hb dL_law_269 ?_
  refine va_sld hx hb hX hbl hbA hC.2.2 (vp_k hi hi2 hL 1 (by decide +kernel)) dL_law_270 ?_
  refine lv_aload_n hx hb dL_law_271 rfl (lv_at hl 4 rfl) ?_
  refine lv_iload hx hb dL_law_272 (lv_at hl 0 rfl) ?_
  refine lv_iconst (v := 2) hx hb dL_law_274 (by decide) ?_
  refine lv_iadd hx hb dL_law_275 ?_
  refine va_sld hx hb hX hbl hbA hC.2.2 (vp_k hi hi2 hL 2 (by decide +kernel)) dL_law_276 ?_
  refine lv_aload_n hx hb dL_law_277 rfl (lv_at hl 4 rfl) ?_
  refine lv_iload hx hb dL_law_278 (lv_at hl 0 rfl) ?_
  refine lv_iconst (v := 3) hx hb dL_law_280 (by decide) ?_
  refine lv_iadd hx hb dL_law_281 ?_
  refine va_sld hx hb hX hbl hbA hC.2.2 (vp_k hi hi2 hL 3 (by decide +kernel)) dL_law_282 ?_
  have hC : CZ D (ALs s) s _ _ (WM y om τ ++ (WX y ox σ ++ [(a3, .inl (y 3, 1, .inr (.inl f)))])) := hC
  have hM := CZ.mid hC
  have hF := frZ hM hA
  refine va_calli (va_runV (As := [.int (xs (i + 1).toNatClampNeg), .int (xs (i + 2).toNatClampNeg), .int (xs (i + 3).toNatClampNeg)]) (rest := []) ⟨hx, hb, hml, hown, hts⟩ (r_X11_put (D := D) (y := y) (o := ox) (ad := ad) (av := av) e1 l _) (cwV 3 hts lc_41 rfl rfl rfl ⟨rfl, hd_X11_put.1, hd_X11_put.2.1, hd_X11_put.2.2⟩ ⟨Nat.le_of_ble_eq_true rfl, Nat.le_of_ble_eq_true rfl⟩) ⟨blZ, va_recv hK hM.1 (ci := 11) (q0 := 0) rfl rfl, prZ hK hN hV hA hM⟩ rfl rfl hl.1 rfl (lv_room (Nat.le_of_ble_eq_true rfl)) dL_law_283 ⟨by show cells + 0 ≤ 601024; omega, by show slots + 0 ≤ 7293034; omega⟩) hM.2.2 (fun q _ h => hF q h) hF (fun r1 u t H locs ht hvm hw hB hz1 hk1 hS => ?_)
  subst ht
  have hC := CZ.back hC hA hk1 hB.1 hB.2 hS
  refine lv_pop hx hb dL_law_286 rfl ?_
  refine lv_aload_n hx hb dL_law_287 rfl (lv_at hl 2 rfl) ?_
  refine lv_aload_n hx hb dL_law_288 rfl (lv_at hl 4 rfl) ?_
  refine lv_iload hx hb dL_law_289 (lv_at hl 0 rfl) ?_
  refine lv_iconst (v := 1) hx hb dL_law_291 (by decide) ?_
  refine lv_iadd hx hb dL_law_292 ?_
  refine va_sld hx hb hX hbl hbA hC.2.2 (vp_k hi hi2 hL 1 (by decide +kernel)) dL_law_293 ?_
  refine lv_aload_n hx hb dL_law_294 rfl (lv_at hl 4 rfl) ?_
  refine lv_iload hx hb dL_law_295 (lv_at hl 0 rfl) ?_
  refine lv_iconst (v := 2) hx hb dL_law_297 (by decide) ?_
  refine lv_iadd hx hb dL_law_298 ?_
  refine va_sld hx hb hX hbl hbA hC.2.2 (vp_k hi hi2 hL 2 (by decide +kernel)) dL_law_299 ?_
  refine lv_aload_n hx hb dL_law_300 rfl (lv_at hl 4 rfl) ?_
  refine lv_iload hx hb dL_law_301 (lv_at hl 0 rfl) ?_
  refine lv_iconst (v := 3) hx hb dL_law_303 (by decide) ?_
  refine lv_iadd hx hb dL_law_304 ?_
  refine va_sld hx hb hX hbl hbA hC.2.2 (vp_k hi hi2 hL 3 (by decide +kernel)) dL_law_305 ?_
  have hC : CZ D (ALs s) s _ _ ([] ++ (WM y om τ ++ (WX y ox σ2 ++ [(a3, .inl (y 3, 1, .inr (.inl f)))]))) := hC
  have hM := CZ.mid hC
  have hF := frZ hM hA
  refine va_calli (va_runV (As := [.int (xs (i + 1).toNatClampNeg), .int (xs (i + 2).toNatClampNeg), .int (xs (i + 3).toNatClampNeg)]) (rest := []) ⟨hx, hb, hml, hown, hts⟩ (r_X12_put (D := D) (y := y) (o := om) (ad := ad) (av := av) e2 l _) (cwV 3 hts lc_45 rfl rfl rfl ⟨rfl, hd_X12_put.1, hd_X12_put.2.1, hd_X12_put.2.2⟩ ⟨Nat.le_of_ble_eq_true rfl, Nat.le_of_ble_eq_true rfl⟩) ⟨blZ, va_recv hK hM.1 (ci := 12) (q0 := 0) rfl rfl, prZ hK hN hV hA hM⟩ rfl rfl hl.1 rfl (lv_room (Nat.le_of_ble_eq_true rfl)) dL_law_306 ⟨by show cells + 0 + 0 ≤ 601024; omega, by show slots + 0 + 0 ≤ 7293034; omega⟩) hM.2.2 (fun q _ h => hF q h) hF (fun r2 u t H locs ht hvm hw hB hz1 hk1 hS => ?_)
  subst ht
  have hC := CZ.back hC hA hk1 hB.1 hB.2 hS
  refine lv_pop hx hb dL_law_309 rfl ?_
  refine lv_goto (tgt := 975) hx hb dL_law_310 (by decide) ?_
  have hC : CZ D (ALs s) s _ _ (LWd y om ox a3 τ2 σ2 f) := hC
  exact kk _ _ σ2 τ2 f _ _ _ hJ2 hC (by omega) (by omega) hl

set_option maxHeartbeats 8000000 in
set_option maxRecDepth 100000 in
theorem law_case_5 {p : Program} {e : Env} {s : State} {m : MethodId} {below : List Frame} {meth : Method} {c : Code} (l : Launch) (hfl : l.stackTraces = false) {b L : Nat} {xs : Nat → Int32} (C0 : lw_At p s m meth c b L xs) {D : va_G} {y : Nat → ClassId} {ad av : Nat → Nat} {sa1 sa2 : Nat} (E0 : LEn D y ad av sa1 sa2 s) {om ox : Nat → Nat} {a3 : Nat} {H : Heap} {locs : List Loc} {cells slots : Nat} {σ τ : Sto} {f : Nat → Int64} (hJ : JT σ τ) (hC : CZ D (ALs s) s H locs (LWd y om ox a3 τ σ f)) (hc9 : cells + 1 ≤ 601024) (hs9 : slots + 6 ≤ 7293034) {i : Int32} (hi : 0 ≤ i.toInt) (hi2 : i.toInt + 7 ≤ (L : Int)) (hL : L ≤ 3584) {Q : State → Prop} (ls : Array Slot) (hl : lv_has ls 7 [(4, .int i), (3, .ref a3), (2, .ref (om 0)), (1, .ref (ox 0)), (0, .ref b)]) (kk : ∀ (H1 : Heap) (locs1 : List Loc) (σ1 τ1 : Sto) (f1 : Nat → Int64) (cells1 slots1 : Nat) (ls1 : Array Slot), JT σ1 τ1 → CZ D (ALs s) s H1 locs1 (LWd y om ox a3 τ1 σ1 f1) → cells1 ≤ cells + 1 → slots1 ≤ slots + 6 → lv_has ls1 7 [(4, .int i), (3, .ref a3), (2, .ref (om 0)), (1, .ref (ox 0)), (0, .ref b)] → W p l e room_1 s m #[Value.ref b] below meth c H1 locs1 cells1 slots1 Q (F0 m 975 ls1 [])) : W p l e room_1 s m #[Value.ref b] below meth c H locs cells slots Q (F0 m 313 ls []) := by
  obtain ⟨hx, hb, hr, hml, hown, hts, hX, hbl, hlocks, hgv⟩ := C0
  obtain ⟨hK, hN, hV, hE1, hE2⟩ := E0
  have hown : s.vm.findClass RL = some m.cls := hown
  have hA : ∀ q : Nat, s.heap.size ≤ q → ALs s q := fun _ h => h
  have hbA : ¬ ALs s b := Nat.not_le.mpr hbl
  obtain ⟨v, w, τ2, e1, e2, hJ2⟩ := J_count hJ (xs (i + 1).toNatClampNeg)
  refine lv_aload_n hx hb dL_law_313 rfl (lv_at hl 3 rfl) ?_
  refine lv_aload_n hx hb dL_law_314 rfl (lv_at hl 4 rfl) ?_
  refine lv_iload hx hb dL_law_315 (lv_at hl 0 rfl) ?_
  refine lv_iconst (v := 1) hx hb dL_law_317 (by decide) ?_
  refine lv_iadd hx hb dL_law_318 ?_
  refine va_sld hx hb hX hbl hbA hC.2.2 (vp_k hi hi2 hL 1 (by decide +kernel)) dL_law_319 ?_
  have hC : CZ D (ALs s) s _ _ (WM y om τ ++ (WX y ox σ ++ [(a3, .inl (y 3, 1, .inr (.inl f)))])) := hC
  have hM := CZ.mid hC
  have hF := frZ hM hA
  refine va_calli (va_runV (As := [.int (xs (i + 1).toNatClampNeg)]) (rest := []) ⟨hx, hb, hml, hown, hts⟩ (r_X11_count (D := D) (y := y) (o := ox) (ad := ad) (av := av) e1 l _) (cwV 1 hts lc_46 rfl rfl rfl ⟨rfl, hd_X11_count.1, hd_X11_count.2.1, hd_X11_count.2.2⟩ ⟨Nat.le_of_ble_eq_true rfl, Nat.le_of_ble_eq_true rfl⟩) ⟨blZ, va_recv hK hM.1 (ci := 11) (q0 := 0) rfl rfl, prZ hK hN hV hA hM⟩ rfl rfl hl.1 rfl (lv_room (Nat.le_of_ble_eq_true rfl)) dL_law_320 ⟨by show cells + 0 ≤ 601024; omega, by show slots + 0 ≤ 7293034; omega⟩) hM.2.2 (fun q _ h => hF q h) hF (fun r1 u t H locs ht hvm hw hB hz1 hk1 hS => ?_)
  subst ht
  have hC := CZ.back hC hA hk1 hB.1 hB.2 hS
  refine lv_pop hx hb dL_law_323 rfl ?_
  refine lv_aload_n hx hb dL_law_324 rfl (lv_at hl 2 rfl) ?_
  refine lv_aload_n hx hb dL_law_325 rfl (lv_at hl 4 rfl) ?_
  refine lv_iload hx hb dL_law_326 (lv_at hl 0 rfl) ?_
  refine lv_iconst (v := 1) hx hb dL_law_328 (by decide) ?_
  refine lv_iadd hx hb dL_law_329 ?_
  refine va_sld hx hb hX hbl hbA hC.2.2 (vp_k hi hi2 hL 1 (by decide +kernel)) dL_law_330 ?_
  have hC : CZ D (ALs s) s _ _ ([] ++ (WM y om τ ++ (WX y ox σ ++ [(a3, .inl (y 3, 1, .inr (.inl f)))]))) := hC
  have hM := CZ.mid hC
  have hF := frZ hM hA
  refine va_calli (va_runV (As := [.int (xs (i + 1).toNatClampNeg)]) (rest := []) ⟨hx, hb, hml, hown, hts⟩ (r_X12_count (D := D) (y := y) (o := om) (ad := ad) (av := av) e2 l _) (cwV 1 hts lc_50 rfl rfl rfl ⟨rfl, hd_X12_count.1, hd_X12_count.2.1, hd_X12_count.2.2⟩ ⟨Nat.le_of_ble_eq_true rfl, Nat.le_of_ble_eq_true rfl⟩) ⟨blZ, va_recv hK hM.1 (ci := 12) (q0 := 0) rfl rfl, prZ hK hN hV hA hM⟩ rfl rfl hl.1 rfl (lv_room (Nat.le_of_ble_eq_true rfl)) dL_law_331 ⟨by show cells + 0 + 0 ≤ 601024; omega, by show slots + 0 + 0 ≤ 7293034; omega⟩) hM.2.2 (fun q _ h => hF q h) hF (fun r2 u t H locs ht hvm hw hB hz1 hk1 hS => ?_)
  subst ht
  have hC := CZ.back hC hA hk1 hB.1 hB.2 hS
  refine lv_pop hx hb dL_law_334 rfl ?_
  refine lv_goto (tgt := 975) hx hb dL_law_335 (by decide) ?_
  have hC : CZ D (ALs s) s _ _ (LWd y om ox a3 τ2 σ f) := hC
  exact kk _ _ σ τ2 f _ _ _ hJ2 hC (by omega) (by omega) hl

set_option maxHeartbeats 8000000 in
set_option maxRecDepth 100000 in
theorem law_case_6 {p : Program} {e : Env} {s : State} {m : MethodId} {below : List Frame} {meth : Method} {c : Code} (l : Launch) (hfl : l.stackTraces = false) {b L : Nat} {xs : Nat → Int32} (C0 : lw_At p s m meth c b L xs) {D : va_G} {y : Nat → ClassId} {ad av : Nat → Nat} {sa1 sa2 : Nat} (E0 : LEn D y ad av sa1 sa2 s) {om ox : Nat → Nat} {a3 : Nat} {H : Heap} {locs : List Loc} {cells slots : Nat} {σ τ : Sto} {f : Nat → Int64} (hJ : JT σ τ) (hC : CZ D (ALs s) s H locs (LWd y om ox a3 τ σ f)) (hc9 : cells + 1 ≤ 601024) (hs9 : slots + 6 ≤ 7293034) {i : Int32} (hi : 0 ≤ i.toInt) (hi2 : i.toInt + 7 ≤ (L : Int)) (hL : L ≤ 3584) {Q : State → Prop} (ls : Array Slot) (hl : lv_has ls 7 [(4, .int i), (3, .ref a3), (2, .ref (om 0)), (1, .ref (ox 0)), (0, .ref b)]) (kk : ∀ (H1 : Heap) (locs1 : List Loc) (σ1 τ1 : Sto) (f1 : Nat → Int64) (cells1 slots1 : Nat) (ls1 : Array Slot), JT σ1 τ1 → CZ D (ALs s) s H1 locs1 (LWd y om ox a3 τ1 σ1 f1) → cells1 ≤ cells + 1 → slots1 ≤ slots + 6 → lv_has ls1 7 [(4, .int i), (3, .ref a3), (2, .ref (om 0)), (1, .ref (ox 0)), (0, .ref b)] → W p l e room_1 s m #[Value.ref b] below meth c H1 locs1 cells1 slots1 Q (F0 m 975 ls1 [])) : W p l e room_1 s m #[Value.ref b] below meth c H locs cells slots Q (F0 m 338 ls []) := by
  obtain ⟨hx, hb, hr, hml, hown, hts, hX, hbl, hlocks, hgv⟩ := C0
  obtain ⟨hK, hN, hV, hE1, hE2⟩ := E0
  have hown : s.vm.findClass RL = some m.cls := hown
  have hA : ∀ q : Nat, s.heap.size ≤ q → ALs s q := fun _ h => h
  have hbA : ¬ ALs s b := Nat.not_le.mpr hbl
  obtain ⟨w, τ2, e2, hJ2⟩ := J_instruction hJ (xs (i + 1).toNatClampNeg) (xs (i + 2).toNatClampNeg)
  refine lv_aload_n hx hb dL_law_338 rfl (lv_at hl 3 rfl) ?_
  refine lv_aload_n hx hb dL_law_339 rfl (lv_at hl 4 rfl) ?_
  refine lv_iload hx hb dL_law_340 (lv_at hl 0 rfl) ?_
  refine lv_iconst (v := 1) hx hb dL_law_342 (by decide) ?_
  refine lv_iadd hx hb dL_law_343 ?_
  refine va_sld hx hb hX hbl hbA hC.2.2 (vp_k hi hi2 hL 1 (by decide +kernel)) dL_law_344 ?_
  refine lv_aload_n hx hb dL_law_345 rfl (lv_at hl 4 rfl) ?_
  refine lv_iload hx hb dL_law_346 (lv_at hl 0 rfl) ?_
  refine lv_iconst (v := 2) hx hb dL_law_348 (by decide) ?_
  refine lv_iadd hx hb dL_law_349 ?_
  refine va_sld hx hb hX hbl hbA hC.2.2 (vp_k hi hi2 hL 2 (by decide +kernel)) dL_law_350 ?_
  refine lv_aload_n hx hb dL_law_351 rfl (lv_at hl 1 rfl) ?_
  have hC : CZ D (ALs s) s H locs (WM y om τ ++ (WXO y ox σ a3 f ++ [])) := by rw [List.append_nil]; exact hC
  have hM := CZ.mid hC
  have hF := frZ hM hA
  refine va_calli (vx_runSW (As := [.ref (ox 0), .int (xs (i + 1).toNatClampNeg), .int (xs (i + 2).toNatClampNeg), .ref a3]) (rest := []) ⟨hx, hb, hml, hown, hts⟩ (l_instruction (D := D) (y := y) (o := ox) (ad := ad) (av := av) (sa := sa1) l hfl hJ.1.b a3 f _) (vx_cwSW 4 hts lc_51 rfl rfl rfl (by decide +kernel) ⟨Nat.le_of_ble_eq_true rfl, Nat.le_of_ble_eq_true rfl⟩) ⟨blX, prX hK hN hV hE1 hA hM⟩ rfl rfl hl.1 rfl (lv_room (Nat.le_of_ble_eq_true rfl)) dL_law_352 ⟨by show cells + 1 ≤ 601024; omega, by show slots + 6 ≤ 7293034; omega⟩) hM.2.2 (fun q _ h => hF q h) hF (fun r1 f2 t H locs ht hvm hw hB hz1 hk1 hS => ?_)
  subst ht
  have hC := CZ.back hC hA hk1 hB.1 hB.2 hS
  rw [List.append_nil] at hC
  refine lv_istore (lv' := [(5, .int r1), (4, .int i), (3, .ref a3), (2, .ref (om 0)), (1, .ref (ox 0)), (0, .ref b)]) hx hb dL_law_355 hl (by decide) rfl (fun ls hl => ?_)
  refine lv_aload_n hx hb dL_law_357 rfl (lv_at hl 3 rfl) ?_
  refine lv_aload_n hx hb dL_law_358 rfl (lv_at hl 5 rfl) ?_
  refine lv_iload hx hb dL_law_359 (lv_at hl 1 rfl) ?_
  refine lv_iconst (v := 1) hx hb dL_law_361 (by decide) ?_
  refine lv_iadd hx hb dL_law_362 ?_
  refine va_sld hx hb hX hbl hbA hC.2.2 (vp_k hi hi2 hL 1 (by decide +kernel)) dL_law_363 ?_
  refine lv_aload_n hx hb dL_law_364 rfl (lv_at hl 5 rfl) ?_
  refine lv_iload hx hb dL_law_365 (lv_at hl 1 rfl) ?_
  refine lv_iconst (v := 2) hx hb dL_law_367 (by decide) ?_
  refine lv_iadd hx hb dL_law_368 ?_
  refine va_sld hx hb hX hbl hbA hC.2.2 (vp_k hi hi2 hL 2 (by decide +kernel)) dL_law_369 ?_
  have hC : CZ D (ALs s) s _ _ ([] ++ (WM y om τ ++ (WX y ox σ ++ [(a3, .inl (y 3, 1, .inr (.inl f2)))]))) := hC
  have hM := CZ.mid hC
  have hF := frZ hM hA
  refine va_calli (va_runV (As := [.int (xs (i + 1).toNatClampNeg), .int (xs (i + 2).toNatClampNeg)]) (rest := []) ⟨hx, hb, hml, hown, hts⟩ (r_X12_instruction_ (D := D) (y := y) (o := om) (ad := ad) (av := av) e2 l _) (cwV 2 hts lc_56 rfl rfl rfl ⟨rfl, hd_X12_instruction_.1, hd_X12_instruction_.2.1, hd_X12_instruction_.2.2⟩ ⟨Nat.le_of_ble_eq_true rfl, Nat.le_of_ble_eq_true rfl⟩) ⟨blZ, va_recv hK hM.1 (ci := 12) (q0 := 0) rfl rfl, prZ hK hN hV hA hM⟩ rfl rfl hl.1 rfl (lv_room (Nat.le_of_ble_eq_true rfl)) dL_law_370 ⟨by show cells + 1 + 0 ≤ 601024; omega, by show slots + 6 + 0 ≤ 7293034; omega⟩) hM.2.2 (fun q _ h => hF q h) hF (fun r2 u t H locs ht hvm hw hB hz1 hk1 hS => ?_)
  subst ht
  have hC := CZ.back hC hA hk1 hB.1 hB.2 hS
  refine lv_istore (lv' := [(6, .int r2), (5, .int r1), (4, .int i), (3, .ref a3), (2, .ref (om 0)), (1, .ref (ox 0)), (0, .ref b)]) hx hb dL_law_373 hl (by decide) rfl (fun ls hl => ?_)
  refine lv_goto (tgt := 975) hx hb dL_law_375 (by decide) ?_
  have hC : CZ D (ALs s) s _ _ (LWd y om ox a3 τ2 σ f2) := hC
  exact kk _ _ σ τ2 f2 _ _ _ hJ2 hC (by omega) (by omega) (lv_sub hl [2, 3, 4, 5, 6] rfl)

set_option maxHeartbeats 8000000 in
set_option maxRecDepth 100000 in
theorem law_case_7 {p : Program} {e : Env} {s : State} {m : MethodId} {below : List Frame} {meth : Method} {c : Code} (l : Launch) (hfl : l.stackTraces = false) {b L : Nat} {xs : Nat → Int32} (C0 : lw_At p s m meth c b L xs) {D : va_G} {y : Nat → ClassId} {ad av : Nat → Nat} {sa1 sa2 : Nat} (E0 : LEn D y ad av sa1 sa2 s) {om ox : Nat → Nat} {a3 : Nat} {H : Heap} {locs : List Loc} {cells slots : Nat} {σ τ : Sto} {f : Nat → Int64} (hJ : JT σ τ) (hC : CZ D (ALs s) s H locs (LWd y om ox a3 τ σ f)) (hc9 : cells + 1 ≤ 601024) (hs9 : slots + 6 ≤ 7293034) {i : Int32} (hi : 0 ≤ i.toInt) (hi2 : i.toInt + 7 ≤ (L : Int)) (hL : L ≤ 3584) {Q : State → Prop} (ls : Array Slot) (hl : lv_has ls 7 [(4, .int i), (3, .ref a3), (2, .ref (om 0)), (1, .ref (ox 0)), (0, .ref b)]) (kk : ∀ (H1 : Heap) (locs1 : List Loc) (σ1 τ1 : Sto) (f1 : Nat → Int64) (cells1 slots1 : Nat) (ls1 : Array Slot), JT σ1 τ1 → CZ D (ALs s) s H1 locs1 (LWd y om ox a3 τ1 σ1 f1) → cells1 ≤ cells + 1 → slots1 ≤ slots + 6 → lv_has ls1 7 [(4, .int i), (3, .ref a3), (2, .ref (om 0)), (1, .ref (ox 0)), (0, .ref b)] → W p l e room_1 s m #[Value.ref b] below meth c H1 locs1 cells1 slots1 Q (F0 m 975 ls1 [])) : W p l e room_1 s m #[Value.ref b] below meth c H locs cells slots Q (F0 m 378 ls []) := by
  obtain ⟨hx, hb, hr, hml, hown, hts, hX, hbl, hlocks, hgv⟩ := C0
  obtain ⟨hK, hN, hV, hE1, hE2⟩ := E0
  have hown : s.vm.findClass RL = some m.cls := hown
  have hA : ∀ q : Nat, s.heap.size ≤ q → ALs s q := fun _ h => h
  have hbA : ¬ ALs s b := Nat.not_le.mpr hbl
  obtain ⟨w, τ2, e2, hJ2⟩ := J_block hJ (xs (i + 1).toNatClampNeg) (xs (i + 2).toNatClampNeg)
  refine lv_aload_n hx hb dL_law_378 rfl (lv_at hl 3 rfl) ?_
  refine lv_aload_n hx hb dL_law_379 rfl (lv_at hl 4 rfl) ?_
  refine lv_iload hx hb dL_law_380 (lv_at hl 0 rfl) ?_
  refine lv_iconst (v := 1) hx hb dL_law_382 (by decide) ?_
  refine lv_iadd hx hb dL_law_383 ?_
  refine va_sld hx hb hX hbl hbA hC.2.2 (vp_k hi hi2 hL 1 (by decide +kernel)) dL_law_384 ?_
  refine lv_aload_n hx hb dL_law_385 rfl (lv_at hl 4 rfl) ?_
  refine lv_iload hx hb dL_law_386 (lv_at hl 0 rfl) ?_
  refine lv_iconst (v := 2) hx hb dL_law_388 (by decide) ?_
  refine lv_iadd hx hb dL_law_389 ?_
  refine va_sld hx hb hX hbl hbA hC.2.2 (vp_k hi hi2 hL 2 (by decide +kernel)) dL_law_390 ?_
  refine lv_aload_n hx hb dL_law_391 rfl (lv_at hl 1 rfl) ?_
  have hC : CZ D (ALs s) s H locs (WM y om τ ++ (WXO y ox σ a3 f ++ [])) := by rw [List.append_nil]; exact hC
  have hM := CZ.mid hC
  have hF := frZ hM hA
  refine va_calli (vx_runSW (As := [.ref (ox 0), .int (xs (i + 1).toNatClampNeg), .int (xs (i + 2).toNatClampNeg), .ref a3]) (rest := []) ⟨hx, hb, hml, hown, hts⟩ (l_block (D := D) (y := y) (o := ox) (ad := ad) (av := av) (sa := sa2) l hfl hJ.1.b a3 f _) (vx_cwSW 4 hts lc_57 rfl rfl rfl (by decide +kernel) ⟨Nat.le_of_ble_eq_true rfl, Nat.le_of_ble_eq_true rfl⟩) ⟨blX, prX hK hN hV hE2 hA hM⟩ rfl rfl hl.1 rfl (lv_room (Nat.le_of_ble_eq_true rfl)) dL_law_392 ⟨by show cells + 1 ≤ 601024; omega, by show slots + 6 ≤ 7293034; omega⟩) hM.2.2 (fun q _ h => hF q h) hF (fun r1 f2 t H locs ht hvm hw hB hz1 hk1 hS => ?_)
  subst ht
  have hC := CZ.back hC hA hk1 hB.1 hB.2 hS
  rw [List.append_nil] at hC
  refine lv_istore (lv' := [(5, .int r1), (4, .int i), (3, .ref a3), (2, .ref (om 0)), (1, .ref (ox 0)), (0, .ref b)]) hx hb dL_law_395 hl (by decide) rfl (fun ls hl => ?_)
  refine lv_aload_n hx hb dL_law_397 rfl (lv_at hl 3 rfl) ?_
  refine lv_aload_n hx hb dL_law_398 rfl (lv_at hl 5 rfl) ?_
  refine lv_iload hx hb dL_law_399 (lv_at hl 1 rfl) ?_
  refine lv_iconst (v := 1) hx hb dL_law_401 (by decide) ?_
  refine lv_iadd hx hb dL_law_402 ?_
  refine va_sld hx hb hX hbl hbA hC.2.2 (vp_k hi hi2 hL 1 (by decide +kernel)) dL_law_403 ?_
  refine lv_aload_n hx hb dL_law_404 rfl (lv_at hl 5 rfl) ?_
  refine lv_iload hx hb dL_law_405 (lv_at hl 1 rfl) ?_
  refine lv_iconst (v := 2) hx hb dL_law_407 (by decide) ?_
  refine lv_iadd hx hb dL_law_408 ?_
  refine va_sld hx hb hX hbl hbA hC.2.2 (vp_k hi hi2 hL 2 (by decide +kernel)) dL_law_409 ?_
  have hC : CZ D (ALs s) s _ _ ([] ++ (WM y om τ ++ (WX y ox σ ++ [(a3, .inl (y 3, 1, .inr (.inl f2)))]))) := hC
  have hM := CZ.mid hC
  have hF := frZ hM hA
  refine va_calli (va_runV (As := [.int (xs (i + 1).toNatClampNeg), .int (xs (i + 2).toNatClampNeg)]) (rest := []) ⟨hx, hb, hml, hown, hts⟩ (r_X12_block (D := D) (y := y) (o := om) (ad := ad) (av := av) e2 l _) (cwV 2 hts lc_59 rfl rfl rfl ⟨rfl, hd_X12_block.1, hd_X12_block.2.1, hd_X12_block.2.2⟩ ⟨Nat.le_of_ble_eq_true rfl, Nat.le_of_ble_eq_true rfl⟩) ⟨blZ, va_recv hK hM.1 (ci := 12) (q0 := 0) rfl rfl, prZ hK hN hV hA hM⟩ rfl rfl hl.1 rfl (lv_room (Nat.le_of_ble_eq_true rfl)) dL_law_410 ⟨by show cells + 1 + 0 ≤ 601024; omega, by show slots + 6 + 0 ≤ 7293034; omega⟩) hM.2.2 (fun q _ h => hF q h) hF (fun r2 u t H locs ht hvm hw hB hz1 hk1 hS => ?_)
  subst ht
  have hC := CZ.back hC hA hk1 hB.1 hB.2 hS
  refine lv_istore (lv' := [(6, .int r2), (5, .int r1), (4, .int i), (3, .ref a3), (2, .ref (om 0)), (1, .ref (ox 0)), (0, .ref b)]) hx hb dL_law_413 hl (by decide) rfl (fun ls hl => ?_)
  refine lv_goto (tgt := 975) hx hb dL_law_415 (by decide) ?_
  have hC : CZ D (ALs s) s _ _ (LWd y om ox a3 τ2 σ f2) := hC
  exact kk _ _ σ τ2 f2 _ _ _ hJ2 hC (by omega) (by omega) (lv_sub hl [2, 3, 4, 5, 6] rfl)

set_option maxHeartbeats 8000000 in
set_option maxRecDepth 100000 in
theorem law_case_8 {p : Program} {e : Env} {s : State} {m : MethodId} {below : List Frame} {meth : Method} {c : Code} (l : Launch) (hfl : l.stackTraces = false) {b L : Nat} {xs : Nat → Int32} (C0 : lw_At p s m meth c b L xs) {D : va_G} {y : Nat → ClassId} {ad av : Nat → Nat} {sa1 sa2 : Nat} (E0 : LEn D y ad av sa1 sa2 s) {om ox : Nat → Nat} {a3 : Nat} {H : Heap} {locs : List Loc} {cells slots : Nat} {σ τ : Sto} {f : Nat → Int64} (hJ : JT σ τ) (hC : CZ D (ALs s) s H locs (LWd y om ox a3 τ σ f)) (hc9 : cells + 1 ≤ 601024) (hs9 : slots + 6 ≤ 7293034) {i : Int32} (hi : 0 ≤ i.toInt) (hi2 : i.toInt + 7 ≤ (L : Int)) (hL : L ≤ 3584) {Q : State → Prop} (ls : Array Slot) (hl : lv_has ls 7 [(4, .int i), (3, .ref a3), (2, .ref (om 0)), (1, .ref (ox 0)), (0, .ref b)]) (kk : ∀ (H1 : Heap) (locs1 : List Loc) (σ1 τ1 : Sto) (f1 : Nat → Int64) (cells1 slots1 : Nat) (ls1 : Array Slot), JT σ1 τ1 → CZ D (ALs s) s H1 locs1 (LWd y om ox a3 τ1 σ1 f1) → cells1 ≤ cells + 1 → slots1 ≤ slots + 6 → lv_has ls1 7 [(4, .int i), (3, .ref a3), (2, .ref (om 0)), (1, .ref (ox 0)), (0, .ref b)] → W p l e room_1 s m #[Value.ref b] below meth c H1 locs1 cells1 slots1 Q (F0 m 975 ls1 [])) : W p l e room_1 s m #[Value.ref b] below meth c H locs cells slots Q (F0 m 418 ls []) := by
  obtain ⟨hx, hb, hr, hml, hown, hts, hX, hbl, hlocks, hgv⟩ := C0
  obtain ⟨hK, hN, hV, hE1, hE2⟩ := E0
  have hown : s.vm.findClass RL = some m.cls := hown
  have hA : ∀ q : Nat, s.heap.size ≤ q → ALs s q := fun _ h => h
  have hbA : ¬ ALs s b := Nat.not_le.mpr hbl
  obtain ⟨v, w, τ2, e1, e2, hJ2⟩ := J_edge hJ (xs (i + 1).toNatClampNeg) (xs (i + 2).toNatClampNeg)
  refine lv_aload_n hx hb dL_law_418 rfl (lv_at hl 3 rfl) ?_
  refine lv_aload_n hx hb dL_law_419 rfl (lv_at hl 4 rfl) ?_
  refine lv_iload hx hb dL_law_420 (lv_at hl 0 rfl) ?_
  refine lv_iconst (v := 1) hx hb dL_law_422 (by decide) ?_
  refine lv_iadd hx hb dL_law_423 ?_
  refine va_sld hx hb hX hbl hbA hC.2.2 (vp_k hi hi2 hL 1 (by decide +kernel)) dL_law_424 ?_
  refine lv_aload_n hx hb dL_law_425 rfl (lv_at hl 4 rfl) ?_
  refine lv_iload hx hb dL_law_426 (lv_at hl 0 rfl) ?_
  refine lv_iconst (v := 2) hx hb dL_law_428 (by decide) ?_
  refine lv_iadd hx hb dL_law_429 ?_
  refine va_sld hx hb hX hbl hbA hC.2.2 (vp_k hi hi2 hL 2 (by decide +kernel)) dL_law_430 ?_
  have hC : CZ D (ALs s) s _ _ (WM y om τ ++ (WX y ox σ ++ [(a3, .inl (y 3, 1, .inr (.inl f)))])) := hC
  have hM := CZ.mid hC
  have hF := frZ hM hA
  refine va_calli (va_runV (As := [.int (xs (i + 1).toNatClampNeg), .int (xs (i + 2).toNatClampNeg)]) (rest := []) ⟨hx, hb, hml, hown, hts⟩ (r_X11_edge (D := D) (y := y) (o := ox) (ad := ad) (av := av) e1 l _) (cwV 2 hts lc_60 rfl rfl rfl ⟨rfl, hd_X11_edge.1, hd_X11_edge.2.1, hd_X11_edge.2.2⟩ ⟨Nat.le_of_ble_eq_true rfl, Nat.le_of_ble_eq_true rfl⟩) ⟨blZ, va_recv hK hM.1 (ci := 11) (q0 := 0) rfl rfl, prZ hK hN hV hA hM⟩ rfl rfl hl.1 rfl (lv_room (Nat.le_of_ble_eq_true rfl)) dL_law_431 ⟨by show cells + 0 ≤ 601024; omega, by show slots + 0 ≤ 7293034; omega⟩) hM.2.2 (fun q _ h => hF q h) hF (fun r1 u t H locs ht hvm hw hB hz1 hk1 hS => ?_)
  subst ht
  have hC := CZ.back hC hA hk1 hB.1 hB.2 hS
  refine lv_pop hx hb dL_law_434 rfl ?_
  refine lv_aload_n hx hb dL_law_435 rfl (lv_at hl 2 rfl) ?_
  refine lv_aload_n hx hb dL_law_436 rfl (lv_at hl 4 rfl) ?_
  refine lv_iload hx hb dL_law_437 (lv_at hl 0 rfl) ?_
  refine lv_iconst (v := 1) hx hb dL_law_439 (by decide) ?_
  refine lv_iadd hx hb dL_law_440 ?_
  refine va_sld hx hb hX hbl hbA hC.2.2 (vp_k hi hi2 hL 1 (by decide +kernel)) dL_law_441 ?_
  refine lv_aload_n hx hb dL_law_442 rfl (lv_at hl 4 rfl) ?_
  refine lv_iload hx hb dL_law_443 (lv_at hl 0 rfl) ?_
  refine lv_iconst (v := 2) hx hb dL_law_445 (by decide) ?_
  refine lv_iadd hx hb dL_law_446 ?_
  refine va_sld hx hb hX hbl hbA hC.2.2 (vp_k hi hi2 hL 2 (by decide +kernel)) dL_law_447 ?_
  have hC : CZ D (ALs s) s _ _ ([] ++ (WM y om τ ++ (WX y ox σ ++ [(a3, .inl (y 3, 1, .inr (.inl f)))]))) := hC
  have hM := CZ.mid hC
  have hF := frZ hM hA
  refine va_calli (va_runV (As := [.int (xs (i + 1).toNatClampNeg), .int (xs (i + 2).toNatClampNeg)]) (rest := []) ⟨hx, hb, hml, hown, hts⟩ (r_X12_edge (D := D) (y := y) (o := om) (ad := ad) (av := av) e2 l _) (cwV 2 hts lc_63 rfl rfl rfl ⟨rfl, hd_X12_edge.1, hd_X12_edge.2.1, hd_X12_edge.2.2⟩ ⟨Nat.le_of_ble_eq_true rfl, Nat.le_of_ble_eq_true rfl⟩) ⟨blZ, va_recv hK hM.1 (ci := 12) (q0 := 0) rfl rfl, prZ hK hN hV hA hM⟩ rfl rfl hl.1 rfl (lv_room (Nat.le_of_ble_eq_true rfl)) dL_law_448 ⟨by show cells + 0 + 0 ≤ 601024; omega, by show slots + 0 + 0 ≤ 7293034; omega⟩) hM.2.2 (fun q _ h => hF q h) hF (fun r2 u t H locs ht hvm hw hB hz1 hk1 hS => ?_)
  subst ht
  have hC := CZ.back hC hA hk1 hB.1 hB.2 hS
  refine lv_pop hx hb dL_law_451 rfl ?_
  refine lv_goto (tgt := 975) hx hb dL_law_452 (by decide) ?_
  have hC : CZ D (ALs s) s _ _ (LWd y om ox a3 τ2 σ f) := hC
  exact kk _ _ σ τ2 f _ _ _ hJ2 hC (by omega) (by omega) hl

set_option maxHeartbeats 8000000 in
set_option maxRecDepth 100000 in
theorem law_case_9 {p : Program} {e : Env} {s : State} {m : MethodId} {below : List Frame} {meth : Method} {c : Code} (l : Launch) (hfl : l.stackTraces = false) {b L : Nat} {xs : Nat → Int32} (C0 : lw_At p s m meth c b L xs) {D : va_G} {y : Nat → ClassId} {ad av : Nat → Nat} {sa1 sa2 : Nat} (E0 : LEn D y ad av sa1 sa2 s) {om ox : Nat → Nat} {a3 : Nat} {H : Heap} {locs : List Loc} {cells slots : Nat} {σ τ : Sto} {f : Nat → Int64} (hJ : JT σ τ) (hC : CZ D (ALs s) s H locs (LWd y om ox a3 τ σ f)) (hc9 : cells + 1 ≤ 601024) (hs9 : slots + 6 ≤ 7293034) {i : Int32} (hi : 0 ≤ i.toInt) (hi2 : i.toInt + 7 ≤ (L : Int)) (hL : L ≤ 3584) {Q : State → Prop} (ls : Array Slot) (hl : lv_has ls 7 [(4, .int i), (3, .ref a3), (2, .ref (om 0)), (1, .ref (ox 0)), (0, .ref b)]) (kk : ∀ (H1 : Heap) (locs1 : List Loc) (σ1 τ1 : Sto) (f1 : Nat → Int64) (cells1 slots1 : Nat) (ls1 : Array Slot), JT σ1 τ1 → CZ D (ALs s) s H1 locs1 (LWd y om ox a3 τ1 σ1 f1) → cells1 ≤ cells + 1 → slots1 ≤ slots + 6 → lv_has ls1 7 [(4, .int i), (3, .ref a3), (2, .ref (om 0)), (1, .ref (ox 0)), (0, .ref b)] → W p l e room_1 s m #[Value.ref b] below meth c H1 locs1 cells1 slots1 Q (F0 m 975 ls1 [])) : W p l e room_1 s m #[Value.ref b] below meth c H locs cells slots Q (F0 m 455 ls []) := by
  obtain ⟨hx, hb, hr, hml, hown, hts, hX, hbl, hlocks, hgv⟩ := C0
  obtain ⟨hK, hN, hV, hE1, hE2⟩ := E0
  have hown : s.vm.findClass RL = some m.cls := hown
  have hA : ∀ q : Nat, s.heap.size ≤ q → ALs s q := fun _ h => h
  have hbA : ¬ ALs s b := Nat.not_le.mpr hbl
  obtain ⟨v, w, τ2, e1, e2, hJ2⟩ := J_dominates hJ (xs (i + 1).toNatClampNeg) (xs (i + 2).toNatClampNeg)
  refine lv_aload_n hx hb dL_law_455 rfl (lv_at hl 3 rfl) ?_
  refine lv_aload_n hx hb dL_law_456 rfl (lv_at hl 4 rfl) ?_
  refine lv_iload hx hb dL_law_457 (lv_at hl 0 rfl) ?_
  refine lv_iconst (v := 1) hx hb dL_law_459 (by decide) ?_
  refine lv_iadd hx hb dL_law_460 ?_
  refine va_sld hx hb hX hbl hbA hC.2.2 (vp_k hi hi2 hL 1 (by decide +kernel)) dL_law_461 ?_
  refine lv_aload_n hx hb dL_law_462 rfl (lv_at hl 4 rfl) ?_
  refine lv_iload hx hb dL_law_463 (lv_at hl 0 rfl) ?_
  refine lv_iconst (v := 2) hx hb dL_law_465 (by decide) ?_
  refine lv_iadd hx hb dL_law_466 ?_
  refine va_sld hx hb hX hbl hbA hC.2.2 (vp_k hi hi2 hL 2 (by decide +kernel)) dL_law_467 ?_
  have hC : CZ D (ALs s) s _ _ (WM y om τ ++ (WX y ox σ ++ [(a3, .inl (y 3, 1, .inr (.inl f)))])) := hC
  have hM := CZ.mid hC
  have hF := frZ hM hA
  refine va_calli (va_runV (As := [.int (xs (i + 1).toNatClampNeg), .int (xs (i + 2).toNatClampNeg)]) (rest := []) ⟨hx, hb, hml, hown, hts⟩ (r_X11_dominates (D := D) (y := y) (o := ox) (ad := ad) (av := av) e1 l _) (cwV 2 hts lc_64 rfl rfl rfl ⟨rfl, hd_X11_dominates.1, hd_X11_dominates.2.1, hd_X11_dominates.2.2⟩ ⟨Nat.le_of_ble_eq_true rfl, Nat.le_of_ble_eq_true rfl⟩) ⟨blZ, va_recv hK hM.1 (ci := 11) (q0 := 0) rfl rfl, prZ hK hN hV hA hM⟩ rfl rfl hl.1 rfl (lv_room (Nat.le_of_ble_eq_true rfl)) dL_law_468 ⟨by show cells + 0 ≤ 601024; omega, by show slots + 0 ≤ 7293034; omega⟩) hM.2.2 (fun q _ h => hF q h) hF (fun r1 u t H locs ht hvm hw hB hz1 hk1 hS => ?_)
  subst ht
  have hC := CZ.back hC hA hk1 hB.1 hB.2 hS
  refine lv_pop hx hb dL_law_471 rfl ?_
  refine lv_aload_n hx hb dL_law_472 rfl (lv_at hl 2 rfl) ?_
  refine lv_aload_n hx hb dL_law_473 rfl (lv_at hl 4 rfl) ?_
  refine lv_iload hx hb dL_law_474 (lv_at hl 0 rfl) ?_
  refine lv_iconst (v := 1) hx hb dL_law_476 (by decide) ?_
  refine lv_iadd hx hb dL_law_477 ?_
  refine va_sld hx hb hX hbl hbA hC.2.2 (vp_k hi hi2 hL 1 (by decide +kernel)) dL_law_478 ?_
  refine lv_aload_n hx hb dL_law_479 rfl (lv_at hl 4 rfl) ?_
  refine lv_iload hx hb dL_law_480 (lv_at hl 0 rfl) ?_
  refine lv_iconst (v := 2) hx hb dL_law_482 (by decide) ?_
  refine lv_iadd hx hb dL_law_483 ?_
  refine va_sld hx hb hX hbl hbA hC.2.2 (vp_k hi hi2 hL 2 (by decide +kernel)) dL_law_484 ?_
  have hC : CZ D (ALs s) s _ _ ([] ++ (WM y om τ ++ (WX y ox σ ++ [(a3, .inl (y 3, 1, .inr (.inl f)))]))) := hC
  have hM := CZ.mid hC
  have hF := frZ hM hA
  refine va_calli (va_runV (As := [.int (xs (i + 1).toNatClampNeg), .int (xs (i + 2).toNatClampNeg)]) (rest := []) ⟨hx, hb, hml, hown, hts⟩ (r_X12_dominates (D := D) (y := y) (o := om) (ad := ad) (av := av) e2 l _) (cwV 2 hts lc_68 rfl rfl rfl ⟨rfl, hd_X12_dominates.1, hd_X12_dominates.2.1, hd_X12_dominates.2.2⟩ ⟨Nat.le_of_ble_eq_true rfl, Nat.le_of_ble_eq_true rfl⟩) ⟨blZ, va_recv hK hM.1 (ci := 12) (q0 := 0) rfl rfl, prZ hK hN hV hA hM⟩ rfl rfl hl.1 rfl (lv_room (Nat.le_of_ble_eq_true rfl)) dL_law_485 ⟨by show cells + 0 + 0 ≤ 601024; omega, by show slots + 0 + 0 ≤ 7293034; omega⟩) hM.2.2 (fun q _ h => hF q h) hF (fun r2 u t H locs ht hvm hw hB hz1 hk1 hS => ?_)
  subst ht
  have hC := CZ.back hC hA hk1 hB.1 hB.2 hS
  refine lv_pop hx hb dL_law_488 rfl ?_
  refine lv_goto (tgt := 975) hx hb dL_law_489 (by decide) ?_
  have hC : CZ D (ALs s) s _ _ (LWd y om ox a3 τ2 σ f) := hC
  exact kk _ _ σ τ2 f _ _ _ hJ2 hC (by omega) (by omega) hl

set_option maxHeartbeats 8000000 in
set_option maxRecDepth 100000 in
theorem law_case_10 {p : Program} {e : Env} {s : State} {m : MethodId} {below : List Frame} {meth : Method} {c : Code} (l : Launch) (hfl : l.stackTraces = false) {b L : Nat} {xs : Nat → Int32} (C0 : lw_At p s m meth c b L xs) {D : va_G} {y : Nat → ClassId} {ad av : Nat → Nat} {sa1 sa2 : Nat} (E0 : LEn D y ad av sa1 sa2 s) {om ox : Nat → Nat} {a3 : Nat} {H : Heap} {locs : List Loc} {cells slots : Nat} {σ τ : Sto} {f : Nat → Int64} (hJ : JT σ τ) (hC : CZ D (ALs s) s H locs (LWd y om ox a3 τ σ f)) (hc9 : cells + 1 ≤ 601024) (hs9 : slots + 6 ≤ 7293034) {i : Int32} (hi : 0 ≤ i.toInt) (hi2 : i.toInt + 7 ≤ (L : Int)) (hL : L ≤ 3584) {Q : State → Prop} (ls : Array Slot) (hl : lv_has ls 7 [(4, .int i), (3, .ref a3), (2, .ref (om 0)), (1, .ref (ox 0)), (0, .ref b)]) (kk : ∀ (H1 : Heap) (locs1 : List Loc) (σ1 τ1 : Sto) (f1 : Nat → Int64) (cells1 slots1 : Nat) (ls1 : Array Slot), JT σ1 τ1 → CZ D (ALs s) s H1 locs1 (LWd y om ox a3 τ1 σ1 f1) → cells1 ≤ cells + 1 → slots1 ≤ slots + 6 → lv_has ls1 7 [(4, .int i), (3, .ref a3), (2, .ref (om 0)), (1, .ref (ox 0)), (0, .ref b)] → W p l e room_1 s m #[Value.ref b] below meth c H1 locs1 cells1 slots1 Q (F0 m 975 ls1 [])) : W p l e room_1 s m #[Value.ref b] below meth c H locs cells slots Q (F0 m 492 ls []) := by
  obtain ⟨hx, hb, hr, hml, hown, hts, hX, hbl, hlocks, hgv⟩ := C0
  obtain ⟨hK, hN, hV, hE1, hE2⟩ := E0
  have hown : s.vm.findClass RL = some m.cls := hown
  have hA : ∀ q : Nat, s.heap.size ≤ q → ALs s q := fun _ h => h
  have hbA : ¬ ALs s b := Nat.not_le.mpr hbl
  obtain ⟨v, w, τ2, e1, e2, hJ2⟩ := J_loop hJ (xs (i + 1).toNatClampNeg)
  refine lv_aload_n hx hb dL_law_492 rfl (lv_at hl 3 rfl) ?_
  refine lv_aload_n hx hb dL_law_493 rfl (lv_at hl 4 rfl) ?_
  refine lv_iload hx hb dL_law_494 (lv_at hl 0 rfl) ?_
  refine lv_iconst (v := 1) hx hb dL_law_496 (by decide) ?_
  refine lv_iadd hx hb dL_law_497 ?_
  refine va_sld hx hb hX hbl hbA hC.2.2 (vp_k hi hi2 hL 1 (by decide +kernel)) dL_law_498 ?_
  have hC : CZ D (ALs s) s _ _ (WM y om τ ++ (WX y ox σ ++ [(a3, .inl (y 3, 1, .inr (.inl f)))])) := hC
  have hM := CZ.mid hC
  have hF := frZ hM hA
  refine va_calll (va_runV (As := [.int (xs (i + 1).toNatClampNeg)]) (rest := []) ⟨hx, hb, hml, hown, hts⟩ (r_X11_loop (D := D) (y := y) (o := ox) (ad := ad) (av := av) e1 l _) (cwV 1 hts lc_69 rfl rfl rfl ⟨rfl, hd_X11_loop.1, hd_X11_loop.2.1, hd_X11_loop.2.2⟩ ⟨Nat.le_of_ble_eq_true rfl, Nat.le_of_ble_eq_true rfl⟩) ⟨blZ, va_recv hK hM.1 (ci := 11) (q0 := 0) rfl rfl, prZ hK hN hV hA hM⟩ rfl rfl hl.1 rfl (lv_room (Nat.le_of_ble_eq_true rfl)) dL_law_499 ⟨by show cells + 0 ≤ 601024; omega, by show slots + 0 ≤ 7293034; omega⟩) hM.2.2 (fun q _ h => hF q h) hF (fun r1 u t H locs ht hvm hw hB hz1 hk1 hS => ?_)
  subst ht
  have hC := CZ.back hC hA hk1 hB.1 hB.2 hS
  refine lv_pop2_2 hx hb dL_law_502 rfl ?_
  refine lv_aload_n hx hb dL_law_503 rfl (lv_at hl 2 rfl) ?_
  refine lv_aload_n hx hb dL_law_504 rfl (lv_at hl 4 rfl) ?_
  refine lv_iload hx hb dL_law_505 (lv_at hl 0 rfl) ?_
  refine lv_iconst (v := 1) hx hb dL_law_507 (by decide) ?_
  refine lv_iadd hx hb dL_law_508 ?_
  refine va_sld hx hb hX hbl hbA hC.2.2 (vp_k hi hi2 hL 1 (by decide +kernel)) dL_law_509 ?_
  have hC : CZ D (ALs s) s _ _ ([] ++ (WM y om τ ++ (WX y ox σ ++ [(a3, .inl (y 3, 1, .inr (.inl f)))]))) := hC
  have hM := CZ.mid hC
  have hF := frZ hM hA
  refine va_calll (va_runV (As := [.int (xs (i + 1).toNatClampNeg)]) (rest := []) ⟨hx, hb, hml, hown, hts⟩ (r_X12_loop (D := D) (y := y) (o := om) (ad := ad) (av := av) e2 l _) (cwV 1 hts lc_73 rfl rfl rfl ⟨rfl, hd_X12_loop.1, hd_X12_loop.2.1, hd_X12_loop.2.2⟩ ⟨Nat.le_of_ble_eq_true rfl, Nat.le_of_ble_eq_true rfl⟩) ⟨blZ, va_recv hK hM.1 (ci := 12) (q0 := 0) rfl rfl, prZ hK hN hV hA hM⟩ rfl rfl hl.1 rfl (lv_room (Nat.le_of_ble_eq_true rfl)) dL_law_510 ⟨by show cells + 0 + 0 ≤ 601024; omega, by show slots + 0 + 0 ≤ 7293034; omega⟩) hM.2.2 (fun q _ h => hF q h) hF (fun r2 u t H locs ht hvm hw hB hz1 hk1 hS => ?_)
  subst ht
  have hC := CZ.back hC hA hk1 hB.1 hB.2 hS
  refine lv_pop2_2 hx hb dL_law_513 rfl ?_
  refine lv_goto (tgt := 975) hx hb dL_law_514 (by decide) ?_
  have hC : CZ D (ALs s) s _ _ (LWd y om ox a3 τ2 σ f) := hC
  exact kk _ _ σ τ2 f _ _ _ hJ2 hC (by omega) (by omega) hl

set_option maxHeartbeats 8000000 in
set_option maxRecDepth 100000 in
theorem law_case_11 {p : Program} {e : Env} {s : State} {m : MethodId} {below : List Frame} {meth : Method} {c : Code} (l : Launch) (hfl : l.stackTraces = false) {b L : Nat} {xs : Nat → Int32} (C0 : lw_At p s m meth c b L xs) {D : va_G} {y : Nat → ClassId} {ad av : Nat → Nat} {sa1 sa2 : Nat} (E0 : LEn D y ad av sa1 sa2 s) {om ox : Nat → Nat} {a3 : Nat} {H : Heap} {locs : List Loc} {cells slots : Nat} {σ τ : Sto} {f : Nat → Int64} (hJ : JT σ τ) (hC : CZ D (ALs s) s H locs (LWd y om ox a3 τ σ f)) (hc9 : cells + 1 ≤ 601024) (hs9 : slots + 6 ≤ 7293034) {i : Int32} (hi : 0 ≤ i.toInt) (hi2 : i.toInt + 7 ≤ (L : Int)) (hL : L ≤ 3584) {Q : State → Prop} (ls : Array Slot) (hl : lv_has ls 7 [(4, .int i), (3, .ref a3), (2, .ref (om 0)), (1, .ref (ox 0)), (0, .ref b)]) (kk : ∀ (H1 : Heap) (locs1 : List Loc) (σ1 τ1 : Sto) (f1 : Nat → Int64) (cells1 slots1 : Nat) (ls1 : Array Slot), JT σ1 τ1 → CZ D (ALs s) s H1 locs1 (LWd y om ox a3 τ1 σ1 f1) → cells1 ≤ cells + 1 → slots1 ≤ slots + 6 → lv_has ls1 7 [(4, .int i), (3, .ref a3), (2, .ref (om 0)), (1, .ref (ox 0)), (0, .ref b)] → W p l e room_1 s m #[Value.ref b] below meth c H1 locs1 cells1 slots1 Q (F0 m 975 ls1 [])) : W p l e room_1 s m #[Value.ref b] below meth c H locs cells slots Q (F0 m 517 ls []) := by
  obtain ⟨hx, hb, hr, hml, hown, hts, hX, hbl, hlocks, hgv⟩ := C0
  obtain ⟨hK, hN, hV, hE1, hE2⟩ := E0
  have hown : s.vm.findClass RL = some m.cls := hown
  have hA : ∀ q : Nat, s.heap.size ≤ q → ALs s q := fun _ h => h
  have hbA : ¬ ALs s b := Nat.not_le.mpr hbl
  obtain ⟨v, σ2, w, τ2, e1, e2, hJ2⟩ := J_statement hJ (xs (i + 1).toNatClampNeg) (xs (i + 2).toNatClampNeg) (xs (i + 3).toNatClampNeg)
  refine lv_aload_n hx hb dL_law_517 rfl (lv_at hl 3 rfl) ?_
  refine lv_aload_n hx hb dL_law_518 rfl (lv_at hl 4 rfl) ?_
  refine lv_iload hx hb dL_law_519 (lv_at hl 0 rfl) ?_
  refine lv_iconst (v := 1) hx hb dL_law_521 (by decide) ?_
  refine lv_iadd hx hb dL_law_522 ?_
  refine va_sld hx hb hX hbl hbA hC.2.2 (vp_k hi hi2 hL 1 (by decide +kernel)) dL_law_523 ?_
  refine lv_aload_n hx hb dL_law_524 rfl (lv_at hl 4 rfl) ?_
  refine lv_iload hx hb dL_law_525 (lv_at hl 0 rfl) ?_
  refine lv_iconst (v := 2) hx hb dL_law_527 (by decide) ?_
  refine lv_iadd hx hb dL_law_528 ?_
  refine va_sld hx hb hX hbl hbA hC.2.2 (vp_k hi hi2 hL 2 (by decide +kernel)) dL_law_529 ?_
  refine lv_aload_n hx hb dL_law_530 rfl (lv_at hl 4 rfl) ?_
  refine lv_iload hx hb dL_law_531 (lv_at hl 0 rfl) ?_
  refine lv_iconst (v := 3) hx hb dL_law_533 (by decide) ?_
  refine lv_iadd hx hb dL_law_534 ?_
  refine va_sld hx hb hX hbl hbA hC.2.2 (vp_k hi hi2 hL 3 (by decide +kernel)) dL_law_535 ?_
  have hC : CZ D (ALs s) s _ _ (WM y om τ ++ (WX y ox σ ++ [(a3, .inl (y 3, 1, .inr (.inl f)))])) := hC
  have hM := CZ.mid hC
  have hF := frZ hM hA
  refine va_calli (va_runV (As := [.int (xs (i + 1).toNatClampNeg), .int (xs (i + 2).toNatClampNeg), .int (xs (i + 3).toNatClampNeg)]) (rest := []) ⟨hx, hb, hml, hown, hts⟩ (r_X11_statement (D := D) (y := y) (o := ox) (ad := ad) (av := av) e1 l _) (cwV 3 hts lc_74 rfl rfl rfl ⟨rfl, hd_X11_statement.1, hd_X11_statement.2.1, hd_X11_statement.2.2⟩ ⟨Nat.le_of_ble_eq_true rfl, Nat.le_of_ble_eq_true rfl⟩) ⟨blZ, va_recv hK hM.1 (ci := 11) (q0 := 0) rfl rfl, prZ hK hN hV hA hM⟩ rfl rfl hl.1 rfl (lv_room (Nat.le_of_ble_eq_true rfl)) dL_law_536 ⟨by show cells + 0 ≤ 601024; omega, by show slots + 0 ≤ 7293034; omega⟩) hM.2.2 (fun q _ h => hF q h) hF (fun r1 u t H locs ht hvm hw hB hz1 hk1 hS => ?_)
  subst ht
  have hC := CZ.back hC hA hk1 hB.1 hB.2 hS
  refine lv_pop hx hb dL_law_539 rfl ?_
  refine lv_aload_n hx hb dL_law_540 rfl (lv_at hl 2 rfl) ?_
  refine lv_aload_n hx hb dL_law_541 rfl (lv_at hl 4 rfl) ?_
  refine lv_iload hx hb dL_law_542 (lv_at hl 0 rfl) ?_
  refine lv_iconst (v := 1) hx hb dL_law_544 (by decide) ?_
  refine lv_iadd hx hb dL_law_545 ?_
  refine va_sld hx hb hX hbl hbA hC.2.2 (vp_k hi hi2 hL 1 (by decide +kernel)) dL_law_546 ?_
  refine lv_aload_n hx hb dL_law_547 rfl (lv_at hl 4 rfl) ?_
  refine lv_iload hx hb dL_law_548 (lv_at hl 0 rfl) ?_
  refine lv_iconst (v := 2) hx hb dL_law_550 (by decide) ?_
  refine lv_iadd hx hb dL_law_551 ?_
  refine va_sld hx hb hX hbl hbA hC.2.2 (vp_k hi hi2 hL 2 (by decide +kernel)) dL_law_552 ?_
  refine lv_aload_n hx hb dL_law_553 rfl (lv_at hl 4 rfl) ?_
  refine lv_iload hx hb dL_law_554 (lv_at hl 0 rfl) ?_
  refine lv_iconst (v := 3) hx hb dL_law_556 (by decide) ?_
  refine lv_iadd hx hb dL_law_557 ?_
  refine va_sld hx hb hX hbl hbA hC.2.2 (vp_k hi hi2 hL 3 (by decide +kernel)) dL_law_558 ?_
  have hC : CZ D (ALs s) s _ _ ([] ++ (WM y om τ ++ (WX y ox σ2 ++ [(a3, .inl (y 3, 1, .inr (.inl f)))]))) := hC
  have hM := CZ.mid hC
  have hF := frZ hM hA
  refine va_calli (va_runV (As := [.int (xs (i + 1).toNatClampNeg), .int (xs (i + 2).toNatClampNeg), .int (xs (i + 3).toNatClampNeg)]) (rest := []) ⟨hx, hb, hml, hown, hts⟩ (r_X12_statement (D := D) (y := y) (o := om) (ad := ad) (av := av) e2 l _) (cwV 3 hts lc_77 rfl rfl rfl ⟨rfl, hd_X12_statement.1, hd_X12_statement.2.1, hd_X12_statement.2.2⟩ ⟨Nat.le_of_ble_eq_true rfl, Nat.le_of_ble_eq_true rfl⟩) ⟨blZ, va_recv hK hM.1 (ci := 12) (q0 := 0) rfl rfl, prZ hK hN hV hA hM⟩ rfl rfl hl.1 rfl (lv_room (Nat.le_of_ble_eq_true rfl)) dL_law_559 ⟨by show cells + 0 + 0 ≤ 601024; omega, by show slots + 0 + 0 ≤ 7293034; omega⟩) hM.2.2 (fun q _ h => hF q h) hF (fun r2 u t H locs ht hvm hw hB hz1 hk1 hS => ?_)
  subst ht
  have hC := CZ.back hC hA hk1 hB.1 hB.2 hS
  refine lv_pop hx hb dL_law_562 rfl ?_
  refine lv_goto (tgt := 975) hx hb dL_law_563 (by decide) ?_
  have hC : CZ D (ALs s) s _ _ (LWd y om ox a3 τ2 σ2 f) := hC
  exact kk _ _ σ2 τ2 f _ _ _ hJ2 hC (by omega) (by omega) hl

set_option maxHeartbeats 8000000 in
set_option maxRecDepth 100000 in
theorem law_case_12 {p : Program} {e : Env} {s : State} {m : MethodId} {below : List Frame} {meth : Method} {c : Code} (l : Launch) (hfl : l.stackTraces = false) {b L : Nat} {xs : Nat → Int32} (C0 : lw_At p s m meth c b L xs) {D : va_G} {y : Nat → ClassId} {ad av : Nat → Nat} {sa1 sa2 : Nat} (E0 : LEn D y ad av sa1 sa2 s) {om ox : Nat → Nat} {a3 : Nat} {H : Heap} {locs : List Loc} {cells slots : Nat} {σ τ : Sto} {f : Nat → Int64} (hJ : JT σ τ) (hC : CZ D (ALs s) s H locs (LWd y om ox a3 τ σ f)) (hc9 : cells + 1 ≤ 601024) (hs9 : slots + 6 ≤ 7293034) {i : Int32} (hi : 0 ≤ i.toInt) (hi2 : i.toInt + 7 ≤ (L : Int)) (hL : L ≤ 3584) {Q : State → Prop} (ls : Array Slot) (hl : lv_has ls 7 [(4, .int i), (3, .ref a3), (2, .ref (om 0)), (1, .ref (ox 0)), (0, .ref b)]) (kk : ∀ (H1 : Heap) (locs1 : List Loc) (σ1 τ1 : Sto) (f1 : Nat → Int64) (cells1 slots1 : Nat) (ls1 : Array Slot), JT σ1 τ1 → CZ D (ALs s) s H1 locs1 (LWd y om ox a3 τ1 σ1 f1) → cells1 ≤ cells + 1 → slots1 ≤ slots + 6 → lv_has ls1 7 [(4, .int i), (3, .ref a3), (2, .ref (om 0)), (1, .ref (ox 0)), (0, .ref b)] → W p l e room_1 s m #[Value.ref b] below meth c H1 locs1 cells1 slots1 Q (F0 m 975 ls1 [])) : W p l e room_1 s m #[Value.ref b] below meth c H locs cells slots Q (F0 m 566 ls []) := by
  obtain ⟨hx, hb, hr, hml, hown, hts, hX, hbl, hlocks, hgv⟩ := C0
  obtain ⟨hK, hN, hV, hE1, hE2⟩ := E0
  have hown : s.vm.findClass RL = some m.cls := hown
  have hA : ∀ q : Nat, s.heap.size ≤ q → ALs s q := fun _ h => h
  have hbA : ¬ ALs s b := Nat.not_le.mpr hbl
  obtain ⟨v, σ2, w, τ2, e1, e2, hJ2⟩ := J_condition hJ (xs (i + 1).toNatClampNeg) (xs (i + 2).toNatClampNeg)
  refine lv_aload_n hx hb dL_law_566 rfl (lv_at hl 3 rfl) ?_
  refine lv_aload_n hx hb dL_law_567 rfl (lv_at hl 4 rfl) ?_
  refine lv_iload hx hb dL_law_568 (lv_at hl 0 rfl) ?_
  refine lv_iconst (v := 1) hx hb dL_law_570 (by decide) ?_
  refine lv_iadd hx hb dL_law_571 ?_
  refine va_sld hx hb hX hbl hbA hC.2.2 (vp_k hi hi2 hL 1 (by decide +kernel)) dL_law_572 ?_
  refine lv_aload_n hx hb dL_law_573 rfl (lv_at hl 4 rfl) ?_
  refine lv_iload hx hb dL_law_574 (lv_at hl 0 rfl) ?_
  refine lv_iconst (v := 2) hx hb dL_law_576 (by decide) ?_
  refine lv_iadd hx hb dL_law_577 ?_
  refine va_sld hx hb hX hbl hbA hC.2.2 (vp_k hi hi2 hL 2 (by decide +kernel)) dL_law_578 ?_
  have hC : CZ D (ALs s) s _ _ (WM y om τ ++ (WX y ox σ ++ [(a3, .inl (y 3, 1, .inr (.inl f)))])) := hC
  have hM := CZ.mid hC
  have hF := frZ hM hA
  refine va_calli (va_runV (As := [.int (xs (i + 1).toNatClampNeg), .int (xs (i + 2).toNatClampNeg)]) (rest := []) ⟨hx, hb, hml, hown, hts⟩ (r_X11_condition (D := D) (y := y) (o := ox) (ad := ad) (av := av) e1 l _) (cwV 2 hts lc_78 rfl rfl rfl ⟨rfl, hd_X11_condition.1, hd_X11_condition.2.1, hd_X11_condition.2.2⟩ ⟨Nat.le_of_ble_eq_true rfl, Nat.le_of_ble_eq_true rfl⟩) ⟨blZ, va_recv hK hM.1 (ci := 11) (q0 := 0) rfl rfl, prZ hK hN hV hA hM⟩ rfl rfl hl.1 rfl (lv_room (Nat.le_of_ble_eq_true rfl)) dL_law_579 ⟨by show cells + 0 ≤ 601024; omega, by show slots + 0 ≤ 7293034; omega⟩) hM.2.2 (fun q _ h => hF q h) hF (fun r1 u t H locs ht hvm hw hB hz1 hk1 hS => ?_)
  subst ht
  have hC := CZ.back hC hA hk1 hB.1 hB.2 hS
  refine lv_pop hx hb dL_law_582 rfl ?_
  refine lv_aload_n hx hb dL_law_583 rfl (lv_at hl 2 rfl) ?_
  refine lv_aload_n hx hb dL_law_584 rfl (lv_at hl 4 rfl) ?_
  refine lv_iload hx hb dL_law_585 (lv_at hl 0 rfl) ?_
  refine lv_iconst (v := 1) hx hb dL_law_587 (by decide) ?_
  refine lv_iadd hx hb dL_law_588 ?_
  refine va_sld hx hb hX hbl hbA hC.2.2 (vp_k hi hi2 hL 1 (by decide +kernel)) dL_law_589 ?_
  refine lv_aload_n hx hb dL_law_590 rfl (lv_at hl 4 rfl) ?_
  refine lv_iload hx hb dL_law_591 (lv_at hl 0 rfl) ?_
  refine lv_iconst (v := 2) hx hb dL_law_593 (by decide) ?_
  refine lv_iadd hx hb dL_law_594 ?_
  refine va_sld hx hb hX hbl hbA hC.2.2 (vp_k hi hi2 hL 2 (by decide +kernel)) dL_law_595 ?_
  have hC : CZ D (ALs s) s _ _ ([] ++ (WM y om τ ++ (WX y ox σ2 ++ [(a3, .inl (y 3, 1, .inr (.inl f)))]))) := hC
  have hM := CZ.mid hC
  have hF := frZ hM hA
  refine va_calli (va_runV (As := [.int (xs (i + 1).toNatClampNeg), .int (xs (i + 2).toNatClampNeg)]) (rest := []) ⟨hx, hb, hml, hown, hts⟩ (r_X12_condition (D := D) (y := y) (o := om) (ad := ad) (av := av) e2 l _) (cwV 2 hts lc_81 rfl rfl rfl ⟨rfl, hd_X12_condition.1, hd_X12_condition.2.1, hd_X12_condition.2.2⟩ ⟨Nat.le_of_ble_eq_true rfl, Nat.le_of_ble_eq_true rfl⟩) ⟨blZ, va_recv hK hM.1 (ci := 12) (q0 := 0) rfl rfl, prZ hK hN hV hA hM⟩ rfl rfl hl.1 rfl (lv_room (Nat.le_of_ble_eq_true rfl)) dL_law_596 ⟨by show cells + 0 + 0 ≤ 601024; omega, by show slots + 0 + 0 ≤ 7293034; omega⟩) hM.2.2 (fun q _ h => hF q h) hF (fun r2 u t H locs ht hvm hw hB hz1 hk1 hS => ?_)
  subst ht
  have hC := CZ.back hC hA hk1 hB.1 hB.2 hS
  refine lv_pop hx hb dL_law_599 rfl ?_
  refine lv_goto (tgt := 975) hx hb dL_law_600 (by decide) ?_
  have hC : CZ D (ALs s) s _ _ (LWd y om ox a3 τ2 σ2 f) := hC
  exact kk _ _ σ2 τ2 f _ _ _ hJ2 hC (by omega) (by omega) hl

set_option maxHeartbeats 8000000 in
set_option maxRecDepth 100000 in
theorem law_case_13 {p : Program} {e : Env} {s : State} {m : MethodId} {below : List Frame} {meth : Method} {c : Code} (l : Launch) (hfl : l.stackTraces = false) {b L : Nat} {xs : Nat → Int32} (C0 : lw_At p s m meth c b L xs) {D : va_G} {y : Nat → ClassId} {ad av : Nat → Nat} {sa1 sa2 : Nat} (E0 : LEn D y ad av sa1 sa2 s) {om ox : Nat → Nat} {a3 : Nat} {H : Heap} {locs : List Loc} {cells slots : Nat} {σ τ : Sto} {f : Nat → Int64} (hJ : JT σ τ) (hC : CZ D (ALs s) s H locs (LWd y om ox a3 τ σ f)) (hc9 : cells + 1 ≤ 601024) (hs9 : slots + 6 ≤ 7293034) {i : Int32} (hi : 0 ≤ i.toInt) (hi2 : i.toInt + 7 ≤ (L : Int)) (hL : L ≤ 3584) {Q : State → Prop} (ls : Array Slot) (hl : lv_has ls 7 [(4, .int i), (3, .ref a3), (2, .ref (om 0)), (1, .ref (ox 0)), (0, .ref b)]) (kk : ∀ (H1 : Heap) (locs1 : List Loc) (σ1 τ1 : Sto) (f1 : Nat → Int64) (cells1 slots1 : Nat) (ls1 : Array Slot), JT σ1 τ1 → CZ D (ALs s) s H1 locs1 (LWd y om ox a3 τ1 σ1 f1) → cells1 ≤ cells + 1 → slots1 ≤ slots + 6 → lv_has ls1 7 [(4, .int i), (3, .ref a3), (2, .ref (om 0)), (1, .ref (ox 0)), (0, .ref b)] → W p l e room_1 s m #[Value.ref b] below meth c H1 locs1 cells1 slots1 Q (F0 m 975 ls1 [])) : W p l e room_1 s m #[Value.ref b] below meth c H locs cells slots Q (F0 m 603 ls []) := by
  obtain ⟨hx, hb, hr, hml, hown, hts, hX, hbl, hlocks, hgv⟩ := C0
  obtain ⟨hK, hN, hV, hE1, hE2⟩ := E0
  have hown : s.vm.findClass RL = some m.cls := hown
  have hA : ∀ q : Nat, s.heap.size ≤ q → ALs s q := fun _ h => h
  have hbA : ¬ ALs s b := Nat.not_le.mpr hbl
  obtain ⟨v, w, τ2, e1, e2, hJ2⟩ := J_line hJ (xs (i + 1).toNatClampNeg) (xs (i + 2).toNatClampNeg)
  refine lv_aload_n hx hb dL_law_603 rfl (lv_at hl 3 rfl) ?_
  refine lv_aload_n hx hb dL_law_604 rfl (lv_at hl 4 rfl) ?_
  refine lv_iload hx hb dL_law_605 (lv_at hl 0 rfl) ?_
  refine lv_iconst (v := 1) hx hb dL_law_607 (by decide) ?_
  refine lv_iadd hx hb dL_law_608 ?_
  refine va_sld hx hb hX hbl hbA hC.2.2 (vp_k hi hi2 hL 1 (by decide +kernel)) dL_law_609 ?_
  refine lv_aload_n hx hb dL_law_610 rfl (lv_at hl 4 rfl) ?_
  refine lv_iload hx hb dL_law_611 (lv_at hl 0 rfl) ?_
  refine lv_iconst (v := 2) hx hb dL_law_613 (by decide) ?_
  refine lv_iadd hx hb dL_law_614 ?_
  refine va_sld hx hb hX hbl hbA hC.2.2 (vp_k hi hi2 hL 2 (by decide +kernel)) dL_law_615 ?_
  have hC : CZ D (ALs s) s _ _ (WM y om τ ++ (WX y ox σ ++ [(a3, .inl (y 3, 1, .inr (.inl f)))])) := hC
  have hM := CZ.mid hC
  have hF := frZ hM hA
  refine va_calli (va_runV (As := [.int (xs (i + 1).toNatClampNeg), .int (xs (i + 2).toNatClampNeg)]) (rest := []) ⟨hx, hb, hml, hown, hts⟩ (r_X11_line (D := D) (y := y) (o := ox) (ad := ad) (av := av) e1 l _) (cwV 2 hts lc_82 rfl rfl rfl ⟨rfl, hd_X11_line.1, hd_X11_line.2.1, hd_X11_line.2.2⟩ ⟨Nat.le_of_ble_eq_true rfl, Nat.le_of_ble_eq_true rfl⟩) ⟨blZ, va_recv hK hM.1 (ci := 11) (q0 := 0) rfl rfl, prZ hK hN hV hA hM⟩ rfl rfl hl.1 rfl (lv_room (Nat.le_of_ble_eq_true rfl)) dL_law_616 ⟨by show cells + 0 ≤ 601024; omega, by show slots + 0 ≤ 7293034; omega⟩) hM.2.2 (fun q _ h => hF q h) hF (fun r1 u t H locs ht hvm hw hB hz1 hk1 hS => ?_)
  subst ht
  have hC := CZ.back hC hA hk1 hB.1 hB.2 hS
  refine lv_pop hx hb dL_law_619 rfl ?_
  refine lv_aload_n hx hb dL_law_620 rfl (lv_at hl 2 rfl) ?_
  refine lv_aload_n hx hb dL_law_621 rfl (lv_at hl 4 rfl) ?_
  refine lv_iload hx hb dL_law_622 (lv_at hl 0 rfl) ?_
  refine lv_iconst (v := 1) hx hb dL_law_624 (by decide) ?_
  refine lv_iadd hx hb dL_law_625 ?_
  refine va_sld hx hb hX hbl hbA hC.2.2 (vp_k hi hi2 hL 1 (by decide +kernel)) dL_law_626 ?_
  refine lv_aload_n hx hb dL_law_627 rfl (lv_at hl 4 rfl) ?_
  refine lv_iload hx hb dL_law_628 (lv_at hl 0 rfl) ?_
  refine lv_iconst (v := 2) hx hb dL_law_630 (by decide) ?_
  refine lv_iadd hx hb dL_law_631 ?_
  refine va_sld hx hb hX hbl hbA hC.2.2 (vp_k hi hi2 hL 2 (by decide +kernel)) dL_law_632 ?_
  have hC : CZ D (ALs s) s _ _ ([] ++ (WM y om τ ++ (WX y ox σ ++ [(a3, .inl (y 3, 1, .inr (.inl f)))]))) := hC
  have hM := CZ.mid hC
  have hF := frZ hM hA
  refine va_calli (va_runV (As := [.int (xs (i + 1).toNatClampNeg), .int (xs (i + 2).toNatClampNeg)]) (rest := []) ⟨hx, hb, hml, hown, hts⟩ (r_X12_line_ (D := D) (y := y) (o := om) (ad := ad) (av := av) e2 l _) (cwV 2 hts lc_85 rfl rfl rfl ⟨rfl, hd_X12_line_.1, hd_X12_line_.2.1, hd_X12_line_.2.2⟩ ⟨Nat.le_of_ble_eq_true rfl, Nat.le_of_ble_eq_true rfl⟩) ⟨blZ, va_recv hK hM.1 (ci := 12) (q0 := 0) rfl rfl, prZ hK hN hV hA hM⟩ rfl rfl hl.1 rfl (lv_room (Nat.le_of_ble_eq_true rfl)) dL_law_633 ⟨by show cells + 0 + 0 ≤ 601024; omega, by show slots + 0 + 0 ≤ 7293034; omega⟩) hM.2.2 (fun q _ h => hF q h) hF (fun r2 u t H locs ht hvm hw hB hz1 hk1 hS => ?_)
  subst ht
  have hC := CZ.back hC hA hk1 hB.1 hB.2 hS
  refine lv_pop hx hb dL_law_636 rfl ?_
  refine lv_goto (tgt := 975) hx hb dL_law_637 (by decide) ?_
  have hC : CZ D (ALs s) s _ _ (LWd y om ox a3 τ2 σ f) := hC
  exact kk _ _ σ τ2 f _ _ _ hJ2 hC (by omega) (by omega) hl

set_option maxHeartbeats 8000000 in
set_option maxRecDepth 100000 in
theorem law_case_14 {p : Program} {e : Env} {s : State} {m : MethodId} {below : List Frame} {meth : Method} {c : Code} (l : Launch) (hfl : l.stackTraces = false) {b L : Nat} {xs : Nat → Int32} (C0 : lw_At p s m meth c b L xs) {D : va_G} {y : Nat → ClassId} {ad av : Nat → Nat} {sa1 sa2 : Nat} (E0 : LEn D y ad av sa1 sa2 s) {om ox : Nat → Nat} {a3 : Nat} {H : Heap} {locs : List Loc} {cells slots : Nat} {σ τ : Sto} {f : Nat → Int64} (hJ : JT σ τ) (hC : CZ D (ALs s) s H locs (LWd y om ox a3 τ σ f)) (hc9 : cells + 1 ≤ 601024) (hs9 : slots + 6 ≤ 7293034) {i : Int32} (hi : 0 ≤ i.toInt) (hi2 : i.toInt + 7 ≤ (L : Int)) (hL : L ≤ 3584) {Q : State → Prop} (ls : Array Slot) (hl : lv_has ls 7 [(4, .int i), (3, .ref a3), (2, .ref (om 0)), (1, .ref (ox 0)), (0, .ref b)]) (kk : ∀ (H1 : Heap) (locs1 : List Loc) (σ1 τ1 : Sto) (f1 : Nat → Int64) (cells1 slots1 : Nat) (ls1 : Array Slot), JT σ1 τ1 → CZ D (ALs s) s H1 locs1 (LWd y om ox a3 τ1 σ1 f1) → cells1 ≤ cells + 1 → slots1 ≤ slots + 6 → lv_has ls1 7 [(4, .int i), (3, .ref a3), (2, .ref (om 0)), (1, .ref (ox 0)), (0, .ref b)] → W p l e room_1 s m #[Value.ref b] below meth c H1 locs1 cells1 slots1 Q (F0 m 975 ls1 [])) : W p l e room_1 s m #[Value.ref b] below meth c H locs cells slots Q (F0 m 640 ls []) := by
  obtain ⟨hx, hb, hr, hml, hown, hts, hX, hbl, hlocks, hgv⟩ := C0
  obtain ⟨hK, hN, hV, hE1, hE2⟩ := E0
  have hown : s.vm.findClass RL = some m.cls := hown
  have hA : ∀ q : Nat, s.heap.size ≤ q → ALs s q := fun _ h => h
  have hbA : ¬ ALs s b := Nat.not_le.mpr hbl
  obtain ⟨v, σ2, w, τ2, e1, e2, hJ2⟩ := J_spell hJ (xs (i + 1).toNatClampNeg) (xs (i + 2).toNatClampNeg)
  refine lv_aload_n hx hb dL_law_640 rfl (lv_at hl 3 rfl) ?_
  refine lv_aload_n hx hb dL_law_641 rfl (lv_at hl 4 rfl) ?_
  refine lv_iload hx hb dL_law_642 (lv_at hl 0 rfl) ?_
  refine lv_iconst (v := 1) hx hb dL_law_644 (by decide) ?_
  refine lv_iadd hx hb dL_law_645 ?_
  refine va_sld hx hb hX hbl hbA hC.2.2 (vp_k hi hi2 hL 1 (by decide +kernel)) dL_law_646 ?_
  refine lv_aload_n hx hb dL_law_647 rfl (lv_at hl 4 rfl) ?_
  refine lv_iload hx hb dL_law_648 (lv_at hl 0 rfl) ?_
  refine lv_iconst (v := 2) hx hb dL_law_650 (by decide) ?_
  refine lv_iadd hx hb dL_law_651 ?_
  refine va_sld hx hb hX hbl hbA hC.2.2 (vp_k hi hi2 hL 2 (by decide +kernel)) dL_law_652 ?_
  have hC : CZ D (ALs s) s _ _ (WM y om τ ++ (WX y ox σ ++ [(a3, .inl (y 3, 1, .inr (.inl f)))])) := hC
  have hM := CZ.mid hC
  have hF := frZ hM hA
  refine va_calli (va_runV (As := [.int (xs (i + 1).toNatClampNeg), .int (xs (i + 2).toNatClampNeg)]) (rest := []) ⟨hx, hb, hml, hown, hts⟩ (r_X11_spell (D := D) (y := y) (o := ox) (ad := ad) (av := av) e1 l _) (cwV 2 hts lc_86 rfl rfl rfl ⟨rfl, hd_X11_spell.1, hd_X11_spell.2.1, hd_X11_spell.2.2⟩ ⟨Nat.le_of_ble_eq_true rfl, Nat.le_of_ble_eq_true rfl⟩) ⟨blZ, va_recv hK hM.1 (ci := 11) (q0 := 0) rfl rfl, prZ hK hN hV hA hM⟩ rfl rfl hl.1 rfl (lv_room (Nat.le_of_ble_eq_true rfl)) dL_law_653 ⟨by show cells + 0 ≤ 601024; omega, by show slots + 0 ≤ 7293034; omega⟩) hM.2.2 (fun q _ h => hF q h) hF (fun r1 u t H locs ht hvm hw hB hz1 hk1 hS => ?_)
  subst ht
  have hC := CZ.back hC hA hk1 hB.1 hB.2 hS
  refine lv_pop hx hb dL_law_656 rfl ?_
  refine lv_aload_n hx hb dL_law_657 rfl (lv_at hl 2 rfl) ?_
  refine lv_aload_n hx hb dL_law_658 rfl (lv_at hl 4 rfl) ?_
  refine lv_iload hx hb dL_law_659 (lv_at hl 0 rfl) ?_
  refine lv_iconst (v := 1) hx hb dL_law_661 (by decide) ?_
  refine lv_iadd hx hb dL_law_662 ?_
  refine va_sld hx hb hX hbl hbA hC.2.2 (vp_k hi hi2 hL 1 (by decide +kernel)) dL_law_663 ?_
  refine lv_aload_n hx hb dL_law_664 rfl (lv_at hl 4 rfl) ?_
  refine lv_iload hx hb dL_law_665 (lv_at hl 0 rfl) ?_
  refine lv_iconst (v := 2) hx hb dL_law_667 (by decide) ?_
  refine lv_iadd hx hb dL_law_668 ?_
  refine va_sld hx hb hX hbl hbA hC.2.2 (vp_k hi hi2 hL 2 (by decide +kernel)) dL_law_669 ?_
  have hC : CZ D (ALs s) s _ _ ([] ++ (WM y om τ ++ (WX y ox σ2 ++ [(a3, .inl (y 3, 1, .inr (.inl f)))]))) := hC
  have hM := CZ.mid hC
  have hF := frZ hM hA
  refine va_calli (va_runV (As := [.int (xs (i + 1).toNatClampNeg), .int (xs (i + 2).toNatClampNeg)]) (rest := []) ⟨hx, hb, hml, hown, hts⟩ (r_X12_spell (D := D) (y := y) (o := om) (ad := ad) (av := av) e2 l _) (cwV 2 hts lc_89 rfl rfl rfl ⟨rfl, hd_X12_spell.1, hd_X12_spell.2.1, hd_X12_spell.2.2⟩ ⟨Nat.le_of_ble_eq_true rfl, Nat.le_of_ble_eq_true rfl⟩) ⟨blZ, va_recv hK hM.1 (ci := 12) (q0 := 0) rfl rfl, prZ hK hN hV hA hM⟩ rfl rfl hl.1 rfl (lv_room (Nat.le_of_ble_eq_true rfl)) dL_law_670 ⟨by show cells + 0 + 0 ≤ 601024; omega, by show slots + 0 + 0 ≤ 7293034; omega⟩) hM.2.2 (fun q _ h => hF q h) hF (fun r2 u t H locs ht hvm hw hB hz1 hk1 hS => ?_)
  subst ht
  have hC := CZ.back hC hA hk1 hB.1 hB.2 hS
  refine lv_pop hx hb dL_law_673 rfl ?_
  refine lv_goto (tgt := 975) hx hb dL_law_674 (by decide) ?_
  have hC : CZ D (ALs s) s _ _ (LWd y om ox a3 τ2 σ2 f) := hC
  exact kk _ _ σ2 τ2 f _ _ _ hJ2 hC (by omega) (by omega) hl

set_option maxHeartbeats 8000000 in
set_option maxRecDepth 100000 in
theorem law_case_15 {p : Program} {e : Env} {s : State} {m : MethodId} {below : List Frame} {meth : Method} {c : Code} (l : Launch) (hfl : l.stackTraces = false) {b L : Nat} {xs : Nat → Int32} (C0 : lw_At p s m meth c b L xs) {D : va_G} {y : Nat → ClassId} {ad av : Nat → Nat} {sa1 sa2 : Nat} (E0 : LEn D y ad av sa1 sa2 s) {om ox : Nat → Nat} {a3 : Nat} {H : Heap} {locs : List Loc} {cells slots : Nat} {σ τ : Sto} {f : Nat → Int64} (hJ : JT σ τ) (hC : CZ D (ALs s) s H locs (LWd y om ox a3 τ σ f)) (hc9 : cells + 1 ≤ 601024) (hs9 : slots + 6 ≤ 7293034) {i : Int32} (hi : 0 ≤ i.toInt) (hi2 : i.toInt + 7 ≤ (L : Int)) (hL : L ≤ 3584) {Q : State → Prop} (ls : Array Slot) (hl : lv_has ls 7 [(4, .int i), (3, .ref a3), (2, .ref (om 0)), (1, .ref (ox 0)), (0, .ref b)]) (kk : ∀ (H1 : Heap) (locs1 : List Loc) (σ1 τ1 : Sto) (f1 : Nat → Int64) (cells1 slots1 : Nat) (ls1 : Array Slot), JT σ1 τ1 → CZ D (ALs s) s H1 locs1 (LWd y om ox a3 τ1 σ1 f1) → cells1 ≤ cells + 1 → slots1 ≤ slots + 6 → lv_has ls1 7 [(4, .int i), (3, .ref a3), (2, .ref (om 0)), (1, .ref (ox 0)), (0, .ref b)] → W p l e room_1 s m #[Value.ref b] below meth c H1 locs1 cells1 slots1 Q (F0 m 975 ls1 [])) : W p l e room_1 s m #[Value.ref b] below meth c H locs cells slots Q (F0 m 677 ls []) := by
  obtain ⟨hx, hb, hr, hml, hown, hts, hX, hbl, hlocks, hgv⟩ := C0
  obtain ⟨hK, hN, hV, hE1, hE2⟩ := E0
  have hown : s.vm.findClass RL = some m.cls := hown
  have hA : ∀ q : Nat, s.heap.size ≤ q → ALs s q := fun _ h => h
  have hbA : ¬ ALs s b := Nat.not_le.mpr hbl
  obtain ⟨v, w, τ2, e1, e2, hJ2⟩ := J_type hJ (xs (i + 1).toNatClampNeg) (xs (i + 2).toNatClampNeg)
  refine lv_aload_n hx hb dL_law_677 rfl (lv_at hl 3 rfl) ?_
  refine lv_aload_n hx hb dL_law_678 rfl (lv_at hl 4 rfl) ?_
  refine lv_iload hx hb dL_law_679 (lv_at hl 0 rfl) ?_
  refine lv_iconst (v := 1) hx hb dL_law_681 (by decide) ?_
  refine lv_iadd hx hb dL_law_682 ?_
  refine va_sld hx hb hX hbl hbA hC.2.2 (vp_k hi hi2 hL 1 (by decide +kernel)) dL_law_683 ?_
  refine lv_aload_n hx hb dL_law_684 rfl (lv_at hl 4 rfl) ?_
  refine lv_iload hx hb dL_law_685 (lv_at hl 0 rfl) ?_
  refine lv_iconst (v := 2) hx hb dL_law_687 (by decide) ?_
  refine lv_iadd hx hb dL_law_688 ?_
  refine va_sld hx hb hX hbl hbA hC.2.2 (vp_k hi hi2 hL 2 (by decide +kernel)) dL_law_689 ?_
  have hC : CZ D (ALs s) s _ _ (WM y om τ ++ (WX y ox σ ++ [(a3, .inl (y 3, 1, .inr (.inl f)))])) := hC
  have hM := CZ.mid hC
  have hF := frZ hM hA
  refine va_calli (va_runV (As := [.int (xs (i + 1).toNatClampNeg), .int (xs (i + 2).toNatClampNeg)]) (rest := []) ⟨hx, hb, hml, hown, hts⟩ (r_X11_type (D := D) (y := y) (o := ox) (ad := ad) (av := av) e1 l _) (cwV 2 hts lc_90 rfl rfl rfl ⟨rfl, hd_X11_type.1, hd_X11_type.2.1, hd_X11_type.2.2⟩ ⟨Nat.le_of_ble_eq_true rfl, Nat.le_of_ble_eq_true rfl⟩) ⟨blZ, va_recv hK hM.1 (ci := 11) (q0 := 0) rfl rfl, prZ hK hN hV hA hM⟩ rfl rfl hl.1 rfl (lv_room (Nat.le_of_ble_eq_true rfl)) dL_law_690 ⟨by show cells + 0 ≤ 601024; omega, by show slots + 0 ≤ 7293034; omega⟩) hM.2.2 (fun q _ h => hF q h) hF (fun r1 u t H locs ht hvm hw hB hz1 hk1 hS => ?_)
  subst ht
  have hC := CZ.back hC hA hk1 hB.1 hB.2 hS
  refine lv_pop hx hb dL_law_693 rfl ?_
  refine lv_aload_n hx hb dL_law_694 rfl (lv_at hl 2 rfl) ?_
  refine lv_aload_n hx hb dL_law_695 rfl (lv_at hl 4 rfl) ?_
  refine lv_iload hx hb dL_law_696 (lv_at hl 0 rfl) ?_
  refine lv_iconst (v := 1) hx hb dL_law_698 (by decide) ?_
  refine lv_iadd hx hb dL_law_699 ?_
  refine va_sld hx hb hX hbl hbA hC.2.2 (vp_k hi hi2 hL 1 (by decide +kernel)) dL_law_700 ?_
  refine lv_aload_n hx hb dL_law_701 rfl (lv_at hl 4 rfl) ?_
  refine lv_iload hx hb dL_law_702 (lv_at hl 0 rfl) ?_
  refine lv_iconst (v := 2) hx hb dL_law_704 (by decide) ?_
  refine lv_iadd hx hb dL_law_705 ?_
  refine va_sld hx hb hX hbl hbA hC.2.2 (vp_k hi hi2 hL 2 (by decide +kernel)) dL_law_706 ?_
  have hC : CZ D (ALs s) s _ _ ([] ++ (WM y om τ ++ (WX y ox σ ++ [(a3, .inl (y 3, 1, .inr (.inl f)))]))) := hC
  have hM := CZ.mid hC
  have hF := frZ hM hA
  refine va_calli (va_runV (As := [.int (xs (i + 1).toNatClampNeg), .int (xs (i + 2).toNatClampNeg)]) (rest := []) ⟨hx, hb, hml, hown, hts⟩ (r_X12_type (D := D) (y := y) (o := om) (ad := ad) (av := av) e2 l _) (cwV 2 hts lc_93 rfl rfl rfl ⟨rfl, hd_X12_type.1, hd_X12_type.2.1, hd_X12_type.2.2⟩ ⟨Nat.le_of_ble_eq_true rfl, Nat.le_of_ble_eq_true rfl⟩) ⟨blZ, va_recv hK hM.1 (ci := 12) (q0 := 0) rfl rfl, prZ hK hN hV hA hM⟩ rfl rfl hl.1 rfl (lv_room (Nat.le_of_ble_eq_true rfl)) dL_law_707 ⟨by show cells + 0 + 0 ≤ 601024; omega, by show slots + 0 + 0 ≤ 7293034; omega⟩) hM.2.2 (fun q _ h => hF q h) hF (fun r2 u t H locs ht hvm hw hB hz1 hk1 hS => ?_)
  subst ht
  have hC := CZ.back hC hA hk1 hB.1 hB.2 hS
  refine lv_pop hx hb dL_law_710 rfl ?_
  refine lv_goto (tgt := 975) hx hb dL_law_711 (by decide) ?_
  have hC : CZ D (ALs s) s _ _ (LWd y om ox a3 τ2 σ f) := hC
  exact kk _ _ σ τ2 f _ _ _ hJ2 hC (by omega) (by omega) hl

set_option maxHeartbeats 8000000 in
set_option maxRecDepth 100000 in
theorem law_case_16 {p : Program} {e : Env} {s : State} {m : MethodId} {below : List Frame} {meth : Method} {c : Code} (l : Launch) (hfl : l.stackTraces = false) {b L : Nat} {xs : Nat → Int32} (C0 : lw_At p s m meth c b L xs) {D : va_G} {y : Nat → ClassId} {ad av : Nat → Nat} {sa1 sa2 : Nat} (E0 : LEn D y ad av sa1 sa2 s) {om ox : Nat → Nat} {a3 : Nat} {H : Heap} {locs : List Loc} {cells slots : Nat} {σ τ : Sto} {f : Nat → Int64} (hJ : JT σ τ) (hC : CZ D (ALs s) s H locs (LWd y om ox a3 τ σ f)) (hc9 : cells + 1 ≤ 601024) (hs9 : slots + 6 ≤ 7293034) {i : Int32} (hi : 0 ≤ i.toInt) (hi2 : i.toInt + 7 ≤ (L : Int)) (hL : L ≤ 3584) {Q : State → Prop} (ls : Array Slot) (hl : lv_has ls 7 [(4, .int i), (3, .ref a3), (2, .ref (om 0)), (1, .ref (ox 0)), (0, .ref b)]) (kk : ∀ (H1 : Heap) (locs1 : List Loc) (σ1 τ1 : Sto) (f1 : Nat → Int64) (cells1 slots1 : Nat) (ls1 : Array Slot), JT σ1 τ1 → CZ D (ALs s) s H1 locs1 (LWd y om ox a3 τ1 σ1 f1) → cells1 ≤ cells + 1 → slots1 ≤ slots + 6 → lv_has ls1 7 [(4, .int i), (3, .ref a3), (2, .ref (om 0)), (1, .ref (ox 0)), (0, .ref b)] → W p l e room_1 s m #[Value.ref b] below meth c H1 locs1 cells1 slots1 Q (F0 m 975 ls1 [])) : W p l e room_1 s m #[Value.ref b] below meth c H locs cells slots Q (F0 m 714 ls []) := by
  obtain ⟨hx, hb, hr, hml, hown, hts, hX, hbl, hlocks, hgv⟩ := C0
  obtain ⟨hK, hN, hV, hE1, hE2⟩ := E0
  have hown : s.vm.findClass RL = some m.cls := hown
  have hA : ∀ q : Nat, s.heap.size ≤ q → ALs s q := fun _ h => h
  have hbA : ¬ ALs s b := Nat.not_le.mpr hbl
  obtain ⟨v, σ2, w, τ2, e1, e2, hJ2⟩ := J_run hJ (xs (i + 1).toNatClampNeg) (xs (i + 2).toNatClampNeg) (xs (i + 3).toNatClampNeg) (xs (i + 4).toNatClampNeg) (xs (i + 5).toNatClampNeg) (xs (i + 6).toNatClampNeg)
  refine lv_aload_n hx hb dL_law_714 rfl (lv_at hl 3 rfl) ?_
  refine lv_aload_n hx hb dL_law_715 rfl (lv_at hl 4 rfl) ?_
  refine lv_iload hx hb dL_law_716 (lv_at hl 0 rfl) ?_
  refine lv_iconst (v := 1) hx hb dL_law_718 (by decide) ?_
  refine lv_iadd hx hb dL_law_719 ?_
  refine va_sld hx hb hX hbl hbA hC.2.2 (vp_k hi hi2 hL 1 (by decide +kernel)) dL_law_720 ?_
  refine lv_aload_n hx hb dL_law_721 rfl (lv_at hl 4 rfl) ?_
  refine lv_iload hx hb dL_law_722 (lv_at hl 0 rfl) ?_
  refine lv_iconst (v := 2) hx hb dL_law_724 (by decide) ?_
  refine lv_iadd hx hb dL_law_725 ?_
  refine va_sld hx hb hX hbl hbA hC.2.2 (vp_k hi hi2 hL 2 (by decide +kernel)) dL_law_726 ?_
  refine lv_aload_n hx hb dL_law_727 rfl (lv_at hl 4 rfl) ?_
  refine lv_iload hx hb dL_law_728 (lv_at hl 0 rfl) ?_
  refine lv_iconst (v := 3) hx hb dL_law_730 (by decide) ?_
  refine lv_iadd hx hb dL_law_731 ?_
  refine va_sld hx hb hX hbl hbA hC.2.2 (vp_k hi hi2 hL 3 (by decide +kernel)) dL_law_732 ?_
  refine lv_aload_n hx hb dL_law_733 rfl (lv_at hl 4 rfl) ?_
  refine lv_iload hx hb dL_law_734 (lv_at hl 0 rfl) ?_
  refine lv_iconst (v := 4) hx hb dL_law_736 (by decide) ?_
  refine lv_iadd hx hb dL_law_737 ?_
  refine va_sld hx hb hX hbl hbA hC.2.2 (vp_k hi hi2 hL 4 (by decide +kernel)) dL_law_738 ?_
  refine lv_aload_n hx hb dL_law_739 rfl (lv_at hl 4 rfl) ?_
  refine lv_iload hx hb dL_law_740 (lv_at hl 0 rfl) ?_
  refine lv_iconst (v := 5) hx hb dL_law_742 (by decide) ?_
  refine lv_iadd hx hb dL_law_743 ?_
  refine va_sld hx hb hX hbl hbA hC.2.2 (vp_k hi hi2 hL 5 (by decide +kernel)) dL_law_744 ?_
  refine lv_aload_n hx hb dL_law_745 rfl (lv_at hl 4 rfl) ?_
  refine lv_iload hx hb dL_law_746 (lv_at hl 0 rfl) ?_
  refine lv_bipush (v := 6) hx hb dL_law_748 (by decide) ?_
  refine lv_iadd hx hb dL_law_750 ?_
  refine va_sld hx hb hX hbl hbA hC.2.2 (vp_k hi hi2 hL 6 (by decide +kernel)) dL_law_751 ?_
  have hC : CZ D (ALs s) s _ _ (WM y om τ ++ (WX y ox σ ++ [(a3, .inl (y 3, 1, .inr (.inl f)))])) := hC
  have hM := CZ.mid hC
  have hF := frZ hM hA
  refine va_calli (va_runV (As := [.int (xs (i + 1).toNatClampNeg), .int (xs (i + 2).toNatClampNeg), .int (xs (i + 3).toNatClampNeg), .int (xs (i + 4).toNatClampNeg), .int (xs (i + 5).toNatClampNeg), .int (xs (i + 6).toNatClampNeg)]) (rest := []) ⟨hx, hb, hml, hown, hts⟩ (r_X11_run (D := D) (y := y) (o := ox) (ad := ad) (av := av) e1 l _) (cwV 6 hts lc_94 rfl rfl rfl ⟨rfl, hd_X11_run.1, hd_X11_run.2.1, hd_X11_run.2.2⟩ ⟨Nat.le_of_ble_eq_true rfl, Nat.le_of_ble_eq_true rfl⟩) ⟨blZ, va_recv hK hM.1 (ci := 11) (q0 := 0) rfl rfl, prZ hK hN hV hA hM⟩ rfl rfl hl.1 rfl (lv_room (Nat.le_of_ble_eq_true rfl)) dL_law_752 ⟨by show cells + 0 ≤ 601024; omega, by show slots + 0 ≤ 7293034; omega⟩) hM.2.2 (fun q _ h => hF q h) hF (fun r1 u t H locs ht hvm hw hB hz1 hk1 hS => ?_)
  subst ht
  have hC := CZ.back hC hA hk1 hB.1 hB.2 hS
  refine lv_pop hx hb dL_law_755 rfl ?_
  refine lv_aload_n hx hb dL_law_756 rfl (lv_at hl 2 rfl) ?_
  refine lv_aload_n hx hb dL_law_757 rfl (lv_at hl 4 rfl) ?_
  refine lv_iload hx hb dL_law_758 (lv_at hl 0 rfl) ?_
  refine lv_iconst (v := 1) hx hb dL_law_760 (by decide) ?_
  refine lv_iadd hx hb dL_law_761 ?_
  refine va_sld hx hb hX hbl hbA hC.2.2 (vp_k hi hi2 hL 1 (by decide +kernel)) dL_law_762 ?_
  refine lv_aload_n hx hb dL_law_763 rfl (lv_at hl 4 rfl) ?_
  refine lv_iload hx hb dL_law_764 (lv_at hl 0 rfl) ?_
  refine lv_iconst (v := 2) hx hb dL_law_766 (by decide) ?_
  refine lv_iadd hx hb dL_law_767 ?_
  refine va_sld hx hb hX hbl hbA hC.2.2 (vp_k hi hi2 hL 2 (by decide +kernel)) dL_law_768 ?_
  refine lv_aload_n hx hb dL_law_769 rfl (lv_at hl 4 rfl) ?_
  refine lv_iload hx hb dL_law_770 (lv_at hl 0 rfl) ?_
  refine lv_iconst (v := 3) hx hb dL_law_772 (by decide) ?_
  refine lv_iadd hx hb dL_law_773 ?_
  refine va_sld hx hb hX hbl hbA hC.2.2 (vp_k hi hi2 hL 3 (by decide +kernel)) dL_law_774 ?_
  refine lv_aload_n hx hb dL_law_775 rfl (lv_at hl 4 rfl) ?_
  refine lv_iload hx hb dL_law_776 (lv_at hl 0 rfl) ?_
  refine lv_iconst (v := 4) hx hb dL_law_778 (by decide) ?_
  refine lv_iadd hx hb dL_law_779 ?_
  refine va_sld hx hb hX hbl hbA hC.2.2 (vp_k hi hi2 hL 4 (by decide +kernel)) dL_law_780 ?_
  refine lv_aload_n hx hb dL_law_781 rfl (lv_at hl 4 rfl) ?_
  refine lv_iload hx hb dL_law_782 (lv_at hl 0 rfl) ?_
  refine lv_iconst (v := 5) hx hb dL_law_784 (by decide) ?_
  refine lv_iadd hx hb dL_law_785 ?_
  refine va_sld hx hb hX hbl hbA hC.2.2 (vp_k hi hi2 hL 5 (by decide +kernel)) dL_law_786 ?_
  refine lv_aload_n hx hb dL_law_787 rfl (lv_at hl 4 rfl) ?_
  refine lv_iload hx hb dL_law_788 (lv_at hl 0 rfl) ?_
  refine lv_bipush (v := 6) hx hb dL_law_790 (by decide) ?_
  refine lv_iadd hx hb dL_law_792 ?_
  refine va_sld hx hb hX hbl hbA hC.2.2 (vp_k hi hi2 hL 6 (by decide +kernel)) dL_law_793 ?_
  have hC : CZ D (ALs s) s _ _ ([] ++ (WM y om τ ++ (WX y ox σ2 ++ [(a3, .inl (y 3, 1, .inr (.inl f)))]))) := hC
  have hM := CZ.mid hC
  have hF := frZ hM hA
  refine va_calli (va_runV (As := [.int (xs (i + 1).toNatClampNeg), .int (xs (i + 2).toNatClampNeg), .int (xs (i + 3).toNatClampNeg), .int (xs (i + 4).toNatClampNeg), .int (xs (i + 5).toNatClampNeg), .int (xs (i + 6).toNatClampNeg)]) (rest := []) ⟨hx, hb, hml, hown, hts⟩ (r_X12_run (D := D) (y := y) (o := om) (ad := ad) (av := av) e2 l _) (cwV 6 hts lc_98 rfl rfl rfl ⟨rfl, hd_X12_run.1, hd_X12_run.2.1, hd_X12_run.2.2⟩ ⟨Nat.le_of_ble_eq_true rfl, Nat.le_of_ble_eq_true rfl⟩) ⟨blZ, va_recv hK hM.1 (ci := 12) (q0 := 0) rfl rfl, prZ hK hN hV hA hM⟩ rfl rfl hl.1 rfl (lv_room (Nat.le_of_ble_eq_true rfl)) dL_law_794 ⟨by show cells + 0 + 0 ≤ 601024; omega, by show slots + 0 + 0 ≤ 7293034; omega⟩) hM.2.2 (fun q _ h => hF q h) hF (fun r2 u t H locs ht hvm hw hB hz1 hk1 hS => ?_)
  subst ht
  have hC := CZ.back hC hA hk1 hB.1 hB.2 hS
  refine lv_pop hx hb dL_law_797 rfl ?_
  refine lv_goto (tgt := 975) hx hb dL_law_798 (by decide) ?_
  have hC : CZ D (ALs s) s _ _ (LWd y om ox a3 τ2 σ2 f) := hC
  exact kk _ _ σ2 τ2 f _ _ _ hJ2 hC (by omega) (by omega) hl

set_option maxHeartbeats 8000000 in
set_option maxRecDepth 100000 in
theorem law_case_17 {p : Program} {e : Env} {s : State} {m : MethodId} {below : List Frame} {meth : Method} {c : Code} (l : Launch) (hfl : l.stackTraces = false) {b L : Nat} {xs : Nat → Int32} (C0 : lw_At p s m meth c b L xs) {D : va_G} {y : Nat → ClassId} {ad av : Nat → Nat} {sa1 sa2 : Nat} (E0 : LEn D y ad av sa1 sa2 s) {om ox : Nat → Nat} {a3 : Nat} {H : Heap} {locs : List Loc} {cells slots : Nat} {σ τ : Sto} {f : Nat → Int64} (hJ : JT σ τ) (hC : CZ D (ALs s) s H locs (LWd y om ox a3 τ σ f)) (hc9 : cells + 1 ≤ 601024) (hs9 : slots + 6 ≤ 7293034) {i : Int32} (hi : 0 ≤ i.toInt) (hi2 : i.toInt + 7 ≤ (L : Int)) (hL : L ≤ 3584) {Q : State → Prop} (ls : Array Slot) (hl : lv_has ls 7 [(4, .int i), (3, .ref a3), (2, .ref (om 0)), (1, .ref (ox 0)), (0, .ref b)]) (kk : ∀ (H1 : Heap) (locs1 : List Loc) (σ1 τ1 : Sto) (f1 : Nat → Int64) (cells1 slots1 : Nat) (ls1 : Array Slot), JT σ1 τ1 → CZ D (ALs s) s H1 locs1 (LWd y om ox a3 τ1 σ1 f1) → cells1 ≤ cells + 1 → slots1 ≤ slots + 6 → lv_has ls1 7 [(4, .int i), (3, .ref a3), (2, .ref (om 0)), (1, .ref (ox 0)), (0, .ref b)] → W p l e room_1 s m #[Value.ref b] below meth c H1 locs1 cells1 slots1 Q (F0 m 975 ls1 [])) : W p l e room_1 s m #[Value.ref b] below meth c H locs cells slots Q (F0 m 801 ls []) := by
  obtain ⟨hx, hb, hr, hml, hown, hts, hX, hbl, hlocks, hgv⟩ := C0
  obtain ⟨hK, hN, hV, hE1, hE2⟩ := E0
  have hown : s.vm.findClass RL = some m.cls := hown
  have hA : ∀ q : Nat, s.heap.size ≤ q → ALs s q := fun _ h => h
  have hbA : ¬ ALs s b := Nat.not_le.mpr hbl
  obtain ⟨v, σ2, w, τ2, e1, e2, hJ2⟩ := J_output hJ (xs (i + 1).toNatClampNeg) (xs (i + 2).toNatClampNeg) (xs (i + 3).toNatClampNeg) (xs (i + 4).toNatClampNeg) (xs (i + 5).toNatClampNeg) (xs (i + 6).toNatClampNeg)
  refine lv_aload_n hx hb dL_law_801 rfl (lv_at hl 3 rfl) ?_
  refine lv_aload_n hx hb dL_law_802 rfl (lv_at hl 4 rfl) ?_
  refine lv_iload hx hb dL_law_803 (lv_at hl 0 rfl) ?_
  refine lv_iconst (v := 1) hx hb dL_law_805 (by decide) ?_
  refine lv_iadd hx hb dL_law_806 ?_
  refine va_sld hx hb hX hbl hbA hC.2.2 (vp_k hi hi2 hL 1 (by decide +kernel)) dL_law_807 ?_
  refine lv_aload_n hx hb dL_law_808 rfl (lv_at hl 4 rfl) ?_
  refine lv_iload hx hb dL_law_809 (lv_at hl 0 rfl) ?_
  refine lv_iconst (v := 2) hx hb dL_law_811 (by decide) ?_
  refine lv_iadd hx hb dL_law_812 ?_
  refine va_sld hx hb hX hbl hbA hC.2.2 (vp_k hi hi2 hL 2 (by decide +kernel)) dL_law_813 ?_
  refine lv_aload_n hx hb dL_law_814 rfl (lv_at hl 4 rfl) ?_
  refine lv_iload hx hb dL_law_815 (lv_at hl 0 rfl) ?_
  refine lv_iconst (v := 3) hx hb dL_law_817 (by decide) ?_
  refine lv_iadd hx hb dL_law_818 ?_
  refine va_sld hx hb hX hbl hbA hC.2.2 (vp_k hi hi2 hL 3 (by decide +kernel)) dL_law_819 ?_
  refine lv_aload_n hx hb dL_law_820 rfl (lv_at hl 4 rfl) ?_
  refine lv_iload hx hb dL_law_821 (lv_at hl 0 rfl) ?_
  refine lv_iconst (v := 4) hx hb dL_law_823 (by decide) ?_
  refine lv_iadd hx hb dL_law_824 ?_
  refine va_sld hx hb hX hbl hbA hC.2.2 (vp_k hi hi2 hL 4 (by decide +kernel)) dL_law_825 ?_
  refine lv_aload_n hx hb dL_law_826 rfl (lv_at hl 4 rfl) ?_
  refine lv_iload hx hb dL_law_827 (lv_at hl 0 rfl) ?_
  refine lv_iconst (v := 5) hx hb dL_law_829 (by decide) ?_
  refine lv_iadd hx hb dL_law_830 ?_
  refine va_sld hx hb hX hbl hbA hC.2.2 (vp_k hi hi2 hL 5 (by decide +kernel)) dL_law_831 ?_
  refine lv_aload_n hx hb dL_law_832 rfl (lv_at hl 4 rfl) ?_
  refine lv_iload hx hb dL_law_833 (lv_at hl 0 rfl) ?_
  refine lv_bipush (v := 6) hx hb dL_law_835 (by decide) ?_
  refine lv_iadd hx hb dL_law_837 ?_
  refine va_sld hx hb hX hbl hbA hC.2.2 (vp_k hi hi2 hL 6 (by decide +kernel)) dL_law_838 ?_
  have hC : CZ D (ALs s) s _ _ (WM y om τ ++ (WX y ox σ ++ [(a3, .inl (y 3, 1, .inr (.inl f)))])) := hC
  have hM := CZ.mid hC
  have hF := frZ hM hA
  refine va_calli (va_runV (As := [.int (xs (i + 1).toNatClampNeg), .int (xs (i + 2).toNatClampNeg), .int (xs (i + 3).toNatClampNeg), .int (xs (i + 4).toNatClampNeg), .int (xs (i + 5).toNatClampNeg), .int (xs (i + 6).toNatClampNeg)]) (rest := []) ⟨hx, hb, hml, hown, hts⟩ (r_X11_output (D := D) (y := y) (o := ox) (ad := ad) (av := av) e1 l _) (cwV 6 hts lc_99 rfl rfl rfl ⟨rfl, hd_X11_output.1, hd_X11_output.2.1, hd_X11_output.2.2⟩ ⟨Nat.le_of_ble_eq_true rfl, Nat.le_of_ble_eq_true rfl⟩) ⟨blZ, va_recv hK hM.1 (ci := 11) (q0 := 0) rfl rfl, prZ hK hN hV hA hM⟩ rfl rfl hl.1 rfl (lv_room (Nat.le_of_ble_eq_true rfl)) dL_law_839 ⟨by show cells + 0 ≤ 601024; omega, by show slots + 0 ≤ 7293034; omega⟩) hM.2.2 (fun q _ h => hF q h) hF (fun r1 u t H locs ht hvm hw hB hz1 hk1 hS => ?_)
  subst ht
  have hC := CZ.back hC hA hk1 hB.1 hB.2 hS
  refine lv_pop hx hb dL_law_842 rfl ?_
  refine lv_aload_n hx hb dL_law_843 rfl (lv_at hl 2 rfl) ?_
  refine lv_aload_n hx hb dL_law_844 rfl (lv_at hl 4 rfl) ?_
  refine lv_iload hx hb dL_law_845 (lv_at hl 0 rfl) ?_
  refine lv_iconst (v := 1) hx hb dL_law_847 (by decide) ?_
  refine lv_iadd hx hb dL_law_848 ?_
  refine va_sld hx hb hX hbl hbA hC.2.2 (vp_k hi hi2 hL 1 (by decide +kernel)) dL_law_849 ?_
  refine lv_aload_n hx hb dL_law_850 rfl (lv_at hl 4 rfl) ?_
  refine lv_iload hx hb dL_law_851 (lv_at hl 0 rfl) ?_
  refine lv_iconst (v := 2) hx hb dL_law_853 (by decide) ?_
  refine lv_iadd hx hb dL_law_854 ?_
  refine va_sld hx hb hX hbl hbA hC.2.2 (vp_k hi hi2 hL 2 (by decide +kernel)) dL_law_855 ?_
  refine lv_aload_n hx hb dL_law_856 rfl (lv_at hl 4 rfl) ?_
  refine lv_iload hx hb dL_law_857 (lv_at hl 0 rfl) ?_
  refine lv_iconst (v := 3) hx hb dL_law_859 (by decide) ?_
  refine lv_iadd hx hb dL_law_860 ?_
  refine va_sld hx hb hX hbl hbA hC.2.2 (vp_k hi hi2 hL 3 (by decide +kernel)) dL_law_861 ?_
  refine lv_aload_n hx hb dL_law_862 rfl (lv_at hl 4 rfl) ?_
  refine lv_iload hx hb dL_law_863 (lv_at hl 0 rfl) ?_
  refine lv_iconst (v := 4) hx hb dL_law_865 (by decide) ?_
  refine lv_iadd hx hb dL_law_866 ?_
  refine va_sld hx hb hX hbl hbA hC.2.2 (vp_k hi hi2 hL 4 (by decide +kernel)) dL_law_867 ?_
  refine lv_aload_n hx hb dL_law_868 rfl (lv_at hl 4 rfl) ?_
  refine lv_iload hx hb dL_law_869 (lv_at hl 0 rfl) ?_
  refine lv_iconst (v := 5) hx hb dL_law_871 (by decide) ?_
  refine lv_iadd hx hb dL_law_872 ?_
  refine va_sld hx hb hX hbl hbA hC.2.2 (vp_k hi hi2 hL 5 (by decide +kernel)) dL_law_873 ?_
  refine lv_aload_n hx hb dL_law_874 rfl (lv_at hl 4 rfl) ?_
  refine lv_iload hx hb dL_law_875 (lv_at hl 0 rfl) ?_
  refine lv_bipush (v := 6) hx hb dL_law_877 (by decide) ?_
  refine lv_iadd hx hb dL_law_879 ?_
  refine va_sld hx hb hX hbl hbA hC.2.2 (vp_k hi hi2 hL 6 (by decide +kernel)) dL_law_880 ?_
  have hC : CZ D (ALs s) s _ _ ([] ++ (WM y om τ ++ (WX y ox σ2 ++ [(a3, .inl (y 3, 1, .inr (.inl f)))]))) := hC
  have hM := CZ.mid hC
  have hF := frZ hM hA
  refine va_calli (va_runV (As := [.int (xs (i + 1).toNatClampNeg), .int (xs (i + 2).toNatClampNeg), .int (xs (i + 3).toNatClampNeg), .int (xs (i + 4).toNatClampNeg), .int (xs (i + 5).toNatClampNeg), .int (xs (i + 6).toNatClampNeg)]) (rest := []) ⟨hx, hb, hml, hown, hts⟩ (r_X12_output (D := D) (y := y) (o := om) (ad := ad) (av := av) e2 l _) (cwV 6 hts lc_102 rfl rfl rfl ⟨rfl, hd_X12_output.1, hd_X12_output.2.1, hd_X12_output.2.2⟩ ⟨Nat.le_of_ble_eq_true rfl, Nat.le_of_ble_eq_true rfl⟩) ⟨blZ, va_recv hK hM.1 (ci := 12) (q0 := 0) rfl rfl, prZ hK hN hV hA hM⟩ rfl rfl hl.1 rfl (lv_room (Nat.le_of_ble_eq_true rfl)) dL_law_881 ⟨by show cells + 0 + 0 ≤ 601024; omega, by show slots + 0 + 0 ≤ 7293034; omega⟩) hM.2.2 (fun q _ h => hF q h) hF (fun r2 u t H locs ht hvm hw hB hz1 hk1 hS => ?_)
  subst ht
  have hC := CZ.back hC hA hk1 hB.1 hB.2 hS
  refine lv_pop hx hb dL_law_884 rfl ?_
  refine lv_goto (tgt := 975) hx hb dL_law_885 (by decide) ?_
  have hC : CZ D (ALs s) s _ _ (LWd y om ox a3 τ2 σ2 f) := hC
  exact kk _ _ σ2 τ2 f _ _ _ hJ2 hC (by omega) (by omega) hl

set_option maxHeartbeats 8000000 in
set_option maxRecDepth 100000 in
theorem law_case_18 {p : Program} {e : Env} {s : State} {m : MethodId} {below : List Frame} {meth : Method} {c : Code} (l : Launch) (hfl : l.stackTraces = false) {b L : Nat} {xs : Nat → Int32} (C0 : lw_At p s m meth c b L xs) {D : va_G} {y : Nat → ClassId} {ad av : Nat → Nat} {sa1 sa2 : Nat} (E0 : LEn D y ad av sa1 sa2 s) {om ox : Nat → Nat} {a3 : Nat} {H : Heap} {locs : List Loc} {cells slots : Nat} {σ τ : Sto} {f : Nat → Int64} (hJ : JT σ τ) (hC : CZ D (ALs s) s H locs (LWd y om ox a3 τ σ f)) (hc9 : cells + 1 ≤ 601024) (hs9 : slots + 6 ≤ 7293034) {i : Int32} (hi : 0 ≤ i.toInt) (hi2 : i.toInt + 7 ≤ (L : Int)) (hL : L ≤ 3584) {Q : State → Prop} (ls : Array Slot) (hl : lv_has ls 7 [(4, .int i), (3, .ref a3), (2, .ref (om 0)), (1, .ref (ox 0)), (0, .ref b)]) (kk : ∀ (H1 : Heap) (locs1 : List Loc) (σ1 τ1 : Sto) (f1 : Nat → Int64) (cells1 slots1 : Nat) (ls1 : Array Slot), JT σ1 τ1 → CZ D (ALs s) s H1 locs1 (LWd y om ox a3 τ1 σ1 f1) → cells1 ≤ cells + 1 → slots1 ≤ slots + 6 → lv_has ls1 7 [(4, .int i), (3, .ref a3), (2, .ref (om 0)), (1, .ref (ox 0)), (0, .ref b)] → W p l e room_1 s m #[Value.ref b] below meth c H1 locs1 cells1 slots1 Q (F0 m 975 ls1 [])) : W p l e room_1 s m #[Value.ref b] below meth c H locs cells slots Q (F0 m 888 ls []) := by
  obtain ⟨hx, hb, hr, hml, hown, hts, hX, hbl, hlocks, hgv⟩ := C0
  obtain ⟨hK, hN, hV, hE1, hE2⟩ := E0
  have hown : s.vm.findClass RL = some m.cls := hown
  have hA : ∀ q : Nat, s.heap.size ≤ q → ALs s q := fun _ h => h
  have hbA : ¬ ALs s b := Nat.not_le.mpr hbl
  obtain ⟨v, w, τ2, e1, e2, hJ2⟩ := J_comesTo hJ (xs (i + 1).toNatClampNeg)
  refine lv_aload_n hx hb dL_law_888 rfl (lv_at hl 3 rfl) ?_
  refine lv_aload_n hx hb dL_law_889 rfl (lv_at hl 4 rfl) ?_
  refine lv_iload hx hb dL_law_890 (lv_at hl 0 rfl) ?_
  refine lv_iconst (v := 1) hx hb dL_law_892 (by decide) ?_
  refine lv_iadd hx hb dL_law_893 ?_
  refine va_sld hx hb hX hbl hbA hC.2.2 (vp_k hi hi2 hL 1 (by decide +kernel)) dL_law_894 ?_
  have hC : CZ D (ALs s) s _ _ (WM y om τ ++ (WX y ox σ ++ [(a3, .inl (y 3, 1, .inr (.inl f)))])) := hC
  have hM := CZ.mid hC
  have hF := frZ hM hA
  refine va_calll (va_runV (As := [.int (xs (i + 1).toNatClampNeg)]) (rest := []) ⟨hx, hb, hml, hown, hts⟩ (r_X11_comesTo (D := D) (y := y) (o := ox) (ad := ad) (av := av) e1 l _) (cwV 1 hts lc_103 rfl rfl rfl ⟨rfl, hd_X11_comesTo.1, hd_X11_comesTo.2.1, hd_X11_comesTo.2.2⟩ ⟨Nat.le_of_ble_eq_true rfl, Nat.le_of_ble_eq_true rfl⟩) ⟨blZ, va_recv hK hM.1 (ci := 11) (q0 := 0) rfl rfl, prZ hK hN hV hA hM⟩ rfl rfl hl.1 rfl (lv_room (Nat.le_of_ble_eq_true rfl)) dL_law_895 ⟨by show cells + 0 ≤ 601024; omega, by show slots + 0 ≤ 7293034; omega⟩) hM.2.2 (fun q _ h => hF q h) hF (fun r1 u t H locs ht hvm hw hB hz1 hk1 hS => ?_)
  subst ht
  have hC := CZ.back hC hA hk1 hB.1 hB.2 hS
  refine lv_pop2_2 hx hb dL_law_898 rfl ?_
  refine lv_aload_n hx hb dL_law_899 rfl (lv_at hl 2 rfl) ?_
  refine lv_aload_n hx hb dL_law_900 rfl (lv_at hl 4 rfl) ?_
  refine lv_iload hx hb dL_law_901 (lv_at hl 0 rfl) ?_
  refine lv_iconst (v := 1) hx hb dL_law_903 (by decide) ?_
  refine lv_iadd hx hb dL_law_904 ?_
  refine va_sld hx hb hX hbl hbA hC.2.2 (vp_k hi hi2 hL 1 (by decide +kernel)) dL_law_905 ?_
  have hC : CZ D (ALs s) s _ _ ([] ++ (WM y om τ ++ (WX y ox σ ++ [(a3, .inl (y 3, 1, .inr (.inl f)))]))) := hC
  have hM := CZ.mid hC
  have hF := frZ hM hA
  refine va_calll (va_runV (As := [.int (xs (i + 1).toNatClampNeg)]) (rest := []) ⟨hx, hb, hml, hown, hts⟩ (r_X12_comesTo (D := D) (y := y) (o := om) (ad := ad) (av := av) e2 l _) (cwV 1 hts lc_106 rfl rfl rfl ⟨rfl, hd_X12_comesTo.1, hd_X12_comesTo.2.1, hd_X12_comesTo.2.2⟩ ⟨Nat.le_of_ble_eq_true rfl, Nat.le_of_ble_eq_true rfl⟩) ⟨blZ, va_recv hK hM.1 (ci := 12) (q0 := 0) rfl rfl, prZ hK hN hV hA hM⟩ rfl rfl hl.1 rfl (lv_room (Nat.le_of_ble_eq_true rfl)) dL_law_906 ⟨by show cells + 0 + 0 ≤ 601024; omega, by show slots + 0 + 0 ≤ 7293034; omega⟩) hM.2.2 (fun q _ h => hF q h) hF (fun r2 u t H locs ht hvm hw hB hz1 hk1 hS => ?_)
  subst ht
  have hC := CZ.back hC hA hk1 hB.1 hB.2 hS
  refine lv_pop2_2 hx hb dL_law_909 rfl ?_
  refine lv_goto (tgt := 975) hx hb dL_law_910 (by decide) ?_
  have hC : CZ D (ALs s) s _ _ (LWd y om ox a3 τ2 σ f) := hC
  exact kk _ _ σ τ2 f _ _ _ hJ2 hC (by omega) (by omega) hl

set_option maxHeartbeats 8000000 in
set_option maxRecDepth 100000 in
theorem law_case_19 {p : Program} {e : Env} {s : State} {m : MethodId} {below : List Frame} {meth : Method} {c : Code} (l : Launch) (hfl : l.stackTraces = false) {b L : Nat} {xs : Nat → Int32} (C0 : lw_At p s m meth c b L xs) {D : va_G} {y : Nat → ClassId} {ad av : Nat → Nat} {sa1 sa2 : Nat} (E0 : LEn D y ad av sa1 sa2 s) {om ox : Nat → Nat} {a3 : Nat} {H : Heap} {locs : List Loc} {cells slots : Nat} {σ τ : Sto} {f : Nat → Int64} (hJ : JT σ τ) (hC : CZ D (ALs s) s H locs (LWd y om ox a3 τ σ f)) (hc9 : cells + 1 ≤ 601024) (hs9 : slots + 6 ≤ 7293034) {i : Int32} (hi : 0 ≤ i.toInt) (hi2 : i.toInt + 7 ≤ (L : Int)) (hL : L ≤ 3584) {Q : State → Prop} (ls : Array Slot) (hl : lv_has ls 7 [(4, .int i), (3, .ref a3), (2, .ref (om 0)), (1, .ref (ox 0)), (0, .ref b)]) (kk : ∀ (H1 : Heap) (locs1 : List Loc) (σ1 τ1 : Sto) (f1 : Nat → Int64) (cells1 slots1 : Nat) (ls1 : Array Slot), JT σ1 τ1 → CZ D (ALs s) s H1 locs1 (LWd y om ox a3 τ1 σ1 f1) → cells1 ≤ cells + 1 → slots1 ≤ slots + 6 → lv_has ls1 7 [(4, .int i), (3, .ref a3), (2, .ref (om 0)), (1, .ref (ox 0)), (0, .ref b)] → W p l e room_1 s m #[Value.ref b] below meth c H1 locs1 cells1 slots1 Q (F0 m 975 ls1 [])) : W p l e room_1 s m #[Value.ref b] below meth c H locs cells slots Q (F0 m 913 ls []) := by
  obtain ⟨hx, hb, hr, hml, hown, hts, hX, hbl, hlocks, hgv⟩ := C0
  obtain ⟨hK, hN, hV, hE1, hE2⟩ := E0
  have hown : s.vm.findClass RL = some m.cls := hown
  have hA : ∀ q : Nat, s.heap.size ≤ q → ALs s q := fun _ h => h
  have hbA : ¬ ALs s b := Nat.not_le.mpr hbl
  obtain ⟨v, w, τ2, e1, e2, hJ2⟩ := J_far hJ (xs (i + 1).toNatClampNeg) (xs (i + 2).toNatClampNeg)
  refine lv_aload_n hx hb dL_law_913 rfl (lv_at hl 3 rfl) ?_
  refine lv_aload_n hx hb dL_law_914 rfl (lv_at hl 4 rfl) ?_
  refine lv_iload hx hb dL_law_915 (lv_at hl 0 rfl) ?_
  refine lv_iconst (v := 1) hx hb dL_law_917 (by decide) ?_
  refine lv_iadd hx hb dL_law_918 ?_
  refine va_sld hx hb hX hbl hbA hC.2.2 (vp_k hi hi2 hL 1 (by decide +kernel)) dL_law_919 ?_
  refine lv_aload_n hx hb dL_law_920 rfl (lv_at hl 4 rfl) ?_
  refine lv_iload hx hb dL_law_921 (lv_at hl 0 rfl) ?_
  refine lv_iconst (v := 2) hx hb dL_law_923 (by decide) ?_
  refine lv_iadd hx hb dL_law_924 ?_
  refine va_sld hx hb hX hbl hbA hC.2.2 (vp_k hi hi2 hL 2 (by decide +kernel)) dL_law_925 ?_
  have hC : CZ D (ALs s) s _ _ (WM y om τ ++ (WX y ox σ ++ [(a3, .inl (y 3, 1, .inr (.inl f)))])) := hC
  have hM := CZ.mid hC
  have hF := frZ hM hA
  refine va_calli (va_runV (As := [.int (xs (i + 1).toNatClampNeg), .int (xs (i + 2).toNatClampNeg)]) (rest := []) ⟨hx, hb, hml, hown, hts⟩ (r_X11_far (D := D) (y := y) (o := ox) (ad := ad) (av := av) e1 l _) (cwV 2 hts lc_107 rfl rfl rfl ⟨rfl, hd_X11_far.1, hd_X11_far.2.1, hd_X11_far.2.2⟩ ⟨Nat.le_of_ble_eq_true rfl, Nat.le_of_ble_eq_true rfl⟩) ⟨blZ, va_recv hK hM.1 (ci := 11) (q0 := 0) rfl rfl, prZ hK hN hV hA hM⟩ rfl rfl hl.1 rfl (lv_room (Nat.le_of_ble_eq_true rfl)) dL_law_926 ⟨by show cells + 0 ≤ 601024; omega, by show slots + 0 ≤ 7293034; omega⟩) hM.2.2 (fun q _ h => hF q h) hF (fun r1 u t H locs ht hvm hw hB hz1 hk1 hS => ?_)
  subst ht
  have hC := CZ.back hC hA hk1 hB.1 hB.2 hS
  refine lv_pop hx hb dL_law_929 rfl ?_
  refine lv_aload_n hx hb dL_law_930 rfl (lv_at hl 2 rfl) ?_
  refine lv_aload_n hx hb dL_law_931 rfl (lv_at hl 4 rfl) ?_
  refine lv_iload hx hb dL_law_932 (lv_at hl 0 rfl) ?_
  refine lv_iconst (v := 1) hx hb dL_law_934 (by decide) ?_
  refine lv_iadd hx hb dL_law_935 ?_
  refine va_sld hx hb hX hbl hbA hC.2.2 (vp_k hi hi2 hL 1 (by decide +kernel)) dL_law_936 ?_
  refine lv_aload_n hx hb dL_law_937 rfl (lv_at hl 4 rfl) ?_
  refine lv_iload hx hb dL_law_938 (lv_at hl 0 rfl) ?_
  refine lv_iconst (v := 2) hx hb dL_law_940 (by decide) ?_
  refine lv_iadd hx hb dL_law_941 ?_
  refine va_sld hx hb hX hbl hbA hC.2.2 (vp_k hi hi2 hL 2 (by decide +kernel)) dL_law_942 ?_
  have hC : CZ D (ALs s) s _ _ ([] ++ (WM y om τ ++ (WX y ox σ ++ [(a3, .inl (y 3, 1, .inr (.inl f)))]))) := hC
  have hM := CZ.mid hC
  have hF := frZ hM hA
  refine va_calli (va_runV (As := [.int (xs (i + 1).toNatClampNeg), .int (xs (i + 2).toNatClampNeg)]) (rest := []) ⟨hx, hb, hml, hown, hts⟩ (r_X12_far (D := D) (y := y) (o := om) (ad := ad) (av := av) e2 l _) (cwV 2 hts lc_110 rfl rfl rfl ⟨rfl, hd_X12_far.1, hd_X12_far.2.1, hd_X12_far.2.2⟩ ⟨Nat.le_of_ble_eq_true rfl, Nat.le_of_ble_eq_true rfl⟩) ⟨blZ, va_recv hK hM.1 (ci := 12) (q0 := 0) rfl rfl, prZ hK hN hV hA hM⟩ rfl rfl hl.1 rfl (lv_room (Nat.le_of_ble_eq_true rfl)) dL_law_943 ⟨by show cells + 0 + 0 ≤ 601024; omega, by show slots + 0 + 0 ≤ 7293034; omega⟩) hM.2.2 (fun q _ h => hF q h) hF (fun r2 u t H locs ht hvm hw hB hz1 hk1 hS => ?_)
  subst ht
  have hC := CZ.back hC hA hk1 hB.1 hB.2 hS
  refine lv_pop hx hb dL_law_946 rfl ?_
  refine lv_goto (tgt := 975) hx hb dL_law_947 (by decide) ?_
  have hC : CZ D (ALs s) s _ _ (LWd y om ox a3 τ2 σ f) := hC
  exact kk _ _ σ τ2 f _ _ _ hJ2 hC (by omega) (by omega) hl

set_option maxHeartbeats 8000000 in
set_option maxRecDepth 100000 in
theorem law_case_20 {p : Program} {e : Env} {s : State} {m : MethodId} {below : List Frame} {meth : Method} {c : Code} (l : Launch) (hfl : l.stackTraces = false) {b L : Nat} {xs : Nat → Int32} (C0 : lw_At p s m meth c b L xs) {D : va_G} {y : Nat → ClassId} {ad av : Nat → Nat} {sa1 sa2 : Nat} (E0 : LEn D y ad av sa1 sa2 s) {om ox : Nat → Nat} {a3 : Nat} {H : Heap} {locs : List Loc} {cells slots : Nat} {σ τ : Sto} {f : Nat → Int64} (hJ : JT σ τ) (hC : CZ D (ALs s) s H locs (LWd y om ox a3 τ σ f)) (hc9 : cells + 1 ≤ 601024) (hs9 : slots + 6 ≤ 7293034) {i : Int32} (hi : 0 ≤ i.toInt) (hi2 : i.toInt + 7 ≤ (L : Int)) (hL : L ≤ 3584) {Q : State → Prop} (ls : Array Slot) (hl : lv_has ls 7 [(4, .int i), (3, .ref a3), (2, .ref (om 0)), (1, .ref (ox 0)), (0, .ref b)]) (kk : ∀ (H1 : Heap) (locs1 : List Loc) (σ1 τ1 : Sto) (f1 : Nat → Int64) (cells1 slots1 : Nat) (ls1 : Array Slot), JT σ1 τ1 → CZ D (ALs s) s H1 locs1 (LWd y om ox a3 τ1 σ1 f1) → cells1 ≤ cells + 1 → slots1 ≤ slots + 6 → lv_has ls1 7 [(4, .int i), (3, .ref a3), (2, .ref (om 0)), (1, .ref (ox 0)), (0, .ref b)] → W p l e room_1 s m #[Value.ref b] below meth c H1 locs1 cells1 slots1 Q (F0 m 975 ls1 [])) : W p l e room_1 s m #[Value.ref b] below meth c H locs cells slots Q (F0 m 950 ls []) := by
  obtain ⟨hx, hb, hr, hml, hown, hts, hX, hbl, hlocks, hgv⟩ := C0
  obtain ⟨hK, hN, hV, hE1, hE2⟩ := E0
  have hown : s.vm.findClass RL = some m.cls := hown
  have hA : ∀ q : Nat, s.heap.size ≤ q → ALs s q := fun _ h => h
  have hbA : ¬ ALs s b := Nat.not_le.mpr hbl
  obtain ⟨v, w, τ2, e1, e2, hJ2⟩ := J_most hJ (xs (i + 1).toNatClampNeg)
  refine lv_aload_n hx hb dL_law_950 rfl (lv_at hl 3 rfl) ?_
  refine lv_aload_n hx hb dL_law_951 rfl (lv_at hl 4 rfl) ?_
  refine lv_iload hx hb dL_law_952 (lv_at hl 0 rfl) ?_
  refine lv_iconst (v := 1) hx hb dL_law_954 (by decide) ?_
  refine lv_iadd hx hb dL_law_955 ?_
  refine va_sld hx hb hX hbl hbA hC.2.2 (vp_k hi hi2 hL 1 (by decide +kernel)) dL_law_956 ?_
  have hC : CZ D (ALs s) s _ _ (WM y om τ ++ (WX y ox σ ++ [(a3, .inl (y 3, 1, .inr (.inl f)))])) := hC
  have hM := CZ.mid hC
  have hF := frZ hM hA
  refine va_calli (va_runV (As := [.int (xs (i + 1).toNatClampNeg)]) (rest := []) ⟨hx, hb, hml, hown, hts⟩ (r_X11_most (D := D) (y := y) (o := ox) (ad := ad) (av := av) e1 l _) (cwV 1 hts lc_111 rfl rfl rfl ⟨rfl, hd_X11_most.1, hd_X11_most.2.1, hd_X11_most.2.2⟩ ⟨Nat.le_of_ble_eq_true rfl, Nat.le_of_ble_eq_true rfl⟩) ⟨blZ, va_recv hK hM.1 (ci := 11) (q0 := 0) rfl rfl, prZ hK hN hV hA hM⟩ rfl rfl hl.1 rfl (lv_room (Nat.le_of_ble_eq_true rfl)) dL_law_957 ⟨by show cells + 0 ≤ 601024; omega, by show slots + 0 ≤ 7293034; omega⟩) hM.2.2 (fun q _ h => hF q h) hF (fun r1 u t H locs ht hvm hw hB hz1 hk1 hS => ?_)
  subst ht
  have hC := CZ.back hC hA hk1 hB.1 hB.2 hS
  refine lv_pop hx hb dL_law_960 rfl ?_
  refine lv_aload_n hx hb dL_law_961 rfl (lv_at hl 2 rfl) ?_
  refine lv_aload_n hx hb dL_law_962 rfl (lv_at hl 4 rfl) ?_
  refine lv_iload hx hb dL_law_963 (lv_at hl 0 rfl) ?_
  refine lv_iconst (v := 1) hx hb dL_law_965 (by decide) ?_
  refine lv_iadd hx hb dL_law_966 ?_
  refine va_sld hx hb hX hbl hbA hC.2.2 (vp_k hi hi2 hL 1 (by decide +kernel)) dL_law_967 ?_
  have hC : CZ D (ALs s) s _ _ ([] ++ (WM y om τ ++ (WX y ox σ ++ [(a3, .inl (y 3, 1, .inr (.inl f)))]))) := hC
  have hM := CZ.mid hC
  have hF := frZ hM hA
  refine va_calli (va_runV (As := [.int (xs (i + 1).toNatClampNeg)]) (rest := []) ⟨hx, hb, hml, hown, hts⟩ (r_X12_most (D := D) (y := y) (o := om) (ad := ad) (av := av) e2 l _) (cwV 1 hts lc_114 rfl rfl rfl ⟨rfl, hd_X12_most.1, hd_X12_most.2.1, hd_X12_most.2.2⟩ ⟨Nat.le_of_ble_eq_true rfl, Nat.le_of_ble_eq_true rfl⟩) ⟨blZ, va_recv hK hM.1 (ci := 12) (q0 := 0) rfl rfl, prZ hK hN hV hA hM⟩ rfl rfl hl.1 rfl (lv_room (Nat.le_of_ble_eq_true rfl)) dL_law_968 ⟨by show cells + 0 + 0 ≤ 601024; omega, by show slots + 0 + 0 ≤ 7293034; omega⟩) hM.2.2 (fun q _ h => hF q h) hF (fun r2 u t H locs ht hvm hw hB hz1 hk1 hS => ?_)
  subst ht
  have hC := CZ.back hC hA hk1 hB.1 hB.2 hS
  refine lv_pop hx hb dL_law_971 rfl ?_
  refine lv_goto (tgt := 975) hx hb dL_law_972 (by decide) ?_
  have hC : CZ D (ALs s) s _ _ (LWd y om ox a3 τ2 σ f) := hC
  exact kk _ _ σ τ2 f _ _ _ hJ2 hC (by omega) (by omega) hl
