set_option maxHeartbeats 8000000 in
set_option maxRecDepth 100000 in
theorem law_case_0 {p : Program} {e : Env} {s : State} {m : MethodId} {below : List Frame} {meth : Method} {c : Code} (l : Launch) (hfl : l.stackTraces = false) {b L : Nat} {xs : Nat → Int32} (C0 : lw_At p s m meth c b L xs) {D : va_G} {y : Nat → ClassId} {ad av : Nat → Nat} {sa1 sa2 : Nat} (E0 : LEn D y ad av sa1 sa2 s) {om ox : Nat → Nat} {a3 : Nat} {H : Heap} {locs : List Loc} {cells slots : Nat} {σ τ : Sto} {f : Nat → Int64} (hJ : JT4 σ τ) (hC : CZ D (ALs s) s H locs (LWd y om ox a3 τ σ f)) (hc9 : cells + 1 ≤ 601024) (hs9 : slots + 6 ≤ 7293034) {i : Int32} (hi : 0 ≤ i.toInt) (hi2 : i.toInt + 7 ≤ (L : Int)) (hL : L ≤ 3584) {Q : State → Prop} (ls : Array Slot) (hl : lv_has ls 7 [(4, .int i), (3, .ref a3), (2, .ref (om 0)), (1, .ref (ox 0)), (0, .ref b)]) (kk : ∀ (H1 : Heap) (locs1 : List Loc) (σ1 τ1 : Sto) (f1 : Nat → Int64) (cells1 slots1 : Nat) (ls1 : Array Slot), JT4 σ1 τ1 → CZ D (ALs s) s H1 locs1 (LWd y om ox a3 τ1 σ1 f1) → cells1 ≤ cells + 1 → slots1 ≤ slots + 6 → lv_has ls1 7 [(4, .int i), (3, .ref a3), (2, .ref (om 0)), (1, .ref (ox 0)), (0, .ref b)] → W p l e room_1 s m #[Value.ref b] below meth c H1 locs1 cells1 slots1 Q (F0 m 1003 ls1 [])) : W p l e room_1 s m #[Value.ref b] below meth c H locs cells slots Q (F0 m 140 ls []) := by
  obtain ⟨hx, hb, hr, hml, hown, hts, hX, hbl, hlocks, hgv⟩ := C0
  obtain ⟨hK, hN, hV, hE1, hE2⟩ := E0
  have hown : s.vm.findClass RL = some m.cls := hown
  have hA : ∀ q : Nat, s.heap.size ≤ q → ALs s q := fun _ h => h
  have hbA : ¬ ALs s b := Nat.not_le.mpr hbl
  obtain ⟨v, σ2, τ2, e1, e2, hJ2⟩ := Q_feed hJ (xs (i + 1).toNatClampNeg) (xs (i + 2).toNatClampNeg) (xs (i + 3).toNatClampNeg) (xs (i + 4).toNatClampNeg) (xs (i + 5).toNatClampNeg)
  refine lv_aload_n hx hb dL_law_140 rfl (lv_at hl 3 rfl) ?_
  refine lv_aload_n hx hb dL_law_141 rfl (lv_at hl 4 rfl) ?_
  refine lv_iload hx hb dL_law_142 (lv_at hl 0 rfl) ?_
  refine lv_iconst (v := 1) hx hb dL_law_144 (by decide) ?_
  refine lv_iadd hx hb dL_law_145 ?_
  refine va_sld hx hb hX hbl hbA hC.2.2 (vp_k hi hi2 hL 1 (by decide +kernel)) dL_law_146 ?_
  refine lv_aload_n hx hb dL_law_147 rfl (lv_at hl 4 rfl) ?_
  refine lv_iload hx hb dL_law_148 (lv_at hl 0 rfl) ?_
  refine lv_iconst (v := 2) hx hb dL_law_150 (by decide) ?_
  refine lv_iadd hx hb dL_law_151 ?_
  refine va_sld hx hb hX hbl hbA hC.2.2 (vp_k hi hi2 hL 2 (by decide +kernel)) dL_law_152 ?_
  refine lv_aload_n hx hb dL_law_153 rfl (lv_at hl 4 rfl) ?_
  refine lv_iload hx hb dL_law_154 (lv_at hl 0 rfl) ?_
  refine lv_iconst (v := 3) hx hb dL_law_156 (by decide) ?_
  refine lv_iadd hx hb dL_law_157 ?_
  refine va_sld hx hb hX hbl hbA hC.2.2 (vp_k hi hi2 hL 3 (by decide +kernel)) dL_law_158 ?_
  refine lv_aload_n hx hb dL_law_159 rfl (lv_at hl 4 rfl) ?_
  refine lv_iload hx hb dL_law_160 (lv_at hl 0 rfl) ?_
  refine lv_iconst (v := 4) hx hb dL_law_162 (by decide) ?_
  refine lv_iadd hx hb dL_law_163 ?_
  refine va_sld hx hb hX hbl hbA hC.2.2 (vp_k hi hi2 hL 4 (by decide +kernel)) dL_law_164 ?_
  refine lv_aload_n hx hb dL_law_165 rfl (lv_at hl 4 rfl) ?_
  refine lv_iload hx hb dL_law_166 (lv_at hl 0 rfl) ?_
  refine lv_iconst (v := 5) hx hb dL_law_168 (by decide) ?_
  refine lv_iadd hx hb dL_law_169 ?_
  refine va_sld hx hb hX hbl hbA hC.2.2 (vp_k hi hi2 hL 5 (by decide +kernel)) dL_law_170 ?_
  have hC : CZ D (ALs s) s _ _ (WM y om τ ++ (WX y ox σ ++ [(a3, .inl (y 3, 1, .inr (.inl f)))])) := hC
  have hM := CZ.mid hC
  have hF := frZ hM hA
  refine va_calli (va_runV (As := [.int (xs (i + 1).toNatClampNeg), .int (xs (i + 2).toNatClampNeg), .int (xs (i + 3).toNatClampNeg), .int (xs (i + 4).toNatClampNeg), .int (xs (i + 5).toNatClampNeg)]) (rest := []) ⟨hx, hb, hml, hown, hts⟩ (r_X11_feed (D := D) (y := y) (o := ox) (ad := ad) (av := av) e1 l _) (cwV 5 hts lc_22 rfl rfl rfl ⟨rfl, hd_X11_feed.1, hd_X11_feed.2.1, hd_X11_feed.2.2⟩ ⟨Nat.le_of_ble_eq_true rfl, Nat.le_of_ble_eq_true rfl⟩) ⟨blZ, va_recv hK hM.1 (ci := 11) (q0 := 0) rfl rfl, prZ hK hN hV hA hM⟩ rfl rfl hl.1 rfl (lv_room (Nat.le_of_ble_eq_true rfl)) dL_law_171 ⟨by show cells + 0 ≤ 601024; omega, by show slots + 0 ≤ 7293034; omega⟩) hM.2.2 (fun q _ h => hF q h) hF (fun r1 u t H locs ht hvm hw hB hz1 hk1 hS => ?_)
  subst ht
  have hC := CZ.back hC hA hk1 hB.1 hB.2 hS
  have hw1 := hw
  refine lv_pop hx hb dL_law_174 rfl ?_
  refine lv_aload_n hx hb dL_law_175 rfl (lv_at hl 2 rfl) ?_
  refine lv_aload_n hx hb dL_law_176 rfl (lv_at hl 4 rfl) ?_
  refine lv_iload hx hb dL_law_177 (lv_at hl 0 rfl) ?_
  refine lv_iconst (v := 1) hx hb dL_law_179 (by decide) ?_
  refine lv_iadd hx hb dL_law_180 ?_
  refine va_sld hx hb hX hbl hbA hC.2.2 (vp_k hi hi2 hL 1 (by decide +kernel)) dL_law_181 ?_
  refine lv_aload_n hx hb dL_law_182 rfl (lv_at hl 4 rfl) ?_
  refine lv_iload hx hb dL_law_183 (lv_at hl 0 rfl) ?_
  refine lv_iconst (v := 2) hx hb dL_law_185 (by decide) ?_
  refine lv_iadd hx hb dL_law_186 ?_
  refine va_sld hx hb hX hbl hbA hC.2.2 (vp_k hi hi2 hL 2 (by decide +kernel)) dL_law_187 ?_
  refine lv_aload_n hx hb dL_law_188 rfl (lv_at hl 4 rfl) ?_
  refine lv_iload hx hb dL_law_189 (lv_at hl 0 rfl) ?_
  refine lv_iconst (v := 3) hx hb dL_law_191 (by decide) ?_
  refine lv_iadd hx hb dL_law_192 ?_
  refine va_sld hx hb hX hbl hbA hC.2.2 (vp_k hi hi2 hL 3 (by decide +kernel)) dL_law_193 ?_
  refine lv_aload_n hx hb dL_law_194 rfl (lv_at hl 4 rfl) ?_
  refine lv_iload hx hb dL_law_195 (lv_at hl 0 rfl) ?_
  refine lv_iconst (v := 4) hx hb dL_law_197 (by decide) ?_
  refine lv_iadd hx hb dL_law_198 ?_
  refine va_sld hx hb hX hbl hbA hC.2.2 (vp_k hi hi2 hL 4 (by decide +kernel)) dL_law_199 ?_
  refine lv_aload_n hx hb dL_law_200 rfl (lv_at hl 4 rfl) ?_
  refine lv_iload hx hb dL_law_201 (lv_at hl 0 rfl) ?_
  refine lv_iconst (v := 5) hx hb dL_law_203 (by decide) ?_
  refine lv_iadd hx hb dL_law_204 ?_
  refine va_sld hx hb hX hbl hbA hC.2.2 (vp_k hi hi2 hL 5 (by decide +kernel)) dL_law_205 ?_
  have hC : CZ D (ALs s) s _ _ ([] ++ (WM y om τ ++ (WX y ox σ2 ++ [(a3, .inl (y 3, 1, .inr (.inl f)))]))) := hC
  have hM := CZ.mid hC
  have hF := frZ hM hA
  refine va_calli (va_runV (As := [.int (xs (i + 1).toNatClampNeg), .int (xs (i + 2).toNatClampNeg), .int (xs (i + 3).toNatClampNeg), .int (xs (i + 4).toNatClampNeg), .int (xs (i + 5).toNatClampNeg)]) (rest := []) ⟨hx, hb, hml, hown, hts⟩ (r_X12_feed (D := D) (y := y) (o := om) (ad := ad) (av := av) e2 l _) (cwV 5 hts lc_26 rfl rfl rfl ⟨rfl, hd_X12_feed.1, hd_X12_feed.2.1, hd_X12_feed.2.2⟩ ⟨Nat.le_of_ble_eq_true rfl, Nat.le_of_ble_eq_true rfl⟩) ⟨blZ, va_recv hK hM.1 (ci := 12) (q0 := 0) rfl rfl, prZ hK hN hV hA hM⟩ rfl rfl hl.1 rfl (lv_room (Nat.le_of_ble_eq_true rfl)) dL_law_206 ⟨by show cells + 0 + 0 ≤ 601024; omega, by show slots + 0 + 0 ≤ 7293034; omega⟩) hM.2.2 (fun q _ h => hF q h) hF (fun r2 u t H locs ht hvm hw hB hz1 hk1 hS => ?_)
  subst ht
  have hC := CZ.back hC hA hk1 hB.1 hB.2 hS
  refine lv_pop hx hb dL_law_209 rfl ?_
  refine lv_goto (tgt := 1003) hx hb dL_law_210 (by decide) ?_
  have hC : CZ D (ALs s) s _ _ (LWd y om ox a3 τ2 σ2 f) := hC
  exact kk _ _ σ2 τ2 f _ _ _ hJ2 hC (by omega) (by omega) hl

set_option maxHeartbeats 8000000 in
set_option maxRecDepth 100000 in
theorem law_case_1 {p : Program} {e : Env} {s : State} {m : MethodId} {below : List Frame} {meth : Method} {c : Code} (l : Launch) (hfl : l.stackTraces = false) {b L : Nat} {xs : Nat → Int32} (C0 : lw_At p s m meth c b L xs) {D : va_G} {y : Nat → ClassId} {ad av : Nat → Nat} {sa1 sa2 : Nat} (E0 : LEn D y ad av sa1 sa2 s) {om ox : Nat → Nat} {a3 : Nat} {H : Heap} {locs : List Loc} {cells slots : Nat} {σ τ : Sto} {f : Nat → Int64} (hJ : JT4 σ τ) (hC : CZ D (ALs s) s H locs (LWd y om ox a3 τ σ f)) (hc9 : cells + 1 ≤ 601024) (hs9 : slots + 6 ≤ 7293034) {i : Int32} (hi : 0 ≤ i.toInt) (hi2 : i.toInt + 7 ≤ (L : Int)) (hL : L ≤ 3584) {Q : State → Prop} (ls : Array Slot) (hl : lv_has ls 7 [(4, .int i), (3, .ref a3), (2, .ref (om 0)), (1, .ref (ox 0)), (0, .ref b)]) (kk : ∀ (H1 : Heap) (locs1 : List Loc) (σ1 τ1 : Sto) (f1 : Nat → Int64) (cells1 slots1 : Nat) (ls1 : Array Slot), JT4 σ1 τ1 → CZ D (ALs s) s H1 locs1 (LWd y om ox a3 τ1 σ1 f1) → cells1 ≤ cells + 1 → slots1 ≤ slots + 6 → lv_has ls1 7 [(4, .int i), (3, .ref a3), (2, .ref (om 0)), (1, .ref (ox 0)), (0, .ref b)] → W p l e room_1 s m #[Value.ref b] below meth c H1 locs1 cells1 slots1 Q (F0 m 1003 ls1 [])) : W p l e room_1 s m #[Value.ref b] below meth c H locs cells slots Q (F0 m 213 ls []) := by
  obtain ⟨hx, hb, hr, hml, hown, hts, hX, hbl, hlocks, hgv⟩ := C0
  obtain ⟨hK, hN, hV, hE1, hE2⟩ := E0
  have hown : s.vm.findClass RL = some m.cls := hown
  have hA : ∀ q : Nat, s.heap.size ≤ q → ALs s q := fun _ h => h
  have hbA : ¬ ALs s b := Nat.not_le.mpr hbl
  obtain ⟨v, σ2, τ2, e1, e2, hJ2⟩ := Q_end hJ (xs (i + 1).toNatClampNeg)
  refine lv_aload_n hx hb dL_law_213 rfl (lv_at hl 3 rfl) ?_
  refine lv_aload_n hx hb dL_law_214 rfl (lv_at hl 4 rfl) ?_
  refine lv_iload hx hb dL_law_215 (lv_at hl 0 rfl) ?_
  refine lv_iconst (v := 1) hx hb dL_law_217 (by decide) ?_
  refine lv_iadd hx hb dL_law_218 ?_
  refine va_sld hx hb hX hbl hbA hC.2.2 (vp_k hi hi2 hL 1 (by decide +kernel)) dL_law_219 ?_
  have hC : CZ D (ALs s) s _ _ (WM y om τ ++ (WX y ox σ ++ [(a3, .inl (y 3, 1, .inr (.inl f)))])) := hC
  have hM := CZ.mid hC
  have hF := frZ hM hA
  refine va_calli (va_runV (As := [.int (xs (i + 1).toNatClampNeg)]) (rest := []) ⟨hx, hb, hml, hown, hts⟩ (r_X11_end (D := D) (y := y) (o := ox) (ad := ad) (av := av) e1 l _) (cwV 1 hts lc_27 rfl rfl rfl ⟨rfl, hd_X11_end.1, hd_X11_end.2.1, hd_X11_end.2.2⟩ ⟨Nat.le_of_ble_eq_true rfl, Nat.le_of_ble_eq_true rfl⟩) ⟨blZ, va_recv hK hM.1 (ci := 11) (q0 := 0) rfl rfl, prZ hK hN hV hA hM⟩ rfl rfl hl.1 rfl (lv_room (Nat.le_of_ble_eq_true rfl)) dL_law_220 ⟨by show cells + 0 ≤ 601024; omega, by show slots + 0 ≤ 7293034; omega⟩) hM.2.2 (fun q _ h => hF q h) hF (fun r1 u t H locs ht hvm hw hB hz1 hk1 hS => ?_)
  subst ht
  have hC := CZ.back hC hA hk1 hB.1 hB.2 hS
  have hw1 := hw
  refine lv_pop hx hb dL_law_223 rfl ?_
  refine lv_aload_n hx hb dL_law_224 rfl (lv_at hl 2 rfl) ?_
  refine lv_aload_n hx hb dL_law_225 rfl (lv_at hl 4 rfl) ?_
  refine lv_iload hx hb dL_law_226 (lv_at hl 0 rfl) ?_
  refine lv_iconst (v := 1) hx hb dL_law_228 (by decide) ?_
  refine lv_iadd hx hb dL_law_229 ?_
  refine va_sld hx hb hX hbl hbA hC.2.2 (vp_k hi hi2 hL 1 (by decide +kernel)) dL_law_230 ?_
  have hC : CZ D (ALs s) s _ _ ([] ++ (WM y om τ ++ (WX y ox σ2 ++ [(a3, .inl (y 3, 1, .inr (.inl f)))]))) := hC
  have hM := CZ.mid hC
  have hF := frZ hM hA
  refine va_calli (va_runV (As := [.int (xs (i + 1).toNatClampNeg)]) (rest := []) ⟨hx, hb, hml, hown, hts⟩ (r_X12_end (D := D) (y := y) (o := om) (ad := ad) (av := av) e2 l _) (cwV 1 hts lc_31 rfl rfl rfl ⟨rfl, hd_X12_end.1, hd_X12_end.2.1, hd_X12_end.2.2⟩ ⟨Nat.le_of_ble_eq_true rfl, Nat.le_of_ble_eq_true rfl⟩) ⟨blZ, va_recv hK hM.1 (ci := 12) (q0 := 0) rfl rfl, prZ hK hN hV hA hM⟩ rfl rfl hl.1 rfl (lv_room (Nat.le_of_ble_eq_true rfl)) dL_law_231 ⟨by show cells + 0 + 0 ≤ 601024; omega, by show slots + 0 + 0 ≤ 7293034; omega⟩) hM.2.2 (fun q _ h => hF q h) hF (fun r2 u t H locs ht hvm hw hB hz1 hk1 hS => ?_)
  subst ht
  have hC := CZ.back hC hA hk1 hB.1 hB.2 hS
  refine lv_pop hx hb dL_law_234 rfl ?_
  refine lv_goto (tgt := 1003) hx hb dL_law_235 (by decide) ?_
  have hC : CZ D (ALs s) s _ _ (LWd y om ox a3 τ2 σ2 f) := hC
  exact kk _ _ σ2 τ2 f _ _ _ hJ2 hC (by omega) (by omega) hl

set_option maxHeartbeats 8000000 in
set_option maxRecDepth 100000 in
theorem law_case_2 {p : Program} {e : Env} {s : State} {m : MethodId} {below : List Frame} {meth : Method} {c : Code} (l : Launch) (hfl : l.stackTraces = false) {b L : Nat} {xs : Nat → Int32} (C0 : lw_At p s m meth c b L xs) {D : va_G} {y : Nat → ClassId} {ad av : Nat → Nat} {sa1 sa2 : Nat} (E0 : LEn D y ad av sa1 sa2 s) {om ox : Nat → Nat} {a3 : Nat} {H : Heap} {locs : List Loc} {cells slots : Nat} {σ τ : Sto} {f : Nat → Int64} (hJ : JT4 σ τ) (hC : CZ D (ALs s) s H locs (LWd y om ox a3 τ σ f)) (hc9 : cells + 1 ≤ 601024) (hs9 : slots + 6 ≤ 7293034) {i : Int32} (hi : 0 ≤ i.toInt) (hi2 : i.toInt + 7 ≤ (L : Int)) (hL : L ≤ 3584) {Q : State → Prop} (ls : Array Slot) (hl : lv_has ls 7 [(4, .int i), (3, .ref a3), (2, .ref (om 0)), (1, .ref (ox 0)), (0, .ref b)]) (kk : ∀ (H1 : Heap) (locs1 : List Loc) (σ1 τ1 : Sto) (f1 : Nat → Int64) (cells1 slots1 : Nat) (ls1 : Array Slot), JT4 σ1 τ1 → CZ D (ALs s) s H1 locs1 (LWd y om ox a3 τ1 σ1 f1) → cells1 ≤ cells + 1 → slots1 ≤ slots + 6 → lv_has ls1 7 [(4, .int i), (3, .ref a3), (2, .ref (om 0)), (1, .ref (ox 0)), (0, .ref b)] → W p l e room_1 s m #[Value.ref b] below meth c H1 locs1 cells1 slots1 Q (F0 m 1003 ls1 [])) : W p l e room_1 s m #[Value.ref b] below meth c H locs cells slots Q (F0 m 238 ls []) := by
  obtain ⟨hx, hb, hr, hml, hown, hts, hX, hbl, hlocks, hgv⟩ := C0
  obtain ⟨hK, hN, hV, hE1, hE2⟩ := E0
  have hown : s.vm.findClass RL = some m.cls := hown
  have hA : ∀ q : Nat, s.heap.size ≤ q → ALs s q := fun _ h => h
  have hbA : ¬ ALs s b := Nat.not_le.mpr hbl
  obtain ⟨v, σ2, w, τ2, e1, e2, hJ2⟩ := Q_fault hJ 
  refine lv_aload_n hx hb dL_law_238 rfl (lv_at hl 3 rfl) ?_
  have hC : CZ D (ALs s) s _ _ (WM y om τ ++ (WX y ox σ ++ [(a3, .inl (y 3, 1, .inr (.inl f)))])) := hC
  have hM := CZ.mid hC
  have hF := frZ hM hA
  refine va_calli (va_runV (As := []) (rest := []) ⟨hx, hb, hml, hown, hts⟩ (r_X11_fault (D := D) (y := y) (o := ox) (ad := ad) (av := av) e1 l _) (cwV 0 hts lc_32 rfl rfl rfl ⟨rfl, hd_X11_fault.1, hd_X11_fault.2.1, hd_X11_fault.2.2⟩ ⟨Nat.le_of_ble_eq_true rfl, Nat.le_of_ble_eq_true rfl⟩) ⟨blZ, va_recv hK hM.1 (ci := 11) (q0 := 0) rfl rfl, prZ hK hN hV hA hM⟩ rfl rfl hl.1 rfl (lv_room (Nat.le_of_ble_eq_true rfl)) dL_law_239 ⟨by show cells + 0 ≤ 601024; omega, by show slots + 0 ≤ 7293034; omega⟩) hM.2.2 (fun q _ h => hF q h) hF (fun r1 u t H locs ht hvm hw hB hz1 hk1 hS => ?_)
  subst ht
  have hC := CZ.back hC hA hk1 hB.1 hB.2 hS
  refine lv_pop hx hb dL_law_242 rfl ?_
  refine lv_aload_n hx hb dL_law_243 rfl (lv_at hl 2 rfl) ?_
  have hC : CZ D (ALs s) s _ _ ([] ++ (WM y om τ ++ (WX y ox σ2 ++ [(a3, .inl (y 3, 1, .inr (.inl f)))]))) := hC
  have hM := CZ.mid hC
  have hF := frZ hM hA
  refine va_calli (va_runV (As := []) (rest := []) ⟨hx, hb, hml, hown, hts⟩ (r_X12_fault (D := D) (y := y) (o := om) (ad := ad) (av := av) e2 l _) (cwV 0 hts lc_36 rfl rfl rfl ⟨rfl, hd_X12_fault.1, hd_X12_fault.2.1, hd_X12_fault.2.2⟩ ⟨Nat.le_of_ble_eq_true rfl, Nat.le_of_ble_eq_true rfl⟩) ⟨blZ, va_recv hK hM.1 (ci := 12) (q0 := 0) rfl rfl, prZ hK hN hV hA hM⟩ rfl rfl hl.1 rfl (lv_room (Nat.le_of_ble_eq_true rfl)) dL_law_244 ⟨by show cells + 0 + 0 ≤ 601024; omega, by show slots + 0 + 0 ≤ 7293034; omega⟩) hM.2.2 (fun q _ h => hF q h) hF (fun r2 u t H locs ht hvm hw hB hz1 hk1 hS => ?_)
  subst ht
  have hC := CZ.back hC hA hk1 hB.1 hB.2 hS
  refine lv_pop hx hb dL_law_247 rfl ?_
  refine lv_goto (tgt := 1003) hx hb dL_law_248 (by decide) ?_
  have hC : CZ D (ALs s) s _ _ (LWd y om ox a3 τ2 σ2 f) := hC
  exact kk _ _ σ2 τ2 f _ _ _ hJ2 hC (by omega) (by omega) hl

set_option maxHeartbeats 8000000 in
set_option maxRecDepth 100000 in
theorem law_case_3 {p : Program} {e : Env} {s : State} {m : MethodId} {below : List Frame} {meth : Method} {c : Code} (l : Launch) (hfl : l.stackTraces = false) {b L : Nat} {xs : Nat → Int32} (C0 : lw_At p s m meth c b L xs) {D : va_G} {y : Nat → ClassId} {ad av : Nat → Nat} {sa1 sa2 : Nat} (E0 : LEn D y ad av sa1 sa2 s) {om ox : Nat → Nat} {a3 : Nat} {H : Heap} {locs : List Loc} {cells slots : Nat} {σ τ : Sto} {f : Nat → Int64} (hJ : JT4 σ τ) (hC : CZ D (ALs s) s H locs (LWd y om ox a3 τ σ f)) (hc9 : cells + 1 ≤ 601024) (hs9 : slots + 6 ≤ 7293034) {i : Int32} (hi : 0 ≤ i.toInt) (hi2 : i.toInt + 7 ≤ (L : Int)) (hL : L ≤ 3584) {Q : State → Prop} (ls : Array Slot) (hl : lv_has ls 7 [(4, .int i), (3, .ref a3), (2, .ref (om 0)), (1, .ref (ox 0)), (0, .ref b)]) (kk : ∀ (H1 : Heap) (locs1 : List Loc) (σ1 τ1 : Sto) (f1 : Nat → Int64) (cells1 slots1 : Nat) (ls1 : Array Slot), JT4 σ1 τ1 → CZ D (ALs s) s H1 locs1 (LWd y om ox a3 τ1 σ1 f1) → cells1 ≤ cells + 1 → slots1 ≤ slots + 6 → lv_has ls1 7 [(4, .int i), (3, .ref a3), (2, .ref (om 0)), (1, .ref (ox 0)), (0, .ref b)] → W p l e room_1 s m #[Value.ref b] below meth c H1 locs1 cells1 slots1 Q (F0 m 1003 ls1 [])) : W p l e room_1 s m #[Value.ref b] below meth c H locs cells slots Q (F0 m 251 ls []) := by
  obtain ⟨hx, hb, hr, hml, hown, hts, hX, hbl, hlocks, hgv⟩ := C0
  obtain ⟨hK, hN, hV, hE1, hE2⟩ := E0
  have hown : s.vm.findClass RL = some m.cls := hown
  have hA : ∀ q : Nat, s.heap.size ≤ q → ALs s q := fun _ h => h
  have hbA : ¬ ALs s b := Nat.not_le.mpr hbl
  obtain ⟨v, σ2, τ2, e1, e2, hJ2⟩ := Q_code hJ 
  refine lv_aload_n hx hb dL_law_251 rfl (lv_at hl 3 rfl) ?_
  have hC : CZ D (ALs s) s _ _ (WM y om τ ++ (WX y ox σ ++ [(a3, .inl (y 3, 1, .inr (.inl f)))])) := hC
  have hM := CZ.mid hC
  have hF := frZ hM hA
  refine va_calli (va_runV (As := []) (rest := []) ⟨hx, hb, hml, hown, hts⟩ (r_X11_code (D := D) (y := y) (o := ox) (ad := ad) (av := av) e1 l _) (cwV 0 hts lc_37 rfl rfl rfl ⟨rfl, hd_X11_code.1, hd_X11_code.2.1, hd_X11_code.2.2⟩ ⟨Nat.le_of_ble_eq_true rfl, Nat.le_of_ble_eq_true rfl⟩) ⟨blZ, va_recv hK hM.1 (ci := 11) (q0 := 0) rfl rfl, prZ hK hN hV hA hM⟩ rfl rfl hl.1 rfl (lv_room (Nat.le_of_ble_eq_true rfl)) dL_law_252 ⟨by show cells + 0 ≤ 601024; omega, by show slots + 0 ≤ 7293034; omega⟩) hM.2.2 (fun q _ h => hF q h) hF (fun r1 u t H locs ht hvm hw hB hz1 hk1 hS => ?_)
  subst ht
  have hC := CZ.back hC hA hk1 hB.1 hB.2 hS
  have hw1 := hw
  refine lv_pop hx hb dL_law_255 rfl ?_
  refine lv_aload_n hx hb dL_law_256 rfl (lv_at hl 2 rfl) ?_
  have hC : CZ D (ALs s) s _ _ ([] ++ (WM y om τ ++ (WX y ox σ2 ++ [(a3, .inl (y 3, 1, .inr (.inl f)))]))) := hC
  have hM := CZ.mid hC
  have hF := frZ hM hA
  refine va_calli (va_runV (As := []) (rest := []) ⟨hx, hb, hml, hown, hts⟩ (r_X12_code (D := D) (y := y) (o := om) (ad := ad) (av := av) e2 l _) (cwV 0 hts lc_40 rfl rfl rfl ⟨rfl, hd_X12_code.1, hd_X12_code.2.1, hd_X12_code.2.2⟩ ⟨Nat.le_of_ble_eq_true rfl, Nat.le_of_ble_eq_true rfl⟩) ⟨blZ, va_recv hK hM.1 (ci := 12) (q0 := 0) rfl rfl, prZ hK hN hV hA hM⟩ rfl rfl hl.1 rfl (lv_room (Nat.le_of_ble_eq_true rfl)) dL_law_257 ⟨by show cells + 0 + 0 ≤ 601024; omega, by show slots + 0 + 0 ≤ 7293034; omega⟩) hM.2.2 (fun q _ h => hF q h) hF (fun r2 u t H locs ht hvm hw hB hz1 hk1 hS => ?_)
  subst ht
  have hC := CZ.back hC hA hk1 hB.1 hB.2 hS
  refine lv_pop hx hb dL_law_260 rfl ?_
  refine lv_goto (tgt := 1003) hx hb dL_law_261 (by decide) ?_
  have hC : CZ D (ALs s) s _ _ (LWd y om ox a3 τ2 σ2 f) := hC
  exact kk _ _ σ2 τ2 f _ _ _ hJ2 hC (by omega) (by omega) hl

set_option maxHeartbeats 8000000 in
set_option maxRecDepth 100000 in
theorem law_case_4 {p : Program} {e : Env} {s : State} {m : MethodId} {below : List Frame} {meth : Method} {c : Code} (l : Launch) (hfl : l.stackTraces = false) {b L : Nat} {xs : Nat → Int32} (C0 : lw_At p s m meth c b L xs) {D : va_G} {y : Nat → ClassId} {ad av : Nat → Nat} {sa1 sa2 : Nat} (E0 : LEn D y ad av sa1 sa2 s) {om ox : Nat → Nat} {a3 : Nat} {H : Heap} {locs : List Loc} {cells slots : Nat} {σ τ : Sto} {f : Nat → Int64} (hJ : JT4 σ τ) (hC : CZ D (ALs s) s H locs (LWd y om ox a3 τ σ f)) (hc9 : cells + 1 ≤ 601024) (hs9 : slots + 6 ≤ 7293034) {i : Int32} (hi : 0 ≤ i.toInt) (hi2 : i.toInt + 7 ≤ (L : Int)) (hL : L ≤ 3584) {Q : State → Prop} (ls : Array Slot) (hl : lv_has ls 7 [(4, .int i), (3, .ref a3), (2, .ref (om 0)), (1, .ref (ox 0)), (0, .ref b)]) (kk : ∀ (H1 : Heap) (locs1 : List Loc) (σ1 τ1 : Sto) (f1 : Nat → Int64) (cells1 slots1 : Nat) (ls1 : Array Slot), JT4 σ1 τ1 → CZ D (ALs s) s H1 locs1 (LWd y om ox a3 τ1 σ1 f1) → cells1 ≤ cells + 1 → slots1 ≤ slots + 6 → lv_has ls1 7 [(4, .int i), (3, .ref a3), (2, .ref (om 0)), (1, .ref (ox 0)), (0, .ref b)] → W p l e room_1 s m #[Value.ref b] below meth c H1 locs1 cells1 slots1 Q (F0 m 1003 ls1 [])) : W p l e room_1 s m #[Value.ref b] below meth c H locs cells slots Q (F0 m 264 ls []) := by
  obtain ⟨hx, hb, hr, hml, hown, hts, hX, hbl, hlocks, hgv⟩ := C0
  obtain ⟨hK, hN, hV, hE1, hE2⟩ := E0
  have hown : s.vm.findClass RL = some m.cls := hown
  have hA : ∀ q : Nat, s.heap.size ≤ q → ALs s q := fun _ h => h
  have hbA : ¬ ALs s b := Nat.not_le.mpr hbl
  obtain ⟨v, σ2, τ2, e1, e2, hJ2⟩ := Q_put hJ (xs (i + 1).toNatClampNeg) (xs (i + 2).toNatClampNeg) (xs (i + 3).toNatClampNeg)
  refine lv_aload_n hx hb dL_law_264 rfl (lv_at hl 3 rfl) ?_
  refine lv_aload_n hx hb dL_law_265 rfl (lv_at hl 4 rfl) ?_
  refine lv_iload hx hb dL_law_266 (lv_at hl 0 rfl) ?_
  refine lv_iconst (v := 1) hx hb dL_law_268 (by decide) ?_
  refine lv_iadd hx hb dL_law_269 ?_
  refine va_sld hx hb hX hbl hbA hC.2.2 (vp_k hi hi2 hL 1 (by decide +kernel)) dL_law_270 ?_
  refine lv_aload_n hx hb dL_law_271 rfl (lv_at hl 4 rfl) ?_
  refine lv_iload hx hb dL_law_272 (lv_at hl 0 rfl) ?_
  refine lv_iconst (v := 2) hx hb dL_law_274 (by decide) ?_
  refine lv_iadd hx hb dL_law_275 ?_
  refine va_sld hx hb hX hbl hbA hC.2.2 (vp_k hi hi2 hL 2 (by decide +kernel)) dL_law_276 ?_
  refine lv_aload_n hx hb dL_law_277 rfl (lv_at hl 4 rfl) ?_
  refine lv_iload hx hb dL_law_278 (lv_at hl 0 rfl) ?_
  refine lv_iconst (v := 3) hx hb dL_law_280 (by decide) ?_
  refine lv_iadd hx hb dL_law_281 ?_
  refine va_sld hx hb hX hbl hbA hC.2.2 (vp_k hi hi2 hL 3 (by decide +kernel)) dL_law_282 ?_
  have hC : CZ D (ALs s) s _ _ (WM y om τ ++ (WX y ox σ ++ [(a3, .inl (y 3, 1, .inr (.inl f)))])) := hC
  have hM := CZ.mid hC
  have hF := frZ hM hA
  refine va_calli (va_runV (As := [.int (xs (i + 1).toNatClampNeg), .int (xs (i + 2).toNatClampNeg), .int (xs (i + 3).toNatClampNeg)]) (rest := []) ⟨hx, hb, hml, hown, hts⟩ (r_X11_put (D := D) (y := y) (o := ox) (ad := ad) (av := av) e1 l _) (cwV 3 hts lc_41 rfl rfl rfl ⟨rfl, hd_X11_put.1, hd_X11_put.2.1, hd_X11_put.2.2⟩ ⟨Nat.le_of_ble_eq_true rfl, Nat.le_of_ble_eq_true rfl⟩) ⟨blZ, va_recv hK hM.1 (ci := 11) (q0 := 0) rfl rfl, prZ hK hN hV hA hM⟩ rfl rfl hl.1 rfl (lv_room (Nat.le_of_ble_eq_true rfl)) dL_law_283 ⟨by show cells + 0 ≤ 601024; omega, by show slots + 0 ≤ 7293034; omega⟩) hM.2.2 (fun q _ h => hF q h) hF (fun r1 u t H locs ht hvm hw hB hz1 hk1 hS => ?_)
  subst ht
  have hC := CZ.back hC hA hk1 hB.1 hB.2 hS
  have hw1 := hw
  refine lv_pop hx hb dL_law_286 rfl ?_
  refine lv_aload_n hx hb dL_law_287 rfl (lv_at hl 2 rfl) ?_
  refine lv_aload_n hx hb dL_law_288 rfl (lv_at hl 4 rfl) ?_
  refine lv_iload hx hb dL_law_289 (lv_at hl 0 rfl) ?_
  refine lv_iconst (v := 1) hx hb dL_law_291 (by decide) ?_
  refine lv_iadd hx hb dL_law_292 ?_
  refine va_sld hx hb hX hbl hbA hC.2.2 (vp_k hi hi2 hL 1 (by decide +kernel)) dL_law_293 ?_
  refine lv_aload_n hx hb dL_law_294 rfl (lv_at hl 4 rfl) ?_
  refine lv_iload hx hb dL_law_295 (lv_at hl 0 rfl) ?_
  refine lv_iconst (v := 2) hx hb dL_law_297 (by decide) ?_
  refine lv_iadd hx hb dL_law_298 ?_
  refine va_sld hx hb hX hbl hbA hC.2.2 (vp_k hi hi2 hL 2 (by decide +kernel)) dL_law_299 ?_
  refine lv_aload_n hx hb dL_law_300 rfl (lv_at hl 4 rfl) ?_
  refine lv_iload hx hb dL_law_301 (lv_at hl 0 rfl) ?_
  refine lv_iconst (v := 3) hx hb dL_law_303 (by decide) ?_
  refine lv_iadd hx hb dL_law_304 ?_
  refine va_sld hx hb hX hbl hbA hC.2.2 (vp_k hi hi2 hL 3 (by decide +kernel)) dL_law_305 ?_
  have hC : CZ D (ALs s) s _ _ ([] ++ (WM y om τ ++ (WX y ox σ2 ++ [(a3, .inl (y 3, 1, .inr (.inl f)))]))) := hC
  have hM := CZ.mid hC
  have hF := frZ hM hA
  refine va_calli (va_runV (As := [.int (xs (i + 1).toNatClampNeg), .int (xs (i + 2).toNatClampNeg), .int (xs (i + 3).toNatClampNeg)]) (rest := []) ⟨hx, hb, hml, hown, hts⟩ (r_X12_put (D := D) (y := y) (o := om) (ad := ad) (av := av) e2 l _) (cwV 3 hts lc_45 rfl rfl rfl ⟨rfl, hd_X12_put.1, hd_X12_put.2.1, hd_X12_put.2.2⟩ ⟨Nat.le_of_ble_eq_true rfl, Nat.le_of_ble_eq_true rfl⟩) ⟨blZ, va_recv hK hM.1 (ci := 12) (q0 := 0) rfl rfl, prZ hK hN hV hA hM⟩ rfl rfl hl.1 rfl (lv_room (Nat.le_of_ble_eq_true rfl)) dL_law_306 ⟨by show cells + 0 + 0 ≤ 601024; omega, by show slots + 0 + 0 ≤ 7293034; omega⟩) hM.2.2 (fun q _ h => hF q h) hF (fun r2 u t H locs ht hvm hw hB hz1 hk1 hS => ?_)
  subst ht
  have hC := CZ.back hC hA hk1 hB.1 hB.2 hS
  refine lv_pop hx hb dL_law_309 rfl ?_
  refine lv_goto (tgt := 1003) hx hb dL_law_310 (by decide) ?_
  have hC : CZ D (ALs s) s _ _ (LWd y om ox a3 τ2 σ2 f) := hC
  exact kk _ _ σ2 τ2 f _ _ _ hJ2 hC (by omega) (by omega) hl

set_option maxHeartbeats 8000000 in
set_option maxRecDepth 100000 in
theorem law_case_5 {p : Program} {e : Env} {s : State} {m : MethodId} {below : List Frame} {meth : Method} {c : Code} (l : Launch) (hfl : l.stackTraces = false) {b L : Nat} {xs : Nat → Int32} (C0 : lw_At p s m meth c b L xs) {D : va_G} {y : Nat → ClassId} {ad av : Nat → Nat} {sa1 sa2 : Nat} (E0 : LEn D y ad av sa1 sa2 s) {om ox : Nat → Nat} {a3 : Nat} {H : Heap} {locs : List Loc} {cells slots : Nat} {σ τ : Sto} {f : Nat → Int64} (hJ : JT4 σ τ) (hC : CZ D (ALs s) s H locs (LWd y om ox a3 τ σ f)) (hc9 : cells + 1 ≤ 601024) (hs9 : slots + 6 ≤ 7293034) {i : Int32} (hi : 0 ≤ i.toInt) (hi2 : i.toInt + 7 ≤ (L : Int)) (hL : L ≤ 3584) {Q : State → Prop} (ls : Array Slot) (hl : lv_has ls 7 [(4, .int i), (3, .ref a3), (2, .ref (om 0)), (1, .ref (ox 0)), (0, .ref b)]) (kk : ∀ (H1 : Heap) (locs1 : List Loc) (σ1 τ1 : Sto) (f1 : Nat → Int64) (cells1 slots1 : Nat) (ls1 : Array Slot), JT4 σ1 τ1 → CZ D (ALs s) s H1 locs1 (LWd y om ox a3 τ1 σ1 f1) → cells1 ≤ cells + 1 → slots1 ≤ slots + 6 → lv_has ls1 7 [(4, .int i), (3, .ref a3), (2, .ref (om 0)), (1, .ref (ox 0)), (0, .ref b)] → W p l e room_1 s m #[Value.ref b] below meth c H1 locs1 cells1 slots1 Q (F0 m 1003 ls1 [])) : W p l e room_1 s m #[Value.ref b] below meth c H locs cells slots Q (F0 m 313 ls []) := by
  obtain ⟨hx, hb, hr, hml, hown, hts, hX, hbl, hlocks, hgv⟩ := C0
  obtain ⟨hK, hN, hV, hE1, hE2⟩ := E0
  have hown : s.vm.findClass RL = some m.cls := hown
  have hA : ∀ q : Nat, s.heap.size ≤ q → ALs s q := fun _ h => h
  have hbA : ¬ ALs s b := Nat.not_le.mpr hbl
  obtain ⟨v, w, τ2, e1, e2, hJ2⟩ := Q_count hJ (xs (i + 1).toNatClampNeg)
  refine lv_aload_n hx hb dL_law_313 rfl (lv_at hl 3 rfl) ?_
  refine lv_aload_n hx hb dL_law_314 rfl (lv_at hl 4 rfl) ?_
  refine lv_iload hx hb dL_law_315 (lv_at hl 0 rfl) ?_
  refine lv_iconst (v := 1) hx hb dL_law_317 (by decide) ?_
  refine lv_iadd hx hb dL_law_318 ?_
  refine va_sld hx hb hX hbl hbA hC.2.2 (vp_k hi hi2 hL 1 (by decide +kernel)) dL_law_319 ?_
  have hC : CZ D (ALs s) s _ _ (WM y om τ ++ (WX y ox σ ++ [(a3, .inl (y 3, 1, .inr (.inl f)))])) := hC
  have hM := CZ.mid hC
  have hF := frZ hM hA
  refine va_calli (va_runV (As := [.int (xs (i + 1).toNatClampNeg)]) (rest := []) ⟨hx, hb, hml, hown, hts⟩ (r_X11_count (D := D) (y := y) (o := ox) (ad := ad) (av := av) e1 l _) (cwV 1 hts lc_46 rfl rfl rfl ⟨rfl, hd_X11_count.1, hd_X11_count.2.1, hd_X11_count.2.2⟩ ⟨Nat.le_of_ble_eq_true rfl, Nat.le_of_ble_eq_true rfl⟩) ⟨blZ, va_recv hK hM.1 (ci := 11) (q0 := 0) rfl rfl, prZ hK hN hV hA hM⟩ rfl rfl hl.1 rfl (lv_room (Nat.le_of_ble_eq_true rfl)) dL_law_320 ⟨by show cells + 0 ≤ 601024; omega, by show slots + 0 ≤ 7293034; omega⟩) hM.2.2 (fun q _ h => hF q h) hF (fun r1 u t H locs ht hvm hw hB hz1 hk1 hS => ?_)
  subst ht
  have hC := CZ.back hC hA hk1 hB.1 hB.2 hS
  refine lv_pop hx hb dL_law_323 rfl ?_
  refine lv_aload_n hx hb dL_law_324 rfl (lv_at hl 2 rfl) ?_
  refine lv_aload_n hx hb dL_law_325 rfl (lv_at hl 4 rfl) ?_
  refine lv_iload hx hb dL_law_326 (lv_at hl 0 rfl) ?_
  refine lv_iconst (v := 1) hx hb dL_law_328 (by decide) ?_
  refine lv_iadd hx hb dL_law_329 ?_
  refine va_sld hx hb hX hbl hbA hC.2.2 (vp_k hi hi2 hL 1 (by decide +kernel)) dL_law_330 ?_
  have hC : CZ D (ALs s) s _ _ ([] ++ (WM y om τ ++ (WX y ox σ ++ [(a3, .inl (y 3, 1, .inr (.inl f)))]))) := hC
  have hM := CZ.mid hC
  have hF := frZ hM hA
  refine va_calli (va_runV (As := [.int (xs (i + 1).toNatClampNeg)]) (rest := []) ⟨hx, hb, hml, hown, hts⟩ (r_X12_count (D := D) (y := y) (o := om) (ad := ad) (av := av) e2 l _) (cwV 1 hts lc_50 rfl rfl rfl ⟨rfl, hd_X12_count.1, hd_X12_count.2.1, hd_X12_count.2.2⟩ ⟨Nat.le_of_ble_eq_true rfl, Nat.le_of_ble_eq_true rfl⟩) ⟨blZ, va_recv hK hM.1 (ci := 12) (q0 := 0) rfl rfl, prZ hK hN hV hA hM⟩ rfl rfl hl.1 rfl (lv_room (Nat.le_of_ble_eq_true rfl)) dL_law_331 ⟨by show cells + 0 + 0 ≤ 601024; omega, by show slots + 0 + 0 ≤ 7293034; omega⟩) hM.2.2 (fun q _ h => hF q h) hF (fun r2 u t H locs ht hvm hw hB hz1 hk1 hS => ?_)
  subst ht
  have hC := CZ.back hC hA hk1 hB.1 hB.2 hS
  refine lv_pop hx hb dL_law_334 rfl ?_
  refine lv_goto (tgt := 1003) hx hb dL_law_335 (by decide) ?_
  have hC : CZ D (ALs s) s _ _ (LWd y om ox a3 τ2 σ f) := hC
  exact kk _ _ σ τ2 f _ _ _ hJ2 hC (by omega) (by omega) hl

set_option maxHeartbeats 8000000 in
set_option maxRecDepth 100000 in
theorem law_case_6 {p : Program} {e : Env} {s : State} {m : MethodId} {below : List Frame} {meth : Method} {c : Code} (l : Launch) (hfl : l.stackTraces = false) {b L : Nat} {xs : Nat → Int32} (C0 : lw_At p s m meth c b L xs) {D : va_G} {y : Nat → ClassId} {ad av : Nat → Nat} {sa1 sa2 : Nat} (E0 : LEn D y ad av sa1 sa2 s) {om ox : Nat → Nat} {a3 : Nat} {H : Heap} {locs : List Loc} {cells slots : Nat} {σ τ : Sto} {f : Nat → Int64} (hJ : JT4 σ τ) (hC : CZ D (ALs s) s H locs (LWd y om ox a3 τ σ f)) (hc9 : cells + 1 ≤ 601024) (hs9 : slots + 6 ≤ 7293034) {i : Int32} (hi : 0 ≤ i.toInt) (hi2 : i.toInt + 7 ≤ (L : Int)) (hL : L ≤ 3584) {Q : State → Prop} (ls : Array Slot) (hl : lv_has ls 7 [(4, .int i), (3, .ref a3), (2, .ref (om 0)), (1, .ref (ox 0)), (0, .ref b)]) (kk : ∀ (H1 : Heap) (locs1 : List Loc) (σ1 τ1 : Sto) (f1 : Nat → Int64) (cells1 slots1 : Nat) (ls1 : Array Slot), JT4 σ1 τ1 → CZ D (ALs s) s H1 locs1 (LWd y om ox a3 τ1 σ1 f1) → cells1 ≤ cells + 1 → slots1 ≤ slots + 6 → lv_has ls1 7 [(4, .int i), (3, .ref a3), (2, .ref (om 0)), (1, .ref (ox 0)), (0, .ref b)] → W p l e room_1 s m #[Value.ref b] below meth c H1 locs1 cells1 slots1 Q (F0 m 1003 ls1 [])) : W p l e room_1 s m #[Value.ref b] below meth c H locs cells slots Q (F0 m 338 ls []) := by
  obtain ⟨hx, hb, hr, hml, hown, hts, hX, hbl, hlocks, hgv⟩ := C0
  obtain ⟨hK, hN, hV, hE1, hE2⟩ := E0
  have hown : s.vm.findClass RL = some m.cls := hown
  have hA : ∀ q : Nat, s.heap.size ≤ q → ALs s q := fun _ h => h
  have hbA : ¬ ALs s b := Nat.not_le.mpr hbl
  obtain ⟨w, τ2, e2, hJ2⟩ := Q_instruction hJ (xs (i + 1).toNatClampNeg) (xs (i + 2).toNatClampNeg)
  refine lv_aload_n hx hb dL_law_338 rfl (lv_at hl 3 rfl) ?_
  refine lv_aload_n hx hb dL_law_339 rfl (lv_at hl 4 rfl) ?_
  refine lv_iload hx hb dL_law_340 (lv_at hl 0 rfl) ?_
  refine lv_iconst (v := 1) hx hb dL_law_342 (by decide) ?_
  refine lv_iadd hx hb dL_law_343 ?_
  refine va_sld hx hb hX hbl hbA hC.2.2 (vp_k hi hi2 hL 1 (by decide +kernel)) dL_law_344 ?_
  refine lv_aload_n hx hb dL_law_345 rfl (lv_at hl 4 rfl) ?_
  refine lv_iload hx hb dL_law_346 (lv_at hl 0 rfl) ?_
  refine lv_iconst (v := 2) hx hb dL_law_348 (by decide) ?_
  refine lv_iadd hx hb dL_law_349 ?_
  refine va_sld hx hb hX hbl hbA hC.2.2 (vp_k hi hi2 hL 2 (by decide +kernel)) dL_law_350 ?_
  refine lv_aload_n hx hb dL_law_351 rfl (lv_at hl 1 rfl) ?_
  have hC : CZ D (ALs s) s H locs (WM y om τ ++ (WXO y ox σ a3 f ++ [])) := by rw [List.append_nil]; exact hC
  have hM := CZ.mid hC
  have hF := frZ hM hA
  refine va_calli (vx_runSW (As := [.ref (ox 0), .int (xs (i + 1).toNatClampNeg), .int (xs (i + 2).toNatClampNeg), .ref a3]) (rest := []) ⟨hx, hb, hml, hown, hts⟩ (l_instruction (D := D) (y := y) (o := ox) (ad := ad) (av := av) (sa := sa1) l hfl hJ.1.1.1.b a3 f _) (vx_cwSW 4 hts lc_51 rfl rfl rfl (by decide +kernel) ⟨Nat.le_of_ble_eq_true rfl, Nat.le_of_ble_eq_true rfl⟩) ⟨blX, prX hK hN hV hE1 hA hM⟩ rfl rfl hl.1 rfl (lv_room (Nat.le_of_ble_eq_true rfl)) dL_law_352 ⟨by show cells + 1 ≤ 601024; omega, by show slots + 6 ≤ 7293034; omega⟩) hM.2.2 (fun q _ h => hF q h) hF (fun r1 f2 t H locs ht hvm hw hB hz1 hk1 hS => ?_)
  subst ht
  have hC := CZ.back hC hA hk1 hB.1 hB.2 hS
  rw [List.append_nil] at hC
  refine lv_istore (lv' := [(5, .int r1), (4, .int i), (3, .ref a3), (2, .ref (om 0)), (1, .ref (ox 0)), (0, .ref b)]) hx hb dL_law_355 hl (by decide) rfl (fun ls hl => ?_)
  refine lv_aload_n hx hb dL_law_357 rfl (lv_at hl 3 rfl) ?_
  refine lv_aload_n hx hb dL_law_358 rfl (lv_at hl 5 rfl) ?_
  refine lv_iload hx hb dL_law_359 (lv_at hl 1 rfl) ?_
  refine lv_iconst (v := 1) hx hb dL_law_361 (by decide) ?_
  refine lv_iadd hx hb dL_law_362 ?_
  refine va_sld hx hb hX hbl hbA hC.2.2 (vp_k hi hi2 hL 1 (by decide +kernel)) dL_law_363 ?_
  refine lv_aload_n hx hb dL_law_364 rfl (lv_at hl 5 rfl) ?_
  refine lv_iload hx hb dL_law_365 (lv_at hl 1 rfl) ?_
  refine lv_iconst (v := 2) hx hb dL_law_367 (by decide) ?_
  refine lv_iadd hx hb dL_law_368 ?_
  refine va_sld hx hb hX hbl hbA hC.2.2 (vp_k hi hi2 hL 2 (by decide +kernel)) dL_law_369 ?_
  have hC : CZ D (ALs s) s _ _ ([] ++ (WM y om τ ++ (WX y ox σ ++ [(a3, .inl (y 3, 1, .inr (.inl f2)))]))) := hC
  have hM := CZ.mid hC
  have hF := frZ hM hA
  refine va_calli (va_runV (As := [.int (xs (i + 1).toNatClampNeg), .int (xs (i + 2).toNatClampNeg)]) (rest := []) ⟨hx, hb, hml, hown, hts⟩ (r_X12_instruction_ (D := D) (y := y) (o := om) (ad := ad) (av := av) e2 l _) (cwV 2 hts lc_56 rfl rfl rfl ⟨rfl, hd_X12_instruction_.1, hd_X12_instruction_.2.1, hd_X12_instruction_.2.2⟩ ⟨Nat.le_of_ble_eq_true rfl, Nat.le_of_ble_eq_true rfl⟩) ⟨blZ, va_recv hK hM.1 (ci := 12) (q0 := 0) rfl rfl, prZ hK hN hV hA hM⟩ rfl rfl hl.1 rfl (lv_room (Nat.le_of_ble_eq_true rfl)) dL_law_370 ⟨by show cells + 1 + 0 ≤ 601024; omega, by show slots + 6 + 0 ≤ 7293034; omega⟩) hM.2.2 (fun q _ h => hF q h) hF (fun r2 u t H locs ht hvm hw hB hz1 hk1 hS => ?_)
  subst ht
  have hC := CZ.back hC hA hk1 hB.1 hB.2 hS
  refine lv_istore (lv' := [(6, .int r2), (5, .int r1), (4, .int i), (3, .ref a3), (2, .ref (om 0)), (1, .ref (ox 0)), (0, .ref b)]) hx hb dL_law_373 hl (by decide) rfl (fun ls hl => ?_)
  refine lv_goto (tgt := 1003) hx hb dL_law_375 (by decide) ?_
  have hC : CZ D (ALs s) s _ _ (LWd y om ox a3 τ2 σ f2) := hC
  exact kk _ _ σ τ2 f2 _ _ _ hJ2 hC (by omega) (by omega) (lv_sub hl [2, 3, 4, 5, 6] rfl)

set_option maxHeartbeats 8000000 in
set_option maxRecDepth 100000 in
theorem law_case_7 {p : Program} {e : Env} {s : State} {m : MethodId} {below : List Frame} {meth : Method} {c : Code} (l : Launch) (hfl : l.stackTraces = false) {b L : Nat} {xs : Nat → Int32} (C0 : lw_At p s m meth c b L xs) {D : va_G} {y : Nat → ClassId} {ad av : Nat → Nat} {sa1 sa2 : Nat} (E0 : LEn D y ad av sa1 sa2 s) {om ox : Nat → Nat} {a3 : Nat} {H : Heap} {locs : List Loc} {cells slots : Nat} {σ τ : Sto} {f : Nat → Int64} (hJ : JT4 σ τ) (hC : CZ D (ALs s) s H locs (LWd y om ox a3 τ σ f)) (hc9 : cells + 1 ≤ 601024) (hs9 : slots + 6 ≤ 7293034) {i : Int32} (hi : 0 ≤ i.toInt) (hi2 : i.toInt + 7 ≤ (L : Int)) (hL : L ≤ 3584) {Q : State → Prop} (ls : Array Slot) (hl : lv_has ls 7 [(4, .int i), (3, .ref a3), (2, .ref (om 0)), (1, .ref (ox 0)), (0, .ref b)]) (kk : ∀ (H1 : Heap) (locs1 : List Loc) (σ1 τ1 : Sto) (f1 : Nat → Int64) (cells1 slots1 : Nat) (ls1 : Array Slot), JT4 σ1 τ1 → CZ D (ALs s) s H1 locs1 (LWd y om ox a3 τ1 σ1 f1) → cells1 ≤ cells + 1 → slots1 ≤ slots + 6 → lv_has ls1 7 [(4, .int i), (3, .ref a3), (2, .ref (om 0)), (1, .ref (ox 0)), (0, .ref b)] → W p l e room_1 s m #[Value.ref b] below meth c H1 locs1 cells1 slots1 Q (F0 m 1003 ls1 [])) : W p l e room_1 s m #[Value.ref b] below meth c H locs cells slots Q (F0 m 378 ls []) := by
  obtain ⟨hx, hb, hr, hml, hown, hts, hX, hbl, hlocks, hgv⟩ := C0
  obtain ⟨hK, hN, hV, hE1, hE2⟩ := E0
  have hown : s.vm.findClass RL = some m.cls := hown
  have hA : ∀ q : Nat, s.heap.size ≤ q → ALs s q := fun _ h => h
  have hbA : ¬ ALs s b := Nat.not_le.mpr hbl
  obtain ⟨w, τ2, e2, hJ2, hZ⟩ := R_block hJ (xs (i + 1).toNatClampNeg) (xs (i + 2).toNatClampNeg)
  refine lv_aload_n hx hb dL_law_378 rfl (lv_at hl 3 rfl) ?_
  refine lv_aload_n hx hb dL_law_379 rfl (lv_at hl 4 rfl) ?_
  refine lv_iload hx hb dL_law_380 (lv_at hl 0 rfl) ?_
  refine lv_iconst (v := 1) hx hb dL_law_382 (by decide) ?_
  refine lv_iadd hx hb dL_law_383 ?_
  refine va_sld hx hb hX hbl hbA hC.2.2 (vp_k hi hi2 hL 1 (by decide +kernel)) dL_law_384 ?_
  refine lv_aload_n hx hb dL_law_385 rfl (lv_at hl 4 rfl) ?_
  refine lv_iload hx hb dL_law_386 (lv_at hl 0 rfl) ?_
  refine lv_iconst (v := 2) hx hb dL_law_388 (by decide) ?_
  refine lv_iadd hx hb dL_law_389 ?_
  refine va_sld hx hb hX hbl hbA hC.2.2 (vp_k hi hi2 hL 2 (by decide +kernel)) dL_law_390 ?_
  refine lv_aload_n hx hb dL_law_391 rfl (lv_at hl 1 rfl) ?_
  have hC : CZ D (ALs s) s H locs (WM y om τ ++ (WXO y ox σ a3 f ++ [])) := by rw [List.append_nil]; exact hC
  have hM := CZ.mid hC
  have hF := frZ hM hA
  refine va_calli (vx_runSW (As := [.ref (ox 0), .int (xs (i + 1).toNatClampNeg), .int (xs (i + 2).toNatClampNeg), .ref a3]) (rest := []) ⟨hx, hb, hml, hown, hts⟩ (l_block (D := D) (y := y) (o := ox) (ad := ad) (av := av) (sa := sa2) l hfl hJ.1.1.1.b a3 f _) (vx_cwSW 4 hts lc_57 rfl rfl rfl (by decide +kernel) ⟨Nat.le_of_ble_eq_true rfl, Nat.le_of_ble_eq_true rfl⟩) ⟨blX, prX hK hN hV hE2 hA hM⟩ rfl rfl hl.1 rfl (lv_room (Nat.le_of_ble_eq_true rfl)) dL_law_392 ⟨by show cells + 1 ≤ 601024; omega, by show slots + 6 ≤ 7293034; omega⟩) hM.2.2 (fun q _ h => hF q h) hF (fun r1 f2 t H locs ht hvm hw hB hz1 hk1 hS => ?_)
  subst ht
  have hC := CZ.back hC hA hk1 hB.1 hB.2 hS
  rw [List.append_nil] at hC
  have hP1 := hw
  refine lv_istore (lv' := [(5, .int r1), (4, .int i), (3, .ref a3), (2, .ref (om 0)), (1, .ref (ox 0)), (0, .ref b)]) hx hb dL_law_395 hl (by decide) rfl (fun ls hl => ?_)
  refine lv_aload_n hx hb dL_law_397 rfl (lv_at hl 3 rfl) ?_
  refine lv_aload_n hx hb dL_law_398 rfl (lv_at hl 5 rfl) ?_
  refine lv_iload hx hb dL_law_399 (lv_at hl 1 rfl) ?_
  refine lv_iconst (v := 1) hx hb dL_law_401 (by decide) ?_
  refine lv_iadd hx hb dL_law_402 ?_
  refine va_sld hx hb hX hbl hbA hC.2.2 (vp_k hi hi2 hL 1 (by decide +kernel)) dL_law_403 ?_
  refine lv_aload_n hx hb dL_law_404 rfl (lv_at hl 5 rfl) ?_
  refine lv_iload hx hb dL_law_405 (lv_at hl 1 rfl) ?_
  refine lv_iconst (v := 2) hx hb dL_law_407 (by decide) ?_
  refine lv_iadd hx hb dL_law_408 ?_
  refine va_sld hx hb hX hbl hbA hC.2.2 (vp_k hi hi2 hL 2 (by decide +kernel)) dL_law_409 ?_
  have hC : CZ D (ALs s) s _ _ ([] ++ (WM y om τ ++ (WX y ox σ ++ [(a3, .inl (y 3, 1, .inr (.inl f2)))]))) := hC
  have hM := CZ.mid hC
  have hF := frZ hM hA
  refine va_calli (va_runV (As := [.int (xs (i + 1).toNatClampNeg), .int (xs (i + 2).toNatClampNeg)]) (rest := []) ⟨hx, hb, hml, hown, hts⟩ (r_X12_block (D := D) (y := y) (o := om) (ad := ad) (av := av) e2 l _) (cwV 2 hts lc_59 rfl rfl rfl ⟨rfl, hd_X12_block.1, hd_X12_block.2.1, hd_X12_block.2.2⟩ ⟨Nat.le_of_ble_eq_true rfl, Nat.le_of_ble_eq_true rfl⟩) ⟨blZ, va_recv hK hM.1 (ci := 12) (q0 := 0) rfl rfl, prZ hK hN hV hA hM⟩ rfl rfl hl.1 rfl (lv_room (Nat.le_of_ble_eq_true rfl)) dL_law_410 ⟨by show cells + 1 + 0 ≤ 601024; omega, by show slots + 6 + 0 ≤ 7293034; omega⟩) hM.2.2 (fun q _ h => hF q h) hF (fun r2 u t H locs ht hvm hw hB hz1 hk1 hS => ?_)
  subst ht
  have hC := CZ.back hC hA hk1 hB.1 hB.2 hS
  have hw2 := hw
  refine lv_istore (lv' := [(6, .int r2), (5, .int r1), (4, .int i), (3, .ref a3), (2, .ref (om 0)), (1, .ref (ox 0)), (0, .ref b)]) hx hb dL_law_413 hl (by decide) rfl (fun ls hl => ?_)
  refine lv_aload_n hx hb dL_law_415 rfl (lv_at hl 4 rfl) ?_
  have hC : CZ D (ALs s) s _ _ ([] ++ (WM y om τ2 ++ (WX y ox σ ++ [(a3, .inl (y 3, 1, .inr (.inl f2)))]))) := hC
  have hM := CZ.mid hC
  have hF := frZ hM hA
  refine va_calli (va_runV (As := []) (rest := []) ⟨hx, hb, hml, hown, hts⟩ (r_X12_thrown (D := D) (y := y) (o := om) (ad := ad) (av := av) (rfl : f_X12_thrown τ2 = some (τ2.1 0 0)) l _) (cwV 0 hts lc_60 rfl rfl rfl ⟨rfl, hd_X12_thrown.1, hd_X12_thrown.2.1, hd_X12_thrown.2.2⟩ ⟨Nat.le_of_ble_eq_true rfl, Nat.le_of_ble_eq_true rfl⟩) ⟨blZ, va_recv hK hM.1 (ci := 12) (q0 := 0) rfl rfl, prZ hK hN hV hA hM⟩ rfl rfl hl.1 rfl (lv_room (Nat.le_of_ble_eq_true rfl)) dL_law_416 ⟨by show cells + 1 + 0 + 0 ≤ 601024; omega, by show slots + 6 + 0 + 0 ≤ 7293034; omega⟩) hM.2.2 (fun q _ h => hF q h) hF (fun r3 u t H locs ht hvm hw hB hz1 hk1 hS => ?_)
  subst ht
  have hC := CZ.back hC hA hk1 hB.1 hB.2 hS
  refine lv_iload hx hb dL_law_419 (lv_at hl 1 rfl) ?_
  have h13 : r3 = r1 := by
    rw [hw]
    rcases hP1 with ⟨p1, p2, _⟩ | ⟨p1, p2⟩
    · rcases hZ with ⟨_, z2, _⟩ | ⟨z1, _⟩
      · rw [p2]; exact Int32.toInt_inj.mp (by rw [z2]; decide +kernel)
      · exact absurd p1 z1
    · rcases hZ with ⟨z1, _, _⟩ | ⟨_, z2⟩
      · exact absurd z1 p1
      · rw [p2]; exact Int32.toInt_inj.mp (by rw [z2]; decide +kernel)
  refine lv_icmp_eq (tgt := 426) hx hb dL_law_421 (by decide) (fun _ => ?_) (fun c9 => absurd h13 c9)
  refine lv_iload hx hb dL_law_426 (lv_at hl 1 rfl) ?_
  refine lv_if_ne (tgt := 443) hx hb dL_law_428 (by decide) (fun c1 => ?_) (fun c1 => ?_)
  · refine lv_goto (tgt := 1003) hx hb dL_law_443 (by decide) ?_
    have hC : CZ D (ALs s) s _ _ (LWd y om ox a3 τ2 σ f2) := hC
    exact kk _ _ σ τ2 f2 _ _ _ hJ2 hC (by omega) (by omega) (lv_sub hl [2, 3, 4, 5, 6] rfl)
  · refine lv_aload_n hx hb dL_law_431 rfl (lv_at hl 3 rfl) ?_
    refine lv_iconst (v := 0) hx hb dL_law_432 (by decide) ?_
    have e9 : ∀ z : Nat × va_E, (WM y om τ2 ++ (WX y ox σ ++ [z])) = ((WM y om τ2 ++ WX y ox σ) ++ ([z] ++ [])) := fun z => by rw [List.append_nil, List.append_assoc]
    have hC9 := (show CZ D (ALs s) s _ _ (WM y om τ2 ++ (WX y ox σ ++ [(a3, .inl (y 3, 1, .inr (.inl f2)))])) from hC)
    rw [e9] at hC9
    have hM9 := (CZ.mid hC9).1
    refine va_lald hx hb hK hM9 0 3 rfl rfl (by unfold vp_in; decide) dL_law_433 ?_
    refine lv_iload hx hb dL_law_434 (lv_at hl 0 rfl) ?_
    refine lv_i2l hx hb dL_law_436 rfl ?_
    refine W.lcmp hx hb dL_law_437 ?_
    have c00 : (0 : Int32).toNatClampNeg = 0 := by decide +kernel
    have hrr : f2 (0 : Int32).toNatClampNeg = r2.toInt64 := by
      rw [c00]
      rcases hP1 with ⟨p1, p2, v9, p3, p4⟩ | ⟨_, p2⟩
      · rcases hZ with ⟨_, _, z3⟩ | ⟨z1, _⟩
        · rw [z3] at p3
          rw [p4, ← Option.some.inj p3, hw2]
        · exact absurd p1 z1
      · rw [c1] at p2
        exact absurd p2 (by decide)
    refine lv_if_eq (tgt := 443) hx hb dL_law_438 (by decide) (fun _ => ?_) (fun c9 => absurd ((lg_cmp_eq _ _).mpr hrr) c9)
    refine lv_goto (tgt := 1003) hx hb dL_law_443 (by decide) ?_
    have hC : CZ D (ALs s) s _ _ (LWd y om ox a3 τ2 σ f2) := hC
    exact kk _ _ σ τ2 f2 _ _ _ hJ2 hC (by omega) (by omega) (lv_sub hl [2, 3, 4, 5, 6] rfl)

set_option maxHeartbeats 8000000 in
set_option maxRecDepth 100000 in
theorem law_case_8 {p : Program} {e : Env} {s : State} {m : MethodId} {below : List Frame} {meth : Method} {c : Code} (l : Launch) (hfl : l.stackTraces = false) {b L : Nat} {xs : Nat → Int32} (C0 : lw_At p s m meth c b L xs) {D : va_G} {y : Nat → ClassId} {ad av : Nat → Nat} {sa1 sa2 : Nat} (E0 : LEn D y ad av sa1 sa2 s) {om ox : Nat → Nat} {a3 : Nat} {H : Heap} {locs : List Loc} {cells slots : Nat} {σ τ : Sto} {f : Nat → Int64} (hJ : JT4 σ τ) (hC : CZ D (ALs s) s H locs (LWd y om ox a3 τ σ f)) (hc9 : cells + 1 ≤ 601024) (hs9 : slots + 6 ≤ 7293034) {i : Int32} (hi : 0 ≤ i.toInt) (hi2 : i.toInt + 7 ≤ (L : Int)) (hL : L ≤ 3584) {Q : State → Prop} (ls : Array Slot) (hl : lv_has ls 7 [(4, .int i), (3, .ref a3), (2, .ref (om 0)), (1, .ref (ox 0)), (0, .ref b)]) (kk : ∀ (H1 : Heap) (locs1 : List Loc) (σ1 τ1 : Sto) (f1 : Nat → Int64) (cells1 slots1 : Nat) (ls1 : Array Slot), JT4 σ1 τ1 → CZ D (ALs s) s H1 locs1 (LWd y om ox a3 τ1 σ1 f1) → cells1 ≤ cells + 1 → slots1 ≤ slots + 6 → lv_has ls1 7 [(4, .int i), (3, .ref a3), (2, .ref (om 0)), (1, .ref (ox 0)), (0, .ref b)] → W p l e room_1 s m #[Value.ref b] below meth c H1 locs1 cells1 slots1 Q (F0 m 1003 ls1 [])) : W p l e room_1 s m #[Value.ref b] below meth c H locs cells slots Q (F0 m 446 ls []) := by
  obtain ⟨hx, hb, hr, hml, hown, hts, hX, hbl, hlocks, hgv⟩ := C0
  obtain ⟨hK, hN, hV, hE1, hE2⟩ := E0
  have hown : s.vm.findClass RL = some m.cls := hown
  have hA : ∀ q : Nat, s.heap.size ≤ q → ALs s q := fun _ h => h
  have hbA : ¬ ALs s b := Nat.not_le.mpr hbl
  obtain ⟨v, w, τ2, e1, e2, hJ2⟩ := Q_edge hJ (xs (i + 1).toNatClampNeg) (xs (i + 2).toNatClampNeg)
  refine lv_aload_n hx hb dL_law_446 rfl (lv_at hl 3 rfl) ?_
  refine lv_aload_n hx hb dL_law_447 rfl (lv_at hl 4 rfl) ?_
  refine lv_iload hx hb dL_law_448 (lv_at hl 0 rfl) ?_
  refine lv_iconst (v := 1) hx hb dL_law_450 (by decide) ?_
  refine lv_iadd hx hb dL_law_451 ?_
  refine va_sld hx hb hX hbl hbA hC.2.2 (vp_k hi hi2 hL 1 (by decide +kernel)) dL_law_452 ?_
  refine lv_aload_n hx hb dL_law_453 rfl (lv_at hl 4 rfl) ?_
  refine lv_iload hx hb dL_law_454 (lv_at hl 0 rfl) ?_
  refine lv_iconst (v := 2) hx hb dL_law_456 (by decide) ?_
  refine lv_iadd hx hb dL_law_457 ?_
  refine va_sld hx hb hX hbl hbA hC.2.2 (vp_k hi hi2 hL 2 (by decide +kernel)) dL_law_458 ?_
  have hC : CZ D (ALs s) s _ _ (WM y om τ ++ (WX y ox σ ++ [(a3, .inl (y 3, 1, .inr (.inl f)))])) := hC
  have hM := CZ.mid hC
  have hF := frZ hM hA
  refine va_calli (va_runV (As := [.int (xs (i + 1).toNatClampNeg), .int (xs (i + 2).toNatClampNeg)]) (rest := []) ⟨hx, hb, hml, hown, hts⟩ (r_X11_edge (D := D) (y := y) (o := ox) (ad := ad) (av := av) e1 l _) (cwV 2 hts lc_63 rfl rfl rfl ⟨rfl, hd_X11_edge.1, hd_X11_edge.2.1, hd_X11_edge.2.2⟩ ⟨Nat.le_of_ble_eq_true rfl, Nat.le_of_ble_eq_true rfl⟩) ⟨blZ, va_recv hK hM.1 (ci := 11) (q0 := 0) rfl rfl, prZ hK hN hV hA hM⟩ rfl rfl hl.1 rfl (lv_room (Nat.le_of_ble_eq_true rfl)) dL_law_459 ⟨by show cells + 0 ≤ 601024; omega, by show slots + 0 ≤ 7293034; omega⟩) hM.2.2 (fun q _ h => hF q h) hF (fun r1 u t H locs ht hvm hw hB hz1 hk1 hS => ?_)
  subst ht
  have hC := CZ.back hC hA hk1 hB.1 hB.2 hS
  refine lv_pop hx hb dL_law_462 rfl ?_
  refine lv_aload_n hx hb dL_law_463 rfl (lv_at hl 2 rfl) ?_
  refine lv_aload_n hx hb dL_law_464 rfl (lv_at hl 4 rfl) ?_
  refine lv_iload hx hb dL_law_465 (lv_at hl 0 rfl) ?_
  refine lv_iconst (v := 1) hx hb dL_law_467 (by decide) ?_
  refine lv_iadd hx hb dL_law_468 ?_
  refine va_sld hx hb hX hbl hbA hC.2.2 (vp_k hi hi2 hL 1 (by decide +kernel)) dL_law_469 ?_
  refine lv_aload_n hx hb dL_law_470 rfl (lv_at hl 4 rfl) ?_
  refine lv_iload hx hb dL_law_471 (lv_at hl 0 rfl) ?_
  refine lv_iconst (v := 2) hx hb dL_law_473 (by decide) ?_
  refine lv_iadd hx hb dL_law_474 ?_
  refine va_sld hx hb hX hbl hbA hC.2.2 (vp_k hi hi2 hL 2 (by decide +kernel)) dL_law_475 ?_
  have hC : CZ D (ALs s) s _ _ ([] ++ (WM y om τ ++ (WX y ox σ ++ [(a3, .inl (y 3, 1, .inr (.inl f)))]))) := hC
  have hM := CZ.mid hC
  have hF := frZ hM hA
  refine va_calli (va_runV (As := [.int (xs (i + 1).toNatClampNeg), .int (xs (i + 2).toNatClampNeg)]) (rest := []) ⟨hx, hb, hml, hown, hts⟩ (r_X12_edge (D := D) (y := y) (o := om) (ad := ad) (av := av) e2 l _) (cwV 2 hts lc_66 rfl rfl rfl ⟨rfl, hd_X12_edge.1, hd_X12_edge.2.1, hd_X12_edge.2.2⟩ ⟨Nat.le_of_ble_eq_true rfl, Nat.le_of_ble_eq_true rfl⟩) ⟨blZ, va_recv hK hM.1 (ci := 12) (q0 := 0) rfl rfl, prZ hK hN hV hA hM⟩ rfl rfl hl.1 rfl (lv_room (Nat.le_of_ble_eq_true rfl)) dL_law_476 ⟨by show cells + 0 + 0 ≤ 601024; omega, by show slots + 0 + 0 ≤ 7293034; omega⟩) hM.2.2 (fun q _ h => hF q h) hF (fun r2 u t H locs ht hvm hw hB hz1 hk1 hS => ?_)
  subst ht
  have hC := CZ.back hC hA hk1 hB.1 hB.2 hS
  refine lv_pop hx hb dL_law_479 rfl ?_
  refine lv_goto (tgt := 1003) hx hb dL_law_480 (by decide) ?_
  have hC : CZ D (ALs s) s _ _ (LWd y om ox a3 τ2 σ f) := hC
  exact kk _ _ σ τ2 f _ _ _ hJ2 hC (by omega) (by omega) hl

set_option maxHeartbeats 8000000 in
set_option maxRecDepth 100000 in
theorem law_case_9 {p : Program} {e : Env} {s : State} {m : MethodId} {below : List Frame} {meth : Method} {c : Code} (l : Launch) (hfl : l.stackTraces = false) {b L : Nat} {xs : Nat → Int32} (C0 : lw_At p s m meth c b L xs) {D : va_G} {y : Nat → ClassId} {ad av : Nat → Nat} {sa1 sa2 : Nat} (E0 : LEn D y ad av sa1 sa2 s) {om ox : Nat → Nat} {a3 : Nat} {H : Heap} {locs : List Loc} {cells slots : Nat} {σ τ : Sto} {f : Nat → Int64} (hJ : JT4 σ τ) (hC : CZ D (ALs s) s H locs (LWd y om ox a3 τ σ f)) (hc9 : cells + 1 ≤ 601024) (hs9 : slots + 6 ≤ 7293034) {i : Int32} (hi : 0 ≤ i.toInt) (hi2 : i.toInt + 7 ≤ (L : Int)) (hL : L ≤ 3584) {Q : State → Prop} (ls : Array Slot) (hl : lv_has ls 7 [(4, .int i), (3, .ref a3), (2, .ref (om 0)), (1, .ref (ox 0)), (0, .ref b)]) (kk : ∀ (H1 : Heap) (locs1 : List Loc) (σ1 τ1 : Sto) (f1 : Nat → Int64) (cells1 slots1 : Nat) (ls1 : Array Slot), JT4 σ1 τ1 → CZ D (ALs s) s H1 locs1 (LWd y om ox a3 τ1 σ1 f1) → cells1 ≤ cells + 1 → slots1 ≤ slots + 6 → lv_has ls1 7 [(4, .int i), (3, .ref a3), (2, .ref (om 0)), (1, .ref (ox 0)), (0, .ref b)] → W p l e room_1 s m #[Value.ref b] below meth c H1 locs1 cells1 slots1 Q (F0 m 1003 ls1 [])) : W p l e room_1 s m #[Value.ref b] below meth c H locs cells slots Q (F0 m 483 ls []) := by
  obtain ⟨hx, hb, hr, hml, hown, hts, hX, hbl, hlocks, hgv⟩ := C0
  obtain ⟨hK, hN, hV, hE1, hE2⟩ := E0
  have hown : s.vm.findClass RL = some m.cls := hown
  have hA : ∀ q : Nat, s.heap.size ≤ q → ALs s q := fun _ h => h
  have hbA : ¬ ALs s b := Nat.not_le.mpr hbl
  obtain ⟨v, w, τ2, e1, e2, hJ2⟩ := Q_dominates hJ (xs (i + 1).toNatClampNeg) (xs (i + 2).toNatClampNeg)
  refine lv_aload_n hx hb dL_law_483 rfl (lv_at hl 3 rfl) ?_
  refine lv_aload_n hx hb dL_law_484 rfl (lv_at hl 4 rfl) ?_
  refine lv_iload hx hb dL_law_485 (lv_at hl 0 rfl) ?_
  refine lv_iconst (v := 1) hx hb dL_law_487 (by decide) ?_
  refine lv_iadd hx hb dL_law_488 ?_
  refine va_sld hx hb hX hbl hbA hC.2.2 (vp_k hi hi2 hL 1 (by decide +kernel)) dL_law_489 ?_
  refine lv_aload_n hx hb dL_law_490 rfl (lv_at hl 4 rfl) ?_
  refine lv_iload hx hb dL_law_491 (lv_at hl 0 rfl) ?_
  refine lv_iconst (v := 2) hx hb dL_law_493 (by decide) ?_
  refine lv_iadd hx hb dL_law_494 ?_
  refine va_sld hx hb hX hbl hbA hC.2.2 (vp_k hi hi2 hL 2 (by decide +kernel)) dL_law_495 ?_
  have hC : CZ D (ALs s) s _ _ (WM y om τ ++ (WX y ox σ ++ [(a3, .inl (y 3, 1, .inr (.inl f)))])) := hC
  have hM := CZ.mid hC
  have hF := frZ hM hA
  refine va_calli (va_runV (As := [.int (xs (i + 1).toNatClampNeg), .int (xs (i + 2).toNatClampNeg)]) (rest := []) ⟨hx, hb, hml, hown, hts⟩ (r_X11_dominates (D := D) (y := y) (o := ox) (ad := ad) (av := av) e1 l _) (cwV 2 hts lc_67 rfl rfl rfl ⟨rfl, hd_X11_dominates.1, hd_X11_dominates.2.1, hd_X11_dominates.2.2⟩ ⟨Nat.le_of_ble_eq_true rfl, Nat.le_of_ble_eq_true rfl⟩) ⟨blZ, va_recv hK hM.1 (ci := 11) (q0 := 0) rfl rfl, prZ hK hN hV hA hM⟩ rfl rfl hl.1 rfl (lv_room (Nat.le_of_ble_eq_true rfl)) dL_law_496 ⟨by show cells + 0 ≤ 601024; omega, by show slots + 0 ≤ 7293034; omega⟩) hM.2.2 (fun q _ h => hF q h) hF (fun r1 u t H locs ht hvm hw hB hz1 hk1 hS => ?_)
  subst ht
  have hC := CZ.back hC hA hk1 hB.1 hB.2 hS
  refine lv_pop hx hb dL_law_499 rfl ?_
  refine lv_aload_n hx hb dL_law_500 rfl (lv_at hl 2 rfl) ?_
  refine lv_aload_n hx hb dL_law_501 rfl (lv_at hl 4 rfl) ?_
  refine lv_iload hx hb dL_law_502 (lv_at hl 0 rfl) ?_
  refine lv_iconst (v := 1) hx hb dL_law_504 (by decide) ?_
  refine lv_iadd hx hb dL_law_505 ?_
  refine va_sld hx hb hX hbl hbA hC.2.2 (vp_k hi hi2 hL 1 (by decide +kernel)) dL_law_506 ?_
  refine lv_aload_n hx hb dL_law_507 rfl (lv_at hl 4 rfl) ?_
  refine lv_iload hx hb dL_law_508 (lv_at hl 0 rfl) ?_
  refine lv_iconst (v := 2) hx hb dL_law_510 (by decide) ?_
  refine lv_iadd hx hb dL_law_511 ?_
  refine va_sld hx hb hX hbl hbA hC.2.2 (vp_k hi hi2 hL 2 (by decide +kernel)) dL_law_512 ?_
  have hC : CZ D (ALs s) s _ _ ([] ++ (WM y om τ ++ (WX y ox σ ++ [(a3, .inl (y 3, 1, .inr (.inl f)))]))) := hC
  have hM := CZ.mid hC
  have hF := frZ hM hA
  refine va_calli (va_runV (As := [.int (xs (i + 1).toNatClampNeg), .int (xs (i + 2).toNatClampNeg)]) (rest := []) ⟨hx, hb, hml, hown, hts⟩ (r_X12_dominates (D := D) (y := y) (o := om) (ad := ad) (av := av) e2 l _) (cwV 2 hts lc_71 rfl rfl rfl ⟨rfl, hd_X12_dominates.1, hd_X12_dominates.2.1, hd_X12_dominates.2.2⟩ ⟨Nat.le_of_ble_eq_true rfl, Nat.le_of_ble_eq_true rfl⟩) ⟨blZ, va_recv hK hM.1 (ci := 12) (q0 := 0) rfl rfl, prZ hK hN hV hA hM⟩ rfl rfl hl.1 rfl (lv_room (Nat.le_of_ble_eq_true rfl)) dL_law_513 ⟨by show cells + 0 + 0 ≤ 601024; omega, by show slots + 0 + 0 ≤ 7293034; omega⟩) hM.2.2 (fun q _ h => hF q h) hF (fun r2 u t H locs ht hvm hw hB hz1 hk1 hS => ?_)
  subst ht
  have hC := CZ.back hC hA hk1 hB.1 hB.2 hS
  refine lv_pop hx hb dL_law_516 rfl ?_
  refine lv_goto (tgt := 1003) hx hb dL_law_517 (by decide) ?_
  have hC : CZ D (ALs s) s _ _ (LWd y om ox a3 τ2 σ f) := hC
  exact kk _ _ σ τ2 f _ _ _ hJ2 hC (by omega) (by omega) hl

set_option maxHeartbeats 8000000 in
set_option maxRecDepth 100000 in
theorem law_case_10 {p : Program} {e : Env} {s : State} {m : MethodId} {below : List Frame} {meth : Method} {c : Code} (l : Launch) (hfl : l.stackTraces = false) {b L : Nat} {xs : Nat → Int32} (C0 : lw_At p s m meth c b L xs) {D : va_G} {y : Nat → ClassId} {ad av : Nat → Nat} {sa1 sa2 : Nat} (E0 : LEn D y ad av sa1 sa2 s) {om ox : Nat → Nat} {a3 : Nat} {H : Heap} {locs : List Loc} {cells slots : Nat} {σ τ : Sto} {f : Nat → Int64} (hJ : JT4 σ τ) (hC : CZ D (ALs s) s H locs (LWd y om ox a3 τ σ f)) (hc9 : cells + 1 ≤ 601024) (hs9 : slots + 6 ≤ 7293034) {i : Int32} (hi : 0 ≤ i.toInt) (hi2 : i.toInt + 7 ≤ (L : Int)) (hL : L ≤ 3584) {Q : State → Prop} (ls : Array Slot) (hl : lv_has ls 7 [(4, .int i), (3, .ref a3), (2, .ref (om 0)), (1, .ref (ox 0)), (0, .ref b)]) (kk : ∀ (H1 : Heap) (locs1 : List Loc) (σ1 τ1 : Sto) (f1 : Nat → Int64) (cells1 slots1 : Nat) (ls1 : Array Slot), JT4 σ1 τ1 → CZ D (ALs s) s H1 locs1 (LWd y om ox a3 τ1 σ1 f1) → cells1 ≤ cells + 1 → slots1 ≤ slots + 6 → lv_has ls1 7 [(4, .int i), (3, .ref a3), (2, .ref (om 0)), (1, .ref (ox 0)), (0, .ref b)] → W p l e room_1 s m #[Value.ref b] below meth c H1 locs1 cells1 slots1 Q (F0 m 1003 ls1 [])) : W p l e room_1 s m #[Value.ref b] below meth c H locs cells slots Q (F0 m 520 ls []) := by
  obtain ⟨hx, hb, hr, hml, hown, hts, hX, hbl, hlocks, hgv⟩ := C0
  obtain ⟨hK, hN, hV, hE1, hE2⟩ := E0
  have hown : s.vm.findClass RL = some m.cls := hown
  have hA : ∀ q : Nat, s.heap.size ≤ q → ALs s q := fun _ h => h
  have hbA : ¬ ALs s b := Nat.not_le.mpr hbl
  obtain ⟨v, w, τ2, e1, e2, hJ2⟩ := Q_loop hJ (xs (i + 1).toNatClampNeg)
  refine lv_aload_n hx hb dL_law_520 rfl (lv_at hl 3 rfl) ?_
  refine lv_aload_n hx hb dL_law_521 rfl (lv_at hl 4 rfl) ?_
  refine lv_iload hx hb dL_law_522 (lv_at hl 0 rfl) ?_
  refine lv_iconst (v := 1) hx hb dL_law_524 (by decide) ?_
  refine lv_iadd hx hb dL_law_525 ?_
  refine va_sld hx hb hX hbl hbA hC.2.2 (vp_k hi hi2 hL 1 (by decide +kernel)) dL_law_526 ?_
  have hC : CZ D (ALs s) s _ _ (WM y om τ ++ (WX y ox σ ++ [(a3, .inl (y 3, 1, .inr (.inl f)))])) := hC
  have hM := CZ.mid hC
  have hF := frZ hM hA
  refine va_calll (va_runV (As := [.int (xs (i + 1).toNatClampNeg)]) (rest := []) ⟨hx, hb, hml, hown, hts⟩ (r_X11_loop (D := D) (y := y) (o := ox) (ad := ad) (av := av) e1 l _) (cwV 1 hts lc_72 rfl rfl rfl ⟨rfl, hd_X11_loop.1, hd_X11_loop.2.1, hd_X11_loop.2.2⟩ ⟨Nat.le_of_ble_eq_true rfl, Nat.le_of_ble_eq_true rfl⟩) ⟨blZ, va_recv hK hM.1 (ci := 11) (q0 := 0) rfl rfl, prZ hK hN hV hA hM⟩ rfl rfl hl.1 rfl (lv_room (Nat.le_of_ble_eq_true rfl)) dL_law_527 ⟨by show cells + 0 ≤ 601024; omega, by show slots + 0 ≤ 7293034; omega⟩) hM.2.2 (fun q _ h => hF q h) hF (fun r1 u t H locs ht hvm hw hB hz1 hk1 hS => ?_)
  subst ht
  have hC := CZ.back hC hA hk1 hB.1 hB.2 hS
  refine lv_pop2_2 hx hb dL_law_530 rfl ?_
  refine lv_aload_n hx hb dL_law_531 rfl (lv_at hl 2 rfl) ?_
  refine lv_aload_n hx hb dL_law_532 rfl (lv_at hl 4 rfl) ?_
  refine lv_iload hx hb dL_law_533 (lv_at hl 0 rfl) ?_
  refine lv_iconst (v := 1) hx hb dL_law_535 (by decide) ?_
  refine lv_iadd hx hb dL_law_536 ?_
  refine va_sld hx hb hX hbl hbA hC.2.2 (vp_k hi hi2 hL 1 (by decide +kernel)) dL_law_537 ?_
  have hC : CZ D (ALs s) s _ _ ([] ++ (WM y om τ ++ (WX y ox σ ++ [(a3, .inl (y 3, 1, .inr (.inl f)))]))) := hC
  have hM := CZ.mid hC
  have hF := frZ hM hA
  refine va_calll (va_runV (As := [.int (xs (i + 1).toNatClampNeg)]) (rest := []) ⟨hx, hb, hml, hown, hts⟩ (r_X12_loop (D := D) (y := y) (o := om) (ad := ad) (av := av) e2 l _) (cwV 1 hts lc_76 rfl rfl rfl ⟨rfl, hd_X12_loop.1, hd_X12_loop.2.1, hd_X12_loop.2.2⟩ ⟨Nat.le_of_ble_eq_true rfl, Nat.le_of_ble_eq_true rfl⟩) ⟨blZ, va_recv hK hM.1 (ci := 12) (q0 := 0) rfl rfl, prZ hK hN hV hA hM⟩ rfl rfl hl.1 rfl (lv_room (Nat.le_of_ble_eq_true rfl)) dL_law_538 ⟨by show cells + 0 + 0 ≤ 601024; omega, by show slots + 0 + 0 ≤ 7293034; omega⟩) hM.2.2 (fun q _ h => hF q h) hF (fun r2 u t H locs ht hvm hw hB hz1 hk1 hS => ?_)
  subst ht
  have hC := CZ.back hC hA hk1 hB.1 hB.2 hS
  refine lv_pop2_2 hx hb dL_law_541 rfl ?_
  refine lv_goto (tgt := 1003) hx hb dL_law_542 (by decide) ?_
  have hC : CZ D (ALs s) s _ _ (LWd y om ox a3 τ2 σ f) := hC
  exact kk _ _ σ τ2 f _ _ _ hJ2 hC (by omega) (by omega) hl

set_option maxHeartbeats 8000000 in
set_option maxRecDepth 100000 in
theorem law_case_11 {p : Program} {e : Env} {s : State} {m : MethodId} {below : List Frame} {meth : Method} {c : Code} (l : Launch) (hfl : l.stackTraces = false) {b L : Nat} {xs : Nat → Int32} (C0 : lw_At p s m meth c b L xs) {D : va_G} {y : Nat → ClassId} {ad av : Nat → Nat} {sa1 sa2 : Nat} (E0 : LEn D y ad av sa1 sa2 s) {om ox : Nat → Nat} {a3 : Nat} {H : Heap} {locs : List Loc} {cells slots : Nat} {σ τ : Sto} {f : Nat → Int64} (hJ : JT4 σ τ) (hC : CZ D (ALs s) s H locs (LWd y om ox a3 τ σ f)) (hc9 : cells + 1 ≤ 601024) (hs9 : slots + 6 ≤ 7293034) {i : Int32} (hi : 0 ≤ i.toInt) (hi2 : i.toInt + 7 ≤ (L : Int)) (hL : L ≤ 3584) {Q : State → Prop} (ls : Array Slot) (hl : lv_has ls 7 [(4, .int i), (3, .ref a3), (2, .ref (om 0)), (1, .ref (ox 0)), (0, .ref b)]) (kk : ∀ (H1 : Heap) (locs1 : List Loc) (σ1 τ1 : Sto) (f1 : Nat → Int64) (cells1 slots1 : Nat) (ls1 : Array Slot), JT4 σ1 τ1 → CZ D (ALs s) s H1 locs1 (LWd y om ox a3 τ1 σ1 f1) → cells1 ≤ cells + 1 → slots1 ≤ slots + 6 → lv_has ls1 7 [(4, .int i), (3, .ref a3), (2, .ref (om 0)), (1, .ref (ox 0)), (0, .ref b)] → W p l e room_1 s m #[Value.ref b] below meth c H1 locs1 cells1 slots1 Q (F0 m 1003 ls1 [])) : W p l e room_1 s m #[Value.ref b] below meth c H locs cells slots Q (F0 m 545 ls []) := by
  obtain ⟨hx, hb, hr, hml, hown, hts, hX, hbl, hlocks, hgv⟩ := C0
  obtain ⟨hK, hN, hV, hE1, hE2⟩ := E0
  have hown : s.vm.findClass RL = some m.cls := hown
  have hA : ∀ q : Nat, s.heap.size ≤ q → ALs s q := fun _ h => h
  have hbA : ¬ ALs s b := Nat.not_le.mpr hbl
  obtain ⟨v, σ2, w, τ2, e1, e2, hJ2⟩ := Q_statement hJ (xs (i + 1).toNatClampNeg) (xs (i + 2).toNatClampNeg) (xs (i + 3).toNatClampNeg)
  refine lv_aload_n hx hb dL_law_545 rfl (lv_at hl 3 rfl) ?_
  refine lv_aload_n hx hb dL_law_546 rfl (lv_at hl 4 rfl) ?_
  refine lv_iload hx hb dL_law_547 (lv_at hl 0 rfl) ?_
  refine lv_iconst (v := 1) hx hb dL_law_549 (by decide) ?_
  refine lv_iadd hx hb dL_law_550 ?_
  refine va_sld hx hb hX hbl hbA hC.2.2 (vp_k hi hi2 hL 1 (by decide +kernel)) dL_law_551 ?_
  refine lv_aload_n hx hb dL_law_552 rfl (lv_at hl 4 rfl) ?_
  refine lv_iload hx hb dL_law_553 (lv_at hl 0 rfl) ?_
  refine lv_iconst (v := 2) hx hb dL_law_555 (by decide) ?_
  refine lv_iadd hx hb dL_law_556 ?_
  refine va_sld hx hb hX hbl hbA hC.2.2 (vp_k hi hi2 hL 2 (by decide +kernel)) dL_law_557 ?_
  refine lv_aload_n hx hb dL_law_558 rfl (lv_at hl 4 rfl) ?_
  refine lv_iload hx hb dL_law_559 (lv_at hl 0 rfl) ?_
  refine lv_iconst (v := 3) hx hb dL_law_561 (by decide) ?_
  refine lv_iadd hx hb dL_law_562 ?_
  refine va_sld hx hb hX hbl hbA hC.2.2 (vp_k hi hi2 hL 3 (by decide +kernel)) dL_law_563 ?_
  have hC : CZ D (ALs s) s _ _ (WM y om τ ++ (WX y ox σ ++ [(a3, .inl (y 3, 1, .inr (.inl f)))])) := hC
  have hM := CZ.mid hC
  have hF := frZ hM hA
  refine va_calli (va_runV (As := [.int (xs (i + 1).toNatClampNeg), .int (xs (i + 2).toNatClampNeg), .int (xs (i + 3).toNatClampNeg)]) (rest := []) ⟨hx, hb, hml, hown, hts⟩ (r_X11_statement (D := D) (y := y) (o := ox) (ad := ad) (av := av) e1 l _) (cwV 3 hts lc_77 rfl rfl rfl ⟨rfl, hd_X11_statement.1, hd_X11_statement.2.1, hd_X11_statement.2.2⟩ ⟨Nat.le_of_ble_eq_true rfl, Nat.le_of_ble_eq_true rfl⟩) ⟨blZ, va_recv hK hM.1 (ci := 11) (q0 := 0) rfl rfl, prZ hK hN hV hA hM⟩ rfl rfl hl.1 rfl (lv_room (Nat.le_of_ble_eq_true rfl)) dL_law_564 ⟨by show cells + 0 ≤ 601024; omega, by show slots + 0 ≤ 7293034; omega⟩) hM.2.2 (fun q _ h => hF q h) hF (fun r1 u t H locs ht hvm hw hB hz1 hk1 hS => ?_)
  subst ht
  have hC := CZ.back hC hA hk1 hB.1 hB.2 hS
  refine lv_pop hx hb dL_law_567 rfl ?_
  refine lv_aload_n hx hb dL_law_568 rfl (lv_at hl 2 rfl) ?_
  refine lv_aload_n hx hb dL_law_569 rfl (lv_at hl 4 rfl) ?_
  refine lv_iload hx hb dL_law_570 (lv_at hl 0 rfl) ?_
  refine lv_iconst (v := 1) hx hb dL_law_572 (by decide) ?_
  refine lv_iadd hx hb dL_law_573 ?_
  refine va_sld hx hb hX hbl hbA hC.2.2 (vp_k hi hi2 hL 1 (by decide +kernel)) dL_law_574 ?_
  refine lv_aload_n hx hb dL_law_575 rfl (lv_at hl 4 rfl) ?_
  refine lv_iload hx hb dL_law_576 (lv_at hl 0 rfl) ?_
  refine lv_iconst (v := 2) hx hb dL_law_578 (by decide) ?_
  refine lv_iadd hx hb dL_law_579 ?_
  refine va_sld hx hb hX hbl hbA hC.2.2 (vp_k hi hi2 hL 2 (by decide +kernel)) dL_law_580 ?_
  refine lv_aload_n hx hb dL_law_581 rfl (lv_at hl 4 rfl) ?_
  refine lv_iload hx hb dL_law_582 (lv_at hl 0 rfl) ?_
  refine lv_iconst (v := 3) hx hb dL_law_584 (by decide) ?_
  refine lv_iadd hx hb dL_law_585 ?_
  refine va_sld hx hb hX hbl hbA hC.2.2 (vp_k hi hi2 hL 3 (by decide +kernel)) dL_law_586 ?_
  have hC : CZ D (ALs s) s _ _ ([] ++ (WM y om τ ++ (WX y ox σ2 ++ [(a3, .inl (y 3, 1, .inr (.inl f)))]))) := hC
  have hM := CZ.mid hC
  have hF := frZ hM hA
  refine va_calli (va_runV (As := [.int (xs (i + 1).toNatClampNeg), .int (xs (i + 2).toNatClampNeg), .int (xs (i + 3).toNatClampNeg)]) (rest := []) ⟨hx, hb, hml, hown, hts⟩ (r_X12_statement (D := D) (y := y) (o := om) (ad := ad) (av := av) e2 l _) (cwV 3 hts lc_80 rfl rfl rfl ⟨rfl, hd_X12_statement.1, hd_X12_statement.2.1, hd_X12_statement.2.2⟩ ⟨Nat.le_of_ble_eq_true rfl, Nat.le_of_ble_eq_true rfl⟩) ⟨blZ, va_recv hK hM.1 (ci := 12) (q0 := 0) rfl rfl, prZ hK hN hV hA hM⟩ rfl rfl hl.1 rfl (lv_room (Nat.le_of_ble_eq_true rfl)) dL_law_587 ⟨by show cells + 0 + 0 ≤ 601024; omega, by show slots + 0 + 0 ≤ 7293034; omega⟩) hM.2.2 (fun q _ h => hF q h) hF (fun r2 u t H locs ht hvm hw hB hz1 hk1 hS => ?_)
  subst ht
  have hC := CZ.back hC hA hk1 hB.1 hB.2 hS
  refine lv_pop hx hb dL_law_590 rfl ?_
  refine lv_goto (tgt := 1003) hx hb dL_law_591 (by decide) ?_
  have hC : CZ D (ALs s) s _ _ (LWd y om ox a3 τ2 σ2 f) := hC
  exact kk _ _ σ2 τ2 f _ _ _ hJ2 hC (by omega) (by omega) hl

set_option maxHeartbeats 8000000 in
set_option maxRecDepth 100000 in
theorem law_case_12 {p : Program} {e : Env} {s : State} {m : MethodId} {below : List Frame} {meth : Method} {c : Code} (l : Launch) (hfl : l.stackTraces = false) {b L : Nat} {xs : Nat → Int32} (C0 : lw_At p s m meth c b L xs) {D : va_G} {y : Nat → ClassId} {ad av : Nat → Nat} {sa1 sa2 : Nat} (E0 : LEn D y ad av sa1 sa2 s) {om ox : Nat → Nat} {a3 : Nat} {H : Heap} {locs : List Loc} {cells slots : Nat} {σ τ : Sto} {f : Nat → Int64} (hJ : JT4 σ τ) (hC : CZ D (ALs s) s H locs (LWd y om ox a3 τ σ f)) (hc9 : cells + 1 ≤ 601024) (hs9 : slots + 6 ≤ 7293034) {i : Int32} (hi : 0 ≤ i.toInt) (hi2 : i.toInt + 7 ≤ (L : Int)) (hL : L ≤ 3584) {Q : State → Prop} (ls : Array Slot) (hl : lv_has ls 7 [(4, .int i), (3, .ref a3), (2, .ref (om 0)), (1, .ref (ox 0)), (0, .ref b)]) (kk : ∀ (H1 : Heap) (locs1 : List Loc) (σ1 τ1 : Sto) (f1 : Nat → Int64) (cells1 slots1 : Nat) (ls1 : Array Slot), JT4 σ1 τ1 → CZ D (ALs s) s H1 locs1 (LWd y om ox a3 τ1 σ1 f1) → cells1 ≤ cells + 1 → slots1 ≤ slots + 6 → lv_has ls1 7 [(4, .int i), (3, .ref a3), (2, .ref (om 0)), (1, .ref (ox 0)), (0, .ref b)] → W p l e room_1 s m #[Value.ref b] below meth c H1 locs1 cells1 slots1 Q (F0 m 1003 ls1 [])) : W p l e room_1 s m #[Value.ref b] below meth c H locs cells slots Q (F0 m 594 ls []) := by
  obtain ⟨hx, hb, hr, hml, hown, hts, hX, hbl, hlocks, hgv⟩ := C0
  obtain ⟨hK, hN, hV, hE1, hE2⟩ := E0
  have hown : s.vm.findClass RL = some m.cls := hown
  have hA : ∀ q : Nat, s.heap.size ≤ q → ALs s q := fun _ h => h
  have hbA : ¬ ALs s b := Nat.not_le.mpr hbl
  obtain ⟨v, σ2, w, τ2, e1, e2, hJ2⟩ := Q_condition hJ (xs (i + 1).toNatClampNeg) (xs (i + 2).toNatClampNeg)
  refine lv_aload_n hx hb dL_law_594 rfl (lv_at hl 3 rfl) ?_
  refine lv_aload_n hx hb dL_law_595 rfl (lv_at hl 4 rfl) ?_
  refine lv_iload hx hb dL_law_596 (lv_at hl 0 rfl) ?_
  refine lv_iconst (v := 1) hx hb dL_law_598 (by decide) ?_
  refine lv_iadd hx hb dL_law_599 ?_
  refine va_sld hx hb hX hbl hbA hC.2.2 (vp_k hi hi2 hL 1 (by decide +kernel)) dL_law_600 ?_
  refine lv_aload_n hx hb dL_law_601 rfl (lv_at hl 4 rfl) ?_
  refine lv_iload hx hb dL_law_602 (lv_at hl 0 rfl) ?_
  refine lv_iconst (v := 2) hx hb dL_law_604 (by decide) ?_
  refine lv_iadd hx hb dL_law_605 ?_
  refine va_sld hx hb hX hbl hbA hC.2.2 (vp_k hi hi2 hL 2 (by decide +kernel)) dL_law_606 ?_
  have hC : CZ D (ALs s) s _ _ (WM y om τ ++ (WX y ox σ ++ [(a3, .inl (y 3, 1, .inr (.inl f)))])) := hC
  have hM := CZ.mid hC
  have hF := frZ hM hA
  refine va_calli (va_runV (As := [.int (xs (i + 1).toNatClampNeg), .int (xs (i + 2).toNatClampNeg)]) (rest := []) ⟨hx, hb, hml, hown, hts⟩ (r_X11_condition (D := D) (y := y) (o := ox) (ad := ad) (av := av) e1 l _) (cwV 2 hts lc_81 rfl rfl rfl ⟨rfl, hd_X11_condition.1, hd_X11_condition.2.1, hd_X11_condition.2.2⟩ ⟨Nat.le_of_ble_eq_true rfl, Nat.le_of_ble_eq_true rfl⟩) ⟨blZ, va_recv hK hM.1 (ci := 11) (q0 := 0) rfl rfl, prZ hK hN hV hA hM⟩ rfl rfl hl.1 rfl (lv_room (Nat.le_of_ble_eq_true rfl)) dL_law_607 ⟨by show cells + 0 ≤ 601024; omega, by show slots + 0 ≤ 7293034; omega⟩) hM.2.2 (fun q _ h => hF q h) hF (fun r1 u t H locs ht hvm hw hB hz1 hk1 hS => ?_)
  subst ht
  have hC := CZ.back hC hA hk1 hB.1 hB.2 hS
  refine lv_pop hx hb dL_law_610 rfl ?_
  refine lv_aload_n hx hb dL_law_611 rfl (lv_at hl 2 rfl) ?_
  refine lv_aload_n hx hb dL_law_612 rfl (lv_at hl 4 rfl) ?_
  refine lv_iload hx hb dL_law_613 (lv_at hl 0 rfl) ?_
  refine lv_iconst (v := 1) hx hb dL_law_615 (by decide) ?_
  refine lv_iadd hx hb dL_law_616 ?_
  refine va_sld hx hb hX hbl hbA hC.2.2 (vp_k hi hi2 hL 1 (by decide +kernel)) dL_law_617 ?_
  refine lv_aload_n hx hb dL_law_618 rfl (lv_at hl 4 rfl) ?_
  refine lv_iload hx hb dL_law_619 (lv_at hl 0 rfl) ?_
  refine lv_iconst (v := 2) hx hb dL_law_621 (by decide) ?_
  refine lv_iadd hx hb dL_law_622 ?_
  refine va_sld hx hb hX hbl hbA hC.2.2 (vp_k hi hi2 hL 2 (by decide +kernel)) dL_law_623 ?_
  have hC : CZ D (ALs s) s _ _ ([] ++ (WM y om τ ++ (WX y ox σ2 ++ [(a3, .inl (y 3, 1, .inr (.inl f)))]))) := hC
  have hM := CZ.mid hC
  have hF := frZ hM hA
  refine va_calli (va_runV (As := [.int (xs (i + 1).toNatClampNeg), .int (xs (i + 2).toNatClampNeg)]) (rest := []) ⟨hx, hb, hml, hown, hts⟩ (r_X12_condition (D := D) (y := y) (o := om) (ad := ad) (av := av) e2 l _) (cwV 2 hts lc_84 rfl rfl rfl ⟨rfl, hd_X12_condition.1, hd_X12_condition.2.1, hd_X12_condition.2.2⟩ ⟨Nat.le_of_ble_eq_true rfl, Nat.le_of_ble_eq_true rfl⟩) ⟨blZ, va_recv hK hM.1 (ci := 12) (q0 := 0) rfl rfl, prZ hK hN hV hA hM⟩ rfl rfl hl.1 rfl (lv_room (Nat.le_of_ble_eq_true rfl)) dL_law_624 ⟨by show cells + 0 + 0 ≤ 601024; omega, by show slots + 0 + 0 ≤ 7293034; omega⟩) hM.2.2 (fun q _ h => hF q h) hF (fun r2 u t H locs ht hvm hw hB hz1 hk1 hS => ?_)
  subst ht
  have hC := CZ.back hC hA hk1 hB.1 hB.2 hS
  refine lv_pop hx hb dL_law_627 rfl ?_
  refine lv_goto (tgt := 1003) hx hb dL_law_628 (by decide) ?_
  have hC : CZ D (ALs s) s _ _ (LWd y om ox a3 τ2 σ2 f) := hC
  exact kk _ _ σ2 τ2 f _ _ _ hJ2 hC (by omega) (by omega) hl

set_option maxHeartbeats 8000000 in
set_option maxRecDepth 100000 in
theorem law_case_13 {p : Program} {e : Env} {s : State} {m : MethodId} {below : List Frame} {meth : Method} {c : Code} (l : Launch) (hfl : l.stackTraces = false) {b L : Nat} {xs : Nat → Int32} (C0 : lw_At p s m meth c b L xs) {D : va_G} {y : Nat → ClassId} {ad av : Nat → Nat} {sa1 sa2 : Nat} (E0 : LEn D y ad av sa1 sa2 s) {om ox : Nat → Nat} {a3 : Nat} {H : Heap} {locs : List Loc} {cells slots : Nat} {σ τ : Sto} {f : Nat → Int64} (hJ : JT4 σ τ) (hC : CZ D (ALs s) s H locs (LWd y om ox a3 τ σ f)) (hc9 : cells + 1 ≤ 601024) (hs9 : slots + 6 ≤ 7293034) {i : Int32} (hi : 0 ≤ i.toInt) (hi2 : i.toInt + 7 ≤ (L : Int)) (hL : L ≤ 3584) {Q : State → Prop} (ls : Array Slot) (hl : lv_has ls 7 [(4, .int i), (3, .ref a3), (2, .ref (om 0)), (1, .ref (ox 0)), (0, .ref b)]) (kk : ∀ (H1 : Heap) (locs1 : List Loc) (σ1 τ1 : Sto) (f1 : Nat → Int64) (cells1 slots1 : Nat) (ls1 : Array Slot), JT4 σ1 τ1 → CZ D (ALs s) s H1 locs1 (LWd y om ox a3 τ1 σ1 f1) → cells1 ≤ cells + 1 → slots1 ≤ slots + 6 → lv_has ls1 7 [(4, .int i), (3, .ref a3), (2, .ref (om 0)), (1, .ref (ox 0)), (0, .ref b)] → W p l e room_1 s m #[Value.ref b] below meth c H1 locs1 cells1 slots1 Q (F0 m 1003 ls1 [])) : W p l e room_1 s m #[Value.ref b] below meth c H locs cells slots Q (F0 m 631 ls []) := by
  obtain ⟨hx, hb, hr, hml, hown, hts, hX, hbl, hlocks, hgv⟩ := C0
  obtain ⟨hK, hN, hV, hE1, hE2⟩ := E0
  have hown : s.vm.findClass RL = some m.cls := hown
  have hA : ∀ q : Nat, s.heap.size ≤ q → ALs s q := fun _ h => h
  have hbA : ¬ ALs s b := Nat.not_le.mpr hbl
  obtain ⟨v, w, τ2, e1, e2, hJ2⟩ := Q_line hJ (xs (i + 1).toNatClampNeg) (xs (i + 2).toNatClampNeg)
  refine lv_aload_n hx hb dL_law_631 rfl (lv_at hl 3 rfl) ?_
  refine lv_aload_n hx hb dL_law_632 rfl (lv_at hl 4 rfl) ?_
  refine lv_iload hx hb dL_law_633 (lv_at hl 0 rfl) ?_
  refine lv_iconst (v := 1) hx hb dL_law_635 (by decide) ?_
  refine lv_iadd hx hb dL_law_636 ?_
  refine va_sld hx hb hX hbl hbA hC.2.2 (vp_k hi hi2 hL 1 (by decide +kernel)) dL_law_637 ?_
  refine lv_aload_n hx hb dL_law_638 rfl (lv_at hl 4 rfl) ?_
  refine lv_iload hx hb dL_law_639 (lv_at hl 0 rfl) ?_
  refine lv_iconst (v := 2) hx hb dL_law_641 (by decide) ?_
  refine lv_iadd hx hb dL_law_642 ?_
  refine va_sld hx hb hX hbl hbA hC.2.2 (vp_k hi hi2 hL 2 (by decide +kernel)) dL_law_643 ?_
  have hC : CZ D (ALs s) s _ _ (WM y om τ ++ (WX y ox σ ++ [(a3, .inl (y 3, 1, .inr (.inl f)))])) := hC
  have hM := CZ.mid hC
  have hF := frZ hM hA
  refine va_calli (va_runV (As := [.int (xs (i + 1).toNatClampNeg), .int (xs (i + 2).toNatClampNeg)]) (rest := []) ⟨hx, hb, hml, hown, hts⟩ (r_X11_line (D := D) (y := y) (o := ox) (ad := ad) (av := av) e1 l _) (cwV 2 hts lc_85 rfl rfl rfl ⟨rfl, hd_X11_line.1, hd_X11_line.2.1, hd_X11_line.2.2⟩ ⟨Nat.le_of_ble_eq_true rfl, Nat.le_of_ble_eq_true rfl⟩) ⟨blZ, va_recv hK hM.1 (ci := 11) (q0 := 0) rfl rfl, prZ hK hN hV hA hM⟩ rfl rfl hl.1 rfl (lv_room (Nat.le_of_ble_eq_true rfl)) dL_law_644 ⟨by show cells + 0 ≤ 601024; omega, by show slots + 0 ≤ 7293034; omega⟩) hM.2.2 (fun q _ h => hF q h) hF (fun r1 u t H locs ht hvm hw hB hz1 hk1 hS => ?_)
  subst ht
  have hC := CZ.back hC hA hk1 hB.1 hB.2 hS
  refine lv_pop hx hb dL_law_647 rfl ?_
  refine lv_aload_n hx hb dL_law_648 rfl (lv_at hl 2 rfl) ?_
  refine lv_aload_n hx hb dL_law_649 rfl (lv_at hl 4 rfl) ?_
  refine lv_iload hx hb dL_law_650 (lv_at hl 0 rfl) ?_
  refine lv_iconst (v := 1) hx hb dL_law_652 (by decide) ?_
  refine lv_iadd hx hb dL_law_653 ?_
  refine va_sld hx hb hX hbl hbA hC.2.2 (vp_k hi hi2 hL 1 (by decide +kernel)) dL_law_654 ?_
  refine lv_aload_n hx hb dL_law_655 rfl (lv_at hl 4 rfl) ?_
  refine lv_iload hx hb dL_law_656 (lv_at hl 0 rfl) ?_
  refine lv_iconst (v := 2) hx hb dL_law_658 (by decide) ?_
  refine lv_iadd hx hb dL_law_659 ?_
  refine va_sld hx hb hX hbl hbA hC.2.2 (vp_k hi hi2 hL 2 (by decide +kernel)) dL_law_660 ?_
  have hC : CZ D (ALs s) s _ _ ([] ++ (WM y om τ ++ (WX y ox σ ++ [(a3, .inl (y 3, 1, .inr (.inl f)))]))) := hC
  have hM := CZ.mid hC
  have hF := frZ hM hA
  refine va_calli (va_runV (As := [.int (xs (i + 1).toNatClampNeg), .int (xs (i + 2).toNatClampNeg)]) (rest := []) ⟨hx, hb, hml, hown, hts⟩ (r_X12_line_ (D := D) (y := y) (o := om) (ad := ad) (av := av) e2 l _) (cwV 2 hts lc_88 rfl rfl rfl ⟨rfl, hd_X12_line_.1, hd_X12_line_.2.1, hd_X12_line_.2.2⟩ ⟨Nat.le_of_ble_eq_true rfl, Nat.le_of_ble_eq_true rfl⟩) ⟨blZ, va_recv hK hM.1 (ci := 12) (q0 := 0) rfl rfl, prZ hK hN hV hA hM⟩ rfl rfl hl.1 rfl (lv_room (Nat.le_of_ble_eq_true rfl)) dL_law_661 ⟨by show cells + 0 + 0 ≤ 601024; omega, by show slots + 0 + 0 ≤ 7293034; omega⟩) hM.2.2 (fun q _ h => hF q h) hF (fun r2 u t H locs ht hvm hw hB hz1 hk1 hS => ?_)
  subst ht
  have hC := CZ.back hC hA hk1 hB.1 hB.2 hS
  refine lv_pop hx hb dL_law_664 rfl ?_
  refine lv_goto (tgt := 1003) hx hb dL_law_665 (by decide) ?_
  have hC : CZ D (ALs s) s _ _ (LWd y om ox a3 τ2 σ f) := hC
  exact kk _ _ σ τ2 f _ _ _ hJ2 hC (by omega) (by omega) hl

set_option maxHeartbeats 8000000 in
set_option maxRecDepth 100000 in
theorem law_case_14 {p : Program} {e : Env} {s : State} {m : MethodId} {below : List Frame} {meth : Method} {c : Code} (l : Launch) (hfl : l.stackTraces = false) {b L : Nat} {xs : Nat → Int32} (C0 : lw_At p s m meth c b L xs) {D : va_G} {y : Nat → ClassId} {ad av : Nat → Nat} {sa1 sa2 : Nat} (E0 : LEn D y ad av sa1 sa2 s) {om ox : Nat → Nat} {a3 : Nat} {H : Heap} {locs : List Loc} {cells slots : Nat} {σ τ : Sto} {f : Nat → Int64} (hJ : JT4 σ τ) (hC : CZ D (ALs s) s H locs (LWd y om ox a3 τ σ f)) (hc9 : cells + 1 ≤ 601024) (hs9 : slots + 6 ≤ 7293034) {i : Int32} (hi : 0 ≤ i.toInt) (hi2 : i.toInt + 7 ≤ (L : Int)) (hL : L ≤ 3584) {Q : State → Prop} (ls : Array Slot) (hl : lv_has ls 7 [(4, .int i), (3, .ref a3), (2, .ref (om 0)), (1, .ref (ox 0)), (0, .ref b)]) (kk : ∀ (H1 : Heap) (locs1 : List Loc) (σ1 τ1 : Sto) (f1 : Nat → Int64) (cells1 slots1 : Nat) (ls1 : Array Slot), JT4 σ1 τ1 → CZ D (ALs s) s H1 locs1 (LWd y om ox a3 τ1 σ1 f1) → cells1 ≤ cells + 1 → slots1 ≤ slots + 6 → lv_has ls1 7 [(4, .int i), (3, .ref a3), (2, .ref (om 0)), (1, .ref (ox 0)), (0, .ref b)] → W p l e room_1 s m #[Value.ref b] below meth c H1 locs1 cells1 slots1 Q (F0 m 1003 ls1 [])) : W p l e room_1 s m #[Value.ref b] below meth c H locs cells slots Q (F0 m 668 ls []) := by
  obtain ⟨hx, hb, hr, hml, hown, hts, hX, hbl, hlocks, hgv⟩ := C0
  obtain ⟨hK, hN, hV, hE1, hE2⟩ := E0
  have hown : s.vm.findClass RL = some m.cls := hown
  have hA : ∀ q : Nat, s.heap.size ≤ q → ALs s q := fun _ h => h
  have hbA : ¬ ALs s b := Nat.not_le.mpr hbl
  obtain ⟨v, σ2, w, τ2, e1, e2, hJ2⟩ := Q_spell hJ (xs (i + 1).toNatClampNeg) (xs (i + 2).toNatClampNeg)
  refine lv_aload_n hx hb dL_law_668 rfl (lv_at hl 3 rfl) ?_
  refine lv_aload_n hx hb dL_law_669 rfl (lv_at hl 4 rfl) ?_
  refine lv_iload hx hb dL_law_670 (lv_at hl 0 rfl) ?_
  refine lv_iconst (v := 1) hx hb dL_law_672 (by decide) ?_
  refine lv_iadd hx hb dL_law_673 ?_
  refine va_sld hx hb hX hbl hbA hC.2.2 (vp_k hi hi2 hL 1 (by decide +kernel)) dL_law_674 ?_
  refine lv_aload_n hx hb dL_law_675 rfl (lv_at hl 4 rfl) ?_
  refine lv_iload hx hb dL_law_676 (lv_at hl 0 rfl) ?_
  refine lv_iconst (v := 2) hx hb dL_law_678 (by decide) ?_
  refine lv_iadd hx hb dL_law_679 ?_
  refine va_sld hx hb hX hbl hbA hC.2.2 (vp_k hi hi2 hL 2 (by decide +kernel)) dL_law_680 ?_
  have hC : CZ D (ALs s) s _ _ (WM y om τ ++ (WX y ox σ ++ [(a3, .inl (y 3, 1, .inr (.inl f)))])) := hC
  have hM := CZ.mid hC
  have hF := frZ hM hA
  refine va_calli (va_runV (As := [.int (xs (i + 1).toNatClampNeg), .int (xs (i + 2).toNatClampNeg)]) (rest := []) ⟨hx, hb, hml, hown, hts⟩ (r_X11_spell (D := D) (y := y) (o := ox) (ad := ad) (av := av) e1 l _) (cwV 2 hts lc_89 rfl rfl rfl ⟨rfl, hd_X11_spell.1, hd_X11_spell.2.1, hd_X11_spell.2.2⟩ ⟨Nat.le_of_ble_eq_true rfl, Nat.le_of_ble_eq_true rfl⟩) ⟨blZ, va_recv hK hM.1 (ci := 11) (q0 := 0) rfl rfl, prZ hK hN hV hA hM⟩ rfl rfl hl.1 rfl (lv_room (Nat.le_of_ble_eq_true rfl)) dL_law_681 ⟨by show cells + 0 ≤ 601024; omega, by show slots + 0 ≤ 7293034; omega⟩) hM.2.2 (fun q _ h => hF q h) hF (fun r1 u t H locs ht hvm hw hB hz1 hk1 hS => ?_)
  subst ht
  have hC := CZ.back hC hA hk1 hB.1 hB.2 hS
  refine lv_pop hx hb dL_law_684 rfl ?_
  refine lv_aload_n hx hb dL_law_685 rfl (lv_at hl 2 rfl) ?_
  refine lv_aload_n hx hb dL_law_686 rfl (lv_at hl 4 rfl) ?_
  refine lv_iload hx hb dL_law_687 (lv_at hl 0 rfl) ?_
  refine lv_iconst (v := 1) hx hb dL_law_689 (by decide) ?_
  refine lv_iadd hx hb dL_law_690 ?_
  refine va_sld hx hb hX hbl hbA hC.2.2 (vp_k hi hi2 hL 1 (by decide +kernel)) dL_law_691 ?_
  refine lv_aload_n hx hb dL_law_692 rfl (lv_at hl 4 rfl) ?_
  refine lv_iload hx hb dL_law_693 (lv_at hl 0 rfl) ?_
  refine lv_iconst (v := 2) hx hb dL_law_695 (by decide) ?_
  refine lv_iadd hx hb dL_law_696 ?_
  refine va_sld hx hb hX hbl hbA hC.2.2 (vp_k hi hi2 hL 2 (by decide +kernel)) dL_law_697 ?_
  have hC : CZ D (ALs s) s _ _ ([] ++ (WM y om τ ++ (WX y ox σ2 ++ [(a3, .inl (y 3, 1, .inr (.inl f)))]))) := hC
  have hM := CZ.mid hC
  have hF := frZ hM hA
  refine va_calli (va_runV (As := [.int (xs (i + 1).toNatClampNeg), .int (xs (i + 2).toNatClampNeg)]) (rest := []) ⟨hx, hb, hml, hown, hts⟩ (r_X12_spell (D := D) (y := y) (o := om) (ad := ad) (av := av) e2 l _) (cwV 2 hts lc_92 rfl rfl rfl ⟨rfl, hd_X12_spell.1, hd_X12_spell.2.1, hd_X12_spell.2.2⟩ ⟨Nat.le_of_ble_eq_true rfl, Nat.le_of_ble_eq_true rfl⟩) ⟨blZ, va_recv hK hM.1 (ci := 12) (q0 := 0) rfl rfl, prZ hK hN hV hA hM⟩ rfl rfl hl.1 rfl (lv_room (Nat.le_of_ble_eq_true rfl)) dL_law_698 ⟨by show cells + 0 + 0 ≤ 601024; omega, by show slots + 0 + 0 ≤ 7293034; omega⟩) hM.2.2 (fun q _ h => hF q h) hF (fun r2 u t H locs ht hvm hw hB hz1 hk1 hS => ?_)
  subst ht
  have hC := CZ.back hC hA hk1 hB.1 hB.2 hS
  refine lv_pop hx hb dL_law_701 rfl ?_
  refine lv_goto (tgt := 1003) hx hb dL_law_702 (by decide) ?_
  have hC : CZ D (ALs s) s _ _ (LWd y om ox a3 τ2 σ2 f) := hC
  exact kk _ _ σ2 τ2 f _ _ _ hJ2 hC (by omega) (by omega) hl

set_option maxHeartbeats 8000000 in
set_option maxRecDepth 100000 in
theorem law_case_15 {p : Program} {e : Env} {s : State} {m : MethodId} {below : List Frame} {meth : Method} {c : Code} (l : Launch) (hfl : l.stackTraces = false) {b L : Nat} {xs : Nat → Int32} (C0 : lw_At p s m meth c b L xs) {D : va_G} {y : Nat → ClassId} {ad av : Nat → Nat} {sa1 sa2 : Nat} (E0 : LEn D y ad av sa1 sa2 s) {om ox : Nat → Nat} {a3 : Nat} {H : Heap} {locs : List Loc} {cells slots : Nat} {σ τ : Sto} {f : Nat → Int64} (hJ : JT4 σ τ) (hC : CZ D (ALs s) s H locs (LWd y om ox a3 τ σ f)) (hc9 : cells + 1 ≤ 601024) (hs9 : slots + 6 ≤ 7293034) {i : Int32} (hi : 0 ≤ i.toInt) (hi2 : i.toInt + 7 ≤ (L : Int)) (hL : L ≤ 3584) {Q : State → Prop} (ls : Array Slot) (hl : lv_has ls 7 [(4, .int i), (3, .ref a3), (2, .ref (om 0)), (1, .ref (ox 0)), (0, .ref b)]) (kk : ∀ (H1 : Heap) (locs1 : List Loc) (σ1 τ1 : Sto) (f1 : Nat → Int64) (cells1 slots1 : Nat) (ls1 : Array Slot), JT4 σ1 τ1 → CZ D (ALs s) s H1 locs1 (LWd y om ox a3 τ1 σ1 f1) → cells1 ≤ cells + 1 → slots1 ≤ slots + 6 → lv_has ls1 7 [(4, .int i), (3, .ref a3), (2, .ref (om 0)), (1, .ref (ox 0)), (0, .ref b)] → W p l e room_1 s m #[Value.ref b] below meth c H1 locs1 cells1 slots1 Q (F0 m 1003 ls1 [])) : W p l e room_1 s m #[Value.ref b] below meth c H locs cells slots Q (F0 m 705 ls []) := by
  obtain ⟨hx, hb, hr, hml, hown, hts, hX, hbl, hlocks, hgv⟩ := C0
  obtain ⟨hK, hN, hV, hE1, hE2⟩ := E0
  have hown : s.vm.findClass RL = some m.cls := hown
  have hA : ∀ q : Nat, s.heap.size ≤ q → ALs s q := fun _ h => h
  have hbA : ¬ ALs s b := Nat.not_le.mpr hbl
  obtain ⟨v, w, τ2, e1, e2, hJ2⟩ := Q_type hJ (xs (i + 1).toNatClampNeg) (xs (i + 2).toNatClampNeg)
  refine lv_aload_n hx hb dL_law_705 rfl (lv_at hl 3 rfl) ?_
  refine lv_aload_n hx hb dL_law_706 rfl (lv_at hl 4 rfl) ?_
  refine lv_iload hx hb dL_law_707 (lv_at hl 0 rfl) ?_
  refine lv_iconst (v := 1) hx hb dL_law_709 (by decide) ?_
  refine lv_iadd hx hb dL_law_710 ?_
  refine va_sld hx hb hX hbl hbA hC.2.2 (vp_k hi hi2 hL 1 (by decide +kernel)) dL_law_711 ?_
  refine lv_aload_n hx hb dL_law_712 rfl (lv_at hl 4 rfl) ?_
  refine lv_iload hx hb dL_law_713 (lv_at hl 0 rfl) ?_
  refine lv_iconst (v := 2) hx hb dL_law_715 (by decide) ?_
  refine lv_iadd hx hb dL_law_716 ?_
  refine va_sld hx hb hX hbl hbA hC.2.2 (vp_k hi hi2 hL 2 (by decide +kernel)) dL_law_717 ?_
  have hC : CZ D (ALs s) s _ _ (WM y om τ ++ (WX y ox σ ++ [(a3, .inl (y 3, 1, .inr (.inl f)))])) := hC
  have hM := CZ.mid hC
  have hF := frZ hM hA
  refine va_calli (va_runV (As := [.int (xs (i + 1).toNatClampNeg), .int (xs (i + 2).toNatClampNeg)]) (rest := []) ⟨hx, hb, hml, hown, hts⟩ (r_X11_type (D := D) (y := y) (o := ox) (ad := ad) (av := av) e1 l _) (cwV 2 hts lc_93 rfl rfl rfl ⟨rfl, hd_X11_type.1, hd_X11_type.2.1, hd_X11_type.2.2⟩ ⟨Nat.le_of_ble_eq_true rfl, Nat.le_of_ble_eq_true rfl⟩) ⟨blZ, va_recv hK hM.1 (ci := 11) (q0 := 0) rfl rfl, prZ hK hN hV hA hM⟩ rfl rfl hl.1 rfl (lv_room (Nat.le_of_ble_eq_true rfl)) dL_law_718 ⟨by show cells + 0 ≤ 601024; omega, by show slots + 0 ≤ 7293034; omega⟩) hM.2.2 (fun q _ h => hF q h) hF (fun r1 u t H locs ht hvm hw hB hz1 hk1 hS => ?_)
  subst ht
  have hC := CZ.back hC hA hk1 hB.1 hB.2 hS
  refine lv_pop hx hb dL_law_721 rfl ?_
  refine lv_aload_n hx hb dL_law_722 rfl (lv_at hl 2 rfl) ?_
  refine lv_aload_n hx hb dL_law_723 rfl (lv_at hl 4 rfl) ?_
  refine lv_iload hx hb dL_law_724 (lv_at hl 0 rfl) ?_
  refine lv_iconst (v := 1) hx hb dL_law_726 (by decide) ?_
  refine lv_iadd hx hb dL_law_727 ?_
  refine va_sld hx hb hX hbl hbA hC.2.2 (vp_k hi hi2 hL 1 (by decide +kernel)) dL_law_728 ?_
  refine lv_aload_n hx hb dL_law_729 rfl (lv_at hl 4 rfl) ?_
  refine lv_iload hx hb dL_law_730 (lv_at hl 0 rfl) ?_
  refine lv_iconst (v := 2) hx hb dL_law_732 (by decide) ?_
  refine lv_iadd hx hb dL_law_733 ?_
  refine va_sld hx hb hX hbl hbA hC.2.2 (vp_k hi hi2 hL 2 (by decide +kernel)) dL_law_734 ?_
  have hC : CZ D (ALs s) s _ _ ([] ++ (WM y om τ ++ (WX y ox σ ++ [(a3, .inl (y 3, 1, .inr (.inl f)))]))) := hC
  have hM := CZ.mid hC
  have hF := frZ hM hA
  refine va_calli (va_runV (As := [.int (xs (i + 1).toNatClampNeg), .int (xs (i + 2).toNatClampNeg)]) (rest := []) ⟨hx, hb, hml, hown, hts⟩ (r_X12_type (D := D) (y := y) (o := om) (ad := ad) (av := av) e2 l _) (cwV 2 hts lc_96 rfl rfl rfl ⟨rfl, hd_X12_type.1, hd_X12_type.2.1, hd_X12_type.2.2⟩ ⟨Nat.le_of_ble_eq_true rfl, Nat.le_of_ble_eq_true rfl⟩) ⟨blZ, va_recv hK hM.1 (ci := 12) (q0 := 0) rfl rfl, prZ hK hN hV hA hM⟩ rfl rfl hl.1 rfl (lv_room (Nat.le_of_ble_eq_true rfl)) dL_law_735 ⟨by show cells + 0 + 0 ≤ 601024; omega, by show slots + 0 + 0 ≤ 7293034; omega⟩) hM.2.2 (fun q _ h => hF q h) hF (fun r2 u t H locs ht hvm hw hB hz1 hk1 hS => ?_)
  subst ht
  have hC := CZ.back hC hA hk1 hB.1 hB.2 hS
  refine lv_pop hx hb dL_law_738 rfl ?_
  refine lv_goto (tgt := 1003) hx hb dL_law_739 (by decide) ?_
  have hC : CZ D (ALs s) s _ _ (LWd y om ox a3 τ2 σ f) := hC
  exact kk _ _ σ τ2 f _ _ _ hJ2 hC (by omega) (by omega) hl

set_option maxHeartbeats 8000000 in
set_option maxRecDepth 100000 in
theorem law_case_16 {p : Program} {e : Env} {s : State} {m : MethodId} {below : List Frame} {meth : Method} {c : Code} (l : Launch) (hfl : l.stackTraces = false) {b L : Nat} {xs : Nat → Int32} (C0 : lw_At p s m meth c b L xs) {D : va_G} {y : Nat → ClassId} {ad av : Nat → Nat} {sa1 sa2 : Nat} (E0 : LEn D y ad av sa1 sa2 s) {om ox : Nat → Nat} {a3 : Nat} {H : Heap} {locs : List Loc} {cells slots : Nat} {σ τ : Sto} {f : Nat → Int64} (hJ : JT4 σ τ) (hC : CZ D (ALs s) s H locs (LWd y om ox a3 τ σ f)) (hc9 : cells + 1 ≤ 601024) (hs9 : slots + 6 ≤ 7293034) {i : Int32} (hi : 0 ≤ i.toInt) (hi2 : i.toInt + 7 ≤ (L : Int)) (hL : L ≤ 3584) {Q : State → Prop} (ls : Array Slot) (hl : lv_has ls 7 [(4, .int i), (3, .ref a3), (2, .ref (om 0)), (1, .ref (ox 0)), (0, .ref b)]) (kk : ∀ (H1 : Heap) (locs1 : List Loc) (σ1 τ1 : Sto) (f1 : Nat → Int64) (cells1 slots1 : Nat) (ls1 : Array Slot), JT4 σ1 τ1 → CZ D (ALs s) s H1 locs1 (LWd y om ox a3 τ1 σ1 f1) → cells1 ≤ cells + 1 → slots1 ≤ slots + 6 → lv_has ls1 7 [(4, .int i), (3, .ref a3), (2, .ref (om 0)), (1, .ref (ox 0)), (0, .ref b)] → W p l e room_1 s m #[Value.ref b] below meth c H1 locs1 cells1 slots1 Q (F0 m 1003 ls1 [])) : W p l e room_1 s m #[Value.ref b] below meth c H locs cells slots Q (F0 m 742 ls []) := by
  obtain ⟨hx, hb, hr, hml, hown, hts, hX, hbl, hlocks, hgv⟩ := C0
  obtain ⟨hK, hN, hV, hE1, hE2⟩ := E0
  have hown : s.vm.findClass RL = some m.cls := hown
  have hA : ∀ q : Nat, s.heap.size ≤ q → ALs s q := fun _ h => h
  have hbA : ¬ ALs s b := Nat.not_le.mpr hbl
  obtain ⟨v, σ2, w, τ2, e1, e2, hJ2⟩ := Q_run hJ (xs (i + 1).toNatClampNeg) (xs (i + 2).toNatClampNeg) (xs (i + 3).toNatClampNeg) (xs (i + 4).toNatClampNeg) (xs (i + 5).toNatClampNeg) (xs (i + 6).toNatClampNeg)
  refine lv_aload_n hx hb dL_law_742 rfl (lv_at hl 3 rfl) ?_
  refine lv_aload_n hx hb dL_law_743 rfl (lv_at hl 4 rfl) ?_
  refine lv_iload hx hb dL_law_744 (lv_at hl 0 rfl) ?_
  refine lv_iconst (v := 1) hx hb dL_law_746 (by decide) ?_
  refine lv_iadd hx hb dL_law_747 ?_
  refine va_sld hx hb hX hbl hbA hC.2.2 (vp_k hi hi2 hL 1 (by decide +kernel)) dL_law_748 ?_
  refine lv_aload_n hx hb dL_law_749 rfl (lv_at hl 4 rfl) ?_
  refine lv_iload hx hb dL_law_750 (lv_at hl 0 rfl) ?_
  refine lv_iconst (v := 2) hx hb dL_law_752 (by decide) ?_
  refine lv_iadd hx hb dL_law_753 ?_
  refine va_sld hx hb hX hbl hbA hC.2.2 (vp_k hi hi2 hL 2 (by decide +kernel)) dL_law_754 ?_
  refine lv_aload_n hx hb dL_law_755 rfl (lv_at hl 4 rfl) ?_
  refine lv_iload hx hb dL_law_756 (lv_at hl 0 rfl) ?_
  refine lv_iconst (v := 3) hx hb dL_law_758 (by decide) ?_
  refine lv_iadd hx hb dL_law_759 ?_
  refine va_sld hx hb hX hbl hbA hC.2.2 (vp_k hi hi2 hL 3 (by decide +kernel)) dL_law_760 ?_
  refine lv_aload_n hx hb dL_law_761 rfl (lv_at hl 4 rfl) ?_
  refine lv_iload hx hb dL_law_762 (lv_at hl 0 rfl) ?_
  refine lv_iconst (v := 4) hx hb dL_law_764 (by decide) ?_
  refine lv_iadd hx hb dL_law_765 ?_
  refine va_sld hx hb hX hbl hbA hC.2.2 (vp_k hi hi2 hL 4 (by decide +kernel)) dL_law_766 ?_
  refine lv_aload_n hx hb dL_law_767 rfl (lv_at hl 4 rfl) ?_
  refine lv_iload hx hb dL_law_768 (lv_at hl 0 rfl) ?_
  refine lv_iconst (v := 5) hx hb dL_law_770 (by decide) ?_
  refine lv_iadd hx hb dL_law_771 ?_
  refine va_sld hx hb hX hbl hbA hC.2.2 (vp_k hi hi2 hL 5 (by decide +kernel)) dL_law_772 ?_
  refine lv_aload_n hx hb dL_law_773 rfl (lv_at hl 4 rfl) ?_
  refine lv_iload hx hb dL_law_774 (lv_at hl 0 rfl) ?_
  refine lv_bipush (v := 6) hx hb dL_law_776 (by decide) ?_
  refine lv_iadd hx hb dL_law_778 ?_
  refine va_sld hx hb hX hbl hbA hC.2.2 (vp_k hi hi2 hL 6 (by decide +kernel)) dL_law_779 ?_
  have hC : CZ D (ALs s) s _ _ (WM y om τ ++ (WX y ox σ ++ [(a3, .inl (y 3, 1, .inr (.inl f)))])) := hC
  have hM := CZ.mid hC
  have hF := frZ hM hA
  refine va_calli (va_runV (As := [.int (xs (i + 1).toNatClampNeg), .int (xs (i + 2).toNatClampNeg), .int (xs (i + 3).toNatClampNeg), .int (xs (i + 4).toNatClampNeg), .int (xs (i + 5).toNatClampNeg), .int (xs (i + 6).toNatClampNeg)]) (rest := []) ⟨hx, hb, hml, hown, hts⟩ (r_X11_run (D := D) (y := y) (o := ox) (ad := ad) (av := av) e1 l _) (cwV 6 hts lc_97 rfl rfl rfl ⟨rfl, hd_X11_run.1, hd_X11_run.2.1, hd_X11_run.2.2⟩ ⟨Nat.le_of_ble_eq_true rfl, Nat.le_of_ble_eq_true rfl⟩) ⟨blZ, va_recv hK hM.1 (ci := 11) (q0 := 0) rfl rfl, prZ hK hN hV hA hM⟩ rfl rfl hl.1 rfl (lv_room (Nat.le_of_ble_eq_true rfl)) dL_law_780 ⟨by show cells + 0 ≤ 601024; omega, by show slots + 0 ≤ 7293034; omega⟩) hM.2.2 (fun q _ h => hF q h) hF (fun r1 u t H locs ht hvm hw hB hz1 hk1 hS => ?_)
  subst ht
  have hC := CZ.back hC hA hk1 hB.1 hB.2 hS
  refine lv_pop hx hb dL_law_783 rfl ?_
  refine lv_aload_n hx hb dL_law_784 rfl (lv_at hl 2 rfl) ?_
  refine lv_aload_n hx hb dL_law_785 rfl (lv_at hl 4 rfl) ?_
  refine lv_iload hx hb dL_law_786 (lv_at hl 0 rfl) ?_
  refine lv_iconst (v := 1) hx hb dL_law_788 (by decide) ?_
  refine lv_iadd hx hb dL_law_789 ?_
  refine va_sld hx hb hX hbl hbA hC.2.2 (vp_k hi hi2 hL 1 (by decide +kernel)) dL_law_790 ?_
  refine lv_aload_n hx hb dL_law_791 rfl (lv_at hl 4 rfl) ?_
  refine lv_iload hx hb dL_law_792 (lv_at hl 0 rfl) ?_
  refine lv_iconst (v := 2) hx hb dL_law_794 (by decide) ?_
  refine lv_iadd hx hb dL_law_795 ?_
  refine va_sld hx hb hX hbl hbA hC.2.2 (vp_k hi hi2 hL 2 (by decide +kernel)) dL_law_796 ?_
  refine lv_aload_n hx hb dL_law_797 rfl (lv_at hl 4 rfl) ?_
  refine lv_iload hx hb dL_law_798 (lv_at hl 0 rfl) ?_
  refine lv_iconst (v := 3) hx hb dL_law_800 (by decide) ?_
  refine lv_iadd hx hb dL_law_801 ?_
  refine va_sld hx hb hX hbl hbA hC.2.2 (vp_k hi hi2 hL 3 (by decide +kernel)) dL_law_802 ?_
  refine lv_aload_n hx hb dL_law_803 rfl (lv_at hl 4 rfl) ?_
  refine lv_iload hx hb dL_law_804 (lv_at hl 0 rfl) ?_
  refine lv_iconst (v := 4) hx hb dL_law_806 (by decide) ?_
  refine lv_iadd hx hb dL_law_807 ?_
  refine va_sld hx hb hX hbl hbA hC.2.2 (vp_k hi hi2 hL 4 (by decide +kernel)) dL_law_808 ?_
  refine lv_aload_n hx hb dL_law_809 rfl (lv_at hl 4 rfl) ?_
  refine lv_iload hx hb dL_law_810 (lv_at hl 0 rfl) ?_
  refine lv_iconst (v := 5) hx hb dL_law_812 (by decide) ?_
  refine lv_iadd hx hb dL_law_813 ?_
  refine va_sld hx hb hX hbl hbA hC.2.2 (vp_k hi hi2 hL 5 (by decide +kernel)) dL_law_814 ?_
  refine lv_aload_n hx hb dL_law_815 rfl (lv_at hl 4 rfl) ?_
  refine lv_iload hx hb dL_law_816 (lv_at hl 0 rfl) ?_
  refine lv_bipush (v := 6) hx hb dL_law_818 (by decide) ?_
  refine lv_iadd hx hb dL_law_820 ?_
  refine va_sld hx hb hX hbl hbA hC.2.2 (vp_k hi hi2 hL 6 (by decide +kernel)) dL_law_821 ?_
  have hC : CZ D (ALs s) s _ _ ([] ++ (WM y om τ ++ (WX y ox σ2 ++ [(a3, .inl (y 3, 1, .inr (.inl f)))]))) := hC
  have hM := CZ.mid hC
  have hF := frZ hM hA
  refine va_calli (va_runV (As := [.int (xs (i + 1).toNatClampNeg), .int (xs (i + 2).toNatClampNeg), .int (xs (i + 3).toNatClampNeg), .int (xs (i + 4).toNatClampNeg), .int (xs (i + 5).toNatClampNeg), .int (xs (i + 6).toNatClampNeg)]) (rest := []) ⟨hx, hb, hml, hown, hts⟩ (r_X12_run (D := D) (y := y) (o := om) (ad := ad) (av := av) e2 l _) (cwV 6 hts lc_101 rfl rfl rfl ⟨rfl, hd_X12_run.1, hd_X12_run.2.1, hd_X12_run.2.2⟩ ⟨Nat.le_of_ble_eq_true rfl, Nat.le_of_ble_eq_true rfl⟩) ⟨blZ, va_recv hK hM.1 (ci := 12) (q0 := 0) rfl rfl, prZ hK hN hV hA hM⟩ rfl rfl hl.1 rfl (lv_room (Nat.le_of_ble_eq_true rfl)) dL_law_822 ⟨by show cells + 0 + 0 ≤ 601024; omega, by show slots + 0 + 0 ≤ 7293034; omega⟩) hM.2.2 (fun q _ h => hF q h) hF (fun r2 u t H locs ht hvm hw hB hz1 hk1 hS => ?_)
  subst ht
  have hC := CZ.back hC hA hk1 hB.1 hB.2 hS
  refine lv_pop hx hb dL_law_825 rfl ?_
  refine lv_goto (tgt := 1003) hx hb dL_law_826 (by decide) ?_
  have hC : CZ D (ALs s) s _ _ (LWd y om ox a3 τ2 σ2 f) := hC
  exact kk _ _ σ2 τ2 f _ _ _ hJ2 hC (by omega) (by omega) hl

set_option maxHeartbeats 8000000 in
set_option maxRecDepth 100000 in
theorem law_case_17 {p : Program} {e : Env} {s : State} {m : MethodId} {below : List Frame} {meth : Method} {c : Code} (l : Launch) (hfl : l.stackTraces = false) {b L : Nat} {xs : Nat → Int32} (C0 : lw_At p s m meth c b L xs) {D : va_G} {y : Nat → ClassId} {ad av : Nat → Nat} {sa1 sa2 : Nat} (E0 : LEn D y ad av sa1 sa2 s) {om ox : Nat → Nat} {a3 : Nat} {H : Heap} {locs : List Loc} {cells slots : Nat} {σ τ : Sto} {f : Nat → Int64} (hJ : JT4 σ τ) (hC : CZ D (ALs s) s H locs (LWd y om ox a3 τ σ f)) (hc9 : cells + 1 ≤ 601024) (hs9 : slots + 6 ≤ 7293034) {i : Int32} (hi : 0 ≤ i.toInt) (hi2 : i.toInt + 7 ≤ (L : Int)) (hL : L ≤ 3584) {Q : State → Prop} (ls : Array Slot) (hl : lv_has ls 7 [(4, .int i), (3, .ref a3), (2, .ref (om 0)), (1, .ref (ox 0)), (0, .ref b)]) (kk : ∀ (H1 : Heap) (locs1 : List Loc) (σ1 τ1 : Sto) (f1 : Nat → Int64) (cells1 slots1 : Nat) (ls1 : Array Slot), JT4 σ1 τ1 → CZ D (ALs s) s H1 locs1 (LWd y om ox a3 τ1 σ1 f1) → cells1 ≤ cells + 1 → slots1 ≤ slots + 6 → lv_has ls1 7 [(4, .int i), (3, .ref a3), (2, .ref (om 0)), (1, .ref (ox 0)), (0, .ref b)] → W p l e room_1 s m #[Value.ref b] below meth c H1 locs1 cells1 slots1 Q (F0 m 1003 ls1 [])) : W p l e room_1 s m #[Value.ref b] below meth c H locs cells slots Q (F0 m 829 ls []) := by
  obtain ⟨hx, hb, hr, hml, hown, hts, hX, hbl, hlocks, hgv⟩ := C0
  obtain ⟨hK, hN, hV, hE1, hE2⟩ := E0
  have hown : s.vm.findClass RL = some m.cls := hown
  have hA : ∀ q : Nat, s.heap.size ≤ q → ALs s q := fun _ h => h
  have hbA : ¬ ALs s b := Nat.not_le.mpr hbl
  obtain ⟨v, σ2, w, τ2, e1, e2, hJ2⟩ := Q_output hJ (xs (i + 1).toNatClampNeg) (xs (i + 2).toNatClampNeg) (xs (i + 3).toNatClampNeg) (xs (i + 4).toNatClampNeg) (xs (i + 5).toNatClampNeg) (xs (i + 6).toNatClampNeg)
  refine lv_aload_n hx hb dL_law_829 rfl (lv_at hl 3 rfl) ?_
  refine lv_aload_n hx hb dL_law_830 rfl (lv_at hl 4 rfl) ?_
  refine lv_iload hx hb dL_law_831 (lv_at hl 0 rfl) ?_
  refine lv_iconst (v := 1) hx hb dL_law_833 (by decide) ?_
  refine lv_iadd hx hb dL_law_834 ?_
  refine va_sld hx hb hX hbl hbA hC.2.2 (vp_k hi hi2 hL 1 (by decide +kernel)) dL_law_835 ?_
  refine lv_aload_n hx hb dL_law_836 rfl (lv_at hl 4 rfl) ?_
  refine lv_iload hx hb dL_law_837 (lv_at hl 0 rfl) ?_
  refine lv_iconst (v := 2) hx hb dL_law_839 (by decide) ?_
  refine lv_iadd hx hb dL_law_840 ?_
  refine va_sld hx hb hX hbl hbA hC.2.2 (vp_k hi hi2 hL 2 (by decide +kernel)) dL_law_841 ?_
  refine lv_aload_n hx hb dL_law_842 rfl (lv_at hl 4 rfl) ?_
  refine lv_iload hx hb dL_law_843 (lv_at hl 0 rfl) ?_
  refine lv_iconst (v := 3) hx hb dL_law_845 (by decide) ?_
  refine lv_iadd hx hb dL_law_846 ?_
  refine va_sld hx hb hX hbl hbA hC.2.2 (vp_k hi hi2 hL 3 (by decide +kernel)) dL_law_847 ?_
  refine lv_aload_n hx hb dL_law_848 rfl (lv_at hl 4 rfl) ?_
  refine lv_iload hx hb dL_law_849 (lv_at hl 0 rfl) ?_
  refine lv_iconst (v := 4) hx hb dL_law_851 (by decide) ?_
  refine lv_iadd hx hb dL_law_852 ?_
  refine va_sld hx hb hX hbl hbA hC.2.2 (vp_k hi hi2 hL 4 (by decide +kernel)) dL_law_853 ?_
  refine lv_aload_n hx hb dL_law_854 rfl (lv_at hl 4 rfl) ?_
  refine lv_iload hx hb dL_law_855 (lv_at hl 0 rfl) ?_
  refine lv_iconst (v := 5) hx hb dL_law_857 (by decide) ?_
  refine lv_iadd hx hb dL_law_858 ?_
  refine va_sld hx hb hX hbl hbA hC.2.2 (vp_k hi hi2 hL 5 (by decide +kernel)) dL_law_859 ?_
  refine lv_aload_n hx hb dL_law_860 rfl (lv_at hl 4 rfl) ?_
  refine lv_iload hx hb dL_law_861 (lv_at hl 0 rfl) ?_
  refine lv_bipush (v := 6) hx hb dL_law_863 (by decide) ?_
  refine lv_iadd hx hb dL_law_865 ?_
  refine va_sld hx hb hX hbl hbA hC.2.2 (vp_k hi hi2 hL 6 (by decide +kernel)) dL_law_866 ?_
  have hC : CZ D (ALs s) s _ _ (WM y om τ ++ (WX y ox σ ++ [(a3, .inl (y 3, 1, .inr (.inl f)))])) := hC
  have hM := CZ.mid hC
  have hF := frZ hM hA
  refine va_calli (va_runV (As := [.int (xs (i + 1).toNatClampNeg), .int (xs (i + 2).toNatClampNeg), .int (xs (i + 3).toNatClampNeg), .int (xs (i + 4).toNatClampNeg), .int (xs (i + 5).toNatClampNeg), .int (xs (i + 6).toNatClampNeg)]) (rest := []) ⟨hx, hb, hml, hown, hts⟩ (r_X11_output (D := D) (y := y) (o := ox) (ad := ad) (av := av) e1 l _) (cwV 6 hts lc_102 rfl rfl rfl ⟨rfl, hd_X11_output.1, hd_X11_output.2.1, hd_X11_output.2.2⟩ ⟨Nat.le_of_ble_eq_true rfl, Nat.le_of_ble_eq_true rfl⟩) ⟨blZ, va_recv hK hM.1 (ci := 11) (q0 := 0) rfl rfl, prZ hK hN hV hA hM⟩ rfl rfl hl.1 rfl (lv_room (Nat.le_of_ble_eq_true rfl)) dL_law_867 ⟨by show cells + 0 ≤ 601024; omega, by show slots + 0 ≤ 7293034; omega⟩) hM.2.2 (fun q _ h => hF q h) hF (fun r1 u t H locs ht hvm hw hB hz1 hk1 hS => ?_)
  subst ht
  have hC := CZ.back hC hA hk1 hB.1 hB.2 hS
  refine lv_pop hx hb dL_law_870 rfl ?_
  refine lv_aload_n hx hb dL_law_871 rfl (lv_at hl 2 rfl) ?_
  refine lv_aload_n hx hb dL_law_872 rfl (lv_at hl 4 rfl) ?_
  refine lv_iload hx hb dL_law_873 (lv_at hl 0 rfl) ?_
  refine lv_iconst (v := 1) hx hb dL_law_875 (by decide) ?_
  refine lv_iadd hx hb dL_law_876 ?_
  refine va_sld hx hb hX hbl hbA hC.2.2 (vp_k hi hi2 hL 1 (by decide +kernel)) dL_law_877 ?_
  refine lv_aload_n hx hb dL_law_878 rfl (lv_at hl 4 rfl) ?_
  refine lv_iload hx hb dL_law_879 (lv_at hl 0 rfl) ?_
  refine lv_iconst (v := 2) hx hb dL_law_881 (by decide) ?_
  refine lv_iadd hx hb dL_law_882 ?_
  refine va_sld hx hb hX hbl hbA hC.2.2 (vp_k hi hi2 hL 2 (by decide +kernel)) dL_law_883 ?_
  refine lv_aload_n hx hb dL_law_884 rfl (lv_at hl 4 rfl) ?_
  refine lv_iload hx hb dL_law_885 (lv_at hl 0 rfl) ?_
  refine lv_iconst (v := 3) hx hb dL_law_887 (by decide) ?_
  refine lv_iadd hx hb dL_law_888 ?_
  refine va_sld hx hb hX hbl hbA hC.2.2 (vp_k hi hi2 hL 3 (by decide +kernel)) dL_law_889 ?_
  refine lv_aload_n hx hb dL_law_890 rfl (lv_at hl 4 rfl) ?_
  refine lv_iload hx hb dL_law_891 (lv_at hl 0 rfl) ?_
  refine lv_iconst (v := 4) hx hb dL_law_893 (by decide) ?_
  refine lv_iadd hx hb dL_law_894 ?_
  refine va_sld hx hb hX hbl hbA hC.2.2 (vp_k hi hi2 hL 4 (by decide +kernel)) dL_law_895 ?_
  refine lv_aload_n hx hb dL_law_896 rfl (lv_at hl 4 rfl) ?_
  refine lv_iload hx hb dL_law_897 (lv_at hl 0 rfl) ?_
  refine lv_iconst (v := 5) hx hb dL_law_899 (by decide) ?_
  refine lv_iadd hx hb dL_law_900 ?_
  refine va_sld hx hb hX hbl hbA hC.2.2 (vp_k hi hi2 hL 5 (by decide +kernel)) dL_law_901 ?_
  refine lv_aload_n hx hb dL_law_902 rfl (lv_at hl 4 rfl) ?_
  refine lv_iload hx hb dL_law_903 (lv_at hl 0 rfl) ?_
  refine lv_bipush (v := 6) hx hb dL_law_905 (by decide) ?_
  refine lv_iadd hx hb dL_law_907 ?_
  refine va_sld hx hb hX hbl hbA hC.2.2 (vp_k hi hi2 hL 6 (by decide +kernel)) dL_law_908 ?_
  have hC : CZ D (ALs s) s _ _ ([] ++ (WM y om τ ++ (WX y ox σ2 ++ [(a3, .inl (y 3, 1, .inr (.inl f)))]))) := hC
  have hM := CZ.mid hC
  have hF := frZ hM hA
  refine va_calli (va_runV (As := [.int (xs (i + 1).toNatClampNeg), .int (xs (i + 2).toNatClampNeg), .int (xs (i + 3).toNatClampNeg), .int (xs (i + 4).toNatClampNeg), .int (xs (i + 5).toNatClampNeg), .int (xs (i + 6).toNatClampNeg)]) (rest := []) ⟨hx, hb, hml, hown, hts⟩ (r_X12_output (D := D) (y := y) (o := om) (ad := ad) (av := av) e2 l _) (cwV 6 hts lc_105 rfl rfl rfl ⟨rfl, hd_X12_output.1, hd_X12_output.2.1, hd_X12_output.2.2⟩ ⟨Nat.le_of_ble_eq_true rfl, Nat.le_of_ble_eq_true rfl⟩) ⟨blZ, va_recv hK hM.1 (ci := 12) (q0 := 0) rfl rfl, prZ hK hN hV hA hM⟩ rfl rfl hl.1 rfl (lv_room (Nat.le_of_ble_eq_true rfl)) dL_law_909 ⟨by show cells + 0 + 0 ≤ 601024; omega, by show slots + 0 + 0 ≤ 7293034; omega⟩) hM.2.2 (fun q _ h => hF q h) hF (fun r2 u t H locs ht hvm hw hB hz1 hk1 hS => ?_)
  subst ht
  have hC := CZ.back hC hA hk1 hB.1 hB.2 hS
  refine lv_pop hx hb dL_law_912 rfl ?_
  refine lv_goto (tgt := 1003) hx hb dL_law_913 (by decide) ?_
  have hC : CZ D (ALs s) s _ _ (LWd y om ox a3 τ2 σ2 f) := hC
  exact kk _ _ σ2 τ2 f _ _ _ hJ2 hC (by omega) (by omega) hl

set_option maxHeartbeats 8000000 in
set_option maxRecDepth 100000 in
theorem law_case_18 {p : Program} {e : Env} {s : State} {m : MethodId} {below : List Frame} {meth : Method} {c : Code} (l : Launch) (hfl : l.stackTraces = false) {b L : Nat} {xs : Nat → Int32} (C0 : lw_At p s m meth c b L xs) {D : va_G} {y : Nat → ClassId} {ad av : Nat → Nat} {sa1 sa2 : Nat} (E0 : LEn D y ad av sa1 sa2 s) {om ox : Nat → Nat} {a3 : Nat} {H : Heap} {locs : List Loc} {cells slots : Nat} {σ τ : Sto} {f : Nat → Int64} (hJ : JT4 σ τ) (hC : CZ D (ALs s) s H locs (LWd y om ox a3 τ σ f)) (hc9 : cells + 1 ≤ 601024) (hs9 : slots + 6 ≤ 7293034) {i : Int32} (hi : 0 ≤ i.toInt) (hi2 : i.toInt + 7 ≤ (L : Int)) (hL : L ≤ 3584) {Q : State → Prop} (ls : Array Slot) (hl : lv_has ls 7 [(4, .int i), (3, .ref a3), (2, .ref (om 0)), (1, .ref (ox 0)), (0, .ref b)]) (kk : ∀ (H1 : Heap) (locs1 : List Loc) (σ1 τ1 : Sto) (f1 : Nat → Int64) (cells1 slots1 : Nat) (ls1 : Array Slot), JT4 σ1 τ1 → CZ D (ALs s) s H1 locs1 (LWd y om ox a3 τ1 σ1 f1) → cells1 ≤ cells + 1 → slots1 ≤ slots + 6 → lv_has ls1 7 [(4, .int i), (3, .ref a3), (2, .ref (om 0)), (1, .ref (ox 0)), (0, .ref b)] → W p l e room_1 s m #[Value.ref b] below meth c H1 locs1 cells1 slots1 Q (F0 m 1003 ls1 [])) : W p l e room_1 s m #[Value.ref b] below meth c H locs cells slots Q (F0 m 916 ls []) := by
  obtain ⟨hx, hb, hr, hml, hown, hts, hX, hbl, hlocks, hgv⟩ := C0
  obtain ⟨hK, hN, hV, hE1, hE2⟩ := E0
  have hown : s.vm.findClass RL = some m.cls := hown
  have hA : ∀ q : Nat, s.heap.size ≤ q → ALs s q := fun _ h => h
  have hbA : ¬ ALs s b := Nat.not_le.mpr hbl
  obtain ⟨v, w, τ2, e1, e2, hJ2⟩ := Q_comesTo hJ (xs (i + 1).toNatClampNeg)
  refine lv_aload_n hx hb dL_law_916 rfl (lv_at hl 3 rfl) ?_
  refine lv_aload_n hx hb dL_law_917 rfl (lv_at hl 4 rfl) ?_
  refine lv_iload hx hb dL_law_918 (lv_at hl 0 rfl) ?_
  refine lv_iconst (v := 1) hx hb dL_law_920 (by decide) ?_
  refine lv_iadd hx hb dL_law_921 ?_
  refine va_sld hx hb hX hbl hbA hC.2.2 (vp_k hi hi2 hL 1 (by decide +kernel)) dL_law_922 ?_
  have hC : CZ D (ALs s) s _ _ (WM y om τ ++ (WX y ox σ ++ [(a3, .inl (y 3, 1, .inr (.inl f)))])) := hC
  have hM := CZ.mid hC
  have hF := frZ hM hA
  refine va_calll (va_runV (As := [.int (xs (i + 1).toNatClampNeg)]) (rest := []) ⟨hx, hb, hml, hown, hts⟩ (r_X11_comesTo (D := D) (y := y) (o := ox) (ad := ad) (av := av) e1 l _) (cwV 1 hts lc_106 rfl rfl rfl ⟨rfl, hd_X11_comesTo.1, hd_X11_comesTo.2.1, hd_X11_comesTo.2.2⟩ ⟨Nat.le_of_ble_eq_true rfl, Nat.le_of_ble_eq_true rfl⟩) ⟨blZ, va_recv hK hM.1 (ci := 11) (q0 := 0) rfl rfl, prZ hK hN hV hA hM⟩ rfl rfl hl.1 rfl (lv_room (Nat.le_of_ble_eq_true rfl)) dL_law_923 ⟨by show cells + 0 ≤ 601024; omega, by show slots + 0 ≤ 7293034; omega⟩) hM.2.2 (fun q _ h => hF q h) hF (fun r1 u t H locs ht hvm hw hB hz1 hk1 hS => ?_)
  subst ht
  have hC := CZ.back hC hA hk1 hB.1 hB.2 hS
  refine lv_pop2_2 hx hb dL_law_926 rfl ?_
  refine lv_aload_n hx hb dL_law_927 rfl (lv_at hl 2 rfl) ?_
  refine lv_aload_n hx hb dL_law_928 rfl (lv_at hl 4 rfl) ?_
  refine lv_iload hx hb dL_law_929 (lv_at hl 0 rfl) ?_
  refine lv_iconst (v := 1) hx hb dL_law_931 (by decide) ?_
  refine lv_iadd hx hb dL_law_932 ?_
  refine va_sld hx hb hX hbl hbA hC.2.2 (vp_k hi hi2 hL 1 (by decide +kernel)) dL_law_933 ?_
  have hC : CZ D (ALs s) s _ _ ([] ++ (WM y om τ ++ (WX y ox σ ++ [(a3, .inl (y 3, 1, .inr (.inl f)))]))) := hC
  have hM := CZ.mid hC
  have hF := frZ hM hA
  refine va_calll (va_runV (As := [.int (xs (i + 1).toNatClampNeg)]) (rest := []) ⟨hx, hb, hml, hown, hts⟩ (r_X12_comesTo (D := D) (y := y) (o := om) (ad := ad) (av := av) e2 l _) (cwV 1 hts lc_109 rfl rfl rfl ⟨rfl, hd_X12_comesTo.1, hd_X12_comesTo.2.1, hd_X12_comesTo.2.2⟩ ⟨Nat.le_of_ble_eq_true rfl, Nat.le_of_ble_eq_true rfl⟩) ⟨blZ, va_recv hK hM.1 (ci := 12) (q0 := 0) rfl rfl, prZ hK hN hV hA hM⟩ rfl rfl hl.1 rfl (lv_room (Nat.le_of_ble_eq_true rfl)) dL_law_934 ⟨by show cells + 0 + 0 ≤ 601024; omega, by show slots + 0 + 0 ≤ 7293034; omega⟩) hM.2.2 (fun q _ h => hF q h) hF (fun r2 u t H locs ht hvm hw hB hz1 hk1 hS => ?_)
  subst ht
  have hC := CZ.back hC hA hk1 hB.1 hB.2 hS
  refine lv_pop2_2 hx hb dL_law_937 rfl ?_
  refine lv_goto (tgt := 1003) hx hb dL_law_938 (by decide) ?_
  have hC : CZ D (ALs s) s _ _ (LWd y om ox a3 τ2 σ f) := hC
  exact kk _ _ σ τ2 f _ _ _ hJ2 hC (by omega) (by omega) hl

set_option maxHeartbeats 8000000 in
set_option maxRecDepth 100000 in
theorem law_case_19 {p : Program} {e : Env} {s : State} {m : MethodId} {below : List Frame} {meth : Method} {c : Code} (l : Launch) (hfl : l.stackTraces = false) {b L : Nat} {xs : Nat → Int32} (C0 : lw_At p s m meth c b L xs) {D : va_G} {y : Nat → ClassId} {ad av : Nat → Nat} {sa1 sa2 : Nat} (E0 : LEn D y ad av sa1 sa2 s) {om ox : Nat → Nat} {a3 : Nat} {H : Heap} {locs : List Loc} {cells slots : Nat} {σ τ : Sto} {f : Nat → Int64} (hJ : JT4 σ τ) (hC : CZ D (ALs s) s H locs (LWd y om ox a3 τ σ f)) (hc9 : cells + 1 ≤ 601024) (hs9 : slots + 6 ≤ 7293034) {i : Int32} (hi : 0 ≤ i.toInt) (hi2 : i.toInt + 7 ≤ (L : Int)) (hL : L ≤ 3584) {Q : State → Prop} (ls : Array Slot) (hl : lv_has ls 7 [(4, .int i), (3, .ref a3), (2, .ref (om 0)), (1, .ref (ox 0)), (0, .ref b)]) (kk : ∀ (H1 : Heap) (locs1 : List Loc) (σ1 τ1 : Sto) (f1 : Nat → Int64) (cells1 slots1 : Nat) (ls1 : Array Slot), JT4 σ1 τ1 → CZ D (ALs s) s H1 locs1 (LWd y om ox a3 τ1 σ1 f1) → cells1 ≤ cells + 1 → slots1 ≤ slots + 6 → lv_has ls1 7 [(4, .int i), (3, .ref a3), (2, .ref (om 0)), (1, .ref (ox 0)), (0, .ref b)] → W p l e room_1 s m #[Value.ref b] below meth c H1 locs1 cells1 slots1 Q (F0 m 1003 ls1 [])) : W p l e room_1 s m #[Value.ref b] below meth c H locs cells slots Q (F0 m 941 ls []) := by
  obtain ⟨hx, hb, hr, hml, hown, hts, hX, hbl, hlocks, hgv⟩ := C0
  obtain ⟨hK, hN, hV, hE1, hE2⟩ := E0
  have hown : s.vm.findClass RL = some m.cls := hown
  have hA : ∀ q : Nat, s.heap.size ≤ q → ALs s q := fun _ h => h
  have hbA : ¬ ALs s b := Nat.not_le.mpr hbl
  obtain ⟨v, w, τ2, e1, e2, hJ2⟩ := Q_far hJ (xs (i + 1).toNatClampNeg) (xs (i + 2).toNatClampNeg)
  refine lv_aload_n hx hb dL_law_941 rfl (lv_at hl 3 rfl) ?_
  refine lv_aload_n hx hb dL_law_942 rfl (lv_at hl 4 rfl) ?_
  refine lv_iload hx hb dL_law_943 (lv_at hl 0 rfl) ?_
  refine lv_iconst (v := 1) hx hb dL_law_945 (by decide) ?_
  refine lv_iadd hx hb dL_law_946 ?_
  refine va_sld hx hb hX hbl hbA hC.2.2 (vp_k hi hi2 hL 1 (by decide +kernel)) dL_law_947 ?_
  refine lv_aload_n hx hb dL_law_948 rfl (lv_at hl 4 rfl) ?_
  refine lv_iload hx hb dL_law_949 (lv_at hl 0 rfl) ?_
  refine lv_iconst (v := 2) hx hb dL_law_951 (by decide) ?_
  refine lv_iadd hx hb dL_law_952 ?_
  refine va_sld hx hb hX hbl hbA hC.2.2 (vp_k hi hi2 hL 2 (by decide +kernel)) dL_law_953 ?_
  have hC : CZ D (ALs s) s _ _ (WM y om τ ++ (WX y ox σ ++ [(a3, .inl (y 3, 1, .inr (.inl f)))])) := hC
  have hM := CZ.mid hC
  have hF := frZ hM hA
  refine va_calli (va_runV (As := [.int (xs (i + 1).toNatClampNeg), .int (xs (i + 2).toNatClampNeg)]) (rest := []) ⟨hx, hb, hml, hown, hts⟩ (r_X11_far (D := D) (y := y) (o := ox) (ad := ad) (av := av) e1 l _) (cwV 2 hts lc_110 rfl rfl rfl ⟨rfl, hd_X11_far.1, hd_X11_far.2.1, hd_X11_far.2.2⟩ ⟨Nat.le_of_ble_eq_true rfl, Nat.le_of_ble_eq_true rfl⟩) ⟨blZ, va_recv hK hM.1 (ci := 11) (q0 := 0) rfl rfl, prZ hK hN hV hA hM⟩ rfl rfl hl.1 rfl (lv_room (Nat.le_of_ble_eq_true rfl)) dL_law_954 ⟨by show cells + 0 ≤ 601024; omega, by show slots + 0 ≤ 7293034; omega⟩) hM.2.2 (fun q _ h => hF q h) hF (fun r1 u t H locs ht hvm hw hB hz1 hk1 hS => ?_)
  subst ht
  have hC := CZ.back hC hA hk1 hB.1 hB.2 hS
  refine lv_pop hx hb dL_law_957 rfl ?_
  refine lv_aload_n hx hb dL_law_958 rfl (lv_at hl 2 rfl) ?_
  refine lv_aload_n hx hb dL_law_959 rfl (lv_at hl 4 rfl) ?_
  refine lv_iload hx hb dL_law_960 (lv_at hl 0 rfl) ?_
  refine lv_iconst (v := 1) hx hb dL_law_962 (by decide) ?_
  refine lv_iadd hx hb dL_law_963 ?_
  refine va_sld hx hb hX hbl hbA hC.2.2 (vp_k hi hi2 hL 1 (by decide +kernel)) dL_law_964 ?_
  refine lv_aload_n hx hb dL_law_965 rfl (lv_at hl 4 rfl) ?_
  refine lv_iload hx hb dL_law_966 (lv_at hl 0 rfl) ?_
  refine lv_iconst (v := 2) hx hb dL_law_968 (by decide) ?_
  refine lv_iadd hx hb dL_law_969 ?_
  refine va_sld hx hb hX hbl hbA hC.2.2 (vp_k hi hi2 hL 2 (by decide +kernel)) dL_law_970 ?_
  have hC : CZ D (ALs s) s _ _ ([] ++ (WM y om τ ++ (WX y ox σ ++ [(a3, .inl (y 3, 1, .inr (.inl f)))]))) := hC
  have hM := CZ.mid hC
  have hF := frZ hM hA
  refine va_calli (va_runV (As := [.int (xs (i + 1).toNatClampNeg), .int (xs (i + 2).toNatClampNeg)]) (rest := []) ⟨hx, hb, hml, hown, hts⟩ (r_X12_far (D := D) (y := y) (o := om) (ad := ad) (av := av) e2 l _) (cwV 2 hts lc_113 rfl rfl rfl ⟨rfl, hd_X12_far.1, hd_X12_far.2.1, hd_X12_far.2.2⟩ ⟨Nat.le_of_ble_eq_true rfl, Nat.le_of_ble_eq_true rfl⟩) ⟨blZ, va_recv hK hM.1 (ci := 12) (q0 := 0) rfl rfl, prZ hK hN hV hA hM⟩ rfl rfl hl.1 rfl (lv_room (Nat.le_of_ble_eq_true rfl)) dL_law_971 ⟨by show cells + 0 + 0 ≤ 601024; omega, by show slots + 0 + 0 ≤ 7293034; omega⟩) hM.2.2 (fun q _ h => hF q h) hF (fun r2 u t H locs ht hvm hw hB hz1 hk1 hS => ?_)
  subst ht
  have hC := CZ.back hC hA hk1 hB.1 hB.2 hS
  refine lv_pop hx hb dL_law_974 rfl ?_
  refine lv_goto (tgt := 1003) hx hb dL_law_975 (by decide) ?_
  have hC : CZ D (ALs s) s _ _ (LWd y om ox a3 τ2 σ f) := hC
  exact kk _ _ σ τ2 f _ _ _ hJ2 hC (by omega) (by omega) hl

set_option maxHeartbeats 8000000 in
set_option maxRecDepth 100000 in
theorem law_case_20 {p : Program} {e : Env} {s : State} {m : MethodId} {below : List Frame} {meth : Method} {c : Code} (l : Launch) (hfl : l.stackTraces = false) {b L : Nat} {xs : Nat → Int32} (C0 : lw_At p s m meth c b L xs) {D : va_G} {y : Nat → ClassId} {ad av : Nat → Nat} {sa1 sa2 : Nat} (E0 : LEn D y ad av sa1 sa2 s) {om ox : Nat → Nat} {a3 : Nat} {H : Heap} {locs : List Loc} {cells slots : Nat} {σ τ : Sto} {f : Nat → Int64} (hJ : JT4 σ τ) (hC : CZ D (ALs s) s H locs (LWd y om ox a3 τ σ f)) (hc9 : cells + 1 ≤ 601024) (hs9 : slots + 6 ≤ 7293034) {i : Int32} (hi : 0 ≤ i.toInt) (hi2 : i.toInt + 7 ≤ (L : Int)) (hL : L ≤ 3584) {Q : State → Prop} (ls : Array Slot) (hl : lv_has ls 7 [(4, .int i), (3, .ref a3), (2, .ref (om 0)), (1, .ref (ox 0)), (0, .ref b)]) (kk : ∀ (H1 : Heap) (locs1 : List Loc) (σ1 τ1 : Sto) (f1 : Nat → Int64) (cells1 slots1 : Nat) (ls1 : Array Slot), JT4 σ1 τ1 → CZ D (ALs s) s H1 locs1 (LWd y om ox a3 τ1 σ1 f1) → cells1 ≤ cells + 1 → slots1 ≤ slots + 6 → lv_has ls1 7 [(4, .int i), (3, .ref a3), (2, .ref (om 0)), (1, .ref (ox 0)), (0, .ref b)] → W p l e room_1 s m #[Value.ref b] below meth c H1 locs1 cells1 slots1 Q (F0 m 1003 ls1 [])) : W p l e room_1 s m #[Value.ref b] below meth c H locs cells slots Q (F0 m 978 ls []) := by
  obtain ⟨hx, hb, hr, hml, hown, hts, hX, hbl, hlocks, hgv⟩ := C0
  obtain ⟨hK, hN, hV, hE1, hE2⟩ := E0
  have hown : s.vm.findClass RL = some m.cls := hown
  have hA : ∀ q : Nat, s.heap.size ≤ q → ALs s q := fun _ h => h
  have hbA : ¬ ALs s b := Nat.not_le.mpr hbl
  obtain ⟨v, w, τ2, e1, e2, hJ2⟩ := Q_most hJ (xs (i + 1).toNatClampNeg)
  refine lv_aload_n hx hb dL_law_978 rfl (lv_at hl 3 rfl) ?_
  refine lv_aload_n hx hb dL_law_979 rfl (lv_at hl 4 rfl) ?_
  refine lv_iload hx hb dL_law_980 (lv_at hl 0 rfl) ?_
  refine lv_iconst (v := 1) hx hb dL_law_982 (by decide) ?_
  refine lv_iadd hx hb dL_law_983 ?_
  refine va_sld hx hb hX hbl hbA hC.2.2 (vp_k hi hi2 hL 1 (by decide +kernel)) dL_law_984 ?_
  have hC : CZ D (ALs s) s _ _ (WM y om τ ++ (WX y ox σ ++ [(a3, .inl (y 3, 1, .inr (.inl f)))])) := hC
  have hM := CZ.mid hC
  have hF := frZ hM hA
  refine va_calli (va_runV (As := [.int (xs (i + 1).toNatClampNeg)]) (rest := []) ⟨hx, hb, hml, hown, hts⟩ (r_X11_most (D := D) (y := y) (o := ox) (ad := ad) (av := av) e1 l _) (cwV 1 hts lc_114 rfl rfl rfl ⟨rfl, hd_X11_most.1, hd_X11_most.2.1, hd_X11_most.2.2⟩ ⟨Nat.le_of_ble_eq_true rfl, Nat.le_of_ble_eq_true rfl⟩) ⟨blZ, va_recv hK hM.1 (ci := 11) (q0 := 0) rfl rfl, prZ hK hN hV hA hM⟩ rfl rfl hl.1 rfl (lv_room (Nat.le_of_ble_eq_true rfl)) dL_law_985 ⟨by show cells + 0 ≤ 601024; omega, by show slots + 0 ≤ 7293034; omega⟩) hM.2.2 (fun q _ h => hF q h) hF (fun r1 u t H locs ht hvm hw hB hz1 hk1 hS => ?_)
  subst ht
  have hC := CZ.back hC hA hk1 hB.1 hB.2 hS
  refine lv_pop hx hb dL_law_988 rfl ?_
  refine lv_aload_n hx hb dL_law_989 rfl (lv_at hl 2 rfl) ?_
  refine lv_aload_n hx hb dL_law_990 rfl (lv_at hl 4 rfl) ?_
  refine lv_iload hx hb dL_law_991 (lv_at hl 0 rfl) ?_
  refine lv_iconst (v := 1) hx hb dL_law_993 (by decide) ?_
  refine lv_iadd hx hb dL_law_994 ?_
  refine va_sld hx hb hX hbl hbA hC.2.2 (vp_k hi hi2 hL 1 (by decide +kernel)) dL_law_995 ?_
  have hC : CZ D (ALs s) s _ _ ([] ++ (WM y om τ ++ (WX y ox σ ++ [(a3, .inl (y 3, 1, .inr (.inl f)))]))) := hC
  have hM := CZ.mid hC
  have hF := frZ hM hA
  refine va_calli (va_runV (As := [.int (xs (i + 1).toNatClampNeg)]) (rest := []) ⟨hx, hb, hml, hown, hts⟩ (r_X12_most (D := D) (y := y) (o := om) (ad := ad) (av := av) e2 l _) (cwV 1 hts lc_117 rfl rfl rfl ⟨rfl, hd_X12_most.1, hd_X12_most.2.1, hd_X12_most.2.2⟩ ⟨Nat.le_of_ble_eq_true rfl, Nat.le_of_ble_eq_true rfl⟩) ⟨blZ, va_recv hK hM.1 (ci := 12) (q0 := 0) rfl rfl, prZ hK hN hV hA hM⟩ rfl rfl hl.1 rfl (lv_room (Nat.le_of_ble_eq_true rfl)) dL_law_996 ⟨by show cells + 0 + 0 ≤ 601024; omega, by show slots + 0 + 0 ≤ 7293034; omega⟩) hM.2.2 (fun q _ h => hF q h) hF (fun r2 u t H locs ht hvm hw hB hz1 hk1 hS => ?_)
  subst ht
  have hC := CZ.back hC hA hk1 hB.1 hB.2 hS
  refine lv_pop hx hb dL_law_999 rfl ?_
  refine lv_goto (tgt := 1003) hx hb dL_law_1000 (by decide) ?_
  have hC : CZ D (ALs s) s _ _ (LWd y om ox a3 τ2 σ f) := hC
  exact kk _ _ σ τ2 f _ _ _ hJ2 hC (by omega) (by omega) hl
