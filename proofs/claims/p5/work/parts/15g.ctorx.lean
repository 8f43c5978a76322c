set_option maxHeartbeats 8000000 in
set_option maxRecDepth 100000 in
theorem k_X11_init {D : va_G} {y : Nat → ClassId} (l : Launch) (h0 : Nat) (sz : Nat) : Met l yX11_init (Cond.code yX11_init cX11_init 1 none :: ALC) { frames := 2, cells := 77, slots := 10410, locals := 37 } (va_Pc [.ref h0] (PCn D y [(h0, .inr (11, [.null, .null, .null, .null, .null, .null, .null, .null, .null, .null, .null, .null, .int 0]))] sz)) (QCt D [(h0, .inr (11, [.null, .null, .null, .null, .null, .null, .null, .null, .null, .null, .null, .null, .int 0]))] (fun o => WX y (fun k => if k = 0 then h0 else o k) ZS) sz) 77 10410 (va_A [(h0, .inr (11, [.null, .null, .null, .null, .null, .null, .null, .null, .null, .null, .null, .null, .int 0]))] sz) := by
  refine Met.ofW (cc := cX11_init) (maxL := 1) (ret := none) (by decide) rfl ?_
  intro p e s m args below meth c s₁ B hml hv
  obtain ⟨rfl, ⟨hsz, hP, hK, hD0⟩, hN9, hN18, hN46⟩ := hv
  have hx := B.exec
  have hb := B.bytes
  have hts0 := atoms_spec (ws := Cond.code yX11_init cX11_init 1 none :: ALC) B.pre
  have hts : ∀ w ∈ ALC, w.before _ s = true := fun w hw => hts0 w (List.mem_cons_of_mem _ hw)
  have hown : s.vm.findClass RX11 = some m.cls := findClass_of_methodNamed B.named
  have hlocks := B.notSynchronized
  have hin : meth.name = "<init>" := (name_of_methodNamed B.named B.method).1
  subst hsz
  have hD := hD0.self (sz := s.heap.size)
  generalize hAe : va_A [(h0, .inr (11, [.null, .null, .null, .null, .null, .null, .null, .null, .null, .null, .null, .null, .int 0]))] s.heap.size = A at hD
  have hA : ∀ q : Nat, s.heap.size ≤ q → A q := fun q h => by rw [← hAe]; exact Or.inr h
  have hC : CZ D A s s.heap [] [(h0, .inr (11, [.null, .null, .null, .null, .null, .null, .null, .null, .null, .null, .null, .null, .int 0]))] := ⟨hP, hD, va_S.rf⟩
  have hl := lv_entry ([.ref h0]) (n := 1) (Nat.le_of_ble_eq_true rfl)
  rw [lg_entry_eq]
  generalize (lg_sl ([.ref h0]) ++ List.replicate (1 - (lg_sl ([.ref h0])).length) Slot.unset).toArray = ls at hl ⊢
  have hl : lv_has ls 1 [(0, .ref h0)] := hl
  refine lv_aload_n hx hb dX11_init_0 rfl (lv_at hl 0 rfl) ?_
  refine W.objInit hx hb hown (hts _ (ak 163 rfl)) (hts _ (ak 0 rfl)) (hts _ (ak 1 rfl)) rfl (by rw [hml]; exact hl.1) rfl dX11_init_1 (Nat.le_of_ble_eq_true rfl) (Nat.le_of_ble_eq_true rfl) ?_
  refine W.eq (g2 := F0 m 4 ls []) rfl ?_
  refine lv_aload_n hx hb dX11_init_4 rfl (lv_at hl 0 rfl) ?_
  refine va_new (ci := 9) (fs := [.null, .int 0, .int 0]) (C := RX9) (T := TX9) (N := 3) hx hb hts (ac ui_X9) tyX9 tyX9_ok hown (hts _ (ak 164 rfl)) (hts _ (ak 165 rfl)) (hts _ (ak 166 rfl)) hK hC.1 hC.2.1 hC.2.2 hA rfl (by decide) (Nat.le_of_ble_eq_true rfl) (Nat.le_of_ble_eq_true rfl) dX11_init_5 (fun q_1 H hP hD hS => ?_)
  have hC : CZ D A s H _ (((h0, .inr (11, [.null, .null, .null, .null, .null, .null, .null, .null, .null, .null, .null, .null, .int 0])) :: []) ++ ([(q_1, .inr (9, [.null, .int 0, .int 0]))] ++ [])) := ⟨hP, hD, hS⟩
  refine W.widen (k := 1) (n := 3) (Nat.le_of_ble_eq_true rfl) (Nat.le_of_ble_eq_true rfl) ?_
  refine lv_dup hx hb dX11_init_8 rfl ?_
  have hM := CZ.mid hC
  have hF := frZ hM hA
  refine va_callv (va_runIN (As := []) (rest := [.ref q_1, .ref h0]) ⟨hx, hb, hml, hown, hts⟩ (k_X9_init (D := D) (y := y) l q_1 H.size) ⟨va_cnB 0 hts (gi_c (ak 11 rfl)) rfl rfl rfl hN9 (hts _ (ak 166 rfl)) (by decide +kernel) ⟨Nat.le_of_ble_eq_true rfl, Nat.le_of_ble_eq_true rfl⟩, rfl, (hts _ (ak 167 rfl))⟩ ⟨blC, prC hK hM⟩ rfl rfl hl.1 rfl (lv_room (Nat.le_of_ble_eq_true rfl)) dX11_init_9 ⟨Nat.le_of_ble_eq_true rfl, Nat.le_of_ble_eq_true rfl⟩) hM.2.2 (fun q _ h => hF q h) hF (fun g_1 t H locs ht hvm hw hB hz1 hk1 hS => ?_)
  subst ht
  have hC := CZ.back hC hA hk1 hB.1 hB.2 hS
  obtain ⟨c_1, j_1⟩ : ∃ z : va_W, z = [] ++ (KX9 y q_1 g_1 ++ []) := ⟨_, rfl⟩
  have hC : CZ D A s t.heap locs ((h0, .inr (11, [.null, .null, .null, .null, .null, .null, .null, .null, .null, .null, .null, .null, .int 0])) :: c_1) := by rw [j_1]; exact hC
  refine W.widen (k := 2) (n := 243) (Nat.le_of_ble_eq_true rfl) (Nat.le_of_ble_eq_true rfl) ?_
  refine va_putF (ci := 11) (v := .ref q_1) (ty := .object "CodeLifter$Tape") (C := RX11) (T := TX11) (N := 13) hx hb hts (ac ui_X11) tyX11 tyX11_ok nmX11 hown hK hC.1 hC.2.1 hC.2.2 0 rfl rfl 0 (by decide) (hts _ (ak 168 rfl)) (fun _ h9 => h9) rfl hin rfl (by decide +kernel) rfl rfl (Nat.le_of_ble_eq_true rfl) dX11_init_12 (fun H locs hP hD hS => ?_)
  have hC : CZ D A s H _ ((h0, .inr (11, [.ref q_1, .null, .null, .null, .null, .null, .null, .null, .null, .null, .null, .null, .int 0])) :: c_1) := ⟨hP, hD, hS⟩
  refine lv_aload_n hx hb dX11_init_15 rfl (lv_at hl 0 rfl) ?_
  refine va_new (ci := 3) (fs := [.int 0, .int 0, .null, .null, .null, .null, .null, .null]) (C := RX3) (T := TX3) (N := 8) hx hb hts (ac ui_X3) tyX3 tyX3_ok hown (hts _ (ak 169 rfl)) (hts _ (ak 170 rfl)) (hts _ (ak 171 rfl)) hK hC.1 hC.2.1 hC.2.2 hA rfl (by decide) (Nat.le_of_ble_eq_true rfl) (Nat.le_of_ble_eq_true rfl) dX11_init_16 (fun q_2 H hP hD hS => ?_)
  have hC : CZ D A s H _ (((h0, .inr (11, [.ref q_1, .null, .null, .null, .null, .null, .null, .null, .null, .null, .null, .null, .int 0])) :: c_1) ++ ([(q_2, .inr (3, [.int 0, .int 0, .null, .null, .null, .null, .null, .null]))] ++ [])) := ⟨hP, hD, hS⟩
  refine W.widen (k := 3) (n := 251) (Nat.le_of_ble_eq_true rfl) (Nat.le_of_ble_eq_true rfl) ?_
  refine lv_dup hx hb dX11_init_19 rfl ?_
  have hM := CZ.mid hC
  have hF := frZ hM hA
  refine va_callv (va_runIN (As := []) (rest := [.ref q_2, .ref h0]) ⟨hx, hb, hml, hown, hts⟩ (k_X3_init (D := D) (y := y) l q_2 H.size) ⟨va_cnB 0 hts (gi_c (ak 5 rfl)) rfl rfl rfl hN18 (hts _ (ak 171 rfl)) (by decide +kernel) ⟨Nat.le_of_ble_eq_true rfl, Nat.le_of_ble_eq_true rfl⟩, rfl, (hts _ (ak 172 rfl))⟩ ⟨blC, prC hK hM⟩ rfl rfl hl.1 rfl (lv_room (Nat.le_of_ble_eq_true rfl)) dX11_init_20 ⟨Nat.le_of_ble_eq_true rfl, Nat.le_of_ble_eq_true rfl⟩) hM.2.2 (fun q _ h => hF q h) hF (fun g_2 t H locs ht hvm hw hB hz1 hk1 hS => ?_)
  subst ht
  have hC := CZ.back hC hA hk1 hB.1 hB.2 hS
  obtain ⟨c_2, j_2⟩ : ∃ z : va_W, z = c_1 ++ (KX3 y q_2 g_2 ++ []) := ⟨_, rfl⟩
  have hC : CZ D A s t.heap locs ((h0, .inr (11, [.ref q_1, .null, .null, .null, .null, .null, .null, .null, .null, .null, .null, .null, .int 0])) :: c_2) := by rw [j_2]; exact hC
  refine W.widen (k := 9) (n := 380) (Nat.le_of_ble_eq_true rfl) (Nat.le_of_ble_eq_true rfl) ?_
  refine va_putF (ci := 11) (v := .ref q_2) (ty := .object "CodeLifter$Listing") (C := RX11) (T := TX11) (N := 13) hx hb hts (ac ui_X11) tyX11 tyX11_ok nmX11 hown hK hC.1 hC.2.1 hC.2.2 0 rfl rfl 1 (by decide) (hts _ (ak 173 rfl)) (fun _ h9 => h9) rfl hin rfl (by decide +kernel) rfl rfl (Nat.le_of_ble_eq_true rfl) dX11_init_23 (fun H locs hP hD hS => ?_)
  have hC : CZ D A s H _ ((h0, .inr (11, [.ref q_1, .ref q_2, .null, .null, .null, .null, .null, .null, .null, .null, .null, .null, .int 0])) :: c_2) := ⟨hP, hD, hS⟩
  refine lv_aload_n hx hb dX11_init_26 rfl (lv_at hl 0 rfl) ?_
  refine va_new (ci := 3) (fs := [.int 0, .int 0, .null, .null, .null, .null, .null, .null]) (C := RX3) (T := TX3) (N := 8) hx hb hts (ac ui_X3) tyX3 tyX3_ok hown (hts _ (ak 169 rfl)) (hts _ (ak 170 rfl)) (hts _ (ak 171 rfl)) hK hC.1 hC.2.1 hC.2.2 hA rfl (by decide) (Nat.le_of_ble_eq_true rfl) (Nat.le_of_ble_eq_true rfl) dX11_init_27 (fun q_3 H hP hD hS => ?_)
  have hC : CZ D A s H _ (((h0, .inr (11, [.ref q_1, .ref q_2, .null, .null, .null, .null, .null, .null, .null, .null, .null, .null, .int 0])) :: c_2) ++ ([(q_3, .inr (3, [.int 0, .int 0, .null, .null, .null, .null, .null, .null]))] ++ [])) := ⟨hP, hD, hS⟩
  refine W.widen (k := 10) (n := 388) (Nat.le_of_ble_eq_true rfl) (Nat.le_of_ble_eq_true rfl) ?_
  refine lv_dup hx hb dX11_init_30 rfl ?_
  have hM := CZ.mid hC
  have hF := frZ hM hA
  refine va_callv (va_runIN (As := []) (rest := [.ref q_3, .ref h0]) ⟨hx, hb, hml, hown, hts⟩ (k_X3_init (D := D) (y := y) l q_3 H.size) ⟨va_cnB 0 hts (gi_c (ak 5 rfl)) rfl rfl rfl hN18 (hts _ (ak 171 rfl)) (by decide +kernel) ⟨Nat.le_of_ble_eq_true rfl, Nat.le_of_ble_eq_true rfl⟩, rfl, (hts _ (ak 172 rfl))⟩ ⟨blC, prC hK hM⟩ rfl rfl hl.1 rfl (lv_room (Nat.le_of_ble_eq_true rfl)) dX11_init_31 ⟨Nat.le_of_ble_eq_true rfl, Nat.le_of_ble_eq_true rfl⟩) hM.2.2 (fun q _ h => hF q h) hF (fun g_3 t H locs ht hvm hw hB hz1 hk1 hS => ?_)
  subst ht
  have hC := CZ.back hC hA hk1 hB.1 hB.2 hS
  obtain ⟨c_3, j_3⟩ : ∃ z : va_W, z = c_2 ++ (KX3 y q_3 g_3 ++ []) := ⟨_, rfl⟩
  have hC : CZ D A s t.heap locs ((h0, .inr (11, [.ref q_1, .ref q_2, .null, .null, .null, .null, .null, .null, .null, .null, .null, .null, .int 0])) :: c_3) := by rw [j_3]; exact hC
  refine W.widen (k := 16) (n := 517) (Nat.le_of_ble_eq_true rfl) (Nat.le_of_ble_eq_true rfl) ?_
  refine va_putF (ci := 11) (v := .ref q_3) (ty := .object "CodeLifter$Listing") (C := RX11) (T := TX11) (N := 13) hx hb hts (ac ui_X11) tyX11 tyX11_ok nmX11 hown hK hC.1 hC.2.1 hC.2.2 0 rfl rfl 2 (by decide) (hts _ (ak 174 rfl)) (fun _ h9 => h9) rfl hin rfl (by decide +kernel) rfl rfl (Nat.le_of_ble_eq_true rfl) dX11_init_34 (fun H locs hP hD hS => ?_)
  have hC : CZ D A s H _ ((h0, .inr (11, [.ref q_1, .ref q_2, .ref q_3, .null, .null, .null, .null, .null, .null, .null, .null, .null, .int 0])) :: c_3) := ⟨hP, hD, hS⟩
  refine lv_aload_n hx hb dX11_init_37 rfl (lv_at hl 0 rfl) ?_
  refine va_new (ci := 0) (fs := [.null, .int 0, .null, .null, .null, .null, .null, .null, .null, .int 0, .null, .null, .null, .null, .int 0, .null]) (C := RX0) (T := TX0) (N := 16) hx hb hts (ac ui_X0) tyX0 tyX0_ok hown (hts _ (ak 175 rfl)) (hts _ (ak 176 rfl)) (hts _ (ak 177 rfl)) hK hC.1 hC.2.1 hC.2.2 hA rfl (by decide) (Nat.le_of_ble_eq_true rfl) (Nat.le_of_ble_eq_true rfl) dX11_init_38 (fun q_4 H hP hD hS => ?_)
  have hC : CZ D A s H _ (((h0, .inr (11, [.ref q_1, .ref q_2, .ref q_3, .null, .null, .null, .null, .null, .null, .null, .null, .null, .int 0])) :: c_3) ++ ([(q_4, .inr (0, [.null, .int 0, .null, .null, .null, .null, .null, .null, .null, .int 0, .null, .null, .null, .null, .int 0, .null]))] ++ [])) := ⟨hP, hD, hS⟩
  refine W.widen (k := 17) (n := 533) (Nat.le_of_ble_eq_true rfl) (Nat.le_of_ble_eq_true rfl) ?_
  refine lv_dup hx hb dX11_init_41 rfl ?_
  refine lv_aload_n hx hb dX11_init_42 rfl (lv_at hl 0 rfl) ?_
  refine va_get (ci := 11) (v := .ref q_2) (C := RX11) (T := TX11) (N := 13) hx hb hts (ac ui_X11) hown hK hC.1 0 rfl rfl 1 (by decide) (hts _ (ak 173 rfl)) (fun _ h9 => h9) rfl dX11_init_43 ?_
  have hM := CZ.mid hC
  have hF := frZ hM hA
  refine va_callv (va_runI (As := [.ref q_2]) (rest := [.ref q_4, .ref h0]) ⟨hx, hb, hml, hown, hts⟩ (k_X0_init (D := D) (y := y) l q_4 q_2 H.size) (cwI 1 hts (gi_c (ak 2 rfl)) rfl rfl rfl (hts _ (ak 177 rfl)) (hts _ (ak 179 rfl)) (hts _ (ak 178 rfl)) rfl (by decide +kernel) ⟨Nat.le_of_ble_eq_true rfl, Nat.le_of_ble_eq_true rfl⟩) ⟨blC, prC hK hM⟩ rfl rfl hl.1 rfl (lv_room (Nat.le_of_ble_eq_true rfl)) dX11_init_46 ⟨Nat.le_of_ble_eq_true rfl, Nat.le_of_ble_eq_true rfl⟩) hM.2.2 (fun q _ h => hF q h) hF (fun g_4 t H locs ht hvm hw hB hz1 hk1 hS => ?_)
  subst ht
  have hC := CZ.back hC hA hk1 hB.1 hB.2 hS
  obtain ⟨c_4, j_4⟩ : ∃ z : va_W, z = c_3 ++ (KX0 y q_4 q_2 g_4 ++ []) := ⟨_, rfl⟩
  have hC : CZ D A s t.heap locs ((h0, .inr (11, [.ref q_1, .ref q_2, .ref q_3, .null, .null, .null, .null, .null, .null, .null, .null, .null, .int 0])) :: c_4) := by rw [j_4]; exact hC
  refine W.widen (k := 29) (n := 1255) (Nat.le_of_ble_eq_true rfl) (Nat.le_of_ble_eq_true rfl) ?_
  refine va_putF (ci := 11) (v := .ref q_4) (ty := .object "CodeLifter$Blocks") (C := RX11) (T := TX11) (N := 13) hx hb hts (ac ui_X11) tyX11 tyX11_ok nmX11 hown hK hC.1 hC.2.1 hC.2.2 0 rfl rfl 3 (by decide) (hts _ (ak 180 rfl)) (fun _ h9 => h9) rfl hin rfl (by decide +kernel) rfl rfl (Nat.le_of_ble_eq_true rfl) dX11_init_49 (fun H locs hP hD hS => ?_)
  have hC : CZ D A s H _ ((h0, .inr (11, [.ref q_1, .ref q_2, .ref q_3, .ref q_4, .null, .null, .null, .null, .null, .null, .null, .null, .int 0])) :: c_4) := ⟨hP, hD, hS⟩
  refine lv_aload_n hx hb dX11_init_52 rfl (lv_at hl 0 rfl) ?_
  refine va_new (ci := 8) (fs := [.null, .int 0, .int 0, .int 0, .null, .null, .null, .null, .null, .null, .long 0, .null, .long 0, .null, .null, .null, .null, .int 0]) (C := RX8) (T := TX8) (N := 18) hx hb hts (ac ui_X8) tyX8 tyX8_ok hown (hts _ (ak 181 rfl)) (hts _ (ak 182 rfl)) (hts _ (ak 183 rfl)) hK hC.1 hC.2.1 hC.2.2 hA rfl (by decide) (Nat.le_of_ble_eq_true rfl) (Nat.le_of_ble_eq_true rfl) dX11_init_53 (fun q_5 H hP hD hS => ?_)
  have hC : CZ D A s H _ (((h0, .inr (11, [.ref q_1, .ref q_2, .ref q_3, .ref q_4, .null, .null, .null, .null, .null, .null, .null, .null, .int 0])) :: c_4) ++ ([(q_5, .inr (8, [.null, .int 0, .int 0, .int 0, .null, .null, .null, .null, .null, .null, .long 0, .null, .long 0, .null, .null, .null, .null, .int 0]))] ++ [])) := ⟨hP, hD, hS⟩
  refine W.widen (k := 30) (n := 1273) (Nat.le_of_ble_eq_true rfl) (Nat.le_of_ble_eq_true rfl) ?_
  refine lv_dup hx hb dX11_init_56 rfl ?_
  refine lv_aload_n hx hb dX11_init_57 rfl (lv_at hl 0 rfl) ?_
  refine va_get (ci := 11) (v := .ref q_4) (C := RX11) (T := TX11) (N := 13) hx hb hts (ac ui_X11) hown hK hC.1 0 rfl rfl 3 (by decide) (hts _ (ak 180 rfl)) (fun _ h9 => h9) rfl dX11_init_58 ?_
  have hM := CZ.mid hC
  have hF := frZ hM hA
  refine va_callv (va_runI (As := [.ref q_4]) (rest := [.ref q_5, .ref h0]) ⟨hx, hb, hml, hown, hts⟩ (k_X8_init (D := D) (y := y) l q_5 q_4 H.size) (cwI 1 hts (gi_c (ak 10 rfl)) rfl rfl rfl (hts _ (ak 183 rfl)) (hts _ (ak 185 rfl)) (hts _ (ak 184 rfl)) rfl (by decide +kernel) ⟨Nat.le_of_ble_eq_true rfl, Nat.le_of_ble_eq_true rfl⟩) ⟨blC, prC hK hM⟩ rfl rfl hl.1 rfl (lv_room (Nat.le_of_ble_eq_true rfl)) dX11_init_61 ⟨Nat.le_of_ble_eq_true rfl, Nat.le_of_ble_eq_true rfl⟩) hM.2.2 (fun q _ h => hF q h) hF (fun g_5 t H locs ht hvm hw hB hz1 hk1 hS => ?_)
  subst ht
  have hC := CZ.back hC hA hk1 hB.1 hB.2 hS
  obtain ⟨c_5, j_5⟩ : ∃ z : va_W, z = c_4 ++ (KX8 y q_5 q_4 g_5 ++ []) := ⟨_, rfl⟩
  have hC : CZ D A s t.heap locs ((h0, .inr (11, [.ref q_1, .ref q_2, .ref q_3, .ref q_4, .null, .null, .null, .null, .null, .null, .null, .null, .int 0])) :: c_5) := by rw [j_5]; exact hC
  refine W.widen (k := 41) (n := 1953) (Nat.le_of_ble_eq_true rfl) (Nat.le_of_ble_eq_true rfl) ?_
  refine va_putF (ci := 11) (v := .ref q_5) (ty := .object "CodeLifter$Shape") (C := RX11) (T := TX11) (N := 13) hx hb hts (ac ui_X11) tyX11 tyX11_ok nmX11 hown hK hC.1 hC.2.1 hC.2.2 0 rfl rfl 4 (by decide) (hts _ (ak 186 rfl)) (fun _ h9 => h9) rfl hin rfl (by decide +kernel) rfl rfl (Nat.le_of_ble_eq_true rfl) dX11_init_64 (fun H locs hP hD hS => ?_)
  have hC : CZ D A s H _ ((h0, .inr (11, [.ref q_1, .ref q_2, .ref q_3, .ref q_4, .ref q_5, .null, .null, .null, .null, .null, .null, .null, .int 0])) :: c_5) := ⟨hP, hD, hS⟩
  refine lv_aload_n hx hb dX11_init_67 rfl (lv_at hl 0 rfl) ?_
  refine va_new (ci := 7) (fs := [.int 0, .null, .null, .null, .null, .null]) (C := RX7) (T := TX7) (N := 6) hx hb hts (ac ui_X7) tyX7 tyX7_ok hown (hts _ (ak 187 rfl)) (hts _ (ak 188 rfl)) (hts _ (ak 189 rfl)) hK hC.1 hC.2.1 hC.2.2 hA rfl (by decide) (Nat.le_of_ble_eq_true rfl) (Nat.le_of_ble_eq_true rfl) dX11_init_68 (fun q_6 H hP hD hS => ?_)
  have hC : CZ D A s H _ (((h0, .inr (11, [.ref q_1, .ref q_2, .ref q_3, .ref q_4, .ref q_5, .null, .null, .null, .null, .null, .null, .null, .int 0])) :: c_5) ++ ([(q_6, .inr (7, [.int 0, .null, .null, .null, .null, .null]))] ++ [])) := ⟨hP, hD, hS⟩
  refine W.widen (k := 42) (n := 1959) (Nat.le_of_ble_eq_true rfl) (Nat.le_of_ble_eq_true rfl) ?_
  refine lv_dup hx hb dX11_init_71 rfl ?_
  have hM := CZ.mid hC
  have hF := frZ hM hA
  refine va_callv (va_runIN (As := []) (rest := [.ref q_6, .ref h0]) ⟨hx, hb, hml, hown, hts⟩ (k_X7_init (D := D) (y := y) l q_6 H.size) ⟨va_cnB 0 hts (gi_c (ak 9 rfl)) rfl rfl rfl hN46 (hts _ (ak 189 rfl)) (by decide +kernel) ⟨Nat.le_of_ble_eq_true rfl, Nat.le_of_ble_eq_true rfl⟩, rfl, (hts _ (ak 190 rfl))⟩ ⟨blC, prC hK hM⟩ rfl rfl hl.1 rfl (lv_room (Nat.le_of_ble_eq_true rfl)) dX11_init_72 ⟨Nat.le_of_ble_eq_true rfl, Nat.le_of_ble_eq_true rfl⟩) hM.2.2 (fun q _ h => hF q h) hF (fun g_6 t H locs ht hvm hw hB hz1 hk1 hS => ?_)
  subst ht
  have hC := CZ.back hC hA hk1 hB.1 hB.2 hS
  obtain ⟨c_6, j_6⟩ : ∃ z : va_W, z = c_5 ++ (KX7 y q_6 g_6 ++ []) := ⟨_, rfl⟩
  have hC : CZ D A s t.heap locs ((h0, .inr (11, [.ref q_1, .ref q_2, .ref q_3, .ref q_4, .ref q_5, .null, .null, .null, .null, .null, .null, .null, .int 0])) :: c_6) := by rw [j_6]; exact hC
  refine W.widen (k := 47) (n := 4519) (Nat.le_of_ble_eq_true rfl) (Nat.le_of_ble_eq_true rfl) ?_
  refine va_putF (ci := 11) (v := .ref q_6) (ty := .object "CodeLifter$Pool") (C := RX11) (T := TX11) (N := 13) hx hb hts (ac ui_X11) tyX11 tyX11_ok nmX11 hown hK hC.1 hC.2.1 hC.2.2 0 rfl rfl 5 (by decide) (hts _ (ak 191 rfl)) (fun _ h9 => h9) rfl hin rfl (by decide +kernel) rfl rfl (Nat.le_of_ble_eq_true rfl) dX11_init_75 (fun H locs hP hD hS => ?_)
  have hC : CZ D A s H _ ((h0, .inr (11, [.ref q_1, .ref q_2, .ref q_3, .ref q_4, .ref q_5, .ref q_6, .null, .null, .null, .null, .null, .null, .int 0])) :: c_6) := ⟨hP, hD, hS⟩
  refine lv_aload_n hx hb dX11_init_78 rfl (lv_at hl 0 rfl) ?_
  refine va_new (ci := 1) (fs := [.null, .null, .null, .int 0, .null, .null, .null, .null, .null, .int 0, .int 0, .null, .int 0, .null]) (C := RX1) (T := TX1) (N := 14) hx hb hts (ac ui_X1) tyX1 tyX1_ok hown (hts _ (ak 192 rfl)) (hts _ (ak 193 rfl)) (hts _ (ak 194 rfl)) hK hC.1 hC.2.1 hC.2.2 hA rfl (by decide) (Nat.le_of_ble_eq_true rfl) (Nat.le_of_ble_eq_true rfl) dX11_init_79 (fun q_7 H hP hD hS => ?_)
  have hC : CZ D A s H _ (((h0, .inr (11, [.ref q_1, .ref q_2, .ref q_3, .ref q_4, .ref q_5, .ref q_6, .null, .null, .null, .null, .null, .null, .int 0])) :: c_6) ++ ([(q_7, .inr (1, [.null, .null, .null, .int 0, .null, .null, .null, .null, .null, .int 0, .int 0, .null, .int 0, .null]))] ++ [])) := ⟨hP, hD, hS⟩
  refine W.widen (k := 48) (n := 4533) (Nat.le_of_ble_eq_true rfl) (Nat.le_of_ble_eq_true rfl) ?_
  refine lv_dup hx hb dX11_init_82 rfl ?_
  refine lv_aload_n hx hb dX11_init_83 rfl (lv_at hl 0 rfl) ?_
  refine va_get (ci := 11) (v := .ref q_2) (C := RX11) (T := TX11) (N := 13) hx hb hts (ac ui_X11) hown hK hC.1 0 rfl rfl 1 (by decide) (hts _ (ak 173 rfl)) (fun _ h9 => h9) rfl dX11_init_84 ?_
  refine lv_aload_n hx hb dX11_init_87 rfl (lv_at hl 0 rfl) ?_
  refine va_get (ci := 11) (v := .ref q_4) (C := RX11) (T := TX11) (N := 13) hx hb hts (ac ui_X11) hown hK hC.1 0 rfl rfl 3 (by decide) (hts _ (ak 180 rfl)) (fun _ h9 => h9) rfl dX11_init_88 ?_
  refine lv_aload_n hx hb dX11_init_91 rfl (lv_at hl 0 rfl) ?_
  refine va_get (ci := 11) (v := .ref q_6) (C := RX11) (T := TX11) (N := 13) hx hb hts (ac ui_X11) hown hK hC.1 0 rfl rfl 5 (by decide) (hts _ (ak 191 rfl)) (fun _ h9 => h9) rfl dX11_init_92 ?_
  have hM := CZ.mid hC
  have hF := frZ hM hA
  refine va_callv (va_runI (As := [.ref q_2, .ref q_4, .ref q_6]) (rest := [.ref q_7, .ref h0]) ⟨hx, hb, hml, hown, hts⟩ (k_X1_init (D := D) (y := y) l q_7 q_2 q_4 q_6 H.size) (cwI 3 hts (gi_c (ak 3 rfl)) rfl rfl rfl (hts _ (ak 194 rfl)) (hts _ (ak 196 rfl)) (hts _ (ak 195 rfl)) rfl (by decide +kernel) ⟨Nat.le_of_ble_eq_true rfl, Nat.le_of_ble_eq_true rfl⟩) ⟨blC, prC hK hM⟩ rfl rfl hl.1 rfl (lv_room (Nat.le_of_ble_eq_true rfl)) dX11_init_95 ⟨Nat.le_of_ble_eq_true rfl, Nat.le_of_ble_eq_true rfl⟩) hM.2.2 (fun q _ h => hF q h) hF (fun g_7 t H locs ht hvm hw hB hz1 hk1 hS => ?_)
  subst ht
  have hC := CZ.back hC hA hk1 hB.1 hB.2 hS
  obtain ⟨c_7, j_7⟩ : ∃ z : va_W, z = c_6 ++ (KX1 y q_7 q_2 q_4 q_6 g_7 ++ []) := ⟨_, rfl⟩
  have hC : CZ D A s t.heap locs ((h0, .inr (11, [.ref q_1, .ref q_2, .ref q_3, .ref q_4, .ref q_5, .ref q_6, .null, .null, .null, .null, .null, .null, .int 0])) :: c_7) := by rw [j_7]; exact hC
  refine W.widen (k := 55) (n := 6094) (Nat.le_of_ble_eq_true rfl) (Nat.le_of_ble_eq_true rfl) ?_
  refine va_putF (ci := 11) (v := .ref q_7) (ty := .object "CodeLifter$Lifted") (C := RX11) (T := TX11) (N := 13) hx hb hts (ac ui_X11) tyX11 tyX11_ok nmX11 hown hK hC.1 hC.2.1 hC.2.2 0 rfl rfl 6 (by decide) (hts _ (ak 197 rfl)) (fun _ h9 => h9) rfl hin rfl (by decide +kernel) rfl rfl (Nat.le_of_ble_eq_true rfl) dX11_init_98 (fun H locs hP hD hS => ?_)
  have hC : CZ D A s H _ ((h0, .inr (11, [.ref q_1, .ref q_2, .ref q_3, .ref q_4, .ref q_5, .ref q_6, .ref q_7, .null, .null, .null, .null, .null, .int 0])) :: c_7) := ⟨hP, hD, hS⟩
  refine lv_aload_n hx hb dX11_init_101 rfl (lv_at hl 0 rfl) ?_
  refine va_new (ci := 10) (fs := [.null, .null, .null, .null, .null, .null]) (C := RX10) (T := TX10) (N := 6) hx hb hts (ac ui_X10) tyX10 tyX10_ok hown (hts _ (ak 198 rfl)) (hts _ (ak 199 rfl)) (hts _ (ak 200 rfl)) hK hC.1 hC.2.1 hC.2.2 hA rfl (by decide) (Nat.le_of_ble_eq_true rfl) (Nat.le_of_ble_eq_true rfl) dX11_init_102 (fun q_8 H hP hD hS => ?_)
  have hC : CZ D A s H _ (((h0, .inr (11, [.ref q_1, .ref q_2, .ref q_3, .ref q_4, .ref q_5, .ref q_6, .ref q_7, .null, .null, .null, .null, .null, .int 0])) :: c_7) ++ ([(q_8, .inr (10, [.null, .null, .null, .null, .null, .null]))] ++ [])) := ⟨hP, hD, hS⟩
  refine W.widen (k := 56) (n := 6100) (Nat.le_of_ble_eq_true rfl) (Nat.le_of_ble_eq_true rfl) ?_
  refine lv_dup hx hb dX11_init_105 rfl ?_
  refine lv_aload_n hx hb dX11_init_106 rfl (lv_at hl 0 rfl) ?_
  refine va_get (ci := 11) (v := .ref q_4) (C := RX11) (T := TX11) (N := 13) hx hb hts (ac ui_X11) hown hK hC.1 0 rfl rfl 3 (by decide) (hts _ (ak 180 rfl)) (fun _ h9 => h9) rfl dX11_init_107 ?_
  refine lv_aload_n hx hb dX11_init_110 rfl (lv_at hl 0 rfl) ?_
  refine va_get (ci := 11) (v := .ref q_6) (C := RX11) (T := TX11) (N := 13) hx hb hts (ac ui_X11) hown hK hC.1 0 rfl rfl 5 (by decide) (hts _ (ak 191 rfl)) (fun _ h9 => h9) rfl dX11_init_111 ?_
  refine lv_aload_n hx hb dX11_init_114 rfl (lv_at hl 0 rfl) ?_
  refine va_get (ci := 11) (v := .ref q_7) (C := RX11) (T := TX11) (N := 13) hx hb hts (ac ui_X11) hown hK hC.1 0 rfl rfl 6 (by decide) (hts _ (ak 197 rfl)) (fun _ h9 => h9) rfl dX11_init_115 ?_
  have hM := CZ.mid hC
  have hF := frZ hM hA
  refine va_callv (va_runI (As := [.ref q_4, .ref q_6, .ref q_7]) (rest := [.ref q_8, .ref h0]) ⟨hx, hb, hml, hown, hts⟩ (k_X10_init (D := D) (y := y) l q_8 q_4 q_6 q_7 H.size) (cwI 3 hts (gi_c (ak 12 rfl)) rfl rfl rfl (hts _ (ak 200 rfl)) (hts _ (ak 202 rfl)) (hts _ (ak 201 rfl)) rfl (by decide +kernel) ⟨Nat.le_of_ble_eq_true rfl, Nat.le_of_ble_eq_true rfl⟩) ⟨blC, prC hK hM⟩ rfl rfl hl.1 rfl (lv_room (Nat.le_of_ble_eq_true rfl)) dX11_init_118 ⟨Nat.le_of_ble_eq_true rfl, Nat.le_of_ble_eq_true rfl⟩) hM.2.2 (fun q _ h => hF q h) hF (fun g_8 t H locs ht hvm hw hB hz1 hk1 hS => ?_)
  subst ht
  have hC := CZ.back hC hA hk1 hB.1 hB.2 hS
  obtain ⟨c_8, j_8⟩ : ∃ z : va_W, z = c_7 ++ (KX10 y q_8 q_4 q_6 q_7 g_8 ++ []) := ⟨_, rfl⟩
  have hC : CZ D A s t.heap locs ((h0, .inr (11, [.ref q_1, .ref q_2, .ref q_3, .ref q_4, .ref q_5, .ref q_6, .ref q_7, .null, .null, .null, .null, .null, .int 0])) :: c_8) := by rw [j_8]; exact hC
  refine W.widen (k := 59) (n := 6272) (Nat.le_of_ble_eq_true rfl) (Nat.le_of_ble_eq_true rfl) ?_
  refine va_putF (ci := 11) (v := .ref q_8) (ty := .object "CodeLifter$Truths") (C := RX11) (T := TX11) (N := 13) hx hb hts (ac ui_X11) tyX11 tyX11_ok nmX11 hown hK hC.1 hC.2.1 hC.2.2 0 rfl rfl 7 (by decide) (hts _ (ak 203 rfl)) (fun _ h9 => h9) rfl hin rfl (by decide +kernel) rfl rfl (Nat.le_of_ble_eq_true rfl) dX11_init_121 (fun H locs hP hD hS => ?_)
  have hC : CZ D A s H _ ((h0, .inr (11, [.ref q_1, .ref q_2, .ref q_3, .ref q_4, .ref q_5, .ref q_6, .ref q_7, .ref q_8, .null, .null, .null, .null, .int 0])) :: c_8) := ⟨hP, hD, hS⟩
  refine lv_aload_n hx hb dX11_init_124 rfl (lv_at hl 0 rfl) ?_
  refine va_new (ci := 4) (fs := [.null, .null, .null, .null, .long 0]) (C := RX4) (T := TX4) (N := 5) hx hb hts (ac ui_X4) tyX4 tyX4_ok hown (hts _ (ak 204 rfl)) (hts _ (ak 205 rfl)) (hts _ (ak 206 rfl)) hK hC.1 hC.2.1 hC.2.2 hA rfl (by decide) (Nat.le_of_ble_eq_true rfl) (Nat.le_of_ble_eq_true rfl) dX11_init_125 (fun q_9 H hP hD hS => ?_)
  have hC : CZ D A s H _ (((h0, .inr (11, [.ref q_1, .ref q_2, .ref q_3, .ref q_4, .ref q_5, .ref q_6, .ref q_7, .ref q_8, .null, .null, .null, .null, .int 0])) :: c_8) ++ ([(q_9, .inr (4, [.null, .null, .null, .null, .long 0]))] ++ [])) := ⟨hP, hD, hS⟩
  refine W.widen (k := 60) (n := 6277) (Nat.le_of_ble_eq_true rfl) (Nat.le_of_ble_eq_true rfl) ?_
  refine lv_dup hx hb dX11_init_128 rfl ?_
  refine lv_aload_n hx hb dX11_init_129 rfl (lv_at hl 0 rfl) ?_
  refine va_get (ci := 11) (v := .ref q_2) (C := RX11) (T := TX11) (N := 13) hx hb hts (ac ui_X11) hown hK hC.1 0 rfl rfl 1 (by decide) (hts _ (ak 173 rfl)) (fun _ h9 => h9) rfl dX11_init_130 ?_
  refine lv_aload_n hx hb dX11_init_133 rfl (lv_at hl 0 rfl) ?_
  refine va_get (ci := 11) (v := .ref q_4) (C := RX11) (T := TX11) (N := 13) hx hb hts (ac ui_X11) hown hK hC.1 0 rfl rfl 3 (by decide) (hts _ (ak 180 rfl)) (fun _ h9 => h9) rfl dX11_init_134 ?_
  have hM := CZ.mid hC
  have hF := frZ hM hA
  refine va_callv (va_runI (As := [.ref q_2, .ref q_4]) (rest := [.ref q_9, .ref h0]) ⟨hx, hb, hml, hown, hts⟩ (k_X4_init (D := D) (y := y) l q_9 q_2 q_4 H.size) (cwI 2 hts (gi_c (ak 6 rfl)) rfl rfl rfl (hts _ (ak 206 rfl)) (hts _ (ak 208 rfl)) (hts _ (ak 207 rfl)) rfl (by decide +kernel) ⟨Nat.le_of_ble_eq_true rfl, Nat.le_of_ble_eq_true rfl⟩) ⟨blC, prC hK hM⟩ rfl rfl hl.1 rfl (lv_room (Nat.le_of_ble_eq_true rfl)) dX11_init_137 ⟨Nat.le_of_ble_eq_true rfl, Nat.le_of_ble_eq_true rfl⟩) hM.2.2 (fun q _ h => hF q h) hF (fun g_9 t H locs ht hvm hw hB hz1 hk1 hS => ?_)
  subst ht
  have hC := CZ.back hC hA hk1 hB.1 hB.2 hS
  obtain ⟨c_9, j_9⟩ : ∃ z : va_W, z = c_8 ++ (KX4 y q_9 q_2 q_4 g_9 ++ []) := ⟨_, rfl⟩
  have hC : CZ D A s t.heap locs ((h0, .inr (11, [.ref q_1, .ref q_2, .ref q_3, .ref q_4, .ref q_5, .ref q_6, .ref q_7, .ref q_8, .null, .null, .null, .null, .int 0])) :: c_9) := by rw [j_9]; exact hC
  refine W.widen (k := 62) (n := 6357) (Nat.le_of_ble_eq_true rfl) (Nat.le_of_ble_eq_true rfl) ?_
  refine va_putF (ci := 11) (v := .ref q_9) (ty := .object "CodeLifter$Liveness") (C := RX11) (T := TX11) (N := 13) hx hb hts (ac ui_X11) tyX11 tyX11_ok nmX11 hown hK hC.1 hC.2.1 hC.2.2 0 rfl rfl 8 (by decide) (hts _ (ak 209 rfl)) (fun _ h9 => h9) rfl hin rfl (by decide +kernel) rfl rfl (Nat.le_of_ble_eq_true rfl) dX11_init_140 (fun H locs hP hD hS => ?_)
  have hC : CZ D A s H _ ((h0, .inr (11, [.ref q_1, .ref q_2, .ref q_3, .ref q_4, .ref q_5, .ref q_6, .ref q_7, .ref q_8, .ref q_9, .null, .null, .null, .int 0])) :: c_9) := ⟨hP, hD, hS⟩
  refine lv_aload_n hx hb dX11_init_143 rfl (lv_at hl 0 rfl) ?_
  refine va_new (ci := 2) (fs := [.null, .null, .null, .int 0, .null, .null, .null, .null, .null, .null, .null, .null, .int 0]) (C := RX2) (T := TX2) (N := 13) hx hb hts (ac ui_X2) tyX2 tyX2_ok hown (hts _ (ak 210 rfl)) (hts _ (ak 211 rfl)) (hts _ (ak 212 rfl)) hK hC.1 hC.2.1 hC.2.2 hA rfl (by decide) (Nat.le_of_ble_eq_true rfl) (Nat.le_of_ble_eq_true rfl) dX11_init_144 (fun q_10 H hP hD hS => ?_)
  have hC : CZ D A s H _ (((h0, .inr (11, [.ref q_1, .ref q_2, .ref q_3, .ref q_4, .ref q_5, .ref q_6, .ref q_7, .ref q_8, .ref q_9, .null, .null, .null, .int 0])) :: c_9) ++ ([(q_10, .inr (2, [.null, .null, .null, .int 0, .null, .null, .null, .null, .null, .null, .null, .null, .int 0]))] ++ [])) := ⟨hP, hD, hS⟩
  refine W.widen (k := 63) (n := 6370) (Nat.le_of_ble_eq_true rfl) (Nat.le_of_ble_eq_true rfl) ?_
  refine lv_dup hx hb dX11_init_147 rfl ?_
  refine lv_aload_n hx hb dX11_init_148 rfl (lv_at hl 0 rfl) ?_
  refine va_get (ci := 11) (v := .ref q_4) (C := RX11) (T := TX11) (N := 13) hx hb hts (ac ui_X11) hown hK hC.1 0 rfl rfl 3 (by decide) (hts _ (ak 180 rfl)) (fun _ h9 => h9) rfl dX11_init_149 ?_
  refine lv_aload_n hx hb dX11_init_152 rfl (lv_at hl 0 rfl) ?_
  refine va_get (ci := 11) (v := .ref q_5) (C := RX11) (T := TX11) (N := 13) hx hb hts (ac ui_X11) hown hK hC.1 0 rfl rfl 4 (by decide) (hts _ (ak 186 rfl)) (fun _ h9 => h9) rfl dX11_init_153 ?_
  refine lv_aload_n hx hb dX11_init_156 rfl (lv_at hl 0 rfl) ?_
  refine va_get (ci := 11) (v := .ref q_7) (C := RX11) (T := TX11) (N := 13) hx hb hts (ac ui_X11) hown hK hC.1 0 rfl rfl 6 (by decide) (hts _ (ak 197 rfl)) (fun _ h9 => h9) rfl dX11_init_157 ?_
  have hM := CZ.mid hC
  have hF := frZ hM hA
  refine va_callv (va_runI (As := [.ref q_4, .ref q_5, .ref q_7]) (rest := [.ref q_10, .ref h0]) ⟨hx, hb, hml, hown, hts⟩ (k_X2_init (D := D) (y := y) l q_10 q_4 q_5 q_7 H.size) (cwI 3 hts (gi_c (ak 4 rfl)) rfl rfl rfl (hts _ (ak 212 rfl)) (hts _ (ak 214 rfl)) (hts _ (ak 213 rfl)) rfl (by decide +kernel) ⟨Nat.le_of_ble_eq_true rfl, Nat.le_of_ble_eq_true rfl⟩) ⟨blC, prC hK hM⟩ rfl rfl hl.1 rfl (lv_room (Nat.le_of_ble_eq_true rfl)) dX11_init_160 ⟨Nat.le_of_ble_eq_true rfl, Nat.le_of_ble_eq_true rfl⟩) hM.2.2 (fun q _ h => hF q h) hF (fun g_10 t H locs ht hvm hw hB hz1 hk1 hS => ?_)
  subst ht
  have hC := CZ.back hC hA hk1 hB.1 hB.2 hS
  obtain ⟨c_10, j_10⟩ : ∃ z : va_W, z = c_9 ++ (KX2 y q_10 q_4 q_5 q_7 g_10 ++ []) := ⟨_, rfl⟩
  have hC : CZ D A s t.heap locs ((h0, .inr (11, [.ref q_1, .ref q_2, .ref q_3, .ref q_4, .ref q_5, .ref q_6, .ref q_7, .ref q_8, .ref q_9, .null, .null, .null, .int 0])) :: c_10) := by rw [j_10]; exact hC
  refine W.widen (k := 71) (n := 9810) (Nat.le_of_ble_eq_true rfl) (Nat.le_of_ble_eq_true rfl) ?_
  refine va_putF (ci := 11) (v := .ref q_10) (ty := .object "CodeLifter$Lines") (C := RX11) (T := TX11) (N := 13) hx hb hts (ac ui_X11) tyX11 tyX11_ok nmX11 hown hK hC.1 hC.2.1 hC.2.2 0 rfl rfl 9 (by decide) (hts _ (ak 215 rfl)) (fun _ h9 => h9) rfl hin rfl (by decide +kernel) rfl rfl (Nat.le_of_ble_eq_true rfl) dX11_init_163 (fun H locs hP hD hS => ?_)
  have hC : CZ D A s H _ ((h0, .inr (11, [.ref q_1, .ref q_2, .ref q_3, .ref q_4, .ref q_5, .ref q_6, .ref q_7, .ref q_8, .ref q_9, .ref q_10, .null, .null, .int 0])) :: c_10) := ⟨hP, hD, hS⟩
  refine lv_aload_n hx hb dX11_init_166 rfl (lv_at hl 0 rfl) ?_
  refine va_new (ci := 5) (fs := [.null, .null, .null, .null, .null, .null, .null, .null, .int 0, .int 0, .int 0, .int 0, .int 0, .int 0, .int 0, .int 0, .int 0, .int 0, .int 0, .int 0]) (C := RX5) (T := TX5) (N := 20) hx hb hts (ac ui_X5) tyX5 tyX5_ok hown (hts _ (ak 216 rfl)) (hts _ (ak 217 rfl)) (hts _ (ak 218 rfl)) hK hC.1 hC.2.1 hC.2.2 hA rfl (by decide) (Nat.le_of_ble_eq_true rfl) (Nat.le_of_ble_eq_true rfl) dX11_init_167 (fun q_11 H hP hD hS => ?_)
  have hC : CZ D A s H _ (((h0, .inr (11, [.ref q_1, .ref q_2, .ref q_3, .ref q_4, .ref q_5, .ref q_6, .ref q_7, .ref q_8, .ref q_9, .ref q_10, .null, .null, .int 0])) :: c_10) ++ ([(q_11, .inr (5, [.null, .null, .null, .null, .null, .null, .null, .null, .int 0, .int 0, .int 0, .int 0, .int 0, .int 0, .int 0, .int 0, .int 0, .int 0, .int 0, .int 0]))] ++ [])) := ⟨hP, hD, hS⟩
  refine W.widen (k := 72) (n := 9830) (Nat.le_of_ble_eq_true rfl) (Nat.le_of_ble_eq_true rfl) ?_
  refine lv_dup hx hb dX11_init_170 rfl ?_
  refine lv_aload_n hx hb dX11_init_171 rfl (lv_at hl 0 rfl) ?_
  refine va_get (ci := 11) (v := .ref q_2) (C := RX11) (T := TX11) (N := 13) hx hb hts (ac ui_X11) hown hK hC.1 0 rfl rfl 1 (by decide) (hts _ (ak 173 rfl)) (fun _ h9 => h9) rfl dX11_init_172 ?_
  refine lv_aload_n hx hb dX11_init_175 rfl (lv_at hl 0 rfl) ?_
  refine va_get (ci := 11) (v := .ref q_4) (C := RX11) (T := TX11) (N := 13) hx hb hts (ac ui_X11) hown hK hC.1 0 rfl rfl 3 (by decide) (hts _ (ak 180 rfl)) (fun _ h9 => h9) rfl dX11_init_176 ?_
  refine lv_aload_n hx hb dX11_init_179 rfl (lv_at hl 0 rfl) ?_
  refine va_get (ci := 11) (v := .ref q_6) (C := RX11) (T := TX11) (N := 13) hx hb hts (ac ui_X11) hown hK hC.1 0 rfl rfl 5 (by decide) (hts _ (ak 191 rfl)) (fun _ h9 => h9) rfl dX11_init_180 ?_
  refine lv_aload_n hx hb dX11_init_183 rfl (lv_at hl 0 rfl) ?_
  refine va_get (ci := 11) (v := .ref q_7) (C := RX11) (T := TX11) (N := 13) hx hb hts (ac ui_X11) hown hK hC.1 0 rfl rfl 6 (by decide) (hts _ (ak 197 rfl)) (fun _ h9 => h9) rfl dX11_init_184 ?_
  refine lv_aload_n hx hb dX11_init_187 rfl (lv_at hl 0 rfl) ?_
  refine va_get (ci := 11) (v := .ref q_10) (C := RX11) (T := TX11) (N := 13) hx hb hts (ac ui_X11) hown hK hC.1 0 rfl rfl 9 (by decide) (hts _ (ak 215 rfl)) (fun _ h9 => h9) rfl dX11_init_188 ?_
  have hM := CZ.mid hC
  have hF := frZ hM hA
  refine va_callv (va_runI (As := [.ref q_2, .ref q_4, .ref q_6, .ref q_7, .ref q_10]) (rest := [.ref q_11, .ref h0]) ⟨hx, hb, hml, hown, hts⟩ (k_X5_init (D := D) (y := y) l q_11 q_2 q_4 q_6 q_7 q_10 H.size) (cwI 5 hts (gi_c (ak 7 rfl)) rfl rfl rfl (hts _ (ak 218 rfl)) (hts _ (ak 220 rfl)) (hts _ (ak 219 rfl)) rfl (by decide +kernel) ⟨Nat.le_of_ble_eq_true rfl, Nat.le_of_ble_eq_true rfl⟩) ⟨blC, prC hK hM⟩ rfl rfl hl.1 rfl (lv_room (Nat.le_of_ble_eq_true rfl)) dX11_init_191 ⟨Nat.le_of_ble_eq_true rfl, Nat.le_of_ble_eq_true rfl⟩) hM.2.2 (fun q _ h => hF q h) hF (fun g_11 t H locs ht hvm hw hB hz1 hk1 hS => ?_)
  subst ht
  have hC := CZ.back hC hA hk1 hB.1 hB.2 hS
  obtain ⟨c_11, j_11⟩ : ∃ z : va_W, z = c_10 ++ (KX5 y q_11 q_2 q_4 q_6 q_7 q_10 g_11 ++ []) := ⟨_, rfl⟩
  have hC : CZ D A s t.heap locs ((h0, .inr (11, [.ref q_1, .ref q_2, .ref q_3, .ref q_4, .ref q_5, .ref q_6, .ref q_7, .ref q_8, .ref q_9, .ref q_10, .null, .null, .int 0])) :: c_11) := by rw [j_11]; exact hC
  refine W.widen (k := 75) (n := 10005) (Nat.le_of_ble_eq_true rfl) (Nat.le_of_ble_eq_true rfl) ?_
  refine va_putF (ci := 11) (v := .ref q_11) (ty := .object "CodeLifter$Machine") (C := RX11) (T := TX11) (N := 13) hx hb hts (ac ui_X11) tyX11 tyX11_ok nmX11 hown hK hC.1 hC.2.1 hC.2.2 0 rfl rfl 10 (by decide) (hts _ (ak 221 rfl)) (fun _ h9 => h9) rfl hin rfl (by decide +kernel) rfl rfl (Nat.le_of_ble_eq_true rfl) dX11_init_194 (fun H locs hP hD hS => ?_)
  have hC : CZ D A s H _ ((h0, .inr (11, [.ref q_1, .ref q_2, .ref q_3, .ref q_4, .ref q_5, .ref q_6, .ref q_7, .ref q_8, .ref q_9, .ref q_10, .ref q_11, .null, .int 0])) :: c_11) := ⟨hP, hD, hS⟩
  refine lv_aload_n hx hb dX11_init_197 rfl (lv_at hl 0 rfl) ?_
  refine va_new (ci := 6) (fs := [.null, .null, .null, .null, .int 0]) (C := RX6) (T := TX6) (N := 5) hx hb hts (ac ui_X6) tyX6 tyX6_ok hown (hts _ (ak 222 rfl)) (hts _ (ak 223 rfl)) (hts _ (ak 224 rfl)) hK hC.1 hC.2.1 hC.2.2 hA rfl (by decide) (Nat.le_of_ble_eq_true rfl) (Nat.le_of_ble_eq_true rfl) dX11_init_198 (fun q_12 H hP hD hS => ?_)
  have hC : CZ D A s H _ (((h0, .inr (11, [.ref q_1, .ref q_2, .ref q_3, .ref q_4, .ref q_5, .ref q_6, .ref q_7, .ref q_8, .ref q_9, .ref q_10, .ref q_11, .null, .int 0])) :: c_11) ++ ([(q_12, .inr (6, [.null, .null, .null, .null, .int 0]))] ++ [])) := ⟨hP, hD, hS⟩
  refine W.widen (k := 76) (n := 10010) (Nat.le_of_ble_eq_true rfl) (Nat.le_of_ble_eq_true rfl) ?_
  refine lv_dup hx hb dX11_init_201 rfl ?_
  refine lv_aload_n hx hb dX11_init_202 rfl (lv_at hl 0 rfl) ?_
  refine va_get (ci := 11) (v := .ref q_6) (C := RX11) (T := TX11) (N := 13) hx hb hts (ac ui_X11) hown hK hC.1 0 rfl rfl 5 (by decide) (hts _ (ak 191 rfl)) (fun _ h9 => h9) rfl dX11_init_203 ?_
  refine lv_aload_n hx hb dX11_init_206 rfl (lv_at hl 0 rfl) ?_
  refine va_get (ci := 11) (v := .ref q_7) (C := RX11) (T := TX11) (N := 13) hx hb hts (ac ui_X11) hown hK hC.1 0 rfl rfl 6 (by decide) (hts _ (ak 197 rfl)) (fun _ h9 => h9) rfl dX11_init_207 ?_
  refine lv_aload_n hx hb dX11_init_210 rfl (lv_at hl 0 rfl) ?_
  refine va_get (ci := 11) (v := .ref q_10) (C := RX11) (T := TX11) (N := 13) hx hb hts (ac ui_X11) hown hK hC.1 0 rfl rfl 9 (by decide) (hts _ (ak 215 rfl)) (fun _ h9 => h9) rfl dX11_init_211 ?_
  have hM := CZ.mid hC
  have hF := frZ hM hA
  refine va_callv (va_runI (As := [.ref q_6, .ref q_7, .ref q_10]) (rest := [.ref q_12, .ref h0]) ⟨hx, hb, hml, hown, hts⟩ (k_X6_init (D := D) (y := y) l q_12 q_6 q_7 q_10 H.size) (cwI 3 hts (gi_c (ak 8 rfl)) rfl rfl rfl (hts _ (ak 224 rfl)) (hts _ (ak 226 rfl)) (hts _ (ak 225 rfl)) rfl (by decide +kernel) ⟨Nat.le_of_ble_eq_true rfl, Nat.le_of_ble_eq_true rfl⟩) ⟨blC, prC hK hM⟩ rfl rfl hl.1 rfl (lv_room (Nat.le_of_ble_eq_true rfl)) dX11_init_214 ⟨Nat.le_of_ble_eq_true rfl, Nat.le_of_ble_eq_true rfl⟩) hM.2.2 (fun q _ h => hF q h) hF (fun g_12 t H locs ht hvm hw hB hz1 hk1 hS => ?_)
  subst ht
  have hC := CZ.back hC hA hk1 hB.1 hB.2 hS
  obtain ⟨c_12, j_12⟩ : ∃ z : va_W, z = c_11 ++ (KX6 y q_12 q_6 q_7 q_10 g_12 ++ []) := ⟨_, rfl⟩
  have hC : CZ D A s t.heap locs ((h0, .inr (11, [.ref q_1, .ref q_2, .ref q_3, .ref q_4, .ref q_5, .ref q_6, .ref q_7, .ref q_8, .ref q_9, .ref q_10, .ref q_11, .null, .int 0])) :: c_12) := by rw [j_12]; exact hC
  refine W.widen (k := 77) (n := 10410) (Nat.le_of_ble_eq_true rfl) (Nat.le_of_ble_eq_true rfl) ?_
  refine va_putF (ci := 11) (v := .ref q_12) (ty := .object "CodeLifter$Pen") (C := RX11) (T := TX11) (N := 13) hx hb hts (ac ui_X11) tyX11 tyX11_ok nmX11 hown hK hC.1 hC.2.1 hC.2.2 0 rfl rfl 11 (by decide) (hts _ (ak 227 rfl)) (fun _ h9 => h9) rfl hin rfl (by decide +kernel) rfl rfl (Nat.le_of_ble_eq_true rfl) dX11_init_217 (fun H locs hP hD hS => ?_)
  have hC : CZ D A s H _ ((h0, .inr (11, [.ref q_1, .ref q_2, .ref q_3, .ref q_4, .ref q_5, .ref q_6, .ref q_7, .ref q_8, .ref q_9, .ref q_10, .ref q_11, .ref q_12, .int 0])) :: c_12) := ⟨hP, hD, hS⟩
  refine lv_aload_n hx hb dX11_init_220 rfl (lv_at hl 0 rfl) ?_
  refine lv_iconst (v := 0) hx hb dX11_init_221 (by decide) ?_
  refine va_put (ci := 11) (v := .int 0) (ty := .boolean) (C := RX11) (T := TX11) (N := 13) hx hb hts (ac ui_X11) tyX11 tyX11_ok nmX11 hown hK hC.1 hC.2.1 hC.2.2 0 rfl rfl 12 (by decide) (hts _ (ak 228 rfl)) (fun _ h9 => h9) rfl (by decide +kernel) rfl rfl (Nat.le_of_ble_eq_true rfl) dX11_init_222 (fun H locs hP hD hS => ?_)
  have hC : CZ D A s H _ ((h0, .inr (11, [.ref q_1, .ref q_2, .ref q_3, .ref q_4, .ref q_5, .ref q_6, .ref q_7, .ref q_8, .ref q_9, .ref q_10, .ref q_11, .ref q_12, .int 0])) :: c_12) := ⟨hP, hD, hS⟩
  subst j_1 j_2 j_3 j_4 j_5 j_6 j_7 j_8 j_9 j_10 j_11 j_12
  refine W.vret B.exec B.bytes B.returns (fun t ht hW => ⟨⟨fun k => ([h0, q_1, g_1 0, q_2, g_2 0, g_2 1, g_2 2, g_2 3, g_2 4, g_2 5, q_3, g_3 0, g_3 1, g_3 2, g_3 3, g_3 4, g_3 5, q_4, g_4 0, g_4 1, g_4 2, g_4 3, g_4 4, g_4 5, g_4 6, g_4 7, g_4 8, g_4 9, g_4 10, g_4 11, q_5, g_5 0, g_5 1, g_5 2, g_5 3, g_5 4, g_5 5, g_5 6, g_5 7, g_5 8, g_5 9, g_5 10, q_6, g_6 0, g_6 1, g_6 2, g_6 3, g_6 4, q_7, g_7 0, g_7 1, g_7 2, g_7 3, g_7 4, g_7 5, g_7 6, q_8, g_8 0, g_8 1, g_8 2, q_9, g_9 0, g_9 1, q_10, g_10 0, g_10 1, g_10 2, g_10 3, g_10 4, g_10 5, g_10 6, g_10 7, q_11, g_11 0, g_11 1, g_11 2, q_12, g_12 0] : List Nat).getD k 0, rfl, trivial, by rw [ht]; exact hC.1, ?_⟩, ?_⟩) ?_ dX11_init_225
  · exact hC.2.2.2.2
  · rw [hAe]; exact hC.2.1
  · rw [hAe]; exact hC.2.2.F ht
