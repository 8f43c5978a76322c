def KX0 (y : Nat → ClassId) (h0 h1 : Nat) (g : Nat → Nat) : va_W := [(h0, .inr (0, [.ref h1, .int 0, .ref (g 0), .ref (g 1), .ref (g 2), .ref (g 3), .ref (g 4), .ref (g 5), .ref (g 6), .int 0, .ref (g 7), .ref (g 8), .ref (g 9), .ref (g 10), .int 0, .ref (g 11)])), (g 0, .inl (y 0, 40, .inl (fun _ => 0))), (g 1, .inl (y 0, 40, .inl (fun _ => 0))), (g 2, .inl (y 0, 40, .inl (fun _ => 0))), (g 3, .inl (y 0, 40, .inl (fun _ => 0))), (g 4, .inl (y 0, 40, .inl (fun _ => 0))), (g 5, .inl (y 0, 40, .inl (fun _ => 0))), (g 6, .inl (y 3, 40, .inr (.inl (fun _ => 0)))), (g 7, .inl (y 0, 41, .inl (fun _ => 0))), (g 8, .inl (y 0, 120, .inl (fun _ => 0))), (g 9, .inl (y 0, 120, .inl (fun _ => 0))), (g 10, .inl (y 2, 120, .inl (fun _ => 0))), (g 11, .inl (y 2, 41, .inl (fun _ => 0)))]
set_option maxHeartbeats 8000000 in
set_option maxRecDepth 100000 in
theorem k_X0_init {D : va_G} {y : Nat → ClassId} (l : Launch) (h0 h1 : Nat) (sz : Nat) : Met l yX0_init (Cond.code yX0_init cX0_init 2 none :: ALC) { frames := 1, cells := 12, slots := 722, locals := 12 } (va_Pc [.ref h0, .ref h1] (PCt D y [(h0, .inr (0, [.null, .int 0, .null, .null, .null, .null, .null, .null, .null, .int 0, .null, .null, .null, .null, .int 0, .null]))] sz)) (QCt D [(h0, .inr (0, [.null, .int 0, .null, .null, .null, .null, .null, .null, .null, .int 0, .null, .null, .null, .null, .int 0, .null]))] (KX0 y h0 h1) sz) 12 722 (va_A [(h0, .inr (0, [.null, .int 0, .null, .null, .null, .null, .null, .null, .null, .int 0, .null, .null, .null, .null, .int 0, .null]))] sz) := by
  refine Met.ofW (cc := cX0_init) (maxL := 2) (ret := none) (by decide) rfl ?_
  intro p e s m args below meth c s₁ B hml hv
  obtain ⟨rfl, hsz, hP, hK, hD0⟩ := hv
  have hx := B.exec
  have hb := B.bytes
  have hts0 := atoms_spec (ws := Cond.code yX0_init cX0_init 2 none :: ALC) B.pre
  have hts : ∀ w ∈ ALC, w.before _ s = true := fun w hw => hts0 w (List.mem_cons_of_mem _ hw)
  have hown : s.vm.findClass RX0 = some m.cls := findClass_of_methodNamed B.named
  have hlocks := B.notSynchronized
  have hin : meth.name = "<init>" := (name_of_methodNamed B.named B.method).1
  subst hsz
  have hD := hD0.self (sz := s.heap.size)
  generalize hAe : va_A [(h0, .inr (0, [.null, .int 0, .null, .null, .null, .null, .null, .null, .null, .int 0, .null, .null, .null, .null, .int 0, .null]))] s.heap.size = A at hD
  have hA : ∀ q : Nat, s.heap.size ≤ q → A q := fun q h => by rw [← hAe]; exact Or.inr h
  have hC : CZ D A s s.heap [] [(h0, .inr (0, [.null, .int 0, .null, .null, .null, .null, .null, .null, .null, .int 0, .null, .null, .null, .null, .int 0, .null]))] := ⟨hP, hD, va_S.rf⟩
  have hl := lv_entry ([.ref h0, .ref h1]) (n := 2) (Nat.le_of_ble_eq_true rfl)
  rw [lg_entry_eq]
  generalize (lg_sl ([.ref h0, .ref h1]) ++ List.replicate (2 - (lg_sl ([.ref h0, .ref h1])).length) Slot.unset).toArray = ls at hl ⊢
  have hl : lv_has ls 2 [(0, .ref h0), (1, .ref h1)] := hl
  refine lv_aload_n hx hb dX0_init_0 rfl (lv_at hl 0 rfl) ?_
  refine W.objInit hx hb hown (hts _ (ak 15 rfl)) (hts _ (ak 0 rfl)) (hts _ (ak 1 rfl)) rfl (by rw [hml]; exact hl.1) rfl dX0_init_1 (Nat.le_of_ble_eq_true rfl) (Nat.le_of_ble_eq_true rfl) ?_
  refine W.eq (g2 := F0 m 4 ls []) rfl ?_
  refine lv_aload_n hx hb dX0_init_4 rfl (lv_at hl 0 rfl) ?_
  refine lv_bipush (v := 40) hx hb dX0_init_5 (by decide) ?_
  refine mkA (atype := .int) (ty := .int) (n := 40) (N' := 40) (a0 := (40, .inl (fun _ => 0))) (own := RX0) (C := RX0) (T := TX0) (N := 16) (Ts := ALC) hx hb (hts _ (ak 16 rfl)) rfl 0 rfl (by decide) hK hC hA (fun cA => rfl) (by decide) (by decide) (Nat.le_of_ble_eq_true rfl) (Nat.le_of_ble_eq_true rfl) (Nat.le_of_ble_eq_true rfl) dX0_init_7 hts (ac ui_X0) tyX0 tyX0_ok nmX0 hown rfl 2 (by decide) (hts _ (ak 17 rfl)) (fun _ h9 => h9) rfl hin rfl (ty1 := .array .int) (by decide +kernel) (fun _ => rfl) (fun _ => rfl) (by decide) dX0_init_9 (cells1 := 1) (slots1 := 40) rfl rfl (fun q_1 H locs f_1 c_1 e_1 g_1 n1 hC => ?_)
  have n_1 : f_1.length = 16 := n1.trans rfl
  refine lv_aload_n hx hb dX0_init_12 rfl (lv_at hl 0 rfl) ?_
  refine lv_bipush (v := 40) hx hb dX0_init_13 (by decide) ?_
  refine mkA (atype := .int) (ty := .int) (n := 40) (N' := 40) (a0 := (40, .inl (fun _ => 0))) (own := RX0) (C := RX0) (T := TX0) (N := 16) (Ts := ALC) hx hb (hts _ (ak 16 rfl)) rfl 0 rfl (by decide) hK hC hA (fun cA => rfl) (by decide) (by decide) (Nat.le_of_ble_eq_true rfl) (Nat.le_of_ble_eq_true rfl) (Nat.le_of_ble_eq_true rfl) dX0_init_15 hts (ac ui_X0) tyX0 tyX0_ok nmX0 hown rfl 3 (by decide) (hts _ (ak 18 rfl)) (fun _ h9 => h9) rfl hin rfl (ty1 := .array .int) (by decide +kernel) (fun _ => rfl) (fun _ => rfl) (by rw [n_1]; decide) dX0_init_17 (cells1 := 2) (slots1 := 80) rfl rfl (fun q_2 H locs f_2 c_2 e_2 g_2 n1 hC => ?_)
  have n_2 : f_2.length = 16 := n1.trans n_1
  refine lv_aload_n hx hb dX0_init_20 rfl (lv_at hl 0 rfl) ?_
  refine lv_bipush (v := 40) hx hb dX0_init_21 (by decide) ?_
  refine mkA (atype := .int) (ty := .int) (n := 40) (N' := 40) (a0 := (40, .inl (fun _ => 0))) (own := RX0) (C := RX0) (T := TX0) (N := 16) (Ts := ALC) hx hb (hts _ (ak 16 rfl)) rfl 0 rfl (by decide) hK hC hA (fun cA => rfl) (by decide) (by decide) (Nat.le_of_ble_eq_true rfl) (Nat.le_of_ble_eq_true rfl) (Nat.le_of_ble_eq_true rfl) dX0_init_23 hts (ac ui_X0) tyX0 tyX0_ok nmX0 hown rfl 4 (by decide) (hts _ (ak 19 rfl)) (fun _ h9 => h9) rfl hin rfl (ty1 := .array .int) (by decide +kernel) (fun _ => rfl) (fun _ => rfl) (by rw [n_2]; decide) dX0_init_25 (cells1 := 3) (slots1 := 120) rfl rfl (fun q_3 H locs f_3 c_3 e_3 g_3 n1 hC => ?_)
  have n_3 : f_3.length = 16 := n1.trans n_2
  refine lv_aload_n hx hb dX0_init_28 rfl (lv_at hl 0 rfl) ?_
  refine lv_bipush (v := 40) hx hb dX0_init_29 (by decide) ?_
  refine mkA (atype := .int) (ty := .int) (n := 40) (N' := 40) (a0 := (40, .inl (fun _ => 0))) (own := RX0) (C := RX0) (T := TX0) (N := 16) (Ts := ALC) hx hb (hts _ (ak 16 rfl)) rfl 0 rfl (by decide) hK hC hA (fun cA => rfl) (by decide) (by decide) (Nat.le_of_ble_eq_true rfl) (Nat.le_of_ble_eq_true rfl) (Nat.le_of_ble_eq_true rfl) dX0_init_31 hts (ac ui_X0) tyX0 tyX0_ok nmX0 hown rfl 5 (by decide) (hts _ (ak 20 rfl)) (fun _ h9 => h9) rfl hin rfl (ty1 := .array .int) (by decide +kernel) (fun _ => rfl) (fun _ => rfl) (by rw [n_3]; decide) dX0_init_33 (cells1 := 4) (slots1 := 160) rfl rfl (fun q_4 H locs f_4 c_4 e_4 g_4 n1 hC => ?_)
  have n_4 : f_4.length = 16 := n1.trans n_3
  refine lv_aload_n hx hb dX0_init_36 rfl (lv_at hl 0 rfl) ?_
  refine lv_bipush (v := 40) hx hb dX0_init_37 (by decide) ?_
  refine mkA (atype := .int) (ty := .int) (n := 40) (N' := 40) (a0 := (40, .inl (fun _ => 0))) (own := RX0) (C := RX0) (T := TX0) (N := 16) (Ts := ALC) hx hb (hts _ (ak 16 rfl)) rfl 0 rfl (by decide) hK hC hA (fun cA => rfl) (by decide) (by decide) (Nat.le_of_ble_eq_true rfl) (Nat.le_of_ble_eq_true rfl) (Nat.le_of_ble_eq_true rfl) dX0_init_39 hts (ac ui_X0) tyX0 tyX0_ok nmX0 hown rfl 6 (by decide) (hts _ (ak 21 rfl)) (fun _ h9 => h9) rfl hin rfl (ty1 := .array .int) (by decide +kernel) (fun _ => rfl) (fun _ => rfl) (by rw [n_4]; decide) dX0_init_41 (cells1 := 5) (slots1 := 200) rfl rfl (fun q_5 H locs f_5 c_5 e_5 g_5 n1 hC => ?_)
  have n_5 : f_5.length = 16 := n1.trans n_4
  refine lv_aload_n hx hb dX0_init_44 rfl (lv_at hl 0 rfl) ?_
  refine lv_bipush (v := 40) hx hb dX0_init_45 (by decide) ?_
  refine mkA (atype := .int) (ty := .int) (n := 40) (N' := 40) (a0 := (40, .inl (fun _ => 0))) (own := RX0) (C := RX0) (T := TX0) (N := 16) (Ts := ALC) hx hb (hts _ (ak 16 rfl)) rfl 0 rfl (by decide) hK hC hA (fun cA => rfl) (by decide) (by decide) (Nat.le_of_ble_eq_true rfl) (Nat.le_of_ble_eq_true rfl) (Nat.le_of_ble_eq_true rfl) dX0_init_47 hts (ac ui_X0) tyX0 tyX0_ok nmX0 hown rfl 7 (by decide) (hts _ (ak 22 rfl)) (fun _ h9 => h9) rfl hin rfl (ty1 := .array .int) (by decide +kernel) (fun _ => rfl) (fun _ => rfl) (by rw [n_5]; decide) dX0_init_49 (cells1 := 6) (slots1 := 240) rfl rfl (fun q_6 H locs f_6 c_6 e_6 g_6 n1 hC => ?_)
  have n_6 : f_6.length = 16 := n1.trans n_5
  refine lv_aload_n hx hb dX0_init_52 rfl (lv_at hl 0 rfl) ?_
  refine lv_bipush (v := 40) hx hb dX0_init_53 (by decide) ?_
  refine mkA (atype := .long) (ty := .long) (n := 40) (N' := 40) (a0 := (40, .inr (.inl (fun _ => 0)))) (own := RX0) (C := RX0) (T := TX0) (N := 16) (Ts := ALC) hx hb (hts _ (ak 23 rfl)) rfl 3 rfl (by decide) hK hC hA (fun cA => rfl) (by decide) (by decide) (Nat.le_of_ble_eq_true rfl) (Nat.le_of_ble_eq_true rfl) (Nat.le_of_ble_eq_true rfl) dX0_init_55 hts (ac ui_X0) tyX0 tyX0_ok nmX0 hown rfl 8 (by decide) (hts _ (ak 24 rfl)) (fun _ h9 => h9) rfl hin rfl (ty1 := .array .long) (by decide +kernel) (fun _ => rfl) (fun _ => rfl) (by rw [n_6]; decide) dX0_init_57 (cells1 := 7) (slots1 := 280) rfl rfl (fun q_7 H locs f_7 c_7 e_7 g_7 n1 hC => ?_)
  have n_7 : f_7.length = 16 := n1.trans n_6
  refine lv_aload_n hx hb dX0_init_60 rfl (lv_at hl 0 rfl) ?_
  refine lv_bipush (v := 41) hx hb dX0_init_61 (by decide) ?_
  refine mkA (atype := .int) (ty := .int) (n := 41) (N' := 41) (a0 := (41, .inl (fun _ => 0))) (own := RX0) (C := RX0) (T := TX0) (N := 16) (Ts := ALC) hx hb (hts _ (ak 16 rfl)) rfl 0 rfl (by decide) hK hC hA (fun cA => rfl) (by decide) (by decide) (Nat.le_of_ble_eq_true rfl) (Nat.le_of_ble_eq_true rfl) (Nat.le_of_ble_eq_true rfl) dX0_init_63 hts (ac ui_X0) tyX0 tyX0_ok nmX0 hown rfl 10 (by decide) (hts _ (ak 25 rfl)) (fun _ h9 => h9) rfl hin rfl (ty1 := .array .int) (by decide +kernel) (fun _ => rfl) (fun _ => rfl) (by rw [n_7]; decide) dX0_init_65 (cells1 := 8) (slots1 := 321) rfl rfl (fun q_8 H locs f_8 c_8 e_8 g_8 n1 hC => ?_)
  have n_8 : f_8.length = 16 := n1.trans n_7
  refine lv_aload_n hx hb dX0_init_68 rfl (lv_at hl 0 rfl) ?_
  refine lv_bipush (v := 120) hx hb dX0_init_69 (by decide) ?_
  refine mkA (atype := .int) (ty := .int) (n := 120) (N' := 120) (a0 := (120, .inl (fun _ => 0))) (own := RX0) (C := RX0) (T := TX0) (N := 16) (Ts := ALC) hx hb (hts _ (ak 16 rfl)) rfl 0 rfl (by decide) hK hC hA (fun cA => rfl) (by decide) (by decide) (Nat.le_of_ble_eq_true rfl) (Nat.le_of_ble_eq_true rfl) (Nat.le_of_ble_eq_true rfl) dX0_init_71 hts (ac ui_X0) tyX0 tyX0_ok nmX0 hown rfl 11 (by decide) (hts _ (ak 26 rfl)) (fun _ h9 => h9) rfl hin rfl (ty1 := .array .int) (by decide +kernel) (fun _ => rfl) (fun _ => rfl) (by rw [n_8]; decide) dX0_init_73 (cells1 := 9) (slots1 := 441) rfl rfl (fun q_9 H locs f_9 c_9 e_9 g_9 n1 hC => ?_)
  have n_9 : f_9.length = 16 := n1.trans n_8
  refine lv_aload_n hx hb dX0_init_76 rfl (lv_at hl 0 rfl) ?_
  refine lv_bipush (v := 120) hx hb dX0_init_77 (by decide) ?_
  refine mkA (atype := .int) (ty := .int) (n := 120) (N' := 120) (a0 := (120, .inl (fun _ => 0))) (own := RX0) (C := RX0) (T := TX0) (N := 16) (Ts := ALC) hx hb (hts _ (ak 16 rfl)) rfl 0 rfl (by decide) hK hC hA (fun cA => rfl) (by decide) (by decide) (Nat.le_of_ble_eq_true rfl) (Nat.le_of_ble_eq_true rfl) (Nat.le_of_ble_eq_true rfl) dX0_init_79 hts (ac ui_X0) tyX0 tyX0_ok nmX0 hown rfl 12 (by decide) (hts _ (ak 27 rfl)) (fun _ h9 => h9) rfl hin rfl (ty1 := .array .int) (by decide +kernel) (fun _ => rfl) (fun _ => rfl) (by rw [n_9]; decide) dX0_init_81 (cells1 := 10) (slots1 := 561) rfl rfl (fun q_10 H locs f_10 c_10 e_10 g_10 n1 hC => ?_)
  have n_10 : f_10.length = 16 := n1.trans n_9
  refine lv_aload_n hx hb dX0_init_84 rfl (lv_at hl 0 rfl) ?_
  refine lv_bipush (v := 120) hx hb dX0_init_85 (by decide) ?_
  refine mkA (atype := .boolean) (ty := .boolean) (n := 120) (N' := 120) (a0 := (120, .inl (fun _ => 0))) (own := RX0) (C := RX0) (T := TX0) (N := 16) (Ts := ALC) hx hb (hts _ (ak 28 rfl)) rfl 2 rfl (by decide) hK hC hA (fun cA => rfl) (by decide) (by decide) (Nat.le_of_ble_eq_true rfl) (Nat.le_of_ble_eq_true rfl) (Nat.le_of_ble_eq_true rfl) dX0_init_87 hts (ac ui_X0) tyX0 tyX0_ok nmX0 hown rfl 13 (by decide) (hts _ (ak 29 rfl)) (fun _ h9 => h9) rfl hin rfl (ty1 := .array .boolean) (by decide +kernel) (fun _ => rfl) (fun _ => rfl) (by rw [n_10]; decide) dX0_init_89 (cells1 := 11) (slots1 := 681) rfl rfl (fun q_11 H locs f_11 c_11 e_11 g_11 n1 hC => ?_)
  have n_11 : f_11.length = 16 := n1.trans n_10
  refine lv_aload_n hx hb dX0_init_92 rfl (lv_at hl 0 rfl) ?_
  refine lv_bipush (v := 41) hx hb dX0_init_93 (by decide) ?_
  refine mkA (atype := .boolean) (ty := .boolean) (n := 41) (N' := 41) (a0 := (41, .inl (fun _ => 0))) (own := RX0) (C := RX0) (T := TX0) (N := 16) (Ts := ALC) hx hb (hts _ (ak 28 rfl)) rfl 2 rfl (by decide) hK hC hA (fun cA => rfl) (by decide) (by decide) (Nat.le_of_ble_eq_true rfl) (Nat.le_of_ble_eq_true rfl) (Nat.le_of_ble_eq_true rfl) dX0_init_95 hts (ac ui_X0) tyX0 tyX0_ok nmX0 hown rfl 15 (by decide) (hts _ (ak 30 rfl)) (fun _ h9 => h9) rfl hin rfl (ty1 := .array .boolean) (by decide +kernel) (fun _ => rfl) (fun _ => rfl) (by rw [n_11]; decide) dX0_init_97 (cells1 := 12) (slots1 := 722) rfl rfl (fun q_12 H locs f_12 c_12 e_12 g_12 n1 hC => ?_)
  have n_12 : f_12.length = 16 := n1.trans n_11
  refine lv_aload_n hx hb dX0_init_100 rfl (lv_at hl 0 rfl) ?_
  refine lv_aload_n hx hb dX0_init_101 rfl (lv_at hl 1 rfl) ?_
  refine mkF (own := RX0) (C := RX0) (T := TX0) (N := 16) (Ts := ALC) hx hb hK hC hts (ac ui_X0) tyX0 tyX0_ok nmX0 hown rfl 0 (by decide) (hts _ (ak 31 rfl)) (fun _ h9 => h9) rfl hin rfl (ty1 := .object "CodeLifter$Listing") (by decide +kernel) (fun _ => rfl) (fun _ => rfl) (by rw [n_12]; decide) dX0_init_102 (fun H locs f_13 e_13 n1 hC => ?_)
  have n_13 : f_13.length = 16 := n1.trans n_12
  subst e_1 g_1 e_2 g_2 e_3 g_3 e_4 g_4 e_5 g_5 e_6 g_6 e_7 g_7 e_8 g_8 e_9 g_9 e_10 g_10 e_11 g_11 e_12 g_12 e_13
  refine W.vret B.exec B.bytes B.returns (fun t ht hW => ⟨⟨fun k => ([q_1, q_2, q_3, q_4, q_5, q_6, q_7, q_8, q_9, q_10, q_11, q_12] : List Nat).getD k 0, rfl, trivial, by rw [ht]; exact hC.1, ?_⟩, ?_⟩) ?_ dX0_init_105
  · exact hC.2.2.2.2
  · rw [hAe]; exact hC.2.1
  · rw [hAe]; exact hC.2.2.F ht

def KX1 (y : Nat → ClassId) (h0 h1 h2 h3 : Nat) (g : Nat → Nat) : va_W := [(h0, .inr (1, [.ref h1, .ref h2, .ref h3, .int 0, .ref (g 0), .ref (g 1), .ref (g 2), .ref (g 3), .ref (g 4), .int 0, .int 0, .ref (g 5), .int 0, .ref (g 6)])), (g 0, .inl (y 0, 320, .inl (fun _ => 0))), (g 1, .inl (y 0, 320, .inl (fun _ => 0))), (g 2, .inl (y 0, 320, .inl (fun _ => 0))), (g 3, .inl (y 0, 41, .inl (fun _ => 0))), (g 4, .inl (y 0, 40, .inl (fun _ => 0))), (g 5, .inl (y 0, 8, .inl (fun _ => 0))), (g 6, .inl (y 2, 512, .inl (fun _ => 0)))]
set_option maxHeartbeats 8000000 in
set_option maxRecDepth 100000 in
theorem k_X1_init {D : va_G} {y : Nat → ClassId} (l : Launch) (h0 h1 h2 h3 : Nat) (sz : Nat) : Met l yX1_init (Cond.code yX1_init cX1_init 4 none :: ALC) { frames := 1, cells := 7, slots := 1561, locals := 12 } (va_Pc [.ref h0, .ref h1, .ref h2, .ref h3] (PCt D y [(h0, .inr (1, [.null, .null, .null, .int 0, .null, .null, .null, .null, .null, .int 0, .int 0, .null, .int 0, .null]))] sz)) (QCt D [(h0, .inr (1, [.null, .null, .null, .int 0, .null, .null, .null, .null, .null, .int 0, .int 0, .null, .int 0, .null]))] (KX1 y h0 h1 h2 h3) sz) 7 1561 (va_A [(h0, .inr (1, [.null, .null, .null, .int 0, .null, .null, .null, .null, .null, .int 0, .int 0, .null, .int 0, .null]))] sz) := by
  refine Met.ofW (cc := cX1_init) (maxL := 4) (ret := none) (by decide) rfl ?_
  intro p e s m args below meth c s₁ B hml hv
  obtain ⟨rfl, hsz, hP, hK, hD0⟩ := hv
  have hx := B.exec
  have hb := B.bytes
  have hts0 := atoms_spec (ws := Cond.code yX1_init cX1_init 4 none :: ALC) B.pre
  have hts : ∀ w ∈ ALC, w.before _ s = true := fun w hw => hts0 w (List.mem_cons_of_mem _ hw)
  have hown : s.vm.findClass RX1 = some m.cls := findClass_of_methodNamed B.named
  have hlocks := B.notSynchronized
  have hin : meth.name = "<init>" := (name_of_methodNamed B.named B.method).1
  subst hsz
  have hD := hD0.self (sz := s.heap.size)
  generalize hAe : va_A [(h0, .inr (1, [.null, .null, .null, .int 0, .null, .null, .null, .null, .null, .int 0, .int 0, .null, .int 0, .null]))] s.heap.size = A at hD
  have hA : ∀ q : Nat, s.heap.size ≤ q → A q := fun q h => by rw [← hAe]; exact Or.inr h
  have hC : CZ D A s s.heap [] [(h0, .inr (1, [.null, .null, .null, .int 0, .null, .null, .null, .null, .null, .int 0, .int 0, .null, .int 0, .null]))] := ⟨hP, hD, va_S.rf⟩
  have hl := lv_entry ([.ref h0, .ref h1, .ref h2, .ref h3]) (n := 4) (Nat.le_of_ble_eq_true rfl)
  rw [lg_entry_eq]
  generalize (lg_sl ([.ref h0, .ref h1, .ref h2, .ref h3]) ++ List.replicate (4 - (lg_sl ([.ref h0, .ref h1, .ref h2, .ref h3])).length) Slot.unset).toArray = ls at hl ⊢
  have hl : lv_has ls 4 [(0, .ref h0), (1, .ref h1), (2, .ref h2), (3, .ref h3)] := hl
  refine lv_aload_n hx hb dX1_init_0 rfl (lv_at hl 0 rfl) ?_
  refine W.objInit hx hb hown (hts _ (ak 32 rfl)) (hts _ (ak 0 rfl)) (hts _ (ak 1 rfl)) rfl (by rw [hml]; exact hl.1) rfl dX1_init_1 (Nat.le_of_ble_eq_true rfl) (Nat.le_of_ble_eq_true rfl) ?_
  refine W.eq (g2 := F0 m 4 ls []) rfl ?_
  refine lv_aload_n hx hb dX1_init_4 rfl (lv_at hl 0 rfl) ?_
  refine lv_sipush (v := 320) hx hb dX1_init_5 (by decide) ?_
  refine mkA (atype := .int) (ty := .int) (n := 320) (N' := 320) (a0 := (320, .inl (fun _ => 0))) (own := RX1) (C := RX1) (T := TX1) (N := 14) (Ts := ALC) hx hb (hts _ (ak 16 rfl)) rfl 0 rfl (by decide) hK hC hA (fun cA => rfl) (by decide) (by decide) (Nat.le_of_ble_eq_true rfl) (Nat.le_of_ble_eq_true rfl) (Nat.le_of_ble_eq_true rfl) dX1_init_8 hts (ac ui_X1) tyX1 tyX1_ok nmX1 hown rfl 4 (by decide) (hts _ (ak 33 rfl)) (fun _ h9 => h9) rfl hin rfl (ty1 := .array .int) (by decide +kernel) (fun _ => rfl) (fun _ => rfl) (by decide) dX1_init_10 (cells1 := 1) (slots1 := 320) rfl rfl (fun q_1 H locs f_1 c_1 e_1 g_1 n1 hC => ?_)
  have n_1 : f_1.length = 14 := n1.trans rfl
  refine lv_aload_n hx hb dX1_init_13 rfl (lv_at hl 0 rfl) ?_
  refine lv_sipush (v := 320) hx hb dX1_init_14 (by decide) ?_
  refine mkA (atype := .int) (ty := .int) (n := 320) (N' := 320) (a0 := (320, .inl (fun _ => 0))) (own := RX1) (C := RX1) (T := TX1) (N := 14) (Ts := ALC) hx hb (hts _ (ak 16 rfl)) rfl 0 rfl (by decide) hK hC hA (fun cA => rfl) (by decide) (by decide) (Nat.le_of_ble_eq_true rfl) (Nat.le_of_ble_eq_true rfl) (Nat.le_of_ble_eq_true rfl) dX1_init_17 hts (ac ui_X1) tyX1 tyX1_ok nmX1 hown rfl 5 (by decide) (hts _ (ak 34 rfl)) (fun _ h9 => h9) rfl hin rfl (ty1 := .array .int) (by decide +kernel) (fun _ => rfl) (fun _ => rfl) (by rw [n_1]; decide) dX1_init_19 (cells1 := 2) (slots1 := 640) rfl rfl (fun q_2 H locs f_2 c_2 e_2 g_2 n1 hC => ?_)
  have n_2 : f_2.length = 14 := n1.trans n_1
  refine lv_aload_n hx hb dX1_init_22 rfl (lv_at hl 0 rfl) ?_
  refine lv_sipush (v := 320) hx hb dX1_init_23 (by decide) ?_
  refine mkA (atype := .int) (ty := .int) (n := 320) (N' := 320) (a0 := (320, .inl (fun _ => 0))) (own := RX1) (C := RX1) (T := TX1) (N := 14) (Ts := ALC) hx hb (hts _ (ak 16 rfl)) rfl 0 rfl (by decide) hK hC hA (fun cA => rfl) (by decide) (by decide) (Nat.le_of_ble_eq_true rfl) (Nat.le_of_ble_eq_true rfl) (Nat.le_of_ble_eq_true rfl) dX1_init_26 hts (ac ui_X1) tyX1 tyX1_ok nmX1 hown rfl 6 (by decide) (hts _ (ak 35 rfl)) (fun _ h9 => h9) rfl hin rfl (ty1 := .array .int) (by decide +kernel) (fun _ => rfl) (fun _ => rfl) (by rw [n_2]; decide) dX1_init_28 (cells1 := 3) (slots1 := 960) rfl rfl (fun q_3 H locs f_3 c_3 e_3 g_3 n1 hC => ?_)
  have n_3 : f_3.length = 14 := n1.trans n_2
  refine lv_aload_n hx hb dX1_init_31 rfl (lv_at hl 0 rfl) ?_
  refine lv_bipush (v := 41) hx hb dX1_init_32 (by decide) ?_
  refine mkA (atype := .int) (ty := .int) (n := 41) (N' := 41) (a0 := (41, .inl (fun _ => 0))) (own := RX1) (C := RX1) (T := TX1) (N := 14) (Ts := ALC) hx hb (hts _ (ak 16 rfl)) rfl 0 rfl (by decide) hK hC hA (fun cA => rfl) (by decide) (by decide) (Nat.le_of_ble_eq_true rfl) (Nat.le_of_ble_eq_true rfl) (Nat.le_of_ble_eq_true rfl) dX1_init_34 hts (ac ui_X1) tyX1 tyX1_ok nmX1 hown rfl 7 (by decide) (hts _ (ak 36 rfl)) (fun _ h9 => h9) rfl hin rfl (ty1 := .array .int) (by decide +kernel) (fun _ => rfl) (fun _ => rfl) (by rw [n_3]; decide) dX1_init_36 (cells1 := 4) (slots1 := 1001) rfl rfl (fun q_4 H locs f_4 c_4 e_4 g_4 n1 hC => ?_)
  have n_4 : f_4.length = 14 := n1.trans n_3
  refine lv_aload_n hx hb dX1_init_39 rfl (lv_at hl 0 rfl) ?_
  refine lv_bipush (v := 40) hx hb dX1_init_40 (by decide) ?_
  refine mkA (atype := .int) (ty := .int) (n := 40) (N' := 40) (a0 := (40, .inl (fun _ => 0))) (own := RX1) (C := RX1) (T := TX1) (N := 14) (Ts := ALC) hx hb (hts _ (ak 16 rfl)) rfl 0 rfl (by decide) hK hC hA (fun cA => rfl) (by decide) (by decide) (Nat.le_of_ble_eq_true rfl) (Nat.le_of_ble_eq_true rfl) (Nat.le_of_ble_eq_true rfl) dX1_init_42 hts (ac ui_X1) tyX1 tyX1_ok nmX1 hown rfl 8 (by decide) (hts _ (ak 37 rfl)) (fun _ h9 => h9) rfl hin rfl (ty1 := .array .int) (by decide +kernel) (fun _ => rfl) (fun _ => rfl) (by rw [n_4]; decide) dX1_init_44 (cells1 := 5) (slots1 := 1041) rfl rfl (fun q_5 H locs f_5 c_5 e_5 g_5 n1 hC => ?_)
  have n_5 : f_5.length = 14 := n1.trans n_4
  refine lv_aload_n hx hb dX1_init_47 rfl (lv_at hl 0 rfl) ?_
  refine lv_bipush (v := 8) hx hb dX1_init_48 (by decide) ?_
  refine mkA (atype := .int) (ty := .int) (n := 8) (N' := 8) (a0 := (8, .inl (fun _ => 0))) (own := RX1) (C := RX1) (T := TX1) (N := 14) (Ts := ALC) hx hb (hts _ (ak 16 rfl)) rfl 0 rfl (by decide) hK hC hA (fun cA => rfl) (by decide) (by decide) (Nat.le_of_ble_eq_true rfl) (Nat.le_of_ble_eq_true rfl) (Nat.le_of_ble_eq_true rfl) dX1_init_50 hts (ac ui_X1) tyX1 tyX1_ok nmX1 hown rfl 11 (by decide) (hts _ (ak 38 rfl)) (fun _ h9 => h9) rfl hin rfl (ty1 := .array .int) (by decide +kernel) (fun _ => rfl) (fun _ => rfl) (by rw [n_5]; decide) dX1_init_52 (cells1 := 6) (slots1 := 1049) rfl rfl (fun q_6 H locs f_6 c_6 e_6 g_6 n1 hC => ?_)
  have n_6 : f_6.length = 14 := n1.trans n_5
  refine lv_aload_n hx hb dX1_init_55 rfl (lv_at hl 0 rfl) ?_
  refine lv_sipush (v := 512) hx hb dX1_init_56 (by decide) ?_
  refine mkA (atype := .boolean) (ty := .boolean) (n := 512) (N' := 512) (a0 := (512, .inl (fun _ => 0))) (own := RX1) (C := RX1) (T := TX1) (N := 14) (Ts := ALC) hx hb (hts _ (ak 28 rfl)) rfl 2 rfl (by decide) hK hC hA (fun cA => rfl) (by decide) (by decide) (Nat.le_of_ble_eq_true rfl) (Nat.le_of_ble_eq_true rfl) (Nat.le_of_ble_eq_true rfl) dX1_init_59 hts (ac ui_X1) tyX1 tyX1_ok nmX1 hown rfl 13 (by decide) (hts _ (ak 39 rfl)) (fun _ h9 => h9) rfl hin rfl (ty1 := .array .boolean) (by decide +kernel) (fun _ => rfl) (fun _ => rfl) (by rw [n_6]; decide) dX1_init_61 (cells1 := 7) (slots1 := 1561) rfl rfl (fun q_7 H locs f_7 c_7 e_7 g_7 n1 hC => ?_)
  have n_7 : f_7.length = 14 := n1.trans n_6
  refine lv_aload_n hx hb dX1_init_64 rfl (lv_at hl 0 rfl) ?_
  refine lv_aload_n hx hb dX1_init_65 rfl (lv_at hl 1 rfl) ?_
  refine mkF (own := RX1) (C := RX1) (T := TX1) (N := 14) (Ts := ALC) hx hb hK hC hts (ac ui_X1) tyX1 tyX1_ok nmX1 hown rfl 0 (by decide) (hts _ (ak 40 rfl)) (fun _ h9 => h9) rfl hin rfl (ty1 := .object "CodeLifter$Listing") (by decide +kernel) (fun _ => rfl) (fun _ => rfl) (by rw [n_7]; decide) dX1_init_66 (fun H locs f_8 e_8 n1 hC => ?_)
  have n_8 : f_8.length = 14 := n1.trans n_7
  refine lv_aload_n hx hb dX1_init_69 rfl (lv_at hl 0 rfl) ?_
  refine lv_aload_n hx hb dX1_init_70 rfl (lv_at hl 2 rfl) ?_
  refine mkF (own := RX1) (C := RX1) (T := TX1) (N := 14) (Ts := ALC) hx hb hK hC hts (ac ui_X1) tyX1 tyX1_ok nmX1 hown rfl 1 (by decide) (hts _ (ak 41 rfl)) (fun _ h9 => h9) rfl hin rfl (ty1 := .object "CodeLifter$Blocks") (by decide +kernel) (fun _ => rfl) (fun _ => rfl) (by rw [n_8]; decide) dX1_init_71 (fun H locs f_9 e_9 n1 hC => ?_)
  have n_9 : f_9.length = 14 := n1.trans n_8
  refine lv_aload_n hx hb dX1_init_74 rfl (lv_at hl 0 rfl) ?_
  refine lv_aload_n hx hb dX1_init_75 rfl (lv_at hl 3 rfl) ?_
  refine mkF (own := RX1) (C := RX1) (T := TX1) (N := 14) (Ts := ALC) hx hb hK hC hts (ac ui_X1) tyX1 tyX1_ok nmX1 hown rfl 2 (by decide) (hts _ (ak 42 rfl)) (fun _ h9 => h9) rfl hin rfl (ty1 := .object "CodeLifter$Pool") (by decide +kernel) (fun _ => rfl) (fun _ => rfl) (by rw [n_9]; decide) dX1_init_76 (fun H locs f_10 e_10 n1 hC => ?_)
  have n_10 : f_10.length = 14 := n1.trans n_9
  subst e_1 g_1 e_2 g_2 e_3 g_3 e_4 g_4 e_5 g_5 e_6 g_6 e_7 g_7 e_8 e_9 e_10
  refine W.vret B.exec B.bytes B.returns (fun t ht hW => ⟨⟨fun k => ([q_1, q_2, q_3, q_4, q_5, q_6, q_7] : List Nat).getD k 0, rfl, trivial, by rw [ht]; exact hC.1, ?_⟩, ?_⟩) ?_ dX1_init_79
  · exact hC.2.2.2.2
  · rw [hAe]; exact hC.2.1
  · rw [hAe]; exact hC.2.2.F ht

def KX2 (y : Nat → ClassId) (h0 h1 h2 h3 : Nat) (g : Nat → Nat) : va_W := [(h0, .inr (2, [.ref h1, .ref h2, .ref h3, .int 0, .ref (g 0), .ref (g 1), .ref (g 2), .ref (g 3), .ref (g 4), .ref (g 5), .ref (g 6), .ref (g 7), .int 0])), (g 0, .inl (y 0, 800, .inl (fun _ => 0))), (g 1, .inl (y 0, 800, .inl (fun _ => 0))), (g 2, .inl (y 0, 800, .inl (fun _ => 0))), (g 3, .inl (y 0, 800, .inl (fun _ => 0))), (g 4, .inl (y 0, 40, .inl (fun _ => 0))), (g 5, .inl (y 0, 40, .inl (fun _ => 0))), (g 6, .inl (y 0, 40, .inl (fun _ => 0))), (g 7, .inl (y 0, 120, .inl (fun _ => 0)))]
set_option maxHeartbeats 8000000 in
set_option maxRecDepth 100000 in
theorem k_X2_init {D : va_G} {y : Nat → ClassId} (l : Launch) (h0 h1 h2 h3 : Nat) (sz : Nat) : Met l yX2_init (Cond.code yX2_init cX2_init 4 none :: ALC) { frames := 1, cells := 8, slots := 3440, locals := 12 } (va_Pc [.ref h0, .ref h1, .ref h2, .ref h3] (PCt D y [(h0, .inr (2, [.null, .null, .null, .int 0, .null, .null, .null, .null, .null, .null, .null, .null, .int 0]))] sz)) (QCt D [(h0, .inr (2, [.null, .null, .null, .int 0, .null, .null, .null, .null, .null, .null, .null, .null, .int 0]))] (KX2 y h0 h1 h2 h3) sz) 8 3440 (va_A [(h0, .inr (2, [.null, .null, .null, .int 0, .null, .null, .null, .null, .null, .null, .null, .null, .int 0]))] sz) := by
  refine Met.ofW (cc := cX2_init) (maxL := 4) (ret := none) (by decide) rfl ?_
  intro p e s m args below meth c s₁ B hml hv
  obtain ⟨rfl, hsz, hP, hK, hD0⟩ := hv
  have hx := B.exec
  have hb := B.bytes
  have hts0 := atoms_spec (ws := Cond.code yX2_init cX2_init 4 none :: ALC) B.pre
  have hts : ∀ w ∈ ALC, w.before _ s = true := fun w hw => hts0 w (List.mem_cons_of_mem _ hw)
  have hown : s.vm.findClass RX2 = some m.cls := findClass_of_methodNamed B.named
  have hlocks := B.notSynchronized
  have hin : meth.name = "<init>" := (name_of_methodNamed B.named B.method).1
  subst hsz
  have hD := hD0.self (sz := s.heap.size)
  generalize hAe : va_A [(h0, .inr (2, [.null, .null, .null, .int 0, .null, .null, .null, .null, .null, .null, .null, .null, .int 0]))] s.heap.size = A at hD
  have hA : ∀ q : Nat, s.heap.size ≤ q → A q := fun q h => by rw [← hAe]; exact Or.inr h
  have hC : CZ D A s s.heap [] [(h0, .inr (2, [.null, .null, .null, .int 0, .null, .null, .null, .null, .null, .null, .null, .null, .int 0]))] := ⟨hP, hD, va_S.rf⟩
  have hl := lv_entry ([.ref h0, .ref h1, .ref h2, .ref h3]) (n := 4) (Nat.le_of_ble_eq_true rfl)
  rw [lg_entry_eq]
  generalize (lg_sl ([.ref h0, .ref h1, .ref h2, .ref h3]) ++ List.replicate (4 - (lg_sl ([.ref h0, .ref h1, .ref h2, .ref h3])).length) Slot.unset).toArray = ls at hl ⊢
  have hl : lv_has ls 4 [(0, .ref h0), (1, .ref h1), (2, .ref h2), (3, .ref h3)] := hl
  refine lv_aload_n hx hb dX2_init_0 rfl (lv_at hl 0 rfl) ?_
  refine W.objInit hx hb hown (hts _ (ak 43 rfl)) (hts _ (ak 0 rfl)) (hts _ (ak 1 rfl)) rfl (by rw [hml]; exact hl.1) rfl dX2_init_1 (Nat.le_of_ble_eq_true rfl) (Nat.le_of_ble_eq_true rfl) ?_
  refine W.eq (g2 := F0 m 4 ls []) rfl ?_
  refine lv_aload_n hx hb dX2_init_4 rfl (lv_at hl 0 rfl) ?_
  refine lv_sipush (v := 800) hx hb dX2_init_5 (by decide) ?_
  refine mkA (atype := .int) (ty := .int) (n := 800) (N' := 800) (a0 := (800, .inl (fun _ => 0))) (own := RX2) (C := RX2) (T := TX2) (N := 13) (Ts := ALC) hx hb (hts _ (ak 16 rfl)) rfl 0 rfl (by decide) hK hC hA (fun cA => rfl) (by decide) (by decide) (Nat.le_of_ble_eq_true rfl) (Nat.le_of_ble_eq_true rfl) (Nat.le_of_ble_eq_true rfl) dX2_init_8 hts (ac ui_X2) tyX2 tyX2_ok nmX2 hown rfl 4 (by decide) (hts _ (ak 44 rfl)) (fun _ h9 => h9) rfl hin rfl (ty1 := .array .int) (by decide +kernel) (fun _ => rfl) (fun _ => rfl) (by decide) dX2_init_10 (cells1 := 1) (slots1 := 800) rfl rfl (fun q_1 H locs f_1 c_1 e_1 g_1 n1 hC => ?_)
  have n_1 : f_1.length = 13 := n1.trans rfl
  refine lv_aload_n hx hb dX2_init_13 rfl (lv_at hl 0 rfl) ?_
  refine lv_sipush (v := 800) hx hb dX2_init_14 (by decide) ?_
  refine mkA (atype := .int) (ty := .int) (n := 800) (N' := 800) (a0 := (800, .inl (fun _ => 0))) (own := RX2) (C := RX2) (T := TX2) (N := 13) (Ts := ALC) hx hb (hts _ (ak 16 rfl)) rfl 0 rfl (by decide) hK hC hA (fun cA => rfl) (by decide) (by decide) (Nat.le_of_ble_eq_true rfl) (Nat.le_of_ble_eq_true rfl) (Nat.le_of_ble_eq_true rfl) dX2_init_17 hts (ac ui_X2) tyX2 tyX2_ok nmX2 hown rfl 5 (by decide) (hts _ (ak 45 rfl)) (fun _ h9 => h9) rfl hin rfl (ty1 := .array .int) (by decide +kernel) (fun _ => rfl) (fun _ => rfl) (by rw [n_1]; decide) dX2_init_19 (cells1 := 2) (slots1 := 1600) rfl rfl (fun q_2 H locs f_2 c_2 e_2 g_2 n1 hC => ?_)
  have n_2 : f_2.length = 13 := n1.trans n_1
  refine lv_aload_n hx hb dX2_init_22 rfl (lv_at hl 0 rfl) ?_
  refine lv_sipush (v := 800) hx hb dX2_init_23 (by decide) ?_
  refine mkA (atype := .int) (ty := .int) (n := 800) (N' := 800) (a0 := (800, .inl (fun _ => 0))) (own := RX2) (C := RX2) (T := TX2) (N := 13) (Ts := ALC) hx hb (hts _ (ak 16 rfl)) rfl 0 rfl (by decide) hK hC hA (fun cA => rfl) (by decide) (by decide) (Nat.le_of_ble_eq_true rfl) (Nat.le_of_ble_eq_true rfl) (Nat.le_of_ble_eq_true rfl) dX2_init_26 hts (ac ui_X2) tyX2 tyX2_ok nmX2 hown rfl 6 (by decide) (hts _ (ak 46 rfl)) (fun _ h9 => h9) rfl hin rfl (ty1 := .array .int) (by decide +kernel) (fun _ => rfl) (fun _ => rfl) (by rw [n_2]; decide) dX2_init_28 (cells1 := 3) (slots1 := 2400) rfl rfl (fun q_3 H locs f_3 c_3 e_3 g_3 n1 hC => ?_)
  have n_3 : f_3.length = 13 := n1.trans n_2
  refine lv_aload_n hx hb dX2_init_31 rfl (lv_at hl 0 rfl) ?_
  refine lv_sipush (v := 800) hx hb dX2_init_32 (by decide) ?_
  refine mkA (atype := .int) (ty := .int) (n := 800) (N' := 800) (a0 := (800, .inl (fun _ => 0))) (own := RX2) (C := RX2) (T := TX2) (N := 13) (Ts := ALC) hx hb (hts _ (ak 16 rfl)) rfl 0 rfl (by decide) hK hC hA (fun cA => rfl) (by decide) (by decide) (Nat.le_of_ble_eq_true rfl) (Nat.le_of_ble_eq_true rfl) (Nat.le_of_ble_eq_true rfl) dX2_init_35 hts (ac ui_X2) tyX2 tyX2_ok nmX2 hown rfl 7 (by decide) (hts _ (ak 47 rfl)) (fun _ h9 => h9) rfl hin rfl (ty1 := .array .int) (by decide +kernel) (fun _ => rfl) (fun _ => rfl) (by rw [n_3]; decide) dX2_init_37 (cells1 := 4) (slots1 := 3200) rfl rfl (fun q_4 H locs f_4 c_4 e_4 g_4 n1 hC => ?_)
  have n_4 : f_4.length = 13 := n1.trans n_3
  refine lv_aload_n hx hb dX2_init_40 rfl (lv_at hl 0 rfl) ?_
  refine lv_bipush (v := 40) hx hb dX2_init_41 (by decide) ?_
  refine mkA (atype := .int) (ty := .int) (n := 40) (N' := 40) (a0 := (40, .inl (fun _ => 0))) (own := RX2) (C := RX2) (T := TX2) (N := 13) (Ts := ALC) hx hb (hts _ (ak 16 rfl)) rfl 0 rfl (by decide) hK hC hA (fun cA => rfl) (by decide) (by decide) (Nat.le_of_ble_eq_true rfl) (Nat.le_of_ble_eq_true rfl) (Nat.le_of_ble_eq_true rfl) dX2_init_43 hts (ac ui_X2) tyX2 tyX2_ok nmX2 hown rfl 8 (by decide) (hts _ (ak 48 rfl)) (fun _ h9 => h9) rfl hin rfl (ty1 := .array .int) (by decide +kernel) (fun _ => rfl) (fun _ => rfl) (by rw [n_4]; decide) dX2_init_45 (cells1 := 5) (slots1 := 3240) rfl rfl (fun q_5 H locs f_5 c_5 e_5 g_5 n1 hC => ?_)
  have n_5 : f_5.length = 13 := n1.trans n_4
  refine lv_aload_n hx hb dX2_init_48 rfl (lv_at hl 0 rfl) ?_
  refine lv_bipush (v := 40) hx hb dX2_init_49 (by decide) ?_
  refine mkA (atype := .int) (ty := .int) (n := 40) (N' := 40) (a0 := (40, .inl (fun _ => 0))) (own := RX2) (C := RX2) (T := TX2) (N := 13) (Ts := ALC) hx hb (hts _ (ak 16 rfl)) rfl 0 rfl (by decide) hK hC hA (fun cA => rfl) (by decide) (by decide) (Nat.le_of_ble_eq_true rfl) (Nat.le_of_ble_eq_true rfl) (Nat.le_of_ble_eq_true rfl) dX2_init_51 hts (ac ui_X2) tyX2 tyX2_ok nmX2 hown rfl 9 (by decide) (hts _ (ak 49 rfl)) (fun _ h9 => h9) rfl hin rfl (ty1 := .array .int) (by decide +kernel) (fun _ => rfl) (fun _ => rfl) (by rw [n_5]; decide) dX2_init_53 (cells1 := 6) (slots1 := 3280) rfl rfl (fun q_6 H locs f_6 c_6 e_6 g_6 n1 hC => ?_)
  have n_6 : f_6.length = 13 := n1.trans n_5
  refine lv_aload_n hx hb dX2_init_56 rfl (lv_at hl 0 rfl) ?_
  refine lv_bipush (v := 40) hx hb dX2_init_57 (by decide) ?_
  refine mkA (atype := .int) (ty := .int) (n := 40) (N' := 40) (a0 := (40, .inl (fun _ => 0))) (own := RX2) (C := RX2) (T := TX2) (N := 13) (Ts := ALC) hx hb (hts _ (ak 16 rfl)) rfl 0 rfl (by decide) hK hC hA (fun cA => rfl) (by decide) (by decide) (Nat.le_of_ble_eq_true rfl) (Nat.le_of_ble_eq_true rfl) (Nat.le_of_ble_eq_true rfl) dX2_init_59 hts (ac ui_X2) tyX2 tyX2_ok nmX2 hown rfl 10 (by decide) (hts _ (ak 50 rfl)) (fun _ h9 => h9) rfl hin rfl (ty1 := .array .int) (by decide +kernel) (fun _ => rfl) (fun _ => rfl) (by rw [n_6]; decide) dX2_init_61 (cells1 := 7) (slots1 := 3320) rfl rfl (fun q_7 H locs f_7 c_7 e_7 g_7 n1 hC => ?_)
  have n_7 : f_7.length = 13 := n1.trans n_6
  refine lv_aload_n hx hb dX2_init_64 rfl (lv_at hl 0 rfl) ?_
  refine lv_bipush (v := 120) hx hb dX2_init_65 (by decide) ?_
  refine mkA (atype := .int) (ty := .int) (n := 120) (N' := 120) (a0 := (120, .inl (fun _ => 0))) (own := RX2) (C := RX2) (T := TX2) (N := 13) (Ts := ALC) hx hb (hts _ (ak 16 rfl)) rfl 0 rfl (by decide) hK hC hA (fun cA => rfl) (by decide) (by decide) (Nat.le_of_ble_eq_true rfl) (Nat.le_of_ble_eq_true rfl) (Nat.le_of_ble_eq_true rfl) dX2_init_67 hts (ac ui_X2) tyX2 tyX2_ok nmX2 hown rfl 11 (by decide) (hts _ (ak 51 rfl)) (fun _ h9 => h9) rfl hin rfl (ty1 := .array .int) (by decide +kernel) (fun _ => rfl) (fun _ => rfl) (by rw [n_7]; decide) dX2_init_69 (cells1 := 8) (slots1 := 3440) rfl rfl (fun q_8 H locs f_8 c_8 e_8 g_8 n1 hC => ?_)
  have n_8 : f_8.length = 13 := n1.trans n_7
  refine lv_aload_n hx hb dX2_init_72 rfl (lv_at hl 0 rfl) ?_
  refine lv_aload_n hx hb dX2_init_73 rfl (lv_at hl 1 rfl) ?_
  refine mkF (own := RX2) (C := RX2) (T := TX2) (N := 13) (Ts := ALC) hx hb hK hC hts (ac ui_X2) tyX2 tyX2_ok nmX2 hown rfl 0 (by decide) (hts _ (ak 52 rfl)) (fun _ h9 => h9) rfl hin rfl (ty1 := .object "CodeLifter$Blocks") (by decide +kernel) (fun _ => rfl) (fun _ => rfl) (by rw [n_8]; decide) dX2_init_74 (fun H locs f_9 e_9 n1 hC => ?_)
  have n_9 : f_9.length = 13 := n1.trans n_8
  refine lv_aload_n hx hb dX2_init_77 rfl (lv_at hl 0 rfl) ?_
  refine lv_aload_n hx hb dX2_init_78 rfl (lv_at hl 2 rfl) ?_
  refine mkF (own := RX2) (C := RX2) (T := TX2) (N := 13) (Ts := ALC) hx hb hK hC hts (ac ui_X2) tyX2 tyX2_ok nmX2 hown rfl 1 (by decide) (hts _ (ak 53 rfl)) (fun _ h9 => h9) rfl hin rfl (ty1 := .object "CodeLifter$Shape") (by decide +kernel) (fun _ => rfl) (fun _ => rfl) (by rw [n_9]; decide) dX2_init_79 (fun H locs f_10 e_10 n1 hC => ?_)
  have n_10 : f_10.length = 13 := n1.trans n_9
  refine lv_aload_n hx hb dX2_init_82 rfl (lv_at hl 0 rfl) ?_
  refine lv_aload_n hx hb dX2_init_83 rfl (lv_at hl 3 rfl) ?_
  refine mkF (own := RX2) (C := RX2) (T := TX2) (N := 13) (Ts := ALC) hx hb hK hC hts (ac ui_X2) tyX2 tyX2_ok nmX2 hown rfl 2 (by decide) (hts _ (ak 54 rfl)) (fun _ h9 => h9) rfl hin rfl (ty1 := .object "CodeLifter$Lifted") (by decide +kernel) (fun _ => rfl) (fun _ => rfl) (by rw [n_10]; decide) dX2_init_84 (fun H locs f_11 e_11 n1 hC => ?_)
  have n_11 : f_11.length = 13 := n1.trans n_10
  subst e_1 g_1 e_2 g_2 e_3 g_3 e_4 g_4 e_5 g_5 e_6 g_6 e_7 g_7 e_8 g_8 e_9 e_10 e_11
  refine W.vret B.exec B.bytes B.returns (fun t ht hW => ⟨⟨fun k => ([q_1, q_2, q_3, q_4, q_5, q_6, q_7, q_8] : List Nat).getD k 0, rfl, trivial, by rw [ht]; exact hC.1, ?_⟩, ?_⟩) ?_ dX2_init_87
  · exact hC.2.2.2.2
  · rw [hAe]; exact hC.2.1
  · rw [hAe]; exact hC.2.2.F ht

def KX3 (y : Nat → ClassId) (h0 : Nat) (g : Nat → Nat) : va_W := [(h0, .inr (3, [.int 0, .int 0, .ref (g 0), .ref (g 1), .ref (g 2), .ref (g 3), .ref (g 4), .ref (g 5)])), (g 0, .inl (y 0, 40, .inl (fun _ => 0))), (g 1, .inl (y 0, 40, .inl (fun _ => 0))), (g 2, .inl (y 0, 40, .inl (fun _ => 0))), (g 3, .inl (y 0, 3, .inl (fun _ => 0))), (g 4, .inl (y 0, 3, .inl (fun _ => 0))), (g 5, .inl (y 0, 3, .inl (fun _ => 0)))]
set_option maxHeartbeats 8000000 in
set_option maxRecDepth 100000 in
theorem k_X3_init {D : va_G} {y : Nat → ClassId} (l : Launch) (h0 : Nat) (sz : Nat) : Met l yX3_init (Cond.code yX3_init cX3_init 1 none :: ALC) { frames := 1, cells := 6, slots := 129, locals := 12 } (va_Pc [.ref h0] (PCt D y [(h0, .inr (3, [.int 0, .int 0, .null, .null, .null, .null, .null, .null]))] sz)) (QCt D [(h0, .inr (3, [.int 0, .int 0, .null, .null, .null, .null, .null, .null]))] (KX3 y h0) sz) 6 129 (va_A [(h0, .inr (3, [.int 0, .int 0, .null, .null, .null, .null, .null, .null]))] sz) := by
  refine Met.ofW (cc := cX3_init) (maxL := 1) (ret := none) (by decide) rfl ?_
  intro p e s m args below meth c s₁ B hml hv
  obtain ⟨rfl, hsz, hP, hK, hD0⟩ := hv
  have hx := B.exec
  have hb := B.bytes
  have hts0 := atoms_spec (ws := Cond.code yX3_init cX3_init 1 none :: ALC) B.pre
  have hts : ∀ w ∈ ALC, w.before _ s = true := fun w hw => hts0 w (List.mem_cons_of_mem _ hw)
  have hown : s.vm.findClass RX3 = some m.cls := findClass_of_methodNamed B.named
  have hlocks := B.notSynchronized
  have hin : meth.name = "<init>" := (name_of_methodNamed B.named B.method).1
  subst hsz
  have hD := hD0.self (sz := s.heap.size)
  generalize hAe : va_A [(h0, .inr (3, [.int 0, .int 0, .null, .null, .null, .null, .null, .null]))] s.heap.size = A at hD
  have hA : ∀ q : Nat, s.heap.size ≤ q → A q := fun q h => by rw [← hAe]; exact Or.inr h
  have hC : CZ D A s s.heap [] [(h0, .inr (3, [.int 0, .int 0, .null, .null, .null, .null, .null, .null]))] := ⟨hP, hD, va_S.rf⟩
  have hl := lv_entry ([.ref h0]) (n := 1) (Nat.le_of_ble_eq_true rfl)
  rw [lg_entry_eq]
  generalize (lg_sl ([.ref h0]) ++ List.replicate (1 - (lg_sl ([.ref h0])).length) Slot.unset).toArray = ls at hl ⊢
  have hl : lv_has ls 1 [(0, .ref h0)] := hl
  refine lv_aload_n hx hb dX3_init_0 rfl (lv_at hl 0 rfl) ?_
  refine W.objInit hx hb hown (hts _ (ak 55 rfl)) (hts _ (ak 0 rfl)) (hts _ (ak 1 rfl)) rfl (by rw [hml]; exact hl.1) rfl dX3_init_1 (Nat.le_of_ble_eq_true rfl) (Nat.le_of_ble_eq_true rfl) ?_
  refine W.eq (g2 := F0 m 4 ls []) rfl ?_
  refine lv_aload_n hx hb dX3_init_4 rfl (lv_at hl 0 rfl) ?_
  refine lv_bipush (v := 40) hx hb dX3_init_5 (by decide) ?_
  refine mkA (atype := .int) (ty := .int) (n := 40) (N' := 40) (a0 := (40, .inl (fun _ => 0))) (own := RX3) (C := RX3) (T := TX3) (N := 8) (Ts := ALC) hx hb (hts _ (ak 16 rfl)) rfl 0 rfl (by decide) hK hC hA (fun cA => rfl) (by decide) (by decide) (Nat.le_of_ble_eq_true rfl) (Nat.le_of_ble_eq_true rfl) (Nat.le_of_ble_eq_true rfl) dX3_init_7 hts (ac ui_X3) tyX3 tyX3_ok nmX3 hown rfl 2 (by decide) (hts _ (ak 56 rfl)) (fun _ h9 => h9) rfl hin rfl (ty1 := .array .int) (by decide +kernel) (fun _ => rfl) (fun _ => rfl) (by decide) dX3_init_9 (cells1 := 1) (slots1 := 40) rfl rfl (fun q_1 H locs f_1 c_1 e_1 g_1 n1 hC => ?_)
  have n_1 : f_1.length = 8 := n1.trans rfl
  refine lv_aload_n hx hb dX3_init_12 rfl (lv_at hl 0 rfl) ?_
  refine lv_bipush (v := 40) hx hb dX3_init_13 (by decide) ?_
  refine mkA (atype := .int) (ty := .int) (n := 40) (N' := 40) (a0 := (40, .inl (fun _ => 0))) (own := RX3) (C := RX3) (T := TX3) (N := 8) (Ts := ALC) hx hb (hts _ (ak 16 rfl)) rfl 0 rfl (by decide) hK hC hA (fun cA => rfl) (by decide) (by decide) (Nat.le_of_ble_eq_true rfl) (Nat.le_of_ble_eq_true rfl) (Nat.le_of_ble_eq_true rfl) dX3_init_15 hts (ac ui_X3) tyX3 tyX3_ok nmX3 hown rfl 3 (by decide) (hts _ (ak 57 rfl)) (fun _ h9 => h9) rfl hin rfl (ty1 := .array .int) (by decide +kernel) (fun _ => rfl) (fun _ => rfl) (by rw [n_1]; decide) dX3_init_17 (cells1 := 2) (slots1 := 80) rfl rfl (fun q_2 H locs f_2 c_2 e_2 g_2 n1 hC => ?_)
  have n_2 : f_2.length = 8 := n1.trans n_1
  refine lv_aload_n hx hb dX3_init_20 rfl (lv_at hl 0 rfl) ?_
  refine lv_bipush (v := 40) hx hb dX3_init_21 (by decide) ?_
  refine mkA (atype := .int) (ty := .int) (n := 40) (N' := 40) (a0 := (40, .inl (fun _ => 0))) (own := RX3) (C := RX3) (T := TX3) (N := 8) (Ts := ALC) hx hb (hts _ (ak 16 rfl)) rfl 0 rfl (by decide) hK hC hA (fun cA => rfl) (by decide) (by decide) (Nat.le_of_ble_eq_true rfl) (Nat.le_of_ble_eq_true rfl) (Nat.le_of_ble_eq_true rfl) dX3_init_23 hts (ac ui_X3) tyX3 tyX3_ok nmX3 hown rfl 4 (by decide) (hts _ (ak 58 rfl)) (fun _ h9 => h9) rfl hin rfl (ty1 := .array .int) (by decide +kernel) (fun _ => rfl) (fun _ => rfl) (by rw [n_2]; decide) dX3_init_25 (cells1 := 3) (slots1 := 120) rfl rfl (fun q_3 H locs f_3 c_3 e_3 g_3 n1 hC => ?_)
  have n_3 : f_3.length = 8 := n1.trans n_2
  refine lv_aload_n hx hb dX3_init_28 rfl (lv_at hl 0 rfl) ?_
  refine lv_iconst (v := 3) hx hb dX3_init_29 (by decide) ?_
  refine mkA (atype := .int) (ty := .int) (n := 3) (N' := 3) (a0 := (3, .inl (fun _ => 0))) (own := RX3) (C := RX3) (T := TX3) (N := 8) (Ts := ALC) hx hb (hts _ (ak 16 rfl)) rfl 0 rfl (by decide) hK hC hA (fun cA => rfl) (by decide) (by decide) (Nat.le_of_ble_eq_true rfl) (Nat.le_of_ble_eq_true rfl) (Nat.le_of_ble_eq_true rfl) dX3_init_30 hts (ac ui_X3) tyX3 tyX3_ok nmX3 hown rfl 5 (by decide) (hts _ (ak 59 rfl)) (fun _ h9 => h9) rfl hin rfl (ty1 := .array .int) (by decide +kernel) (fun _ => rfl) (fun _ => rfl) (by rw [n_3]; decide) dX3_init_32 (cells1 := 4) (slots1 := 123) rfl rfl (fun q_4 H locs f_4 c_4 e_4 g_4 n1 hC => ?_)
  have n_4 : f_4.length = 8 := n1.trans n_3
  refine lv_aload_n hx hb dX3_init_35 rfl (lv_at hl 0 rfl) ?_
  refine lv_iconst (v := 3) hx hb dX3_init_36 (by decide) ?_
  refine mkA (atype := .int) (ty := .int) (n := 3) (N' := 3) (a0 := (3, .inl (fun _ => 0))) (own := RX3) (C := RX3) (T := TX3) (N := 8) (Ts := ALC) hx hb (hts _ (ak 16 rfl)) rfl 0 rfl (by decide) hK hC hA (fun cA => rfl) (by decide) (by decide) (Nat.le_of_ble_eq_true rfl) (Nat.le_of_ble_eq_true rfl) (Nat.le_of_ble_eq_true rfl) dX3_init_37 hts (ac ui_X3) tyX3 tyX3_ok nmX3 hown rfl 6 (by decide) (hts _ (ak 60 rfl)) (fun _ h9 => h9) rfl hin rfl (ty1 := .array .int) (by decide +kernel) (fun _ => rfl) (fun _ => rfl) (by rw [n_4]; decide) dX3_init_39 (cells1 := 5) (slots1 := 126) rfl rfl (fun q_5 H locs f_5 c_5 e_5 g_5 n1 hC => ?_)
  have n_5 : f_5.length = 8 := n1.trans n_4
  refine lv_aload_n hx hb dX3_init_42 rfl (lv_at hl 0 rfl) ?_
  refine lv_iconst (v := 3) hx hb dX3_init_43 (by decide) ?_
  refine mkA (atype := .int) (ty := .int) (n := 3) (N' := 3) (a0 := (3, .inl (fun _ => 0))) (own := RX3) (C := RX3) (T := TX3) (N := 8) (Ts := ALC) hx hb (hts _ (ak 16 rfl)) rfl 0 rfl (by decide) hK hC hA (fun cA => rfl) (by decide) (by decide) (Nat.le_of_ble_eq_true rfl) (Nat.le_of_ble_eq_true rfl) (Nat.le_of_ble_eq_true rfl) dX3_init_44 hts (ac ui_X3) tyX3 tyX3_ok nmX3 hown rfl 7 (by decide) (hts _ (ak 61 rfl)) (fun _ h9 => h9) rfl hin rfl (ty1 := .array .int) (by decide +kernel) (fun _ => rfl) (fun _ => rfl) (by rw [n_5]; decide) dX3_init_46 (cells1 := 6) (slots1 := 129) rfl rfl (fun q_6 H locs f_6 c_6 e_6 g_6 n1 hC => ?_)
  have n_6 : f_6.length = 8 := n1.trans n_5
  subst e_1 g_1 e_2 g_2 e_3 g_3 e_4 g_4 e_5 g_5 e_6 g_6
  refine W.vret B.exec B.bytes B.returns (fun t ht hW => ⟨⟨fun k => ([q_1, q_2, q_3, q_4, q_5, q_6] : List Nat).getD k 0, rfl, trivial, by rw [ht]; exact hC.1, ?_⟩, ?_⟩) ?_ dX3_init_49
  · exact hC.2.2.2.2
  · rw [hAe]; exact hC.2.1
  · rw [hAe]; exact hC.2.2.F ht

def KX4 (y : Nat → ClassId) (h0 h1 h2 : Nat) (g : Nat → Nat) : va_W := [(h0, .inr (4, [.ref h1, .ref h2, .ref (g 0), .ref (g 1), .long 0])), (g 0, .inl (y 0, 40, .inl (fun _ => 0))), (g 1, .inl (y 0, 40, .inl (fun _ => 0)))]
set_option maxHeartbeats 8000000 in
set_option maxRecDepth 100000 in
theorem k_X4_init {D : va_G} {y : Nat → ClassId} (l : Launch) (h0 h1 h2 : Nat) (sz : Nat) : Met l yX4_init (Cond.code yX4_init cX4_init 3 none :: ALC) { frames := 1, cells := 2, slots := 80, locals := 12 } (va_Pc [.ref h0, .ref h1, .ref h2] (PCt D y [(h0, .inr (4, [.null, .null, .null, .null, .long 0]))] sz)) (QCt D [(h0, .inr (4, [.null, .null, .null, .null, .long 0]))] (KX4 y h0 h1 h2) sz) 2 80 (va_A [(h0, .inr (4, [.null, .null, .null, .null, .long 0]))] sz) := by
  refine Met.ofW (cc := cX4_init) (maxL := 3) (ret := none) (by decide) rfl ?_
  intro p e s m args below meth c s₁ B hml hv
  obtain ⟨rfl, hsz, hP, hK, hD0⟩ := hv
  have hx := B.exec
  have hb := B.bytes
  have hts0 := atoms_spec (ws := Cond.code yX4_init cX4_init 3 none :: ALC) B.pre
  have hts : ∀ w ∈ ALC, w.before _ s = true := fun w hw => hts0 w (List.mem_cons_of_mem _ hw)
  have hown : s.vm.findClass RX4 = some m.cls := findClass_of_methodNamed B.named
  have hlocks := B.notSynchronized
  have hin : meth.name = "<init>" := (name_of_methodNamed B.named B.method).1
  subst hsz
  have hD := hD0.self (sz := s.heap.size)
  generalize hAe : va_A [(h0, .inr (4, [.null, .null, .null, .null, .long 0]))] s.heap.size = A at hD
  have hA : ∀ q : Nat, s.heap.size ≤ q → A q := fun q h => by rw [← hAe]; exact Or.inr h
  have hC : CZ D A s s.heap [] [(h0, .inr (4, [.null, .null, .null, .null, .long 0]))] := ⟨hP, hD, va_S.rf⟩
  have hl := lv_entry ([.ref h0, .ref h1, .ref h2]) (n := 3) (Nat.le_of_ble_eq_true rfl)
  rw [lg_entry_eq]
  generalize (lg_sl ([.ref h0, .ref h1, .ref h2]) ++ List.replicate (3 - (lg_sl ([.ref h0, .ref h1, .ref h2])).length) Slot.unset).toArray = ls at hl ⊢
  have hl : lv_has ls 3 [(0, .ref h0), (1, .ref h1), (2, .ref h2)] := hl
  refine lv_aload_n hx hb dX4_init_0 rfl (lv_at hl 0 rfl) ?_
  refine W.objInit hx hb hown (hts _ (ak 62 rfl)) (hts _ (ak 0 rfl)) (hts _ (ak 1 rfl)) rfl (by rw [hml]; exact hl.1) rfl dX4_init_1 (Nat.le_of_ble_eq_true rfl) (Nat.le_of_ble_eq_true rfl) ?_
  refine W.eq (g2 := F0 m 4 ls []) rfl ?_
  refine lv_aload_n hx hb dX4_init_4 rfl (lv_at hl 0 rfl) ?_
  refine lv_bipush (v := 40) hx hb dX4_init_5 (by decide) ?_
  refine mkA (atype := .int) (ty := .int) (n := 40) (N' := 40) (a0 := (40, .inl (fun _ => 0))) (own := RX4) (C := RX4) (T := TX4) (N := 5) (Ts := ALC) hx hb (hts _ (ak 16 rfl)) rfl 0 rfl (by decide) hK hC hA (fun cA => rfl) (by decide) (by decide) (Nat.le_of_ble_eq_true rfl) (Nat.le_of_ble_eq_true rfl) (Nat.le_of_ble_eq_true rfl) dX4_init_7 hts (ac ui_X4) tyX4 tyX4_ok nmX4 hown rfl 2 (by decide) (hts _ (ak 63 rfl)) (fun _ h9 => h9) rfl hin rfl (ty1 := .array .int) (by decide +kernel) (fun _ => rfl) (fun _ => rfl) (by decide) dX4_init_9 (cells1 := 1) (slots1 := 40) rfl rfl (fun q_1 H locs f_1 c_1 e_1 g_1 n1 hC => ?_)
  have n_1 : f_1.length = 5 := n1.trans rfl
  refine lv_aload_n hx hb dX4_init_12 rfl (lv_at hl 0 rfl) ?_
  refine lv_bipush (v := 40) hx hb dX4_init_13 (by decide) ?_
  refine mkA (atype := .int) (ty := .int) (n := 40) (N' := 40) (a0 := (40, .inl (fun _ => 0))) (own := RX4) (C := RX4) (T := TX4) (N := 5) (Ts := ALC) hx hb (hts _ (ak 16 rfl)) rfl 0 rfl (by decide) hK hC hA (fun cA => rfl) (by decide) (by decide) (Nat.le_of_ble_eq_true rfl) (Nat.le_of_ble_eq_true rfl) (Nat.le_of_ble_eq_true rfl) dX4_init_15 hts (ac ui_X4) tyX4 tyX4_ok nmX4 hown rfl 3 (by decide) (hts _ (ak 64 rfl)) (fun _ h9 => h9) rfl hin rfl (ty1 := .array .int) (by decide +kernel) (fun _ => rfl) (fun _ => rfl) (by rw [n_1]; decide) dX4_init_17 (cells1 := 2) (slots1 := 80) rfl rfl (fun q_2 H locs f_2 c_2 e_2 g_2 n1 hC => ?_)
  have n_2 : f_2.length = 5 := n1.trans n_1
  refine lv_aload_n hx hb dX4_init_20 rfl (lv_at hl 0 rfl) ?_
  refine lv_aload_n hx hb dX4_init_21 rfl (lv_at hl 1 rfl) ?_
  refine mkF (own := RX4) (C := RX4) (T := TX4) (N := 5) (Ts := ALC) hx hb hK hC hts (ac ui_X4) tyX4 tyX4_ok nmX4 hown rfl 0 (by decide) (hts _ (ak 65 rfl)) (fun _ h9 => h9) rfl hin rfl (ty1 := .object "CodeLifter$Listing") (by decide +kernel) (fun _ => rfl) (fun _ => rfl) (by rw [n_2]; decide) dX4_init_22 (fun H locs f_3 e_3 n1 hC => ?_)
  have n_3 : f_3.length = 5 := n1.trans n_2
  refine lv_aload_n hx hb dX4_init_25 rfl (lv_at hl 0 rfl) ?_
  refine lv_aload_n hx hb dX4_init_26 rfl (lv_at hl 2 rfl) ?_
  refine mkF (own := RX4) (C := RX4) (T := TX4) (N := 5) (Ts := ALC) hx hb hK hC hts (ac ui_X4) tyX4 tyX4_ok nmX4 hown rfl 1 (by decide) (hts _ (ak 66 rfl)) (fun _ h9 => h9) rfl hin rfl (ty1 := .object "CodeLifter$Blocks") (by decide +kernel) (fun _ => rfl) (fun _ => rfl) (by rw [n_3]; decide) dX4_init_27 (fun H locs f_4 e_4 n1 hC => ?_)
  have n_4 : f_4.length = 5 := n1.trans n_3
  subst e_1 g_1 e_2 g_2 e_3 e_4
  refine W.vret B.exec B.bytes B.returns (fun t ht hW => ⟨⟨fun k => ([q_1, q_2] : List Nat).getD k 0, rfl, trivial, by rw [ht]; exact hC.1, ?_⟩, ?_⟩) ?_ dX4_init_30
  · exact hC.2.2.2.2
  · rw [hAe]; exact hC.2.1
  · rw [hAe]; exact hC.2.2.F ht

def KX5 (y : Nat → ClassId) (h0 h1 h2 h3 h4 h5 : Nat) (g : Nat → Nat) : va_W := [(h0, .inr (5, [.ref h1, .ref h2, .ref h3, .ref h4, .ref h5, .ref (g 0), .ref (g 1), .ref (g 2), .int 0, .int 0, .int 0, .int 0, .int 0, .int 0, .int 0, .int 0, .int 0, .int 0, .int 0, .int 0])), (g 0, .inl (y 0, 6, .inl (fun _ => 0))), (g 1, .inl (y 0, 8, .inl (fun _ => 0))), (g 2, .inl (y 0, 161, .inl (fun _ => 0)))]
set_option maxHeartbeats 8000000 in
set_option maxRecDepth 100000 in
theorem k_X5_init {D : va_G} {y : Nat → ClassId} (l : Launch) (h0 h1 h2 h3 h4 h5 : Nat) (sz : Nat) : Met l yX5_init (Cond.code yX5_init cX5_init 6 none :: ALC) { frames := 1, cells := 3, slots := 175, locals := 12 } (va_Pc [.ref h0, .ref h1, .ref h2, .ref h3, .ref h4, .ref h5] (PCt D y [(h0, .inr (5, [.null, .null, .null, .null, .null, .null, .null, .null, .int 0, .int 0, .int 0, .int 0, .int 0, .int 0, .int 0, .int 0, .int 0, .int 0, .int 0, .int 0]))] sz)) (QCt D [(h0, .inr (5, [.null, .null, .null, .null, .null, .null, .null, .null, .int 0, .int 0, .int 0, .int 0, .int 0, .int 0, .int 0, .int 0, .int 0, .int 0, .int 0, .int 0]))] (KX5 y h0 h1 h2 h3 h4 h5) sz) 3 175 (va_A [(h0, .inr (5, [.null, .null, .null, .null, .null, .null, .null, .null, .int 0, .int 0, .int 0, .int 0, .int 0, .int 0, .int 0, .int 0, .int 0, .int 0, .int 0, .int 0]))] sz) := by
  refine Met.ofW (cc := cX5_init) (maxL := 6) (ret := none) (by decide) rfl ?_
  intro p e s m args below meth c s₁ B hml hv
  obtain ⟨rfl, hsz, hP, hK, hD0⟩ := hv
  have hx := B.exec
  have hb := B.bytes
  have hts0 := atoms_spec (ws := Cond.code yX5_init cX5_init 6 none :: ALC) B.pre
  have hts : ∀ w ∈ ALC, w.before _ s = true := fun w hw => hts0 w (List.mem_cons_of_mem _ hw)
  have hown : s.vm.findClass RX5 = some m.cls := findClass_of_methodNamed B.named
  have hlocks := B.notSynchronized
  have hin : meth.name = "<init>" := (name_of_methodNamed B.named B.method).1
  subst hsz
  have hD := hD0.self (sz := s.heap.size)
  generalize hAe : va_A [(h0, .inr (5, [.null, .null, .null, .null, .null, .null, .null, .null, .int 0, .int 0, .int 0, .int 0, .int 0, .int 0, .int 0, .int 0, .int 0, .int 0, .int 0, .int 0]))] s.heap.size = A at hD
  have hA : ∀ q : Nat, s.heap.size ≤ q → A q := fun q h => by rw [← hAe]; exact Or.inr h
  have hC : CZ D A s s.heap [] [(h0, .inr (5, [.null, .null, .null, .null, .null, .null, .null, .null, .int 0, .int 0, .int 0, .int 0, .int 0, .int 0, .int 0, .int 0, .int 0, .int 0, .int 0, .int 0]))] := ⟨hP, hD, va_S.rf⟩
  have hl := lv_entry ([.ref h0, .ref h1, .ref h2, .ref h3, .ref h4, .ref h5]) (n := 6) (Nat.le_of_ble_eq_true rfl)
  rw [lg_entry_eq]
  generalize (lg_sl ([.ref h0, .ref h1, .ref h2, .ref h3, .ref h4, .ref h5]) ++ List.replicate (6 - (lg_sl ([.ref h0, .ref h1, .ref h2, .ref h3, .ref h4, .ref h5])).length) Slot.unset).toArray = ls at hl ⊢
  have hl : lv_has ls 6 [(0, .ref h0), (1, .ref h1), (2, .ref h2), (3, .ref h3), (4, .ref h4), (5, .ref h5)] := hl
  refine lv_aload_n hx hb dX5_init_0 rfl (lv_at hl 0 rfl) ?_
  refine W.objInit hx hb hown (hts _ (ak 67 rfl)) (hts _ (ak 0 rfl)) (hts _ (ak 1 rfl)) rfl (by rw [hml]; exact hl.1) rfl dX5_init_1 (Nat.le_of_ble_eq_true rfl) (Nat.le_of_ble_eq_true rfl) ?_
  refine W.eq (g2 := F0 m 4 ls []) rfl ?_
  refine lv_aload_n hx hb dX5_init_4 rfl (lv_at hl 0 rfl) ?_
  refine lv_bipush (v := 6) hx hb dX5_init_5 (by decide) ?_
  refine mkA (atype := .int) (ty := .int) (n := 6) (N' := 6) (a0 := (6, .inl (fun _ => 0))) (own := RX5) (C := RX5) (T := TX5) (N := 20) (Ts := ALC) hx hb (hts _ (ak 16 rfl)) rfl 0 rfl (by decide) hK hC hA (fun cA => rfl) (by decide) (by decide) (Nat.le_of_ble_eq_true rfl) (Nat.le_of_ble_eq_true rfl) (Nat.le_of_ble_eq_true rfl) dX5_init_7 hts (ac ui_X5) tyX5 tyX5_ok nmX5 hown rfl 5 (by decide) (hts _ (ak 68 rfl)) (fun _ h9 => h9) rfl hin rfl (ty1 := .array .int) (by decide +kernel) (fun _ => rfl) (fun _ => rfl) (by decide) dX5_init_9 (cells1 := 1) (slots1 := 6) rfl rfl (fun q_1 H locs f_1 c_1 e_1 g_1 n1 hC => ?_)
  have n_1 : f_1.length = 20 := n1.trans rfl
  refine lv_aload_n hx hb dX5_init_12 rfl (lv_at hl 0 rfl) ?_
  refine lv_bipush (v := 8) hx hb dX5_init_13 (by decide) ?_
  refine mkA (atype := .int) (ty := .int) (n := 8) (N' := 8) (a0 := (8, .inl (fun _ => 0))) (own := RX5) (C := RX5) (T := TX5) (N := 20) (Ts := ALC) hx hb (hts _ (ak 16 rfl)) rfl 0 rfl (by decide) hK hC hA (fun cA => rfl) (by decide) (by decide) (Nat.le_of_ble_eq_true rfl) (Nat.le_of_ble_eq_true rfl) (Nat.le_of_ble_eq_true rfl) dX5_init_15 hts (ac ui_X5) tyX5 tyX5_ok nmX5 hown rfl 6 (by decide) (hts _ (ak 69 rfl)) (fun _ h9 => h9) rfl hin rfl (ty1 := .array .int) (by decide +kernel) (fun _ => rfl) (fun _ => rfl) (by rw [n_1]; decide) dX5_init_17 (cells1 := 2) (slots1 := 14) rfl rfl (fun q_2 H locs f_2 c_2 e_2 g_2 n1 hC => ?_)
  have n_2 : f_2.length = 20 := n1.trans n_1
  refine lv_aload_n hx hb dX5_init_20 rfl (lv_at hl 0 rfl) ?_
  refine lv_sipush (v := 161) hx hb dX5_init_21 (by decide) ?_
  refine mkA (atype := .int) (ty := .int) (n := 161) (N' := 161) (a0 := (161, .inl (fun _ => 0))) (own := RX5) (C := RX5) (T := TX5) (N := 20) (Ts := ALC) hx hb (hts _ (ak 16 rfl)) rfl 0 rfl (by decide) hK hC hA (fun cA => rfl) (by decide) (by decide) (Nat.le_of_ble_eq_true rfl) (Nat.le_of_ble_eq_true rfl) (Nat.le_of_ble_eq_true rfl) dX5_init_24 hts (ac ui_X5) tyX5 tyX5_ok nmX5 hown rfl 7 (by decide) (hts _ (ak 70 rfl)) (fun _ h9 => h9) rfl hin rfl (ty1 := .array .int) (by decide +kernel) (fun _ => rfl) (fun _ => rfl) (by rw [n_2]; decide) dX5_init_26 (cells1 := 3) (slots1 := 175) rfl rfl (fun q_3 H locs f_3 c_3 e_3 g_3 n1 hC => ?_)
  have n_3 : f_3.length = 20 := n1.trans n_2
  refine lv_aload_n hx hb dX5_init_29 rfl (lv_at hl 0 rfl) ?_
  refine lv_aload_n hx hb dX5_init_30 rfl (lv_at hl 1 rfl) ?_
  refine mkF (own := RX5) (C := RX5) (T := TX5) (N := 20) (Ts := ALC) hx hb hK hC hts (ac ui_X5) tyX5 tyX5_ok nmX5 hown rfl 0 (by decide) (hts _ (ak 71 rfl)) (fun _ h9 => h9) rfl hin rfl (ty1 := .object "CodeLifter$Listing") (by decide +kernel) (fun _ => rfl) (fun _ => rfl) (by rw [n_3]; decide) dX5_init_31 (fun H locs f_4 e_4 n1 hC => ?_)
  have n_4 : f_4.length = 20 := n1.trans n_3
  refine lv_aload_n hx hb dX5_init_34 rfl (lv_at hl 0 rfl) ?_
  refine lv_aload_n hx hb dX5_init_35 rfl (lv_at hl 2 rfl) ?_
  refine mkF (own := RX5) (C := RX5) (T := TX5) (N := 20) (Ts := ALC) hx hb hK hC hts (ac ui_X5) tyX5 tyX5_ok nmX5 hown rfl 1 (by decide) (hts _ (ak 72 rfl)) (fun _ h9 => h9) rfl hin rfl (ty1 := .object "CodeLifter$Blocks") (by decide +kernel) (fun _ => rfl) (fun _ => rfl) (by rw [n_4]; decide) dX5_init_36 (fun H locs f_5 e_5 n1 hC => ?_)
  have n_5 : f_5.length = 20 := n1.trans n_4
  refine lv_aload_n hx hb dX5_init_39 rfl (lv_at hl 0 rfl) ?_
  refine lv_aload_n hx hb dX5_init_40 rfl (lv_at hl 3 rfl) ?_
  refine mkF (own := RX5) (C := RX5) (T := TX5) (N := 20) (Ts := ALC) hx hb hK hC hts (ac ui_X5) tyX5 tyX5_ok nmX5 hown rfl 2 (by decide) (hts _ (ak 73 rfl)) (fun _ h9 => h9) rfl hin rfl (ty1 := .object "CodeLifter$Pool") (by decide +kernel) (fun _ => rfl) (fun _ => rfl) (by rw [n_5]; decide) dX5_init_41 (fun H locs f_6 e_6 n1 hC => ?_)
  have n_6 : f_6.length = 20 := n1.trans n_5
  refine lv_aload_n hx hb dX5_init_44 rfl (lv_at hl 0 rfl) ?_
  refine lv_aload hx hb dX5_init_45 (lv_at hl 4 rfl) ?_
  refine mkF (own := RX5) (C := RX5) (T := TX5) (N := 20) (Ts := ALC) hx hb hK hC hts (ac ui_X5) tyX5 tyX5_ok nmX5 hown rfl 3 (by decide) (hts _ (ak 74 rfl)) (fun _ h9 => h9) rfl hin rfl (ty1 := .object "CodeLifter$Lifted") (by decide +kernel) (fun _ => rfl) (fun _ => rfl) (by rw [n_6]; decide) dX5_init_47 (fun H locs f_7 e_7 n1 hC => ?_)
  have n_7 : f_7.length = 20 := n1.trans n_6
  refine lv_aload_n hx hb dX5_init_50 rfl (lv_at hl 0 rfl) ?_
  refine lv_aload hx hb dX5_init_51 (lv_at hl 5 rfl) ?_
  refine mkF (own := RX5) (C := RX5) (T := TX5) (N := 20) (Ts := ALC) hx hb hK hC hts (ac ui_X5) tyX5 tyX5_ok nmX5 hown rfl 4 (by decide) (hts _ (ak 75 rfl)) (fun _ h9 => h9) rfl hin rfl (ty1 := .object "CodeLifter$Lines") (by decide +kernel) (fun _ => rfl) (fun _ => rfl) (by rw [n_7]; decide) dX5_init_53 (fun H locs f_8 e_8 n1 hC => ?_)
  have n_8 : f_8.length = 20 := n1.trans n_7
  subst e_1 g_1 e_2 g_2 e_3 g_3 e_4 e_5 e_6 e_7 e_8
  refine W.vret B.exec B.bytes B.returns (fun t ht hW => ⟨⟨fun k => ([q_1, q_2, q_3] : List Nat).getD k 0, rfl, trivial, by rw [ht]; exact hC.1, ?_⟩, ?_⟩) ?_ dX5_init_56
  · exact hC.2.2.2.2
  · rw [hAe]; exact hC.2.1
  · rw [hAe]; exact hC.2.2.F ht

def KX6 (y : Nat → ClassId) (h0 h1 h2 h3 : Nat) (g : Nat → Nat) : va_W := [(h0, .inr (6, [.ref h1, .ref h2, .ref h3, .ref (g 0), .int 0])), (g 0, .inl (y 0, 400, .inl (fun _ => 0)))]
set_option maxHeartbeats 8000000 in
set_option maxRecDepth 100000 in
theorem k_X6_init {D : va_G} {y : Nat → ClassId} (l : Launch) (h0 h1 h2 h3 : Nat) (sz : Nat) : Met l yX6_init (Cond.code yX6_init cX6_init 4 none :: ALC) { frames := 1, cells := 1, slots := 400, locals := 12 } (va_Pc [.ref h0, .ref h1, .ref h2, .ref h3] (PCt D y [(h0, .inr (6, [.null, .null, .null, .null, .int 0]))] sz)) (QCt D [(h0, .inr (6, [.null, .null, .null, .null, .int 0]))] (KX6 y h0 h1 h2 h3) sz) 1 400 (va_A [(h0, .inr (6, [.null, .null, .null, .null, .int 0]))] sz) := by
  refine Met.ofW (cc := cX6_init) (maxL := 4) (ret := none) (by decide) rfl ?_
  intro p e s m args below meth c s₁ B hml hv
  obtain ⟨rfl, hsz, hP, hK, hD0⟩ := hv
  have hx := B.exec
  have hb := B.bytes
  have hts0 := atoms_spec (ws := Cond.code yX6_init cX6_init 4 none :: ALC) B.pre
  have hts : ∀ w ∈ ALC, w.before _ s = true := fun w hw => hts0 w (List.mem_cons_of_mem _ hw)
  have hown : s.vm.findClass RX6 = some m.cls := findClass_of_methodNamed B.named
  have hlocks := B.notSynchronized
  have hin : meth.name = "<init>" := (name_of_methodNamed B.named B.method).1
  subst hsz
  have hD := hD0.self (sz := s.heap.size)
  generalize hAe : va_A [(h0, .inr (6, [.null, .null, .null, .null, .int 0]))] s.heap.size = A at hD
  have hA : ∀ q : Nat, s.heap.size ≤ q → A q := fun q h => by rw [← hAe]; exact Or.inr h
  have hC : CZ D A s s.heap [] [(h0, .inr (6, [.null, .null, .null, .null, .int 0]))] := ⟨hP, hD, va_S.rf⟩
  have hl := lv_entry ([.ref h0, .ref h1, .ref h2, .ref h3]) (n := 4) (Nat.le_of_ble_eq_true rfl)
  rw [lg_entry_eq]
  generalize (lg_sl ([.ref h0, .ref h1, .ref h2, .ref h3]) ++ List.replicate (4 - (lg_sl ([.ref h0, .ref h1, .ref h2, .ref h3])).length) Slot.unset).toArray = ls at hl ⊢
  have hl : lv_has ls 4 [(0, .ref h0), (1, .ref h1), (2, .ref h2), (3, .ref h3)] := hl
  refine lv_aload_n hx hb dX6_init_0 rfl (lv_at hl 0 rfl) ?_
  refine W.objInit hx hb hown (hts _ (ak 76 rfl)) (hts _ (ak 0 rfl)) (hts _ (ak 1 rfl)) rfl (by rw [hml]; exact hl.1) rfl dX6_init_1 (Nat.le_of_ble_eq_true rfl) (Nat.le_of_ble_eq_true rfl) ?_
  refine W.eq (g2 := F0 m 4 ls []) rfl ?_
  refine lv_aload_n hx hb dX6_init_4 rfl (lv_at hl 0 rfl) ?_
  refine lv_sipush (v := 400) hx hb dX6_init_5 (by decide) ?_
  refine mkA (atype := .int) (ty := .int) (n := 400) (N' := 400) (a0 := (400, .inl (fun _ => 0))) (own := RX6) (C := RX6) (T := TX6) (N := 5) (Ts := ALC) hx hb (hts _ (ak 16 rfl)) rfl 0 rfl (by decide) hK hC hA (fun cA => rfl) (by decide) (by decide) (Nat.le_of_ble_eq_true rfl) (Nat.le_of_ble_eq_true rfl) (Nat.le_of_ble_eq_true rfl) dX6_init_8 hts (ac ui_X6) tyX6 tyX6_ok nmX6 hown rfl 3 (by decide) (hts _ (ak 77 rfl)) (fun _ h9 => h9) rfl hin rfl (ty1 := .array .int) (by decide +kernel) (fun _ => rfl) (fun _ => rfl) (by decide) dX6_init_10 (cells1 := 1) (slots1 := 400) rfl rfl (fun q_1 H locs f_1 c_1 e_1 g_1 n1 hC => ?_)
  have n_1 : f_1.length = 5 := n1.trans rfl
  refine lv_aload_n hx hb dX6_init_13 rfl (lv_at hl 0 rfl) ?_
  refine lv_aload_n hx hb dX6_init_14 rfl (lv_at hl 1 rfl) ?_
  refine mkF (own := RX6) (C := RX6) (T := TX6) (N := 5) (Ts := ALC) hx hb hK hC hts (ac ui_X6) tyX6 tyX6_ok nmX6 hown rfl 0 (by decide) (hts _ (ak 78 rfl)) (fun _ h9 => h9) rfl hin rfl (ty1 := .object "CodeLifter$Pool") (by decide +kernel) (fun _ => rfl) (fun _ => rfl) (by rw [n_1]; decide) dX6_init_15 (fun H locs f_2 e_2 n1 hC => ?_)
  have n_2 : f_2.length = 5 := n1.trans n_1
  refine lv_aload_n hx hb dX6_init_18 rfl (lv_at hl 0 rfl) ?_
  refine lv_aload_n hx hb dX6_init_19 rfl (lv_at hl 2 rfl) ?_
  refine mkF (own := RX6) (C := RX6) (T := TX6) (N := 5) (Ts := ALC) hx hb hK hC hts (ac ui_X6) tyX6 tyX6_ok nmX6 hown rfl 1 (by decide) (hts _ (ak 79 rfl)) (fun _ h9 => h9) rfl hin rfl (ty1 := .object "CodeLifter$Lifted") (by decide +kernel) (fun _ => rfl) (fun _ => rfl) (by rw [n_2]; decide) dX6_init_20 (fun H locs f_3 e_3 n1 hC => ?_)
  have n_3 : f_3.length = 5 := n1.trans n_2
  refine lv_aload_n hx hb dX6_init_23 rfl (lv_at hl 0 rfl) ?_
  refine lv_aload_n hx hb dX6_init_24 rfl (lv_at hl 3 rfl) ?_
  refine mkF (own := RX6) (C := RX6) (T := TX6) (N := 5) (Ts := ALC) hx hb hK hC hts (ac ui_X6) tyX6 tyX6_ok nmX6 hown rfl 2 (by decide) (hts _ (ak 80 rfl)) (fun _ h9 => h9) rfl hin rfl (ty1 := .object "CodeLifter$Lines") (by decide +kernel) (fun _ => rfl) (fun _ => rfl) (by rw [n_3]; decide) dX6_init_25 (fun H locs f_4 e_4 n1 hC => ?_)
  have n_4 : f_4.length = 5 := n1.trans n_3
  subst e_1 g_1 e_2 e_3 e_4
  refine W.vret B.exec B.bytes B.returns (fun t ht hW => ⟨⟨fun k => ([q_1] : List Nat).getD k 0, rfl, trivial, by rw [ht]; exact hC.1, ?_⟩, ?_⟩) ?_ dX6_init_28
  · exact hC.2.2.2.2
  · rw [hAe]; exact hC.2.1
  · rw [hAe]; exact hC.2.2.F ht

def KX7 (y : Nat → ClassId) (h0 : Nat) (g : Nat → Nat) : va_W := [(h0, .inr (7, [.int 0, .ref (g 0), .ref (g 1), .ref (g 2), .ref (g 3), .ref (g 4)])), (g 0, .inl (y 0, 512, .inl (fun _ => 0))), (g 1, .inl (y 0, 512, .inl (fun _ => 0))), (g 2, .inl (y 0, 512, .inl (fun _ => 0))), (g 3, .inl (y 0, 512, .inl (fun _ => 0))), (g 4, .inl (y 0, 512, .inl (fun _ => 0)))]
set_option maxHeartbeats 8000000 in
set_option maxRecDepth 100000 in
theorem k_X7_init {D : va_G} {y : Nat → ClassId} (l : Launch) (h0 : Nat) (sz : Nat) : Met l yX7_init (Cond.code yX7_init cX7_init 1 none :: ALC) { frames := 1, cells := 5, slots := 2560, locals := 12 } (va_Pc [.ref h0] (PCt D y [(h0, .inr (7, [.int 0, .null, .null, .null, .null, .null]))] sz)) (QCt D [(h0, .inr (7, [.int 0, .null, .null, .null, .null, .null]))] (KX7 y h0) sz) 5 2560 (va_A [(h0, .inr (7, [.int 0, .null, .null, .null, .null, .null]))] sz) := by
  refine Met.ofW (cc := cX7_init) (maxL := 1) (ret := none) (by decide) rfl ?_
  intro p e s m args below meth c s₁ B hml hv
  obtain ⟨rfl, hsz, hP, hK, hD0⟩ := hv
  have hx := B.exec
  have hb := B.bytes
  have hts0 := atoms_spec (ws := Cond.code yX7_init cX7_init 1 none :: ALC) B.pre
  have hts : ∀ w ∈ ALC, w.before _ s = true := fun w hw => hts0 w (List.mem_cons_of_mem _ hw)
  have hown : s.vm.findClass RX7 = some m.cls := findClass_of_methodNamed B.named
  have hlocks := B.notSynchronized
  have hin : meth.name = "<init>" := (name_of_methodNamed B.named B.method).1
  subst hsz
  have hD := hD0.self (sz := s.heap.size)
  generalize hAe : va_A [(h0, .inr (7, [.int 0, .null, .null, .null, .null, .null]))] s.heap.size = A at hD
  have hA : ∀ q : Nat, s.heap.size ≤ q → A q := fun q h => by rw [← hAe]; exact Or.inr h
  have hC : CZ D A s s.heap [] [(h0, .inr (7, [.int 0, .null, .null, .null, .null, .null]))] := ⟨hP, hD, va_S.rf⟩
  have hl := lv_entry ([.ref h0]) (n := 1) (Nat.le_of_ble_eq_true rfl)
  rw [lg_entry_eq]
  generalize (lg_sl ([.ref h0]) ++ List.replicate (1 - (lg_sl ([.ref h0])).length) Slot.unset).toArray = ls at hl ⊢
  have hl : lv_has ls 1 [(0, .ref h0)] := hl
  refine lv_aload_n hx hb dX7_init_0 rfl (lv_at hl 0 rfl) ?_
  refine W.objInit hx hb hown (hts _ (ak 81 rfl)) (hts _ (ak 0 rfl)) (hts _ (ak 1 rfl)) rfl (by rw [hml]; exact hl.1) rfl dX7_init_1 (Nat.le_of_ble_eq_true rfl) (Nat.le_of_ble_eq_true rfl) ?_
  refine W.eq (g2 := F0 m 4 ls []) rfl ?_
  refine lv_aload_n hx hb dX7_init_4 rfl (lv_at hl 0 rfl) ?_
  refine lv_sipush (v := 512) hx hb dX7_init_5 (by decide) ?_
  refine mkA (atype := .int) (ty := .int) (n := 512) (N' := 512) (a0 := (512, .inl (fun _ => 0))) (own := RX7) (C := RX7) (T := TX7) (N := 6) (Ts := ALC) hx hb (hts _ (ak 16 rfl)) rfl 0 rfl (by decide) hK hC hA (fun cA => rfl) (by decide) (by decide) (Nat.le_of_ble_eq_true rfl) (Nat.le_of_ble_eq_true rfl) (Nat.le_of_ble_eq_true rfl) dX7_init_8 hts (ac ui_X7) tyX7 tyX7_ok nmX7 hown rfl 1 (by decide) (hts _ (ak 82 rfl)) (fun _ h9 => h9) rfl hin rfl (ty1 := .array .int) (by decide +kernel) (fun _ => rfl) (fun _ => rfl) (by decide) dX7_init_10 (cells1 := 1) (slots1 := 512) rfl rfl (fun q_1 H locs f_1 c_1 e_1 g_1 n1 hC => ?_)
  have n_1 : f_1.length = 6 := n1.trans rfl
  refine lv_aload_n hx hb dX7_init_13 rfl (lv_at hl 0 rfl) ?_
  refine lv_sipush (v := 512) hx hb dX7_init_14 (by decide) ?_
  refine mkA (atype := .int) (ty := .int) (n := 512) (N' := 512) (a0 := (512, .inl (fun _ => 0))) (own := RX7) (C := RX7) (T := TX7) (N := 6) (Ts := ALC) hx hb (hts _ (ak 16 rfl)) rfl 0 rfl (by decide) hK hC hA (fun cA => rfl) (by decide) (by decide) (Nat.le_of_ble_eq_true rfl) (Nat.le_of_ble_eq_true rfl) (Nat.le_of_ble_eq_true rfl) dX7_init_17 hts (ac ui_X7) tyX7 tyX7_ok nmX7 hown rfl 2 (by decide) (hts _ (ak 83 rfl)) (fun _ h9 => h9) rfl hin rfl (ty1 := .array .int) (by decide +kernel) (fun _ => rfl) (fun _ => rfl) (by rw [n_1]; decide) dX7_init_19 (cells1 := 2) (slots1 := 1024) rfl rfl (fun q_2 H locs f_2 c_2 e_2 g_2 n1 hC => ?_)
  have n_2 : f_2.length = 6 := n1.trans n_1
  refine lv_aload_n hx hb dX7_init_22 rfl (lv_at hl 0 rfl) ?_
  refine lv_sipush (v := 512) hx hb dX7_init_23 (by decide) ?_
  refine mkA (atype := .int) (ty := .int) (n := 512) (N' := 512) (a0 := (512, .inl (fun _ => 0))) (own := RX7) (C := RX7) (T := TX7) (N := 6) (Ts := ALC) hx hb (hts _ (ak 16 rfl)) rfl 0 rfl (by decide) hK hC hA (fun cA => rfl) (by decide) (by decide) (Nat.le_of_ble_eq_true rfl) (Nat.le_of_ble_eq_true rfl) (Nat.le_of_ble_eq_true rfl) dX7_init_26 hts (ac ui_X7) tyX7 tyX7_ok nmX7 hown rfl 3 (by decide) (hts _ (ak 84 rfl)) (fun _ h9 => h9) rfl hin rfl (ty1 := .array .int) (by decide +kernel) (fun _ => rfl) (fun _ => rfl) (by rw [n_2]; decide) dX7_init_28 (cells1 := 3) (slots1 := 1536) rfl rfl (fun q_3 H locs f_3 c_3 e_3 g_3 n1 hC => ?_)
  have n_3 : f_3.length = 6 := n1.trans n_2
  refine lv_aload_n hx hb dX7_init_31 rfl (lv_at hl 0 rfl) ?_
  refine lv_sipush (v := 512) hx hb dX7_init_32 (by decide) ?_
  refine mkA (atype := .int) (ty := .int) (n := 512) (N' := 512) (a0 := (512, .inl (fun _ => 0))) (own := RX7) (C := RX7) (T := TX7) (N := 6) (Ts := ALC) hx hb (hts _ (ak 16 rfl)) rfl 0 rfl (by decide) hK hC hA (fun cA => rfl) (by decide) (by decide) (Nat.le_of_ble_eq_true rfl) (Nat.le_of_ble_eq_true rfl) (Nat.le_of_ble_eq_true rfl) dX7_init_35 hts (ac ui_X7) tyX7 tyX7_ok nmX7 hown rfl 4 (by decide) (hts _ (ak 85 rfl)) (fun _ h9 => h9) rfl hin rfl (ty1 := .array .int) (by decide +kernel) (fun _ => rfl) (fun _ => rfl) (by rw [n_3]; decide) dX7_init_37 (cells1 := 4) (slots1 := 2048) rfl rfl (fun q_4 H locs f_4 c_4 e_4 g_4 n1 hC => ?_)
  have n_4 : f_4.length = 6 := n1.trans n_3
  refine lv_aload_n hx hb dX7_init_40 rfl (lv_at hl 0 rfl) ?_
  refine lv_sipush (v := 512) hx hb dX7_init_41 (by decide) ?_
  refine mkA (atype := .int) (ty := .int) (n := 512) (N' := 512) (a0 := (512, .inl (fun _ => 0))) (own := RX7) (C := RX7) (T := TX7) (N := 6) (Ts := ALC) hx hb (hts _ (ak 16 rfl)) rfl 0 rfl (by decide) hK hC hA (fun cA => rfl) (by decide) (by decide) (Nat.le_of_ble_eq_true rfl) (Nat.le_of_ble_eq_true rfl) (Nat.le_of_ble_eq_true rfl) dX7_init_44 hts (ac ui_X7) tyX7 tyX7_ok nmX7 hown rfl 5 (by decide) (hts _ (ak 86 rfl)) (fun _ h9 => h9) rfl hin rfl (ty1 := .array .int) (by decide +kernel) (fun _ => rfl) (fun _ => rfl) (by rw [n_4]; decide) dX7_init_46 (cells1 := 5) (slots1 := 2560) rfl rfl (fun q_5 H locs f_5 c_5 e_5 g_5 n1 hC => ?_)
  have n_5 : f_5.length = 6 := n1.trans n_4
  subst e_1 g_1 e_2 g_2 e_3 g_3 e_4 g_4 e_5 g_5
  refine W.vret B.exec B.bytes B.returns (fun t ht hW => ⟨⟨fun k => ([q_1, q_2, q_3, q_4, q_5] : List Nat).getD k 0, rfl, trivial, by rw [ht]; exact hC.1, ?_⟩, ?_⟩) ?_ dX7_init_49
  · exact hC.2.2.2.2
  · rw [hAe]; exact hC.2.1
  · rw [hAe]; exact hC.2.2.F ht

def KX8 (y : Nat → ClassId) (h0 h1 : Nat) (g : Nat → Nat) : va_W := [(h0, .inr (8, [.ref h1, .int 0, .int 0, .int 0, .ref (g 0), .ref (g 1), .ref (g 2), .ref (g 3), .ref (g 4), .ref (g 5), .long 0, .ref (g 6), .long 0, .ref (g 7), .ref (g 8), .ref (g 9), .ref (g 10), .int 0])), (g 0, .inl (y 2, 120, .inl (fun _ => 0))), (g 1, .inl (y 2, 120, .inl (fun _ => 0))), (g 2, .inl (y 0, 40, .inl (fun _ => 0))), (g 3, .inl (y 0, 40, .inl (fun _ => 0))), (g 4, .inl (y 3, 40, .inr (.inl (fun _ => 0)))), (g 5, .inl (y 0, 40, .inl (fun _ => 0))), (g 6, .inl (y 3, 40, .inr (.inl (fun _ => 0)))), (g 7, .inl (y 3, 40, .inr (.inl (fun _ => 0)))), (g 8, .inl (y 0, 40, .inl (fun _ => 0))), (g 9, .inl (y 0, 40, .inl (fun _ => 0))), (g 10, .inl (y 0, 120, .inl (fun _ => 0)))]
set_option maxHeartbeats 8000000 in
set_option maxRecDepth 100000 in
theorem k_X8_init {D : va_G} {y : Nat → ClassId} (l : Launch) (h0 h1 : Nat) (sz : Nat) : Met l yX8_init (Cond.code yX8_init cX8_init 2 none :: ALC) { frames := 1, cells := 11, slots := 680, locals := 12 } (va_Pc [.ref h0, .ref h1] (PCt D y [(h0, .inr (8, [.null, .int 0, .int 0, .int 0, .null, .null, .null, .null, .null, .null, .long 0, .null, .long 0, .null, .null, .null, .null, .int 0]))] sz)) (QCt D [(h0, .inr (8, [.null, .int 0, .int 0, .int 0, .null, .null, .null, .null, .null, .null, .long 0, .null, .long 0, .null, .null, .null, .null, .int 0]))] (KX8 y h0 h1) sz) 11 680 (va_A [(h0, .inr (8, [.null, .int 0, .int 0, .int 0, .null, .null, .null, .null, .null, .null, .long 0, .null, .long 0, .null, .null, .null, .null, .int 0]))] sz) := by
  refine Met.ofW (cc := cX8_init) (maxL := 2) (ret := none) (by decide) rfl ?_
  intro p e s m args below meth c s₁ B hml hv
  obtain ⟨rfl, hsz, hP, hK, hD0⟩ := hv
  have hx := B.exec
  have hb := B.bytes
  have hts0 := atoms_spec (ws := Cond.code yX8_init cX8_init 2 none :: ALC) B.pre
  have hts : ∀ w ∈ ALC, w.before _ s = true := fun w hw => hts0 w (List.mem_cons_of_mem _ hw)
  have hown : s.vm.findClass RX8 = some m.cls := findClass_of_methodNamed B.named
  have hlocks := B.notSynchronized
  have hin : meth.name = "<init>" := (name_of_methodNamed B.named B.method).1
  subst hsz
  have hD := hD0.self (sz := s.heap.size)
  generalize hAe : va_A [(h0, .inr (8, [.null, .int 0, .int 0, .int 0, .null, .null, .null, .null, .null, .null, .long 0, .null, .long 0, .null, .null, .null, .null, .int 0]))] s.heap.size = A at hD
  have hA : ∀ q : Nat, s.heap.size ≤ q → A q := fun q h => by rw [← hAe]; exact Or.inr h
  have hC : CZ D A s s.heap [] [(h0, .inr (8, [.null, .int 0, .int 0, .int 0, .null, .null, .null, .null, .null, .null, .long 0, .null, .long 0, .null, .null, .null, .null, .int 0]))] := ⟨hP, hD, va_S.rf⟩
  have hl := lv_entry ([.ref h0, .ref h1]) (n := 2) (Nat.le_of_ble_eq_true rfl)
  rw [lg_entry_eq]
  generalize (lg_sl ([.ref h0, .ref h1]) ++ List.replicate (2 - (lg_sl ([.ref h0, .ref h1])).length) Slot.unset).toArray = ls at hl ⊢
  have hl : lv_has ls 2 [(0, .ref h0), (1, .ref h1)] := hl
  refine lv_aload_n hx hb dX8_init_0 rfl (lv_at hl 0 rfl) ?_
  refine W.objInit hx hb hown (hts _ (ak 87 rfl)) (hts _ (ak 0 rfl)) (hts _ (ak 1 rfl)) rfl (by rw [hml]; exact hl.1) rfl dX8_init_1 (Nat.le_of_ble_eq_true rfl) (Nat.le_of_ble_eq_true rfl) ?_
  refine W.eq (g2 := F0 m 4 ls []) rfl ?_
  refine lv_aload_n hx hb dX8_init_4 rfl (lv_at hl 0 rfl) ?_
  refine lv_bipush (v := 120) hx hb dX8_init_5 (by decide) ?_
  refine mkA (atype := .boolean) (ty := .boolean) (n := 120) (N' := 120) (a0 := (120, .inl (fun _ => 0))) (own := RX8) (C := RX8) (T := TX8) (N := 18) (Ts := ALC) hx hb (hts _ (ak 28 rfl)) rfl 2 rfl (by decide) hK hC hA (fun cA => rfl) (by decide) (by decide) (Nat.le_of_ble_eq_true rfl) (Nat.le_of_ble_eq_true rfl) (Nat.le_of_ble_eq_true rfl) dX8_init_7 hts (ac ui_X8) tyX8 tyX8_ok nmX8 hown rfl 4 (by decide) (hts _ (ak 88 rfl)) (fun _ h9 => h9) rfl hin rfl (ty1 := .array .boolean) (by decide +kernel) (fun _ => rfl) (fun _ => rfl) (by decide) dX8_init_9 (cells1 := 1) (slots1 := 120) rfl rfl (fun q_1 H locs f_1 c_1 e_1 g_1 n1 hC => ?_)
  have n_1 : f_1.length = 18 := n1.trans rfl
  refine lv_aload_n hx hb dX8_init_12 rfl (lv_at hl 0 rfl) ?_
  refine lv_bipush (v := 120) hx hb dX8_init_13 (by decide) ?_
  refine mkA (atype := .boolean) (ty := .boolean) (n := 120) (N' := 120) (a0 := (120, .inl (fun _ => 0))) (own := RX8) (C := RX8) (T := TX8) (N := 18) (Ts := ALC) hx hb (hts _ (ak 28 rfl)) rfl 2 rfl (by decide) hK hC hA (fun cA => rfl) (by decide) (by decide) (Nat.le_of_ble_eq_true rfl) (Nat.le_of_ble_eq_true rfl) (Nat.le_of_ble_eq_true rfl) dX8_init_15 hts (ac ui_X8) tyX8 tyX8_ok nmX8 hown rfl 5 (by decide) (hts _ (ak 89 rfl)) (fun _ h9 => h9) rfl hin rfl (ty1 := .array .boolean) (by decide +kernel) (fun _ => rfl) (fun _ => rfl) (by rw [n_1]; decide) dX8_init_17 (cells1 := 2) (slots1 := 240) rfl rfl (fun q_2 H locs f_2 c_2 e_2 g_2 n1 hC => ?_)
  have n_2 : f_2.length = 18 := n1.trans n_1
  refine lv_aload_n hx hb dX8_init_20 rfl (lv_at hl 0 rfl) ?_
  refine lv_bipush (v := 40) hx hb dX8_init_21 (by decide) ?_
  refine mkA (atype := .int) (ty := .int) (n := 40) (N' := 40) (a0 := (40, .inl (fun _ => 0))) (own := RX8) (C := RX8) (T := TX8) (N := 18) (Ts := ALC) hx hb (hts _ (ak 16 rfl)) rfl 0 rfl (by decide) hK hC hA (fun cA => rfl) (by decide) (by decide) (Nat.le_of_ble_eq_true rfl) (Nat.le_of_ble_eq_true rfl) (Nat.le_of_ble_eq_true rfl) dX8_init_23 hts (ac ui_X8) tyX8 tyX8_ok nmX8 hown rfl 6 (by decide) (hts _ (ak 90 rfl)) (fun _ h9 => h9) rfl hin rfl (ty1 := .array .int) (by decide +kernel) (fun _ => rfl) (fun _ => rfl) (by rw [n_2]; decide) dX8_init_25 (cells1 := 3) (slots1 := 280) rfl rfl (fun q_3 H locs f_3 c_3 e_3 g_3 n1 hC => ?_)
  have n_3 : f_3.length = 18 := n1.trans n_2
  refine lv_aload_n hx hb dX8_init_28 rfl (lv_at hl 0 rfl) ?_
  refine lv_bipush (v := 40) hx hb dX8_init_29 (by decide) ?_
  refine mkA (atype := .int) (ty := .int) (n := 40) (N' := 40) (a0 := (40, .inl (fun _ => 0))) (own := RX8) (C := RX8) (T := TX8) (N := 18) (Ts := ALC) hx hb (hts _ (ak 16 rfl)) rfl 0 rfl (by decide) hK hC hA (fun cA => rfl) (by decide) (by decide) (Nat.le_of_ble_eq_true rfl) (Nat.le_of_ble_eq_true rfl) (Nat.le_of_ble_eq_true rfl) dX8_init_31 hts (ac ui_X8) tyX8 tyX8_ok nmX8 hown rfl 7 (by decide) (hts _ (ak 91 rfl)) (fun _ h9 => h9) rfl hin rfl (ty1 := .array .int) (by decide +kernel) (fun _ => rfl) (fun _ => rfl) (by rw [n_3]; decide) dX8_init_33 (cells1 := 4) (slots1 := 320) rfl rfl (fun q_4 H locs f_4 c_4 e_4 g_4 n1 hC => ?_)
  have n_4 : f_4.length = 18 := n1.trans n_3
  refine lv_aload_n hx hb dX8_init_36 rfl (lv_at hl 0 rfl) ?_
  refine lv_bipush (v := 40) hx hb dX8_init_37 (by decide) ?_
  refine mkA (atype := .long) (ty := .long) (n := 40) (N' := 40) (a0 := (40, .inr (.inl (fun _ => 0)))) (own := RX8) (C := RX8) (T := TX8) (N := 18) (Ts := ALC) hx hb (hts _ (ak 23 rfl)) rfl 3 rfl (by decide) hK hC hA (fun cA => rfl) (by decide) (by decide) (Nat.le_of_ble_eq_true rfl) (Nat.le_of_ble_eq_true rfl) (Nat.le_of_ble_eq_true rfl) dX8_init_39 hts (ac ui_X8) tyX8 tyX8_ok nmX8 hown rfl 8 (by decide) (hts _ (ak 92 rfl)) (fun _ h9 => h9) rfl hin rfl (ty1 := .array .long) (by decide +kernel) (fun _ => rfl) (fun _ => rfl) (by rw [n_4]; decide) dX8_init_41 (cells1 := 5) (slots1 := 360) rfl rfl (fun q_5 H locs f_5 c_5 e_5 g_5 n1 hC => ?_)
  have n_5 : f_5.length = 18 := n1.trans n_4
  refine lv_aload_n hx hb dX8_init_44 rfl (lv_at hl 0 rfl) ?_
  refine lv_bipush (v := 40) hx hb dX8_init_45 (by decide) ?_
  refine mkA (atype := .int) (ty := .int) (n := 40) (N' := 40) (a0 := (40, .inl (fun _ => 0))) (own := RX8) (C := RX8) (T := TX8) (N := 18) (Ts := ALC) hx hb (hts _ (ak 16 rfl)) rfl 0 rfl (by decide) hK hC hA (fun cA => rfl) (by decide) (by decide) (Nat.le_of_ble_eq_true rfl) (Nat.le_of_ble_eq_true rfl) (Nat.le_of_ble_eq_true rfl) dX8_init_47 hts (ac ui_X8) tyX8 tyX8_ok nmX8 hown rfl 9 (by decide) (hts _ (ak 93 rfl)) (fun _ h9 => h9) rfl hin rfl (ty1 := .array .int) (by decide +kernel) (fun _ => rfl) (fun _ => rfl) (by rw [n_5]; decide) dX8_init_49 (cells1 := 6) (slots1 := 400) rfl rfl (fun q_6 H locs f_6 c_6 e_6 g_6 n1 hC => ?_)
  have n_6 : f_6.length = 18 := n1.trans n_5
  refine lv_aload_n hx hb dX8_init_52 rfl (lv_at hl 0 rfl) ?_
  refine lv_bipush (v := 40) hx hb dX8_init_53 (by decide) ?_
  refine mkA (atype := .long) (ty := .long) (n := 40) (N' := 40) (a0 := (40, .inr (.inl (fun _ => 0)))) (own := RX8) (C := RX8) (T := TX8) (N := 18) (Ts := ALC) hx hb (hts _ (ak 23 rfl)) rfl 3 rfl (by decide) hK hC hA (fun cA => rfl) (by decide) (by decide) (Nat.le_of_ble_eq_true rfl) (Nat.le_of_ble_eq_true rfl) (Nat.le_of_ble_eq_true rfl) dX8_init_55 hts (ac ui_X8) tyX8 tyX8_ok nmX8 hown rfl 11 (by decide) (hts _ (ak 94 rfl)) (fun _ h9 => h9) rfl hin rfl (ty1 := .array .long) (by decide +kernel) (fun _ => rfl) (fun _ => rfl) (by rw [n_6]; decide) dX8_init_57 (cells1 := 7) (slots1 := 440) rfl rfl (fun q_7 H locs f_7 c_7 e_7 g_7 n1 hC => ?_)
  have n_7 : f_7.length = 18 := n1.trans n_6
  refine lv_aload_n hx hb dX8_init_60 rfl (lv_at hl 0 rfl) ?_
  refine lv_bipush (v := 40) hx hb dX8_init_61 (by decide) ?_
  refine mkA (atype := .long) (ty := .long) (n := 40) (N' := 40) (a0 := (40, .inr (.inl (fun _ => 0)))) (own := RX8) (C := RX8) (T := TX8) (N := 18) (Ts := ALC) hx hb (hts _ (ak 23 rfl)) rfl 3 rfl (by decide) hK hC hA (fun cA => rfl) (by decide) (by decide) (Nat.le_of_ble_eq_true rfl) (Nat.le_of_ble_eq_true rfl) (Nat.le_of_ble_eq_true rfl) dX8_init_63 hts (ac ui_X8) tyX8 tyX8_ok nmX8 hown rfl 13 (by decide) (hts _ (ak 95 rfl)) (fun _ h9 => h9) rfl hin rfl (ty1 := .array .long) (by decide +kernel) (fun _ => rfl) (fun _ => rfl) (by rw [n_7]; decide) dX8_init_65 (cells1 := 8) (slots1 := 480) rfl rfl (fun q_8 H locs f_8 c_8 e_8 g_8 n1 hC => ?_)
  have n_8 : f_8.length = 18 := n1.trans n_7
  refine lv_aload_n hx hb dX8_init_68 rfl (lv_at hl 0 rfl) ?_
  refine lv_bipush (v := 40) hx hb dX8_init_69 (by decide) ?_
  refine mkA (atype := .int) (ty := .int) (n := 40) (N' := 40) (a0 := (40, .inl (fun _ => 0))) (own := RX8) (C := RX8) (T := TX8) (N := 18) (Ts := ALC) hx hb (hts _ (ak 16 rfl)) rfl 0 rfl (by decide) hK hC hA (fun cA => rfl) (by decide) (by decide) (Nat.le_of_ble_eq_true rfl) (Nat.le_of_ble_eq_true rfl) (Nat.le_of_ble_eq_true rfl) dX8_init_71 hts (ac ui_X8) tyX8 tyX8_ok nmX8 hown rfl 14 (by decide) (hts _ (ak 96 rfl)) (fun _ h9 => h9) rfl hin rfl (ty1 := .array .int) (by decide +kernel) (fun _ => rfl) (fun _ => rfl) (by rw [n_8]; decide) dX8_init_73 (cells1 := 9) (slots1 := 520) rfl rfl (fun q_9 H locs f_9 c_9 e_9 g_9 n1 hC => ?_)
  have n_9 : f_9.length = 18 := n1.trans n_8
  refine lv_aload_n hx hb dX8_init_76 rfl (lv_at hl 0 rfl) ?_
  refine lv_bipush (v := 40) hx hb dX8_init_77 (by decide) ?_
  refine mkA (atype := .int) (ty := .int) (n := 40) (N' := 40) (a0 := (40, .inl (fun _ => 0))) (own := RX8) (C := RX8) (T := TX8) (N := 18) (Ts := ALC) hx hb (hts _ (ak 16 rfl)) rfl 0 rfl (by decide) hK hC hA (fun cA => rfl) (by decide) (by decide) (Nat.le_of_ble_eq_true rfl) (Nat.le_of_ble_eq_true rfl) (Nat.le_of_ble_eq_true rfl) dX8_init_79 hts (ac ui_X8) tyX8 tyX8_ok nmX8 hown rfl 15 (by decide) (hts _ (ak 97 rfl)) (fun _ h9 => h9) rfl hin rfl (ty1 := .array .int) (by decide +kernel) (fun _ => rfl) (fun _ => rfl) (by rw [n_9]; decide) dX8_init_81 (cells1 := 10) (slots1 := 560) rfl rfl (fun q_10 H locs f_10 c_10 e_10 g_10 n1 hC => ?_)
  have n_10 : f_10.length = 18 := n1.trans n_9
  refine lv_aload_n hx hb dX8_init_84 rfl (lv_at hl 0 rfl) ?_
  refine lv_bipush (v := 120) hx hb dX8_init_85 (by decide) ?_
  refine mkA (atype := .int) (ty := .int) (n := 120) (N' := 120) (a0 := (120, .inl (fun _ => 0))) (own := RX8) (C := RX8) (T := TX8) (N := 18) (Ts := ALC) hx hb (hts _ (ak 16 rfl)) rfl 0 rfl (by decide) hK hC hA (fun cA => rfl) (by decide) (by decide) (Nat.le_of_ble_eq_true rfl) (Nat.le_of_ble_eq_true rfl) (Nat.le_of_ble_eq_true rfl) dX8_init_87 hts (ac ui_X8) tyX8 tyX8_ok nmX8 hown rfl 16 (by decide) (hts _ (ak 98 rfl)) (fun _ h9 => h9) rfl hin rfl (ty1 := .array .int) (by decide +kernel) (fun _ => rfl) (fun _ => rfl) (by rw [n_10]; decide) dX8_init_89 (cells1 := 11) (slots1 := 680) rfl rfl (fun q_11 H locs f_11 c_11 e_11 g_11 n1 hC => ?_)
  have n_11 : f_11.length = 18 := n1.trans n_10
  refine lv_aload_n hx hb dX8_init_92 rfl (lv_at hl 0 rfl) ?_
  refine lv_aload_n hx hb dX8_init_93 rfl (lv_at hl 1 rfl) ?_
  refine mkF (own := RX8) (C := RX8) (T := TX8) (N := 18) (Ts := ALC) hx hb hK hC hts (ac ui_X8) tyX8 tyX8_ok nmX8 hown rfl 0 (by decide) (hts _ (ak 99 rfl)) (fun _ h9 => h9) rfl hin rfl (ty1 := .object "CodeLifter$Blocks") (by decide +kernel) (fun _ => rfl) (fun _ => rfl) (by rw [n_11]; decide) dX8_init_94 (fun H locs f_12 e_12 n1 hC => ?_)
  have n_12 : f_12.length = 18 := n1.trans n_11
  subst e_1 g_1 e_2 g_2 e_3 g_3 e_4 g_4 e_5 g_5 e_6 g_6 e_7 g_7 e_8 g_8 e_9 g_9 e_10 g_10 e_11 g_11 e_12
  refine W.vret B.exec B.bytes B.returns (fun t ht hW => ⟨⟨fun k => ([q_1, q_2, q_3, q_4, q_5, q_6, q_7, q_8, q_9, q_10, q_11] : List Nat).getD k 0, rfl, trivial, by rw [ht]; exact hC.1, ?_⟩, ?_⟩) ?_ dX8_init_97
  · exact hC.2.2.2.2
  · rw [hAe]; exact hC.2.1
  · rw [hAe]; exact hC.2.2.F ht

def KX9 (y : Nat → ClassId) (h0 : Nat) (g : Nat → Nat) : va_W := [(h0, .inr (9, [.ref (g 0), .int 0, .int 0])), (g 0, .inl (y 1, 240, .inl (fun _ => 0)))]
set_option maxHeartbeats 8000000 in
set_option maxRecDepth 100000 in
theorem k_X9_init {D : va_G} {y : Nat → ClassId} (l : Launch) (h0 : Nat) (sz : Nat) : Met l yX9_init (Cond.code yX9_init cX9_init 1 none :: ALC) { frames := 1, cells := 1, slots := 240, locals := 12 } (va_Pc [.ref h0] (PCt D y [(h0, .inr (9, [.null, .int 0, .int 0]))] sz)) (QCt D [(h0, .inr (9, [.null, .int 0, .int 0]))] (KX9 y h0) sz) 1 240 (va_A [(h0, .inr (9, [.null, .int 0, .int 0]))] sz) := by
  refine Met.ofW (cc := cX9_init) (maxL := 1) (ret := none) (by decide) rfl ?_
  intro p e s m args below meth c s₁ B hml hv
  obtain ⟨rfl, hsz, hP, hK, hD0⟩ := hv
  have hx := B.exec
  have hb := B.bytes
  have hts0 := atoms_spec (ws := Cond.code yX9_init cX9_init 1 none :: ALC) B.pre
  have hts : ∀ w ∈ ALC, w.before _ s = true := fun w hw => hts0 w (List.mem_cons_of_mem _ hw)
  have hown : s.vm.findClass RX9 = some m.cls := findClass_of_methodNamed B.named
  have hlocks := B.notSynchronized
  have hin : meth.name = "<init>" := (name_of_methodNamed B.named B.method).1
  subst hsz
  have hD := hD0.self (sz := s.heap.size)
  generalize hAe : va_A [(h0, .inr (9, [.null, .int 0, .int 0]))] s.heap.size = A at hD
  have hA : ∀ q : Nat, s.heap.size ≤ q → A q := fun q h => by rw [← hAe]; exact Or.inr h
  have hC : CZ D A s s.heap [] [(h0, .inr (9, [.null, .int 0, .int 0]))] := ⟨hP, hD, va_S.rf⟩
  have hl := lv_entry ([.ref h0]) (n := 1) (Nat.le_of_ble_eq_true rfl)
  rw [lg_entry_eq]
  generalize (lg_sl ([.ref h0]) ++ List.replicate (1 - (lg_sl ([.ref h0])).length) Slot.unset).toArray = ls at hl ⊢
  have hl : lv_has ls 1 [(0, .ref h0)] := hl
  refine lv_aload_n hx hb dX9_init_0 rfl (lv_at hl 0 rfl) ?_
  refine W.objInit hx hb hown (hts _ (ak 100 rfl)) (hts _ (ak 0 rfl)) (hts _ (ak 1 rfl)) rfl (by rw [hml]; exact hl.1) rfl dX9_init_1 (Nat.le_of_ble_eq_true rfl) (Nat.le_of_ble_eq_true rfl) ?_
  refine W.eq (g2 := F0 m 4 ls []) rfl ?_
  refine lv_aload_n hx hb dX9_init_4 rfl (lv_at hl 0 rfl) ?_
  refine lv_sipush (v := 240) hx hb dX9_init_5 (by decide) ?_
  refine mkA (atype := .byte) (ty := .byte) (n := 240) (N' := 240) (a0 := (240, .inl (fun _ => 0))) (own := RX9) (C := RX9) (T := TX9) (N := 3) (Ts := ALC) hx hb (hts _ (ak 101 rfl)) rfl 1 rfl (by decide) hK hC hA (fun cA => rfl) (by decide) (by decide) (Nat.le_of_ble_eq_true rfl) (Nat.le_of_ble_eq_true rfl) (Nat.le_of_ble_eq_true rfl) dX9_init_8 hts (ac ui_X9) tyX9 tyX9_ok nmX9 hown rfl 0 (by decide) (hts _ (ak 102 rfl)) (fun _ h9 => h9) rfl hin rfl (ty1 := .array .byte) (by decide +kernel) (fun _ => rfl) (fun _ => rfl) (by decide) dX9_init_10 (cells1 := 1) (slots1 := 240) rfl rfl (fun q_1 H locs f_1 c_1 e_1 g_1 n1 hC => ?_)
  have n_1 : f_1.length = 3 := n1.trans rfl
  subst e_1 g_1
  refine W.vret B.exec B.bytes B.returns (fun t ht hW => ⟨⟨fun k => ([q_1] : List Nat).getD k 0, rfl, trivial, by rw [ht]; exact hC.1, ?_⟩, ?_⟩) ?_ dX9_init_13
  · exact hC.2.2.2.2
  · rw [hAe]; exact hC.2.1
  · rw [hAe]; exact hC.2.2.F ht

def KX10 (y : Nat → ClassId) (h0 h1 h2 h3 : Nat) (g : Nat → Nat) : va_W := [(h0, .inr (10, [.ref h1, .ref h2, .ref h3, .ref (g 0), .ref (g 1), .ref (g 2)])), (g 0, .inl (y 2, 6, .inl (fun _ => 0))), (g 1, .inl (y 2, 6, .inl (fun _ => 0))), (g 2, .inl (y 2, 160, .inl (fun _ => 0)))]
set_option maxHeartbeats 8000000 in
set_option maxRecDepth 100000 in
theorem k_X10_init {D : va_G} {y : Nat → ClassId} (l : Launch) (h0 h1 h2 h3 : Nat) (sz : Nat) : Met l yX10_init (Cond.code yX10_init cX10_init 4 none :: ALC) { frames := 1, cells := 3, slots := 172, locals := 12 } (va_Pc [.ref h0, .ref h1, .ref h2, .ref h3] (PCt D y [(h0, .inr (10, [.null, .null, .null, .null, .null, .null]))] sz)) (QCt D [(h0, .inr (10, [.null, .null, .null, .null, .null, .null]))] (KX10 y h0 h1 h2 h3) sz) 3 172 (va_A [(h0, .inr (10, [.null, .null, .null, .null, .null, .null]))] sz) := by
  refine Met.ofW (cc := cX10_init) (maxL := 4) (ret := none) (by decide) rfl ?_
  intro p e s m args below meth c s₁ B hml hv
  obtain ⟨rfl, hsz, hP, hK, hD0⟩ := hv
  have hx := B.exec
  have hb := B.bytes
  have hts0 := atoms_spec (ws := Cond.code yX10_init cX10_init 4 none :: ALC) B.pre
  have hts : ∀ w ∈ ALC, w.before _ s = true := fun w hw => hts0 w (List.mem_cons_of_mem _ hw)
  have hown : s.vm.findClass RX10 = some m.cls := findClass_of_methodNamed B.named
  have hlocks := B.notSynchronized
  have hin : meth.name = "<init>" := (name_of_methodNamed B.named B.method).1
  subst hsz
  have hD := hD0.self (sz := s.heap.size)
  generalize hAe : va_A [(h0, .inr (10, [.null, .null, .null, .null, .null, .null]))] s.heap.size = A at hD
  have hA : ∀ q : Nat, s.heap.size ≤ q → A q := fun q h => by rw [← hAe]; exact Or.inr h
  have hC : CZ D A s s.heap [] [(h0, .inr (10, [.null, .null, .null, .null, .null, .null]))] := ⟨hP, hD, va_S.rf⟩
  have hl := lv_entry ([.ref h0, .ref h1, .ref h2, .ref h3]) (n := 4) (Nat.le_of_ble_eq_true rfl)
  rw [lg_entry_eq]
  generalize (lg_sl ([.ref h0, .ref h1, .ref h2, .ref h3]) ++ List.replicate (4 - (lg_sl ([.ref h0, .ref h1, .ref h2, .ref h3])).length) Slot.unset).toArray = ls at hl ⊢
  have hl : lv_has ls 4 [(0, .ref h0), (1, .ref h1), (2, .ref h2), (3, .ref h3)] := hl
  refine lv_aload_n hx hb dX10_init_0 rfl (lv_at hl 0 rfl) ?_
  refine W.objInit hx hb hown (hts _ (ak 103 rfl)) (hts _ (ak 0 rfl)) (hts _ (ak 1 rfl)) rfl (by rw [hml]; exact hl.1) rfl dX10_init_1 (Nat.le_of_ble_eq_true rfl) (Nat.le_of_ble_eq_true rfl) ?_
  refine W.eq (g2 := F0 m 4 ls []) rfl ?_
  refine lv_aload_n hx hb dX10_init_4 rfl (lv_at hl 0 rfl) ?_
  refine lv_bipush (v := 6) hx hb dX10_init_5 (by decide) ?_
  refine mkA (atype := .boolean) (ty := .boolean) (n := 6) (N' := 6) (a0 := (6, .inl (fun _ => 0))) (own := RX10) (C := RX10) (T := TX10) (N := 6) (Ts := ALC) hx hb (hts _ (ak 28 rfl)) rfl 2 rfl (by decide) hK hC hA (fun cA => rfl) (by decide) (by decide) (Nat.le_of_ble_eq_true rfl) (Nat.le_of_ble_eq_true rfl) (Nat.le_of_ble_eq_true rfl) dX10_init_7 hts (ac ui_X10) tyX10 tyX10_ok nmX10 hown rfl 3 (by decide) (hts _ (ak 104 rfl)) (fun _ h9 => h9) rfl hin rfl (ty1 := .array .boolean) (by decide +kernel) (fun _ => rfl) (fun _ => rfl) (by decide) dX10_init_9 (cells1 := 1) (slots1 := 6) rfl rfl (fun q_1 H locs f_1 c_1 e_1 g_1 n1 hC => ?_)
  have n_1 : f_1.length = 6 := n1.trans rfl
  refine lv_aload_n hx hb dX10_init_12 rfl (lv_at hl 0 rfl) ?_
  refine lv_bipush (v := 6) hx hb dX10_init_13 (by decide) ?_
  refine mkA (atype := .boolean) (ty := .boolean) (n := 6) (N' := 6) (a0 := (6, .inl (fun _ => 0))) (own := RX10) (C := RX10) (T := TX10) (N := 6) (Ts := ALC) hx hb (hts _ (ak 28 rfl)) rfl 2 rfl (by decide) hK hC hA (fun cA => rfl) (by decide) (by decide) (Nat.le_of_ble_eq_true rfl) (Nat.le_of_ble_eq_true rfl) (Nat.le_of_ble_eq_true rfl) dX10_init_15 hts (ac ui_X10) tyX10 tyX10_ok nmX10 hown rfl 4 (by decide) (hts _ (ak 105 rfl)) (fun _ h9 => h9) rfl hin rfl (ty1 := .array .boolean) (by decide +kernel) (fun _ => rfl) (fun _ => rfl) (by rw [n_1]; decide) dX10_init_17 (cells1 := 2) (slots1 := 12) rfl rfl (fun q_2 H locs f_2 c_2 e_2 g_2 n1 hC => ?_)
  have n_2 : f_2.length = 6 := n1.trans n_1
  refine lv_aload_n hx hb dX10_init_20 rfl (lv_at hl 0 rfl) ?_
  refine lv_sipush (v := 160) hx hb dX10_init_21 (by decide) ?_
  refine mkA (atype := .boolean) (ty := .boolean) (n := 160) (N' := 160) (a0 := (160, .inl (fun _ => 0))) (own := RX10) (C := RX10) (T := TX10) (N := 6) (Ts := ALC) hx hb (hts _ (ak 28 rfl)) rfl 2 rfl (by decide) hK hC hA (fun cA => rfl) (by decide) (by decide) (Nat.le_of_ble_eq_true rfl) (Nat.le_of_ble_eq_true rfl) (Nat.le_of_ble_eq_true rfl) dX10_init_24 hts (ac ui_X10) tyX10 tyX10_ok nmX10 hown rfl 5 (by decide) (hts _ (ak 106 rfl)) (fun _ h9 => h9) rfl hin rfl (ty1 := .array .boolean) (by decide +kernel) (fun _ => rfl) (fun _ => rfl) (by rw [n_2]; decide) dX10_init_26 (cells1 := 3) (slots1 := 172) rfl rfl (fun q_3 H locs f_3 c_3 e_3 g_3 n1 hC => ?_)
  have n_3 : f_3.length = 6 := n1.trans n_2
  refine lv_aload_n hx hb dX10_init_29 rfl (lv_at hl 0 rfl) ?_
  refine lv_aload_n hx hb dX10_init_30 rfl (lv_at hl 1 rfl) ?_
  refine mkF (own := RX10) (C := RX10) (T := TX10) (N := 6) (Ts := ALC) hx hb hK hC hts (ac ui_X10) tyX10 tyX10_ok nmX10 hown rfl 0 (by decide) (hts _ (ak 107 rfl)) (fun _ h9 => h9) rfl hin rfl (ty1 := .object "CodeLifter$Blocks") (by decide +kernel) (fun _ => rfl) (fun _ => rfl) (by rw [n_3]; decide) dX10_init_31 (fun H locs f_4 e_4 n1 hC => ?_)
  have n_4 : f_4.length = 6 := n1.trans n_3
  refine lv_aload_n hx hb dX10_init_34 rfl (lv_at hl 0 rfl) ?_
  refine lv_aload_n hx hb dX10_init_35 rfl (lv_at hl 2 rfl) ?_
  refine mkF (own := RX10) (C := RX10) (T := TX10) (N := 6) (Ts := ALC) hx hb hK hC hts (ac ui_X10) tyX10 tyX10_ok nmX10 hown rfl 1 (by decide) (hts _ (ak 108 rfl)) (fun _ h9 => h9) rfl hin rfl (ty1 := .object "CodeLifter$Pool") (by decide +kernel) (fun _ => rfl) (fun _ => rfl) (by rw [n_4]; decide) dX10_init_36 (fun H locs f_5 e_5 n1 hC => ?_)
  have n_5 : f_5.length = 6 := n1.trans n_4
  refine lv_aload_n hx hb dX10_init_39 rfl (lv_at hl 0 rfl) ?_
  refine lv_aload_n hx hb dX10_init_40 rfl (lv_at hl 3 rfl) ?_
  refine mkF (own := RX10) (C := RX10) (T := TX10) (N := 6) (Ts := ALC) hx hb hK hC hts (ac ui_X10) tyX10 tyX10_ok nmX10 hown rfl 2 (by decide) (hts _ (ak 109 rfl)) (fun _ h9 => h9) rfl hin rfl (ty1 := .object "CodeLifter$Lifted") (by decide +kernel) (fun _ => rfl) (fun _ => rfl) (by rw [n_5]; decide) dX10_init_41 (fun H locs f_6 e_6 n1 hC => ?_)
  have n_6 : f_6.length = 6 := n1.trans n_5
  subst e_1 g_1 e_2 g_2 e_3 g_3 e_4 e_5 e_6
  refine W.vret B.exec B.bytes B.returns (fun t ht hW => ⟨⟨fun k => ([q_1, q_2, q_3] : List Nat).getD k 0, rfl, trivial, by rw [ht]; exact hC.1, ?_⟩, ?_⟩) ?_ dX10_init_44
  · exact hC.2.2.2.2
  · rw [hAe]; exact hC.2.1
  · rw [hAe]; exact hC.2.2.F ht
