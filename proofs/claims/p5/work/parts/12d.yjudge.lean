set_option maxHeartbeats 4000000 in
theorem s_X12_tries_signRead_numberRead_handlerRead {x3 : Int32} {x5 : Int32} {σ : Sto} (hB : BM σ) (p_x3 : 0 ≤ x3.toInt ∧ x3.toInt ≤ 40) (p_x5 : 0 ≤ x5.toInt ∧ x5.toInt ≤ 3) : OK (f_X12_tries_signRead_numberRead_handlerRead x3 x5 σ) (fun s => BM s ∧ FR [12, 13, 14, 17, 18] [] σ s ∧ ((s.1 17 0).toInt = x3.toInt ∧ (s.1 18 0).toInt = x5.toInt ∧ (∀ i : Nat, i < 40 → s.1 12 i = σ.1 4 i ∧ s.1 13 i = σ.1 5 i) ∧ ∀ i : Nat, i < 9 → s.1 14 i = σ.1 6 i)) := by
  unfold f_X12_tries_signRead_numberRead_handlerRead
  have hF : FR [12, 13, 14, 17, 18] [] σ σ := FR.rf
  have k_0 : (0 : Int32).toInt = 0 := by decide +kernel
  have k_1 : (1 : Int32).toInt = 1 := by decide +kernel
  have k_9 : (9 : Int32).toInt = 9 := by decide +kernel
  have k_40 : (40 : Int32).toInt = 40 := by decide +kernel
  refine ok_itr2 (fun (n : Nat) (x6_1 : Int32) (s_1 : Sto) => n = (41 - x6_1.toInt).toNat ∧ (0 ≤ x6_1.toInt ∧ x6_1.toInt ≤ 40) ∧ (BM s_1) ∧ (FR [12, 13, 14, 17, 18] [] σ s_1) ∧ (∀ i : Nat, (i : Int) < x6_1.toInt → s_1.1 12 i = σ.1 4 i ∧ s_1.1 13 i = σ.1 5 i)) ?_ (n := _) ⟨rfl, (by omega), hB, hF, (fun i hi => by exfalso; have h9 : (0 : Int32).toInt = 0 := (by decide +kernel); omega)⟩ (show _ < 10000000 by omega)
  intro a_3 n x6_1 s_1 hI ih_a_3
  obtain ⟨hn_a_3, b_x6_1, hB_s_1, hF_s_1, h1⟩ := hI
  refine ok_ite (fun c_1 => ?_) (fun c_1 => ?_)
  · rw [fa_le] at c_1
    refine ok_itr2 (fun (n : Nat) (x6_3 : Int32) (s_3 : Sto) => n = (13 - x6_3.toInt).toNat ∧ (0 ≤ x6_3.toInt ∧ x6_3.toInt ≤ 12) ∧ (BM s_3) ∧ (FR [12, 13, 14, 17, 18] [] σ s_3) ∧ (∀ i : Nat, i < 40 → s_3.1 12 i = σ.1 4 i ∧ s_3.1 13 i = σ.1 5 i) ∧ (∀ i : Nat, (i : Int) < x6_3.toInt → s_3.1 14 i = σ.1 6 i)) ?_ (n := _) ⟨rfl, (by omega), hB_s_1, hF_s_1, (fun i hi => h1 i (by omega)), (fun i hi => by exfalso; have h9 : (0 : Int32).toInt = 0 := (by decide +kernel); omega)⟩ (show _ < 10000000 by omega)
    intro a_41 n x6_3 s_3 hI ih_a_41
    obtain ⟨hn_a_41, b_x6_3, hB_s_3, hF_s_3, h1, h2⟩ := hI
    refine ok_ite (fun c_2 => ?_) (fun c_2 => ?_)
    · rw [fa_le] at c_2
      refine ok_lt fun s_5 e_s_5 => ?_
      have hB_s_5 : BM s_5 := by rw [e_s_5]; exact pM_17 hB_s_3 (by omega)
      have hF_s_5 : FR [12, 13, 14, 17, 18] [] σ s_5 := by rw [e_s_5]; exact FR.st hF_s_3 (by decide)
      have w_s_5_17 : (s_5.1 17 0).toInt = x3.toInt := by rw [e_s_5, sti_s]
      have w_s_5_18 : (s_5.1 18 0).toInt = (s_3.1 18 0).toInt := by rw [e_s_5]; rfl
      refine ok_lt fun s_6 e_s_6 => ?_
      have hB_s_6 : BM s_6 := by rw [e_s_6]; exact pM_18 hB_s_5 (by omega)
      have hF_s_6 : FR [12, 13, 14, 17, 18] [] σ s_6 := by rw [e_s_6]; exact FR.st hF_s_5 (by decide)
      have w_s_6_17 : (s_6.1 17 0).toInt = (s_5.1 17 0).toInt := by rw [e_s_6]; rfl
      have w_s_6_18 : (s_6.1 18 0).toInt = x5.toInt := by rw [e_s_6, sti_s]
      exact ok_ret ⟨hB_s_6, hF_s_6, ⟨by omega, by omega, (by rw [show s_6.1 12 = s_3.1 12 by rw [e_s_6, e_s_5]; rfl, show s_6.1 13 = s_3.1 13 by rw [e_s_6, e_s_5]; rfl]; exact h1), fun i hi => by rw [show s_6.1 14 = s_3.1 14 by rw [e_s_6, e_s_5]; rfl]; exact h2 i (by omega)⟩⟩
    · rw [fa_le] at c_2
      refine ok_ix ⟨by omega, by omega⟩ ?_
      have g_3 := gM_6 hB_s_3 (x6_3.toNatClampNeg)
      refine ok_lt fun v_7 e_v_7 => ?_
      have b_v_7 : 0 ≤ v_7.toInt ∧ v_7.toInt ≤ 40 := by rw [e_v_7]; exact gM_6 hB_s_3 _
      refine ok_ix ⟨by omega, by omega⟩ ?_
      refine ok_lt fun s_8 e_s_8 => ?_
      have hB_s_8 : BM s_8 := by rw [e_s_8]; exact pM_14 hB_s_3 (by omega)
      have hF_s_8 : FR [12, 13, 14, 17, 18] [] σ s_8 := by rw [e_s_8]; exact FR.st hF_s_3 (by decide)
      have w_s_8_17 : (s_8.1 17 0).toInt = (s_3.1 17 0).toInt := by rw [e_s_8]; rfl
      have w_s_8_18 : (s_8.1 18 0).toInt = (s_3.1 18 0).toInt := by rw [e_s_8]; rfl
      obtain ⟨t_4, ht_4, g_4⟩ : ∃ t : Int, (x6_3 + 1).toInt = t ∧ t = x6_3.toInt + (1 : Int32).toInt := ⟨_, rfl, by have h9 := fb_addI (x := x6_3) (y := (1 : Int32)) (by omega) (by omega); exact h9⟩
      refine ok_lt fun x6_9 e_x6_9 => ?_
      have q_x6_9 : x6_9.toInt = t_4 := by rw [e_x6_9]; exact ht_4
      exact ih_a_41 _ x6_9 s_8 (by rw [hn_a_41]; omega) ⟨rfl, (by omega), hB_s_8, hF_s_8, (by rw [show s_8.1 12 = s_3.1 12 by rw [e_s_8]; rfl, show s_8.1 13 = s_3.1 13 by rw [e_s_8]; rfl]; exact h1), (fun i hi => by rw [show s_8.1 14 = (sti s_3 14 x6_3.toNatClampNeg v_7).1 14 by rw [e_s_8], sti_if]; by_cases q : i = x6_3.toNatClampNeg; (rw [if_pos q, q, e_v_7, hF_s_3.1 6 (by decide)]); (rw [if_neg q]; exact h2 i (by have := clamp_I (x := x6_3) (by omega); omega)))⟩
  · rw [fa_le] at c_1
    refine ok_ix ⟨by omega, by omega⟩ ?_
    have g_5 := gM_4 hB_s_1 (x6_1.toNatClampNeg)
    refine ok_lt fun v_10 e_v_10 => ?_
    have b_v_10 : 0 ≤ v_10.toInt ∧ v_10.toInt ≤ 255 := by rw [e_v_10]; exact gM_4 hB_s_1 _
    refine ok_ix ⟨by omega, by omega⟩ ?_
    refine ok_lt fun s_11 e_s_11 => ?_
    have hB_s_11 : BM s_11 := by rw [e_s_11]; exact pM_12 hB_s_1 (by omega)
    have hF_s_11 : FR [12, 13, 14, 17, 18] [] σ s_11 := by rw [e_s_11]; exact FR.st hF_s_1 (by decide)
    have w_s_11_17 : (s_11.1 17 0).toInt = (s_1.1 17 0).toInt := by rw [e_s_11]; rfl
    have w_s_11_18 : (s_11.1 18 0).toInt = (s_1.1 18 0).toInt := by rw [e_s_11]; rfl
    refine ok_ix ⟨by omega, by omega⟩ ?_
    have g_6 := gM_5 hB_s_11 (x6_1.toNatClampNeg)
    refine ok_lt fun v_12 e_v_12 => ?_
    have b_v_12 : 0 ≤ v_12.toInt ∧ v_12.toInt ≤ 999 := by rw [e_v_12]; exact gM_5 hB_s_11 _
    refine ok_ix ⟨by omega, by omega⟩ ?_
    refine ok_lt fun s_13 e_s_13 => ?_
    have hB_s_13 : BM s_13 := by rw [e_s_13]; exact pM_13 hB_s_11 (by omega)
    have hF_s_13 : FR [12, 13, 14, 17, 18] [] σ s_13 := by rw [e_s_13]; exact FR.st hF_s_11 (by decide)
    have w_s_13_17 : (s_13.1 17 0).toInt = (s_11.1 17 0).toInt := by rw [e_s_13]; rfl
    have w_s_13_18 : (s_13.1 18 0).toInt = (s_11.1 18 0).toInt := by rw [e_s_13]; rfl
    obtain ⟨t_7, ht_7, g_7⟩ : ∃ t : Int, (x6_1 + 1).toInt = t ∧ t = x6_1.toInt + (1 : Int32).toInt := ⟨_, rfl, by have h9 := fb_addI (x := x6_1) (y := (1 : Int32)) (by omega) (by omega); exact h9⟩
    refine ok_lt fun x6_14 e_x6_14 => ?_
    have q_x6_14 : x6_14.toInt = t_7 := by rw [e_x6_14]; exact ht_7
    exact ih_a_3 _ x6_14 s_13 (by rw [hn_a_3]; omega) ⟨rfl, (by omega), hB_s_13, hF_s_13, (fun i hi => by rw [show s_13.1 12 = s_11.1 12 by rw [e_s_13]; rfl, show s_13.1 13 = (sti s_11 13 x6_1.toNatClampNeg v_12).1 13 by rw [e_s_13], e_s_11, sti_if, sti_if]; by_cases q : i = x6_1.toNatClampNeg; (rw [if_pos q, if_pos q, q, e_v_10, e_v_12, hF_s_1.1 4 (by decide), hF_s_11.1 5 (by decide)]; exact ⟨rfl, rfl⟩); (rw [if_neg q, if_neg q]; exact h1 i (by have := clamp_I (x := x6_1) (by omega); omega)))⟩

set_option maxHeartbeats 4000000 in
theorem s_X12_isOneOf_s102 {x1 : Int32} (p_x1 : 0 ≤ x1.toInt ∧ x1.toInt ≤ 255) : OK (f_X12_isOneOf_s102 x1) (fun v => (0 ≤ v.toInt ∧ v.toInt ≤ 1) ∧ ((v.toInt = 1 ↔ (x1.toInt = 43 ∨ x1.toInt = 45 ∨ x1.toInt = 42 ∨ x1.toInt = 47 ∨ x1.toInt = 37 ∨ x1.toInt = 60 ∨ x1.toInt = 61 ∨ x1.toInt = 119)))) := by
  unfold f_X12_isOneOf_s102
  have k_0 : (0 : Int32).toInt = 0 := by decide +kernel
  have k_1 : (1 : Int32).toInt = 1 := by decide +kernel
  have k_8 : (8 : Int32).toInt = 8 := by decide +kernel
  refine ok_itr1 (fun (n : Nat) (x2_1 : Int32) => n = (9 - x2_1.toInt).toNat ∧ (0 ≤ x2_1.toInt ∧ x2_1.toInt ≤ 8) ∧ (∀ j : Nat, (j : Int) < x2_1.toInt → (chS 102 (nI j)).toInt ≠ x1.toInt)) ?_ (n := _) ⟨rfl, (by omega), (fun i hi => by exfalso; have h9 : (0 : Int32).toInt = 0 := (by decide +kernel); omega)⟩ (show _ < 10000000 by omega)
  intro a_2 n x2_1 hI ih_a_2
  obtain ⟨hn_a_2, b_x2_1, h1⟩ := hI
  refine ok_ite (fun c_1 => ?_) (fun c_1 => ?_)
  · rw [fa_le] at c_1
    exact ok_ret ⟨(by (try dsimp only); omega), (by (try dsimp only); first | (refine ⟨fun h => absurd h (by omega), fun h => ?_⟩; exfalso; have e0 := h1 0 (by omega); rw [ch_102_0] at e0; have e1 := h1 1 (by omega); rw [ch_102_1] at e1; have e2 := h1 2 (by omega); rw [ch_102_2] at e2; have e3 := h1 3 (by omega); rw [ch_102_3] at e3; have e4 := h1 4 (by omega); rw [ch_102_4] at e4; have e5 := h1 5 (by omega); rw [ch_102_5] at e5; have e6 := h1 6 (by omega); rw [ch_102_6] at e6; have e7 := h1 7 (by omega); rw [ch_102_7] at e7; omega) | exact ⟨fun _ => by have c := clamp_I (x := x2_1) (by omega); have q := ch_102 x2_1.toNatClampNeg (by omega); rw [← z3] at q; omega, fun _ => by omega⟩)⟩
  · rw [fa_le] at c_1
    refine ok_ix ⟨by omega, by omega⟩ ?_
    obtain ⟨t_2, ht_2, g_2⟩ : ∃ t : Int, (chS 102 x2_1).toInt = t ∧ -2147483648 ≤ t ∧ t ≤ 2147483647 := ⟨_, rfl, tI_rng _⟩
    refine ok_lt fun v_3 e_v_3 => ?_
    have b_v_3 : 0 ≤ v_3.toInt ∧ v_3.toInt ≤ 255 := by rw [e_v_3]; exact ch_rng _ _
    have n3 : x2_1 = nI x2_1.toNatClampNeg := by refine Int32.toInt_inj.mp ?_; have := clamp_I (x := x2_1) (by omega); rw [nI_toInt (n := x2_1.toNatClampNeg) (by omega)]; omega
    have z3 : v_3.toInt = (chS 102 (nI x2_1.toNatClampNeg)).toInt := by rw [e_v_3, ← n3]
    refine ok_ite (fun c_3 => ?_) (fun c_3 => ?_)
    · rw [fa_eq] at c_3
      exact ok_ret ⟨(by (try dsimp only); omega), (by (try dsimp only); first | (refine ⟨fun h => absurd h (by omega), fun h => ?_⟩; exfalso; have e0 := h1 0 (by omega); rw [ch_102_0] at e0; have e1 := h1 1 (by omega); rw [ch_102_1] at e1; have e2 := h1 2 (by omega); rw [ch_102_2] at e2; have e3 := h1 3 (by omega); rw [ch_102_3] at e3; have e4 := h1 4 (by omega); rw [ch_102_4] at e4; have e5 := h1 5 (by omega); rw [ch_102_5] at e5; have e6 := h1 6 (by omega); rw [ch_102_6] at e6; have e7 := h1 7 (by omega); rw [ch_102_7] at e7; omega) | exact ⟨fun _ => by have c := clamp_I (x := x2_1) (by omega); have q := ch_102 x2_1.toNatClampNeg (by omega); rw [← z3] at q; omega, fun _ => by omega⟩)⟩
    · rw [fa_eq] at c_3
      obtain ⟨t_4, ht_4, g_4⟩ : ∃ t : Int, (x2_1 + 1).toInt = t ∧ t = x2_1.toInt + (1 : Int32).toInt := ⟨_, rfl, by have h9 := fb_addI (x := x2_1) (y := (1 : Int32)) (by omega) (by omega); exact h9⟩
      refine ok_lt fun x2_5 e_x2_5 => ?_
      have q_x2_5 : x2_5.toInt = t_4 := by rw [e_x2_5]; exact ht_4
      exact ih_a_2 _ x2_5 (by rw [hn_a_2]; omega) ⟨rfl, (by omega), (fun j hj => by by_cases q : j = x2_1.toNatClampNeg; (rw [q, ← z3]; omega); exact h1 j (by have := clamp_I (x := x2_1) (by omega); omega))⟩

set_option maxHeartbeats 4000000 in
theorem s_X12_isOneOf_s103 {x1 : Int32} (p_x1 : 0 ≤ x1.toInt ∧ x1.toInt ≤ 255) : OK (f_X12_isOneOf_s103 x1) (fun v => (0 ≤ v.toInt ∧ v.toInt ≤ 1) ∧ ((v.toInt = 1 ↔ (x1.toInt = 33 ∨ x1.toInt = 110 ∨ x1.toInt = 100 ∨ x1.toInt = 112 ∨ x1.toInt = 115 ∨ x1.toInt = 122 ∨ x1.toInt = 111 ∨ x1.toInt = 116)))) := by
  unfold f_X12_isOneOf_s103
  have k_0 : (0 : Int32).toInt = 0 := by decide +kernel
  have k_1 : (1 : Int32).toInt = 1 := by decide +kernel
  have k_8 : (8 : Int32).toInt = 8 := by decide +kernel
  refine ok_itr1 (fun (n : Nat) (x2_1 : Int32) => n = (9 - x2_1.toInt).toNat ∧ (0 ≤ x2_1.toInt ∧ x2_1.toInt ≤ 8) ∧ (∀ j : Nat, (j : Int) < x2_1.toInt → (chS 103 (nI j)).toInt ≠ x1.toInt)) ?_ (n := _) ⟨rfl, (by omega), (fun i hi => by exfalso; have h9 : (0 : Int32).toInt = 0 := (by decide +kernel); omega)⟩ (show _ < 10000000 by omega)
  intro a_2 n x2_1 hI ih_a_2
  obtain ⟨hn_a_2, b_x2_1, h1⟩ := hI
  refine ok_ite (fun c_1 => ?_) (fun c_1 => ?_)
  · rw [fa_le] at c_1
    exact ok_ret ⟨(by (try dsimp only); omega), (by (try dsimp only); first | (refine ⟨fun h => absurd h (by omega), fun h => ?_⟩; exfalso; have e0 := h1 0 (by omega); rw [ch_103_0] at e0; have e1 := h1 1 (by omega); rw [ch_103_1] at e1; have e2 := h1 2 (by omega); rw [ch_103_2] at e2; have e3 := h1 3 (by omega); rw [ch_103_3] at e3; have e4 := h1 4 (by omega); rw [ch_103_4] at e4; have e5 := h1 5 (by omega); rw [ch_103_5] at e5; have e6 := h1 6 (by omega); rw [ch_103_6] at e6; have e7 := h1 7 (by omega); rw [ch_103_7] at e7; omega) | exact ⟨fun _ => by have c := clamp_I (x := x2_1) (by omega); have q := ch_103 x2_1.toNatClampNeg (by omega); rw [← z3] at q; omega, fun _ => by omega⟩)⟩
  · rw [fa_le] at c_1
    refine ok_ix ⟨by omega, by omega⟩ ?_
    obtain ⟨t_2, ht_2, g_2⟩ : ∃ t : Int, (chS 103 x2_1).toInt = t ∧ -2147483648 ≤ t ∧ t ≤ 2147483647 := ⟨_, rfl, tI_rng _⟩
    refine ok_lt fun v_3 e_v_3 => ?_
    have b_v_3 : 0 ≤ v_3.toInt ∧ v_3.toInt ≤ 255 := by rw [e_v_3]; exact ch_rng _ _
    have n3 : x2_1 = nI x2_1.toNatClampNeg := by refine Int32.toInt_inj.mp ?_; have := clamp_I (x := x2_1) (by omega); rw [nI_toInt (n := x2_1.toNatClampNeg) (by omega)]; omega
    have z3 : v_3.toInt = (chS 103 (nI x2_1.toNatClampNeg)).toInt := by rw [e_v_3, ← n3]
    refine ok_ite (fun c_3 => ?_) (fun c_3 => ?_)
    · rw [fa_eq] at c_3
      exact ok_ret ⟨(by (try dsimp only); omega), (by (try dsimp only); first | (refine ⟨fun h => absurd h (by omega), fun h => ?_⟩; exfalso; have e0 := h1 0 (by omega); rw [ch_103_0] at e0; have e1 := h1 1 (by omega); rw [ch_103_1] at e1; have e2 := h1 2 (by omega); rw [ch_103_2] at e2; have e3 := h1 3 (by omega); rw [ch_103_3] at e3; have e4 := h1 4 (by omega); rw [ch_103_4] at e4; have e5 := h1 5 (by omega); rw [ch_103_5] at e5; have e6 := h1 6 (by omega); rw [ch_103_6] at e6; have e7 := h1 7 (by omega); rw [ch_103_7] at e7; omega) | exact ⟨fun _ => by have c := clamp_I (x := x2_1) (by omega); have q := ch_103 x2_1.toNatClampNeg (by omega); rw [← z3] at q; omega, fun _ => by omega⟩)⟩
    · rw [fa_eq] at c_3
      obtain ⟨t_4, ht_4, g_4⟩ : ∃ t : Int, (x2_1 + 1).toInt = t ∧ t = x2_1.toInt + (1 : Int32).toInt := ⟨_, rfl, by have h9 := fb_addI (x := x2_1) (y := (1 : Int32)) (by omega) (by omega); exact h9⟩
      refine ok_lt fun x2_5 e_x2_5 => ?_
      have q_x2_5 : x2_5.toInt = t_4 := by rw [e_x2_5]; exact ht_4
      exact ih_a_2 _ x2_5 (by rw [hn_a_2]; omega) ⟨rfl, (by omega), (fun j hj => by by_cases q : j = x2_1.toNatClampNeg; (rw [q, ← z3]; omega); exact h1 j (by have := clamp_I (x := x2_1) (by omega); omega))⟩

set_option maxHeartbeats 4000000 in
theorem s_X12_pops {x1 : Int32} (p_x1 : 0 ≤ x1.toInt ∧ x1.toInt ≤ 255) : OK (f_X12_pops x1) (fun v => (0 ≤ v.toInt ∧ v.toInt ≤ 2) ∧ (v.toInt = ndI x1.toInt)) := by
  unfold f_X12_pops
  have k_0 : (0 : Int32).toInt = 0 := by decide +kernel
  have k_1 : (1 : Int32).toInt = 1 := by decide +kernel
  have k_2 : (2 : Int32).toInt = 2 := by decide +kernel
  refine ok_calp (s_X12_isOneOf_s102 (x1 := x1) (by omega)) (fun v_1 h_1 => ?_)
  obtain ⟨b_v_1, x_v_1⟩ := h_1
  (try dsimp only at b_v_1 x_v_1)
  refine ok_ite (fun c_2 => ?_) (fun c_2 => ?_)
  · rw [fa_eq] at c_2
    refine ok_calp (s_X12_isOneOf_s103 (x1 := x1) (by omega)) (fun v_3 h_3 => ?_)
    obtain ⟨b_v_3, x_v_3⟩ := h_3
    (try dsimp only at b_v_3 x_v_3)
    refine ok_ite (fun c_4 => ?_) (fun c_4 => ?_)
    · rw [fa_eq] at c_4
      exact ok_ret ⟨(by (try dsimp only); omega), (by (try dsimp only); unfold ndI; (repeat split) <;> omega)⟩
    · rw [fa_eq] at c_4
      exact ok_ret ⟨(by (try dsimp only); omega), (by (try dsimp only); unfold ndI; (repeat split) <;> omega)⟩
  · rw [fa_eq] at c_2
    exact ok_ret ⟨(by (try dsimp only); omega), (by (try dsimp only); unfold ndI; (repeat split) <;> omega)⟩

set_option maxHeartbeats 4000000 in
theorem s_X12_isOneOf_s104 {x1 : Int32} (p_x1 : 0 ≤ x1.toInt ∧ x1.toInt ≤ 255) : OK (f_X12_isOneOf_s104 x1) (fun v => (0 ≤ v.toInt ∧ v.toInt ≤ 1) ∧ ((v.toInt = 1 ↔ (x1.toInt = 107 ∨ x1.toInt = 108 ∨ x1.toInt = 43 ∨ x1.toInt = 45 ∨ x1.toInt = 42 ∨ x1.toInt = 47 ∨ x1.toInt = 37 ∨ x1.toInt = 60 ∨ x1.toInt = 61 ∨ x1.toInt = 33 ∨ x1.toInt = 110 ∨ x1.toInt = 105)))) := by
  unfold f_X12_isOneOf_s104
  have k_0 : (0 : Int32).toInt = 0 := by decide +kernel
  have k_1 : (1 : Int32).toInt = 1 := by decide +kernel
  have k_12 : (12 : Int32).toInt = 12 := by decide +kernel
  refine ok_itr1 (fun (n : Nat) (x2_1 : Int32) => n = (13 - x2_1.toInt).toNat ∧ (0 ≤ x2_1.toInt ∧ x2_1.toInt ≤ 12) ∧ (∀ j : Nat, (j : Int) < x2_1.toInt → (chS 104 (nI j)).toInt ≠ x1.toInt)) ?_ (n := _) ⟨rfl, (by omega), (fun i hi => by exfalso; have h9 : (0 : Int32).toInt = 0 := (by decide +kernel); omega)⟩ (show _ < 10000000 by omega)
  intro a_2 n x2_1 hI ih_a_2
  obtain ⟨hn_a_2, b_x2_1, h1⟩ := hI
  refine ok_ite (fun c_1 => ?_) (fun c_1 => ?_)
  · rw [fa_le] at c_1
    exact ok_ret ⟨(by (try dsimp only); omega), (by (try dsimp only); first | (refine ⟨fun h => absurd h (by omega), fun h => ?_⟩; exfalso; have e0 := h1 0 (by omega); rw [ch_104_0] at e0; have e1 := h1 1 (by omega); rw [ch_104_1] at e1; have e2 := h1 2 (by omega); rw [ch_104_2] at e2; have e3 := h1 3 (by omega); rw [ch_104_3] at e3; have e4 := h1 4 (by omega); rw [ch_104_4] at e4; have e5 := h1 5 (by omega); rw [ch_104_5] at e5; have e6 := h1 6 (by omega); rw [ch_104_6] at e6; have e7 := h1 7 (by omega); rw [ch_104_7] at e7; have e8 := h1 8 (by omega); rw [ch_104_8] at e8; have e9 := h1 9 (by omega); rw [ch_104_9] at e9; have e10 := h1 10 (by omega); rw [ch_104_10] at e10; have e11 := h1 11 (by omega); rw [ch_104_11] at e11; omega) | exact ⟨fun _ => by have c := clamp_I (x := x2_1) (by omega); have q := ch_104 x2_1.toNatClampNeg (by omega); rw [← z3] at q; omega, fun _ => by omega⟩)⟩
  · rw [fa_le] at c_1
    refine ok_ix ⟨by omega, by omega⟩ ?_
    obtain ⟨t_2, ht_2, g_2⟩ : ∃ t : Int, (chS 104 x2_1).toInt = t ∧ -2147483648 ≤ t ∧ t ≤ 2147483647 := ⟨_, rfl, tI_rng _⟩
    refine ok_lt fun v_3 e_v_3 => ?_
    have b_v_3 : 0 ≤ v_3.toInt ∧ v_3.toInt ≤ 255 := by rw [e_v_3]; exact ch_rng _ _
    have n3 : x2_1 = nI x2_1.toNatClampNeg := by refine Int32.toInt_inj.mp ?_; have := clamp_I (x := x2_1) (by omega); rw [nI_toInt (n := x2_1.toNatClampNeg) (by omega)]; omega
    have z3 : v_3.toInt = (chS 104 (nI x2_1.toNatClampNeg)).toInt := by rw [e_v_3, ← n3]
    refine ok_ite (fun c_3 => ?_) (fun c_3 => ?_)
    · rw [fa_eq] at c_3
      exact ok_ret ⟨(by (try dsimp only); omega), (by (try dsimp only); first | (refine ⟨fun h => absurd h (by omega), fun h => ?_⟩; exfalso; have e0 := h1 0 (by omega); rw [ch_104_0] at e0; have e1 := h1 1 (by omega); rw [ch_104_1] at e1; have e2 := h1 2 (by omega); rw [ch_104_2] at e2; have e3 := h1 3 (by omega); rw [ch_104_3] at e3; have e4 := h1 4 (by omega); rw [ch_104_4] at e4; have e5 := h1 5 (by omega); rw [ch_104_5] at e5; have e6 := h1 6 (by omega); rw [ch_104_6] at e6; have e7 := h1 7 (by omega); rw [ch_104_7] at e7; have e8 := h1 8 (by omega); rw [ch_104_8] at e8; have e9 := h1 9 (by omega); rw [ch_104_9] at e9; have e10 := h1 10 (by omega); rw [ch_104_10] at e10; have e11 := h1 11 (by omega); rw [ch_104_11] at e11; omega) | exact ⟨fun _ => by have c := clamp_I (x := x2_1) (by omega); have q := ch_104 x2_1.toNatClampNeg (by omega); rw [← z3] at q; omega, fun _ => by omega⟩)⟩
    · rw [fa_eq] at c_3
      obtain ⟨t_4, ht_4, g_4⟩ : ∃ t : Int, (x2_1 + 1).toInt = t ∧ t = x2_1.toInt + (1 : Int32).toInt := ⟨_, rfl, by have h9 := fb_addI (x := x2_1) (y := (1 : Int32)) (by omega) (by omega); exact h9⟩
      refine ok_lt fun x2_5 e_x2_5 => ?_
      have q_x2_5 : x2_5.toInt = t_4 := by rw [e_x2_5]; exact ht_4
      exact ih_a_2 _ x2_5 (by rw [hn_a_2]; omega) ⟨rfl, (by omega), (fun j hj => by by_cases q : j = x2_1.toNatClampNeg; (rw [q, ← z3]; omega); exact h1 j (by have := clamp_I (x := x2_1) (by omega); omega))⟩

set_option maxHeartbeats 4000000 in
theorem s_X12_pushes {x1 : Int32} (p_x1 : 0 ≤ x1.toInt ∧ x1.toInt ≤ 255) : OK (f_X12_pushes x1) (fun v => (0 ≤ v.toInt ∧ v.toInt ≤ 2) ∧ (v.toInt = gvI x1.toInt)) := by
  unfold f_X12_pushes
  have k_0 : (0 : Int32).toInt = 0 := by decide +kernel
  have k_1 : (1 : Int32).toInt = 1 := by decide +kernel
  have k_2 : (2 : Int32).toInt = 2 := by decide +kernel
  have k_100 : (100 : Int32).toInt = 100 := by decide +kernel
  have k_119 : (119 : Int32).toInt = 119 := by decide +kernel
  refine ok_ite (fun c_1 => ?_) (fun c_1 => ?_)
  · rw [fa_eq] at c_1
    exact ok_ret ⟨(by (try dsimp only); omega), (by (try dsimp only); unfold gvI; (repeat split) <;> omega)⟩
  · rw [fa_eq] at c_1
    refine ok_ite (fun c_2 => ?_) (fun c_2 => ?_)
    · rw [fa_eq] at c_2
      exact ok_ret ⟨(by (try dsimp only); omega), (by (try dsimp only); unfold gvI; (repeat split) <;> omega)⟩
    · rw [fa_eq] at c_2
      refine ok_calp (s_X12_isOneOf_s104 (x1 := x1) (by omega)) (fun v_3 h_3 => ?_)
      obtain ⟨b_v_3, x_v_3⟩ := h_3
      (try dsimp only at b_v_3 x_v_3)
      refine ok_ite (fun c_4 => ?_) (fun c_4 => ?_)
      · rw [fa_eq] at c_4
        exact ok_ret ⟨(by (try dsimp only); omega), (by (try dsimp only); unfold gvI; (repeat split) <;> omega)⟩
      · rw [fa_eq] at c_4
        exact ok_ret ⟨(by (try dsimp only); omega), (by (try dsimp only); unfold gvI; (repeat split) <;> omega)⟩

set_option maxHeartbeats 4000000 in
theorem s_X12_isOneOf_s106 {x1 : Int32} (p_x1 : 0 ≤ x1.toInt ∧ x1.toInt ≤ 255) : OK (f_X12_isOneOf_s106 x1) (fun v => (0 ≤ v.toInt ∧ v.toInt ≤ 1) ∧ ((v.toInt = 1 ↔ (x1.toInt = 103 ∨ x1.toInt = 116 ∨ x1.toInt = 114)))) := by
  unfold f_X12_isOneOf_s106
  have k_0 : (0 : Int32).toInt = 0 := by decide +kernel
  have k_1 : (1 : Int32).toInt = 1 := by decide +kernel
  have k_3 : (3 : Int32).toInt = 3 := by decide +kernel
  refine ok_itr1 (fun (n : Nat) (x2_1 : Int32) => n = (4 - x2_1.toInt).toNat ∧ (0 ≤ x2_1.toInt ∧ x2_1.toInt ≤ 3) ∧ (∀ j : Nat, (j : Int) < x2_1.toInt → (chS 106 (nI j)).toInt ≠ x1.toInt)) ?_ (n := _) ⟨rfl, (by omega), (fun i hi => by exfalso; have h9 : (0 : Int32).toInt = 0 := (by decide +kernel); omega)⟩ (show _ < 10000000 by omega)
  intro a_2 n x2_1 hI ih_a_2
  obtain ⟨hn_a_2, b_x2_1, h1⟩ := hI
  refine ok_ite (fun c_1 => ?_) (fun c_1 => ?_)
  · rw [fa_le] at c_1
    exact ok_ret ⟨(by (try dsimp only); omega), (by (try dsimp only); first | (refine ⟨fun h => absurd h (by omega), fun h => ?_⟩; exfalso; have e0 := h1 0 (by omega); rw [ch_106_0] at e0; have e1 := h1 1 (by omega); rw [ch_106_1] at e1; have e2 := h1 2 (by omega); rw [ch_106_2] at e2; omega) | exact ⟨fun _ => by have c := clamp_I (x := x2_1) (by omega); have q := ch_106 x2_1.toNatClampNeg (by omega); rw [← z3] at q; omega, fun _ => by omega⟩)⟩
  · rw [fa_le] at c_1
    refine ok_ix ⟨by omega, by omega⟩ ?_
    obtain ⟨t_2, ht_2, g_2⟩ : ∃ t : Int, (chS 106 x2_1).toInt = t ∧ -2147483648 ≤ t ∧ t ≤ 2147483647 := ⟨_, rfl, tI_rng _⟩
    refine ok_lt fun v_3 e_v_3 => ?_
    have b_v_3 : 0 ≤ v_3.toInt ∧ v_3.toInt ≤ 255 := by rw [e_v_3]; exact ch_rng _ _
    have n3 : x2_1 = nI x2_1.toNatClampNeg := by refine Int32.toInt_inj.mp ?_; have := clamp_I (x := x2_1) (by omega); rw [nI_toInt (n := x2_1.toNatClampNeg) (by omega)]; omega
    have z3 : v_3.toInt = (chS 106 (nI x2_1.toNatClampNeg)).toInt := by rw [e_v_3, ← n3]
    refine ok_ite (fun c_3 => ?_) (fun c_3 => ?_)
    · rw [fa_eq] at c_3
      exact ok_ret ⟨(by (try dsimp only); omega), (by (try dsimp only); first | (refine ⟨fun h => absurd h (by omega), fun h => ?_⟩; exfalso; have e0 := h1 0 (by omega); rw [ch_106_0] at e0; have e1 := h1 1 (by omega); rw [ch_106_1] at e1; have e2 := h1 2 (by omega); rw [ch_106_2] at e2; omega) | exact ⟨fun _ => by have c := clamp_I (x := x2_1) (by omega); have q := ch_106 x2_1.toNatClampNeg (by omega); rw [← z3] at q; omega, fun _ => by omega⟩)⟩
    · rw [fa_eq] at c_3
      obtain ⟨t_4, ht_4, g_4⟩ : ∃ t : Int, (x2_1 + 1).toInt = t ∧ t = x2_1.toInt + (1 : Int32).toInt := ⟨_, rfl, by have h9 := fb_addI (x := x2_1) (y := (1 : Int32)) (by omega) (by omega); exact h9⟩
      refine ok_lt fun x2_5 e_x2_5 => ?_
      have q_x2_5 : x2_5.toInt = t_4 := by rw [e_x2_5]; exact ht_4
      exact ih_a_2 _ x2_5 (by rw [hn_a_2]; omega) ⟨rfl, (by omega), (fun j hj => by by_cases q : j = x2_1.toNatClampNeg; (rw [q, ← z3]; omega); exact h1 j (by have := clamp_I (x := x2_1) (by omega); omega))⟩

set_option maxHeartbeats 4000000 in
theorem s_X12_goesOn {x1 : Int32} (p_x1 : 0 ≤ x1.toInt ∧ x1.toInt ≤ 255) : OK (f_X12_goesOn x1) (fun v => (0 ≤ v.toInt ∧ v.toInt ≤ 1) ∧ ((v.toInt = 1 ↔ gOnI x1.toInt))) := by
  unfold f_X12_goesOn
  have k_0 : (0 : Int32).toInt = 0 := by decide +kernel
  have k_1 : (1 : Int32).toInt = 1 := by decide +kernel
  refine ok_calp (s_X12_isOneOf_s106 (x1 := x1) (by omega)) (fun v_1 h_1 => ?_)
  obtain ⟨b_v_1, x_v_1⟩ := h_1
  (try dsimp only at b_v_1 x_v_1)
  refine ok_ite (fun c_2 => ?_) (fun c_2 => ?_)
  · rw [fa_eq] at c_2
    exact ok_ret ⟨(by (try dsimp only); omega), (by (try dsimp only); omega)⟩
  · rw [fa_eq] at c_2
    exact ok_ret ⟨(by (try dsimp only); omega), (by (try dsimp only); omega)⟩

set_option maxHeartbeats 4000000 in
theorem s_X12_goesTo {x1 : Int32} (p_x1 : 0 ≤ x1.toInt ∧ x1.toInt ≤ 255) : OK (f_X12_goesTo x1) (fun v => (0 ≤ v.toInt ∧ v.toInt ≤ 1) ∧ ((v.toInt = 1 ↔ gElI x1.toInt))) := by
  unfold f_X12_goesTo
  have k_0 : (0 : Int32).toInt = 0 := by decide +kernel
  have k_1 : (1 : Int32).toInt = 1 := by decide +kernel
  have k_103 : (103 : Int32).toInt = 103 := by decide +kernel
  have k_122 : (122 : Int32).toInt = 122 := by decide +kernel
  refine ok_jn ?_
  refine ok_ite (fun c_1 => ?_) (fun c_1 => ?_)
  · rw [fa_eq] at c_1
    exact ok_ret ⟨(by (try dsimp only); omega), (by (try dsimp only); omega)⟩
  · rw [fa_eq] at c_1
    refine ok_ite (fun c_2 => ?_) (fun c_2 => ?_)
    · rw [fa_eq] at c_2
      exact ok_ret ⟨(by (try dsimp only); omega), (by (try dsimp only); omega)⟩
    · rw [fa_eq] at c_2
      exact ok_ret ⟨(by (try dsimp only); omega), (by (try dsimp only); omega)⟩

set_option maxHeartbeats 4000000 in
theorem s_X12_handlerOf_tryHandler {x2 : Int32} {x3 : Int32} {σ : Sto} (hB : BM σ) (p_x2 : 0 ≤ x2.toInt ∧ x2.toInt ≤ 3) (p_x3 : 0 ≤ x3.toInt ∧ x3.toInt ≤ 39) : OK (f_X12_handlerOf_tryHandler x2 x3 σ) (fun v => ((-1) ≤ v.toInt ∧ v.toInt ≤ 2) ∧ ((v.toInt = -1 → hoP x2.toInt.toNat (ri (h3 (σ.1 14) 0)) (ri (h3 (σ.1 14) 1)) x3.toNatClampNeg = x2.toInt.toNat) ∧ (v.toInt ≠ -1 → (hoP x2.toInt.toNat (ri (h3 (σ.1 14) 0)) (ri (h3 (σ.1 14) 1)) x3.toNatClampNeg : Int) = v.toInt ∧ v.toInt < x2.toInt))) := by
  unfold f_X12_handlerOf_tryHandler
  have hF : FR [] [] σ σ := FR.rf
  have k_m1 : ((-1) : Int32).toInt = -1 := by decide +kernel
  have k_0 : (0 : Int32).toInt = 0 := by decide +kernel
  have k_1 : (1 : Int32).toInt = 1 := by decide +kernel
  have k_3 : (3 : Int32).toInt = 3 := by decide +kernel
  have cx3 := clamp_I (x := x3) (by omega)
  refine ok_itr1 (fun (n : Nat) (x3_1 : Int32) => n = (4 - x3_1.toInt).toNat ∧ (0 ≤ x3_1.toInt ∧ x3_1.toInt ≤ 3) ∧ (∀ k : Nat, (k : Int) < x3_1.toInt → ¬ (ri (h3 (σ.1 14) 0) k ≤ (x3.toNatClampNeg : Int) ∧ (x3.toNatClampNeg : Int) < ri (h3 (σ.1 14) 1) k))) ?_ (n := _) ⟨rfl, (by omega), (fun k hk => by exfalso; have h9 : (0 : Int32).toInt = 0 := (by decide +kernel); omega)⟩ (show _ < 10000000 by omega)
  intro a_2 n x3_1 hI ih_a_2
  obtain ⟨hn_a_2, b_x3_1, hno⟩ := hI
  refine ok_ite (fun c_1 => ?_) (fun c_1 => ?_)
  · rw [fa_le] at c_1
    exact ok_ret ⟨(by (try dsimp only); omega), (by (try dsimp only); first | exact ⟨fun _ => ho_no hno (by omega), fun h => absurd (by omega) h⟩ | exact ⟨fun h => absurd h (by omega), fun _ => ⟨by have c1 := clamp_I (x := x3_1) (by omega); rw [ho_at hno x3_1.toNatClampNeg (by omega) (by omega) (by omega)]; omega, by omega⟩⟩)⟩
  · rw [fa_le] at c_1
    obtain ⟨t_2, ht_2, g_2⟩ : ∃ t : Int, ((3 : Int32) * x3_1).toInt = t ∧ t = 3 * x3_1.toInt := ⟨_, rfl, by have h9 := fb_mulI (x := (3 : Int32)) (y := x3_1) (by rw [k_3]; omega) (by rw [k_3]; omega); rw [k_3] at h9; exact h9⟩
    refine ok_ix ⟨by rw [ht_2]; omega, by rw [ht_2]; omega⟩ ?_
    have g_3 := gM_14 hB (((3 : Int32) * x3_1).toNatClampNeg)
    refine ok_lt fun v_3 e_v_3 => ?_
    have b_v_3 : 0 ≤ v_3.toInt ∧ v_3.toInt ≤ 40 := by rw [e_v_3]; exact gM_14 hB _
    have i0 : (((3 : Int32) * x3_1)).toNatClampNeg = 3 * x3_1.toNatClampNeg + 0 := by have := clamp_I (x := (((3 : Int32) * x3_1))) (by omega); have := clamp_I (x := x3_1) (by omega); omega
    have z3 : v_3.toInt = ri (h3 (σ.1 14) 0) x3_1.toNatClampNeg := by rw [e_v_3, i0]; rfl
    refine ok_jn ?_
    refine ok_ite (fun c_4 => ?_) (fun c_4 => ?_)
    · rw [fa_lt] at c_4
      obtain ⟨t_5, ht_5, g_5⟩ : ∃ t : Int, (x3_1 + 1).toInt = t ∧ t = x3_1.toInt + (1 : Int32).toInt := ⟨_, rfl, by have h9 := fb_addI (x := x3_1) (y := (1 : Int32)) (by omega) (by omega); exact h9⟩
      refine ok_lt fun x3_5 e_x3_5 => ?_
      have q_x3_5 : x3_5.toInt = t_5 := by rw [e_x3_5]; exact ht_5
      exact ih_a_2 _ x3_5 (by rw [hn_a_2]; omega) ⟨rfl, (by omega), (ho_s hno (by omega) x3_1.toNatClampNeg (by have := clamp_I (x := x3_1) (by omega); omega) (by omega))⟩
    · rw [fa_lt] at c_4
      obtain ⟨t_6, ht_6, g_6⟩ : ∃ t : Int, (((3 : Int32) * x3_1) + 1).toInt = t ∧ t = t_2 + (1 : Int32).toInt := ⟨_, rfl, by have h9 := fb_addI (x := ((3 : Int32) * x3_1)) (y := (1 : Int32)) (by rw [ht_2]; omega) (by rw [ht_2]; omega); rw [ht_2] at h9; exact h9⟩
      refine ok_ix ⟨by rw [ht_6]; omega, by rw [ht_6]; omega⟩ ?_
      have g_7 := gM_14 hB ((((3 : Int32) * x3_1) + 1).toNatClampNeg)
      refine ok_lt fun v_7 e_v_7 => ?_
      have b_v_7 : 0 ≤ v_7.toInt ∧ v_7.toInt ≤ 40 := by rw [e_v_7]; exact gM_14 hB _
      have i1 : (((3 : Int32) * x3_1) + 1).toNatClampNeg = 3 * x3_1.toNatClampNeg + 1 := by have := clamp_I (x := (((3 : Int32) * x3_1) + 1)) (by omega); have := clamp_I (x := x3_1) (by omega); omega
      have z7 : v_7.toInt = ri (h3 (σ.1 14) 1) x3_1.toNatClampNeg := by rw [e_v_7, i1]; rfl
      refine ok_ite (fun c_8 => ?_) (fun c_8 => ?_)
      · rw [fa_le] at c_8
        obtain ⟨t_9, ht_9, g_9⟩ : ∃ t : Int, (x3_1 + 1).toInt = t ∧ t = x3_1.toInt + (1 : Int32).toInt := ⟨_, rfl, by have h9 := fb_addI (x := x3_1) (y := (1 : Int32)) (by omega) (by omega); exact h9⟩
        refine ok_lt fun x3_5 e_x3_5 => ?_
        have q_x3_5 : x3_5.toInt = t_9 := by rw [e_x3_5]; exact ht_9
        exact ih_a_2 _ x3_5 (by rw [hn_a_2]; omega) ⟨rfl, (by omega), (ho_s hno (by omega) x3_1.toNatClampNeg (by have := clamp_I (x := x3_1) (by omega); omega) (by omega))⟩
      · rw [fa_le] at c_8
        exact ok_ret ⟨(by (try dsimp only); omega), (by (try dsimp only); first | exact ⟨fun _ => ho_no hno (by omega), fun h => absurd (by omega) h⟩ | exact ⟨fun h => absurd h (by omega), fun _ => ⟨by have c1 := clamp_I (x := x3_1) (by omega); rw [ho_at hno x3_1.toNatClampNeg (by omega) (by omega) (by omega)]; omega, by omega⟩⟩)⟩

set_option maxHeartbeats 4000000 in
theorem s_X12_isOneOf_s105 {x1 : Int32} (p_x1 : 0 ≤ x1.toInt ∧ x1.toInt ≤ 255) : OK (f_X12_isOneOf_s105 x1) (fun v => (0 ≤ v.toInt ∧ v.toInt ≤ 1) ∧ ((v.toInt = 1 ↔ (x1.toInt = 47 ∨ x1.toInt = 37 ∨ x1.toInt = 116)))) := by
  unfold f_X12_isOneOf_s105
  have k_0 : (0 : Int32).toInt = 0 := by decide +kernel
  have k_1 : (1 : Int32).toInt = 1 := by decide +kernel
  have k_3 : (3 : Int32).toInt = 3 := by decide +kernel
  refine ok_itr1 (fun (n : Nat) (x2_1 : Int32) => n = (4 - x2_1.toInt).toNat ∧ (0 ≤ x2_1.toInt ∧ x2_1.toInt ≤ 3) ∧ (∀ j : Nat, (j : Int) < x2_1.toInt → (chS 105 (nI j)).toInt ≠ x1.toInt)) ?_ (n := _) ⟨rfl, (by omega), (fun i hi => by exfalso; have h9 : (0 : Int32).toInt = 0 := (by decide +kernel); omega)⟩ (show _ < 10000000 by omega)
  intro a_2 n x2_1 hI ih_a_2
  obtain ⟨hn_a_2, b_x2_1, h1⟩ := hI
  refine ok_ite (fun c_1 => ?_) (fun c_1 => ?_)
  · rw [fa_le] at c_1
    exact ok_ret ⟨(by (try dsimp only); omega), (by (try dsimp only); first | (refine ⟨fun h => absurd h (by omega), fun h => ?_⟩; exfalso; have e0 := h1 0 (by omega); rw [ch_105_0] at e0; have e1 := h1 1 (by omega); rw [ch_105_1] at e1; have e2 := h1 2 (by omega); rw [ch_105_2] at e2; omega) | exact ⟨fun _ => by have c := clamp_I (x := x2_1) (by omega); have q := ch_105 x2_1.toNatClampNeg (by omega); rw [← z3] at q; omega, fun _ => by omega⟩)⟩
  · rw [fa_le] at c_1
    refine ok_ix ⟨by omega, by omega⟩ ?_
    obtain ⟨t_2, ht_2, g_2⟩ : ∃ t : Int, (chS 105 x2_1).toInt = t ∧ -2147483648 ≤ t ∧ t ≤ 2147483647 := ⟨_, rfl, tI_rng _⟩
    refine ok_lt fun v_3 e_v_3 => ?_
    have b_v_3 : 0 ≤ v_3.toInt ∧ v_3.toInt ≤ 255 := by rw [e_v_3]; exact ch_rng _ _
    have n3 : x2_1 = nI x2_1.toNatClampNeg := by refine Int32.toInt_inj.mp ?_; have := clamp_I (x := x2_1) (by omega); rw [nI_toInt (n := x2_1.toNatClampNeg) (by omega)]; omega
    have z3 : v_3.toInt = (chS 105 (nI x2_1.toNatClampNeg)).toInt := by rw [e_v_3, ← n3]
    refine ok_ite (fun c_3 => ?_) (fun c_3 => ?_)
    · rw [fa_eq] at c_3
      exact ok_ret ⟨(by (try dsimp only); omega), (by (try dsimp only); first | (refine ⟨fun h => absurd h (by omega), fun h => ?_⟩; exfalso; have e0 := h1 0 (by omega); rw [ch_105_0] at e0; have e1 := h1 1 (by omega); rw [ch_105_1] at e1; have e2 := h1 2 (by omega); rw [ch_105_2] at e2; omega) | exact ⟨fun _ => by have c := clamp_I (x := x2_1) (by omega); have q := ch_105 x2_1.toNatClampNeg (by omega); rw [← z3] at q; omega, fun _ => by omega⟩)⟩
    · rw [fa_eq] at c_3
      obtain ⟨t_4, ht_4, g_4⟩ : ∃ t : Int, (x2_1 + 1).toInt = t ∧ t = x2_1.toInt + (1 : Int32).toInt := ⟨_, rfl, by have h9 := fb_addI (x := x2_1) (y := (1 : Int32)) (by omega) (by omega); exact h9⟩
      refine ok_lt fun x2_5 e_x2_5 => ?_
      have q_x2_5 : x2_5.toInt = t_4 := by rw [e_x2_5]; exact ht_4
      exact ih_a_2 _ x2_5 (by rw [hn_a_2]; omega) ⟨rfl, (by omega), (fun j hj => by by_cases q : j = x2_1.toNatClampNeg; (rw [q, ← z3]; omega); exact h1 j (by have := clamp_I (x := x2_1) (by omega); omega))⟩

set_option maxHeartbeats 4000000 in
theorem s_X12_canThrow {x1 : Int32} (p_x1 : 0 ≤ x1.toInt ∧ x1.toInt ≤ 255) : OK (f_X12_canThrow x1) (fun v => (0 ≤ v.toInt ∧ v.toInt ≤ 1) ∧ ((v.toInt = 1 ↔ cThI x1.toInt))) := by
  unfold f_X12_canThrow
  have k_0 : (0 : Int32).toInt = 0 := by decide +kernel
  have k_1 : (1 : Int32).toInt = 1 := by decide +kernel
  refine ok_calp (s_X12_isOneOf_s105 (x1 := x1) (by omega)) (fun v_1 h_1 => ?_)
  obtain ⟨b_v_1, x_v_1⟩ := h_1
  (try dsimp only at b_v_1 x_v_1)
  refine ok_bz (by rw [fa_eq, fa_eq]; omega) ?_
  exact ok_ret ⟨(by (try dsimp only); omega), (by (try dsimp only); omega)⟩

set_option maxHeartbeats 4000000 in
theorem s_X12_comes {x1 : Int32} {x2 : Int32} {σ : Sto} (hB : BM σ) (p_x1 : 0 ≤ x1.toInt ∧ x1.toInt ≤ 39) (p_x2 : 0 ≤ x2.toInt ∧ x2.toInt ≤ 6) (hx : x1.toInt < (σ.1 17 0).toInt) : OK (f_X12_comes x1 x2 σ) (fun r => (0 ≤ r.1.toInt ∧ r.1.toInt ≤ 1) ∧ BM r.2 ∧ FR [19] [] σ r.2 ∧ ((mk (σ.1 17 0).toInt.toNat (r.2.1 19) = arP (mk (σ.1 17 0).toInt.toNat (σ.1 19)) x1.toNatClampNeg x2.toInt) ∧ (r.1.toInt = 1 ↔ mk (σ.1 17 0).toInt.toNat (r.2.1 19) x1.toNatClampNeg = x2.toInt))) := by
  unfold f_X12_comes
  have hF : FR [19] [] σ σ := FR.rf
  have k_m1 : ((-1) : Int32).toInt = -1 := by decide +kernel
  have k_0 : (0 : Int32).toInt = 0 := by decide +kernel
  have k_1 : (1 : Int32).toInt = 1 := by decide +kernel
  have hN : x1.toNatClampNeg < (σ.1 17 0).toInt.toNat := by have := clamp_I (x := x1) (by omega); omega
  refine ok_ix ⟨by omega, by omega⟩ ?_
  have g_1 := gM_19 hB (x1.toNatClampNeg)
  refine ok_lt fun v_1 e_v_1 => ?_
  have b_v_1 : (-1) ≤ v_1.toInt ∧ v_1.toInt ≤ 6 := by rw [e_v_1]; exact gM_19 hB _
  have z1 := congrArg Int32.toInt e_v_1
  refine ok_jn ?_
  refine ok_ite (fun c_2 => ?_) (fun c_2 => ?_)
  · rw [fa_eq] at c_2
    refine ok_ix ⟨by omega, by omega⟩ ?_
    refine ok_lt fun s_6 e_s_6 => ?_
    have hB_s_6 : BM s_6 := by rw [e_s_6]; exact pM_19 hB (by omega)
    have hF_s_6 : FR [19] [] σ s_6 := by rw [e_s_6]; exact FR.st hF (by decide)
    refine ok_ix ⟨by omega, by omega⟩ ?_
    have g_3 := gM_19 hB_s_6 (x1.toNatClampNeg)
    refine ok_lt fun v_3 e_v_3 => ?_
    have b_v_3 : (-1) ≤ v_3.toInt ∧ v_3.toInt ≤ 6 := by rw [e_v_3]; exact gM_19 hB_s_6 _
    have z3 := congrArg Int32.toInt e_v_3
    refine ok_ite (fun c_4 => ?_) (fun c_4 => ?_)
    · rw [fa_eq] at c_4
      exact ok_ret ⟨(by (try dsimp only); omega), hB_s_6, hF_s_6, ⟨by (try dsimp only); first | exact ar_a hN e_s_6 (by omega) | exact ar_b hN (by omega), by (try dsimp only); rw [mk_lt hN]; exact ⟨fun _ => by omega, fun _ => by omega⟩⟩⟩
    · rw [fa_eq] at c_4
      exact ok_ret ⟨(by (try dsimp only); omega), hB_s_6, hF_s_6, ⟨by (try dsimp only); first | exact ar_a hN e_s_6 (by omega) | exact ar_b hN (by omega), by (try dsimp only); rw [mk_lt hN]; exact ⟨fun _ => by omega, fun _ => by omega⟩⟩⟩
  · rw [fa_eq] at c_2
    refine ok_ix ⟨by omega, by omega⟩ ?_
    refine ok_lt fun v_3 e_v_3 => ?_
    have b_v_3 : (-1) ≤ v_3.toInt ∧ v_3.toInt ≤ 6 := by rw [e_v_3]; exact gM_19 hB _
    have z3 := congrArg Int32.toInt e_v_3
    refine ok_ite (fun c_5 => ?_) (fun c_5 => ?_)
    · rw [fa_eq] at c_5
      exact ok_ret ⟨(by (try dsimp only); omega), hB, hF, ⟨by (try dsimp only); first | exact ar_a hN e_s_6 (by omega) | exact ar_b hN (by omega), by (try dsimp only); rw [mk_lt hN]; exact ⟨fun _ => by omega, fun _ => by omega⟩⟩⟩
    · rw [fa_eq] at c_5
      exact ok_ret ⟨(by (try dsimp only); omega), hB, hF, ⟨by (try dsimp only); first | exact ar_a hN e_s_6 (by omega) | exact ar_b hN (by omega), by (try dsimp only); rw [mk_lt hN]; exact ⟨fun _ => by omega, fun _ => by omega⟩⟩⟩

set_option maxHeartbeats 4000000 in
theorem s_X12_goesThrough {x1 : Int32} {σ : Sto} (hB : BM σ) (p_x1 : 0 ≤ x1.toInt ∧ x1.toInt ≤ 39) (hx : x1.toInt < (σ.1 17 0).toInt) (hl : LDP (σ.1 17 0).toInt.toNat (σ.1 18 0).toInt.toNat (ri (σ.1 12)) (ri (σ.1 13)) (ri (h3 (σ.1 14) 0)) (ri (h3 (σ.1 14) 1)) (ri (h3 (σ.1 14) 2))) : OK (f_X12_goesThrough x1 σ) (fun r => ((-6) ≤ r.1.toInt ∧ r.1.toInt ≤ 0) ∧ BM r.2 ∧ FR [19] [] σ r.2 ∧ ((r.1.toInt, mk (σ.1 17 0).toInt.toNat (r.2.1 19)) = goP (σ.1 17 0).toInt.toNat (σ.1 18 0).toInt.toNat (ri (σ.1 12)) (ri (σ.1 13)) (ri (h3 (σ.1 14) 0)) (ri (h3 (σ.1 14) 1)) (ri (h3 (σ.1 14) 2)) x1.toNatClampNeg (mk (σ.1 17 0).toInt.toNat (σ.1 19)))) := by
  unfold f_X12_goesThrough
  have hF : FR [19] [] σ σ := FR.rf
  have k_m6 : ((-6) : Int32).toInt = -6 := by decide +kernel
  have k_m5 : ((-5) : Int32).toInt = -5 := by decide +kernel
  have k_m4 : ((-4) : Int32).toInt = -4 := by decide +kernel
  have k_m3 : ((-3) : Int32).toInt = -3 := by decide +kernel
  have k_m1 : ((-1) : Int32).toInt = -1 := by decide +kernel
  have k_0 : (0 : Int32).toInt = 0 := by decide +kernel
  have k_1 : (1 : Int32).toInt = 1 := by decide +kernel
  have k_2 : (2 : Int32).toInt = 2 := by decide +kernel
  have k_3 : (3 : Int32).toInt = 3 := by decide +kernel
  have k_6 : (6 : Int32).toInt = 6 := by decide +kernel
  have g12 := gM_17 hB 0
  have g13 := gM_18 hB 0
  have cx1 := clamp_I (x := x1) (by omega)
  have hN : x1.toNatClampNeg < (σ.1 17 0).toInt.toNat := by omega
  have zs : ri (σ.1 12) x1.toNatClampNeg = (σ.1 12 x1.toNatClampNeg).toInt := rfl
  have zd : mk (σ.1 17 0).toInt.toNat (σ.1 19) x1.toNatClampNeg = (σ.1 19 x1.toNatClampNeg).toInt := mk_lt hN
  have y0 := gv_0 (ri (σ.1 12) x1.toNatClampNeg)
  have y1 := nd_0 (ri (σ.1 12) x1.toNatClampNeg)
  refine ok_ix ⟨by omega, by omega⟩ ?_
  have g_1 := gM_12 hB (x1.toNatClampNeg)
  refine ok_lt fun v_1 e_v_1 => ?_
  have b_v_1 : 0 ≤ v_1.toInt ∧ v_1.toInt ≤ 255 := by rw [e_v_1]; exact gM_12 hB _
  have z1 := congrArg Int32.toInt e_v_1
  have w1 : v_1.toInt = ri (σ.1 12) x1.toNatClampNeg := z1
  refine ok_ix ⟨by omega, by omega⟩ ?_
  have g_2 := gM_19 hB (x1.toNatClampNeg)
  refine ok_lt fun v_2 e_v_2 => ?_
  have b_v_2 : (-1) ≤ v_2.toInt ∧ v_2.toInt ≤ 6 := by rw [e_v_2]; exact gM_19 hB _
  have q_v_2 : v_2.toInt = (σ.1 19 x1.toNatClampNeg).toInt := by rw [e_v_2]
  have z2 := congrArg Int32.toInt e_v_2
  refine ok_calp (s_X12_pops (x1 := v_1) (by omega)) (fun v_3 h_3 => ?_)
  obtain ⟨b_v_3, x_v_3⟩ := h_3
  (try dsimp only at b_v_3 x_v_3)
  rw [w1] at x_v_3
  refine ok_ite (fun c_4 => ?_) (fun c_4 => ?_)
  · rw [fa_le] at c_4
    refine ok_ix ⟨by omega, by omega⟩ ?_
    refine ok_lt fun v_5 e_v_5 => ?_
    have b_v_5 : (-1) ≤ v_5.toInt ∧ v_5.toInt ≤ 6 := by rw [e_v_5]; exact gM_19 hB _
    have q_v_5 : v_5.toInt = (σ.1 19 x1.toNatClampNeg).toInt := by rw [e_v_5]
    have z5 := congrArg Int32.toInt e_v_5
    refine ok_calp (s_X12_pops (x1 := v_1) (by omega)) (fun v_6 h_5 => ?_)
    obtain ⟨b_v_6, x_v_6⟩ := h_5
    (try dsimp only at b_v_6 x_v_6)
    rw [w1] at x_v_6
    refine ok_calp (s_X12_pushes (x1 := v_1) (by omega)) (fun v_7 h_6 => ?_)
    obtain ⟨b_v_7, x_v_7⟩ := h_6
    (try dsimp only at b_v_7 x_v_7)
    rw [w1] at x_v_7
    obtain ⟨t_7, ht_7, g_7⟩ : ∃ t : Int, (v_5 - v_6).toInt = t ∧ t = v_5.toInt - v_6.toInt := ⟨_, rfl, by have h9 := fb_subI (x := v_5) (y := v_6) (by omega) (by omega); exact h9⟩
    obtain ⟨t_8, ht_8, g_8⟩ : ∃ t : Int, ((v_5 - v_6) + v_7).toInt = t ∧ t = t_7 + v_7.toInt := ⟨_, rfl, by have h9 := fb_addI (x := (v_5 - v_6)) (y := v_7) (by rw [ht_7]; omega) (by rw [ht_7]; omega); rw [ht_7] at h9; exact h9⟩
    refine ok_lt fun x3_8 e_x3_8 => ?_
    have q_x3_8 : x3_8.toInt = t_8 := by rw [e_x3_8]; exact ht_8
    have yh : x3_8.toInt = mk (σ.1 17 0).toInt.toNat (σ.1 19) x1.toNatClampNeg - ndI (ri (σ.1 12) x1.toNatClampNeg) + gvI (ri (σ.1 12) x1.toNatClampNeg) := by rw [zd]; omega
    refine ok_ite (fun c_9 => ?_) (fun c_9 => ?_)
    · rw [fa_le] at c_9
      refine ok_calp (s_X12_goesOn (x1 := v_1) (by omega)) (fun v_10 h_10 => ?_)
      obtain ⟨b_v_10, x_v_10⟩ := h_10
      (try dsimp only at b_v_10 x_v_10)
      rw [w1] at x_v_10
      refine ok_jnI1 (fun (s_11 : Sto) => True ∧ (BM s_11) ∧ (FR [19] [] σ s_11) ∧ (goP2 (σ.1 18 0).toInt.toNat (ri (σ.1 12)) (ri (σ.1 13)) (ri (h3 (σ.1 14) 0)) (ri (h3 (σ.1 14) 1)) (ri (h3 (σ.1 14) 2)) x1.toNatClampNeg x3_8.toInt (mk (σ.1 17 0).toInt.toNat (s_11.1 19)) = goP (σ.1 17 0).toInt.toNat (σ.1 18 0).toInt.toNat (ri (σ.1 12)) (ri (σ.1 13)) (ri (h3 (σ.1 14) 0)) (ri (h3 (σ.1 14) 1)) (ri (h3 (σ.1 14) 2)) x1.toNatClampNeg (mk (σ.1 17 0).toInt.toNat (σ.1 19)))) ?_ ?_
      · intro s_11 hJ
        obtain ⟨-, hB_s_11, hF_s_11, j71⟩ := hJ
        have f_s_11_17 : (s_11.1 17 0).toInt = (σ.1 17 0).toInt := by rw [hF_s_11.1 17 (by decide)]
        have f_s_11_18 : (s_11.1 18 0).toInt = (σ.1 18 0).toInt := by rw [hF_s_11.1 18 (by decide)]
        refine ok_calp (s_X12_goesTo (x1 := v_1) (by omega)) (fun v_12 h_11 => ?_)
        obtain ⟨b_v_12, x_v_12⟩ := h_11
        (try dsimp only at b_v_12 x_v_12)
        rw [w1] at x_v_12
        refine ok_jnI1 (fun (s_13 : Sto) => True ∧ (BM s_13) ∧ (FR [19] [] σ s_13) ∧ (goP3 (σ.1 18 0).toInt.toNat (ri (σ.1 12)) (ri (h3 (σ.1 14) 0)) (ri (h3 (σ.1 14) 1)) (ri (h3 (σ.1 14) 2)) x1.toNatClampNeg (mk (σ.1 17 0).toInt.toNat (s_13.1 19)) = goP (σ.1 17 0).toInt.toNat (σ.1 18 0).toInt.toNat (ri (σ.1 12)) (ri (σ.1 13)) (ri (h3 (σ.1 14) 0)) (ri (h3 (σ.1 14) 1)) (ri (h3 (σ.1 14) 2)) x1.toNatClampNeg (mk (σ.1 17 0).toInt.toNat (σ.1 19)))) ?_ ?_
        · intro s_13 hJ
          obtain ⟨-, hB_s_13, hF_s_13, j96⟩ := hJ
          have f_s_13_17 : (s_13.1 17 0).toInt = (σ.1 17 0).toInt := by rw [hF_s_13.1 17 (by decide)]
          have f_s_13_18 : (s_13.1 18 0).toInt = (σ.1 18 0).toInt := by rw [hF_s_13.1 18 (by decide)]
          have g_12 := gM_18 hB_s_13 0
          have g_13 : (s_13.1 18 0).toInt = (σ.1 18 0).toInt := by rw [hF_s_13.1 18 (by decide)]
          have g_14 := gM_18 hB 0
          refine ok_calp (s_X12_handlerOf_tryHandler (x2 := (s_13.1 18 0)) (x3 := x1) (σ := s_13) hB_s_13 (by omega) (by omega)) (fun v_14 h_15 => ?_)
          obtain ⟨b_v_14, x_v_14⟩ := h_15
          (try dsimp only at b_v_14 x_v_14)
          rw [hF_s_13.1 18 (by decide), hF_s_13.1 14 (by decide)] at x_v_14
          refine ok_calp (s_X12_canThrow (x1 := v_1) (by omega)) (fun v_15 h_16 => ?_)
          obtain ⟨b_v_15, x_v_15⟩ := h_16
          (try dsimp only at b_v_15 x_v_15)
          rw [w1] at x_v_15
          refine ok_jnI1 (fun (s_16 : Sto) => True ∧ (BM s_16) ∧ (FR [19] [] σ s_16) ∧ (((0 : Int), mk (σ.1 17 0).toInt.toNat (s_16.1 19)) = goP (σ.1 17 0).toInt.toNat (σ.1 18 0).toInt.toNat (ri (σ.1 12)) (ri (σ.1 13)) (ri (h3 (σ.1 14) 0)) (ri (h3 (σ.1 14) 1)) (ri (h3 (σ.1 14) 2)) x1.toNatClampNeg (mk (σ.1 17 0).toInt.toNat (σ.1 19)))) ?_ ?_
          · intro s_16 hJ
            obtain ⟨-, hB_s_16, hF_s_16, j0⟩ := hJ
            have f_s_16_17 : (s_16.1 17 0).toInt = (σ.1 17 0).toInt := by rw [hF_s_16.1 17 (by decide)]
            have f_s_16_18 : (s_16.1 18 0).toInt = (σ.1 18 0).toInt := by rw [hF_s_16.1 18 (by decide)]
            exact ok_ret ⟨(by (try dsimp only); omega), hB_s_16, hF_s_16, (by (try dsimp only); first | (rw [k_m4]; exact goP_4 (by omega)) | (rw [k_m5]; exact goP_5 (by omega) (by omega)) | (rw [k_m3]; exact goP_3 (by omega) (by omega) (x_v_10.mp (by omega)) (by omega)) | (rw [k_m6]; exact goP_6 yh (by omega) (by omega) (x_v_10.mp (by omega)) (by omega) x_s_28.1 (fun z => by have := x_s_28.2.mpr z; omega)) | (rw [k_m6]; exact (goP2_6 hel x_s_24.1 (fun z => by have := x_s_24.2.mpr z; omega)).trans j71) | (rw [k_m6]; exact (goP3_6 hct hq19 hl19 x_s_20.1 (fun z => by have := x_s_20.2.mpr z; omega)).trans j96) | (rw [k_0]; exact j0))⟩
          · intro k_158 hk_k_158
            refine ok_ite (fun c_17 => ?_) (fun c_17 => ?_)
            · rw [fa_eq] at c_17
              exact hk_k_158 s_13 ⟨trivial, hB_s_13, hF_s_13, (by first | exact (goP3_0 hct hq19 hl19 x_s_20.1 (x_s_20.2.mp (by omega))).trans j96 | exact (goP3_n (fun z => by first | (have := x_v_15.mpr z.1; omega) | (have := x_v_14.1 (by omega); omega))).trans j96)⟩
            · rw [fa_eq] at c_17
              refine ok_ite (fun c_18 => ?_) (fun c_18 => ?_)
              · rw [fa_eq] at c_18
                exact hk_k_158 s_13 ⟨trivial, hB_s_13, hF_s_13, (by first | exact (goP3_0 hct hq19 hl19 x_s_20.1 (x_s_20.2.mp (by omega))).trans j96 | exact (goP3_n (fun z => by first | (have := x_v_15.mpr z.1; omega) | (have := x_v_14.1 (by omega); omega))).trans j96)⟩
              · rw [fa_eq] at c_18
                obtain ⟨t_19, ht_19, g_19⟩ : ∃ t : Int, ((3 : Int32) * v_14).toInt = t ∧ t = 3 * v_14.toInt := ⟨_, rfl, by have h9 := fb_mulI (x := (3 : Int32)) (y := v_14) (by rw [k_3]; omega) (by rw [k_3]; omega); rw [k_3] at h9; exact h9⟩
                obtain ⟨t_20, ht_20, g_20⟩ : ∃ t : Int, (((3 : Int32) * v_14) + 2).toInt = t ∧ t = t_19 + (2 : Int32).toInt := ⟨_, rfl, by have h9 := fb_addI (x := ((3 : Int32) * v_14)) (y := (2 : Int32)) (by rw [ht_19]; omega) (by rw [ht_19]; omega); rw [ht_19] at h9; exact h9⟩
                refine ok_ix ⟨by rw [ht_20]; omega, by rw [ht_20]; omega⟩ ?_
                have g_21 := gM_14 hB_s_13 ((((3 : Int32) * v_14) + 2).toNatClampNeg)
                refine ok_lt fun v_19 e_v_19 => ?_
                have b_v_19 : 0 ≤ v_19.toInt ∧ v_19.toInt ≤ 40 := by rw [e_v_19]; exact gM_14 hB_s_13 _
                have l19 := hl.2 v_14.toNatClampNeg (by have := clamp_I (x := v_14) (by omega); omega)
                have ct0 := clamp_I (x := v_14) (by omega)
                have i19 : (((3 : Int32) * v_14) + 2).toNatClampNeg = 3 * v_14.toNatClampNeg + 2 := by have := clamp_I (x := (((3 : Int32) * v_14) + 2)) (by omega); omega
                have z19 : v_19.toInt = ri (h3 (σ.1 14) 2) v_14.toNatClampNeg := by rw [e_v_19, i19, hF_s_13.1 14 (by decide)]; rfl
                have c19 := clamp_I (x := v_19) (by omega)
                have t19 : v_19.toNatClampNeg = (ri (h3 (σ.1 14) 2) v_14.toNatClampNeg).toNat := by omega
                have hct := x_v_15.mp (by omega)
                have hq19 : hoP (σ.1 18 0).toInt.toNat (ri (h3 (σ.1 14) 0)) (ri (h3 (σ.1 14) 1)) x1.toNatClampNeg = v_14.toNatClampNeg := by have := (x_v_14.2 (by omega)).1; omega
                have hl19 : v_14.toNatClampNeg < (σ.1 18 0).toInt.toNat := by have := (x_v_14.2 (by omega)).2; omega
                refine ok_calv (s_X12_comes (x1 := v_19) (x2 := (1 : Int32)) (σ := s_13) hB_s_13 (by omega) (by omega) (by first | omega | (rw [hF_s_11.1 17 (by decide)]; omega) | (rw [hF_s_13.1 17 (by decide)]; omega))) (fun v_20 s_20 h_22 => ?_)
                obtain ⟨b_v_20, hB_s_20, hG_s_20, x_s_20⟩ := h_22
                (try dsimp only at b_v_20 hB_s_20 hG_s_20 x_s_20)
                have hF_s_20 : FR [19] [] σ s_20 := FR.cal hF_s_13 hG_s_20 rfl rfl
                have f_s_20_17 : (s_20.1 17 0).toInt = (σ.1 17 0).toInt := by rw [hF_s_20.1 17 (by decide)]
                have f_s_20_18 : (s_20.1 18 0).toInt = (σ.1 18 0).toInt := by rw [hF_s_20.1 18 (by decide)]
                rw [hF_s_13.1 17 (by decide), t19, k_1] at x_s_20
                refine ok_ite (fun c_23 => ?_) (fun c_23 => ?_)
                · rw [fa_eq] at c_23
                  exact ok_ret ⟨(by (try dsimp only); omega), hB_s_20, hF_s_20, (by (try dsimp only); first | (rw [k_m4]; exact goP_4 (by omega)) | (rw [k_m5]; exact goP_5 (by omega) (by omega)) | (rw [k_m3]; exact goP_3 (by omega) (by omega) (x_v_10.mp (by omega)) (by omega)) | (rw [k_m6]; exact goP_6 yh (by omega) (by omega) (x_v_10.mp (by omega)) (by omega) x_s_28.1 (fun z => by have := x_s_28.2.mpr z; omega)) | (rw [k_m6]; exact (goP2_6 hel x_s_24.1 (fun z => by have := x_s_24.2.mpr z; omega)).trans j71) | (rw [k_m6]; exact (goP3_6 hct hq19 hl19 x_s_20.1 (fun z => by have := x_s_20.2.mpr z; omega)).trans j96) | (rw [k_0]; exact j0))⟩
                · rw [fa_eq] at c_23
                  exact hk_k_158 s_20 ⟨trivial, hB_s_20, hF_s_20, (by first | exact (goP3_0 hct hq19 hl19 x_s_20.1 (x_s_20.2.mp (by omega))).trans j96 | exact (goP3_n (fun z => by first | (have := x_v_15.mpr z.1; omega) | (have := x_v_14.1 (by omega); omega))).trans j96)⟩
        · intro k_107 hk_k_107
          refine ok_ite (fun c_24 => ?_) (fun c_24 => ?_)
          · rw [fa_eq] at c_24
            exact hk_k_107 s_11 ⟨trivial, hB_s_11, hF_s_11, (by first | exact (goP2_b (fun z => by have := x_v_12.mpr z; omega)).trans j71 | exact (goP2_a hel x_s_24.1 (x_s_24.2.mp (by omega))).trans j71)⟩
          · rw [fa_eq] at c_24
            refine ok_ix ⟨by omega, by omega⟩ ?_
            have g_25 := gM_13 hB_s_11 (x1.toNatClampNeg)
            refine ok_lt fun v_23 e_v_23 => ?_
            have b_v_23 : 0 ≤ v_23.toInt ∧ v_23.toInt ≤ 999 := by rw [e_v_23]; exact gM_13 hB_s_11 _
            have hel := x_v_12.mp (by omega)
            have z23 : v_23.toInt = ri (σ.1 13) x1.toNatClampNeg := by rw [e_v_23, hF_s_11.1 13 (by decide)]; rfl
            have l23 := hl.1 x1.toNatClampNeg hN hel
            have c23 := clamp_I (x := v_23) (by omega)
            have t23 : v_23.toNatClampNeg = (ri (σ.1 13) x1.toNatClampNeg).toNat := by omega
            refine ok_calv (s_X12_comes (x1 := v_23) (x2 := x3_8) (σ := s_11) hB_s_11 (by omega) (by omega) (by first | omega | (rw [hF_s_11.1 17 (by decide)]; omega) | (rw [hF_s_13.1 17 (by decide)]; omega))) (fun v_24 s_24 h_26 => ?_)
            obtain ⟨b_v_24, hB_s_24, hG_s_24, x_s_24⟩ := h_26
            (try dsimp only at b_v_24 hB_s_24 hG_s_24 x_s_24)
            have hF_s_24 : FR [19] [] σ s_24 := FR.cal hF_s_11 hG_s_24 rfl rfl
            have f_s_24_17 : (s_24.1 17 0).toInt = (σ.1 17 0).toInt := by rw [hF_s_24.1 17 (by decide)]
            have f_s_24_18 : (s_24.1 18 0).toInt = (σ.1 18 0).toInt := by rw [hF_s_24.1 18 (by decide)]
            rw [hF_s_11.1 17 (by decide), t23] at x_s_24
            refine ok_ite (fun c_27 => ?_) (fun c_27 => ?_)
            · rw [fa_eq] at c_27
              exact ok_ret ⟨(by (try dsimp only); omega), hB_s_24, hF_s_24, (by (try dsimp only); first | (rw [k_m4]; exact goP_4 (by omega)) | (rw [k_m5]; exact goP_5 (by omega) (by omega)) | (rw [k_m3]; exact goP_3 (by omega) (by omega) (x_v_10.mp (by omega)) (by omega)) | (rw [k_m6]; exact goP_6 yh (by omega) (by omega) (x_v_10.mp (by omega)) (by omega) x_s_28.1 (fun z => by have := x_s_28.2.mpr z; omega)) | (rw [k_m6]; exact (goP2_6 hel x_s_24.1 (fun z => by have := x_s_24.2.mpr z; omega)).trans j71) | (rw [k_m6]; exact (goP3_6 hct hq19 hl19 x_s_20.1 (fun z => by have := x_s_20.2.mpr z; omega)).trans j96) | (rw [k_0]; exact j0))⟩
            · rw [fa_eq] at c_27
              exact hk_k_107 s_24 ⟨trivial, hB_s_24, hF_s_24, (by first | exact (goP2_b (fun z => by have := x_v_12.mpr z; omega)).trans j71 | exact (goP2_a hel x_s_24.1 (x_s_24.2.mp (by omega))).trans j71)⟩
      · intro k_83 hk_k_83
        refine ok_ite (fun c_28 => ?_) (fun c_28 => ?_)
        · rw [fa_eq] at c_28
          exact hk_k_83 σ ⟨trivial, hB, hF, (by first | exact goP_b yh (by omega) (by omega) (fun z => by have := x_v_10.mpr z; omega) | exact goP_a yh (by omega) (by omega) (x_v_10.mp (by omega)) (by omega) x_s_28.1 (x_s_28.2.mp (by omega)))⟩
        · rw [fa_eq] at c_28
          obtain ⟨t_30, ht_30, g_30⟩ : ∃ t : Int, (x1 + 1).toInt = t ∧ t = x1.toInt + (1 : Int32).toInt := ⟨_, rfl, by have h9 := fb_addI (x := x1) (y := (1 : Int32)) (by omega) (by omega); exact h9⟩
          have g_31 := gM_17 hB 0
          refine ok_ite (fun c_29 => ?_) (fun c_29 => ?_)
          · rw [fa_eq, ht_30] at c_29
            exact ok_ret ⟨(by (try dsimp only); omega), hB, hF, (by (try dsimp only); first | (rw [k_m4]; exact goP_4 (by omega)) | (rw [k_m5]; exact goP_5 (by omega) (by omega)) | (rw [k_m3]; exact goP_3 (by omega) (by omega) (x_v_10.mp (by omega)) (by omega)) | (rw [k_m6]; exact goP_6 yh (by omega) (by omega) (x_v_10.mp (by omega)) (by omega) x_s_28.1 (fun z => by have := x_s_28.2.mpr z; omega)) | (rw [k_m6]; exact (goP2_6 hel x_s_24.1 (fun z => by have := x_s_24.2.mpr z; omega)).trans j71) | (rw [k_m6]; exact (goP3_6 hct hq19 hl19 x_s_20.1 (fun z => by have := x_s_20.2.mpr z; omega)).trans j96) | (rw [k_0]; exact j0))⟩
          · rw [fa_eq, ht_30] at c_29
            refine ok_calv (s_X12_comes (x1 := (x1 + 1)) (x2 := x3_8) (σ := σ) hB (by rw [ht_30]; omega) (by omega) (by first | omega | (rw [hF_s_11.1 17 (by decide)]; omega) | (rw [hF_s_13.1 17 (by decide)]; omega))) (fun v_28 s_28 h_32 => ?_)
            obtain ⟨b_v_28, hB_s_28, hG_s_28, x_s_28⟩ := h_32
            (try dsimp only at b_v_28 hB_s_28 hG_s_28 x_s_28)
            have hF_s_28 : FR [19] [] σ s_28 := FR.cal hF hG_s_28 rfl rfl
            have f_s_28_17 : (s_28.1 17 0).toInt = (σ.1 17 0).toInt := by rw [hF_s_28.1 17 (by decide)]
            have f_s_28_18 : (s_28.1 18 0).toInt = (σ.1 18 0).toInt := by rw [hF_s_28.1 18 (by decide)]
            have xe : (x1 + 1).toNatClampNeg = x1.toNatClampNeg + 1 := by have h8 := clamp_I (x := (x1 + 1)) (by omega); omega
            rw [xe] at x_s_28
            refine ok_ite (fun c_33 => ?_) (fun c_33 => ?_)
            · rw [fa_eq] at c_33
              exact ok_ret ⟨(by (try dsimp only); omega), hB_s_28, hF_s_28, (by (try dsimp only); first | (rw [k_m4]; exact goP_4 (by omega)) | (rw [k_m5]; exact goP_5 (by omega) (by omega)) | (rw [k_m3]; exact goP_3 (by omega) (by omega) (x_v_10.mp (by omega)) (by omega)) | (rw [k_m6]; exact goP_6 yh (by omega) (by omega) (x_v_10.mp (by omega)) (by omega) x_s_28.1 (fun z => by have := x_s_28.2.mpr z; omega)) | (rw [k_m6]; exact (goP2_6 hel x_s_24.1 (fun z => by have := x_s_24.2.mpr z; omega)).trans j71) | (rw [k_m6]; exact (goP3_6 hct hq19 hl19 x_s_20.1 (fun z => by have := x_s_20.2.mpr z; omega)).trans j96) | (rw [k_0]; exact j0))⟩
            · rw [fa_eq] at c_33
              exact hk_k_83 s_28 ⟨trivial, hB_s_28, hF_s_28, (by first | exact goP_b yh (by omega) (by omega) (fun z => by have := x_v_10.mpr z; omega) | exact goP_a yh (by omega) (by omega) (x_v_10.mp (by omega)) (by omega) x_s_28.1 (x_s_28.2.mp (by omega)))⟩
    · rw [fa_le] at c_9
      exact ok_ret ⟨(by (try dsimp only); omega), hB, hF, (by (try dsimp only); first | (rw [k_m4]; exact goP_4 (by omega)) | (rw [k_m5]; exact goP_5 (by omega) (by omega)) | (rw [k_m3]; exact goP_3 (by omega) (by omega) (x_v_10.mp (by omega)) (by omega)) | (rw [k_m6]; exact goP_6 yh (by omega) (by omega) (x_v_10.mp (by omega)) (by omega) x_s_28.1 (fun z => by have := x_s_28.2.mpr z; omega)) | (rw [k_m6]; exact (goP2_6 hel x_s_24.1 (fun z => by have := x_s_24.2.mpr z; omega)).trans j71) | (rw [k_m6]; exact (goP3_6 hct hq19 hl19 x_s_20.1 (fun z => by have := x_s_20.2.mpr z; omega)).trans j96) | (rw [k_0]; exact j0))⟩
  · rw [fa_le] at c_4
    exact ok_ret ⟨(by (try dsimp only); omega), hB, hF, (by (try dsimp only); first | (rw [k_m4]; exact goP_4 (by omega)) | (rw [k_m5]; exact goP_5 (by omega) (by omega)) | (rw [k_m3]; exact goP_3 (by omega) (by omega) (x_v_10.mp (by omega)) (by omega)) | (rw [k_m6]; exact goP_6 yh (by omega) (by omega) (x_v_10.mp (by omega)) (by omega) x_s_28.1 (fun z => by have := x_s_28.2.mpr z; omega)) | (rw [k_m6]; exact (goP2_6 hel x_s_24.1 (fun z => by have := x_s_24.2.mpr z; omega)).trans j71) | (rw [k_m6]; exact (goP3_6 hct hq19 hl19 x_s_20.1 (fun z => by have := x_s_20.2.mpr z; omega)).trans j96) | (rw [k_0]; exact j0))⟩

set_option maxHeartbeats 4000000 in
theorem s_X12_has {x1 : Int64} {x2 : Int32} : OK (f_X12_has x1 x2) (fun v => (0 ≤ v.toInt ∧ v.toInt ≤ 1) ∧ ((0 ≤ x2.toInt → x2.toInt < 64 → (v.toInt = 1 ↔ bL x1 x2.toNatClampNeg = true)))) := by
  unfold f_X12_has
  have k_0 : (0 : Int32).toInt = 0 := by decide +kernel
  have k_1 : (1 : Int32).toInt = 1 := by decide +kernel
  obtain ⟨t_2, ht_2, g_2⟩ : ∃ t : Int, (lg_cmp ((x1 >>> (x2.toInt64 &&& 63)) &&& 1) (1 : Int64)).toInt = t ∧ -2147483648 ≤ t ∧ t ≤ 2147483647 := ⟨_, rfl, tI_rng _⟩
  refine ok_ite (fun c_1 => ?_) (fun c_1 => ?_)
  · rw [lg_cmp_eq] at c_1
    exact ok_ret ⟨(by (try dsimp only); omega), (by (try dsimp only); first | (rw [k_1]; exact has_t c_1) | (rw [k_0]; exact has_f c_1))⟩
  · rw [lg_cmp_eq] at c_1
    exact ok_ret ⟨(by (try dsimp only); omega), (by (try dsimp only); first | (rw [k_1]; exact has_t c_1) | (rw [k_0]; exact has_f c_1))⟩

set_option maxHeartbeats 4000000 in
theorem s_X12_wrong {σ : Sto} (hB : BM σ) (h1z : 1 ≤ (σ.1 17 0).toInt) : OK (f_X12_wrong σ) (fun r => ((-6) ≤ r.1.toInt ∧ r.1.toInt ≤ 0) ∧ BM r.2 ∧ FR [19] [] σ r.2 ∧ ((LDP (σ.1 17 0).toInt.toNat (σ.1 18 0).toInt.toNat (ri (σ.1 12)) (ri (σ.1 13)) (ri (h3 (σ.1 14) 0)) (ri (h3 (σ.1 14) 1)) (ri (h3 (σ.1 14) 2)) → (r.1.toInt, mk (σ.1 17 0).toInt.toNat (r.2.1 19)) = JUP (σ.1 17 0).toInt.toNat (σ.1 18 0).toInt.toNat (ri (σ.1 12)) (ri (σ.1 13)) (ri (h3 (σ.1 14) 0)) (ri (h3 (σ.1 14) 1)) (ri (h3 (σ.1 14) 2))) ∧ (¬ LDP (σ.1 17 0).toInt.toNat (σ.1 18 0).toInt.toNat (ri (σ.1 12)) (ri (σ.1 13)) (ri (h3 (σ.1 14) 0)) (ri (h3 (σ.1 14) 1)) (ri (h3 (σ.1 14) 2)) → r.1.toInt = -2))) := by
  unfold f_X12_wrong
  have hF : FR [19] [] σ σ := FR.rf
  have k_m2 : ((-2) : Int32).toInt = -2 := by decide +kernel
  have k_m1 : ((-1) : Int32).toInt = -1 := by decide +kernel
  have k_0 : (0 : Int32).toInt = 0 := by decide +kernel
  have k_1 : (1 : Int32).toInt = 1 := by decide +kernel
  have k_2 : (2 : Int32).toInt = 2 := by decide +kernel
  have k_3 : (3 : Int32).toInt = 3 := by decide +kernel
  have k_40 : (40 : Int32).toInt = 40 := by decide +kernel
  have g17 := gM_17 hB 0
  have g18 := gM_18 hB 0
  refine ok_itr1 (fun (n : Nat) (x1_1 : Int32) => n = (41 - x1_1.toInt).toNat ∧ (0 ≤ x1_1.toInt ∧ x1_1.toInt ≤ 40) ∧ (∀ i : Nat, (i : Int) < x1_1.toInt → gElI (ri (σ.1 12) i) → ri (σ.1 13) i < (σ.1 17 0).toInt.toNat)) ?_ (n := _) ⟨rfl, (by omega), (fun i hi => by exfalso; have h9 : (0 : Int32).toInt = 0 := (by decide +kernel); omega)⟩ (show _ < 10000000 by omega)
  intro a_2 n x1_1 hI ih_a_2
  obtain ⟨hn_a_2, b_x1_1, h1⟩ := hI
  have g_2 := gM_17 hB 0
  refine ok_ite (fun c_1 => ?_) (fun c_1 => ?_)
  · rw [fa_le] at c_1
    refine ok_itr1 (fun (n : Nat) (x1_3 : Int32) => n = (4 - x1_3.toInt).toNat ∧ (0 ≤ x1_3.toInt ∧ x1_3.toInt ≤ 3) ∧ (∀ h : Nat, (h : Int) < x1_3.toInt → ri (h3 (σ.1 14) 0) h < ri (h3 (σ.1 14) 1) h ∧ ri (h3 (σ.1 14) 1) h ≤ (σ.1 17 0).toInt.toNat ∧ ri (h3 (σ.1 14) 2) h < (σ.1 17 0).toInt.toNat)) ?_ (n := _) ⟨rfl, (by omega), (fun i hi => by exfalso; have h9 : (0 : Int32).toInt = 0 := (by decide +kernel); omega)⟩ (show _ < 10000000 by omega)
    intro a_46 n x1_3 hI ih_a_46
    obtain ⟨hn_a_46, b_x1_3, h2⟩ := hI
    have g_4 := gM_18 hB 0
    refine ok_ite (fun c_3 => ?_) (fun c_3 => ?_)
    · rw [fa_le] at c_3
      refine ok_itr2 (fun (n : Nat) (x1_5 : Int32) (s_5 : Sto) => n = (41 - x1_5.toInt).toNat ∧ (0 ≤ x1_5.toInt ∧ x1_5.toInt ≤ 40) ∧ (BM s_5) ∧ (FR [19] [] σ s_5) ∧ (∀ i : Nat, (i : Int) < x1_5.toInt → (s_5.1 19 i).toInt = -1)) ?_ (n := _) ⟨rfl, (by omega), hB, hF, (fun i hi => by exfalso; have h9 : (0 : Int32).toInt = 0 := (by decide +kernel); omega)⟩ (show _ < 10000000 by omega)
      intro a_120 n x1_5 s_5 hI ih_a_120
      obtain ⟨hn_a_120, b_x1_5, hB_s_5, hF_s_5, h19⟩ := hI
      have f_s_5_17 : (s_5.1 17 0).toInt = (σ.1 17 0).toInt := by rw [hF_s_5.1 17 (by decide)]
      have f_s_5_18 : (s_5.1 18 0).toInt = (σ.1 18 0).toInt := by rw [hF_s_5.1 18 (by decide)]
      refine ok_ite (fun c_5 => ?_) (fun c_5 => ?_)
      · rw [fa_le] at c_5
        refine ok_ix ⟨by omega, by omega⟩ ?_
        refine ok_lt fun s_7 e_s_7 => ?_
        have hB_s_7 : BM s_7 := by rw [e_s_7]; exact pM_19 hB_s_5 (by omega)
        have hF_s_7 : FR [19] [] σ s_7 := by rw [e_s_7]; exact FR.st hF_s_5 (by decide)
        have f_s_7_17 : (s_7.1 17 0).toInt = (σ.1 17 0).toInt := by rw [hF_s_7.1 17 (by decide)]
        have f_s_7_18 : (s_7.1 18 0).toInt = (σ.1 18 0).toInt := by rw [hF_s_7.1 18 (by decide)]
        have hld : LDP (σ.1 17 0).toInt.toNat (σ.1 18 0).toInt.toNat (ri (σ.1 12)) (ri (σ.1 13)) (ri (h3 (σ.1 14) 0)) (ri (h3 (σ.1 14) 1)) (ri (h3 (σ.1 14) 2)) := ⟨fun i hi => h1 i (by omega), fun k hk => h2 k (by omega)⟩
        have m7 : mk (σ.1 17 0).toInt.toNat (s_7.1 19) = d0P := by funext i; unfold mk d0P; rw [show s_7.1 19 i = (sti s_5 19 (0 : Int32).toNatClampNeg (0 : Int32)).1 19 i by rw [e_s_7], sti_if]; have z0 : (0 : Int32).toNatClampNeg = 0 := rfl; rw [z0]; by_cases r : i = 0; (rw [if_pos r, if_pos r, if_pos (by omega)]; exact k_0); (rw [if_neg r, if_neg r]; by_cases q : i < (σ.1 17 0).toInt.toNat; (rw [if_pos q]; exact h19 i (by omega)); exact if_neg q)
        refine ok_itr2 (fun (n : Nat) (x1_8 : Int64) (s_8 : Sto) => n = (41 - fb_ct (bL x1_8) (σ.1 17 0).toInt.toNat) ∧ (BM s_8) ∧ (FR [19] [] σ s_8) ∧ (juP (σ.1 17 0).toInt.toNat (σ.1 18 0).toInt.toNat (ri (σ.1 12)) (ri (σ.1 13)) (ri (h3 (σ.1 14) 0)) (ri (h3 (σ.1 14) 1)) (ri (h3 (σ.1 14) 2)) ((σ.1 17 0).toInt.toNat - fb_ct (bL x1_8) (σ.1 17 0).toInt.toNat) (bL x1_8) (mk (σ.1 17 0).toInt.toNat (s_8.1 19)) = JUP (σ.1 17 0).toInt.toNat (σ.1 18 0).toInt.toNat (ri (σ.1 12)) (ri (σ.1 13)) (ri (h3 (σ.1 14) 0)) (ri (h3 (σ.1 14) 1)) (ri (h3 (σ.1 14) 2)))) ?_ (n := _) ⟨rfl, hB_s_7, hF_s_7, (by rw [m7, show fb_ct (bL (0 : Int64)) (σ.1 17 0).toInt.toNat = 0 from fb_ct_zero.mpr (fun k _ => bL_0 k)]; unfold JUP; rw [show bL (0 : Int64) = (fun _ => false) from funext bL_0]; rfl)⟩ (show _ < 10000000 by omega)
        intro a_148 n x1_8 s_8 hI ih_a_148
        obtain ⟨hn_a_148, hB_s_8, hF_s_8, jT⟩ := hI
        have f_s_8_17 : (s_8.1 17 0).toInt = (σ.1 17 0).toInt := by rw [hF_s_8.1 17 (by decide)]
        have f_s_8_18 : (s_8.1 18 0).toInt = (σ.1 18 0).toInt := by rw [hF_s_8.1 18 (by decide)]
        refine ok_itr1 (fun (n : Nat) (x3_9 : Int32) => n = (41 - x3_9.toInt).toNat ∧ (0 ≤ x3_9.toInt ∧ x3_9.toInt ≤ 40) ∧ (x3_9.toInt ≤ (σ.1 17 0).toInt) ∧ (∀ k : Nat, (k : Int) < x3_9.toInt → (mk (σ.1 17 0).toInt.toNat (s_8.1 19)) k = -1 ∨ bL x1_8 k = true)) ?_ (n := _) ⟨rfl, (by omega), (by omega), (fun k hk => by exfalso; have h9 : (0 : Int32).toInt = 0 := (by decide +kernel); omega)⟩ (show _ < 10000000 by omega)
        intro a_150 n x3_9 hI ih_a_150
        obtain ⟨hn_a_150, b_x3_9, hle9, hno⟩ := hI
        refine ok_jnI0 (True ∧ ((σ.1 17 0).toInt ≤ x3_9.toInt ∨ ((mk (σ.1 17 0).toInt.toNat (s_8.1 19)) x3_9.toNatClampNeg ≠ -1 ∧ bL x1_8 x3_9.toNatClampNeg = false))) ?_ ?_
        · intro  hJ
          obtain ⟨-, jq⟩ := hJ
          have g_7 := gM_17 hB_s_8 0
          have g_8 : (s_8.1 17 0).toInt = (σ.1 17 0).toInt := by rw [hF_s_8.1 17 (by decide)]
          refine ok_ite (fun c_6 => ?_) (fun c_6 => ?_)
          · rw [fa_eq] at c_6
            exact ok_ret ⟨(by (try dsimp only); omega), hB_s_8, hF_s_8, (by (try dsimp only); first | exact ⟨fun z => by exfalso; exact LDP.n1 (i := x1_1.toNatClampNeg) (by omega) (x_v_33.mp (by omega)) (by omega) z, fun _ => k_m2⟩ | exact ⟨fun z => by exfalso; exact LDP.n2 (h := x1_3.toNatClampNeg) (by omega) (by omega) z, fun _ => k_m2⟩ | exact ⟨fun _ => by rw [k_0]; exact juP_0 jT (loP_no hno (by omega)), fun z => absurd hld z⟩ | exact ⟨fun _ => juP_n jT (by omega) lo13 (by omega) x_s_13 (by omega), fun z => absurd hld z⟩)⟩
          · rw [fa_eq] at c_6
            refine ok_lt fun x1_12 e_x1_12 => ?_
            have cx9 := clamp_I (x := x3_9) (by omega)
            refine ok_calv (s_X12_goesThrough (x1 := x3_9) (σ := s_8) hB_s_8 (by omega) (by rw [hF_s_8.1 17 (by decide)]; omega) (by rw [hF_s_8.1 12 (by decide), hF_s_8.1 13 (by decide), hF_s_8.1 14 (by decide), hF_s_8.1 17 (by decide), hF_s_8.1 18 (by decide)]; exact hld)) (fun v_13 s_13 h_9 => ?_)
            obtain ⟨b_v_13, hB_s_13, hG_s_13, x_s_13⟩ := h_9
            (try dsimp only at b_v_13 hB_s_13 hG_s_13 x_s_13)
            have hF_s_13 : FR [19] [] σ s_13 := FR.cal hF_s_8 hG_s_13 rfl rfl
            have f_s_13_17 : (s_13.1 17 0).toInt = (σ.1 17 0).toInt := by rw [hF_s_13.1 17 (by decide)]
            have f_s_13_18 : (s_13.1 18 0).toInt = (σ.1 18 0).toInt := by rw [hF_s_13.1 18 (by decide)]
            rw [hF_s_8.1 12 (by decide), hF_s_8.1 13 (by decide), hF_s_8.1 14 (by decide), hF_s_8.1 17 (by decide), hF_s_8.1 18 (by decide)] at x_s_13
            have jq2 := jq.resolve_left (by omega)
            have hb13 := jq2.2
            have lo13 : loP (σ.1 17 0).toInt.toNat (mk (σ.1 17 0).toInt.toNat (s_8.1 19)) (bL x1_8) = x3_9.toNatClampNeg := loP_at hno x3_9.toNatClampNeg (by omega) (by omega) jq2.1 hb13
            have ct13 := set_ct (x := x1_8) (v := x3_9) (n := (σ.1 17 0).toInt.toNat) (by omega) (by omega) (by omega) hb13
            rw [← e_x1_12] at ct13
            have cl13 := fb_ct_le (bL x1_12) (σ.1 17 0).toInt.toNat
            refine ok_ite (fun c_10 => ?_) (fun c_10 => ?_)
            · rw [fa_le] at c_10
              exact ih_a_148 _ x1_12 s_13 (by rw [hn_a_148]; omega) ⟨rfl, hB_s_13, hF_s_13, (juP_g (f2 := (σ.1 17 0).toInt.toNat - fb_ct (bL x1_12) (σ.1 17 0).toInt.toNat) jT (by omega) lo13 (by omega) x_s_13 (by omega) (fun i => by rw [e_x1_12]; exact bL_set (by omega) (by omega) i))⟩
            · rw [fa_le] at c_10
              exact ok_ret ⟨(by (try dsimp only); omega), hB_s_13, hF_s_13, (by (try dsimp only); first | exact ⟨fun z => by exfalso; exact LDP.n1 (i := x1_1.toNatClampNeg) (by omega) (x_v_33.mp (by omega)) (by omega) z, fun _ => k_m2⟩ | exact ⟨fun z => by exfalso; exact LDP.n2 (h := x1_3.toNatClampNeg) (by omega) (by omega) z, fun _ => k_m2⟩ | exact ⟨fun _ => by rw [k_0]; exact juP_0 jT (loP_no hno (by omega)), fun z => absurd hld z⟩ | exact ⟨fun _ => juP_n jT (by omega) lo13 (by omega) x_s_13 (by omega), fun z => absurd hld z⟩)⟩
        · intro k_182 hk_k_182
          have g_12 := gM_17 hB_s_8 0
          have g_13 : (s_8.1 17 0).toInt = (σ.1 17 0).toInt := by rw [hF_s_8.1 17 (by decide)]
          refine ok_ite (fun c_11 => ?_) (fun c_11 => ?_)
          · rw [fa_le] at c_11
            exact hk_k_182 ⟨trivial, (by first | exact Or.inl (by omega) | exact Or.inr ⟨by rw [z16]; omega, by cases q : bL x1_8 x3_9.toNatClampNeg; rfl; exact absurd (y20.mpr q) (by omega)⟩)⟩
          · rw [fa_le] at c_11
            refine ok_ix ⟨by omega, by omega⟩ ?_
            have g_14 := gM_19 hB_s_8 (x3_9.toNatClampNeg)
            refine ok_lt fun v_16 e_v_16 => ?_
            have b_v_16 : (-1) ≤ v_16.toInt ∧ v_16.toInt ≤ 6 := by rw [e_v_16]; exact gM_19 hB_s_8 _
            have cx9 := clamp_I (x := x3_9) (by omega)
            have l9 : x3_9.toInt < (σ.1 17 0).toInt := (by omega)
            have z16 : (mk (σ.1 17 0).toInt.toNat (s_8.1 19)) x3_9.toNatClampNeg = v_16.toInt := by rw [mk_lt (by omega), e_v_16]
            refine ok_jn ?_
            refine ok_ite (fun c_15 => ?_) (fun c_15 => ?_)
            · rw [fa_eq] at c_15
              obtain ⟨t_16, ht_16, g_16⟩ : ∃ t : Int, (x3_9 + 1).toInt = t ∧ t = x3_9.toInt + (1 : Int32).toInt := ⟨_, rfl, by have h9 := fb_addI (x := x3_9) (y := (1 : Int32)) (by omega) (by omega); exact h9⟩
              refine ok_lt fun x3_18 e_x3_18 => ?_
              have q_x3_18 : x3_18.toInt = t_16 := by rw [e_x3_18]; exact ht_16
              exact ih_a_150 _ x3_18 (by rw [hn_a_150]; omega) ⟨rfl, (by omega), (by omega), (lo_s hno (by omega) x3_9.toNatClampNeg (by omega) (by first | exact Or.inl (by rw [z16]; omega) | exact Or.inr (y20.mp (by omega))))⟩
            · rw [fa_eq] at c_15
              refine ok_calp (s_X12_has (x1 := x1_8) (x2 := x3_9) ) (fun v_20 h_17 => ?_)
              obtain ⟨b_v_20, x_v_20⟩ := h_17
              (try dsimp only at b_v_20 x_v_20)
              have y20 := x_v_20 (by omega) (by omega)
              refine ok_ite (fun c_18 => ?_) (fun c_18 => ?_)
              · rw [fa_eq] at c_18
                exact hk_k_182 ⟨trivial, (by first | exact Or.inl (by omega) | exact Or.inr ⟨by rw [z16]; omega, by cases q : bL x1_8 x3_9.toNatClampNeg; rfl; exact absurd (y20.mpr q) (by omega)⟩)⟩
              · rw [fa_eq] at c_18
                obtain ⟨t_19, ht_19, g_19⟩ : ∃ t : Int, (x3_9 + 1).toInt = t ∧ t = x3_9.toInt + (1 : Int32).toInt := ⟨_, rfl, by have h9 := fb_addI (x := x3_9) (y := (1 : Int32)) (by omega) (by omega); exact h9⟩
                refine ok_lt fun x3_18 e_x3_18 => ?_
                have q_x3_18 : x3_18.toInt = t_19 := by rw [e_x3_18]; exact ht_19
                exact ih_a_150 _ x3_18 (by rw [hn_a_150]; omega) ⟨rfl, (by omega), (by omega), (lo_s hno (by omega) x3_9.toNatClampNeg (by omega) (by first | exact Or.inl (by rw [z16]; omega) | exact Or.inr (y20.mp (by omega))))⟩
      · rw [fa_le] at c_5
        refine ok_ix ⟨by omega, by omega⟩ ?_
        refine ok_lt fun s_22 e_s_22 => ?_
        have hB_s_22 : BM s_22 := by rw [e_s_22]; exact pM_19 hB_s_5 (by omega)
        have hF_s_22 : FR [19] [] σ s_22 := by rw [e_s_22]; exact FR.st hF_s_5 (by decide)
        have f_s_22_17 : (s_22.1 17 0).toInt = (σ.1 17 0).toInt := by rw [hF_s_22.1 17 (by decide)]
        have f_s_22_18 : (s_22.1 18 0).toInt = (σ.1 18 0).toInt := by rw [hF_s_22.1 18 (by decide)]
        have cx5 := clamp_I (x := x1_5) (by omega)
        obtain ⟨t_20, ht_20, g_20⟩ : ∃ t : Int, (x1_5 + 1).toInt = t ∧ t = x1_5.toInt + (1 : Int32).toInt := ⟨_, rfl, by have h9 := fb_addI (x := x1_5) (y := (1 : Int32)) (by omega) (by omega); exact h9⟩
        refine ok_lt fun x1_23 e_x1_23 => ?_
        have q_x1_23 : x1_23.toInt = t_20 := by rw [e_x1_23]; exact ht_20
        exact ih_a_120 _ x1_23 s_22 (by rw [hn_a_120]; omega) ⟨rfl, (by omega), hB_s_22, hF_s_22, (fun i hi => by rw [e_s_22, sti_if]; by_cases q : i = x1_5.toNatClampNeg; (rw [if_pos q]; exact k_m1); (rw [if_neg q]; exact h19 i (by omega)))⟩
    · rw [fa_le] at c_3
      obtain ⟨t_21, ht_21, g_21⟩ : ∃ t : Int, ((3 : Int32) * x1_3).toInt = t ∧ t = 3 * x1_3.toInt := ⟨_, rfl, by have h9 := fb_mulI (x := (3 : Int32)) (y := x1_3) (by rw [k_3]; omega) (by rw [k_3]; omega); rw [k_3] at h9; exact h9⟩
      refine ok_ix ⟨by rw [ht_21]; omega, by rw [ht_21]; omega⟩ ?_
      have g_22 := gM_14 hB (((3 : Int32) * x1_3).toNatClampNeg)
      refine ok_lt fun v_24 e_v_24 => ?_
      have b_v_24 : 0 ≤ v_24.toInt ∧ v_24.toInt ≤ 40 := by rw [e_v_24]; exact gM_14 hB _
      have ix1_3_0 : (((3 : Int32) * x1_3)).toNatClampNeg = 3 * x1_3.toNatClampNeg + 0 := by have := clamp_I (x := (((3 : Int32) * x1_3))) (by omega); have := clamp_I (x := x1_3) (by omega); omega
      have z24 : v_24.toInt = ri (h3 (σ.1 14) 0) x1_3.toNatClampNeg := by rw [e_v_24, ix1_3_0]; rfl
      have cx3 := clamp_I (x := x1_3) (by omega)
      obtain ⟨t_23, ht_23, g_23⟩ : ∃ t : Int, (((3 : Int32) * x1_3) + 1).toInt = t ∧ t = t_21 + (1 : Int32).toInt := ⟨_, rfl, by have h9 := fb_addI (x := ((3 : Int32) * x1_3)) (y := (1 : Int32)) (by rw [ht_21]; omega) (by rw [ht_21]; omega); rw [ht_21] at h9; exact h9⟩
      refine ok_ix ⟨by rw [ht_23]; omega, by rw [ht_23]; omega⟩ ?_
      have g_24 := gM_14 hB ((((3 : Int32) * x1_3) + 1).toNatClampNeg)
      refine ok_lt fun v_25 e_v_25 => ?_
      have b_v_25 : 0 ≤ v_25.toInt ∧ v_25.toInt ≤ 40 := by rw [e_v_25]; exact gM_14 hB _
      have q_v_25 : v_25.toInt = (σ.1 14 (((3 : Int32) * x1_3) + 1).toNatClampNeg).toInt := by rw [e_v_25]
      have ix1_3_1 : (((3 : Int32) * x1_3) + 1).toNatClampNeg = 3 * x1_3.toNatClampNeg + 1 := by have := clamp_I (x := (((3 : Int32) * x1_3) + 1)) (by omega); have := clamp_I (x := x1_3) (by omega); omega
      have z25 : v_25.toInt = ri (h3 (σ.1 14) 1) x1_3.toNatClampNeg := by rw [e_v_25, ix1_3_1]; rfl
      refine ok_ite (fun c_25 => ?_) (fun c_25 => ?_)
      · rw [fa_le] at c_25
        exact ok_ret ⟨(by (try dsimp only); omega), hB, hF, (by (try dsimp only); first | exact ⟨fun z => by exfalso; exact LDP.n1 (i := x1_1.toNatClampNeg) (by omega) (x_v_33.mp (by omega)) (by omega) z, fun _ => k_m2⟩ | exact ⟨fun z => by exfalso; exact LDP.n2 (h := x1_3.toNatClampNeg) (by omega) (by omega) z, fun _ => k_m2⟩ | exact ⟨fun _ => by rw [k_0]; exact juP_0 jT (loP_no hno (by omega)), fun z => absurd hld z⟩ | exact ⟨fun _ => juP_n jT (by omega) lo13 (by omega) x_s_13 (by omega), fun z => absurd hld z⟩)⟩
      · rw [fa_le] at c_25
        refine ok_ix ⟨by rw [ht_23]; omega, by rw [ht_23]; omega⟩ ?_
        refine ok_lt fun v_27 e_v_27 => ?_
        have b_v_27 : 0 ≤ v_27.toInt ∧ v_27.toInt ≤ 40 := by rw [e_v_27]; exact gM_14 hB _
        have q_v_27 : v_27.toInt = (σ.1 14 (((3 : Int32) * x1_3) + 1).toNatClampNeg).toInt := by rw [e_v_27]
        have z27 : v_27.toInt = ri (h3 (σ.1 14) 1) x1_3.toNatClampNeg := by rw [e_v_27, ix1_3_1]; rfl
        refine ok_ite (fun c_26 => ?_) (fun c_26 => ?_)
        · rw [fa_lt] at c_26
          exact ok_ret ⟨(by (try dsimp only); omega), hB, hF, (by (try dsimp only); first | exact ⟨fun z => by exfalso; exact LDP.n1 (i := x1_1.toNatClampNeg) (by omega) (x_v_33.mp (by omega)) (by omega) z, fun _ => k_m2⟩ | exact ⟨fun z => by exfalso; exact LDP.n2 (h := x1_3.toNatClampNeg) (by omega) (by omega) z, fun _ => k_m2⟩ | exact ⟨fun _ => by rw [k_0]; exact juP_0 jT (loP_no hno (by omega)), fun z => absurd hld z⟩ | exact ⟨fun _ => juP_n jT (by omega) lo13 (by omega) x_s_13 (by omega), fun z => absurd hld z⟩)⟩
        · rw [fa_lt] at c_26
          obtain ⟨t_27, ht_27, g_27⟩ : ∃ t : Int, (((3 : Int32) * x1_3) + 2).toInt = t ∧ t = t_21 + (2 : Int32).toInt := ⟨_, rfl, by have h9 := fb_addI (x := ((3 : Int32) * x1_3)) (y := (2 : Int32)) (by rw [ht_21]; omega) (by rw [ht_21]; omega); rw [ht_21] at h9; exact h9⟩
          refine ok_ix ⟨by rw [ht_27]; omega, by rw [ht_27]; omega⟩ ?_
          have g_28 := gM_14 hB ((((3 : Int32) * x1_3) + 2).toNatClampNeg)
          refine ok_lt fun v_29 e_v_29 => ?_
          have b_v_29 : 0 ≤ v_29.toInt ∧ v_29.toInt ≤ 40 := by rw [e_v_29]; exact gM_14 hB _
          have ix1_3_2 : (((3 : Int32) * x1_3) + 2).toNatClampNeg = 3 * x1_3.toNatClampNeg + 2 := by have := clamp_I (x := (((3 : Int32) * x1_3) + 2)) (by omega); have := clamp_I (x := x1_3) (by omega); omega
          have z29 : v_29.toInt = ri (h3 (σ.1 14) 2) x1_3.toNatClampNeg := by rw [e_v_29, ix1_3_2]; rfl
          refine ok_ite (fun c_29 => ?_) (fun c_29 => ?_)
          · rw [fa_lt] at c_29
            obtain ⟨t_30, ht_30, g_30⟩ : ∃ t : Int, (x1_3 + 1).toInt = t ∧ t = x1_3.toInt + (1 : Int32).toInt := ⟨_, rfl, by have h9 := fb_addI (x := x1_3) (y := (1 : Int32)) (by omega) (by omega); exact h9⟩
            refine ok_lt fun x1_31 e_x1_31 => ?_
            have q_x1_31 : x1_31.toInt = t_30 := by rw [e_x1_31]; exact ht_30
            exact ih_a_46 _ x1_31 (by rw [hn_a_46]; omega) ⟨rfl, (by omega), (fun i hi => by by_cases q : i = x1_3.toNatClampNeg; (subst q; omega); exact h2 i (by omega))⟩
          · rw [fa_lt] at c_29
            exact ok_ret ⟨(by (try dsimp only); omega), hB, hF, (by (try dsimp only); first | exact ⟨fun z => by exfalso; exact LDP.n1 (i := x1_1.toNatClampNeg) (by omega) (x_v_33.mp (by omega)) (by omega) z, fun _ => k_m2⟩ | exact ⟨fun z => by exfalso; exact LDP.n2 (h := x1_3.toNatClampNeg) (by omega) (by omega) z, fun _ => k_m2⟩ | exact ⟨fun _ => by rw [k_0]; exact juP_0 jT (loP_no hno (by omega)), fun z => absurd hld z⟩ | exact ⟨fun _ => juP_n jT (by omega) lo13 (by omega) x_s_13 (by omega), fun z => absurd hld z⟩)⟩
  · rw [fa_le] at c_1
    refine ok_ix ⟨by omega, by omega⟩ ?_
    have g_31 := gM_12 hB (x1_1.toNatClampNeg)
    refine ok_lt fun v_32 e_v_32 => ?_
    have b_v_32 : 0 ≤ v_32.toInt ∧ v_32.toInt ≤ 255 := by rw [e_v_32]; exact gM_12 hB _
    have cx1 := clamp_I (x := x1_1) (by omega)
    have z32 : v_32.toInt = ri (σ.1 12) x1_1.toNatClampNeg := by rw [e_v_32]; rfl
    refine ok_calp (s_X12_goesTo (x1 := v_32) (by omega)) (fun v_33 h_32 => ?_)
    obtain ⟨b_v_33, x_v_33⟩ := h_32
    (try dsimp only at b_v_33 x_v_33)
    rw [z32] at x_v_33
    refine ok_jn ?_
    refine ok_ite (fun c_33 => ?_) (fun c_33 => ?_)
    · rw [fa_eq] at c_33
      obtain ⟨t_34, ht_34, g_34⟩ : ∃ t : Int, (x1_1 + 1).toInt = t ∧ t = x1_1.toInt + (1 : Int32).toInt := ⟨_, rfl, by have h9 := fb_addI (x := x1_1) (y := (1 : Int32)) (by omega) (by omega); exact h9⟩
      refine ok_lt fun x1_35 e_x1_35 => ?_
      have q_x1_35 : x1_35.toInt = t_34 := by rw [e_x1_35]; exact ht_34
      exact ih_a_2 _ x1_35 (by rw [hn_a_2]; omega) ⟨rfl, (by omega), (fun i hi g => by by_cases q : i = x1_1.toNatClampNeg; (subst q; first | (have := x_v_33.mpr g; omega) | omega); exact h1 i (by omega) g)⟩
    · rw [fa_eq] at c_33
      refine ok_ix ⟨by omega, by omega⟩ ?_
      have g_35 := gM_13 hB (x1_1.toNatClampNeg)
      refine ok_lt fun v_37 e_v_37 => ?_
      have b_v_37 : 0 ≤ v_37.toInt ∧ v_37.toInt ≤ 999 := by rw [e_v_37]; exact gM_13 hB _
      have z37 : v_37.toInt = ri (σ.1 13) x1_1.toNatClampNeg := by rw [e_v_37]; rfl
      refine ok_ite (fun c_36 => ?_) (fun c_36 => ?_)
      · rw [fa_lt] at c_36
        obtain ⟨t_37, ht_37, g_37⟩ : ∃ t : Int, (x1_1 + 1).toInt = t ∧ t = x1_1.toInt + (1 : Int32).toInt := ⟨_, rfl, by have h9 := fb_addI (x := x1_1) (y := (1 : Int32)) (by omega) (by omega); exact h9⟩
        refine ok_lt fun x1_35 e_x1_35 => ?_
        have q_x1_35 : x1_35.toInt = t_37 := by rw [e_x1_35]; exact ht_37
        exact ih_a_2 _ x1_35 (by rw [hn_a_2]; omega) ⟨rfl, (by omega), (fun i hi g => by by_cases q : i = x1_1.toNatClampNeg; (subst q; first | (have := x_v_33.mpr g; omega) | omega); exact h1 i (by omega) g)⟩
      · rw [fa_lt] at c_36
        exact ok_ret ⟨(by (try dsimp only); omega), hB, hF, (by (try dsimp only); first | exact ⟨fun z => by exfalso; exact LDP.n1 (i := x1_1.toNatClampNeg) (by omega) (x_v_33.mp (by omega)) (by omega) z, fun _ => k_m2⟩ | exact ⟨fun z => by exfalso; exact LDP.n2 (h := x1_3.toNatClampNeg) (by omega) (by omega) z, fun _ => k_m2⟩ | exact ⟨fun _ => by rw [k_0]; exact juP_0 jT (loP_no hno (by omega)), fun z => absurd hld z⟩ | exact ⟨fun _ => juP_n jT (by omega) lo13 (by omega) x_s_13 (by omega), fun z => absurd hld z⟩)⟩

