set_option maxHeartbeats 4000000 in
theorem s_X12_bytesOf {x1 : Int32} : OK (f_X12_bytesOf x1) (fun v => (0 ≤ v.toInt ∧ v.toInt ≤ 4) ∧ (v.toInt = cB x1 4)) := by
  unfold f_X12_bytesOf
  have k_0 : (0 : Int32).toInt = 0 := by decide +kernel
  have k_1 : (1 : Int32).toInt = 1 := by decide +kernel
  have k_4 : (4 : Int32).toInt = 4 := by decide +kernel
  refine ok_itr2 (fun (n : Nat) (x1_1 : Int32) (x2_1 : Int32) => n = (5 - x2_1.toInt).toNat ∧ (0 ≤ x1_1.toInt ∧ x1_1.toInt ≤ 4) ∧ (0 ≤ x2_1.toInt ∧ x2_1.toInt ≤ 4) ∧ (x1_1.toInt = cB x1 x2_1.toNatClampNeg) ∧ (x1_1.toInt ≤ x2_1.toInt)) ?_ (n := _) ⟨rfl, (by omega), (by omega), (by rfl), (by omega)⟩ (show _ < 10000000 by omega)
  intro a_4 n x1_1 x2_1 hI ih_a_4
  obtain ⟨hn_a_4, b_x1_1, b_x2_1, h1, h2⟩ := hI
  have cx2 := clamp_I (x := x2_1) (by omega)
  refine ok_ite (fun c_1 => ?_) (fun c_1 => ?_)
  · rw [fa_le] at c_1
    exact ok_ret ⟨(by (try dsimp only); omega), (by (try dsimp only); rw [h1, show x2_1.toNatClampNeg = 4 by omega])⟩
  · rw [fa_le] at c_1
    refine ok_jnI1 (fun (t0_3 : Int32) => True ∧ (0 ≤ t0_3.toInt ∧ t0_3.toInt ≤ 1) ∧ ((if ((x1 >>> (((8 : Int32) * x2_1) &&& 31)) &&& 255).toInt = 0 then (0 : Int) else 1) = t0_3.toInt)) ?_ ?_
    · intro t0_3 hJ
      obtain ⟨-, b_t0_3, jz⟩ := hJ
      obtain ⟨t_2, ht_2, g_2⟩ : ∃ t : Int, (x1_1 + t0_3).toInt = t ∧ t = x1_1.toInt + t0_3.toInt := ⟨_, rfl, by have h9 := fb_addI (x := x1_1) (y := t0_3) (by omega) (by omega); exact h9⟩
      refine ok_lt fun x1_4 e_x1_4 => ?_
      have q_x1_4 : x1_4.toInt = t_2 := by rw [e_x1_4]; exact ht_2
      obtain ⟨t_3, ht_3, g_3⟩ : ∃ t : Int, (x2_1 + 1).toInt = t ∧ t = x2_1.toInt + (1 : Int32).toInt := ⟨_, rfl, by have h9 := fb_addI (x := x2_1) (y := (1 : Int32)) (by omega) (by omega); exact h9⟩
      refine ok_lt fun x2_5 e_x2_5 => ?_
      have q_x2_5 : x2_5.toInt = t_3 := by rw [e_x2_5]; exact ht_3
      have n2 : x2_5.toNatClampNeg = x2_1.toNatClampNeg + 1 := by have := clamp_I (x := x2_5) (by omega); omega
      have nz : nzB x1 x2_1.toNatClampNeg = t0_3.toInt := by unfold nzB; rw [← nI_id (x := x2_1) (by omega)]; exact jz
      exact ih_a_4 _ x1_4 x2_5 (by rw [hn_a_4]; omega) ⟨rfl, (by omega), (by omega), (by rw [n2, cB_s, nz]; omega), (by omega)⟩
    · intro k_28 hk_k_28
      obtain ⟨t_5, ht_5, g_5⟩ : ∃ t : Int, ((x1 >>> (((8 : Int32) * x2_1) &&& 31)) &&& 255).toInt = t ∧ 0 ≤ t ∧ t ≤ 255 := ⟨_, rfl, and_rng (x := (x1 >>> (((8 : Int32) * x2_1) &&& 31))) 255 rfl (by decide)⟩
      refine ok_ite (fun c_4 => ?_) (fun c_4 => ?_)
      · rw [fa_eq, ht_5] at c_4
        exact hk_k_28 (0 : Int32) ⟨trivial, (by omega), (by first | rw [if_pos (by omega), k_0] | rw [if_neg (by omega), k_1])⟩
      · rw [fa_eq, ht_5] at c_4
        exact hk_k_28 (1 : Int32) ⟨trivial, (by omega), (by first | rw [if_pos (by omega), k_0] | rw [if_neg (by omega), k_1])⟩

set_option maxHeartbeats 4000000 in
theorem s_X12_brings {x1 : Int32} {σ : Sto} (hB : BM σ) (hl : (σ.1 2 0).toInt + cB x1 4 ≤ 240) : OK (f_X12_brings x1 σ) (fun s => BM s ∧ FR [1, 2] [] σ s ∧ ((s.1 2 0).toInt = (σ.1 2 0).toInt + cB x1 4)) := by
  unfold f_X12_brings
  have hF : FR [1, 2] [] σ σ := FR.rf
  have k_m8 : ((-8) : Int32).toInt = -8 := by decide +kernel
  have k_0 : (0 : Int32).toInt = 0 := by decide +kernel
  have k_1 : (1 : Int32).toInt = 1 := by decide +kernel
  have k_24 : (24 : Int32).toInt = 24 := by decide +kernel
  have g2 := gM_2 hB 0
  refine ok_itr2 (fun (n : Nat) (x2_1 : Int32) (s_1 : Sto) => n = (x2_1.toInt + 9).toNat ∧ ((-8) ≤ x2_1.toInt ∧ x2_1.toInt ≤ 24) ∧ (BM s_1) ∧ (FR [1, 2] [] σ s_1) ∧ (∃ j : Nat, x2_1.toInt = 8 * (j : Int) - 8 ∧ (s_1.1 2 0).toInt + cB x1 j = (σ.1 2 0).toInt + cB x1 4)) ?_ (n := _) ⟨rfl, (by omega), hB, hF, ⟨4, by omega, by omega⟩⟩ (show _ < 10000000 by omega)
  intro a_3 n x2_1 s_1 hI ih_a_3
  obtain ⟨hn_a_3, b_x2_1, hB_s_1, hF_s_1, h1⟩ := hI
  refine ok_ite (fun c_1 => ?_) (fun c_1 => ?_)
  · rw [fa_lt] at c_1
    exact ok_ret ⟨hB_s_1, hF_s_1, (by obtain ⟨j0, hj0, hj1⟩ := h1; have : j0 = 0 := (by omega); subst this; have z : cB x1 0 = 0 := rfl; omega)⟩
  · rw [fa_lt] at c_1
    obtain ⟨t_2, ht_2, g_2⟩ : ∃ t : Int, ((x1 >>> (x2_1 &&& 31)) &&& 255).toInt = t ∧ 0 ≤ t ∧ t ≤ 255 := ⟨_, rfl, and_rng (x := (x1 >>> (x2_1 &&& 31))) 255 rfl (by decide)⟩
    refine ok_lt fun x3_3 e_x3_3 => ?_
    have q_x3_3 : x3_3.toInt = t_2 := by rw [e_x3_3]; exact ht_2
    obtain ⟨j0, hj0, hj1⟩ := h1
    obtain ⟨j, rfl⟩ : ∃ j, j0 = j + 1 := ⟨j0 - 1, by omega⟩
    have sh := br_sh (x := x2_1) (j := j) (by omega) (by omega)
    have nz : nzB x1 j = (if x3_3.toInt = 0 then 0 else 1) := by unfold nzB; rw [e_x3_3, ← sh]
    rw [cB_s, nz] at hj1
    have cj := cB_le x1 j
    have g2b := gM_2 hB_s_1 0
    refine ok_jnI1 (fun (s_4 : Sto) => True ∧ (BM s_4) ∧ (FR [1, 2] [] σ s_4) ∧ ((s_4.1 2 0).toInt + cB x1 j = (σ.1 2 0).toInt + cB x1 4)) ?_ ?_
    · intro s_4 hJ
      obtain ⟨-, hB_s_4, hF_s_4, jl⟩ := hJ
      obtain ⟨t_3, ht_3, g_3⟩ : ∃ t : Int, (x2_1 + (-8)).toInt = t ∧ t = x2_1.toInt + ((-8) : Int32).toInt := ⟨_, rfl, by have h9 := fb_addI (x := x2_1) (y := ((-8) : Int32)) (by omega) (by omega); exact h9⟩
      refine ok_lt fun x2_5 e_x2_5 => ?_
      have q_x2_5 : x2_5.toInt = t_3 := by rw [e_x2_5]; exact ht_3
      exact ih_a_3 _ x2_5 s_4 (by rw [hn_a_3]; omega) ⟨rfl, (by omega), hB_s_4, hF_s_4, ⟨j, by omega, by omega⟩⟩
    · intro k_43 hk_k_43
      refine ok_ite (fun c_4 => ?_) (fun c_4 => ?_)
      · rw [fa_eq] at c_4
        exact hk_k_43 s_1 ⟨trivial, hB_s_1, hF_s_1, (by first | omega | (rw [if_pos (by omega)] at hj1; omega))⟩
      · rw [fa_eq] at c_4
        have g_5 := gM_2 hB_s_1 0
        rw [if_neg (by omega)] at hj1
        refine ok_ix ⟨by omega, by omega⟩ ?_
        obtain ⟨t_6, ht_6, g_6⟩ : ∃ t : Int, (((x3_3.toInt8).toInt32).toInt8).toInt32.toInt = t ∧ -128 ≤ t ∧ t ≤ 127 := ⟨_, rfl, i8_rng _⟩
        refine ok_lt fun s_7 e_s_7 => ?_
        have hB_s_7 : BM s_7 := by rw [e_s_7]; exact pM_1 hB_s_1 (by rw [ht_6]; omega)
        have hF_s_7 : FR [1, 2] [] σ s_7 := by rw [e_s_7]; exact FR.st hF_s_1 (by decide)
        have w_s_7_2 : (s_7.1 2 0).toInt = (s_1.1 2 0).toInt := by rw [e_s_7]; rfl
        have g_7 := gM_2 hB_s_7 0
        obtain ⟨t_8, ht_8, g_8⟩ : ∃ t : Int, ((s_7.1 2 0) + 1).toInt = t ∧ t = (s_7.1 2 0).toInt + (1 : Int32).toInt := ⟨_, rfl, by have h9 := fb_addI (x := (s_7.1 2 0)) (y := (1 : Int32)) (by omega) (by omega); exact h9⟩
        refine ok_lt fun s_8 e_s_8 => ?_
        have hB_s_8 : BM s_8 := by rw [e_s_8]; exact pM_2 hB_s_7 (by rw [ht_8]; omega)
        have hF_s_8 : FR [1, 2] [] σ s_8 := by rw [e_s_8]; exact FR.st hF_s_7 (by decide)
        have w_s_8_2 : (s_8.1 2 0).toInt = t_8 := by rw [e_s_8, sti_s, ht_8]
        exact hk_k_43 s_8 ⟨trivial, hB_s_8, hF_s_8, (by first | omega | (rw [if_pos (by omega)] at hj1; omega))⟩

set_option maxHeartbeats 4000000 in
theorem s_X12_feed {x1 : Int32} {x2 : Int32} {x3 : Int32} {x4 : Int32} {x5 : Int32} {σ : Sto} (hB : BM σ) : OK (f_X12_feed x1 x2 x3 x4 x5 σ) (fun r => ((-1) ≤ r.1.toInt ∧ r.1.toInt ≤ 240) ∧ BM r.2 ∧ FR [0, 1, 2] [] σ r.2) := by
  unfold f_X12_feed
  have hF : FR [0, 1, 2] [] σ σ := FR.rf
  have k_m1 : ((-1) : Int32).toInt = -1 := by decide +kernel
  have k_0 : (0 : Int32).toInt = 0 := by decide +kernel
  have k_240 : (240 : Int32).toInt = 240 := by decide +kernel
  have g2 := gM_2 hB 0
  have c1 := cB_le x1 4
  have c2 := cB_le x2 4
  have c3 := cB_le x3 4
  have c4 := cB_le x4 4
  have c5 := cB_le x5 4
  refine ok_lt fun s_1 e_s_1 => ?_
  have hB_s_1 : BM s_1 := by rw [e_s_1]; exact pM_0 hB (by omega)
  have hF_s_1 : FR [0, 1, 2] [] σ s_1 := by rw [e_s_1]; exact FR.st hF (by decide)
  have w_s_1_2 : (s_1.1 2 0).toInt = (σ.1 2 0).toInt := by rw [e_s_1]; rfl
  refine ok_calp (s_X12_bytesOf (x1 := x1) ) (fun v_2 h_1 => ?_)
  obtain ⟨b_v_2, x_v_2⟩ := h_1
  (try dsimp only at b_v_2 x_v_2)
  refine ok_calp (s_X12_bytesOf (x1 := x2) ) (fun v_3 h_2 => ?_)
  obtain ⟨b_v_3, x_v_3⟩ := h_2
  (try dsimp only at b_v_3 x_v_3)
  refine ok_calp (s_X12_bytesOf (x1 := x3) ) (fun v_4 h_3 => ?_)
  obtain ⟨b_v_4, x_v_4⟩ := h_3
  (try dsimp only at b_v_4 x_v_4)
  refine ok_calp (s_X12_bytesOf (x1 := x4) ) (fun v_5 h_4 => ?_)
  obtain ⟨b_v_5, x_v_5⟩ := h_4
  (try dsimp only at b_v_5 x_v_5)
  refine ok_calp (s_X12_bytesOf (x1 := x5) ) (fun v_6 h_5 => ?_)
  obtain ⟨b_v_6, x_v_6⟩ := h_5
  (try dsimp only at b_v_6 x_v_6)
  have g_7 := gM_2 hB_s_1 0
  obtain ⟨t_8, ht_8, g_8⟩ : ∃ t : Int, ((s_1.1 2 0) + v_2).toInt = t ∧ t = (s_1.1 2 0).toInt + v_2.toInt := ⟨_, rfl, by have h9 := fb_addI (x := (s_1.1 2 0)) (y := v_2) (by omega) (by omega); exact h9⟩
  obtain ⟨t_9, ht_9, g_9⟩ : ∃ t : Int, (((s_1.1 2 0) + v_2) + v_3).toInt = t ∧ t = t_8 + v_3.toInt := ⟨_, rfl, by have h9 := fb_addI (x := ((s_1.1 2 0) + v_2)) (y := v_3) (by rw [ht_8]; omega) (by rw [ht_8]; omega); rw [ht_8] at h9; exact h9⟩
  obtain ⟨t_10, ht_10, g_10⟩ : ∃ t : Int, ((((s_1.1 2 0) + v_2) + v_3) + v_4).toInt = t ∧ t = t_9 + v_4.toInt := ⟨_, rfl, by have h9 := fb_addI (x := (((s_1.1 2 0) + v_2) + v_3)) (y := v_4) (by rw [ht_9]; omega) (by rw [ht_9]; omega); rw [ht_9] at h9; exact h9⟩
  obtain ⟨t_11, ht_11, g_11⟩ : ∃ t : Int, (((((s_1.1 2 0) + v_2) + v_3) + v_4) + v_5).toInt = t ∧ t = t_10 + v_5.toInt := ⟨_, rfl, by have h9 := fb_addI (x := ((((s_1.1 2 0) + v_2) + v_3) + v_4)) (y := v_5) (by rw [ht_10]; omega) (by rw [ht_10]; omega); rw [ht_10] at h9; exact h9⟩
  obtain ⟨t_12, ht_12, g_12⟩ : ∃ t : Int, ((((((s_1.1 2 0) + v_2) + v_3) + v_4) + v_5) + v_6).toInt = t ∧ t = t_11 + v_6.toInt := ⟨_, rfl, by have h9 := fb_addI (x := (((((s_1.1 2 0) + v_2) + v_3) + v_4) + v_5)) (y := v_6) (by rw [ht_11]; omega) (by rw [ht_11]; omega); rw [ht_11] at h9; exact h9⟩
  refine ok_ite (fun c_6 => ?_) (fun c_6 => ?_)
  · rw [fa_le, ht_12] at c_6
    refine ok_cals (s_X12_brings (x1 := x1) (σ := s_1) hB_s_1 (by omega)) (fun s_8 h_13 => ?_)
    obtain ⟨hB_s_8, hG_s_8, x_s_8⟩ := h_13
    (try dsimp only at hB_s_8 hG_s_8 x_s_8)
    have hF_s_8 : FR [0, 1, 2] [] σ s_8 := FR.cal hF_s_1 hG_s_8 rfl rfl
    refine ok_cals (s_X12_brings (x1 := x2) (σ := s_8) hB_s_8 (by omega)) (fun s_9 h_14 => ?_)
    obtain ⟨hB_s_9, hG_s_9, x_s_9⟩ := h_14
    (try dsimp only at hB_s_9 hG_s_9 x_s_9)
    have hF_s_9 : FR [0, 1, 2] [] σ s_9 := FR.cal hF_s_8 hG_s_9 rfl rfl
    refine ok_cals (s_X12_brings (x1 := x3) (σ := s_9) hB_s_9 (by omega)) (fun s_10 h_15 => ?_)
    obtain ⟨hB_s_10, hG_s_10, x_s_10⟩ := h_15
    (try dsimp only at hB_s_10 hG_s_10 x_s_10)
    have hF_s_10 : FR [0, 1, 2] [] σ s_10 := FR.cal hF_s_9 hG_s_10 rfl rfl
    refine ok_cals (s_X12_brings (x1 := x4) (σ := s_10) hB_s_10 (by omega)) (fun s_11 h_16 => ?_)
    obtain ⟨hB_s_11, hG_s_11, x_s_11⟩ := h_16
    (try dsimp only at hB_s_11 hG_s_11 x_s_11)
    have hF_s_11 : FR [0, 1, 2] [] σ s_11 := FR.cal hF_s_10 hG_s_11 rfl rfl
    refine ok_cals (s_X12_brings (x1 := x5) (σ := s_11) hB_s_11 (by omega)) (fun s_12 h_17 => ?_)
    obtain ⟨hB_s_12, hG_s_12, x_s_12⟩ := h_17
    (try dsimp only at hB_s_12 hG_s_12 x_s_12)
    have hF_s_12 : FR [0, 1, 2] [] σ s_12 := FR.cal hF_s_11 hG_s_12 rfl rfl
    have g_18 := gM_2 hB_s_12 0
    exact ok_ret ⟨(by (try dsimp only); omega), hB_s_12, hF_s_12⟩
  · rw [fa_le, ht_12] at c_6
    exact ok_ret ⟨(by (try dsimp only); omega), hB_s_1, hF_s_1⟩

set_option maxHeartbeats 4000000 in
theorem s_X12_end {x1 : Int32} {σ : Sto} (hB : BM σ) : OK (f_X12_end x1 σ) (fun r => (0 ≤ r.1.toInt ∧ r.1.toInt ≤ 1) ∧ BM r.2 ∧ FR [0, 2] [] σ r.2) := by
  unfold f_X12_end
  have hF : FR [0, 2] [] σ σ := FR.rf
  have k_0 : (0 : Int32).toInt = 0 := by decide +kernel
  have k_1 : (1 : Int32).toInt = 1 := by decide +kernel
  refine ok_lt fun s_1 e_s_1 => ?_
  have hB_s_1 : BM s_1 := by rw [e_s_1]; exact pM_0 hB (by omega)
  have hF_s_1 : FR [0, 2] [] σ s_1 := by rw [e_s_1]; exact FR.st hF (by decide)
  have w_s_1_2 : (s_1.1 2 0).toInt = (σ.1 2 0).toInt := by rw [e_s_1]; rfl
  refine ok_ite (fun c_1 => ?_) (fun c_1 => ?_)
  · rw [fa_lt] at c_1
    exact ok_ret ⟨(by (try dsimp only); omega), hB_s_1, hF_s_1⟩
  · rw [fa_lt] at c_1
    have g_3 := gM_2 hB_s_1 0
    refine ok_ite (fun c_2 => ?_) (fun c_2 => ?_)
    · rw [fa_le] at c_2
      refine ok_lt fun s_4 e_s_4 => ?_
      have hB_s_4 : BM s_4 := by rw [e_s_4]; exact pM_2 hB_s_1 (by omega)
      have hF_s_4 : FR [0, 2] [] σ s_4 := by rw [e_s_4]; exact FR.st hF_s_1 (by decide)
      have w_s_4_2 : (s_4.1 2 0).toInt = x1.toInt := by rw [e_s_4, sti_s]
      exact ok_ret ⟨(by (try dsimp only); omega), hB_s_4, hF_s_4⟩
    · rw [fa_le] at c_2
      exact ok_ret ⟨(by (try dsimp only); omega), hB_s_1, hF_s_1⟩

set_option maxHeartbeats 4000000 in
theorem s_X12_here {σ : Sto} (hB : BM σ) : OK (f_X12_here σ) (fun v => ((-1) ≤ v.toInt ∧ v.toInt ≤ 255) ∧ (((σ.1 2 0).toInt ≤ (σ.1 3 0).toInt → v.toInt = -1) ∧ ((σ.1 3 0).toInt < (σ.1 2 0).toInt → v.toInt = cb (σ.1 1) (σ.1 3 0).toInt.toNat ∧ 0 ≤ v.toInt))) := by
  unfold f_X12_here
  have hF : FR [] [] σ σ := FR.rf
  have k_m1 : ((-1) : Int32).toInt = -1 := by decide +kernel
  have g2 := gM_2 hB 0
  have g3 := gM_3 hB 0
  have g_2 := gM_2 hB 0
  have g_3 := gM_3 hB 0
  refine ok_ite (fun c_1 => ?_) (fun c_1 => ?_)
  · rw [fa_le] at c_1
    exact ok_ret ⟨(by (try dsimp only); omega), (by (try dsimp only); first | exact ⟨fun _ => k_m1, fun h => absurd h (by omega)⟩ | exact ⟨fun h => absurd h (by omega), fun _ => ⟨by rw [e_v_2]; rfl, by omega⟩⟩)⟩
  · rw [fa_le] at c_1
    refine ok_ix ⟨by omega, by omega⟩ ?_
    have g_4 := gM_1 hB ((σ.1 3 0).toNatClampNeg)
    refine ok_lt fun v_2 e_v_2 => ?_
    have b_v_2 : (-128) ≤ v_2.toInt ∧ v_2.toInt ≤ 127 := by rw [e_v_2]; exact gM_1 hB _
    obtain ⟨t_5, ht_5, g_5⟩ : ∃ t : Int, (v_2 &&& 255).toInt = t ∧ 0 ≤ t ∧ t ≤ 255 := ⟨_, rfl, and_rng (x := v_2) 255 rfl (by decide)⟩
    exact ok_ret ⟨(by (try dsimp only); rw [ht_5]; omega), (by (try dsimp only); first | exact ⟨fun _ => k_m1, fun h => absurd h (by omega)⟩ | exact ⟨fun h => absurd h (by omega), fun _ => ⟨by rw [e_v_2]; rfl, by omega⟩⟩)⟩

set_option maxHeartbeats 4000000 in
theorem s_X12_look {σ : Sto} (hB : BM σ) (hle : (σ.1 3 0).toInt ≤ (σ.1 2 0).toInt) : OK (f_X12_look σ) (fun r => ((-1) ≤ r.1.toInt ∧ r.1.toInt ≤ 255) ∧ BM r.2 ∧ FR [3] [] σ r.2 ∧ ((r.2.1 3 0).toInt.toNat = skP (σ.1 2 0).toInt.toNat (cb (σ.1 1)) (σ.1 3 0).toInt.toNat ∧ (σ.1 3 0).toInt ≤ (r.2.1 3 0).toInt ∧ (r.2.1 3 0).toInt ≤ (σ.1 2 0).toInt ∧ ((r.2.1 3 0).toInt < (σ.1 2 0).toInt → r.1.toInt = cb (σ.1 1) (r.2.1 3 0).toInt.toNat ∧ 0 ≤ r.1.toInt) ∧ ((σ.1 2 0).toInt ≤ (r.2.1 3 0).toInt → r.1.toInt = -1))) := by
  unfold f_X12_look
  have hF : FR [3] [] σ σ := FR.rf
  have k_1 : (1 : Int32).toInt = 1 := by decide +kernel
  have k_32 : (32 : Int32).toInt = 32 := by decide +kernel
  have g2 := gM_2 hB 0
  have g3 := gM_3 hB 0
  refine ok_itr1 (fun (n : Nat) (s_1 : Sto) => n = (241 - (s_1.1 3 0).toInt).toNat ∧ (BM s_1) ∧ (FR [3] [] σ s_1) ∧ ((σ.1 3 0).toInt ≤ (s_1.1 3 0).toInt) ∧ ((s_1.1 3 0).toInt ≤ (σ.1 2 0).toInt) ∧ (∀ i : Nat, (σ.1 3 0).toInt.toNat ≤ i → i < (s_1.1 3 0).toInt.toNat → cb (σ.1 1) i = 32)) ?_ (n := _) ⟨rfl, hB, hF, (by omega), (by omega), (fun i h1 h2 => by exfalso; omega)⟩ (show _ < 10000000 by omega)
  intro a_0 n s_1 hI ih_a_0
  obtain ⟨hn_a_0, hB_s_1, hF_s_1, ha, hb, hbl⟩ := hI
  have f_s_1_2 : (s_1.1 2 0).toInt = (σ.1 2 0).toInt := by rw [hF_s_1.1 2 (by decide)]
  refine ok_calp (s_X12_here  (σ := s_1) hB_s_1) (fun v_2 h_1 => ?_)
  obtain ⟨b_v_2, x_v_2⟩ := h_1
  (try dsimp only at b_v_2 x_v_2)
  rw [hF_s_1.1 1 (by decide)] at x_v_2
  have g3b := gM_3 hB_s_1 0
  refine ok_ite (fun c_2 => ?_) (fun c_2 => ?_)
  · rw [fa_eq] at c_2
    have g_3 := gM_3 hB_s_1 0
    obtain ⟨t_4, ht_4, g_4⟩ : ∃ t : Int, ((s_1.1 3 0) + 1).toInt = t ∧ t = (s_1.1 3 0).toInt + (1 : Int32).toInt := ⟨_, rfl, by have h9 := fb_addI (x := (s_1.1 3 0)) (y := (1 : Int32)) (by omega) (by omega); exact h9⟩
    refine ok_lt fun s_4 e_s_4 => ?_
    have hB_s_4 : BM s_4 := by rw [e_s_4]; exact pM_3 hB_s_1 (by rw [ht_4]; omega)
    have hF_s_4 : FR [3] [] σ s_4 := by rw [e_s_4]; exact FR.st hF_s_1 (by decide)
    have w_s_4_3 : (s_4.1 3 0).toInt = t_4 := by rw [e_s_4, sti_s, ht_4]
    have f_s_4_2 : (s_4.1 2 0).toInt = (σ.1 2 0).toInt := by rw [hF_s_4.1 2 (by decide)]
    exact ih_a_0 _ s_4 (by rw [hn_a_0]; omega) ⟨rfl, hB_s_4, hF_s_4, (by omega), (by omega), (fun i h1 h2 => by by_cases q : i = (s_1.1 3 0).toInt.toNat; (rw [q]; omega); exact hbl i h1 (by omega))⟩
  · rw [fa_eq] at c_2
    refine ok_calp (s_X12_here  (σ := s_1) hB_s_1) (fun v_5 h_5 => ?_)
    obtain ⟨b_v_5, x_v_5⟩ := h_5
    (try dsimp only at b_v_5 x_v_5)
    rw [hF_s_1.1 1 (by decide)] at x_v_5
    exact ok_ret ⟨(by (try dsimp only); omega), hB_s_1, hF_s_1, ⟨(skP_eq (by omega) (by omega) hbl (fun h => by omega)).symm, by omega, by omega, fun h => x_v_5.2 (by (try dsimp only at h); omega), fun h => x_v_5.1 (by (try dsimp only at h); omega)⟩⟩

set_option maxHeartbeats 4000000 in
theorem s_X12_isDigit {σ : Sto} (hB : BM σ) : OK (f_X12_isDigit σ) (fun v => (0 ≤ v.toInt ∧ v.toInt ≤ 1) ∧ ((v.toInt = 1 ↔ isD (σ.1 2 0).toInt.toNat (cb (σ.1 1)) (σ.1 3 0).toInt.toNat))) := by
  unfold f_X12_isDigit
  have hF : FR [] [] σ σ := FR.rf
  have k_0 : (0 : Int32).toInt = 0 := by decide +kernel
  have k_1 : (1 : Int32).toInt = 1 := by decide +kernel
  have k_48 : (48 : Int32).toInt = 48 := by decide +kernel
  have k_57 : (57 : Int32).toInt = 57 := by decide +kernel
  have g2 := gM_2 hB 0
  have g3 := gM_3 hB 0
  refine ok_calp (s_X12_here  (σ := σ) hB) (fun v_1 h_1 => ?_)
  obtain ⟨b_v_1, x_v_1⟩ := h_1
  (try dsimp only at b_v_1 x_v_1)
  refine ok_jn ?_
  refine ok_ite (fun c_2 => ?_) (fun c_2 => ?_)
  · rw [fa_lt] at c_2
    exact ok_ret ⟨(by (try dsimp only); omega), (by (try dsimp only); exact ⟨fun h => by omega, fun h => by omega⟩)⟩
  · rw [fa_lt] at c_2
    refine ok_calp (s_X12_here  (σ := σ) hB) (fun v_4 h_3 => ?_)
    obtain ⟨b_v_4, x_v_4⟩ := h_3
    (try dsimp only at b_v_4 x_v_4)
    refine ok_ite (fun c_4 => ?_) (fun c_4 => ?_)
    · rw [fa_lt] at c_4
      exact ok_ret ⟨(by (try dsimp only); omega), (by (try dsimp only); exact ⟨fun h => by omega, fun h => by omega⟩)⟩
    · rw [fa_lt] at c_4
      exact ok_ret ⟨(by (try dsimp only); omega), (by (try dsimp only); exact ⟨fun h => by omega, fun h => by omega⟩)⟩

set_option maxHeartbeats 4000000 in
theorem s_X12_number {x1 : Int32} {σ : Sto} (hB : BM σ) (p_x1 : 0 ≤ x1.toInt ∧ x1.toInt ≤ 999) (hle : (σ.1 3 0).toInt ≤ (σ.1 2 0).toInt) : OK (f_X12_number x1 σ) (fun r => ((-1) ≤ r.1.toInt ∧ r.1.toInt ≤ 999) ∧ BM r.2 ∧ FR [3] [] σ r.2 ∧ (r.1.toInt ≤ x1.toInt ∧ (r.1.toInt, (r.2.1 3 0).toInt.toNat) = nuQ (σ.1 2 0).toInt.toNat (cb (σ.1 1)) x1.toInt (-1) (skP (σ.1 2 0).toInt.toNat (cb (σ.1 1)) (σ.1 3 0).toInt.toNat) ∧ (r.2.1 3 0).toInt ≤ (σ.1 2 0).toInt)) := by
  unfold f_X12_number
  have hF : FR [3] [] σ σ := FR.rf
  have k_m1 : ((-1) : Int32).toInt = -1 := by decide +kernel
  have k_0 : (0 : Int32).toInt = 0 := by decide +kernel
  have k_1 : (1 : Int32).toInt = 1 := by decide +kernel
  have k_10 : (10 : Int32).toInt = 10 := by decide +kernel
  have k_48 : (48 : Int32).toInt = 48 := by decide +kernel
  have g2 := gM_2 hB 0
  have g3 := gM_3 hB 0
  refine ok_calv (s_X12_look  (σ := σ) hB (by omega)) (fun v_1 s_1 h_1 => ?_)
  obtain ⟨b_v_1, hB_s_1, hG_s_1, x_s_1⟩ := h_1
  (try dsimp only at b_v_1 hB_s_1 hG_s_1 x_s_1)
  have hF_s_1 : FR [3] [] σ s_1 := FR.cal hF hG_s_1 rfl rfl
  have f_s_1_2 : (s_1.1 2 0).toInt = (σ.1 2 0).toInt := by rw [hF_s_1.1 2 (by decide)]
  have g3b := gM_3 hB_s_1 0
  have xs1 := x_s_1.1
  have ys1 := x_s_1.2.2.1
  clear x_s_1
  refine ok_calp (s_X12_isDigit  (σ := s_1) hB_s_1) (fun v_2 h_2 => ?_)
  obtain ⟨b_v_2, x_v_2⟩ := h_2
  (try dsimp only at b_v_2 x_v_2)
  rw [hF_s_1.1 1 (by decide)] at x_v_2
  rw [hF_s_1.1 2 (by decide)] at x_v_2
  refine ok_ite (fun c_3 => ?_) (fun c_3 => ?_)
  · rw [fa_eq] at c_3
    exact ok_ret ⟨(by (try dsimp only); omega), hB_s_1, hF_s_1, ⟨by (try dsimp only); omega, by (try dsimp only); rw [k_m1]; refine nu_end (f := (σ.1 2 0).toInt.toNat - (s_1.1 3 0).toInt.toNat) (by rw [xs1]; rfl) (fun z => by have := x_v_2.mpr z; omega), by (try dsimp only); omega⟩⟩
  · rw [fa_eq] at c_3
    refine ok_itr2 (fun (n : Nat) (x3_4 : Int32) (s_4 : Sto) => n = (241 - (s_4.1 3 0).toInt).toNat ∧ (0 ≤ x3_4.toInt ∧ x3_4.toInt ≤ 999) ∧ (BM s_4) ∧ (FR [3] [] σ s_4) ∧ (x3_4.toInt ≤ x1.toInt) ∧ ((s_4.1 3 0).toInt ≤ (σ.1 2 0).toInt) ∧ (nuP (σ.1 2 0).toInt.toNat (cb (σ.1 1)) x1.toInt ((σ.1 2 0).toInt.toNat - (s_4.1 3 0).toInt.toNat) x3_4.toInt (s_4.1 3 0).toInt.toNat = nuQ (σ.1 2 0).toInt.toNat (cb (σ.1 1)) x1.toInt (-1) (skP (σ.1 2 0).toInt.toNat (cb (σ.1 1)) (σ.1 3 0).toInt.toNat))) ?_ (n := _) ⟨rfl, (by omega), hB_s_1, hF_s_1, (by omega), (by omega), (by have i2 : isD (σ.1 2 0).toInt.toNat (cb (σ.1 1)) (s_1.1 3 0).toInt.toNat := x_v_2.mp (by omega); rw [k_0, ← nu_0 i2 (by have := i2.1; omega), xs1]; rfl)⟩ (show _ < 10000000 by omega)
    intro a_16 n x3_4 s_4 hI ih_a_16
    obtain ⟨hn_a_16, b_x3_4, hB_s_4, hF_s_4, hm, hal, jT⟩ := hI
    have f_s_4_2 : (s_4.1 2 0).toInt = (σ.1 2 0).toInt := by rw [hF_s_4.1 2 (by decide)]
    refine ok_calp (s_X12_isDigit  (σ := s_4) hB_s_4) (fun v_5 h_4 => ?_)
    obtain ⟨b_v_5, x_v_5⟩ := h_4
    (try dsimp only at b_v_5 x_v_5)
    rw [hF_s_4.1 1 (by decide)] at x_v_5
    rw [hF_s_4.1 2 (by decide)] at x_v_5
    refine ok_ite (fun c_5 => ?_) (fun c_5 => ?_)
    · rw [fa_eq] at c_5
      exact ok_ret ⟨(by (try dsimp only); omega), hB_s_4, hF_s_4, ⟨by (try dsimp only); omega, by (try dsimp only); first | exact nu_end jT (fun z => by have := x_v_5.mpr z; omega) | (rw [k_m1]; exact nu_bad (w := dg x3_4.toInt (cb (σ.1 1) (s_4.1 3 0).toInt.toNat)) jT (by have := i7.1; omega) i7 rfl (by unfold dg; rw [if_pos (by omega)]; omega)), by (try dsimp only); omega⟩⟩
    · rw [fa_eq] at c_5
      refine ok_calp (s_X12_here  (σ := s_4) hB_s_4) (fun v_7 h_6 => ?_)
      obtain ⟨b_v_7, x_v_7⟩ := h_6
      (try dsimp only at b_v_7 x_v_7)
      rw [hF_s_4.1 1 (by decide)] at x_v_7
      have i7 : isD (σ.1 2 0).toInt.toNat (cb (σ.1 1)) (s_4.1 3 0).toInt.toNat := x_v_5.mp (by omega)
      have l7 : (s_4.1 3 0).toInt < (s_4.1 2 0).toInt := by have := i7.1; have := gM_3 hB_s_4 0; omega
      have y7 := (x_v_7.2 l7).1
      clear x_v_7
      obtain ⟨t_8, ht_8, g_8⟩ : ∃ t : Int, ((10 : Int32) * x3_4).toInt = t ∧ t = 10 * x3_4.toInt := ⟨_, rfl, by have h9 := fb_mulI (x := (10 : Int32)) (y := x3_4) (by rw [k_10]; omega) (by rw [k_10]; omega); rw [k_10] at h9; exact h9⟩
      obtain ⟨t_9, ht_9, g_9⟩ : ∃ t : Int, (((10 : Int32) * x3_4) + v_7).toInt = t ∧ t = t_8 + v_7.toInt := ⟨_, rfl, by have h9 := fb_addI (x := ((10 : Int32) * x3_4)) (y := v_7) (by rw [ht_8]; omega) (by rw [ht_8]; omega); rw [ht_8] at h9; exact h9⟩
      obtain ⟨t_10, ht_10, g_10⟩ : ∃ t : Int, ((((10 : Int32) * x3_4) + v_7) - 48).toInt = t ∧ t = t_9 - (48 : Int32).toInt := ⟨_, rfl, by have h9 := fb_subI (x := (((10 : Int32) * x3_4) + v_7)) (y := (48 : Int32)) (by rw [ht_9]; omega) (by rw [ht_9]; omega); rw [ht_9] at h9; exact h9⟩
      refine ok_ite (fun c_7 => ?_) (fun c_7 => ?_)
      · rw [fa_le, ht_10] at c_7
        refine ok_calp (s_X12_here  (σ := s_4) hB_s_4) (fun v_9 h_11 => ?_)
        obtain ⟨b_v_9, x_v_9⟩ := h_11
        (try dsimp only at b_v_9 x_v_9)
        rw [hF_s_4.1 1 (by decide)] at x_v_9
        have y9 := (x_v_9.2 l7).1
        clear x_v_9
        obtain ⟨t_12, ht_12, g_12⟩ : ∃ t : Int, (((10 : Int32) * x3_4) + v_9).toInt = t ∧ t = t_8 + v_9.toInt := ⟨_, rfl, by have h9 := fb_addI (x := ((10 : Int32) * x3_4)) (y := v_9) (by rw [ht_8]; omega) (by rw [ht_8]; omega); rw [ht_8] at h9; exact h9⟩
        obtain ⟨t_13, ht_13, g_13⟩ : ∃ t : Int, ((((10 : Int32) * x3_4) + v_9) - 48).toInt = t ∧ t = t_12 - (48 : Int32).toInt := ⟨_, rfl, by have h9 := fb_subI (x := (((10 : Int32) * x3_4) + v_9)) (y := (48 : Int32)) (by rw [ht_12]; omega) (by rw [ht_12]; omega); rw [ht_12] at h9; exact h9⟩
        refine ok_lt fun x3_10 e_x3_10 => ?_
        have q_x3_10 : x3_10.toInt = t_13 := by rw [e_x3_10]; exact ht_13
        have hdg : x3_10.toInt = dg x3_4.toInt (cb (σ.1 1) (s_4.1 3 0).toInt.toNat) := by unfold dg; rw [if_pos (by omega)]; omega
        have g_14 := gM_3 hB_s_4 0
        obtain ⟨t_15, ht_15, g_15⟩ : ∃ t : Int, ((s_4.1 3 0) + 1).toInt = t ∧ t = (s_4.1 3 0).toInt + (1 : Int32).toInt := ⟨_, rfl, by have h9 := fb_addI (x := (s_4.1 3 0)) (y := (1 : Int32)) (by omega) (by omega); exact h9⟩
        refine ok_lt fun s_11 e_s_11 => ?_
        have hB_s_11 : BM s_11 := by rw [e_s_11]; exact pM_3 hB_s_4 (by rw [ht_15]; omega)
        have hF_s_11 : FR [3] [] σ s_11 := by rw [e_s_11]; exact FR.st hF_s_4 (by decide)
        have w_s_11_3 : (s_11.1 3 0).toInt = t_15 := by rw [e_s_11, sti_s, ht_15]
        have f_s_11_2 : (s_11.1 2 0).toInt = (σ.1 2 0).toInt := by rw [hF_s_11.1 2 (by decide)]
        have g3c := gM_3 hB_s_4 0
        exact ih_a_16 _ x3_10 s_11 (by rw [hn_a_16]; omega) ⟨rfl, (by omega), hB_s_11, hF_s_11, (by omega), (by omega), (by have q := nu_on (g := (σ.1 2 0).toInt.toNat - (s_11.1 3 0).toInt.toNat) jT (by omega) i7 hdg (by omega); rw [show (s_4.1 3 0).toInt.toNat + 1 = (s_11.1 3 0).toInt.toNat by omega] at q; exact q)⟩
      · rw [fa_le, ht_10] at c_7
        exact ok_ret ⟨(by (try dsimp only); omega), hB_s_4, hF_s_4, ⟨by (try dsimp only); omega, by (try dsimp only); first | exact nu_end jT (fun z => by have := x_v_5.mpr z; omega) | (rw [k_m1]; exact nu_bad (w := dg x3_4.toInt (cb (σ.1 1) (s_4.1 3 0).toInt.toNat)) jT (by have := i7.1; omega) i7 rfl (by unfold dg; rw [if_pos (by omega)]; omega)), by (try dsimp only); omega⟩⟩

set_option maxHeartbeats 4000000 in
theorem s_X12_reads {x1 : Int32} {σ : Sto} (hB : BM σ) (p_x1 : 44 ≤ x1.toInt ∧ x1.toInt ≤ 44) (hle : (σ.1 3 0).toInt ≤ (σ.1 2 0).toInt) : OK (f_X12_reads x1 σ) (fun r => (0 ≤ r.1.toInt ∧ r.1.toInt ≤ 1) ∧ BM r.2 ∧ FR [3] [] σ r.2 ∧ ((r.1.toInt = 0 → (r.2.1 3 0).toInt.toNat = skP (σ.1 2 0).toInt.toNat (cb (σ.1 1)) (σ.1 3 0).toInt.toNat ∧ ¬ isC (σ.1 2 0).toInt.toNat (cb (σ.1 1)) (skP (σ.1 2 0).toInt.toNat (cb (σ.1 1)) (σ.1 3 0).toInt.toNat)) ∧ (r.1.toInt = 1 → (r.2.1 3 0).toInt.toNat = skP (σ.1 2 0).toInt.toNat (cb (σ.1 1)) (σ.1 3 0).toInt.toNat + 1 ∧ isC (σ.1 2 0).toInt.toNat (cb (σ.1 1)) (skP (σ.1 2 0).toInt.toNat (cb (σ.1 1)) (σ.1 3 0).toInt.toNat)) ∧ (r.2.1 3 0).toInt ≤ (σ.1 2 0).toInt)) := by
  unfold f_X12_reads
  have hF : FR [3] [] σ σ := FR.rf
  have k_0 : (0 : Int32).toInt = 0 := by decide +kernel
  have k_1 : (1 : Int32).toInt = 1 := by decide +kernel
  have g2 := gM_2 hB 0
  have g3 := gM_3 hB 0
  refine ok_calv (s_X12_look  (σ := σ) hB (by omega)) (fun v_1 s_1 h_1 => ?_)
  obtain ⟨b_v_1, hB_s_1, hG_s_1, x_s_1⟩ := h_1
  (try dsimp only at b_v_1 hB_s_1 hG_s_1 x_s_1)
  have hF_s_1 : FR [3] [] σ s_1 := FR.cal hF hG_s_1 rfl rfl
  have f_s_1_2 : (s_1.1 2 0).toInt = (σ.1 2 0).toInt := by rw [hF_s_1.1 2 (by decide)]
  have g3b := gM_3 hB_s_1 0
  obtain ⟨a1, a2, a3, a4, a5⟩ := x_s_1
  refine ok_ite (fun c_2 => ?_) (fun c_2 => ?_)
  · rw [fa_eq] at c_2
    have g_3 := gM_3 hB_s_1 0
    obtain ⟨t_4, ht_4, g_4⟩ : ∃ t : Int, ((s_1.1 3 0) + 1).toInt = t ∧ t = (s_1.1 3 0).toInt + (1 : Int32).toInt := ⟨_, rfl, by have h9 := fb_addI (x := (s_1.1 3 0)) (y := (1 : Int32)) (by omega) (by omega); exact h9⟩
    refine ok_lt fun s_3 e_s_3 => ?_
    have hB_s_3 : BM s_3 := by rw [e_s_3]; exact pM_3 hB_s_1 (by rw [ht_4]; omega)
    have hF_s_3 : FR [3] [] σ s_3 := by rw [e_s_3]; exact FR.st hF_s_1 (by decide)
    have w_s_3_3 : (s_3.1 3 0).toInt = t_4 := by rw [e_s_3, sti_s, ht_4]
    have f_s_3_2 : (s_3.1 2 0).toInt = (σ.1 2 0).toInt := by rw [hF_s_3.1 2 (by decide)]
    exact ok_ret ⟨(by (try dsimp only); omega), hB_s_3, hF_s_3, (by (try dsimp only); rw [← a1]; exact ⟨fun h => ⟨by omega, fun z => by have := z.1; have := z.2; have := (a4 (by omega)).1; omega⟩, fun h => ⟨by omega, ⟨by omega, by have := (a4 (by omega)).1; omega⟩⟩, by omega⟩)⟩
  · rw [fa_eq] at c_2
    exact ok_ret ⟨(by (try dsimp only); omega), hB_s_1, hF_s_1, (by (try dsimp only); rw [← a1]; exact ⟨fun h => ⟨by omega, fun z => by have := z.1; have := z.2; have := (a4 (by omega)).1; omega⟩, fun h => ⟨by omega, ⟨by omega, by have := (a4 (by omega)).1; omega⟩⟩, by omega⟩)⟩

set_option maxHeartbeats 4000000 in
theorem s_X12_handler {σ : Sto} (hB : BM σ) (ha : (σ.1 3 0).toInt < (σ.1 2 0).toInt) : OK (f_X12_handler σ) (fun r => (0 ≤ r.1.toInt ∧ r.1.toInt ≤ 1) ∧ BM r.2 ∧ FR [3, 6, 8] [] σ r.2 ∧ (((σ.1 8 0).toInt = 3 → r.1.toInt = 0 ∧ (r.2.1 3 0).toInt = (σ.1 3 0).toInt) ∧ ((σ.1 8 0).toInt ≠ 3 → ∃ (b : Nat) (x y w : Int), (r.1.toInt, b, x, y, w) = haP (σ.1 2 0).toInt.toNat (cb (σ.1 1)) (σ.1 3 0).toInt.toNat ∧ (r.2.1 3 0).toInt.toNat = b ∧ (r.1.toInt = 1 → (r.2.1 8 0).toInt = (σ.1 8 0).toInt + 1 ∧ mk0 ((σ.1 8 0).toInt.toNat + 1) (h3 (r.2.1 6) 0) = upI (mk0 (σ.1 8 0).toInt.toNat (h3 (σ.1 6) 0)) (σ.1 8 0).toInt.toNat x ∧ mk0 ((σ.1 8 0).toInt.toNat + 1) (h3 (r.2.1 6) 1) = upI (mk0 (σ.1 8 0).toInt.toNat (h3 (σ.1 6) 1)) (σ.1 8 0).toInt.toNat y ∧ mk0 ((σ.1 8 0).toInt.toNat + 1) (h3 (r.2.1 6) 2) = upI (mk0 (σ.1 8 0).toInt.toNat (h3 (σ.1 6) 2)) (σ.1 8 0).toInt.toNat w)) ∧ (r.2.1 3 0).toInt ≤ (σ.1 2 0).toInt)) := by
  unfold f_X12_handler
  have hF : FR [3, 6, 8] [] σ σ := FR.rf
  have k_m1 : ((-1) : Int32).toInt = -1 := by decide +kernel
  have k_0 : (0 : Int32).toInt = 0 := by decide +kernel
  have k_1 : (1 : Int32).toInt = 1 := by decide +kernel
  have k_3 : (3 : Int32).toInt = 3 := by decide +kernel
  have k_40 : (40 : Int32).toInt = 40 := by decide +kernel
  have k_44 : (44 : Int32).toInt = 44 := by decide +kernel
  have g2 := gM_2 hB 0
  have g3 := gM_3 hB 0
  have g8 := gM_8 hB 0
  have hR6_0 : ∀ i : Nat, i < 3 * (σ.1 8 0).toInt.toNat → σ.1 6 i = σ.1 6 i := fun _ _ => rfl
  have g_2 := gM_8 hB 0
  refine ok_ite (fun c_1 => ?_) (fun c_1 => ?_)
  · rw [fa_eq] at c_1
    exact ok_ret ⟨(by (try dsimp only); omega), hB, hF, (by (try dsimp only); exact ⟨fun _ => ⟨k_0, rfl⟩, fun h => absurd (by omega) h, by omega⟩)⟩
  · rw [fa_eq] at c_1
    have g_3 := gM_3 hB 0
    obtain ⟨t_4, ht_4, g_4⟩ : ∃ t : Int, ((σ.1 3 0) + 1).toInt = t ∧ t = (σ.1 3 0).toInt + (1 : Int32).toInt := ⟨_, rfl, by have h9 := fb_addI (x := (σ.1 3 0)) (y := (1 : Int32)) (by omega) (by omega); exact h9⟩
    refine ok_lt fun s_2 e_s_2 => ?_
    have hB_s_2 : BM s_2 := by rw [e_s_2]; exact pM_3 hB (by rw [ht_4]; omega)
    have hF_s_2 : FR [3, 6, 8] [] σ s_2 := by rw [e_s_2]; exact FR.st hF (by decide)
    have w_s_2_3 : (s_2.1 3 0).toInt = t_4 := by rw [e_s_2, sti_s, ht_4]
    have w_s_2_8 : (s_2.1 8 0).toInt = (σ.1 8 0).toInt := by rw [e_s_2]; rfl
    have f_s_2_2 : (s_2.1 2 0).toInt = (σ.1 2 0).toInt := by rw [hF_s_2.1 2 (by decide)]
    have hR6_s_2 : ∀ i : Nat, i < 3 * (σ.1 8 0).toInt.toNat → s_2.1 6 i = σ.1 6 i := by rw [e_s_2]; exact hR6_0
    refine ok_itr2 (fun (n : Nat) (x1_3 : Int32) (s_3 : Sto) => n = (4 - x1_3.toInt).toNat ∧ (0 ≤ x1_3.toInt ∧ x1_3.toInt ≤ 3) ∧ (BM s_3) ∧ (FR [3, 6, 8] [] σ s_3) ∧ (∀ i : Nat, i < 3 * (σ.1 8 0).toInt.toNat → s_3.1 6 i = σ.1 6 i) ∧ ((s_3.1 8 0).toInt = (σ.1 8 0).toInt) ∧ ((s_3.1 3 0).toInt ≤ (σ.1 2 0).toInt) ∧ (HLq (σ.1 2 0).toInt.toNat (cb (σ.1 1)) (σ.1 3 0).toInt.toNat x1_3.toInt (s_3.1 3 0).toInt.toNat (s_3.1 6 (3 * (σ.1 8 0).toInt.toNat + 0)).toInt (s_3.1 6 (3 * (σ.1 8 0).toInt.toNat + 1)).toInt (s_3.1 6 (3 * (σ.1 8 0).toInt.toNat + 2)).toInt)) ?_ (n := _) ⟨rfl, (by omega), hB_s_2, hF_s_2, hR6_s_2, (by omega), (by omega), (Or.inl ⟨by omega, by omega⟩)⟩ (show _ < 10000000 by omega)
    intro a_22 n x1_3 s_3 hI ih_a_22
    obtain ⟨hn_a_22, b_x1_3, hB_s_3, hF_s_3, hR6_s_3, h8, hal, hHL⟩ := hI
    have f_s_3_2 : (s_3.1 2 0).toInt = (σ.1 2 0).toInt := by rw [hF_s_3.1 2 (by decide)]
    refine ok_ite (fun c_5 => ?_) (fun c_5 => ?_)
    · rw [fa_le] at c_5
      have g_6 := gM_8 hB_s_3 0
      obtain ⟨t_7, ht_7, g_7⟩ : ∃ t : Int, ((s_3.1 8 0) + 1).toInt = t ∧ t = (s_3.1 8 0).toInt + (1 : Int32).toInt := ⟨_, rfl, by have h9 := fb_addI (x := (s_3.1 8 0)) (y := (1 : Int32)) (by omega) (by omega); exact h9⟩
      refine ok_lt fun s_5 e_s_5 => ?_
      have hB_s_5 : BM s_5 := by rw [e_s_5]; exact pM_8 hB_s_3 (by rw [ht_7]; omega)
      have hF_s_5 : FR [3, 6, 8] [] σ s_5 := by rw [e_s_5]; exact FR.st hF_s_3 (by decide)
      have w_s_5_3 : (s_5.1 3 0).toInt = (s_3.1 3 0).toInt := by rw [e_s_5]; rfl
      have w_s_5_8 : (s_5.1 8 0).toInt = t_7 := by rw [e_s_5, sti_s, ht_7]
      have f_s_5_2 : (s_5.1 2 0).toInt = (σ.1 2 0).toInt := by rw [hF_s_5.1 2 (by decide)]
      have hR6_s_5 : ∀ i : Nat, i < 3 * (σ.1 8 0).toInt.toNat → s_5.1 6 i = σ.1 6 i := by rw [e_s_5]; exact hR6_s_3
      have t5 : (s_5.1 3 0).toInt.toNat = (s_3.1 3 0).toInt.toNat := by rw [e_s_5]; rfl
      have r5 : s_5.1 6 = s_3.1 6 := by rw [e_s_5]; rfl
      have hH5 : (1, (s_3.1 3 0).toInt.toNat, (s_3.1 6 (3 * (σ.1 8 0).toInt.toNat + 0)).toInt, (s_3.1 6 (3 * (σ.1 8 0).toInt.toNat + 1)).toInt, (s_3.1 6 (3 * (σ.1 8 0).toInt.toNat + 2)).toInt) = haP (σ.1 2 0).toInt.toNat (cb (σ.1 1)) (σ.1 3 0).toInt.toNat := by rcases hHL with ⟨q, -⟩ | ⟨q, -⟩ | ⟨q, -⟩ | ⟨-, q⟩; (omega); (omega); (omega); exact q
      exact ok_ret ⟨(by (try dsimp only); omega), hB_s_5, hF_s_5, (by (try dsimp only); rw [k_1]; exact ⟨fun h => absurd h (by omega), fun _ => ⟨_, _, _, _, hH5, t5, fun _ => ⟨by omega, by rw [r5]; exact mk0_h3 (by decide) hR6_s_3 rfl, by rw [r5]; exact mk0_h3 (by decide) hR6_s_3 rfl, by rw [r5]; exact mk0_h3 (by decide) hR6_s_3 rfl⟩⟩, by omega⟩)⟩
    · rw [fa_le] at c_5
      refine ok_jnI1 (fun (s_6 : Sto) => True ∧ (BM s_6) ∧ (FR [3, 6, 8] [] σ s_6) ∧ (∀ i : Nat, i < 3 * (σ.1 8 0).toInt.toNat → s_6.1 6 i = σ.1 6 i) ∧ ((s_6.1 8 0).toInt = (σ.1 8 0).toInt) ∧ ((s_6.1 3 0).toInt ≤ (σ.1 2 0).toInt) ∧ (s_6.1 6 = s_3.1 6) ∧ (HJq (σ.1 2 0).toInt.toNat (cb (σ.1 1)) (σ.1 3 0).toInt.toNat x1_3.toInt (s_3.1 3 0).toInt.toNat (s_6.1 3 0).toInt.toNat)) ?_ ?_
      · intro s_6 hJ
        obtain ⟨-, hB_s_6, hF_s_6, hR6_s_6, j8, jal, j6, jHJ⟩ := hJ
        have f_s_6_2 : (s_6.1 2 0).toInt = (σ.1 2 0).toInt := by rw [hF_s_6.1 2 (by decide)]
        refine ok_calv (s_X12_number (x1 := (40 : Int32)) (σ := s_6) hB_s_6 (by omega) (by omega)) (fun v_7 s_7 h_8 => ?_)
        obtain ⟨b_v_7, hB_s_7, hG_s_7, x_s_7⟩ := h_8
        (try dsimp only at b_v_7 hB_s_7 hG_s_7 x_s_7)
        have hF_s_7 : FR [3, 6, 8] [] σ s_7 := FR.cal hF_s_6 hG_s_7 rfl rfl
        have w_s_7_8 : (s_7.1 8 0).toInt = (s_6.1 8 0).toInt := by rw [hG_s_7.1 8 (by decide)]
        have f_s_7_2 : (s_7.1 2 0).toInt = (σ.1 2 0).toInt := by rw [hF_s_7.1 2 (by decide)]
        have hR6_s_7 : ∀ i : Nat, i < 3 * (σ.1 8 0).toInt.toNat → s_7.1 6 i = σ.1 6 i := by rw [hG_s_7.1 6 (by decide)]; exact hR6_s_6
        rw [hF_s_6.1 2 (by decide), hF_s_6.1 1 (by decide), show (40 : Int32).toInt = 40 from by decide +kernel] at x_s_7
        have l7 := x_s_7.2.2
        have n7 := x_s_7.2.1
        refine ok_ite (fun c_9 => ?_) (fun c_9 => ?_)
        · rw [fa_eq] at c_9
          exact ok_ret ⟨(by (try dsimp only); omega), hB_s_7, hF_s_7, (by (try dsimp only); rw [k_0]; refine ⟨fun h => absurd h (by omega), fun _ => ⟨_, _, _, _, hHL.bad jHJ (by omega) (by rw [show v_7.toInt = -1 by omega] at n7; exact n7), rfl, fun h => absurd h (by omega)⟩, by omega⟩)⟩
        · rw [fa_eq] at c_9
          have g_10 := gM_8 hB_s_7 0
          obtain ⟨t_11, ht_11, g_11⟩ : ∃ t : Int, ((3 : Int32) * (s_7.1 8 0)).toInt = t ∧ t = 3 * (s_7.1 8 0).toInt := ⟨_, rfl, by have h9 := fb_mulI (x := (3 : Int32)) (y := (s_7.1 8 0)) (by rw [k_3]; omega) (by rw [k_3]; omega); rw [k_3] at h9; exact h9⟩
          obtain ⟨t_12, ht_12, g_12⟩ : ∃ t : Int, (((3 : Int32) * (s_7.1 8 0)) + x1_3).toInt = t ∧ t = t_11 + x1_3.toInt := ⟨_, rfl, by have h9 := fb_addI (x := ((3 : Int32) * (s_7.1 8 0))) (y := x1_3) (by rw [ht_11]; omega) (by rw [ht_11]; omega); rw [ht_11] at h9; exact h9⟩
          refine ok_ix ⟨by rw [ht_12]; omega, by rw [ht_12]; omega⟩ ?_
          refine ok_lt fun s_9 e_s_9 => ?_
          have hB_s_9 : BM s_9 := by rw [e_s_9]; exact pM_6 hB_s_7 (by omega)
          have hF_s_9 : FR [3, 6, 8] [] σ s_9 := by rw [e_s_9]; exact FR.st hF_s_7 (by decide)
          have w_s_9_3 : (s_9.1 3 0).toInt = (s_7.1 3 0).toInt := by rw [e_s_9]; rfl
          have w_s_9_8 : (s_9.1 8 0).toInt = (s_7.1 8 0).toInt := by rw [e_s_9]; rfl
          have f_s_9_2 : (s_9.1 2 0).toInt = (σ.1 2 0).toInt := by rw [hF_s_9.1 2 (by decide)]
          have cn : ((3 : Int32) * (s_7.1 8 0) + x1_3).toNatClampNeg = 3 * (σ.1 8 0).toInt.toNat + x1_3.toInt.toNat := by have := clamp_I (x := ((3 : Int32) * (s_7.1 8 0) + x1_3)) (by omega); omega
          have hR6_s_9 : ∀ i : Nat, i < 3 * (σ.1 8 0).toInt.toNat → s_9.1 6 i = σ.1 6 i := fun i hi => by rw [e_s_9, cn, sti_j (by omega)]; exact hR6_s_7 i hi
          have u9 : ∀ j : Nat, (s_9.1 6 (3 * (σ.1 8 0).toInt.toNat + j)).toInt = if (j : Int) = x1_3.toInt then v_7.toInt else (s_7.1 6 (3 * (σ.1 8 0).toInt.toNat + j)).toInt := fun j => by rw [e_s_9, cn, sti_if]; by_cases q : (j : Int) = x1_3.toInt; (rw [if_pos q, if_pos (by omega)]); (rw [if_neg q, if_neg (by omega)])
          have t9 : (s_9.1 3 0).toInt.toNat = (s_7.1 3 0).toInt.toNat := by rw [e_s_9]; rfl
          have E9 : ∀ j : Nat, (s_7.1 6 (3 * (σ.1 8 0).toInt.toNat + j)) = (s_3.1 6 (3 * (σ.1 8 0).toInt.toNat + j)) := fun j => by rw [hG_s_7.1 6 (by decide), j6]
          have hL9 : HLq (σ.1 2 0).toInt.toNat (cb (σ.1 1)) (σ.1 3 0).toInt.toNat (x1_3.toInt + 1) (s_9.1 3 0).toInt.toNat (s_9.1 6 (3 * (σ.1 8 0).toInt.toNat + 0)).toInt (s_9.1 6 (3 * (σ.1 8 0).toInt.toNat + 1)).toInt (s_9.1 6 (3 * (σ.1 8 0).toInt.toNat + 2)).toInt := by rw [t9]; refine HLq.nx hHL jHJ (by omega) n7 (by omega) ?_ ?_ ?_ ?_ ?_; (intro q; rw [u9 0, if_pos (by omega)]); (intro q; rw [u9 0, if_neg (by omega), E9]); (intro q; rw [u9 1, if_pos (by omega)]); (intro q; rw [u9 1, if_neg (by omega), E9]); (intro q; rw [u9 2, if_pos (by omega)])
          obtain ⟨t_13, ht_13, g_13⟩ : ∃ t : Int, (x1_3 + 1).toInt = t ∧ t = x1_3.toInt + (1 : Int32).toInt := ⟨_, rfl, by have h9 := fb_addI (x := x1_3) (y := (1 : Int32)) (by omega) (by omega); exact h9⟩
          refine ok_lt fun x1_10 e_x1_10 => ?_
          have q_x1_10 : x1_10.toInt = t_13 := by rw [e_x1_10]; exact ht_13
          exact ih_a_22 _ x1_10 s_9 (by rw [hn_a_22]; omega) ⟨rfl, (by omega), hB_s_9, hF_s_9, hR6_s_9, (by omega), (by omega), (by rw [show x1_10.toInt = x1_3.toInt + 1 by omega]; exact hL9)⟩
      · intro k_42 hk_k_42
        refine ok_ite (fun c_14 => ?_) (fun c_14 => ?_)
        · rw [fa_le] at c_14
          exact hk_k_42 s_3 ⟨trivial, hB_s_3, hF_s_3, hR6_s_3, (by omega), (by omega), rfl, (by rcases hHL with ⟨q, q2⟩ | ⟨q, -⟩ | ⟨q, -⟩ | ⟨q, -⟩; exact Or.inl ⟨q, q2⟩; (omega); (omega); (omega))⟩
        · rw [fa_le] at c_14
          refine ok_calv (s_X12_reads (x1 := (44 : Int32)) (σ := s_3) hB_s_3 (by omega) (by omega)) (fun v_12 s_12 h_15 => ?_)
          obtain ⟨b_v_12, hB_s_12, hG_s_12, x_s_12⟩ := h_15
          (try dsimp only at b_v_12 hB_s_12 hG_s_12 x_s_12)
          have hF_s_12 : FR [3, 6, 8] [] σ s_12 := FR.cal hF_s_3 hG_s_12 rfl rfl
          have w_s_12_8 : (s_12.1 8 0).toInt = (s_3.1 8 0).toInt := by rw [hG_s_12.1 8 (by decide)]
          have f_s_12_2 : (s_12.1 2 0).toInt = (σ.1 2 0).toInt := by rw [hF_s_12.1 2 (by decide)]
          have hR6_s_12 : ∀ i : Nat, i < 3 * (σ.1 8 0).toInt.toNat → s_12.1 6 i = σ.1 6 i := by rw [hG_s_12.1 6 (by decide)]; exact hR6_s_3
          rw [hF_s_3.1 2 (by decide), hF_s_3.1 1 (by decide)] at x_s_12
          have g12 := gM_3 hB_s_12 0
          refine ok_ite (fun c_16 => ?_) (fun c_16 => ?_)
          · rw [fa_eq] at c_16
            exact ok_ret ⟨(by (try dsimp only); omega), hB_s_12, hF_s_12, (by (try dsimp only); rw [k_0]; refine ⟨fun h => absurd h (by omega), fun _ => ⟨_, _, _, _, hHL.com (by omega) (by omega) (x_s_12.1 (by omega)).2, (x_s_12.1 (by omega)).1, fun h => absurd h (by omega)⟩, by omega⟩)⟩
          · rw [fa_eq] at c_16
            exact hk_k_42 s_12 ⟨trivial, hB_s_12, hF_s_12, hR6_s_12, (by omega), (by omega), (hG_s_12.1 6 (by decide)), (Or.inr ⟨by omega, (x_s_12.2.1 (by omega)).1, (x_s_12.2.1 (by omega)).2⟩)⟩

set_option maxHeartbeats 4000000 in
theorem s_X12_isOneOf_s100 {x1 : Int32} : OK (f_X12_isOneOf_s100 x1) (fun v => (0 ≤ v.toInt ∧ v.toInt ≤ 1) ∧ ((v.toInt = 1 ↔ (x1.toInt = 43 ∨ x1.toInt = 45 ∨ x1.toInt = 42 ∨ x1.toInt = 47 ∨ x1.toInt = 37 ∨ x1.toInt = 60 ∨ x1.toInt = 61 ∨ x1.toInt = 33 ∨ x1.toInt = 110 ∨ x1.toInt = 100 ∨ x1.toInt = 112 ∨ x1.toInt = 119 ∨ x1.toInt = 105 ∨ x1.toInt = 111 ∨ x1.toInt = 116 ∨ x1.toInt = 114)))) := by
  unfold f_X12_isOneOf_s100
  have k_0 : (0 : Int32).toInt = 0 := by decide +kernel
  have k_1 : (1 : Int32).toInt = 1 := by decide +kernel
  have k_16 : (16 : Int32).toInt = 16 := by decide +kernel
  refine ok_itr1 (fun (n : Nat) (x2_1 : Int32) => n = (32 - x2_1.toInt).toNat ∧ (0 ≤ x2_1.toInt ∧ x2_1.toInt ≤ 31) ∧ (∀ j : Nat, (j : Int) < x2_1.toInt → (chS 100 (nI j)).toInt ≠ x1.toInt)) ?_ (n := _) ⟨rfl, (by omega), (fun i hi => by exfalso; have h9 : (0 : Int32).toInt = 0 := (by decide +kernel); omega)⟩ (show _ < 10000000 by omega)
  intro a_2 n x2_1 hI ih_a_2
  obtain ⟨hn_a_2, b_x2_1, h1⟩ := hI
  refine ok_ite (fun c_1 => ?_) (fun c_1 => ?_)
  · rw [fa_le] at c_1
    exact ok_ret ⟨(by (try dsimp only); omega), (by (try dsimp only); first | (refine ⟨fun h => absurd h (by omega), fun h => ?_⟩; exfalso; have e0 := h1 0 (by omega); rw [ch_100_0] at e0; have e1 := h1 1 (by omega); rw [ch_100_1] at e1; have e2 := h1 2 (by omega); rw [ch_100_2] at e2; have e3 := h1 3 (by omega); rw [ch_100_3] at e3; have e4 := h1 4 (by omega); rw [ch_100_4] at e4; have e5 := h1 5 (by omega); rw [ch_100_5] at e5; have e6 := h1 6 (by omega); rw [ch_100_6] at e6; have e7 := h1 7 (by omega); rw [ch_100_7] at e7; have e8 := h1 8 (by omega); rw [ch_100_8] at e8; have e9 := h1 9 (by omega); rw [ch_100_9] at e9; have e10 := h1 10 (by omega); rw [ch_100_10] at e10; have e11 := h1 11 (by omega); rw [ch_100_11] at e11; have e12 := h1 12 (by omega); rw [ch_100_12] at e12; have e13 := h1 13 (by omega); rw [ch_100_13] at e13; have e14 := h1 14 (by omega); rw [ch_100_14] at e14; have e15 := h1 15 (by omega); rw [ch_100_15] at e15; omega) | exact ⟨fun _ => by have c := clamp_I (x := x2_1) (by omega); have q := ch_100 x2_1.toNatClampNeg (by omega); rw [← z3] at q; omega, fun _ => by omega⟩)⟩
  · rw [fa_le] at c_1
    refine ok_ix ⟨by omega, by omega⟩ ?_
    obtain ⟨t_2, ht_2, g_2⟩ : ∃ t : Int, (chS 100 x2_1).toInt = t ∧ -2147483648 ≤ t ∧ t ≤ 2147483647 := ⟨_, rfl, tI_rng _⟩
    refine ok_lt fun v_3 e_v_3 => ?_
    have b_v_3 : 0 ≤ v_3.toInt ∧ v_3.toInt ≤ 255 := by rw [e_v_3]; exact ch_rng _ _
    have n3 : x2_1 = nI x2_1.toNatClampNeg := by refine Int32.toInt_inj.mp ?_; have := clamp_I (x := x2_1) (by omega); rw [nI_toInt (n := x2_1.toNatClampNeg) (by omega)]; omega
    have z3 : v_3.toInt = (chS 100 (nI x2_1.toNatClampNeg)).toInt := by rw [e_v_3, ← n3]
    refine ok_ite (fun c_3 => ?_) (fun c_3 => ?_)
    · rw [fa_eq] at c_3
      exact ok_ret ⟨(by (try dsimp only); omega), (by (try dsimp only); first | (refine ⟨fun h => absurd h (by omega), fun h => ?_⟩; exfalso; have e0 := h1 0 (by omega); rw [ch_100_0] at e0; have e1 := h1 1 (by omega); rw [ch_100_1] at e1; have e2 := h1 2 (by omega); rw [ch_100_2] at e2; have e3 := h1 3 (by omega); rw [ch_100_3] at e3; have e4 := h1 4 (by omega); rw [ch_100_4] at e4; have e5 := h1 5 (by omega); rw [ch_100_5] at e5; have e6 := h1 6 (by omega); rw [ch_100_6] at e6; have e7 := h1 7 (by omega); rw [ch_100_7] at e7; have e8 := h1 8 (by omega); rw [ch_100_8] at e8; have e9 := h1 9 (by omega); rw [ch_100_9] at e9; have e10 := h1 10 (by omega); rw [ch_100_10] at e10; have e11 := h1 11 (by omega); rw [ch_100_11] at e11; have e12 := h1 12 (by omega); rw [ch_100_12] at e12; have e13 := h1 13 (by omega); rw [ch_100_13] at e13; have e14 := h1 14 (by omega); rw [ch_100_14] at e14; have e15 := h1 15 (by omega); rw [ch_100_15] at e15; omega) | exact ⟨fun _ => by have c := clamp_I (x := x2_1) (by omega); have q := ch_100 x2_1.toNatClampNeg (by omega); rw [← z3] at q; omega, fun _ => by omega⟩)⟩
    · rw [fa_eq] at c_3
      obtain ⟨t_4, ht_4, g_4⟩ : ∃ t : Int, (x2_1 + 1).toInt = t ∧ t = x2_1.toInt + (1 : Int32).toInt := ⟨_, rfl, by have h9 := fb_addI (x := x2_1) (y := (1 : Int32)) (by omega) (by omega); exact h9⟩
      refine ok_lt fun x2_5 e_x2_5 => ?_
      have q_x2_5 : x2_5.toInt = t_4 := by rw [e_x2_5]; exact ht_4
      exact ih_a_2 _ x2_5 (by rw [hn_a_2]; omega) ⟨rfl, (by omega), (fun j hj => by by_cases q : j = x2_1.toNatClampNeg; (rw [q, ← z3]; omega); exact h1 j (by have := clamp_I (x := x2_1) (by omega); omega))⟩

set_option maxHeartbeats 4000000 in
theorem s_X12_isPlain {x1 : Int32} : OK (f_X12_isPlain x1) (fun v => (0 ≤ v.toInt ∧ v.toInt ≤ 1) ∧ ((v.toInt = 1 ↔ bareI x1.toInt))) := by
  unfold f_X12_isPlain
  have k_0 : (0 : Int32).toInt = 0 := by decide +kernel
  have k_1 : (1 : Int32).toInt = 1 := by decide +kernel
  refine ok_calp (s_X12_isOneOf_s100 (x1 := x1) ) (fun v_1 h_1 => ?_)
  obtain ⟨b_v_1, x_v_1⟩ := h_1
  (try dsimp only at b_v_1 x_v_1)
  refine ok_bz (by rw [fa_eq, fa_eq]; omega) ?_
  exact ok_ret ⟨(by (try dsimp only); omega), (by (try dsimp only); omega)⟩

set_option maxHeartbeats 4000000 in
theorem s_X12_letter {σ : Sto} (hB : BM σ) (hle : (σ.1 3 0).toInt ≤ (σ.1 2 0).toInt) : OK (f_X12_letter σ) (fun r => ((-1) ≤ r.1.toInt ∧ r.1.toInt ≤ 5) ∧ BM r.2 ∧ FR [3] [] σ r.2 ∧ ((∀ a : Nat, (σ.1 3 0).toInt.toNat = a + 1 → (r.1.toInt, (r.2.1 3 0).toInt.toNat) = rdL (σ.1 2 0).toInt.toNat (cb (σ.1 1)) a) ∧ (r.2.1 3 0).toInt ≤ (σ.1 2 0).toInt)) := by
  unfold f_X12_letter
  have hF : FR [3] [] σ σ := FR.rf
  have k_m1 : ((-1) : Int32).toInt = -1 := by decide +kernel
  have k_1 : (1 : Int32).toInt = 1 := by decide +kernel
  have k_97 : (97 : Int32).toInt = 97 := by decide +kernel
  have k_102 : (102 : Int32).toInt = 102 := by decide +kernel
  have g2 := gM_2 hB 0
  have g3 := gM_3 hB 0
  refine ok_calv (s_X12_look  (σ := σ) hB (by omega)) (fun v_1 s_1 h_1 => ?_)
  obtain ⟨b_v_1, hB_s_1, hG_s_1, x_s_1⟩ := h_1
  (try dsimp only at b_v_1 hB_s_1 hG_s_1 x_s_1)
  have hF_s_1 : FR [3] [] σ s_1 := FR.cal hF hG_s_1 rfl rfl
  have f_s_1_2 : (s_1.1 2 0).toInt = (σ.1 2 0).toInt := by rw [hF_s_1.1 2 (by decide)]
  have g3b := gM_3 hB_s_1 0
  obtain ⟨a1, a2, a3, a4, a5⟩ := x_s_1
  refine ok_ite (fun c_2 => ?_) (fun c_2 => ?_)
  · rw [fa_lt] at c_2
    exact ok_ret ⟨(by (try dsimp only); omega), hB_s_1, hF_s_1, (by (try dsimp only); refine ⟨fun a ea => ?_, by omega⟩; rw [ea] at a1; first | (rw [k_m1]; exact rdL_n a1.symm (fun z => by have := (a4 (by omega)).1; omega)) | (have l1 : (s_1.1 3 0).toInt < (σ.1 2 0).toInt := (by omega); have q := rdL_y (n := (σ.1 2 0).toInt.toNat) (c := (cb (σ.1 1))) a1.symm ⟨by omega, by have := (a4 l1).1; omega, by have := (a4 l1).1; omega⟩; rw [← q, show (s_4.1 3 0).toInt.toNat = (s_1.1 3 0).toInt.toNat + 1 by omega]; exact Prod.ext (by (try dsimp only); have := (a4 l1).1; omega) rfl))⟩
  · rw [fa_lt] at c_2
    refine ok_ite (fun c_3 => ?_) (fun c_3 => ?_)
    · rw [fa_le] at c_3
      have g_4 := gM_3 hB_s_1 0
      obtain ⟨t_5, ht_5, g_5⟩ : ∃ t : Int, ((s_1.1 3 0) + 1).toInt = t ∧ t = (s_1.1 3 0).toInt + (1 : Int32).toInt := ⟨_, rfl, by have h9 := fb_addI (x := (s_1.1 3 0)) (y := (1 : Int32)) (by omega) (by omega); exact h9⟩
      refine ok_lt fun s_4 e_s_4 => ?_
      have hB_s_4 : BM s_4 := by rw [e_s_4]; exact pM_3 hB_s_1 (by rw [ht_5]; omega)
      have hF_s_4 : FR [3] [] σ s_4 := by rw [e_s_4]; exact FR.st hF_s_1 (by decide)
      have w_s_4_3 : (s_4.1 3 0).toInt = t_5 := by rw [e_s_4, sti_s, ht_5]
      have f_s_4_2 : (s_4.1 2 0).toInt = (σ.1 2 0).toInt := by rw [hF_s_4.1 2 (by decide)]
      obtain ⟨t_6, ht_6, g_6⟩ : ∃ t : Int, (v_1 - 97).toInt = t ∧ t = v_1.toInt - (97 : Int32).toInt := ⟨_, rfl, by have h9 := fb_subI (x := v_1) (y := (97 : Int32)) (by omega) (by omega); exact h9⟩
      exact ok_ret ⟨(by (try dsimp only); rw [ht_6]; omega), hB_s_4, hF_s_4, (by (try dsimp only); refine ⟨fun a ea => ?_, by omega⟩; rw [ea] at a1; first | (rw [k_m1]; exact rdL_n a1.symm (fun z => by have := (a4 (by omega)).1; omega)) | (have l1 : (s_1.1 3 0).toInt < (σ.1 2 0).toInt := (by omega); have q := rdL_y (n := (σ.1 2 0).toInt.toNat) (c := (cb (σ.1 1))) a1.symm ⟨by omega, by have := (a4 l1).1; omega, by have := (a4 l1).1; omega⟩; rw [← q, show (s_4.1 3 0).toInt.toNat = (s_1.1 3 0).toInt.toNat + 1 by omega]; exact Prod.ext (by (try dsimp only); have := (a4 l1).1; omega) rfl))⟩
    · rw [fa_le] at c_3
      exact ok_ret ⟨(by (try dsimp only); omega), hB_s_1, hF_s_1, (by (try dsimp only); refine ⟨fun a ea => ?_, by omega⟩; rw [ea] at a1; first | (rw [k_m1]; exact rdL_n a1.symm (fun z => by have := (a4 (by omega)).1; omega)) | (have l1 : (s_1.1 3 0).toInt < (σ.1 2 0).toInt := (by omega); have q := rdL_y (n := (σ.1 2 0).toInt.toNat) (c := (cb (σ.1 1))) a1.symm ⟨by omega, by have := (a4 l1).1; omega, by have := (a4 l1).1; omega⟩; rw [← q, show (s_4.1 3 0).toInt.toNat = (s_1.1 3 0).toInt.toNat + 1 by omega]; exact Prod.ext (by (try dsimp only); have := (a4 l1).1; omega) rfl))⟩

set_option maxHeartbeats 4000000 in
theorem s_X12_isOneOf_s101 {x1 : Int32} (p_x1 : 0 ≤ x1.toInt ∧ x1.toInt ≤ 255) : OK (f_X12_isOneOf_s101 x1) (fun v => (0 ≤ v.toInt ∧ v.toInt ≤ 1) ∧ ((v.toInt = 1 ↔ (x1.toInt = 107 ∨ x1.toInt = 108 ∨ x1.toInt = 115 ∨ x1.toInt = 103 ∨ x1.toInt = 122)))) := by
  unfold f_X12_isOneOf_s101
  have k_0 : (0 : Int32).toInt = 0 := by decide +kernel
  have k_1 : (1 : Int32).toInt = 1 := by decide +kernel
  have k_5 : (5 : Int32).toInt = 5 := by decide +kernel
  refine ok_itr1 (fun (n : Nat) (x2_1 : Int32) => n = (6 - x2_1.toInt).toNat ∧ (0 ≤ x2_1.toInt ∧ x2_1.toInt ≤ 5) ∧ (∀ j : Nat, (j : Int) < x2_1.toInt → (chS 101 (nI j)).toInt ≠ x1.toInt)) ?_ (n := _) ⟨rfl, (by omega), (fun i hi => by exfalso; have h9 : (0 : Int32).toInt = 0 := (by decide +kernel); omega)⟩ (show _ < 10000000 by omega)
  intro a_2 n x2_1 hI ih_a_2
  obtain ⟨hn_a_2, b_x2_1, h1⟩ := hI
  refine ok_ite (fun c_1 => ?_) (fun c_1 => ?_)
  · rw [fa_le] at c_1
    exact ok_ret ⟨(by (try dsimp only); omega), (by (try dsimp only); first | (refine ⟨fun h => absurd h (by omega), fun h => ?_⟩; exfalso; have e0 := h1 0 (by omega); rw [ch_101_0] at e0; have e1 := h1 1 (by omega); rw [ch_101_1] at e1; have e2 := h1 2 (by omega); rw [ch_101_2] at e2; have e3 := h1 3 (by omega); rw [ch_101_3] at e3; have e4 := h1 4 (by omega); rw [ch_101_4] at e4; omega) | exact ⟨fun _ => by have c := clamp_I (x := x2_1) (by omega); have q := ch_101 x2_1.toNatClampNeg (by omega); rw [← z3] at q; omega, fun _ => by omega⟩)⟩
  · rw [fa_le] at c_1
    refine ok_ix ⟨by omega, by omega⟩ ?_
    obtain ⟨t_2, ht_2, g_2⟩ : ∃ t : Int, (chS 101 x2_1).toInt = t ∧ -2147483648 ≤ t ∧ t ≤ 2147483647 := ⟨_, rfl, tI_rng _⟩
    refine ok_lt fun v_3 e_v_3 => ?_
    have b_v_3 : 0 ≤ v_3.toInt ∧ v_3.toInt ≤ 255 := by rw [e_v_3]; exact ch_rng _ _
    have n3 : x2_1 = nI x2_1.toNatClampNeg := by refine Int32.toInt_inj.mp ?_; have := clamp_I (x := x2_1) (by omega); rw [nI_toInt (n := x2_1.toNatClampNeg) (by omega)]; omega
    have z3 : v_3.toInt = (chS 101 (nI x2_1.toNatClampNeg)).toInt := by rw [e_v_3, ← n3]
    refine ok_ite (fun c_3 => ?_) (fun c_3 => ?_)
    · rw [fa_eq] at c_3
      exact ok_ret ⟨(by (try dsimp only); omega), (by (try dsimp only); first | (refine ⟨fun h => absurd h (by omega), fun h => ?_⟩; exfalso; have e0 := h1 0 (by omega); rw [ch_101_0] at e0; have e1 := h1 1 (by omega); rw [ch_101_1] at e1; have e2 := h1 2 (by omega); rw [ch_101_2] at e2; have e3 := h1 3 (by omega); rw [ch_101_3] at e3; have e4 := h1 4 (by omega); rw [ch_101_4] at e4; omega) | exact ⟨fun _ => by have c := clamp_I (x := x2_1) (by omega); have q := ch_101 x2_1.toNatClampNeg (by omega); rw [← z3] at q; omega, fun _ => by omega⟩)⟩
    · rw [fa_eq] at c_3
      obtain ⟨t_4, ht_4, g_4⟩ : ∃ t : Int, (x2_1 + 1).toInt = t ∧ t = x2_1.toInt + (1 : Int32).toInt := ⟨_, rfl, by have h9 := fb_addI (x := x2_1) (y := (1 : Int32)) (by omega) (by omega); exact h9⟩
      refine ok_lt fun x2_5 e_x2_5 => ?_
      have q_x2_5 : x2_5.toInt = t_4 := by rw [e_x2_5]; exact ht_4
      exact ih_a_2 _ x2_5 (by rw [hn_a_2]; omega) ⟨rfl, (by omega), (fun j hj => by by_cases q : j = x2_1.toNatClampNeg; (rw [q, ← z3]; omega); exact h1 j (by have := clamp_I (x := x2_1) (by omega); omega))⟩

set_option maxHeartbeats 4000000 in
theorem s_X12_instruction {x1 : Int32} {σ : Sto} (hB : BM σ) (hDR : DR σ) (p_x1 : 0 ≤ x1.toInt ∧ x1.toInt ≤ 255) (ha : (σ.1 3 0).toInt < (σ.1 2 0).toInt) (hc : x1.toInt = cb (σ.1 1) (σ.1 3 0).toInt.toNat) : OK (f_X12_instruction x1 σ) (fun r => (0 ≤ r.1.toInt ∧ r.1.toInt ≤ 1) ∧ BM r.2 ∧ FR [3, 4, 5, 7] [] σ r.2 ∧ DR r.2 ∧ (((σ.1 7 0).toInt = 40 → r.1.toInt = 0 ∧ (r.2.1 3 0).toInt = (σ.1 3 0).toInt) ∧ ((σ.1 7 0).toInt ≠ 40 → ∃ (w : Int) (b : Nat), (w, b) = inP (σ.1 2 0).toInt.toNat (cb (σ.1 1)) (σ.1 3 0).toInt.toNat ∧ (r.2.1 3 0).toInt.toNat = b ∧ (r.1.toInt = 0 → w = -1) ∧ (r.1.toInt = 1 → w ≠ -1 ∧ (r.2.1 7 0).toInt = (σ.1 7 0).toInt + 1 ∧ mk0 ((σ.1 7 0).toInt.toNat + 1) (r.2.1 4) = upI (mk0 (σ.1 7 0).toInt.toNat (σ.1 4)) (σ.1 7 0).toInt.toNat x1.toInt ∧ mk0 ((σ.1 7 0).toInt.toNat + 1) (r.2.1 5) = upI (mk0 (σ.1 7 0).toInt.toNat (σ.1 5)) (σ.1 7 0).toInt.toNat w)) ∧ (r.2.1 3 0).toInt ≤ (σ.1 2 0).toInt)) := by
  unfold f_X12_instruction
  have hF : FR [3, 4, 5, 7] [] σ σ := FR.rf
  have k_m1 : ((-1) : Int32).toInt = -1 := by decide +kernel
  have k_0 : (0 : Int32).toInt = 0 := by decide +kernel
  have k_1 : (1 : Int32).toInt = 1 := by decide +kernel
  have k_39 : (39 : Int32).toInt = 39 := by decide +kernel
  have k_40 : (40 : Int32).toInt = 40 := by decide +kernel
  have k_103 : (103 : Int32).toInt = 103 := by decide +kernel
  have k_107 : (107 : Int32).toInt = 107 := by decide +kernel
  have k_108 : (108 : Int32).toInt = 108 := by decide +kernel
  have k_115 : (115 : Int32).toInt = 115 := by decide +kernel
  have k_122 : (122 : Int32).toInt = 122 := by decide +kernel
  have k_999 : (999 : Int32).toInt = 999 := by decide +kernel
  have g2 := gM_2 hB 0
  have g3 := gM_3 hB 0
  have g7 := gM_7 hB 0
  have g_2 := gM_7 hB 0
  refine ok_ite (fun c_1 => ?_) (fun c_1 => ?_)
  · rw [fa_eq] at c_1
    exact ok_ret ⟨(by (try dsimp only); omega), hB, hF, hDR, (by (try dsimp only); first | exact ⟨fun _ => ⟨k_0, rfl⟩, fun h => absurd (by omega) h, by omega⟩ | exact ⟨fun h => absurd h (by omega), fun _ => ⟨-1, _, in_x (by omega) (by omega) (by omega) (by omega), rfl, fun _ => rfl, fun h => absurd h (by omega)⟩, by omega⟩)⟩
  · rw [fa_eq] at c_1
    refine ok_calp (s_X12_isPlain (x1 := x1) ) (fun v_2 h_3 => ?_)
    obtain ⟨b_v_2, x_v_2⟩ := h_3
    (try dsimp only at b_v_2 x_v_2)
    refine ok_jnI1 (fun (t0_3 : Int32) => True ∧ (0 ≤ t0_3.toInt ∧ t0_3.toInt ≤ 1) ∧ (t0_3.toInt = 1 ↔ (bareI x1.toInt ∨ x1.toInt = 107 ∨ x1.toInt = 108 ∨ x1.toInt = 115 ∨ x1.toInt = 103 ∨ x1.toInt = 122))) ?_ ?_
    · intro t0_3 hJ
      obtain ⟨-, b_t0_3, jt⟩ := hJ
      refine ok_ite (fun c_4 => ?_) (fun c_4 => ?_)
      · rw [fa_eq] at c_4
        exact ok_ret ⟨(by (try dsimp only); omega), hB, hF, hDR, (by (try dsimp only); first | exact ⟨fun _ => ⟨k_0, rfl⟩, fun h => absurd (by omega) h, by omega⟩ | exact ⟨fun h => absurd h (by omega), fun _ => ⟨-1, _, in_x (by omega) (by omega) (by omega) (by omega), rfl, fun _ => rfl, fun h => absurd h (by omega)⟩, by omega⟩)⟩
      · rw [fa_eq] at c_4
        have g_5 := gM_3 hB 0
        obtain ⟨t_6, ht_6, g_6⟩ : ∃ t : Int, ((σ.1 3 0) + 1).toInt = t ∧ t = (σ.1 3 0).toInt + (1 : Int32).toInt := ⟨_, rfl, by have h9 := fb_addI (x := (σ.1 3 0)) (y := (1 : Int32)) (by omega) (by omega); exact h9⟩
        refine ok_lt fun s_5 e_s_5 => ?_
        have hB_s_5 : BM s_5 := by rw [e_s_5]; exact pM_3 hB (by rw [ht_6]; omega)
        have hF_s_5 : FR [3, 4, 5, 7] [] σ s_5 := by rw [e_s_5]; exact FR.st hF (by decide)
        have w_s_5_3 : (s_5.1 3 0).toInt = t_6 := by rw [e_s_5, sti_s, ht_6]
        have w_s_5_7 : (s_5.1 7 0).toInt = (σ.1 7 0).toInt := by rw [e_s_5]; rfl
        have f_s_5_2 : (s_5.1 2 0).toInt = (σ.1 2 0).toInt := by rw [hF_s_5.1 2 (by decide)]
        have hDR_s_5 : DR s_5 := by rw [e_s_5]; exact DR.st1 (by decide) hDR
        have hkn := jt.mp (by omega)
        refine ok_jnI2 (fun (x3_6 : Int32) (s_6 : Sto) => True ∧ ((-1) ≤ x3_6.toInt ∧ x3_6.toInt ≤ 999) ∧ (BM s_6) ∧ (FR [3, 4, 5, 7] [] σ s_6) ∧ (DR s_6) ∧ (s_6.1 4 = σ.1 4 ∧ s_6.1 5 = σ.1 5 ∧ s_6.1 7 = σ.1 7) ∧ ((s_6.1 3 0).toInt ≤ (σ.1 2 0).toInt) ∧ (J1q (σ.1 2 0).toInt.toNat (cb (σ.1 1)) (σ.1 3 0).toInt.toNat x1.toInt x3_6.toInt (s_6.1 3 0).toInt.toNat)) ?_ ?_
        · intro x3_6 s_6 hJ
          obtain ⟨-, b_x3_6, hB_s_6, hF_s_6, hDR_s_6, jr, jal, jJ⟩ := hJ
          have f_s_6_2 : (s_6.1 2 0).toInt = (σ.1 2 0).toInt := by rw [hF_s_6.1 2 (by decide)]
          refine ok_jnI2 (fun (x3_7 : Int32) (s_7 : Sto) => True ∧ ((-1) ≤ x3_7.toInt ∧ x3_7.toInt ≤ 999) ∧ (BM s_7) ∧ (FR [3, 4, 5, 7] [] σ s_7) ∧ (DR s_7) ∧ (s_7.1 4 = σ.1 4 ∧ s_7.1 5 = σ.1 5 ∧ s_7.1 7 = σ.1 7) ∧ ((s_7.1 3 0).toInt ≤ (σ.1 2 0).toInt) ∧ (J2q (σ.1 2 0).toInt.toNat (cb (σ.1 1)) (σ.1 3 0).toInt.toNat x1.toInt x3_7.toInt (s_7.1 3 0).toInt.toNat)) ?_ ?_
          · intro x3_7 s_7 hJ
            obtain ⟨-, b_x3_7, hB_s_7, hF_s_7, hDR_s_7, jr, jal, jK⟩ := hJ
            have f_s_7_2 : (s_7.1 2 0).toInt = (σ.1 2 0).toInt := by rw [hF_s_7.1 2 (by decide)]
            refine ok_jnI2 (fun (x3_8 : Int32) (s_8 : Sto) => True ∧ ((-1) ≤ x3_8.toInt ∧ x3_8.toInt ≤ 999) ∧ (BM s_8) ∧ (FR [3, 4, 5, 7] [] σ s_8) ∧ (DR s_8) ∧ (s_8.1 4 = σ.1 4 ∧ s_8.1 5 = σ.1 5 ∧ s_8.1 7 = σ.1 7) ∧ ((s_8.1 3 0).toInt ≤ (σ.1 2 0).toInt) ∧ ((x3_8.toInt, (s_8.1 3 0).toInt.toNat) = inP (σ.1 2 0).toInt.toNat (cb (σ.1 1)) (σ.1 3 0).toInt.toNat) ∧ (x3_8.toInt ≠ -1 → VG x1.toInt x3_8.toInt)) ?_ ?_
            · intro x3_8 s_8 hJ
              obtain ⟨-, b_x3_8, hB_s_8, hF_s_8, hDR_s_8, jr, jal, jI, jV⟩ := hJ
              have f_s_8_2 : (s_8.1 2 0).toInt = (σ.1 2 0).toInt := by rw [hF_s_8.1 2 (by decide)]
              refine ok_ite (fun c_7 => ?_) (fun c_7 => ?_)
              · rw [fa_eq] at c_7
                exact ok_ret ⟨(by (try dsimp only); omega), hB_s_8, hF_s_8, hDR_s_8, (by (try dsimp only); exact ⟨fun h => absurd h (by omega), fun _ => ⟨_, _, jI, rfl, fun _ => by omega, fun h => absurd h (by omega)⟩, by omega⟩)⟩
              · rw [fa_eq] at c_7
                have g_8 := gM_7 hB_s_8 0
                have q7i : (s_8.1 7 0).toInt = (σ.1 7 0).toInt := by rw [jr.2.2]
                refine ok_ix ⟨by omega, by omega⟩ ?_
                refine ok_lt fun s_10 e_s_10 => ?_
                have hB_s_10 : BM s_10 := by rw [e_s_10]; exact pM_4 hB_s_8 (by omega)
                have hF_s_10 : FR [3, 4, 5, 7] [] σ s_10 := by rw [e_s_10]; exact FR.st hF_s_8 (by decide)
                have w_s_10_3 : (s_10.1 3 0).toInt = (s_8.1 3 0).toInt := by rw [e_s_10]; rfl
                have w_s_10_7 : (s_10.1 7 0).toInt = (s_8.1 7 0).toInt := by rw [e_s_10]; rfl
                have f_s_10_2 : (s_10.1 2 0).toInt = (σ.1 2 0).toInt := by rw [hF_s_10.1 2 (by decide)]
                have g_9 := gM_7 hB_s_10 0
                have q7i : (s_8.1 7 0).toInt = (σ.1 7 0).toInt := by rw [jr.2.2]
                refine ok_ix ⟨by omega, by omega⟩ ?_
                refine ok_lt fun s_11 e_s_11 => ?_
                have hB_s_11 : BM s_11 := by rw [e_s_11]; exact pM_5 hB_s_10 (by omega)
                have hF_s_11 : FR [3, 4, 5, 7] [] σ s_11 := by rw [e_s_11]; exact FR.st hF_s_10 (by decide)
                have w_s_11_3 : (s_11.1 3 0).toInt = (s_10.1 3 0).toInt := by rw [e_s_11]; rfl
                have w_s_11_7 : (s_11.1 7 0).toInt = (s_10.1 7 0).toInt := by rw [e_s_11]; rfl
                have f_s_11_2 : (s_11.1 2 0).toInt = (σ.1 2 0).toInt := by rw [hF_s_11.1 2 (by decide)]
                have g_10 := gM_7 hB_s_11 0
                obtain ⟨t_11, ht_11, g_11⟩ : ∃ t : Int, ((s_11.1 7 0) + 1).toInt = t ∧ t = (s_11.1 7 0).toInt + (1 : Int32).toInt := ⟨_, rfl, by have h9 := fb_addI (x := (s_11.1 7 0)) (y := (1 : Int32)) (by omega) (by omega); exact h9⟩
                refine ok_lt fun s_12 e_s_12 => ?_
                have hB_s_12 : BM s_12 := by rw [e_s_12]; exact pM_7 hB_s_11 (by rw [ht_11]; omega)
                have hF_s_12 : FR [3, 4, 5, 7] [] σ s_12 := by rw [e_s_12]; exact FR.st hF_s_11 (by decide)
                have w_s_12_3 : (s_12.1 3 0).toInt = (s_11.1 3 0).toInt := by rw [e_s_12]; rfl
                have w_s_12_7 : (s_12.1 7 0).toInt = t_11 := by rw [e_s_12, sti_s, ht_11]
                have f_s_12_2 : (s_12.1 2 0).toInt = (σ.1 2 0).toInt := by rw [hF_s_12.1 2 (by decide)]
                have hvg := jV (by omega)
                have c7 := clamp_I (x := σ.1 7 0) (by omega)
                have q7 : s_8.1 7 0 = σ.1 7 0 := by rw [jr.2.2]
                have q10 : s_10.1 7 0 = σ.1 7 0 := by rw [e_s_10]; exact q7
                have n12 : (s_12.1 7 0).toInt = (σ.1 7 0).toInt + 1 := by omega
                have m4 : mk0 ((σ.1 7 0).toInt.toNat + 1) (s_12.1 4) = upI (mk0 (σ.1 7 0).toInt.toNat (σ.1 4)) (σ.1 7 0).toInt.toNat x1.toInt := by rw [show s_12.1 4 = s_10.1 4 by rw [e_s_12, e_s_11]; rfl, e_s_10, ← jr.1, q7]; exact mk0_app
                have m5 : mk0 ((σ.1 7 0).toInt.toNat + 1) (s_12.1 5) = upI (mk0 (σ.1 7 0).toInt.toNat (σ.1 5)) (σ.1 7 0).toInt.toNat x3_8.toInt := by rw [show s_12.1 5 = s_11.1 5 by rw [e_s_12]; rfl, e_s_11, q10, ← jr.2.1, show s_8.1 5 = s_10.1 5 by rw [e_s_10]; rfl]; exact mk0_app
                have hDR_s_12 : DR s_12 := fun i hi => by rw [show s_12.1 4 = s_10.1 4 by rw [e_s_12, e_s_11]; rfl, show s_12.1 5 = s_11.1 5 by rw [e_s_12]; rfl, e_s_10, e_s_11, q7, q10, sti_if, sti_if, show s_10.1 5 = s_8.1 5 by rw [e_s_10]; rfl]; by_cases q : i = (σ.1 7 0).toNatClampNeg; (rw [if_pos q, if_pos q]; exact hvg); (rw [if_neg q, if_neg q]; exact hDR_s_8 i (by rw [q7]; omega))
                exact ok_ret ⟨(by (try dsimp only); omega), hB_s_12, hF_s_12, hDR_s_12, (by (try dsimp only); exact ⟨fun h => absurd h (by omega), fun _ => ⟨_, _, jI, by omega, fun h => absurd h (by omega), fun _ => ⟨by omega, n12, m4, m5⟩⟩, by omega⟩)⟩
            · intro k_101 hk_k_101
              refine ok_jn ?_
              refine ok_ite (fun c_12 => ?_) (fun c_12 => ?_)
              · rw [fa_eq] at c_12
                try have hj14 := (jK.2.2 (by omega) (by omega) (by omega)).2
                refine ok_calv (s_X12_number (x1 := (39 : Int32)) (σ := s_7) hB_s_7 (by omega) (by omega)) (fun v_14 s_14 h_13 => ?_)
                obtain ⟨b_v_14, hB_s_14, hG_s_14, x_s_14⟩ := h_13
                (try dsimp only at b_v_14 hB_s_14 hG_s_14 x_s_14)
                have hF_s_14 : FR [3, 4, 5, 7] [] σ s_14 := FR.cal hF_s_7 hG_s_14 rfl rfl
                have w_s_14_7 : (s_14.1 7 0).toInt = (s_7.1 7 0).toInt := by rw [hG_s_14.1 7 (by decide)]
                have f_s_14_2 : (s_14.1 2 0).toInt = (σ.1 2 0).toInt := by rw [hF_s_14.1 2 (by decide)]
                have hDR_s_14 : DR s_14 := DR.fr hG_s_14 (by decide) hDR_s_7
                rw [hF_s_7.1 2 (by decide), hF_s_7.1 1 (by decide), hj14, k_39] at x_s_14
                exact hk_k_101 v_14 s_14 ⟨trivial, (by omega), hB_s_14, hF_s_14, hDR_s_14, ⟨(hG_s_14.1 4 (by decide)).trans jr.1, (hG_s_14.1 5 (by decide)).trans jr.2.1, (hG_s_14.1 7 (by decide)).trans jr.2.2⟩, (by omega), (x_s_14.2.1.trans (in_g (by omega) (by omega))), (fun _ => ⟨fun q => by omega, fun _ => by omega, hkn⟩)⟩
              · rw [fa_eq] at c_12
                refine ok_ite (fun c_14 => ?_) (fun c_14 => ?_)
                · rw [fa_eq] at c_14
                  try have hj14 := (jK.2.2 (by omega) (by omega) (by omega)).2
                  refine ok_calv (s_X12_number (x1 := (39 : Int32)) (σ := s_7) hB_s_7 (by omega) (by omega)) (fun v_14 s_14 h_15 => ?_)
                  obtain ⟨b_v_14, hB_s_14, hG_s_14, x_s_14⟩ := h_15
                  (try dsimp only at b_v_14 hB_s_14 hG_s_14 x_s_14)
                  have hF_s_14 : FR [3, 4, 5, 7] [] σ s_14 := FR.cal hF_s_7 hG_s_14 rfl rfl
                  have w_s_14_7 : (s_14.1 7 0).toInt = (s_7.1 7 0).toInt := by rw [hG_s_14.1 7 (by decide)]
                  have f_s_14_2 : (s_14.1 2 0).toInt = (σ.1 2 0).toInt := by rw [hF_s_14.1 2 (by decide)]
                  have hDR_s_14 : DR s_14 := DR.fr hG_s_14 (by decide) hDR_s_7
                  rw [hF_s_7.1 2 (by decide), hF_s_7.1 1 (by decide), hj14, k_39] at x_s_14
                  exact hk_k_101 v_14 s_14 ⟨trivial, (by omega), hB_s_14, hF_s_14, hDR_s_14, ⟨(hG_s_14.1 4 (by decide)).trans jr.1, (hG_s_14.1 5 (by decide)).trans jr.2.1, (hG_s_14.1 7 (by decide)).trans jr.2.2⟩, (by omega), (x_s_14.2.1.trans (in_g (by omega) (by omega))), (fun _ => ⟨fun q => by omega, fun _ => by omega, hkn⟩)⟩
                · rw [fa_eq] at c_14
                  exact hk_k_101 x3_7 s_7 ⟨trivial, (by omega), hB_s_7, hF_s_7, hDR_s_7, jr, (by omega), (jK.in_ hc (by omega) (by omega) hkn), (fun _ => jK.vg (by omega) (by omega) hkn)⟩
          · intro k_82 hk_k_82
            refine ok_jn ?_
            refine ok_ite (fun c_16 => ?_) (fun c_16 => ?_)
            · rw [fa_eq] at c_16
              refine ok_calv (s_X12_letter  (σ := s_6) hB_s_6 (by omega)) (fun v_18 s_18 h_17 => ?_)
              obtain ⟨b_v_18, hB_s_18, hG_s_18, x_s_18⟩ := h_17
              (try dsimp only at b_v_18 hB_s_18 hG_s_18 x_s_18)
              have hF_s_18 : FR [3, 4, 5, 7] [] σ s_18 := FR.cal hF_s_6 hG_s_18 rfl rfl
              have w_s_18_7 : (s_18.1 7 0).toInt = (s_6.1 7 0).toInt := by rw [hG_s_18.1 7 (by decide)]
              have f_s_18_2 : (s_18.1 2 0).toInt = (σ.1 2 0).toInt := by rw [hF_s_18.1 2 (by decide)]
              have hDR_s_18 : DR s_18 := DR.fr hG_s_18 (by decide) hDR_s_6
              rw [hF_s_6.1 2 (by decide), hF_s_6.1 1 (by decide)] at x_s_18
              exact hk_k_82 v_18 s_18 ⟨trivial, (by omega), hB_s_18, hF_s_18, hDR_s_18, ⟨(hG_s_18.1 4 (by decide)).trans jr.1, (hG_s_18.1 5 (by decide)).trans jr.2.1, (hG_s_18.1 7 (by decide)).trans jr.2.2⟩, (by omega), (J2q.b (x_s_18.1 _ (jJ.2 (by omega)).2) (by omega) (by omega))⟩
            · rw [fa_eq] at c_16
              refine ok_ite (fun c_18 => ?_) (fun c_18 => ?_)
              · rw [fa_eq] at c_18
                refine ok_calv (s_X12_letter  (σ := s_6) hB_s_6 (by omega)) (fun v_18 s_18 h_19 => ?_)
                obtain ⟨b_v_18, hB_s_18, hG_s_18, x_s_18⟩ := h_19
                (try dsimp only at b_v_18 hB_s_18 hG_s_18 x_s_18)
                have hF_s_18 : FR [3, 4, 5, 7] [] σ s_18 := FR.cal hF_s_6 hG_s_18 rfl rfl
                have w_s_18_7 : (s_18.1 7 0).toInt = (s_6.1 7 0).toInt := by rw [hG_s_18.1 7 (by decide)]
                have f_s_18_2 : (s_18.1 2 0).toInt = (σ.1 2 0).toInt := by rw [hF_s_18.1 2 (by decide)]
                have hDR_s_18 : DR s_18 := DR.fr hG_s_18 (by decide) hDR_s_6
                rw [hF_s_6.1 2 (by decide), hF_s_6.1 1 (by decide)] at x_s_18
                exact hk_k_82 v_18 s_18 ⟨trivial, (by omega), hB_s_18, hF_s_18, hDR_s_18, ⟨(hG_s_18.1 4 (by decide)).trans jr.1, (hG_s_18.1 5 (by decide)).trans jr.2.1, (hG_s_18.1 7 (by decide)).trans jr.2.2⟩, (by omega), (J2q.b (x_s_18.1 _ (jJ.2 (by omega)).2) (by omega) (by omega))⟩
              · rw [fa_eq] at c_18
                exact hk_k_82 x3_6 s_6 ⟨trivial, (by omega), hB_s_6, hF_s_6, hDR_s_6, jr, (by omega), (J2q.a jJ (by omega) (by omega))⟩
        · intro k_65 hk_k_65
          refine ok_ite (fun c_20 => ?_) (fun c_20 => ?_)
          · rw [fa_eq] at c_20
            try have hj14 := (jK.2.2 (by omega) (by omega) (by omega)).2
            refine ok_calv (s_X12_number (x1 := (999 : Int32)) (σ := s_5) hB_s_5 (by omega) (by omega)) (fun v_22 s_22 h_21 => ?_)
            obtain ⟨b_v_22, hB_s_22, hG_s_22, x_s_22⟩ := h_21
            (try dsimp only at b_v_22 hB_s_22 hG_s_22 x_s_22)
            have hF_s_22 : FR [3, 4, 5, 7] [] σ s_22 := FR.cal hF_s_5 hG_s_22 rfl rfl
            have w_s_22_7 : (s_22.1 7 0).toInt = (s_5.1 7 0).toInt := by rw [hG_s_22.1 7 (by decide)]
            have f_s_22_2 : (s_22.1 2 0).toInt = (σ.1 2 0).toInt := by rw [hF_s_22.1 2 (by decide)]
            have hDR_s_22 : DR s_22 := DR.fr hG_s_22 (by decide) hDR_s_5
            rw [hF_s_5.1 2 (by decide), hF_s_5.1 1 (by decide), show (s_5.1 3 0).toInt.toNat = (σ.1 3 0).toInt.toNat + 1 by omega, k_999] at x_s_22
            exact hk_k_65 v_22 s_22 ⟨trivial, (by omega), hB_s_22, hF_s_22, hDR_s_22, ⟨(hG_s_22.1 4 (by decide)).trans (by rw [e_s_5]; rfl), (hG_s_22.1 5 (by decide)).trans (by rw [e_s_5]; rfl), (hG_s_22.1 7 (by decide)).trans (by rw [e_s_5]; rfl)⟩, (by omega), ⟨fun _ => x_s_22.2.1, fun h => absurd (by omega) h⟩⟩
          · rw [fa_eq] at c_20
            exact hk_k_65 (0 : Int32) s_5 ⟨trivial, (by omega), hB_s_5, hF_s_5, hDR_s_5, (by rw [e_s_5]; exact ⟨rfl, rfl, rfl⟩), (by omega), ⟨fun h => absurd h (by omega), fun _ => ⟨k_0, by omega⟩⟩⟩
    · intro k_32 hk_k_32
      refine ok_jn ?_
      refine ok_ite (fun c_22 => ?_) (fun c_22 => ?_)
      · rw [fa_eq] at c_22
        refine ok_calp (s_X12_isOneOf_s101 (x1 := x1) (by omega)) (fun v_25 h_23 => ?_)
        obtain ⟨b_v_25, x_v_25⟩ := h_23
        (try dsimp only at b_v_25 x_v_25)
        refine ok_ite (fun c_24 => ?_) (fun c_24 => ?_)
        · rw [fa_eq] at c_24
          exact hk_k_32 (0 : Int32) ⟨trivial, (by omega), (by omega)⟩
        · rw [fa_eq] at c_24
          exact hk_k_32 (1 : Int32) ⟨trivial, (by omega), (by omega)⟩
      · rw [fa_eq] at c_22
        exact hk_k_32 (1 : Int32) ⟨trivial, (by omega), (by omega)⟩

