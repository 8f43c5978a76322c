set_option maxHeartbeats 4000000 in
theorem s_X3_handlerOf {x1 : Int32} {σ : Sto} (hB : BX σ) (p_x1 : 0 ≤ x1.toInt ∧ x1.toInt ≤ 39) : OK (f_X3_handlerOf x1 σ) (fun v => ((-1) ≤ v.toInt ∧ v.toInt ≤ 2) ∧ ((v.toInt ≠ -1 → v.toInt < (σ.1 5 0).toInt))) := by
  unfold f_X3_handlerOf
  have hF : FR [] [] σ σ := FR.rf
  have k_m1 : ((-1) : Int32).toInt = -1 := by decide +kernel
  have k_0 : (0 : Int32).toInt = 0 := by decide +kernel
  have k_1 : (1 : Int32).toInt = 1 := by decide +kernel
  refine ok_itr1 (fun (n : Nat) (x2_1 : Int32) => n = (4 - x2_1.toInt).toNat ∧ (0 ≤ x2_1.toInt ∧ x2_1.toInt ≤ 3)) ?_ (n := _) ⟨rfl, (by omega)⟩ (show _ < 10000000 by omega)
  intro a_2 n x2_1 hI ih_a_2
  obtain ⟨hn_a_2, b_x2_1⟩ := hI
  have g_2 := gX_5 hB 0
  refine ok_ite (fun c_1 => ?_) (fun c_1 => ?_)
  · rw [fa_le] at c_1
    exact ok_ret ⟨(by (try dsimp only); omega), (fun h => by (try dsimp only at h); (try dsimp only); omega)⟩
  · rw [fa_le] at c_1
    refine ok_ix ⟨by omega, by omega⟩ ?_
    have g_3 := gX_9 hB (x2_1.toNatClampNeg)
    refine ok_lt fun v_3 e_v_3 => ?_
    have b_v_3 : 0 ≤ v_3.toInt ∧ v_3.toInt ≤ 40 := by rw [e_v_3]; exact gX_9 hB _
    refine ok_jn ?_
    refine ok_ite (fun c_4 => ?_) (fun c_4 => ?_)
    · rw [fa_lt] at c_4
      obtain ⟨t_5, ht_5, g_5⟩ : ∃ t : Int, (x2_1 + 1).toInt = t ∧ t = x2_1.toInt + (1 : Int32).toInt := ⟨_, rfl, by have h9 := fb_addI (x := x2_1) (y := (1 : Int32)) (by omega) (by omega); exact h9⟩
      refine ok_lt fun x2_5 e_x2_5 => ?_
      have q_x2_5 : x2_5.toInt = t_5 := by rw [e_x2_5]; exact ht_5
      exact ih_a_2 _ x2_5 (by rw [hn_a_2]; omega) ⟨rfl, (by omega)⟩
    · rw [fa_lt] at c_4
      refine ok_ix ⟨by omega, by omega⟩ ?_
      have g_6 := gX_10 hB (x2_1.toNatClampNeg)
      refine ok_lt fun v_7 e_v_7 => ?_
      have b_v_7 : 0 ≤ v_7.toInt ∧ v_7.toInt ≤ 40 := by rw [e_v_7]; exact gX_10 hB _
      refine ok_ite (fun c_7 => ?_) (fun c_7 => ?_)
      · rw [fa_le] at c_7
        obtain ⟨t_8, ht_8, g_8⟩ : ∃ t : Int, (x2_1 + 1).toInt = t ∧ t = x2_1.toInt + (1 : Int32).toInt := ⟨_, rfl, by have h9 := fb_addI (x := x2_1) (y := (1 : Int32)) (by omega) (by omega); exact h9⟩
        refine ok_lt fun x2_5 e_x2_5 => ?_
        have q_x2_5 : x2_5.toInt = t_8 := by rw [e_x2_5]; exact ht_8
        exact ih_a_2 _ x2_5 (by rw [hn_a_2]; omega) ⟨rfl, (by omega)⟩
      · rw [fa_le] at c_7
        exact ok_ret ⟨(by (try dsimp only); omega), (fun h => by (try dsimp only at h); (try dsimp only); omega)⟩

set_option maxHeartbeats 4000000 in
theorem s_X11_isIn {x1 : Int64} {x2 : Int32} : OK (f_X11_isIn x1 x2) (fun v => (0 ≤ v.toInt ∧ v.toInt ≤ 1) ∧ ((0 ≤ x2.toInt → x2.toInt < 64 → (v.toInt = 1 ↔ bL x1 x2.toNatClampNeg = true)))) := by
  unfold f_X11_isIn
  have k_0 : (0 : Int32).toInt = 0 := by decide +kernel
  have k_1 : (1 : Int32).toInt = 1 := by decide +kernel
  obtain ⟨t_2, ht_2, g_2⟩ : ∃ t : Int, (lg_cmp ((x1.toUInt64 >>> ((x2.toInt64).toUInt64 &&& (63 : Int64).toUInt64)).toInt64 &&& 1) (0 : Int64)).toInt = t ∧ -2147483648 ≤ t ∧ t ≤ 2147483647 := ⟨_, rfl, tI_rng _⟩
  refine ok_ite (fun c_1 => ?_) (fun c_1 => ?_)
  · rw [lg_cmp_eq] at c_1
    exact ok_ret ⟨(by (try dsimp only); omega), (by (try dsimp only); first | (rw [k_0]; exact isin_f c_1) | (rw [k_1]; exact isin_t c_1))⟩
  · rw [lg_cmp_eq] at c_1
    exact ok_ret ⟨(by (try dsimp only); omega), (by (try dsimp only); first | (rw [k_0]; exact isin_f c_1) | (rw [k_1]; exact isin_t c_1))⟩

set_option maxHeartbeats 4000000 in
theorem s_X11_isBlock {x1 : Int32} {σ : Sto} (hB : BX σ) : OK (f_X11_isBlock x1 σ) (fun v => (0 ≤ v.toInt ∧ v.toInt ≤ 1) ∧ ((v.toInt = 1 → 0 ≤ x1.toInt ∧ x1.toInt < (σ.1 20 0).toInt))) := by
  unfold f_X11_isBlock
  have hF : FR [] [] σ σ := FR.rf
  have k_0 : (0 : Int32).toInt = 0 := by decide +kernel
  have k_1 : (1 : Int32).toInt = 1 := by decide +kernel
  have g9 := gX_20 hB 0
  refine ok_jn ?_
  have g_2 := gX_0 hB 0
  refine ok_ite (fun c_1 => ?_) (fun c_1 => ?_)
  · rw [fa_eq] at c_1
    exact ok_ret ⟨(by (try dsimp only); omega), (by (try dsimp only); omega)⟩
  · rw [fa_eq] at c_1
    refine ok_ite (fun c_3 => ?_) (fun c_3 => ?_)
    · rw [fa_lt] at c_3
      exact ok_ret ⟨(by (try dsimp only); omega), (by (try dsimp only); omega)⟩
    · rw [fa_lt] at c_3
      have g_5 := gX_20 hB 0
      refine ok_ite (fun c_4 => ?_) (fun c_4 => ?_)
      · rw [fa_le] at c_4
        exact ok_ret ⟨(by (try dsimp only); omega), (by (try dsimp only); omega)⟩
      · rw [fa_le] at c_4
        exact ok_ret ⟨(by (try dsimp only); omega), (by (try dsimp only); omega)⟩

theorem s_J13_bitCount_95d88 {x1 : Int64} : OK (f_J13_bitCount_95d88 x1) (fun v => (0 ≤ v.toInt ∧ v.toInt ≤ 64) ∧ (v.toInt = fb_ct (bL x1) 64)) := ⟨_, bitc x1, by dsimp only; have h := fb_ct_le (bL x1) 64; rw [nI_toInt (show fb_ct (bL x1) 64 < 2 ^ 31 by omega)]; exact ⟨by omega, rfl⟩⟩
set_option maxHeartbeats 4000000 in
theorem s_X8_innermost {x1 : Int32} {σ : Sto} (hB : BX σ) : OK (f_X8_innermost x1 σ) (fun v => ((-1) ≤ v.toInt ∧ v.toInt ≤ 39)) := by
  unfold f_X8_innermost
  have hF : FR [] [] σ σ := FR.rf
  have k_m1 : ((-1) : Int32).toInt = -1 := by decide +kernel
  have k_0 : (0 : Int32).toInt = 0 := by decide +kernel
  have k_1 : (1 : Int32).toInt = 1 := by decide +kernel
  refine ok_itr2 (fun (n : Nat) (x2_1 : Int32) (x3_1 : Int32) => n = (41 - x3_1.toInt).toNat ∧ ((-1) ≤ x2_1.toInt ∧ x2_1.toInt ≤ 39) ∧ (0 ≤ x3_1.toInt ∧ x3_1.toInt ≤ 40)) ?_ (n := _) ⟨rfl, (by omega), (by omega)⟩ (show _ < 10000000 by omega)
  intro a_4 n x2_1 x3_1 hI ih_a_4
  obtain ⟨hn_a_4, b_x2_1, b_x3_1⟩ := hI
  have g_2 := gX_20 hB 0
  refine ok_ite (fun c_1 => ?_) (fun c_1 => ?_)
  · rw [fa_le] at c_1
    exact ok_ret (by (try dsimp only); omega)
  · rw [fa_le] at c_1
    refine ok_ix ⟨by omega, by omega⟩ ?_
    refine ok_lt fun v_3 e_v_3 => ?_
    refine ok_calp (s_X11_isIn (x1 := v_3) (x2 := x1) ) (fun v_4 h_3 => ?_)
    obtain ⟨b_v_4, x_v_4⟩ := h_3
    (try dsimp only at b_v_4 x_v_4)
    refine ok_jn ?_
    refine ok_ite (fun c_4 => ?_) (fun c_4 => ?_)
    · rw [fa_eq] at c_4
      obtain ⟨t_5, ht_5, g_5⟩ : ∃ t : Int, (x3_1 + 1).toInt = t ∧ t = x3_1.toInt + (1 : Int32).toInt := ⟨_, rfl, by have h9 := fb_addI (x := x3_1) (y := (1 : Int32)) (by omega) (by omega); exact h9⟩
      refine ok_lt fun x3_6 e_x3_6 => ?_
      have q_x3_6 : x3_6.toInt = t_5 := by rw [e_x3_6]; exact ht_5
      exact ih_a_4 _ x2_1 x3_6 (by rw [hn_a_4]; omega) ⟨rfl, (by omega), (by omega)⟩
    · rw [fa_eq] at c_4
      refine ok_jn ?_
      refine ok_ite (fun c_6 => ?_) (fun c_6 => ?_)
      · rw [fa_eq] at c_6
        obtain ⟨t_7, ht_7, g_7⟩ : ∃ t : Int, (x3_1 + 1).toInt = t ∧ t = x3_1.toInt + (1 : Int32).toInt := ⟨_, rfl, by have h9 := fb_addI (x := x3_1) (y := (1 : Int32)) (by omega) (by omega); exact h9⟩
        refine ok_lt fun x3_6 e_x3_6 => ?_
        have q_x3_6 : x3_6.toInt = t_7 := by rw [e_x3_6]; exact ht_7
        exact ih_a_4 _ x3_1 x3_6 (by rw [hn_a_4]; omega) ⟨rfl, (by omega), (by omega)⟩
      · rw [fa_eq] at c_6
        refine ok_ix ⟨by omega, by omega⟩ ?_
        refine ok_lt fun v_10 e_v_10 => ?_
        refine ok_calp (s_J13_bitCount_95d88 (x1 := v_10) ) (fun v_11 h_8 => ?_)
        obtain ⟨b_v_11, x_v_11⟩ := h_8
        (try dsimp only at b_v_11 x_v_11)
        refine ok_ix ⟨by omega, by omega⟩ ?_
        refine ok_lt fun v_12 e_v_12 => ?_
        refine ok_calp (s_J13_bitCount_95d88 (x1 := v_12) ) (fun v_13 h_9 => ?_)
        obtain ⟨b_v_13, x_v_13⟩ := h_9
        (try dsimp only at b_v_13 x_v_13)
        refine ok_ite (fun c_10 => ?_) (fun c_10 => ?_)
        · rw [fa_le] at c_10
          obtain ⟨t_11, ht_11, g_11⟩ : ∃ t : Int, (x3_1 + 1).toInt = t ∧ t = x3_1.toInt + (1 : Int32).toInt := ⟨_, rfl, by have h9 := fb_addI (x := x3_1) (y := (1 : Int32)) (by omega) (by omega); exact h9⟩
          refine ok_lt fun x3_6 e_x3_6 => ?_
          have q_x3_6 : x3_6.toInt = t_11 := by rw [e_x3_6]; exact ht_11
          exact ih_a_4 _ x2_1 x3_6 (by rw [hn_a_4]; omega) ⟨rfl, (by omega), (by omega)⟩
        · rw [fa_le] at c_10
          obtain ⟨t_12, ht_12, g_12⟩ : ∃ t : Int, (x3_1 + 1).toInt = t ∧ t = x3_1.toInt + (1 : Int32).toInt := ⟨_, rfl, by have h9 := fb_addI (x := x3_1) (y := (1 : Int32)) (by omega) (by omega); exact h9⟩
          refine ok_lt fun x3_6 e_x3_6 => ?_
          have q_x3_6 : x3_6.toInt = t_12 := by rw [e_x3_6]; exact ht_12
          exact ih_a_4 _ x3_1 x3_6 (by rw [hn_a_4]; omega) ⟨rfl, (by omega), (by omega)⟩

set_option maxHeartbeats 4000000 in
theorem s_X8_loopsRound {x1 : Int32} {σ : Sto} (hB : BX σ) : OK (f_X8_loopsRound x1 σ) (fun v => True) := by
  unfold f_X8_loopsRound
  have hF : FR [] [] σ σ := FR.rf
  have k_0 : (0 : Int32).toInt = 0 := by decide +kernel
  have k_1 : (1 : Int32).toInt = 1 := by decide +kernel
  refine ok_itr2 (fun (n : Nat) (x2_1 : Int32) (x3_1 : Int32) => n = (41 - x3_1.toInt).toNat ∧ (0 ≤ x3_1.toInt ∧ x3_1.toInt ≤ 40)) ?_ (n := _) ⟨rfl, (by omega)⟩ (show _ < 10000000 by omega)
  intro a_4 n x2_1 x3_1 hI ih_a_4
  obtain ⟨hn_a_4, b_x3_1⟩ := hI
  have g_2 := gX_20 hB 0
  refine ok_ite (fun c_1 => ?_) (fun c_1 => ?_)
  · rw [fa_le] at c_1
    exact ok_ret trivial
  · rw [fa_le] at c_1
    refine ok_ix ⟨by omega, by omega⟩ ?_
    refine ok_lt fun v_3 e_v_3 => ?_
    refine ok_calp (s_X11_isIn (x1 := v_3) (x2 := x1) ) (fun v_4 h_3 => ?_)
    obtain ⟨b_v_4, x_v_4⟩ := h_3
    (try dsimp only at b_v_4 x_v_4)
    refine ok_jn ?_
    refine ok_ite (fun c_4 => ?_) (fun c_4 => ?_)
    · rw [fa_eq] at c_4
      obtain ⟨t_5, ht_5, g_5⟩ : ∃ t : Int, (x3_1 + 1).toInt = t ∧ t = x3_1.toInt + (1 : Int32).toInt := ⟨_, rfl, by have h9 := fb_addI (x := x3_1) (y := (1 : Int32)) (by omega) (by omega); exact h9⟩
      refine ok_lt fun x3_6 e_x3_6 => ?_
      have q_x3_6 : x3_6.toInt = t_5 := by rw [e_x3_6]; exact ht_5
      exact ih_a_4 _ x2_1 x3_6 (by rw [hn_a_4]; omega) ⟨rfl, (by omega)⟩
    · rw [fa_eq] at c_4
      obtain ⟨t_6, ht_6, g_6⟩ : ∃ t : Int, (x2_1 + 1).toInt = t ∧ -2147483648 ≤ t ∧ t ≤ 2147483647 := ⟨_, rfl, tI_rng _⟩
      refine ok_lt fun x2_8 e_x2_8 => ?_
      have q_x2_8 : x2_8.toInt = t_6 := by rw [e_x2_8]; exact ht_6
      obtain ⟨t_7, ht_7, g_7⟩ : ∃ t : Int, (x3_1 + 1).toInt = t ∧ t = x3_1.toInt + (1 : Int32).toInt := ⟨_, rfl, by have h9 := fb_addI (x := x3_1) (y := (1 : Int32)) (by omega) (by omega); exact h9⟩
      refine ok_lt fun x3_6 e_x3_6 => ?_
      have q_x3_6 : x3_6.toInt = t_7 := by rw [e_x3_6]; exact ht_7
      exact ih_a_4 _ x2_8 x3_6 (by rw [hn_a_4]; omega) ⟨rfl, (by omega)⟩

set_option maxHeartbeats 4000000 in
theorem s_X11_bytesIn {x1 : Int32} : OK (f_X11_bytesIn x1) (fun v => True) := by
  unfold f_X11_bytesIn
  have k_m8 : ((-8) : Int32).toInt = -8 := by decide +kernel
  have k_0 : (0 : Int32).toInt = 0 := by decide +kernel
  have k_1 : (1 : Int32).toInt = 1 := by decide +kernel
  have k_24 : (24 : Int32).toInt = 24 := by decide +kernel
  refine ok_itr2 (fun (n : Nat) (x1_1 : Int32) (x2_1 : Int32) => n = (x2_1.toInt - (-1000001)).toNat ∧ ((-1000000) ≤ x2_1.toInt ∧ x2_1.toInt ≤ 24)) ?_ (n := _) ⟨rfl, (by omega)⟩ (show _ < 10000000 by omega)
  intro a_5 n x1_1 x2_1 hI ih_a_5
  obtain ⟨hn_a_5, b_x2_1⟩ := hI
  refine ok_ite (fun c_1 => ?_) (fun c_1 => ?_)
  · rw [fa_lt] at c_1
    exact ok_ret trivial
  · rw [fa_lt] at c_1
    refine ok_jn ?_
    obtain ⟨t_3, ht_3, g_3⟩ : ∃ t : Int, ((x1.toUInt32 >>> (x2_1.toUInt32 &&& (31 : Int32).toUInt32)).toInt32 &&& 255).toInt = t ∧ 0 ≤ t ∧ t ≤ 255 := ⟨_, rfl, and_rng (x := (x1.toUInt32 >>> (x2_1.toUInt32 &&& (31 : Int32).toUInt32)).toInt32) 255 rfl (by decide)⟩
    refine ok_ite (fun c_2 => ?_) (fun c_2 => ?_)
    · rw [fa_eq, ht_3] at c_2
      obtain ⟨t_4, ht_4, g_4⟩ : ∃ t : Int, (x2_1 + (-8)).toInt = t ∧ t = x2_1.toInt + ((-8) : Int32).toInt := ⟨_, rfl, by have h9 := fb_addI (x := x2_1) (y := ((-8) : Int32)) (by omega) (by omega); exact h9⟩
      refine ok_lt fun x2_4 e_x2_4 => ?_
      have q_x2_4 : x2_4.toInt = t_4 := by rw [e_x2_4]; exact ht_4
      exact ih_a_5 _ x1_1 x2_4 (by rw [hn_a_5]; omega) ⟨rfl, (by omega)⟩
    · rw [fa_eq, ht_3] at c_2
      obtain ⟨t_5, ht_5, g_5⟩ : ∃ t : Int, (x1_1 + 1).toInt = t ∧ -2147483648 ≤ t ∧ t ≤ 2147483647 := ⟨_, rfl, tI_rng _⟩
      refine ok_lt fun x1_6 e_x1_6 => ?_
      have q_x1_6 : x1_6.toInt = t_5 := by rw [e_x1_6]; exact ht_5
      obtain ⟨t_6, ht_6, g_6⟩ : ∃ t : Int, (x2_1 + (-8)).toInt = t ∧ t = x2_1.toInt + ((-8) : Int32).toInt := ⟨_, rfl, by have h9 := fb_addI (x := x2_1) (y := ((-8) : Int32)) (by omega) (by omega); exact h9⟩
      refine ok_lt fun x2_4 e_x2_4 => ?_
      have q_x2_4 : x2_4.toInt = t_6 := by rw [e_x2_4]; exact ht_6
      exact ih_a_5 _ x1_6 x2_4 (by rw [hn_a_5]; omega) ⟨rfl, (by omega)⟩

set_option maxHeartbeats 4000000 in
theorem s_X9_append {x1 : Int32} {σ : Sto} (hB : BX σ) : OK (f_X9_append x1 σ) (fun s => BX s ∧ FR [1, 2] [] σ s) := by
  unfold f_X9_append
  have hF : FR [1, 2] [] σ σ := FR.rf
  have k_m8 : ((-8) : Int32).toInt = -8 := by decide +kernel
  have k_0 : (0 : Int32).toInt = 0 := by decide +kernel
  have k_1 : (1 : Int32).toInt = 1 := by decide +kernel
  have k_24 : (24 : Int32).toInt = 24 := by decide +kernel
  have k_240 : (240 : Int32).toInt = 240 := by decide +kernel
  refine ok_itr2 (fun (n : Nat) (x2_1 : Int32) (s_1 : Sto) => n = (x2_1.toInt - (-1000001)).toNat ∧ ((-1000000) ≤ x2_1.toInt ∧ x2_1.toInt ≤ 24) ∧ (BX s_1) ∧ (FR [1, 2] [] σ s_1)) ?_ (n := _) ⟨rfl, (by omega), hB, hF⟩ (show _ < 10000000 by omega)
  intro a_3 n x2_1 s_1 hI ih_a_3
  obtain ⟨hn_a_3, b_x2_1, hB_s_1, hF_s_1⟩ := hI
  refine ok_ite (fun c_1 => ?_) (fun c_1 => ?_)
  · rw [fa_lt] at c_1
    exact ok_ret ⟨hB_s_1, hF_s_1⟩
  · rw [fa_lt] at c_1
    obtain ⟨t_2, ht_2, g_2⟩ : ∃ t : Int, ((x1.toUInt32 >>> (x2_1.toUInt32 &&& (31 : Int32).toUInt32)).toInt32 &&& 255).toInt = t ∧ 0 ≤ t ∧ t ≤ 255 := ⟨_, rfl, and_rng (x := (x1.toUInt32 >>> (x2_1.toUInt32 &&& (31 : Int32).toUInt32)).toInt32) 255 rfl (by decide)⟩
    refine ok_lt fun x3_3 e_x3_3 => ?_
    have q_x3_3 : x3_3.toInt = t_2 := by rw [e_x3_3]; exact ht_2
    refine ok_jn ?_
    refine ok_ite (fun c_3 => ?_) (fun c_3 => ?_)
    · rw [fa_eq] at c_3
      obtain ⟨t_4, ht_4, g_4⟩ : ∃ t : Int, (x2_1 + (-8)).toInt = t ∧ t = x2_1.toInt + ((-8) : Int32).toInt := ⟨_, rfl, by have h9 := fb_addI (x := x2_1) (y := ((-8) : Int32)) (by omega) (by omega); exact h9⟩
      refine ok_lt fun x2_5 e_x2_5 => ?_
      have q_x2_5 : x2_5.toInt = t_4 := by rw [e_x2_5]; exact ht_4
      exact ih_a_3 _ x2_5 s_1 (by rw [hn_a_3]; omega) ⟨rfl, (by omega), hB_s_1, hF_s_1⟩
    · rw [fa_eq] at c_3
      have g_6 := gX_2 hB_s_1 0
      refine ok_ite (fun c_5 => ?_) (fun c_5 => ?_)
      · rw [fa_le] at c_5
        obtain ⟨t_7, ht_7, g_7⟩ : ∃ t : Int, (x2_1 + (-8)).toInt = t ∧ t = x2_1.toInt + ((-8) : Int32).toInt := ⟨_, rfl, by have h9 := fb_addI (x := x2_1) (y := ((-8) : Int32)) (by omega) (by omega); exact h9⟩
        refine ok_lt fun x2_5 e_x2_5 => ?_
        have q_x2_5 : x2_5.toInt = t_7 := by rw [e_x2_5]; exact ht_7
        exact ih_a_3 _ x2_5 s_1 (by rw [hn_a_3]; omega) ⟨rfl, (by omega), hB_s_1, hF_s_1⟩
      · rw [fa_le] at c_5
        refine ok_ix ⟨by omega, by omega⟩ ?_
        obtain ⟨t_8, ht_8, g_8⟩ : ∃ t : Int, (((x3_3.toInt8).toInt32).toInt8).toInt32.toInt = t ∧ -128 ≤ t ∧ t ≤ 127 := ⟨_, rfl, i8_rng _⟩
        refine ok_lt fun s_8 e_s_8 => ?_
        have hB_s_8 : BX s_8 := by rw [e_s_8]; exact pX_1 hB_s_1 (by rw [ht_8]; omega)
        have hF_s_8 : FR [1, 2] [] σ s_8 := by rw [e_s_8]; exact FR.st hF_s_1 (by decide)
        have w_s_8_2 : (s_8.1 2 0).toInt = (s_1.1 2 0).toInt := by rw [e_s_8]; rfl
        have g_9 := gX_2 hB_s_8 0
        obtain ⟨t_10, ht_10, g_10⟩ : ∃ t : Int, ((s_8.1 2 0) + 1).toInt = t ∧ t = (s_8.1 2 0).toInt + (1 : Int32).toInt := ⟨_, rfl, by have h9 := fb_addI (x := (s_8.1 2 0)) (y := (1 : Int32)) (by omega) (by omega); exact h9⟩
        refine ok_lt fun s_9 e_s_9 => ?_
        have hB_s_9 : BX s_9 := by rw [e_s_9]; exact pX_2 hB_s_8 (by rw [ht_10]; omega)
        have hF_s_9 : FR [1, 2] [] σ s_9 := by rw [e_s_9]; exact FR.st hF_s_8 (by decide)
        have w_s_9_2 : (s_9.1 2 0).toInt = t_10 := by rw [e_s_9, sti_s, ht_10]
        obtain ⟨t_11, ht_11, g_11⟩ : ∃ t : Int, (x2_1 + (-8)).toInt = t ∧ t = x2_1.toInt + ((-8) : Int32).toInt := ⟨_, rfl, by have h9 := fb_addI (x := x2_1) (y := ((-8) : Int32)) (by omega) (by omega); exact h9⟩
        refine ok_lt fun x2_5 e_x2_5 => ?_
        have q_x2_5 : x2_5.toInt = t_11 := by rw [e_x2_5]; exact ht_11
        exact ih_a_3 _ x2_5 s_9 (by rw [hn_a_3]; omega) ⟨rfl, (by omega), hB_s_9, hF_s_9⟩

set_option maxHeartbeats 4000000 in
theorem s_X11_feed {x1 : Int32} {x2 : Int32} {x3 : Int32} {x4 : Int32} {x5 : Int32} {σ : Sto} (hB : BX σ) : OK (f_X11_feed x1 x2 x3 x4 x5 σ) (fun r => ((-1) ≤ r.1.toInt ∧ r.1.toInt ≤ 240) ∧ BX r.2 ∧ FR [1, 2] [] σ r.2) := by
  unfold f_X11_feed
  have hF : FR [1, 2] [] σ σ := FR.rf
  have k_m1 : ((-1) : Int32).toInt = -1 := by decide +kernel
  have k_240 : (240 : Int32).toInt = 240 := by decide +kernel
  refine ok_calp (s_X11_bytesIn (x1 := x1) ) (fun v_1 h_1 => ?_)
  have b_v_1 := h_1
  (try dsimp only at b_v_1)
  refine ok_calp (s_X11_bytesIn (x1 := x2) ) (fun v_2 h_2 => ?_)
  have b_v_2 := h_2
  (try dsimp only at b_v_2)
  refine ok_calp (s_X11_bytesIn (x1 := x3) ) (fun v_3 h_3 => ?_)
  have b_v_3 := h_3
  (try dsimp only at b_v_3)
  refine ok_calp (s_X11_bytesIn (x1 := x4) ) (fun v_4 h_4 => ?_)
  have b_v_4 := h_4
  (try dsimp only at b_v_4)
  refine ok_calp (s_X11_bytesIn (x1 := x5) ) (fun v_5 h_5 => ?_)
  have b_v_5 := h_5
  (try dsimp only at b_v_5)
  obtain ⟨t_6, ht_6, g_6⟩ : ∃ t : Int, (v_1 + v_2).toInt = t ∧ -2147483648 ≤ t ∧ t ≤ 2147483647 := ⟨_, rfl, tI_rng _⟩
  obtain ⟨t_7, ht_7, g_7⟩ : ∃ t : Int, ((v_1 + v_2) + v_3).toInt = t ∧ -2147483648 ≤ t ∧ t ≤ 2147483647 := ⟨_, rfl, tI_rng _⟩
  obtain ⟨t_8, ht_8, g_8⟩ : ∃ t : Int, (((v_1 + v_2) + v_3) + v_4).toInt = t ∧ -2147483648 ≤ t ∧ t ≤ 2147483647 := ⟨_, rfl, tI_rng _⟩
  obtain ⟨t_9, ht_9, g_9⟩ : ∃ t : Int, ((((v_1 + v_2) + v_3) + v_4) + v_5).toInt = t ∧ -2147483648 ≤ t ∧ t ≤ 2147483647 := ⟨_, rfl, tI_rng _⟩
  refine ok_lt fun x6_6 e_x6_6 => ?_
  have q_x6_6 : x6_6.toInt = t_9 := by rw [e_x6_6]; exact ht_9
  have g_11 := gX_2 hB 0
  obtain ⟨t_12, ht_12, g_12⟩ : ∃ t : Int, ((σ.1 2 0) + x6_6).toInt = t ∧ -2147483648 ≤ t ∧ t ≤ 2147483647 := ⟨_, rfl, tI_rng _⟩
  refine ok_ite (fun c_10 => ?_) (fun c_10 => ?_)
  · rw [fa_le, ht_12] at c_10
    refine ok_cals (s_X9_append (x1 := x1) (σ := σ) hB) (fun s_8 h_13 => ?_)
    obtain ⟨hB_s_8, hG_s_8⟩ := h_13
    (try dsimp only at hB_s_8 hG_s_8)
    have hF_s_8 : FR [1, 2] [] σ s_8 := FR.cal hF hG_s_8 rfl rfl
    refine ok_cals (s_X9_append (x1 := x2) (σ := s_8) hB_s_8) (fun s_9 h_14 => ?_)
    obtain ⟨hB_s_9, hG_s_9⟩ := h_14
    (try dsimp only at hB_s_9 hG_s_9)
    have hF_s_9 : FR [1, 2] [] σ s_9 := FR.cal hF_s_8 hG_s_9 rfl rfl
    refine ok_cals (s_X9_append (x1 := x3) (σ := s_9) hB_s_9) (fun s_10 h_15 => ?_)
    obtain ⟨hB_s_10, hG_s_10⟩ := h_15
    (try dsimp only at hB_s_10 hG_s_10)
    have hF_s_10 : FR [1, 2] [] σ s_10 := FR.cal hF_s_9 hG_s_10 rfl rfl
    refine ok_cals (s_X9_append (x1 := x4) (σ := s_10) hB_s_10) (fun s_11 h_16 => ?_)
    obtain ⟨hB_s_11, hG_s_11⟩ := h_16
    (try dsimp only at hB_s_11 hG_s_11)
    have hF_s_11 : FR [1, 2] [] σ s_11 := FR.cal hF_s_10 hG_s_11 rfl rfl
    refine ok_cals (s_X9_append (x1 := x5) (σ := s_11) hB_s_11) (fun s_12 h_17 => ?_)
    obtain ⟨hB_s_12, hG_s_12⟩ := h_17
    (try dsimp only at hB_s_12 hG_s_12)
    have hF_s_12 : FR [1, 2] [] σ s_12 := FR.cal hF_s_11 hG_s_12 rfl rfl
    have g_18 := gX_2 hB_s_12 0
    exact ok_ret ⟨(by (try dsimp only); omega), hB_s_12, hF_s_12⟩
  · rw [fa_le, ht_12] at c_10
    exact ok_ret ⟨(by (try dsimp only); omega), hB, hF⟩

set_option maxHeartbeats 4000000 in
theorem s_X11_end {x1 : Int32} {σ : Sto} (hB : BX σ) : OK (f_X11_end x1 σ) (fun r => (0 ≤ r.1.toInt ∧ r.1.toInt ≤ 1) ∧ BX r.2 ∧ FR [2] [] σ r.2) := by
  unfold f_X11_end
  have hF : FR [2] [] σ σ := FR.rf
  have k_0 : (0 : Int32).toInt = 0 := by decide +kernel
  have k_1 : (1 : Int32).toInt = 1 := by decide +kernel
  refine ok_ite (fun c_1 => ?_) (fun c_1 => ?_)
  · rw [fa_lt] at c_1
    exact ok_ret ⟨(by (try dsimp only); omega), hB, hF⟩
  · rw [fa_lt] at c_1
    have g_3 := gX_2 hB 0
    refine ok_ite (fun c_2 => ?_) (fun c_2 => ?_)
    · rw [fa_le] at c_2
      refine ok_lt fun s_3 e_s_3 => ?_
      have hB_s_3 : BX s_3 := by rw [e_s_3]; exact pX_2 hB (by omega)
      have hF_s_3 : FR [2] [] σ s_3 := by rw [e_s_3]; exact FR.st hF (by decide)
      have w_s_3_2 : (s_3.1 2 0).toInt = x1.toInt := by rw [e_s_3, sti_s]
      exact ok_ret ⟨(by (try dsimp only); omega), hB_s_3, hF_s_3⟩
    · rw [fa_le] at c_2
      exact ok_ret ⟨(by (try dsimp only); omega), hB, hF⟩

set_option maxHeartbeats 4000000 in
theorem s_X9_current {σ : Sto} (hB : BX σ) : OK (f_X9_current σ) (fun v => (0 ≤ v.toInt ∧ v.toInt ≤ 255) ∧ (((σ.1 2 0).toInt ≤ (σ.1 3 0).toInt → v.toInt = 0) ∧ ((σ.1 3 0).toInt < (σ.1 2 0).toInt → v.toInt = cb (σ.1 1) (σ.1 3 0).toInt.toNat))) := by
  unfold f_X9_current
  have hF : FR [] [] σ σ := FR.rf
  have k_0 : (0 : Int32).toInt = 0 := by decide +kernel
  have g_2 := gX_2 hB 0
  have g_3 := gX_3 hB 0
  refine ok_ite (fun c_1 => ?_) (fun c_1 => ?_)
  · rw [fa_le] at c_1
    exact ok_ret ⟨(by (try dsimp only); omega), (by (try dsimp only); first | exact ⟨fun _ => k_0, fun h => absurd h (by omega)⟩ | exact ⟨fun h => absurd h (by omega), fun _ => by rw [e_v_2]; rfl⟩)⟩
  · rw [fa_le] at c_1
    refine ok_ix ⟨by omega, by omega⟩ ?_
    have g_4 := gX_1 hB ((σ.1 3 0).toNatClampNeg)
    refine ok_lt fun v_2 e_v_2 => ?_
    have b_v_2 : (-128) ≤ v_2.toInt ∧ v_2.toInt ≤ 127 := by rw [e_v_2]; exact gX_1 hB _
    obtain ⟨t_5, ht_5, g_5⟩ : ∃ t : Int, (v_2 &&& 255).toInt = t ∧ 0 ≤ t ∧ t ≤ 255 := ⟨_, rfl, and_rng (x := v_2) 255 rfl (by decide)⟩
    exact ok_ret ⟨(by (try dsimp only); rw [ht_5]; omega), (by (try dsimp only); first | exact ⟨fun _ => k_0, fun h => absurd h (by omega)⟩ | exact ⟨fun h => absurd h (by omega), fun _ => by rw [e_v_2]; rfl⟩)⟩

set_option maxHeartbeats 4000000 in
theorem s_X9_skipBlanks {σ : Sto} (hB : BX σ) (hle : (σ.1 3 0).toInt ≤ (σ.1 2 0).toInt) : OK (f_X9_skipBlanks σ) (fun s => BX s ∧ FR [3] [] σ s ∧ ((s.1 3 0).toInt.toNat = skP (σ.1 2 0).toInt.toNat (cb (σ.1 1)) (σ.1 3 0).toInt.toNat ∧ (σ.1 3 0).toInt ≤ (s.1 3 0).toInt ∧ (s.1 3 0).toInt ≤ (σ.1 2 0).toInt)) := by
  unfold f_X9_skipBlanks
  have hF : FR [3] [] σ σ := FR.rf
  have k_1 : (1 : Int32).toInt = 1 := by decide +kernel
  have k_32 : (32 : Int32).toInt = 32 := by decide +kernel
  have h3 := gX_3 hB 0
  have h2 := gX_2 hB 0
  refine ok_itr1 (fun (n : Nat) (s_1 : Sto) => n = (241 - (s_1.1 3 0).toInt).toNat ∧ (BX s_1) ∧ (FR [3] [] σ s_1) ∧ ((σ.1 3 0).toInt ≤ (s_1.1 3 0).toInt) ∧ ((s_1.1 3 0).toInt ≤ (σ.1 2 0).toInt ∨ (s_1.1 3 0).toInt = (σ.1 3 0).toInt) ∧ (∀ i : Nat, (σ.1 3 0).toInt.toNat ≤ i → i < (s_1.1 3 0).toInt.toNat → cb (σ.1 1) i = 32)) ?_ (n := _) ⟨rfl, hB, hF, (by omega), (by omega), (fun i h1 h2 => by exfalso; omega)⟩ (show _ < 10000000 by omega)
  intro a_0 n s_1 hI ih_a_0
  obtain ⟨hn_a_0, hB_s_1, hF_s_1, ha, hb, hbl⟩ := hI
  have f_s_1_2 : (s_1.1 2 0).toInt = (σ.1 2 0).toInt := by rw [hF_s_1.1 2 (by decide)]
  have g_2 := gX_2 hB_s_1 0
  have g_3 : (s_1.1 2 0).toInt = (σ.1 2 0).toInt := by rw [hF_s_1.1 2 (by decide)]
  have g_4 := gX_2 hB 0
  have g_5 := gX_3 hB_s_1 0
  refine ok_ite (fun c_1 => ?_) (fun c_1 => ?_)
  · rw [fa_le] at c_1
    exact ok_ret ⟨hB_s_1, hF_s_1, ⟨(skP_eq (by omega) (by omega) hbl (fun h => by omega)).symm, by omega, by omega⟩⟩
  · rw [fa_le] at c_1
    refine ok_calp (s_X9_current  (σ := s_1) hB_s_1) (fun v_3 h_6 => ?_)
    obtain ⟨b_v_3, x_v_3⟩ := h_6
    (try dsimp only at b_v_3 x_v_3)
    rw [hF_s_1.1 1 (by decide)] at x_v_3
    refine ok_ite (fun c_7 => ?_) (fun c_7 => ?_)
    · rw [fa_eq] at c_7
      obtain ⟨t_8, ht_8, g_8⟩ : ∃ t : Int, ((s_1.1 3 0) + 1).toInt = t ∧ t = (s_1.1 3 0).toInt + (1 : Int32).toInt := ⟨_, rfl, by have h9 := fb_addI (x := (s_1.1 3 0)) (y := (1 : Int32)) (by omega) (by omega); exact h9⟩
      refine ok_lt fun s_5 e_s_5 => ?_
      have hB_s_5 : BX s_5 := by rw [e_s_5]; exact pX_3 hB_s_1 (by rw [ht_8]; omega)
      have hF_s_5 : FR [3] [] σ s_5 := by rw [e_s_5]; exact FR.st hF_s_1 (by decide)
      have w_s_5_3 : (s_5.1 3 0).toInt = t_8 := by rw [e_s_5, sti_s, ht_8]
      have f_s_5_2 : (s_5.1 2 0).toInt = (σ.1 2 0).toInt := by rw [hF_s_5.1 2 (by decide)]
      exact ih_a_0 _ s_5 (by rw [hn_a_0]; omega) ⟨rfl, hB_s_5, hF_s_5, (by omega), (by omega), (fun i h1 h2 => by by_cases q : i = (s_1.1 3 0).toInt.toNat; (rw [q]; omega); exact hbl i h1 (by omega))⟩
    · rw [fa_eq] at c_7
      exact ok_ret ⟨hB_s_1, hF_s_1, ⟨(skP_eq (by omega) (by omega) hbl (fun h => by omega)).symm, by omega, by omega⟩⟩

set_option maxHeartbeats 4000000 in
theorem s_X9_readNumber {x1 : Int32} {σ : Sto} (hB : BX σ) (p_x1 : 0 ≤ x1.toInt ∧ x1.toInt ≤ 999) (ha : (σ.1 3 0).toInt < (σ.1 2 0).toInt) : OK (f_X9_readNumber x1 σ) (fun r => ((-1) ≤ r.1.toInt ∧ r.1.toInt ≤ 999) ∧ BX r.2 ∧ FR [3] [] σ r.2 ∧ (r.1.toInt ≤ x1.toInt ∧ (r.1.toInt, (r.2.1 3 0).toInt.toNat) = rdN (σ.1 2 0).toInt.toNat (cb (σ.1 1)) x1.toInt (σ.1 3 0).toInt.toNat ∧ (r.2.1 3 0).toInt ≤ (σ.1 2 0).toInt)) := by
  unfold f_X9_readNumber
  have hF : FR [3] [] σ σ := FR.rf
  have k_m1 : ((-1) : Int32).toInt = -1 := by decide +kernel
  have k_0 : (0 : Int32).toInt = 0 := by decide +kernel
  have k_1 : (1 : Int32).toInt = 1 := by decide +kernel
  have k_10 : (10 : Int32).toInt = 10 := by decide +kernel
  have k_48 : (48 : Int32).toInt = 48 := by decide +kernel
  have k_57 : (57 : Int32).toInt = 57 := by decide +kernel
  have g2 := gX_2 hB 0
  have g3 := gX_3 hB 0
  have g_1 := gX_3 hB 0
  obtain ⟨t_2, ht_2, g_2⟩ : ∃ t : Int, ((σ.1 3 0) + 1).toInt = t ∧ t = (σ.1 3 0).toInt + (1 : Int32).toInt := ⟨_, rfl, by have h9 := fb_addI (x := (σ.1 3 0)) (y := (1 : Int32)) (by omega) (by omega); exact h9⟩
  refine ok_lt fun s_1 e_s_1 => ?_
  have hB_s_1 : BX s_1 := by rw [e_s_1]; exact pX_3 hB (by rw [ht_2]; omega)
  have hF_s_1 : FR [3] [] σ s_1 := by rw [e_s_1]; exact FR.st hF (by decide)
  have w_s_1_3 : (s_1.1 3 0).toInt = t_2 := by rw [e_s_1, sti_s, ht_2]
  have f_s_1_2 : (s_1.1 2 0).toInt = (σ.1 2 0).toInt := by rw [hF_s_1.1 2 (by decide)]
  refine ok_cals (s_X9_skipBlanks  (σ := s_1) hB_s_1 (by omega)) (fun s_2 h_3 => ?_)
  obtain ⟨hB_s_2, hG_s_2, x_s_2⟩ := h_3
  (try dsimp only at hB_s_2 hG_s_2 x_s_2)
  have hF_s_2 : FR [3] [] σ s_2 := FR.cal hF_s_1 hG_s_2 rfl rfl
  have f_s_2_2 : (s_2.1 2 0).toInt = (σ.1 2 0).toInt := by rw [hF_s_2.1 2 (by decide)]
  have g3b := gX_3 hB_s_2 0
  rw [hF_s_1.1 2 (by decide), hF_s_1.1 1 (by decide), show (s_1.1 3 0).toInt.toNat = (σ.1 3 0).toInt.toNat + 1 by omega] at x_s_2
  refine ok_itr2 (fun (n : Nat) (x2_3 : Int32) (s_3 : Sto) => n = (241 - (s_3.1 3 0).toInt).toNat ∧ ((-1) ≤ x2_3.toInt ∧ x2_3.toInt ≤ 999) ∧ (BX s_3) ∧ (FR [3] [] σ s_3) ∧ (x2_3.toInt ≤ x1.toInt) ∧ ((s_3.1 3 0).toInt ≤ (σ.1 2 0).toInt) ∧ (nuP (σ.1 2 0).toInt.toNat (cb (σ.1 1)) x1.toInt ((σ.1 2 0).toInt.toNat - (s_3.1 3 0).toInt.toNat) x2_3.toInt (s_3.1 3 0).toInt.toNat = rdN (σ.1 2 0).toInt.toNat (cb (σ.1 1)) x1.toInt (σ.1 3 0).toInt.toNat)) ?_ (n := _) ⟨rfl, (by omega), hB_s_2, hF_s_2, (by omega), (by omega), (by rw [x_s_2.1]; unfold rdN nuQ; rw [k_m1])⟩ (show _ < 10000000 by omega)
  intro a_16 n x2_3 s_3 hI ih_a_16
  obtain ⟨hn_a_16, b_x2_3, hB_s_3, hF_s_3, hm, hal, jT⟩ := hI
  have f_s_3_2 : (s_3.1 2 0).toInt = (σ.1 2 0).toInt := by rw [hF_s_3.1 2 (by decide)]
  have g_5 := gX_2 hB_s_3 0
  have g_6 : (s_3.1 2 0).toInt = (σ.1 2 0).toInt := by rw [hF_s_3.1 2 (by decide)]
  have g_7 := gX_2 hB 0
  have g_8 := gX_3 hB_s_3 0
  refine ok_ite (fun c_4 => ?_) (fun c_4 => ?_)
  · rw [fa_le] at c_4
    exact ok_ret ⟨(by (try dsimp only); omega), hB_s_3, hF_s_3, ⟨by (try dsimp only); omega, by (try dsimp only); first | exact nu_end jT (by omega) | (rw [k_m1]; exact nu_bad jT (by omega) (by omega) hdg (by omega)), by (try dsimp only); omega⟩⟩
  · rw [fa_le] at c_4
    refine ok_calp (s_X9_current  (σ := s_3) hB_s_3) (fun v_5 h_9 => ?_)
    obtain ⟨b_v_5, x_v_5⟩ := h_9
    (try dsimp only at b_v_5 x_v_5)
    rw [hF_s_3.1 1 (by decide)] at x_v_5
    refine ok_ite (fun c_10 => ?_) (fun c_10 => ?_)
    · rw [fa_lt] at c_10
      exact ok_ret ⟨(by (try dsimp only); omega), hB_s_3, hF_s_3, ⟨by (try dsimp only); omega, by (try dsimp only); first | exact nu_end jT (by omega) | (rw [k_m1]; exact nu_bad jT (by omega) (by omega) hdg (by omega)), by (try dsimp only); omega⟩⟩
    · rw [fa_lt] at c_10
      refine ok_calp (s_X9_current  (σ := s_3) hB_s_3) (fun v_7 h_11 => ?_)
      obtain ⟨b_v_7, x_v_7⟩ := h_11
      (try dsimp only at b_v_7 x_v_7)
      rw [hF_s_3.1 1 (by decide)] at x_v_7
      refine ok_ite (fun c_12 => ?_) (fun c_12 => ?_)
      · rw [fa_lt] at c_12
        exact ok_ret ⟨(by (try dsimp only); omega), hB_s_3, hF_s_3, ⟨by (try dsimp only); omega, by (try dsimp only); first | exact nu_end jT (by omega) | (rw [k_m1]; exact nu_bad jT (by omega) (by omega) hdg (by omega)), by (try dsimp only); omega⟩⟩
      · rw [fa_lt] at c_12
        obtain ⟨t_13, ht_13, g_13⟩ : ∃ t : Int, (if x2_3 < (0 : Int32) then (0 : Int32) else x2_3).toInt = t ∧ -2147483648 ≤ t ∧ t ≤ 2147483647 := ⟨_, rfl, tI_rng _⟩
        refine ok_lt fun v_9 e_v_9 => ?_
        have b_v_9 := mx_spec e_v_9
        refine ok_calp (s_X9_current  (σ := s_3) hB_s_3) (fun v_10 h_14 => ?_)
        obtain ⟨b_v_10, x_v_10⟩ := h_14
        (try dsimp only at b_v_10 x_v_10)
        rw [hF_s_3.1 1 (by decide)] at x_v_10
        obtain ⟨t_15, ht_15, g_15⟩ : ∃ t : Int, (v_9 * 10).toInt = t ∧ t = v_9.toInt * 10 := ⟨_, rfl, by have h9 := fb_mulI (x := v_9) (y := (10 : Int32)) (by rw [k_10]; omega) (by rw [k_10]; omega); rw [k_10] at h9; exact h9⟩
        obtain ⟨t_16, ht_16, g_16⟩ : ∃ t : Int, ((v_9 * 10) + v_10).toInt = t ∧ t = t_15 + v_10.toInt := ⟨_, rfl, by have h9 := fb_addI (x := (v_9 * 10)) (y := v_10) (by rw [ht_15]; omega) (by rw [ht_15]; omega); rw [ht_15] at h9; exact h9⟩
        obtain ⟨t_17, ht_17, g_17⟩ : ∃ t : Int, (((v_9 * 10) + v_10) - 48).toInt = t ∧ t = t_16 - (48 : Int32).toInt := ⟨_, rfl, by have h9 := fb_subI (x := ((v_9 * 10) + v_10)) (y := (48 : Int32)) (by rw [ht_16]; omega) (by rw [ht_16]; omega); rw [ht_16] at h9; exact h9⟩
        refine ok_lt fun x3_11 e_x3_11 => ?_
        have q_x3_11 : x3_11.toInt = t_17 := by rw [e_x3_11]; exact ht_17
        have hdg : x3_11.toInt = dg x2_3.toInt (cb (σ.1 1) (s_3.1 3 0).toInt.toNat) := by unfold dg; by_cases q : 0 ≤ x2_3.toInt; (rw [if_pos q]; omega); (rw [if_neg q]; omega)
        refine ok_ite (fun c_18 => ?_) (fun c_18 => ?_)
        · rw [fa_le] at c_18
          obtain ⟨t_19, ht_19, g_19⟩ : ∃ t : Int, ((s_3.1 3 0) + 1).toInt = t ∧ t = (s_3.1 3 0).toInt + (1 : Int32).toInt := ⟨_, rfl, by have h9 := fb_addI (x := (s_3.1 3 0)) (y := (1 : Int32)) (by omega) (by omega); exact h9⟩
          refine ok_lt fun s_13 e_s_13 => ?_
          have hB_s_13 : BX s_13 := by rw [e_s_13]; exact pX_3 hB_s_3 (by rw [ht_19]; omega)
          have hF_s_13 : FR [3] [] σ s_13 := by rw [e_s_13]; exact FR.st hF_s_3 (by decide)
          have w_s_13_3 : (s_13.1 3 0).toInt = t_19 := by rw [e_s_13, sti_s, ht_19]
          have f_s_13_2 : (s_13.1 2 0).toInt = (σ.1 2 0).toInt := by rw [hF_s_13.1 2 (by decide)]
          exact ih_a_16 _ x3_11 s_13 (by rw [hn_a_16]; omega) ⟨rfl, (by omega), hB_s_13, hF_s_13, (by omega), (by omega), (by have q := nu_on (g := (σ.1 2 0).toInt.toNat - (s_13.1 3 0).toInt.toNat) jT (by omega) (by omega) hdg (by omega); rw [show (s_3.1 3 0).toInt.toNat + 1 = (s_13.1 3 0).toInt.toNat by omega] at q; exact q)⟩
        · rw [fa_le] at c_18
          exact ok_ret ⟨(by (try dsimp only); omega), hB_s_3, hF_s_3, ⟨by (try dsimp only); omega, by (try dsimp only); first | exact nu_end jT (by omega) | (rw [k_m1]; exact nu_bad jT (by omega) (by omega) hdg (by omega)), by (try dsimp only); omega⟩⟩

set_option maxHeartbeats 4000000 in
theorem s_X9_isAtComma {σ : Sto} (hB : BX σ) (hle : (σ.1 3 0).toInt ≤ (σ.1 2 0).toInt) : OK (f_X9_isAtComma σ) (fun r => (0 ≤ r.1.toInt ∧ r.1.toInt ≤ 1) ∧ BX r.2 ∧ FR [3] [] σ r.2 ∧ ((r.2.1 3 0).toInt.toNat = skP (σ.1 2 0).toInt.toNat (cb (σ.1 1)) (σ.1 3 0).toInt.toNat ∧ IfP r.1.toInt (isC (σ.1 2 0).toInt.toNat (cb (σ.1 1)) (skP (σ.1 2 0).toInt.toNat (cb (σ.1 1)) (σ.1 3 0).toInt.toNat)) ∧ (σ.1 3 0).toInt ≤ (r.2.1 3 0).toInt ∧ (r.2.1 3 0).toInt ≤ (σ.1 2 0).toInt)) := by
  unfold f_X9_isAtComma
  have hF : FR [3] [] σ σ := FR.rf
  have k_0 : (0 : Int32).toInt = 0 := by decide +kernel
  have k_1 : (1 : Int32).toInt = 1 := by decide +kernel
  have k_44 : (44 : Int32).toInt = 44 := by decide +kernel
  have h3 := gX_3 hB 0
  have h2 := gX_2 hB 0
  refine ok_cals (s_X9_skipBlanks  (σ := σ) hB (by omega)) (fun s_1 h_1 => ?_)
  obtain ⟨hB_s_1, hG_s_1, x_s_1⟩ := h_1
  (try dsimp only at hB_s_1 hG_s_1 x_s_1)
  have hF_s_1 : FR [3] [] σ s_1 := FR.cal hF hG_s_1 rfl rfl
  have f_s_1_2 : (s_1.1 2 0).toInt = (σ.1 2 0).toInt := by rw [hF_s_1.1 2 (by decide)]
  refine ok_jn ?_
  have g_3 := gX_2 hB_s_1 0
  have g_4 : (s_1.1 2 0).toInt = (σ.1 2 0).toInt := by rw [hF_s_1.1 2 (by decide)]
  have g_5 := gX_2 hB 0
  have g_6 := gX_3 hB_s_1 0
  refine ok_ite (fun c_2 => ?_) (fun c_2 => ?_)
  · rw [fa_le] at c_2
    exact ok_ret ⟨(by (try dsimp only); omega), hB_s_1, hF_s_1, ⟨x_s_1.1, by (try dsimp only); rw [← x_s_1.1]; exact ⟨fun h => by omega, fun h => by omega⟩, x_s_1.2⟩⟩
  · rw [fa_le] at c_2
    refine ok_calp (s_X9_current  (σ := s_1) hB_s_1) (fun v_4 h_7 => ?_)
    obtain ⟨b_v_4, x_v_4⟩ := h_7
    (try dsimp only at b_v_4 x_v_4)
    rw [hF_s_1.1 1 (by decide)] at x_v_4
    refine ok_ite (fun c_8 => ?_) (fun c_8 => ?_)
    · rw [fa_eq] at c_8
      exact ok_ret ⟨(by (try dsimp only); omega), hB_s_1, hF_s_1, ⟨x_s_1.1, by (try dsimp only); rw [← x_s_1.1]; exact ⟨fun h => by omega, fun h => by omega⟩, x_s_1.2⟩⟩
    · rw [fa_eq] at c_8
      exact ok_ret ⟨(by (try dsimp only); omega), hB_s_1, hF_s_1, ⟨x_s_1.1, by (try dsimp only); rw [← x_s_1.1]; exact ⟨fun h => by omega, fun h => by omega⟩, x_s_1.2⟩⟩

set_option maxHeartbeats 4000000 in
theorem s_X9_readHandler_draft {σ : Sto} (hB : BX σ) (ha : (σ.1 3 0).toInt < (σ.1 2 0).toInt) : OK (f_X9_readHandler_draft σ) (fun r => (0 ≤ r.1.toInt ∧ r.1.toInt ≤ 1) ∧ BX r.2 ∧ FR [3, 13, 17, 18, 19] [] σ r.2 ∧ ((cb (σ.1 1) (σ.1 3 0).toInt.toNat ≠ 104 ∨ (σ.1 13 0).toInt = 3 → r.1.toInt = 0 ∧ (r.2.1 3 0).toInt = (σ.1 3 0).toInt) ∧ (¬ (cb (σ.1 1) (σ.1 3 0).toInt.toNat ≠ 104 ∨ (σ.1 13 0).toInt = 3) → ∃ (b : Nat) (x y w : Int), (r.1.toInt, b, x, y, w) = haP (σ.1 2 0).toInt.toNat (cb (σ.1 1)) (σ.1 3 0).toInt.toNat ∧ (r.2.1 3 0).toInt.toNat = b ∧ (r.1.toInt = 1 → (r.2.1 13 0).toInt = (σ.1 13 0).toInt + 1 ∧ mk0 ((σ.1 13 0).toInt.toNat + 1) (r.2.1 17) = upI (mk0 (σ.1 13 0).toInt.toNat (σ.1 17)) (σ.1 13 0).toInt.toNat x ∧ mk0 ((σ.1 13 0).toInt.toNat + 1) (r.2.1 18) = upI (mk0 (σ.1 13 0).toInt.toNat (σ.1 18)) (σ.1 13 0).toInt.toNat y ∧ mk0 ((σ.1 13 0).toInt.toNat + 1) (r.2.1 19) = upI (mk0 (σ.1 13 0).toInt.toNat (σ.1 19)) (σ.1 13 0).toInt.toNat w)) ∧ (r.2.1 3 0).toInt ≤ (σ.1 2 0).toInt)) := by
  unfold f_X9_readHandler_draft
  have hF : FR [3, 13, 17, 18, 19] [] σ σ := FR.rf
  have k_m1 : ((-1) : Int32).toInt = -1 := by decide +kernel
  have k_0 : (0 : Int32).toInt = 0 := by decide +kernel
  have k_1 : (1 : Int32).toInt = 1 := by decide +kernel
  have k_3 : (3 : Int32).toInt = 3 := by decide +kernel
  have k_40 : (40 : Int32).toInt = 40 := by decide +kernel
  have k_104 : (104 : Int32).toInt = 104 := by decide +kernel
  have g13 := gX_13 hB 0
  have g2 := gX_2 hB 0
  have g3 := gX_3 hB 0
  have hH17_0 : σ.1 17 = σ.1 17 ∧ σ.1 18 = σ.1 18 ∧ σ.1 19 = σ.1 19 := ⟨rfl, rfl, rfl⟩
  refine ok_calp (s_X9_current  (σ := σ) hB) (fun v_1 h_1 => ?_)
  obtain ⟨b_v_1, x_v_1⟩ := h_1
  (try dsimp only at b_v_1 x_v_1)
  have z1 : v_1.toInt = cb (σ.1 1) (σ.1 3 0).toInt.toNat := x_v_1.2 (by omega)
  refine ok_ite (fun c_2 => ?_) (fun c_2 => ?_)
  · rw [fa_eq] at c_2
    have g_4 := gX_13 hB 0
    refine ok_ite (fun c_3 => ?_) (fun c_3 => ?_)
    · rw [fa_eq] at c_3
      exact ok_ret ⟨(by (try dsimp only); omega), hB, hF, (by (try dsimp only); exact ⟨fun _ => ⟨k_0, rfl⟩, fun h => absurd (by omega) h, by omega⟩)⟩
    · rw [fa_eq] at c_3
      refine ok_calv (s_X9_readNumber (x1 := (40 : Int32)) (σ := σ) hB (by omega) (by first | omega | (have := x_s_6.2.1.mp (by omega); omega) | (have := x_s_10.2.1.mp (by omega); omega))) (fun v_4 s_4 h_5 => ?_)
      obtain ⟨b_v_4, hB_s_4, hG_s_4, x_s_4⟩ := h_5
      (try dsimp only at b_v_4 hB_s_4 hG_s_4 x_s_4)
      have hF_s_4 : FR [3, 13, 17, 18, 19] [] σ s_4 := FR.cal hF hG_s_4 rfl rfl
      have w_s_4_13 : (s_4.1 13 0).toInt = (σ.1 13 0).toInt := by rw [hG_s_4.1 13 (by decide)]
      have f_s_4_2 : (s_4.1 2 0).toInt = (σ.1 2 0).toInt := by rw [hF_s_4.1 2 (by decide)]
      have hH17_s_4 : s_4.1 17 = σ.1 17 ∧ s_4.1 18 = σ.1 18 ∧ s_4.1 19 = σ.1 19 := by rw [hG_s_4.1 17 (by decide), hG_s_4.1 18 (by decide), hG_s_4.1 19 (by decide)]; exact hH17_0
      refine ok_ite (fun c_6 => ?_) (fun c_6 => ?_)
      · rw [fa_eq] at c_6
        exact ok_ret ⟨(by (try dsimp only); omega), hB_s_4, hF_s_4, (by (try dsimp only); exact ⟨fun h => absurd h (by omega), fun _ => ⟨_, _, _, _, ha_1 (by have q := x_s_4.2.1; rw [show v_4.toInt = -1 by omega] at q; exact q), rfl, fun h => absurd h (by omega)⟩, by omega⟩)⟩
      · rw [fa_eq] at c_6
        refine ok_calv (s_X9_isAtComma  (σ := s_4) hB_s_4 (by omega)) (fun v_6 s_6 h_7 => ?_)
        obtain ⟨b_v_6, hB_s_6, hG_s_6, x_s_6⟩ := h_7
        (try dsimp only at b_v_6 hB_s_6 hG_s_6 x_s_6)
        have hF_s_6 : FR [3, 13, 17, 18, 19] [] σ s_6 := FR.cal hF_s_4 hG_s_6 rfl rfl
        have w_s_6_13 : (s_6.1 13 0).toInt = (s_4.1 13 0).toInt := by rw [hG_s_6.1 13 (by decide)]
        have f_s_6_2 : (s_6.1 2 0).toInt = (σ.1 2 0).toInt := by rw [hF_s_6.1 2 (by decide)]
        have hH17_s_6 : s_6.1 17 = σ.1 17 ∧ s_6.1 18 = σ.1 18 ∧ s_6.1 19 = σ.1 19 := by rw [hG_s_6.1 17 (by decide), hG_s_6.1 18 (by decide), hG_s_6.1 19 (by decide)]; exact hH17_s_4
        rw [hF_s_4.1 2 (by decide), hF_s_4.1 1 (by decide)] at x_s_6
        obtain ⟨q6, e6⟩ : ∃ q, skP (σ.1 2 0).toInt.toNat (cb (σ.1 1)) (s_4.1 3 0).toInt.toNat = q := ⟨_, rfl⟩
        rw [e6] at x_s_6
        refine ok_ite (fun c_8 => ?_) (fun c_8 => ?_)
        · rw [fa_eq] at c_8
          exact ok_ret ⟨(by (try dsimp only); omega), hB_s_6, hF_s_6, (by (try dsimp only); exact ⟨fun h => absurd h (by omega), fun _ => ⟨_, _, _, _, ha_2 x_s_4.2.1 (by omega) e6 (fun z => by have := x_s_6.2.1.mpr z; omega), x_s_6.1, fun h => absurd h (by omega)⟩, by omega⟩)⟩
        · rw [fa_eq] at c_8
          refine ok_calv (s_X9_readNumber (x1 := (40 : Int32)) (σ := s_6) hB_s_6 (by omega) (by first | omega | (have := x_s_6.2.1.mp (by omega); omega) | (have := x_s_10.2.1.mp (by omega); omega))) (fun v_8 s_8 h_9 => ?_)
          obtain ⟨b_v_8, hB_s_8, hG_s_8, x_s_8⟩ := h_9
          (try dsimp only at b_v_8 hB_s_8 hG_s_8 x_s_8)
          have hF_s_8 : FR [3, 13, 17, 18, 19] [] σ s_8 := FR.cal hF_s_6 hG_s_8 rfl rfl
          have w_s_8_13 : (s_8.1 13 0).toInt = (s_6.1 13 0).toInt := by rw [hG_s_8.1 13 (by decide)]
          have f_s_8_2 : (s_8.1 2 0).toInt = (σ.1 2 0).toInt := by rw [hF_s_8.1 2 (by decide)]
          have hH17_s_8 : s_8.1 17 = σ.1 17 ∧ s_8.1 18 = σ.1 18 ∧ s_8.1 19 = σ.1 19 := by rw [hG_s_8.1 17 (by decide), hG_s_8.1 18 (by decide), hG_s_8.1 19 (by decide)]; exact hH17_s_6
          rw [hF_s_6.1 2 (by decide), hF_s_6.1 1 (by decide)] at x_s_8
          have h8 := x_s_8.2.1
          rw [x_s_6.1] at h8
          refine ok_ite (fun c_10 => ?_) (fun c_10 => ?_)
          · rw [fa_eq] at c_10
            exact ok_ret ⟨(by (try dsimp only); omega), hB_s_8, hF_s_8, (by (try dsimp only); exact ⟨fun h => absurd h (by omega), fun _ => ⟨_, _, _, _, ha_3 x_s_4.2.1 (by omega) e6 (x_s_6.2.1.mp (by omega)) (by have q := h8; rw [show v_8.toInt = -1 by omega] at q; exact q), rfl, fun h => absurd h (by omega)⟩, by omega⟩)⟩
          · rw [fa_eq] at c_10
            refine ok_calv (s_X9_isAtComma  (σ := s_8) hB_s_8 (by omega)) (fun v_10 s_10 h_11 => ?_)
            obtain ⟨b_v_10, hB_s_10, hG_s_10, x_s_10⟩ := h_11
            (try dsimp only at b_v_10 hB_s_10 hG_s_10 x_s_10)
            have hF_s_10 : FR [3, 13, 17, 18, 19] [] σ s_10 := FR.cal hF_s_8 hG_s_10 rfl rfl
            have w_s_10_13 : (s_10.1 13 0).toInt = (s_8.1 13 0).toInt := by rw [hG_s_10.1 13 (by decide)]
            have f_s_10_2 : (s_10.1 2 0).toInt = (σ.1 2 0).toInt := by rw [hF_s_10.1 2 (by decide)]
            have hH17_s_10 : s_10.1 17 = σ.1 17 ∧ s_10.1 18 = σ.1 18 ∧ s_10.1 19 = σ.1 19 := by rw [hG_s_10.1 17 (by decide), hG_s_10.1 18 (by decide), hG_s_10.1 19 (by decide)]; exact hH17_s_8
            rw [hF_s_8.1 2 (by decide), hF_s_8.1 1 (by decide)] at x_s_10
            obtain ⟨q10, e10⟩ : ∃ q, skP (σ.1 2 0).toInt.toNat (cb (σ.1 1)) (s_8.1 3 0).toInt.toNat = q := ⟨_, rfl⟩
            rw [e10] at x_s_10
            refine ok_ite (fun c_12 => ?_) (fun c_12 => ?_)
            · rw [fa_eq] at c_12
              exact ok_ret ⟨(by (try dsimp only); omega), hB_s_10, hF_s_10, (by (try dsimp only); exact ⟨fun h => absurd h (by omega), fun _ => ⟨_, _, _, _, ha_4 x_s_4.2.1 (by omega) e6 (x_s_6.2.1.mp (by omega)) h8 (by omega) e10 (fun z => by have := x_s_10.2.1.mpr z; omega), x_s_10.1, fun h => absurd h (by omega)⟩, by omega⟩)⟩
            · rw [fa_eq] at c_12
              refine ok_calv (s_X9_readNumber (x1 := (40 : Int32)) (σ := s_10) hB_s_10 (by omega) (by first | omega | (have := x_s_6.2.1.mp (by omega); omega) | (have := x_s_10.2.1.mp (by omega); omega))) (fun v_12 s_12 h_13 => ?_)
              obtain ⟨b_v_12, hB_s_12, hG_s_12, x_s_12⟩ := h_13
              (try dsimp only at b_v_12 hB_s_12 hG_s_12 x_s_12)
              have hF_s_12 : FR [3, 13, 17, 18, 19] [] σ s_12 := FR.cal hF_s_10 hG_s_12 rfl rfl
              have w_s_12_13 : (s_12.1 13 0).toInt = (s_10.1 13 0).toInt := by rw [hG_s_12.1 13 (by decide)]
              have f_s_12_2 : (s_12.1 2 0).toInt = (σ.1 2 0).toInt := by rw [hF_s_12.1 2 (by decide)]
              have hH17_s_12 : s_12.1 17 = σ.1 17 ∧ s_12.1 18 = σ.1 18 ∧ s_12.1 19 = σ.1 19 := by rw [hG_s_12.1 17 (by decide), hG_s_12.1 18 (by decide), hG_s_12.1 19 (by decide)]; exact hH17_s_10
              rw [hF_s_10.1 2 (by decide), hF_s_10.1 1 (by decide)] at x_s_12
              have h12 := x_s_12.2.1
              rw [x_s_10.1] at h12
              refine ok_ite (fun c_14 => ?_) (fun c_14 => ?_)
              · rw [fa_eq] at c_14
                exact ok_ret ⟨(by (try dsimp only); omega), hB_s_12, hF_s_12, (by (try dsimp only); exact ⟨fun h => absurd h (by omega), fun _ => ⟨_, _, _, _, ha_5 x_s_4.2.1 (by omega) e6 (x_s_6.2.1.mp (by omega)) h8 (by omega) e10 (x_s_10.2.1.mp (by omega)) (by have q := h12; rw [show v_12.toInt = -1 by omega] at q; exact q), rfl, fun h => absurd h (by omega)⟩, by omega⟩)⟩
              · rw [fa_eq] at c_14
                have g_15 := gX_13 hB_s_12 0
                refine ok_ix ⟨by omega, by omega⟩ ?_
                refine ok_lt fun s_14 e_s_14 => ?_
                have hB_s_14 : BX s_14 := by rw [e_s_14]; exact pX_17 hB_s_12 (by omega)
                have hF_s_14 : FR [3, 13, 17, 18, 19] [] σ s_14 := by rw [e_s_14]; exact FR.st hF_s_12 (by decide)
                have w_s_14_3 : (s_14.1 3 0).toInt = (s_12.1 3 0).toInt := by rw [e_s_14]; rfl
                have w_s_14_13 : (s_14.1 13 0).toInt = (s_12.1 13 0).toInt := by rw [e_s_14]; rfl
                have f_s_14_2 : (s_14.1 2 0).toInt = (σ.1 2 0).toInt := by rw [hF_s_14.1 2 (by decide)]
                have g_16 := gX_13 hB_s_14 0
                refine ok_ix ⟨by omega, by omega⟩ ?_
                refine ok_lt fun s_15 e_s_15 => ?_
                have hB_s_15 : BX s_15 := by rw [e_s_15]; exact pX_18 hB_s_14 (by omega)
                have hF_s_15 : FR [3, 13, 17, 18, 19] [] σ s_15 := by rw [e_s_15]; exact FR.st hF_s_14 (by decide)
                have w_s_15_3 : (s_15.1 3 0).toInt = (s_14.1 3 0).toInt := by rw [e_s_15]; rfl
                have w_s_15_13 : (s_15.1 13 0).toInt = (s_14.1 13 0).toInt := by rw [e_s_15]; rfl
                have f_s_15_2 : (s_15.1 2 0).toInt = (σ.1 2 0).toInt := by rw [hF_s_15.1 2 (by decide)]
                have g_17 := gX_13 hB_s_15 0
                refine ok_ix ⟨by omega, by omega⟩ ?_
                refine ok_lt fun s_16 e_s_16 => ?_
                have hB_s_16 : BX s_16 := by rw [e_s_16]; exact pX_19 hB_s_15 (by omega)
                have hF_s_16 : FR [3, 13, 17, 18, 19] [] σ s_16 := by rw [e_s_16]; exact FR.st hF_s_15 (by decide)
                have w_s_16_3 : (s_16.1 3 0).toInt = (s_15.1 3 0).toInt := by rw [e_s_16]; rfl
                have w_s_16_13 : (s_16.1 13 0).toInt = (s_15.1 13 0).toInt := by rw [e_s_16]; rfl
                have f_s_16_2 : (s_16.1 2 0).toInt = (σ.1 2 0).toInt := by rw [hF_s_16.1 2 (by decide)]
                have g_18 := gX_13 hB_s_16 0
                obtain ⟨t_19, ht_19, g_19⟩ : ∃ t : Int, ((s_16.1 13 0) + 1).toInt = t ∧ t = (s_16.1 13 0).toInt + (1 : Int32).toInt := ⟨_, rfl, by have h9 := fb_addI (x := (s_16.1 13 0)) (y := (1 : Int32)) (by omega) (by omega); exact h9⟩
                refine ok_lt fun s_17 e_s_17 => ?_
                have hB_s_17 : BX s_17 := by rw [e_s_17]; exact pX_13 hB_s_16 (by rw [ht_19]; omega)
                have hF_s_17 : FR [3, 13, 17, 18, 19] [] σ s_17 := by rw [e_s_17]; exact FR.st hF_s_16 (by decide)
                have w_s_17_3 : (s_17.1 3 0).toInt = (s_16.1 3 0).toInt := by rw [e_s_17]; rfl
                have w_s_17_13 : (s_17.1 13 0).toInt = t_19 := by rw [e_s_17, sti_s, ht_19]
                have f_s_17_2 : (s_17.1 2 0).toInt = (σ.1 2 0).toInt := by rw [hF_s_17.1 2 (by decide)]
                have q13 : (s_12.1 13 0).toInt = (σ.1 13 0).toInt := by omega
                have n12 : (s_12.1 13 0).toNatClampNeg = (σ.1 13 0).toInt.toNat := by have := clamp_I (x := s_12.1 13 0) (by omega); omega
                have m17 : mk0 ((σ.1 13 0).toInt.toNat + 1) (s_17.1 17) = upI (mk0 (σ.1 13 0).toInt.toNat (σ.1 17)) (σ.1 13 0).toInt.toNat v_4.toInt := by rw [show s_17.1 17 = s_14.1 17 by rw [e_s_17, e_s_16, e_s_15]; rfl, e_s_14, n12, ← hH17_s_12.1]; exact mk0_app
                have m18 : mk0 ((σ.1 13 0).toInt.toNat + 1) (s_17.1 18) = upI (mk0 (σ.1 13 0).toInt.toNat (σ.1 18)) (σ.1 13 0).toInt.toNat v_8.toInt := by rw [show s_17.1 18 = s_15.1 18 by rw [e_s_17, e_s_16]; rfl, e_s_15, show s_14.1 13 0 = s_12.1 13 0 by rw [e_s_14]; rfl, n12, ← hH17_s_12.2.1, show s_12.1 18 = s_14.1 18 by rw [e_s_14]; rfl]; exact mk0_app
                have m19 : mk0 ((σ.1 13 0).toInt.toNat + 1) (s_17.1 19) = upI (mk0 (σ.1 13 0).toInt.toNat (σ.1 19)) (σ.1 13 0).toInt.toNat v_12.toInt := by rw [show s_17.1 19 = s_16.1 19 by rw [e_s_17]; rfl, e_s_16, show s_15.1 13 0 = s_12.1 13 0 by rw [e_s_15, e_s_14]; rfl, n12, ← hH17_s_12.2.2, show s_12.1 19 = s_15.1 19 by rw [e_s_15, e_s_14]; rfl]; exact mk0_app
                have t17 : (s_17.1 3 0).toInt.toNat = (s_12.1 3 0).toInt.toNat := by omega
                exact ok_ret ⟨(by (try dsimp only); omega), hB_s_17, hF_s_17, (by (try dsimp only); exact ⟨fun h => absurd h (by omega), fun _ => ⟨_, _, _, _, ha_6 x_s_4.2.1 (by omega) e6 (x_s_6.2.1.mp (by omega)) h8 (by omega) e10 (x_s_10.2.1.mp (by omega)) h12 (by omega), t17, fun _ => ⟨by omega, m17, m18, m19⟩⟩, by omega⟩)⟩
  · rw [fa_eq] at c_2
    exact ok_ret ⟨(by (try dsimp only); omega), hB, hF, (by (try dsimp only); exact ⟨fun _ => ⟨k_0, rfl⟩, fun h => absurd (by omega) h, by omega⟩)⟩

set_option maxHeartbeats 4000000 in
theorem s_X11_isBinary {x1 : Int32} : OK (f_X11_isBinary x1) (fun v => (0 ≤ v.toInt ∧ v.toInt ≤ 1) ∧ ((v.toInt = 1 ↔ opB x1))) := by
  unfold f_X11_isBinary
  have k_0 : (0 : Int32).toInt = 0 := by decide +kernel
  have k_1 : (1 : Int32).toInt = 1 := by decide +kernel
  refine ok_ite (fun c_1 => ?_) (fun c_1 => ?_)
  · have c_1 := c_1
    exact ok_ret ⟨(by (try dsimp only); omega), (by (try dsimp only); unfold opB; omega)⟩
  · have c_1 := c_1
    exact ok_ret ⟨(by (try dsimp only); omega), (by (try dsimp only); unfold opB; omega)⟩

set_option maxHeartbeats 4000000 in
theorem s_X11_isBare {x1 : Int32} : OK (f_X11_isBare x1) (fun v => (0 ≤ v.toInt ∧ v.toInt ≤ 1) ∧ ((v.toInt = 1 → BR x1) ∧ (v.toInt = 1 ↔ bareI x1.toInt))) := by
  unfold f_X11_isBare
  have k_0 : (0 : Int32).toInt = 0 := by decide +kernel
  have k_1 : (1 : Int32).toInt = 1 := by decide +kernel
  refine ok_ite (fun c_1 => ?_) (fun c_1 => ?_)
  · have c_1 := c_1
    exact ok_ret ⟨(by (try dsimp only); omega), ⟨by first | exact fun h => Or.inr (x_v_2.mp h) | exact fun _ => Or.inl (by omega), by (try dsimp only); first | (unfold opB at x_v_2; omega) | omega⟩⟩
  · have c_1 := c_1
    refine ok_calp (s_X11_isBinary (x1 := x1) ) (fun v_2 h_2 => ?_)
    obtain ⟨b_v_2, x_v_2⟩ := h_2
    (try dsimp only at b_v_2 x_v_2)
    refine ok_bz (by rw [fa_eq, fa_eq]; omega) ?_
    exact ok_ret ⟨(by (try dsimp only); omega), ⟨by first | exact fun h => Or.inr (x_v_2.mp h) | exact fun _ => Or.inl (by omega), by (try dsimp only); first | (unfold opB at x_v_2; omega) | omega⟩⟩

set_option maxHeartbeats 4000000 in
theorem s_X9_readLetter {σ : Sto} (hB : BX σ) (ha : (σ.1 3 0).toInt < (σ.1 2 0).toInt) : OK (f_X9_readLetter σ) (fun r => ((-1) ≤ r.1.toInt ∧ r.1.toInt ≤ 5) ∧ BX r.2 ∧ FR [3] [] σ r.2 ∧ ((r.1.toInt, (r.2.1 3 0).toInt.toNat) = rdL (σ.1 2 0).toInt.toNat (cb (σ.1 1)) (σ.1 3 0).toInt.toNat ∧ (r.2.1 3 0).toInt ≤ (σ.1 2 0).toInt)) := by
  unfold f_X9_readLetter
  have hF : FR [3] [] σ σ := FR.rf
  have k_m1 : ((-1) : Int32).toInt = -1 := by decide +kernel
  have k_1 : (1 : Int32).toInt = 1 := by decide +kernel
  have k_97 : (97 : Int32).toInt = 97 := by decide +kernel
  have k_102 : (102 : Int32).toInt = 102 := by decide +kernel
  have g2 := gX_2 hB 0
  have g3 := gX_3 hB 0
  have g_1 := gX_3 hB 0
  obtain ⟨t_2, ht_2, g_2⟩ : ∃ t : Int, ((σ.1 3 0) + 1).toInt = t ∧ t = (σ.1 3 0).toInt + (1 : Int32).toInt := ⟨_, rfl, by have h9 := fb_addI (x := (σ.1 3 0)) (y := (1 : Int32)) (by omega) (by omega); exact h9⟩
  refine ok_lt fun s_1 e_s_1 => ?_
  have hB_s_1 : BX s_1 := by rw [e_s_1]; exact pX_3 hB (by rw [ht_2]; omega)
  have hF_s_1 : FR [3] [] σ s_1 := by rw [e_s_1]; exact FR.st hF (by decide)
  have w_s_1_3 : (s_1.1 3 0).toInt = t_2 := by rw [e_s_1, sti_s, ht_2]
  have f_s_1_2 : (s_1.1 2 0).toInt = (σ.1 2 0).toInt := by rw [hF_s_1.1 2 (by decide)]
  refine ok_cals (s_X9_skipBlanks  (σ := s_1) hB_s_1 (by omega)) (fun s_2 h_3 => ?_)
  obtain ⟨hB_s_2, hG_s_2, x_s_2⟩ := h_3
  (try dsimp only at hB_s_2 hG_s_2 x_s_2)
  have hF_s_2 : FR [3] [] σ s_2 := FR.cal hF_s_1 hG_s_2 rfl rfl
  have f_s_2_2 : (s_2.1 2 0).toInt = (σ.1 2 0).toInt := by rw [hF_s_2.1 2 (by decide)]
  have g3b := gX_3 hB_s_2 0
  rw [hF_s_1.1 2 (by decide), hF_s_1.1 1 (by decide), show (s_1.1 3 0).toInt.toNat = (σ.1 3 0).toInt.toNat + 1 by omega] at x_s_2
  have g_5 := gX_2 hB_s_2 0
  have g_6 : (s_2.1 2 0).toInt = (σ.1 2 0).toInt := by rw [hF_s_2.1 2 (by decide)]
  have g_7 := gX_2 hB 0
  have g_8 := gX_3 hB_s_2 0
  refine ok_ite (fun c_4 => ?_) (fun c_4 => ?_)
  · rw [fa_le] at c_4
    exact ok_ret ⟨(by (try dsimp only); omega), hB_s_2, hF_s_2, ⟨by (try dsimp only); first | (rw [k_m1]; exact rdL_n x_s_2.1.symm (by omega)) | (have q := rdL_y (n := (σ.1 2 0).toInt.toNat) (c := (cb (σ.1 1))) x_s_2.1.symm (by omega); rw [← q, show (s_8.1 3 0).toInt.toNat = (s_2.1 3 0).toInt.toNat + 1 by omega]; exact Prod.ext (by (try dsimp only); omega) rfl), by (try dsimp only); omega⟩⟩
  · rw [fa_le] at c_4
    refine ok_calp (s_X9_current  (σ := s_2) hB_s_2) (fun v_4 h_9 => ?_)
    obtain ⟨b_v_4, x_v_4⟩ := h_9
    (try dsimp only at b_v_4 x_v_4)
    rw [hF_s_2.1 1 (by decide)] at x_v_4
    refine ok_ite (fun c_10 => ?_) (fun c_10 => ?_)
    · rw [fa_lt] at c_10
      exact ok_ret ⟨(by (try dsimp only); omega), hB_s_2, hF_s_2, ⟨by (try dsimp only); first | (rw [k_m1]; exact rdL_n x_s_2.1.symm (by omega)) | (have q := rdL_y (n := (σ.1 2 0).toInt.toNat) (c := (cb (σ.1 1))) x_s_2.1.symm (by omega); rw [← q, show (s_8.1 3 0).toInt.toNat = (s_2.1 3 0).toInt.toNat + 1 by omega]; exact Prod.ext (by (try dsimp only); omega) rfl), by (try dsimp only); omega⟩⟩
    · rw [fa_lt] at c_10
      refine ok_calp (s_X9_current  (σ := s_2) hB_s_2) (fun v_6 h_11 => ?_)
      obtain ⟨b_v_6, x_v_6⟩ := h_11
      (try dsimp only at b_v_6 x_v_6)
      rw [hF_s_2.1 1 (by decide)] at x_v_6
      refine ok_ite (fun c_12 => ?_) (fun c_12 => ?_)
      · rw [fa_le] at c_12
        obtain ⟨t_13, ht_13, g_13⟩ : ∃ t : Int, ((s_2.1 3 0) + 1).toInt = t ∧ t = (s_2.1 3 0).toInt + (1 : Int32).toInt := ⟨_, rfl, by have h9 := fb_addI (x := (s_2.1 3 0)) (y := (1 : Int32)) (by omega) (by omega); exact h9⟩
        refine ok_lt fun s_8 e_s_8 => ?_
        have hB_s_8 : BX s_8 := by rw [e_s_8]; exact pX_3 hB_s_2 (by rw [ht_13]; omega)
        have hF_s_8 : FR [3] [] σ s_8 := by rw [e_s_8]; exact FR.st hF_s_2 (by decide)
        have w_s_8_3 : (s_8.1 3 0).toInt = t_13 := by rw [e_s_8, sti_s, ht_13]
        have f_s_8_2 : (s_8.1 2 0).toInt = (σ.1 2 0).toInt := by rw [hF_s_8.1 2 (by decide)]
        have g_14 := gX_3 hB_s_8 0
        obtain ⟨t_15, ht_15, g_15⟩ : ∃ t : Int, ((s_8.1 3 0) - 1).toInt = t ∧ t = (s_8.1 3 0).toInt - (1 : Int32).toInt := ⟨_, rfl, by have h9 := fb_subI (x := (s_8.1 3 0)) (y := (1 : Int32)) (by omega) (by omega); exact h9⟩
        refine ok_ix ⟨by rw [ht_15]; omega, by rw [ht_15]; omega⟩ ?_
        have g_16 := gX_1 hB_s_8 (((s_8.1 3 0) - 1).toNatClampNeg)
        refine ok_lt fun v_9 e_v_9 => ?_
        have b_v_9 : (-128) ≤ v_9.toInt ∧ v_9.toInt ≤ 127 := by rw [e_v_9]; exact gX_1 hB_s_8 _
        have n9 : ((s_8.1 3 0) - 1).toNatClampNeg = (s_2.1 3 0).toInt.toNat := by have := clamp_I (x := ((s_8.1 3 0) - 1)) (by omega); omega
        have z9 : v_9.toInt = cb (σ.1 1) (s_2.1 3 0).toInt.toNat := by have q := by_id (x := v_9) (by omega) (by have e : (v_9 &&& 255).toInt = cb (σ.1 1) (s_2.1 3 0).toInt.toNat := (by rw [e_v_9, n9, hF_s_8.1 1 (by decide)]; rfl); omega); rw [q, e_v_9, n9, hF_s_8.1 1 (by decide)]; rfl
        obtain ⟨t_17, ht_17, g_17⟩ : ∃ t : Int, (v_9 - 97).toInt = t ∧ t = v_9.toInt - (97 : Int32).toInt := ⟨_, rfl, by have h9 := fb_subI (x := v_9) (y := (97 : Int32)) (by omega) (by omega); exact h9⟩
        exact ok_ret ⟨(by (try dsimp only); rw [ht_17]; omega), hB_s_8, hF_s_8, ⟨by (try dsimp only); first | (rw [k_m1]; exact rdL_n x_s_2.1.symm (by omega)) | (have q := rdL_y (n := (σ.1 2 0).toInt.toNat) (c := (cb (σ.1 1))) x_s_2.1.symm (by omega); rw [← q, show (s_8.1 3 0).toInt.toNat = (s_2.1 3 0).toInt.toNat + 1 by omega]; exact Prod.ext (by (try dsimp only); omega) rfl), by (try dsimp only); omega⟩⟩
      · rw [fa_le] at c_12
        exact ok_ret ⟨(by (try dsimp only); omega), hB_s_2, hF_s_2, ⟨by (try dsimp only); first | (rw [k_m1]; exact rdL_n x_s_2.1.symm (by omega)) | (have q := rdL_y (n := (σ.1 2 0).toInt.toNat) (c := (cb (σ.1 1))) x_s_2.1.symm (by omega); rw [← q, show (s_8.1 3 0).toInt.toNat = (s_2.1 3 0).toInt.toNat + 1 by omega]; exact Prod.ext (by (try dsimp only); omega) rfl), by (try dsimp only); omega⟩⟩

set_option maxHeartbeats 4000000 in
theorem s_X9_readInstruction_draft {σ : Sto} (hB : BX σ) (hDS : DS σ) (ha : (σ.1 3 0).toInt < (σ.1 2 0).toInt) : OK (f_X9_readInstruction_draft σ) (fun r => (0 ≤ r.1.toInt ∧ r.1.toInt ≤ 1) ∧ BX r.2 ∧ FR [3, 12, 14, 15] [] σ r.2 ∧ DS r.2 ∧ (((σ.1 12 0).toInt = 40 → r.1.toInt = 0 ∧ (r.2.1 3 0).toInt = (σ.1 3 0).toInt) ∧ ((σ.1 12 0).toInt ≠ 40 → ∃ (w : Int) (b : Nat), (w, b) = inP (σ.1 2 0).toInt.toNat (cb (σ.1 1)) (σ.1 3 0).toInt.toNat ∧ (r.2.1 3 0).toInt.toNat = b ∧ (r.1.toInt = 0 → w = -1) ∧ (r.1.toInt = 1 → w ≠ -1 ∧ (r.2.1 12 0).toInt = (σ.1 12 0).toInt + 1 ∧ mk0 ((σ.1 12 0).toInt.toNat + 1) (r.2.1 14) = upI (mk0 (σ.1 12 0).toInt.toNat (σ.1 14)) (σ.1 12 0).toInt.toNat (cb (σ.1 1) (σ.1 3 0).toInt.toNat) ∧ mk0 ((σ.1 12 0).toInt.toNat + 1) (r.2.1 15) = upI (mk0 (σ.1 12 0).toInt.toNat (σ.1 15)) (σ.1 12 0).toInt.toNat w)) ∧ (r.2.1 3 0).toInt ≤ (σ.1 2 0).toInt)) := by
  unfold f_X9_readInstruction_draft
  have hF : FR [3, 12, 14, 15] [] σ σ := FR.rf
  have k_m1 : ((-1) : Int32).toInt = -1 := by decide +kernel
  have k_0 : (0 : Int32).toInt = 0 := by decide +kernel
  have k_1 : (1 : Int32).toInt = 1 := by decide +kernel
  have k_39 : (39 : Int32).toInt = 39 := by decide +kernel
  have k_40 : (40 : Int32).toInt = 40 := by decide +kernel
  have k_103 : (103 : Int32).toInt = 103 := by decide +kernel
  have k_107 : (107 : Int32).toInt = 107 := by decide +kernel
  have k_108 : (108 : Int32).toInt = 108 := by decide +kernel
  have k_115 : (115 : Int32).toInt = 115 := by decide +kernel
  have k_122 : (122 : Int32).toInt = 122 := by decide +kernel
  have k_999 : (999 : Int32).toInt = 999 := by decide +kernel
  have g12 := gX_12 hB 0
  have g2 := gX_2 hB 0
  have g3 := gX_3 hB 0
  have hR3_0 : σ.1 12 = σ.1 12 ∧ σ.1 14 = σ.1 14 ∧ σ.1 15 = σ.1 15 := ⟨rfl, rfl, rfl⟩
  refine ok_calp (s_X9_current  (σ := σ) hB) (fun v_1 h_1 => ?_)
  obtain ⟨b_v_1, x_v_1⟩ := h_1
  (try dsimp only at b_v_1 x_v_1)
  have z1 : v_1.toInt = cb (σ.1 1) (σ.1 3 0).toInt.toNat := x_v_1.2 (by omega)
  have g_3 := gX_12 hB 0
  refine ok_ite (fun c_2 => ?_) (fun c_2 => ?_)
  · rw [fa_eq] at c_2
    exact ok_ret ⟨(by (try dsimp only); omega), hB, hF, hDS, (by (try dsimp only); first | exact ⟨fun _ => ⟨k_0, rfl⟩, fun h => absurd (by omega) h, by omega⟩ | exact ⟨fun h => absurd h (by omega), fun _ => ⟨-1, _, in_x (by omega) (by omega) (by omega) (by omega), rfl, fun _ => rfl, fun h => absurd h (by omega)⟩, by omega⟩ | exact ⟨fun h => absurd h (by omega), fun _ => ⟨_, _, jin, rfl, fun _ => by omega, fun h => absurd h (by omega)⟩, by omega⟩ | exact ⟨fun h => absurd h (by omega), fun _ => ⟨_, _, jin, by omega, fun h => absurd h (by omega), fun _ => ⟨by omega, by omega, m14, m15⟩⟩, by omega⟩)⟩
  · rw [fa_eq] at c_2
    refine ok_calp (s_X11_isBare (x1 := v_1) ) (fun v_3 h_4 => ?_)
    obtain ⟨b_v_3, x_v_3⟩ := h_4
    (try dsimp only at b_v_3 x_v_3)
    refine ok_jnI2 (fun (x3_4 : Int32) (s_4 : Sto) => True ∧ ((-1) ≤ x3_4.toInt ∧ x3_4.toInt ≤ 999) ∧ (BX s_4) ∧ (FR [3, 12, 14, 15] [] σ s_4) ∧ (DS s_4) ∧ ((s_4.1 12 0).toInt = (σ.1 12 0).toInt) ∧ ((s_4.1 3 0).toInt ≤ (σ.1 2 0).toInt) ∧ ((x3_4.toInt, (s_4.1 3 0).toInt.toNat) = inP (σ.1 2 0).toInt.toNat (cb (σ.1 1)) (σ.1 3 0).toInt.toNat) ∧ (x3_4.toInt ≠ -1 → VI v_1 x3_4) ∧ (s_4.1 12 = σ.1 12 ∧ s_4.1 14 = σ.1 14 ∧ s_4.1 15 = σ.1 15)) ?_ ?_
    · intro x3_4 s_4 hJ
      obtain ⟨-, b_x3_4, hB_s_4, hF_s_4, hDS_s_4, j12, jal, jin, jvi, jr⟩ := hJ
      have f_s_4_2 : (s_4.1 2 0).toInt = (σ.1 2 0).toInt := by rw [hF_s_4.1 2 (by decide)]
      refine ok_ite (fun c_5 => ?_) (fun c_5 => ?_)
      · rw [fa_eq] at c_5
        exact ok_ret ⟨(by (try dsimp only); omega), hB_s_4, hF_s_4, hDS_s_4, (by (try dsimp only); first | exact ⟨fun _ => ⟨k_0, rfl⟩, fun h => absurd (by omega) h, by omega⟩ | exact ⟨fun h => absurd h (by omega), fun _ => ⟨-1, _, in_x (by omega) (by omega) (by omega) (by omega), rfl, fun _ => rfl, fun h => absurd h (by omega)⟩, by omega⟩ | exact ⟨fun h => absurd h (by omega), fun _ => ⟨_, _, jin, rfl, fun _ => by omega, fun h => absurd h (by omega)⟩, by omega⟩ | exact ⟨fun h => absurd h (by omega), fun _ => ⟨_, _, jin, by omega, fun h => absurd h (by omega), fun _ => ⟨by omega, by omega, m14, m15⟩⟩, by omega⟩)⟩
      · rw [fa_eq] at c_5
        have g_6 := gX_12 hB_s_4 0
        refine ok_ix ⟨by omega, by omega⟩ ?_
        refine ok_lt fun s_6 e_s_6 => ?_
        have hB_s_6 : BX s_6 := by rw [e_s_6]; exact pX_14 hB_s_4 (by omega)
        have hF_s_6 : FR [3, 12, 14, 15] [] σ s_6 := by rw [e_s_6]; exact FR.st hF_s_4 (by decide)
        have w_s_6_3 : (s_6.1 3 0).toInt = (s_4.1 3 0).toInt := by rw [e_s_6]; rfl
        have w_s_6_12 : (s_6.1 12 0).toInt = (s_4.1 12 0).toInt := by rw [e_s_6]; rfl
        have f_s_6_2 : (s_6.1 2 0).toInt = (σ.1 2 0).toInt := by rw [hF_s_6.1 2 (by decide)]
        have g_7 := gX_12 hB_s_6 0
        refine ok_ix ⟨by omega, by omega⟩ ?_
        refine ok_lt fun s_7 e_s_7 => ?_
        have hB_s_7 : BX s_7 := by rw [e_s_7]; exact pX_15 hB_s_6 (by omega)
        have hF_s_7 : FR [3, 12, 14, 15] [] σ s_7 := by rw [e_s_7]; exact FR.st hF_s_6 (by decide)
        have w_s_7_3 : (s_7.1 3 0).toInt = (s_6.1 3 0).toInt := by rw [e_s_7]; rfl
        have w_s_7_12 : (s_7.1 12 0).toInt = (s_6.1 12 0).toInt := by rw [e_s_7]; rfl
        have f_s_7_2 : (s_7.1 2 0).toInt = (σ.1 2 0).toInt := by rw [hF_s_7.1 2 (by decide)]
        have g_8 := gX_12 hB_s_7 0
        obtain ⟨t_9, ht_9, g_9⟩ : ∃ t : Int, ((s_7.1 12 0) + 1).toInt = t ∧ t = (s_7.1 12 0).toInt + (1 : Int32).toInt := ⟨_, rfl, by have h9 := fb_addI (x := (s_7.1 12 0)) (y := (1 : Int32)) (by omega) (by omega); exact h9⟩
        refine ok_lt fun s_8 e_s_8 => ?_
        have hB_s_8 : BX s_8 := by rw [e_s_8]; exact pX_12 hB_s_7 (by rw [ht_9]; omega)
        have hF_s_8 : FR [3, 12, 14, 15] [] σ s_8 := by rw [e_s_8]; exact FR.st hF_s_7 (by decide)
        have w_s_8_3 : (s_8.1 3 0).toInt = (s_7.1 3 0).toInt := by rw [e_s_8]; rfl
        have w_s_8_12 : (s_8.1 12 0).toInt = t_9 := by rw [e_s_8, sti_s, ht_9]
        have f_s_8_2 : (s_8.1 2 0).toInt = (σ.1 2 0).toInt := by rw [hF_s_8.1 2 (by decide)]
        have z12 : (s_4.1 12 0).toInt = (σ.1 12 0).toInt := by rw [jr.1]
        have hvi := jvi (by omega)
        have m14 : mk0 ((σ.1 12 0).toInt.toNat + 1) (s_8.1 14) = upI (mk0 (σ.1 12 0).toInt.toNat (σ.1 14)) (σ.1 12 0).toInt.toNat (cb (σ.1 1) (σ.1 3 0).toInt.toNat) := by rw [show s_8.1 14 = s_6.1 14 by rw [e_s_8, e_s_7]; rfl, e_s_6, ← jr.2.1, jr.1, ← z1]; exact mk0_app
        have m15 : mk0 ((σ.1 12 0).toInt.toNat + 1) (s_8.1 15) = upI (mk0 (σ.1 12 0).toInt.toNat (σ.1 15)) (σ.1 12 0).toInt.toNat x3_4.toInt := by rw [show s_8.1 15 = s_7.1 15 by rw [e_s_8]; rfl, e_s_7, show s_6.1 12 0 = σ.1 12 0 by rw [e_s_6, ← jr.1]; rfl, ← jr.2.2, show s_4.1 15 = s_6.1 15 by rw [e_s_6]; rfl]; exact mk0_app
        have hDS_s_8 : DS s_8 := fun i hi => by have c6 := clamp_I (x := s_6.1 12 0) (by omega); have c4 := clamp_I (x := s_4.1 12 0) (by omega); rw [show s_8.1 14 = s_6.1 14 by rw [e_s_8, e_s_7]; rfl, show s_8.1 15 = s_7.1 15 by rw [e_s_8]; rfl, e_s_6, e_s_7, sti_if, sti_if, show s_6.1 15 = s_4.1 15 by rw [e_s_6]; rfl]; by_cases q : i = (s_4.1 12 0).toNatClampNeg; (rw [if_pos q, if_pos (by omega)]; exact hvi.1); (rw [if_neg q, if_neg (by omega)]; exact hDS_s_4 i (by omega))
        exact ok_ret ⟨(by (try dsimp only); omega), hB_s_8, hF_s_8, hDS_s_8, (by (try dsimp only); first | exact ⟨fun _ => ⟨k_0, rfl⟩, fun h => absurd (by omega) h, by omega⟩ | exact ⟨fun h => absurd h (by omega), fun _ => ⟨-1, _, in_x (by omega) (by omega) (by omega) (by omega), rfl, fun _ => rfl, fun h => absurd h (by omega)⟩, by omega⟩ | exact ⟨fun h => absurd h (by omega), fun _ => ⟨_, _, jin, rfl, fun _ => by omega, fun h => absurd h (by omega)⟩, by omega⟩ | exact ⟨fun h => absurd h (by omega), fun _ => ⟨_, _, jin, by omega, fun h => absurd h (by omega), fun _ => ⟨by omega, by omega, m14, m15⟩⟩, by omega⟩)⟩
    · intro k_99 hk_k_99
      refine ok_ite (fun c_10 => ?_) (fun c_10 => ?_)
      · rw [fa_eq] at c_10
        refine ok_ite (fun c_11 => ?_) (fun c_11 => ?_)
        · rw [fa_eq] at c_11
          refine ok_calv (s_X9_readNumber (x1 := (999 : Int32)) (σ := σ) hB (by omega) (by omega)) (fun v_11 s_11 h_12 => ?_)
          obtain ⟨b_v_11, hB_s_11, hG_s_11, x_s_11⟩ := h_12
          (try dsimp only at b_v_11 hB_s_11 hG_s_11 x_s_11)
          have hF_s_11 : FR [3, 12, 14, 15] [] σ s_11 := FR.cal hF hG_s_11 rfl rfl
          have w_s_11_12 : (s_11.1 12 0).toInt = (σ.1 12 0).toInt := by rw [hG_s_11.1 12 (by decide)]
          have f_s_11_2 : (s_11.1 2 0).toInt = (σ.1 2 0).toInt := by rw [hF_s_11.1 2 (by decide)]
          have hDS_s_11 : DS s_11 := DS.fr hG_s_11 (by decide) hDS
          exact hk_k_99 v_11 s_11 ⟨trivial, (by omega), hB_s_11, hF_s_11, hDS_s_11, (by omega), (by omega), (by first | (rw [k_0, show (s_20.1 3 0).toInt.toNat = (σ.1 3 0).toInt.toNat + 1 by omega]; exact in_b (by omega)) | (exact x_s_11.2.1.trans (in_k (by omega) (by omega))) | (exact x_s_13.2.1.trans (in_g (by omega) (by omega))) | (exact x_s_17.1.trans (in_l (by omega) (by omega)))), (fun h => by first | exact vi_b (x_v_3.1 (by omega)) (by omega) | exact vi_k (by omega) (by omega) (by omega) | exact vi_j (by omega) (by omega) (by omega) | exact vi_v (by omega) (by omega) (by omega)), ⟨hG_s_11.1 12 (by decide), hG_s_11.1 14 (by decide), hG_s_11.1 15 (by decide)⟩⟩
        · rw [fa_eq] at c_11
          refine ok_jn ?_
          refine ok_ite (fun c_13 => ?_) (fun c_13 => ?_)
          · rw [fa_eq] at c_13
            refine ok_calv (s_X9_readNumber (x1 := (39 : Int32)) (σ := σ) hB (by omega) (by omega)) (fun v_13 s_13 h_14 => ?_)
            obtain ⟨b_v_13, hB_s_13, hG_s_13, x_s_13⟩ := h_14
            (try dsimp only at b_v_13 hB_s_13 hG_s_13 x_s_13)
            have hF_s_13 : FR [3, 12, 14, 15] [] σ s_13 := FR.cal hF hG_s_13 rfl rfl
            have w_s_13_12 : (s_13.1 12 0).toInt = (σ.1 12 0).toInt := by rw [hG_s_13.1 12 (by decide)]
            have f_s_13_2 : (s_13.1 2 0).toInt = (σ.1 2 0).toInt := by rw [hF_s_13.1 2 (by decide)]
            have hDS_s_13 : DS s_13 := DS.fr hG_s_13 (by decide) hDS
            exact hk_k_99 v_13 s_13 ⟨trivial, (by omega), hB_s_13, hF_s_13, hDS_s_13, (by omega), (by omega), (by first | (rw [k_0, show (s_20.1 3 0).toInt.toNat = (σ.1 3 0).toInt.toNat + 1 by omega]; exact in_b (by omega)) | (exact x_s_11.2.1.trans (in_k (by omega) (by omega))) | (exact x_s_13.2.1.trans (in_g (by omega) (by omega))) | (exact x_s_17.1.trans (in_l (by omega) (by omega)))), (fun h => by first | exact vi_b (x_v_3.1 (by omega)) (by omega) | exact vi_k (by omega) (by omega) (by omega) | exact vi_j (by omega) (by omega) (by omega) | exact vi_v (by omega) (by omega) (by omega)), ⟨hG_s_13.1 12 (by decide), hG_s_13.1 14 (by decide), hG_s_13.1 15 (by decide)⟩⟩
          · rw [fa_eq] at c_13
            refine ok_ite (fun c_15 => ?_) (fun c_15 => ?_)
            · rw [fa_eq] at c_15
              refine ok_calv (s_X9_readNumber (x1 := (39 : Int32)) (σ := σ) hB (by omega) (by omega)) (fun v_13 s_13 h_16 => ?_)
              obtain ⟨b_v_13, hB_s_13, hG_s_13, x_s_13⟩ := h_16
              (try dsimp only at b_v_13 hB_s_13 hG_s_13 x_s_13)
              have hF_s_13 : FR [3, 12, 14, 15] [] σ s_13 := FR.cal hF hG_s_13 rfl rfl
              have w_s_13_12 : (s_13.1 12 0).toInt = (σ.1 12 0).toInt := by rw [hG_s_13.1 12 (by decide)]
              have f_s_13_2 : (s_13.1 2 0).toInt = (σ.1 2 0).toInt := by rw [hF_s_13.1 2 (by decide)]
              have hDS_s_13 : DS s_13 := DS.fr hG_s_13 (by decide) hDS
              exact hk_k_99 v_13 s_13 ⟨trivial, (by omega), hB_s_13, hF_s_13, hDS_s_13, (by omega), (by omega), (by first | (rw [k_0, show (s_20.1 3 0).toInt.toNat = (σ.1 3 0).toInt.toNat + 1 by omega]; exact in_b (by omega)) | (exact x_s_11.2.1.trans (in_k (by omega) (by omega))) | (exact x_s_13.2.1.trans (in_g (by omega) (by omega))) | (exact x_s_17.1.trans (in_l (by omega) (by omega)))), (fun h => by first | exact vi_b (x_v_3.1 (by omega)) (by omega) | exact vi_k (by omega) (by omega) (by omega) | exact vi_j (by omega) (by omega) (by omega) | exact vi_v (by omega) (by omega) (by omega)), ⟨hG_s_13.1 12 (by decide), hG_s_13.1 14 (by decide), hG_s_13.1 15 (by decide)⟩⟩
            · rw [fa_eq] at c_15
              refine ok_jn ?_
              refine ok_ite (fun c_17 => ?_) (fun c_17 => ?_)
              · rw [fa_eq] at c_17
                refine ok_calv (s_X9_readLetter  (σ := σ) hB (by omega)) (fun v_17 s_17 h_18 => ?_)
                obtain ⟨b_v_17, hB_s_17, hG_s_17, x_s_17⟩ := h_18
                (try dsimp only at b_v_17 hB_s_17 hG_s_17 x_s_17)
                have hF_s_17 : FR [3, 12, 14, 15] [] σ s_17 := FR.cal hF hG_s_17 rfl rfl
                have w_s_17_12 : (s_17.1 12 0).toInt = (σ.1 12 0).toInt := by rw [hG_s_17.1 12 (by decide)]
                have f_s_17_2 : (s_17.1 2 0).toInt = (σ.1 2 0).toInt := by rw [hF_s_17.1 2 (by decide)]
                have hDS_s_17 : DS s_17 := DS.fr hG_s_17 (by decide) hDS
                exact hk_k_99 v_17 s_17 ⟨trivial, (by omega), hB_s_17, hF_s_17, hDS_s_17, (by omega), (by omega), (by first | (rw [k_0, show (s_20.1 3 0).toInt.toNat = (σ.1 3 0).toInt.toNat + 1 by omega]; exact in_b (by omega)) | (exact x_s_11.2.1.trans (in_k (by omega) (by omega))) | (exact x_s_13.2.1.trans (in_g (by omega) (by omega))) | (exact x_s_17.1.trans (in_l (by omega) (by omega)))), (fun h => by first | exact vi_b (x_v_3.1 (by omega)) (by omega) | exact vi_k (by omega) (by omega) (by omega) | exact vi_j (by omega) (by omega) (by omega) | exact vi_v (by omega) (by omega) (by omega)), ⟨hG_s_17.1 12 (by decide), hG_s_17.1 14 (by decide), hG_s_17.1 15 (by decide)⟩⟩
              · rw [fa_eq] at c_17
                refine ok_ite (fun c_19 => ?_) (fun c_19 => ?_)
                · rw [fa_eq] at c_19
                  refine ok_calv (s_X9_readLetter  (σ := σ) hB (by omega)) (fun v_17 s_17 h_20 => ?_)
                  obtain ⟨b_v_17, hB_s_17, hG_s_17, x_s_17⟩ := h_20
                  (try dsimp only at b_v_17 hB_s_17 hG_s_17 x_s_17)
                  have hF_s_17 : FR [3, 12, 14, 15] [] σ s_17 := FR.cal hF hG_s_17 rfl rfl
                  have w_s_17_12 : (s_17.1 12 0).toInt = (σ.1 12 0).toInt := by rw [hG_s_17.1 12 (by decide)]
                  have f_s_17_2 : (s_17.1 2 0).toInt = (σ.1 2 0).toInt := by rw [hF_s_17.1 2 (by decide)]
                  have hDS_s_17 : DS s_17 := DS.fr hG_s_17 (by decide) hDS
                  exact hk_k_99 v_17 s_17 ⟨trivial, (by omega), hB_s_17, hF_s_17, hDS_s_17, (by omega), (by omega), (by first | (rw [k_0, show (s_20.1 3 0).toInt.toNat = (σ.1 3 0).toInt.toNat + 1 by omega]; exact in_b (by omega)) | (exact x_s_11.2.1.trans (in_k (by omega) (by omega))) | (exact x_s_13.2.1.trans (in_g (by omega) (by omega))) | (exact x_s_17.1.trans (in_l (by omega) (by omega)))), (fun h => by first | exact vi_b (x_v_3.1 (by omega)) (by omega) | exact vi_k (by omega) (by omega) (by omega) | exact vi_j (by omega) (by omega) (by omega) | exact vi_v (by omega) (by omega) (by omega)), ⟨hG_s_17.1 12 (by decide), hG_s_17.1 14 (by decide), hG_s_17.1 15 (by decide)⟩⟩
                · rw [fa_eq] at c_19
                  exact ok_ret ⟨(by (try dsimp only); omega), hB, hF, hDS, (by (try dsimp only); first | exact ⟨fun _ => ⟨k_0, rfl⟩, fun h => absurd (by omega) h, by omega⟩ | exact ⟨fun h => absurd h (by omega), fun _ => ⟨-1, _, in_x (by omega) (by omega) (by omega) (by omega), rfl, fun _ => rfl, fun h => absurd h (by omega)⟩, by omega⟩ | exact ⟨fun h => absurd h (by omega), fun _ => ⟨_, _, jin, rfl, fun _ => by omega, fun h => absurd h (by omega)⟩, by omega⟩ | exact ⟨fun h => absurd h (by omega), fun _ => ⟨_, _, jin, by omega, fun h => absurd h (by omega), fun _ => ⟨by omega, by omega, m14, m15⟩⟩, by omega⟩)⟩
      · rw [fa_eq] at c_10
        have g_21 := gX_3 hB 0
        obtain ⟨t_22, ht_22, g_22⟩ : ∃ t : Int, ((σ.1 3 0) + 1).toInt = t ∧ t = (σ.1 3 0).toInt + (1 : Int32).toInt := ⟨_, rfl, by have h9 := fb_addI (x := (σ.1 3 0)) (y := (1 : Int32)) (by omega) (by omega); exact h9⟩
        refine ok_lt fun s_20 e_s_20 => ?_
        have hB_s_20 : BX s_20 := by rw [e_s_20]; exact pX_3 hB (by rw [ht_22]; omega)
        have hF_s_20 : FR [3, 12, 14, 15] [] σ s_20 := by rw [e_s_20]; exact FR.st hF (by decide)
        have w_s_20_3 : (s_20.1 3 0).toInt = t_22 := by rw [e_s_20, sti_s, ht_22]
        have w_s_20_12 : (s_20.1 12 0).toInt = (σ.1 12 0).toInt := by rw [e_s_20]; rfl
        have f_s_20_2 : (s_20.1 2 0).toInt = (σ.1 2 0).toInt := by rw [hF_s_20.1 2 (by decide)]
        have hDS_s_20 : DS s_20 := by rw [e_s_20]; exact DS.st1 (by decide) hDS
        exact hk_k_99 (0 : Int32) s_20 ⟨trivial, (by omega), hB_s_20, hF_s_20, hDS_s_20, (by omega), (by omega), (by first | (rw [k_0, show (s_20.1 3 0).toInt.toNat = (σ.1 3 0).toInt.toNat + 1 by omega]; exact in_b (by omega)) | (exact x_s_11.2.1.trans (in_k (by omega) (by omega))) | (exact x_s_13.2.1.trans (in_g (by omega) (by omega))) | (exact x_s_17.1.trans (in_l (by omega) (by omega)))), (fun h => by first | exact vi_b (x_v_3.1 (by omega)) (by omega) | exact vi_k (by omega) (by omega) (by omega) | exact vi_j (by omega) (by omega) (by omega) | exact vi_v (by omega) (by omega) (by omega)), (by rw [e_s_20]; exact ⟨rfl, rfl, rfl⟩)⟩

set_option maxHeartbeats 4000000 in
theorem s_X9_read_draft {σ : Sto} (hB : BX σ) : OK (f_X9_read_draft σ) (fun r => (0 ≤ r.1.toInt ∧ r.1.toInt ≤ 1) ∧ BX r.2 ∧ FR [3, 12, 13, 14, 15, 17, 18, 19] [] σ r.2 ∧ DS r.2 ∧ ((r.1.toInt, (r.2.1 3 0).toInt.toNat) = paT (σ.1 2 0).toInt.toNat (cb (σ.1 1)) ∧ (r.1.toInt = 1 → 1 ≤ (r.2.1 12 0).toInt ∧ (EqQ (σ.1 2 0).toInt.toNat (cb (σ.1 1)) (r.2.1 12 0).toInt.toNat (mk0 (r.2.1 12 0).toInt.toNat (r.2.1 14)) (mk0 (r.2.1 12 0).toInt.toNat (r.2.1 15))) ∧ (EqR (σ.1 2 0).toInt.toNat (cb (σ.1 1)) (r.2.1 13 0).toInt.toNat (mk0 (r.2.1 13 0).toInt.toNat (r.2.1 17)) (mk0 (r.2.1 13 0).toInt.toNat (r.2.1 18)) (mk0 (r.2.1 13 0).toInt.toNat (r.2.1 19)))))) := by
  unfold f_X9_read_draft
  have hF : FR [3, 12, 13, 14, 15, 17, 18, 19] [] σ σ := FR.rf
  have k_0 : (0 : Int32).toInt = 0 := by decide +kernel
  have k_1 : (1 : Int32).toInt = 1 := by decide +kernel
  have k_3 : (3 : Int32).toInt = 3 := by decide +kernel
  have k_40 : (40 : Int32).toInt = 40 := by decide +kernel
  have k_104 : (104 : Int32).toInt = 104 := by decide +kernel
  have g2 := gX_2 hB 0
  have g3 := gX_3 hB 0
  refine ok_lt fun s_1 e_s_1 => ?_
  have hB_s_1 : BX s_1 := by rw [e_s_1]; exact pX_3 hB (by omega)
  have hF_s_1 : FR [3, 12, 13, 14, 15, 17, 18, 19] [] σ s_1 := by rw [e_s_1]; exact FR.st hF (by decide)
  have w_s_1_3 : (s_1.1 3 0).toInt = (0 : Int32).toInt := by rw [e_s_1, sti_s]
  have w_s_1_12 : (s_1.1 12 0).toInt = (σ.1 12 0).toInt := by rw [e_s_1]; rfl
  have w_s_1_13 : (s_1.1 13 0).toInt = (σ.1 13 0).toInt := by rw [e_s_1]; rfl
  have f_s_1_2 : (s_1.1 2 0).toInt = (σ.1 2 0).toInt := by rw [hF_s_1.1 2 (by decide)]
  refine ok_lt fun s_2 e_s_2 => ?_
  have hB_s_2 : BX s_2 := by rw [e_s_2]; exact pX_12 hB_s_1 (by omega)
  have hF_s_2 : FR [3, 12, 13, 14, 15, 17, 18, 19] [] σ s_2 := by rw [e_s_2]; exact FR.st hF_s_1 (by decide)
  have w_s_2_3 : (s_2.1 3 0).toInt = (s_1.1 3 0).toInt := by rw [e_s_2]; rfl
  have w_s_2_12 : (s_2.1 12 0).toInt = (0 : Int32).toInt := by rw [e_s_2, sti_s]
  have w_s_2_13 : (s_2.1 13 0).toInt = (s_1.1 13 0).toInt := by rw [e_s_2]; rfl
  have f_s_2_2 : (s_2.1 2 0).toInt = (σ.1 2 0).toInt := by rw [hF_s_2.1 2 (by decide)]
  refine ok_lt fun s_3 e_s_3 => ?_
  have hB_s_3 : BX s_3 := by rw [e_s_3]; exact pX_13 hB_s_2 (by omega)
  have hF_s_3 : FR [3, 12, 13, 14, 15, 17, 18, 19] [] σ s_3 := by rw [e_s_3]; exact FR.st hF_s_2 (by decide)
  have w_s_3_3 : (s_3.1 3 0).toInt = (s_2.1 3 0).toInt := by rw [e_s_3]; rfl
  have w_s_3_12 : (s_3.1 12 0).toInt = (s_2.1 12 0).toInt := by rw [e_s_3]; rfl
  have w_s_3_13 : (s_3.1 13 0).toInt = (0 : Int32).toInt := by rw [e_s_3, sti_s]
  have f_s_3_2 : (s_3.1 2 0).toInt = (σ.1 2 0).toInt := by rw [hF_s_3.1 2 (by decide)]
  have hDS_s_3 : DS s_3 := fun i hi => by exfalso; omega
  refine ok_cals (s_X9_skipBlanks  (σ := s_3) hB_s_3 (by omega)) (fun s_4 h_1 => ?_)
  obtain ⟨hB_s_4, hG_s_4, x_s_4⟩ := h_1
  (try dsimp only at hB_s_4 hG_s_4 x_s_4)
  have hF_s_4 : FR [3, 12, 13, 14, 15, 17, 18, 19] [] σ s_4 := FR.cal hF_s_3 hG_s_4 rfl rfl
  have w_s_4_12 : (s_4.1 12 0).toInt = (s_3.1 12 0).toInt := by rw [hG_s_4.1 12 (by decide)]
  have w_s_4_13 : (s_4.1 13 0).toInt = (s_3.1 13 0).toInt := by rw [hG_s_4.1 13 (by decide)]
  have f_s_4_2 : (s_4.1 2 0).toInt = (σ.1 2 0).toInt := by rw [hF_s_4.1 2 (by decide)]
  have hDS_s_4 : DS s_4 := DS.fr hG_s_4 (by decide) hDS_s_3
  have g3b := gX_3 hB_s_4 0
  rw [hF_s_3.1 2 (by decide), hF_s_3.1 1 (by decide), show (s_3.1 3 0).toInt.toNat = 0 by omega] at x_s_4
  obtain ⟨x4a, x4b, x4c⟩ := x_s_4
  refine ok_itr2 (fun (n : Nat) (x2_5 : Int32) (s_5 : Sto) => n = (42 - x2_5.toInt).toNat ∧ (0 ≤ x2_5.toInt ∧ x2_5.toInt ≤ 41) ∧ (BX s_5) ∧ (FR [3, 12, 13, 14, 15, 17, 18, 19] [] σ s_5) ∧ (DS s_5) ∧ ((s_5.1 13 0).toInt = 0) ∧ (x2_5.toInt = (s_5.1 12 0).toInt) ∧ ((s_5.1 3 0).toInt ≤ (σ.1 2 0).toInt) ∧ (paI (σ.1 2 0).toInt.toNat (cb (σ.1 1)) (41 - x2_5.toInt.toNat) (s_5.1 3 0).toInt.toNat (s_5.1 12 0).toInt.toNat (mk0 (s_5.1 12 0).toInt.toNat (s_5.1 14)) (mk0 (s_5.1 12 0).toInt.toNat (s_5.1 15)) = (paQ (σ.1 2 0).toInt.toNat (cb (σ.1 1))))) ?_ (n := _) ⟨rfl, (by omega), hB_s_4, hF_s_4, hDS_s_4, (by omega), (by omega), (by omega), (by rw [x4a, show (s_4.1 12 0).toInt.toNat = 0 by omega, k_0]; rfl)⟩ (show _ < 10000000 by omega)
  intro a_21 n x2_5 s_5 hI ih_a_21
  obtain ⟨hn_a_21, b_x2_5, hB_s_5, hF_s_5, hDS_s_5, h13, hx12, hal, jT⟩ := hI
  have f_s_5_2 : (s_5.1 2 0).toInt = (σ.1 2 0).toInt := by rw [hF_s_5.1 2 (by decide)]
  clear x4a
  refine ok_jn ?_
  refine ok_ite (fun c_2 => ?_) (fun c_2 => ?_)
  · rw [fa_lt] at c_2
    have g_4 := gX_12 hB_s_5 0
    refine ok_ite (fun c_3 => ?_) (fun c_3 => ?_)
    · rw [fa_eq] at c_3
      exact ok_ret ⟨(by (try dsimp only); omega), hB_s_5, hF_s_5, hDS_s_5, (by (try dsimp only); rw [k_0]; exact ⟨paT_q (paI_end jT (by omega)) (Or.inr (by omega)), fun h => absurd h (by omega)⟩)⟩
    · rw [fa_eq] at c_3
      have T0 := paI_end jT (by omega)
      have hRQ_s_5 : EqQ (σ.1 2 0).toInt.toNat (cb (σ.1 1)) (s_5.1 12 0).toInt.toNat (mk0 (s_5.1 12 0).toInt.toNat (s_5.1 14)) (mk0 (s_5.1 12 0).toInt.toNat (s_5.1 15)) := EqQ.of T0
      have hz5 : 1 ≤ (s_5.1 12 0).toInt := by have := gX_12 hB_s_5 0; omega
      have q12s : s_5.1 12 = s_5.1 12 := rfl
      refine ok_itr2 (fun (n : Nat) (x2_8 : Int32) (s_8 : Sto) => n = (5 - x2_8.toInt).toNat ∧ (0 ≤ x2_8.toInt ∧ x2_8.toInt ≤ 4) ∧ (BX s_8) ∧ (FR [3, 12, 13, 14, 15, 17, 18, 19] [] σ s_8) ∧ (DS s_8) ∧ (EqQ (σ.1 2 0).toInt.toNat (cb (σ.1 1)) (s_8.1 12 0).toInt.toNat (mk0 (s_8.1 12 0).toInt.toNat (s_8.1 14)) (mk0 (s_8.1 12 0).toInt.toNat (s_8.1 15))) ∧ (1 ≤ (s_8.1 12 0).toInt) ∧ (x2_8.toInt = (s_8.1 13 0).toInt) ∧ ((s_8.1 3 0).toInt ≤ (σ.1 2 0).toInt) ∧ (paH (σ.1 2 0).toInt.toNat (cb (σ.1 1)) (4 - x2_8.toInt.toNat) (s_8.1 3 0).toInt.toNat (s_8.1 13 0).toInt.toNat (mk0 (s_8.1 13 0).toInt.toNat (s_8.1 17)) (mk0 (s_8.1 13 0).toInt.toNat (s_8.1 18)) (mk0 (s_8.1 13 0).toInt.toNat (s_8.1 19)) = (paR (σ.1 2 0).toInt.toNat (cb (σ.1 1))))) ?_ (n := _) ⟨rfl, (by omega), hB_s_5, hF_s_5, hDS_s_5, hRQ_s_5, (by omega), (by omega), (by omega), (by have q := paR_i T0; rw [show (s_5.1 13 0).toInt.toNat = 0 by omega, k_0]; exact q)⟩ (show _ < 10000000 by omega)
      intro a_78 n x2_8 s_8 hI ih_a_78
      obtain ⟨hn_a_78, b_x2_8, hB_s_8, hF_s_8, hDS_s_8, hRQ_s_8, h12e, hx13, hal8, jH⟩ := hI
      have f_s_8_2 : (s_8.1 2 0).toInt = (σ.1 2 0).toInt := by rw [hF_s_8.1 2 (by decide)]
      have g13l := gX_13 hB_s_8 0
      refine ok_ite (fun c_5 => ?_) (fun c_5 => ?_)
      · rw [fa_lt] at c_5
        exact ok_ret ⟨(by (try dsimp only); omega), hB_s_8, hF_s_8, hDS_s_8, (by (try dsimp only); first | (exfalso; omega) | (rw [k_1]; have T3 := paH_end jH (by omega); exact ⟨paT_r T0 (by omega) T3, fun _ => ⟨by omega, hRQ_s_8, EqR.of T3⟩⟩))⟩
      · rw [fa_lt] at c_5
        have g_7 := gX_2 hB_s_8 0
        have g_8 : (s_8.1 2 0).toInt = (σ.1 2 0).toInt := by rw [hF_s_8.1 2 (by decide)]
        have g_9 := gX_2 hB 0
        have g_10 := gX_3 hB_s_8 0
        refine ok_ite (fun c_6 => ?_) (fun c_6 => ?_)
        · rw [fa_le] at c_6
          exact ok_ret ⟨(by (try dsimp only); omega), hB_s_8, hF_s_8, hDS_s_8, (by (try dsimp only); first | (exfalso; omega) | (rw [k_1]; have T3 := paH_end jH (by omega); exact ⟨paT_r T0 (by omega) T3, fun _ => ⟨by omega, hRQ_s_8, EqR.of T3⟩⟩))⟩
        · rw [fa_le] at c_6
          refine ok_calv (s_X9_readHandler_draft  (σ := s_8) hB_s_8 (by omega)) (fun v_11 s_11 h_11 => ?_)
          obtain ⟨b_v_11, hB_s_11, hG_s_11, x_s_11⟩ := h_11
          (try dsimp only at b_v_11 hB_s_11 hG_s_11 x_s_11)
          have hF_s_11 : FR [3, 12, 13, 14, 15, 17, 18, 19] [] σ s_11 := FR.cal hF_s_8 hG_s_11 rfl rfl
          have w_s_11_12 : (s_11.1 12 0).toInt = (s_8.1 12 0).toInt := by rw [hG_s_11.1 12 (by decide)]
          have f_s_11_2 : (s_11.1 2 0).toInt = (σ.1 2 0).toInt := by rw [hF_s_11.1 2 (by decide)]
          have hDS_s_11 : DS s_11 := DS.fr hG_s_11 (by decide) hDS_s_8
          have hRQ_s_11 : EqQ (σ.1 2 0).toInt.toNat (cb (σ.1 1)) (s_11.1 12 0).toInt.toNat (mk0 (s_11.1 12 0).toInt.toNat (s_11.1 14)) (mk0 (s_11.1 12 0).toInt.toNat (s_11.1 15)) := by rw [hG_s_11.1 12 (by decide), hG_s_11.1 14 (by decide), hG_s_11.1 15 (by decide)]; exact hRQ_s_8
          rw [hF_s_8.1 2 (by decide), hF_s_8.1 1 (by decide)] at x_s_11
          have xH := Hid.i x_s_11.1
          have xE := Hid.i x_s_11.2.1
          have xL := x_s_11.2.2
          clear x_s_11
          refine ok_ite (fun c_12 => ?_) (fun c_12 => ?_)
          · rw [fa_eq] at c_12
            exact ok_ret ⟨(by (try dsimp only); omega), hB_s_11, hF_s_11, hDS_s_11, (by (try dsimp only); rw [k_0]; refine ⟨?_, fun h => absurd h (by omega)⟩; by_cases q : cb (σ.1 1) (s_8.1 3 0).toInt.toNat ≠ 104 ∨ (s_8.1 13 0).toInt = 3; (rw [(xH.o q).2]; exact paT_r T0 (by omega) (paH_no jH (by omega) (by omega) (by omega))); (obtain ⟨b, x, y, w, i1, i2, i3⟩ := xE.o q; rw [show v_11.toInt = 0 by omega] at i1; rw [i2]; exact paT_r T0 (by omega) (paH_bad jH (by omega) (by omega) (fun z => q (by omega)) i1)))⟩
          · rw [fa_eq] at c_12
            refine ok_cals (s_X9_skipBlanks  (σ := s_11) hB_s_11 (by omega)) (fun s_13 h_13 => ?_)
            obtain ⟨hB_s_13, hG_s_13, x_s_13⟩ := h_13
            (try dsimp only at hB_s_13 hG_s_13 x_s_13)
            have hF_s_13 : FR [3, 12, 13, 14, 15, 17, 18, 19] [] σ s_13 := FR.cal hF_s_11 hG_s_13 rfl rfl
            have w_s_13_12 : (s_13.1 12 0).toInt = (s_11.1 12 0).toInt := by rw [hG_s_13.1 12 (by decide)]
            have w_s_13_13 : (s_13.1 13 0).toInt = (s_11.1 13 0).toInt := by rw [hG_s_13.1 13 (by decide)]
            have f_s_13_2 : (s_13.1 2 0).toInt = (σ.1 2 0).toInt := by rw [hF_s_13.1 2 (by decide)]
            have hDS_s_13 : DS s_13 := DS.fr hG_s_13 (by decide) hDS_s_11
            have hRQ_s_13 : EqQ (σ.1 2 0).toInt.toNat (cb (σ.1 1)) (s_13.1 12 0).toInt.toNat (mk0 (s_13.1 12 0).toInt.toNat (s_13.1 14)) (mk0 (s_13.1 12 0).toInt.toNat (s_13.1 15)) := by rw [hG_s_13.1 12 (by decide), hG_s_13.1 14 (by decide), hG_s_13.1 15 (by decide)]; exact hRQ_s_11
            rw [hF_s_11.1 2 (by decide), hF_s_11.1 1 (by decide)] at x_s_13
            have n3 : ¬ (cb (σ.1 1) (s_8.1 3 0).toInt.toNat ≠ 104 ∨ (s_8.1 13 0).toInt = 3) := fun z => by have := (xH.o z).1; omega
            obtain ⟨b, x, y, w, i1, i2, i3⟩ := xE.o n3
            obtain ⟨j1, j2, j3, j4⟩ := i3 (by omega)
            rw [show v_11.toInt = 1 by omega] at i1
            have T2 := paH_on (g := 4 - (x2_8.toInt.toNat + 1)) jH (by omega) (by omega) (fun z => n3 (by omega)) i1
            have e13 : (s_13.1 13 0).toInt.toNat = (s_8.1 13 0).toInt.toNat + 1 := by omega
            obtain ⟨x13a, x13b, x13c⟩ := x_s_13
            rw [← i2, ← x13a, ← j2, ← j3, ← j4] at T2
            clear x13a i1 i2 j2 j3 j4 i3
            rw [← hG_s_13.1 17 (by decide), ← hG_s_13.1 18 (by decide), ← hG_s_13.1 19 (by decide), ← e13] at T2
            obtain ⟨t_14, ht_14, g_14⟩ : ∃ t : Int, (x2_8 + 1).toInt = t ∧ t = x2_8.toInt + (1 : Int32).toInt := ⟨_, rfl, by have h9 := fb_addI (x := x2_8) (y := (1 : Int32)) (by omega) (by omega); exact h9⟩
            refine ok_lt fun x2_14 e_x2_14 => ?_
            have q_x2_14 : x2_14.toInt = t_14 := by rw [e_x2_14]; exact ht_14
            exact ih_a_78 _ x2_14 s_13 (by rw [hn_a_78]; omega) ⟨rfl, (by omega), hB_s_13, hF_s_13, hDS_s_13, hRQ_s_13, (by omega), (by omega), (by omega), (by rw [show x2_14.toInt.toNat = x2_8.toInt.toNat + 1 by omega]; exact T2)⟩
  · rw [fa_lt] at c_2
    have g_16 := gX_2 hB_s_5 0
    have g_17 : (s_5.1 2 0).toInt = (σ.1 2 0).toInt := by rw [hF_s_5.1 2 (by decide)]
    have g_18 := gX_2 hB 0
    have g_19 := gX_3 hB_s_5 0
    refine ok_ite (fun c_15 => ?_) (fun c_15 => ?_)
    · rw [fa_le] at c_15
      have g_21 := gX_12 hB_s_5 0
      refine ok_ite (fun c_20 => ?_) (fun c_20 => ?_)
      · rw [fa_eq] at c_20
        exact ok_ret ⟨(by (try dsimp only); omega), hB_s_5, hF_s_5, hDS_s_5, (by (try dsimp only); rw [k_0]; exact ⟨paT_q (paI_end jT (by omega)) (Or.inr (by omega)), fun h => absurd h (by omega)⟩)⟩
      · rw [fa_eq] at c_20
        have T0 := paI_end jT (by omega)
        have hRQ_s_5 : EqQ (σ.1 2 0).toInt.toNat (cb (σ.1 1)) (s_5.1 12 0).toInt.toNat (mk0 (s_5.1 12 0).toInt.toNat (s_5.1 14)) (mk0 (s_5.1 12 0).toInt.toNat (s_5.1 15)) := EqQ.of T0
        have hz5 : 1 ≤ (s_5.1 12 0).toInt := by have := gX_12 hB_s_5 0; omega
        have q12s : s_5.1 12 = s_5.1 12 := rfl
        refine ok_itr2 (fun (n : Nat) (x2_8 : Int32) (s_8 : Sto) => n = (5 - x2_8.toInt).toNat ∧ (0 ≤ x2_8.toInt ∧ x2_8.toInt ≤ 4) ∧ (BX s_8) ∧ (FR [3, 12, 13, 14, 15, 17, 18, 19] [] σ s_8) ∧ (DS s_8) ∧ (EqQ (σ.1 2 0).toInt.toNat (cb (σ.1 1)) (s_8.1 12 0).toInt.toNat (mk0 (s_8.1 12 0).toInt.toNat (s_8.1 14)) (mk0 (s_8.1 12 0).toInt.toNat (s_8.1 15))) ∧ (1 ≤ (s_8.1 12 0).toInt) ∧ (x2_8.toInt = (s_8.1 13 0).toInt) ∧ ((s_8.1 3 0).toInt ≤ (σ.1 2 0).toInt) ∧ (paH (σ.1 2 0).toInt.toNat (cb (σ.1 1)) (4 - x2_8.toInt.toNat) (s_8.1 3 0).toInt.toNat (s_8.1 13 0).toInt.toNat (mk0 (s_8.1 13 0).toInt.toNat (s_8.1 17)) (mk0 (s_8.1 13 0).toInt.toNat (s_8.1 18)) (mk0 (s_8.1 13 0).toInt.toNat (s_8.1 19)) = (paR (σ.1 2 0).toInt.toNat (cb (σ.1 1))))) ?_ (n := _) ⟨rfl, (by omega), hB_s_5, hF_s_5, hDS_s_5, hRQ_s_5, (by omega), (by omega), (by omega), (by have q := paR_i T0; rw [show (s_5.1 13 0).toInt.toNat = 0 by omega, k_0]; exact q)⟩ (show _ < 10000000 by omega)
        intro a_78 n x2_8 s_8 hI ih_a_78
        obtain ⟨hn_a_78, b_x2_8, hB_s_8, hF_s_8, hDS_s_8, hRQ_s_8, h12e, hx13, hal8, jH⟩ := hI
        have f_s_8_2 : (s_8.1 2 0).toInt = (σ.1 2 0).toInt := by rw [hF_s_8.1 2 (by decide)]
        have g13l := gX_13 hB_s_8 0
        refine ok_ite (fun c_22 => ?_) (fun c_22 => ?_)
        · rw [fa_lt] at c_22
          exact ok_ret ⟨(by (try dsimp only); omega), hB_s_8, hF_s_8, hDS_s_8, (by (try dsimp only); first | (exfalso; omega) | (rw [k_1]; have T3 := paH_end jH (by omega); exact ⟨paT_r T0 (by omega) T3, fun _ => ⟨by omega, hRQ_s_8, EqR.of T3⟩⟩))⟩
        · rw [fa_lt] at c_22
          have g_24 := gX_2 hB_s_8 0
          have g_25 : (s_8.1 2 0).toInt = (σ.1 2 0).toInt := by rw [hF_s_8.1 2 (by decide)]
          have g_26 := gX_3 hB_s_8 0
          refine ok_ite (fun c_23 => ?_) (fun c_23 => ?_)
          · rw [fa_le] at c_23
            exact ok_ret ⟨(by (try dsimp only); omega), hB_s_8, hF_s_8, hDS_s_8, (by (try dsimp only); first | (exfalso; omega) | (rw [k_1]; have T3 := paH_end jH (by omega); exact ⟨paT_r T0 (by omega) T3, fun _ => ⟨by omega, hRQ_s_8, EqR.of T3⟩⟩))⟩
          · rw [fa_le] at c_23
            refine ok_calv (s_X9_readHandler_draft  (σ := s_8) hB_s_8 (by omega)) (fun v_11 s_11 h_27 => ?_)
            obtain ⟨b_v_11, hB_s_11, hG_s_11, x_s_11⟩ := h_27
            (try dsimp only at b_v_11 hB_s_11 hG_s_11 x_s_11)
            have hF_s_11 : FR [3, 12, 13, 14, 15, 17, 18, 19] [] σ s_11 := FR.cal hF_s_8 hG_s_11 rfl rfl
            have w_s_11_12 : (s_11.1 12 0).toInt = (s_8.1 12 0).toInt := by rw [hG_s_11.1 12 (by decide)]
            have f_s_11_2 : (s_11.1 2 0).toInt = (σ.1 2 0).toInt := by rw [hF_s_11.1 2 (by decide)]
            have hDS_s_11 : DS s_11 := DS.fr hG_s_11 (by decide) hDS_s_8
            have hRQ_s_11 : EqQ (σ.1 2 0).toInt.toNat (cb (σ.1 1)) (s_11.1 12 0).toInt.toNat (mk0 (s_11.1 12 0).toInt.toNat (s_11.1 14)) (mk0 (s_11.1 12 0).toInt.toNat (s_11.1 15)) := by rw [hG_s_11.1 12 (by decide), hG_s_11.1 14 (by decide), hG_s_11.1 15 (by decide)]; exact hRQ_s_8
            rw [hF_s_8.1 2 (by decide), hF_s_8.1 1 (by decide)] at x_s_11
            have xH := Hid.i x_s_11.1
            have xE := Hid.i x_s_11.2.1
            have xL := x_s_11.2.2
            clear x_s_11
            refine ok_ite (fun c_28 => ?_) (fun c_28 => ?_)
            · rw [fa_eq] at c_28
              exact ok_ret ⟨(by (try dsimp only); omega), hB_s_11, hF_s_11, hDS_s_11, (by (try dsimp only); rw [k_0]; refine ⟨?_, fun h => absurd h (by omega)⟩; by_cases q : cb (σ.1 1) (s_8.1 3 0).toInt.toNat ≠ 104 ∨ (s_8.1 13 0).toInt = 3; (rw [(xH.o q).2]; exact paT_r T0 (by omega) (paH_no jH (by omega) (by omega) (by omega))); (obtain ⟨b, x, y, w, i1, i2, i3⟩ := xE.o q; rw [show v_11.toInt = 0 by omega] at i1; rw [i2]; exact paT_r T0 (by omega) (paH_bad jH (by omega) (by omega) (fun z => q (by omega)) i1)))⟩
            · rw [fa_eq] at c_28
              refine ok_cals (s_X9_skipBlanks  (σ := s_11) hB_s_11 (by omega)) (fun s_13 h_29 => ?_)
              obtain ⟨hB_s_13, hG_s_13, x_s_13⟩ := h_29
              (try dsimp only at hB_s_13 hG_s_13 x_s_13)
              have hF_s_13 : FR [3, 12, 13, 14, 15, 17, 18, 19] [] σ s_13 := FR.cal hF_s_11 hG_s_13 rfl rfl
              have w_s_13_12 : (s_13.1 12 0).toInt = (s_11.1 12 0).toInt := by rw [hG_s_13.1 12 (by decide)]
              have w_s_13_13 : (s_13.1 13 0).toInt = (s_11.1 13 0).toInt := by rw [hG_s_13.1 13 (by decide)]
              have f_s_13_2 : (s_13.1 2 0).toInt = (σ.1 2 0).toInt := by rw [hF_s_13.1 2 (by decide)]
              have hDS_s_13 : DS s_13 := DS.fr hG_s_13 (by decide) hDS_s_11
              have hRQ_s_13 : EqQ (σ.1 2 0).toInt.toNat (cb (σ.1 1)) (s_13.1 12 0).toInt.toNat (mk0 (s_13.1 12 0).toInt.toNat (s_13.1 14)) (mk0 (s_13.1 12 0).toInt.toNat (s_13.1 15)) := by rw [hG_s_13.1 12 (by decide), hG_s_13.1 14 (by decide), hG_s_13.1 15 (by decide)]; exact hRQ_s_11
              rw [hF_s_11.1 2 (by decide), hF_s_11.1 1 (by decide)] at x_s_13
              have n3 : ¬ (cb (σ.1 1) (s_8.1 3 0).toInt.toNat ≠ 104 ∨ (s_8.1 13 0).toInt = 3) := fun z => by have := (xH.o z).1; omega
              obtain ⟨b, x, y, w, i1, i2, i3⟩ := xE.o n3
              obtain ⟨j1, j2, j3, j4⟩ := i3 (by omega)
              rw [show v_11.toInt = 1 by omega] at i1
              have T2 := paH_on (g := 4 - (x2_8.toInt.toNat + 1)) jH (by omega) (by omega) (fun z => n3 (by omega)) i1
              have e13 : (s_13.1 13 0).toInt.toNat = (s_8.1 13 0).toInt.toNat + 1 := by omega
              obtain ⟨x13a, x13b, x13c⟩ := x_s_13
              rw [← i2, ← x13a, ← j2, ← j3, ← j4] at T2
              clear x13a i1 i2 j2 j3 j4 i3
              rw [← hG_s_13.1 17 (by decide), ← hG_s_13.1 18 (by decide), ← hG_s_13.1 19 (by decide), ← e13] at T2
              obtain ⟨t_30, ht_30, g_30⟩ : ∃ t : Int, (x2_8 + 1).toInt = t ∧ t = x2_8.toInt + (1 : Int32).toInt := ⟨_, rfl, by have h9 := fb_addI (x := x2_8) (y := (1 : Int32)) (by omega) (by omega); exact h9⟩
              refine ok_lt fun x2_14 e_x2_14 => ?_
              have q_x2_14 : x2_14.toInt = t_30 := by rw [e_x2_14]; exact ht_30
              exact ih_a_78 _ x2_14 s_13 (by rw [hn_a_78]; omega) ⟨rfl, (by omega), hB_s_13, hF_s_13, hDS_s_13, hRQ_s_13, (by omega), (by omega), (by omega), (by rw [show x2_14.toInt.toNat = x2_8.toInt.toNat + 1 by omega]; exact T2)⟩
    · rw [fa_le] at c_15
      refine ok_calp (s_X9_current  (σ := s_5) hB_s_5) (fun v_17 h_31 => ?_)
      obtain ⟨b_v_17, x_v_17⟩ := h_31
      (try dsimp only at b_v_17 x_v_17)
      rw [hF_s_5.1 1 (by decide)] at x_v_17
      refine ok_ite (fun c_32 => ?_) (fun c_32 => ?_)
      · rw [fa_eq] at c_32
        have g_34 := gX_12 hB_s_5 0
        refine ok_ite (fun c_33 => ?_) (fun c_33 => ?_)
        · rw [fa_eq] at c_33
          exact ok_ret ⟨(by (try dsimp only); omega), hB_s_5, hF_s_5, hDS_s_5, (by (try dsimp only); rw [k_0]; exact ⟨paT_q (paI_end jT (by omega)) (Or.inr (by omega)), fun h => absurd h (by omega)⟩)⟩
        · rw [fa_eq] at c_33
          have T0 := paI_end jT (by omega)
          have hRQ_s_5 : EqQ (σ.1 2 0).toInt.toNat (cb (σ.1 1)) (s_5.1 12 0).toInt.toNat (mk0 (s_5.1 12 0).toInt.toNat (s_5.1 14)) (mk0 (s_5.1 12 0).toInt.toNat (s_5.1 15)) := EqQ.of T0
          have hz5 : 1 ≤ (s_5.1 12 0).toInt := by have := gX_12 hB_s_5 0; omega
          have q12s : s_5.1 12 = s_5.1 12 := rfl
          refine ok_itr2 (fun (n : Nat) (x2_8 : Int32) (s_8 : Sto) => n = (5 - x2_8.toInt).toNat ∧ (0 ≤ x2_8.toInt ∧ x2_8.toInt ≤ 4) ∧ (BX s_8) ∧ (FR [3, 12, 13, 14, 15, 17, 18, 19] [] σ s_8) ∧ (DS s_8) ∧ (EqQ (σ.1 2 0).toInt.toNat (cb (σ.1 1)) (s_8.1 12 0).toInt.toNat (mk0 (s_8.1 12 0).toInt.toNat (s_8.1 14)) (mk0 (s_8.1 12 0).toInt.toNat (s_8.1 15))) ∧ (1 ≤ (s_8.1 12 0).toInt) ∧ (x2_8.toInt = (s_8.1 13 0).toInt) ∧ ((s_8.1 3 0).toInt ≤ (σ.1 2 0).toInt) ∧ (paH (σ.1 2 0).toInt.toNat (cb (σ.1 1)) (4 - x2_8.toInt.toNat) (s_8.1 3 0).toInt.toNat (s_8.1 13 0).toInt.toNat (mk0 (s_8.1 13 0).toInt.toNat (s_8.1 17)) (mk0 (s_8.1 13 0).toInt.toNat (s_8.1 18)) (mk0 (s_8.1 13 0).toInt.toNat (s_8.1 19)) = (paR (σ.1 2 0).toInt.toNat (cb (σ.1 1))))) ?_ (n := _) ⟨rfl, (by omega), hB_s_5, hF_s_5, hDS_s_5, hRQ_s_5, (by omega), (by omega), (by omega), (by have q := paR_i T0; rw [show (s_5.1 13 0).toInt.toNat = 0 by omega, k_0]; exact q)⟩ (show _ < 10000000 by omega)
          intro a_78 n x2_8 s_8 hI ih_a_78
          obtain ⟨hn_a_78, b_x2_8, hB_s_8, hF_s_8, hDS_s_8, hRQ_s_8, h12e, hx13, hal8, jH⟩ := hI
          have f_s_8_2 : (s_8.1 2 0).toInt = (σ.1 2 0).toInt := by rw [hF_s_8.1 2 (by decide)]
          have g13l := gX_13 hB_s_8 0
          refine ok_ite (fun c_35 => ?_) (fun c_35 => ?_)
          · rw [fa_lt] at c_35
            exact ok_ret ⟨(by (try dsimp only); omega), hB_s_8, hF_s_8, hDS_s_8, (by (try dsimp only); first | (exfalso; omega) | (rw [k_1]; have T3 := paH_end jH (by omega); exact ⟨paT_r T0 (by omega) T3, fun _ => ⟨by omega, hRQ_s_8, EqR.of T3⟩⟩))⟩
          · rw [fa_lt] at c_35
            have g_37 := gX_2 hB_s_8 0
            have g_38 : (s_8.1 2 0).toInt = (σ.1 2 0).toInt := by rw [hF_s_8.1 2 (by decide)]
            have g_39 := gX_3 hB_s_8 0
            refine ok_ite (fun c_36 => ?_) (fun c_36 => ?_)
            · rw [fa_le] at c_36
              exact ok_ret ⟨(by (try dsimp only); omega), hB_s_8, hF_s_8, hDS_s_8, (by (try dsimp only); first | (exfalso; omega) | (rw [k_1]; have T3 := paH_end jH (by omega); exact ⟨paT_r T0 (by omega) T3, fun _ => ⟨by omega, hRQ_s_8, EqR.of T3⟩⟩))⟩
            · rw [fa_le] at c_36
              refine ok_calv (s_X9_readHandler_draft  (σ := s_8) hB_s_8 (by omega)) (fun v_11 s_11 h_40 => ?_)
              obtain ⟨b_v_11, hB_s_11, hG_s_11, x_s_11⟩ := h_40
              (try dsimp only at b_v_11 hB_s_11 hG_s_11 x_s_11)
              have hF_s_11 : FR [3, 12, 13, 14, 15, 17, 18, 19] [] σ s_11 := FR.cal hF_s_8 hG_s_11 rfl rfl
              have w_s_11_12 : (s_11.1 12 0).toInt = (s_8.1 12 0).toInt := by rw [hG_s_11.1 12 (by decide)]
              have f_s_11_2 : (s_11.1 2 0).toInt = (σ.1 2 0).toInt := by rw [hF_s_11.1 2 (by decide)]
              have hDS_s_11 : DS s_11 := DS.fr hG_s_11 (by decide) hDS_s_8
              have hRQ_s_11 : EqQ (σ.1 2 0).toInt.toNat (cb (σ.1 1)) (s_11.1 12 0).toInt.toNat (mk0 (s_11.1 12 0).toInt.toNat (s_11.1 14)) (mk0 (s_11.1 12 0).toInt.toNat (s_11.1 15)) := by rw [hG_s_11.1 12 (by decide), hG_s_11.1 14 (by decide), hG_s_11.1 15 (by decide)]; exact hRQ_s_8
              rw [hF_s_8.1 2 (by decide), hF_s_8.1 1 (by decide)] at x_s_11
              have xH := Hid.i x_s_11.1
              have xE := Hid.i x_s_11.2.1
              have xL := x_s_11.2.2
              clear x_s_11
              refine ok_ite (fun c_41 => ?_) (fun c_41 => ?_)
              · rw [fa_eq] at c_41
                exact ok_ret ⟨(by (try dsimp only); omega), hB_s_11, hF_s_11, hDS_s_11, (by (try dsimp only); rw [k_0]; refine ⟨?_, fun h => absurd h (by omega)⟩; by_cases q : cb (σ.1 1) (s_8.1 3 0).toInt.toNat ≠ 104 ∨ (s_8.1 13 0).toInt = 3; (rw [(xH.o q).2]; exact paT_r T0 (by omega) (paH_no jH (by omega) (by omega) (by omega))); (obtain ⟨b, x, y, w, i1, i2, i3⟩ := xE.o q; rw [show v_11.toInt = 0 by omega] at i1; rw [i2]; exact paT_r T0 (by omega) (paH_bad jH (by omega) (by omega) (fun z => q (by omega)) i1)))⟩
              · rw [fa_eq] at c_41
                refine ok_cals (s_X9_skipBlanks  (σ := s_11) hB_s_11 (by omega)) (fun s_13 h_42 => ?_)
                obtain ⟨hB_s_13, hG_s_13, x_s_13⟩ := h_42
                (try dsimp only at hB_s_13 hG_s_13 x_s_13)
                have hF_s_13 : FR [3, 12, 13, 14, 15, 17, 18, 19] [] σ s_13 := FR.cal hF_s_11 hG_s_13 rfl rfl
                have w_s_13_12 : (s_13.1 12 0).toInt = (s_11.1 12 0).toInt := by rw [hG_s_13.1 12 (by decide)]
                have w_s_13_13 : (s_13.1 13 0).toInt = (s_11.1 13 0).toInt := by rw [hG_s_13.1 13 (by decide)]
                have f_s_13_2 : (s_13.1 2 0).toInt = (σ.1 2 0).toInt := by rw [hF_s_13.1 2 (by decide)]
                have hDS_s_13 : DS s_13 := DS.fr hG_s_13 (by decide) hDS_s_11
                have hRQ_s_13 : EqQ (σ.1 2 0).toInt.toNat (cb (σ.1 1)) (s_13.1 12 0).toInt.toNat (mk0 (s_13.1 12 0).toInt.toNat (s_13.1 14)) (mk0 (s_13.1 12 0).toInt.toNat (s_13.1 15)) := by rw [hG_s_13.1 12 (by decide), hG_s_13.1 14 (by decide), hG_s_13.1 15 (by decide)]; exact hRQ_s_11
                rw [hF_s_11.1 2 (by decide), hF_s_11.1 1 (by decide)] at x_s_13
                have n3 : ¬ (cb (σ.1 1) (s_8.1 3 0).toInt.toNat ≠ 104 ∨ (s_8.1 13 0).toInt = 3) := fun z => by have := (xH.o z).1; omega
                obtain ⟨b, x, y, w, i1, i2, i3⟩ := xE.o n3
                obtain ⟨j1, j2, j3, j4⟩ := i3 (by omega)
                rw [show v_11.toInt = 1 by omega] at i1
                have T2 := paH_on (g := 4 - (x2_8.toInt.toNat + 1)) jH (by omega) (by omega) (fun z => n3 (by omega)) i1
                have e13 : (s_13.1 13 0).toInt.toNat = (s_8.1 13 0).toInt.toNat + 1 := by omega
                obtain ⟨x13a, x13b, x13c⟩ := x_s_13
                rw [← i2, ← x13a, ← j2, ← j3, ← j4] at T2
                clear x13a i1 i2 j2 j3 j4 i3
                rw [← hG_s_13.1 17 (by decide), ← hG_s_13.1 18 (by decide), ← hG_s_13.1 19 (by decide), ← e13] at T2
                obtain ⟨t_43, ht_43, g_43⟩ : ∃ t : Int, (x2_8 + 1).toInt = t ∧ t = x2_8.toInt + (1 : Int32).toInt := ⟨_, rfl, by have h9 := fb_addI (x := x2_8) (y := (1 : Int32)) (by omega) (by omega); exact h9⟩
                refine ok_lt fun x2_14 e_x2_14 => ?_
                have q_x2_14 : x2_14.toInt = t_43 := by rw [e_x2_14]; exact ht_43
                exact ih_a_78 _ x2_14 s_13 (by rw [hn_a_78]; omega) ⟨rfl, (by omega), hB_s_13, hF_s_13, hDS_s_13, hRQ_s_13, (by omega), (by omega), (by omega), (by rw [show x2_14.toInt.toNat = x2_8.toInt.toNat + 1 by omega]; exact T2)⟩
      · rw [fa_eq] at c_32
        refine ok_calv (s_X9_readInstruction_draft  (σ := s_5) hB_s_5 hDS_s_5 (by omega)) (fun v_19 s_19 h_44 => ?_)
        obtain ⟨b_v_19, hB_s_19, hG_s_19, hDS_s_19, x_s_19⟩ := h_44
        (try dsimp only at b_v_19 hB_s_19 hG_s_19 hDS_s_19 x_s_19)
        have hF_s_19 : FR [3, 12, 13, 14, 15, 17, 18, 19] [] σ s_19 := FR.cal hF_s_5 hG_s_19 rfl rfl
        have w_s_19_13 : (s_19.1 13 0).toInt = (s_5.1 13 0).toInt := by rw [hG_s_19.1 13 (by decide)]
        have f_s_19_2 : (s_19.1 2 0).toInt = (σ.1 2 0).toInt := by rw [hF_s_19.1 2 (by decide)]
        rw [hF_s_5.1 2 (by decide), hF_s_5.1 1 (by decide)] at x_s_19
        have g12b := gX_12 hB_s_5 0
        have xS := Hid.i x_s_19.1
        have xT := Hid.i x_s_19.2.1
        have xU := x_s_19.2.2
        clear x_s_19
        refine ok_ite (fun c_45 => ?_) (fun c_45 => ?_)
        · rw [fa_eq] at c_45
          exact ok_ret ⟨(by (try dsimp only); omega), hB_s_19, hF_s_19, hDS_s_19, (by (try dsimp only); rw [k_0]; refine ⟨?_, fun h => absurd h (by omega)⟩; by_cases q : (s_5.1 12 0).toInt = 40; (rw [(xS.o q).2]; exact paT_q (paI_40 jT (by omega) ⟨by omega, by omega⟩ (by omega)) (Or.inl rfl)); (obtain ⟨w, b, i1, i2, i3, i4⟩ := xT.o q; have w1 := i3 (by omega); rw [w1] at i1; rw [i2]; exact paT_q (paI_bad jT (by omega) ⟨by omega, by omega⟩ (by omega) i1) (Or.inl rfl)))⟩
        · rw [fa_eq] at c_45
          refine ok_cals (s_X9_skipBlanks  (σ := s_19) hB_s_19 (by omega)) (fun s_21 h_46 => ?_)
          obtain ⟨hB_s_21, hG_s_21, x_s_21⟩ := h_46
          (try dsimp only at hB_s_21 hG_s_21 x_s_21)
          have hF_s_21 : FR [3, 12, 13, 14, 15, 17, 18, 19] [] σ s_21 := FR.cal hF_s_19 hG_s_21 rfl rfl
          have w_s_21_12 : (s_21.1 12 0).toInt = (s_19.1 12 0).toInt := by rw [hG_s_21.1 12 (by decide)]
          have w_s_21_13 : (s_21.1 13 0).toInt = (s_19.1 13 0).toInt := by rw [hG_s_21.1 13 (by decide)]
          have f_s_21_2 : (s_21.1 2 0).toInt = (σ.1 2 0).toInt := by rw [hF_s_21.1 2 (by decide)]
          have hDS_s_21 : DS s_21 := DS.fr hG_s_21 (by decide) hDS_s_19
          rw [hF_s_19.1 2 (by decide), hF_s_19.1 1 (by decide)] at x_s_21
          have n40 : ¬ (s_5.1 12 0).toInt = 40 := fun z => by have := (xS.o z).1; omega
          obtain ⟨w, b, i1, i2, i3, i4⟩ := xT.o n40
          obtain ⟨j1, j2, j3, j4⟩ := i4 (by omega)
          have T1 := paI_on (g := 41 - (x2_5.toInt.toNat + 1)) jT (by omega) ⟨by omega, by omega⟩ (by omega) i1 j1
          have e12 : (s_21.1 12 0).toInt.toNat = (s_5.1 12 0).toInt.toNat + 1 := by omega
          obtain ⟨x21a, x21b, x21c⟩ := x_s_21
          rw [← i2, ← x21a, ← j3, ← j4] at T1
          clear x21a i1 i2 j3 j4 i3 i4
          rw [← hG_s_21.1 14 (by decide), ← hG_s_21.1 15 (by decide), ← e12] at T1
          obtain ⟨t_47, ht_47, g_47⟩ : ∃ t : Int, (x2_5 + 1).toInt = t ∧ t = x2_5.toInt + (1 : Int32).toInt := ⟨_, rfl, by have h9 := fb_addI (x := x2_5) (y := (1 : Int32)) (by omega) (by omega); exact h9⟩
          refine ok_lt fun x2_22 e_x2_22 => ?_
          have q_x2_22 : x2_22.toInt = t_47 := by rw [e_x2_22]; exact ht_47
          exact ih_a_21 _ x2_22 s_21 (by rw [hn_a_21]; omega) ⟨rfl, (by omega), hB_s_21, hF_s_21, hDS_s_21, (by omega), (by omega), (by omega), (by rw [show x2_22.toInt.toNat = x2_5.toInt.toNat + 1 by omega]; exact T1)⟩

set_option maxHeartbeats 4000000 in
theorem s_X11_fault {σ : Sto} (hB : BX σ) : OK (f_X11_fault σ) (fun r => ((-1) ≤ r.1.toInt ∧ r.1.toInt ≤ 240) ∧ BX r.2 ∧ FR [3, 12, 13, 14, 15, 17, 18, 19] [] σ r.2) := by
  unfold f_X11_fault
  have hF : FR [3, 12, 13, 14, 15, 17, 18, 19] [] σ σ := FR.rf
  have k_m1 : ((-1) : Int32).toInt = -1 := by decide +kernel
  have k_0 : (0 : Int32).toInt = 0 := by decide +kernel
  refine ok_calv (s_X9_read_draft  (σ := σ) hB) (fun v_1 s_1 h_1 => ?_)
  obtain ⟨b_v_1, hB_s_1, hG_s_1, hDS_s_1, x_s_1⟩ := h_1
  (try dsimp only at b_v_1 hB_s_1 hG_s_1 hDS_s_1 x_s_1)
  have hF_s_1 : FR [3, 12, 13, 14, 15, 17, 18, 19] [] σ s_1 := FR.cal hF hG_s_1 rfl rfl
  refine ok_ite (fun c_2 => ?_) (fun c_2 => ?_)
  · rw [fa_eq] at c_2
    have g_3 := gX_3 hB_s_1 0
    exact ok_ret ⟨(by (try dsimp only); omega), hB_s_1, hF_s_1⟩
  · rw [fa_eq] at c_2
    exact ok_ret ⟨(by (try dsimp only); omega), hB_s_1, hF_s_1⟩

set_option maxHeartbeats 4000000 in
theorem s_X3_goesElsewhere_draft {x1 : Int32} {σ : Sto} (hB : BX σ) (p_x1 : 0 ≤ x1.toInt ∧ x1.toInt ≤ 39) : OK (f_X3_goesElsewhere_draft x1 σ) (fun v => (0 ≤ v.toInt ∧ v.toInt ≤ 1) ∧ ((v.toInt = 0 → ¬ gElI (ri (σ.1 14) x1.toNatClampNeg)) ∧ (v.toInt = 1 → gElI (ri (σ.1 14) x1.toNatClampNeg)))) := by
  unfold f_X3_goesElsewhere_draft
  have hF : FR [] [] σ σ := FR.rf
  have k_0 : (0 : Int32).toInt = 0 := by decide +kernel
  have k_1 : (1 : Int32).toInt = 1 := by decide +kernel
  have k_103 : (103 : Int32).toInt = 103 := by decide +kernel
  have k_122 : (122 : Int32).toInt = 122 := by decide +kernel
  refine ok_ix ⟨by omega, by omega⟩ ?_
  have g_1 := gX_14 hB (x1.toNatClampNeg)
  refine ok_lt fun v_1 e_v_1 => ?_
  have b_v_1 : 0 ≤ v_1.toInt ∧ v_1.toInt ≤ 255 := by rw [e_v_1]; exact gX_14 hB _
  have q_v_1 : v_1.toInt = (σ.1 14 x1.toNatClampNeg).toInt := by rw [e_v_1]
  have z1 : v_1.toInt = (σ.1 14 x1.toNatClampNeg).toInt := by rw [e_v_1]
  refine ok_jn ?_
  refine ok_ite (fun c_2 => ?_) (fun c_2 => ?_)
  · rw [fa_eq] at c_2
    exact ok_ret ⟨(by (try dsimp only); omega), ⟨fun h => by (try dsimp only at h); unfold ri; omega, fun h => by (try dsimp only at h); unfold ri; omega⟩⟩
  · rw [fa_eq] at c_2
    refine ok_ix ⟨by omega, by omega⟩ ?_
    refine ok_lt fun v_4 e_v_4 => ?_
    have b_v_4 : 0 ≤ v_4.toInt ∧ v_4.toInt ≤ 255 := by rw [e_v_4]; exact gX_14 hB _
    have q_v_4 : v_4.toInt = (σ.1 14 x1.toNatClampNeg).toInt := by rw [e_v_4]
    refine ok_ite (fun c_3 => ?_) (fun c_3 => ?_)
    · rw [fa_eq] at c_3
      exact ok_ret ⟨(by (try dsimp only); omega), ⟨fun h => by (try dsimp only at h); unfold ri; omega, fun h => by (try dsimp only at h); unfold ri; omega⟩⟩
    · rw [fa_eq] at c_3
      exact ok_ret ⟨(by (try dsimp only); omega), ⟨fun h => by (try dsimp only at h); unfold ri; omega, fun h => by (try dsimp only at h); unfold ri; omega⟩⟩

set_option maxHeartbeats 4000000 in
theorem s_X3_leadsInside_draft {σ : Sto} (hB : BX σ) : OK (f_X3_leadsInside_draft σ) (fun v => (0 ≤ v.toInt ∧ v.toInt ≤ 1) ∧ ((v.toInt = 1 → LDP (σ.1 12 0).toInt.toNat (σ.1 13 0).toInt.toNat (ri (σ.1 14)) (ri (σ.1 15)) (ri (σ.1 17)) (ri (σ.1 18)) (ri (σ.1 19))) ∧ (v.toInt = 0 → ¬ LDP (σ.1 12 0).toInt.toNat (σ.1 13 0).toInt.toNat (ri (σ.1 14)) (ri (σ.1 15)) (ri (σ.1 17)) (ri (σ.1 18)) (ri (σ.1 19))))) := by
  unfold f_X3_leadsInside_draft
  have hF : FR [] [] σ σ := FR.rf
  have k_0 : (0 : Int32).toInt = 0 := by decide +kernel
  have k_1 : (1 : Int32).toInt = 1 := by decide +kernel
  have g12 := gX_12 hB 0
  have g13 := gX_13 hB 0
  refine ok_itr1 (fun (n : Nat) (x1_1 : Int32) => n = (41 - x1_1.toInt).toNat ∧ (0 ≤ x1_1.toInt ∧ x1_1.toInt ≤ 40) ∧ (∀ i : Nat, (i : Int) < x1_1.toInt → gElI (ri (σ.1 14) i) → ri (σ.1 15) i < (σ.1 12 0).toInt.toNat)) ?_ (n := _) ⟨rfl, (by omega), (fun i hi => by exfalso; have h9 : (0 : Int32).toInt = 0 := (by decide +kernel); omega)⟩ (show _ < 10000000 by omega)
  intro a_2 n x1_1 hI ih_a_2
  obtain ⟨hn_a_2, b_x1_1, h1⟩ := hI
  have g_2 := gX_12 hB 0
  refine ok_ite (fun c_1 => ?_) (fun c_1 => ?_)
  · rw [fa_le] at c_1
    refine ok_itr1 (fun (n : Nat) (x1_3 : Int32) => n = (4 - x1_3.toInt).toNat ∧ (0 ≤ x1_3.toInt ∧ x1_3.toInt ≤ 3) ∧ (∀ h : Nat, (h : Int) < x1_3.toInt → ri (σ.1 17) h < ri (σ.1 18) h ∧ ri (σ.1 18) h ≤ (σ.1 12 0).toInt.toNat ∧ ri (σ.1 19) h < (σ.1 12 0).toInt.toNat)) ?_ (n := _) ⟨rfl, (by omega), (fun i hi => by exfalso; have h9 : (0 : Int32).toInt = 0 := (by decide +kernel); omega)⟩ (show _ < 10000000 by omega)
    intro a_41 n x1_3 hI ih_a_41
    obtain ⟨hn_a_41, b_x1_3, h2⟩ := hI
    have g_4 := gX_13 hB 0
    refine ok_ite (fun c_3 => ?_) (fun c_3 => ?_)
    · rw [fa_le] at c_3
      exact ok_ret ⟨(by (try dsimp only); omega), (by (try dsimp only); rw [show (0 : Int32).toInt = 0 from by decide +kernel] at *; first | exact ⟨fun h => absurd h (by omega), fun _ => LDP.n2 (h := x1_3.toNatClampNeg) (by have := clamp_I (x := x1_3) (by omega); omega) (fun z => by unfold ri at z; omega)⟩ | exact ⟨fun h => absurd h (by omega), fun _ => LDP.n1 (i := x1_1.toNatClampNeg) (by have := clamp_I (x := x1_1) (by omega); omega) (x_v_13.2 (by omega)) (by unfold ri; omega)⟩ | exact ⟨fun _ => ⟨fun i hi => h1 i (by omega), fun k hk => h2 k (by omega)⟩, fun h => absurd h (by omega)⟩)⟩
    · rw [fa_le] at c_3
      refine ok_ix ⟨by omega, by omega⟩ ?_
      have g_5 := gX_17 hB (x1_3.toNatClampNeg)
      refine ok_lt fun v_5 e_v_5 => ?_
      have b_v_5 : 0 ≤ v_5.toInt ∧ v_5.toInt ≤ 40 := by rw [e_v_5]; exact gX_17 hB _
      have z5 : v_5.toInt = (σ.1 17 x1_3.toNatClampNeg).toInt := by rw [e_v_5]
      refine ok_ix ⟨by omega, by omega⟩ ?_
      have g_6 := gX_18 hB (x1_3.toNatClampNeg)
      refine ok_lt fun v_6 e_v_6 => ?_
      have b_v_6 : 0 ≤ v_6.toInt ∧ v_6.toInt ≤ 40 := by rw [e_v_6]; exact gX_18 hB _
      have q_v_6 : v_6.toInt = (σ.1 18 x1_3.toNatClampNeg).toInt := by rw [e_v_6]
      have z6 : v_6.toInt = (σ.1 18 x1_3.toNatClampNeg).toInt := by rw [e_v_6]
      refine ok_ite (fun c_7 => ?_) (fun c_7 => ?_)
      · rw [fa_le] at c_7
        exact ok_ret ⟨(by (try dsimp only); omega), (by (try dsimp only); rw [show (0 : Int32).toInt = 0 from by decide +kernel] at *; first | exact ⟨fun h => absurd h (by omega), fun _ => LDP.n2 (h := x1_3.toNatClampNeg) (by have := clamp_I (x := x1_3) (by omega); omega) (fun z => by unfold ri at z; omega)⟩ | exact ⟨fun h => absurd h (by omega), fun _ => LDP.n1 (i := x1_1.toNatClampNeg) (by have := clamp_I (x := x1_1) (by omega); omega) (x_v_13.2 (by omega)) (by unfold ri; omega)⟩ | exact ⟨fun _ => ⟨fun i hi => h1 i (by omega), fun k hk => h2 k (by omega)⟩, fun h => absurd h (by omega)⟩)⟩
      · rw [fa_le] at c_7
        refine ok_ix ⟨by omega, by omega⟩ ?_
        refine ok_lt fun v_8 e_v_8 => ?_
        have b_v_8 : 0 ≤ v_8.toInt ∧ v_8.toInt ≤ 40 := by rw [e_v_8]; exact gX_18 hB _
        have q_v_8 : v_8.toInt = (σ.1 18 x1_3.toNatClampNeg).toInt := by rw [e_v_8]
        have z8 : v_8.toInt = (σ.1 18 x1_3.toNatClampNeg).toInt := by rw [e_v_8]
        refine ok_ite (fun c_8 => ?_) (fun c_8 => ?_)
        · rw [fa_lt] at c_8
          exact ok_ret ⟨(by (try dsimp only); omega), (by (try dsimp only); rw [show (0 : Int32).toInt = 0 from by decide +kernel] at *; first | exact ⟨fun h => absurd h (by omega), fun _ => LDP.n2 (h := x1_3.toNatClampNeg) (by have := clamp_I (x := x1_3) (by omega); omega) (fun z => by unfold ri at z; omega)⟩ | exact ⟨fun h => absurd h (by omega), fun _ => LDP.n1 (i := x1_1.toNatClampNeg) (by have := clamp_I (x := x1_1) (by omega); omega) (x_v_13.2 (by omega)) (by unfold ri; omega)⟩ | exact ⟨fun _ => ⟨fun i hi => h1 i (by omega), fun k hk => h2 k (by omega)⟩, fun h => absurd h (by omega)⟩)⟩
        · rw [fa_lt] at c_8
          refine ok_ix ⟨by omega, by omega⟩ ?_
          have g_9 := gX_19 hB (x1_3.toNatClampNeg)
          refine ok_lt fun v_10 e_v_10 => ?_
          have b_v_10 : 0 ≤ v_10.toInt ∧ v_10.toInt ≤ 40 := by rw [e_v_10]; exact gX_19 hB _
          have z10 : v_10.toInt = (σ.1 19 x1_3.toNatClampNeg).toInt := by rw [e_v_10]
          refine ok_ite (fun c_10 => ?_) (fun c_10 => ?_)
          · rw [fa_lt] at c_10
            obtain ⟨t_11, ht_11, g_11⟩ : ∃ t : Int, (x1_3 + 1).toInt = t ∧ t = x1_3.toInt + (1 : Int32).toInt := ⟨_, rfl, by have h9 := fb_addI (x := x1_3) (y := (1 : Int32)) (by omega) (by omega); exact h9⟩
            refine ok_lt fun x1_12 e_x1_12 => ?_
            have q_x1_12 : x1_12.toInt = t_11 := by rw [e_x1_12]; exact ht_11
            exact ih_a_41 _ x1_12 (by rw [hn_a_41]; omega) ⟨rfl, (by omega), (fun i hi => by by_cases q : i = x1_3.toNatClampNeg; (subst q; unfold ri; omega); exact h2 i (by have := clamp_I (x := x1_3) (by omega); omega))⟩
          · rw [fa_lt] at c_10
            exact ok_ret ⟨(by (try dsimp only); omega), (by (try dsimp only); rw [show (0 : Int32).toInt = 0 from by decide +kernel] at *; first | exact ⟨fun h => absurd h (by omega), fun _ => LDP.n2 (h := x1_3.toNatClampNeg) (by have := clamp_I (x := x1_3) (by omega); omega) (fun z => by unfold ri at z; omega)⟩ | exact ⟨fun h => absurd h (by omega), fun _ => LDP.n1 (i := x1_1.toNatClampNeg) (by have := clamp_I (x := x1_1) (by omega); omega) (x_v_13.2 (by omega)) (by unfold ri; omega)⟩ | exact ⟨fun _ => ⟨fun i hi => h1 i (by omega), fun k hk => h2 k (by omega)⟩, fun h => absurd h (by omega)⟩)⟩
  · rw [fa_le] at c_1
    refine ok_calp (s_X3_goesElsewhere_draft (x1 := x1_1) (σ := σ) hB (by omega)) (fun v_13 h_12 => ?_)
    obtain ⟨b_v_13, x_v_13⟩ := h_12
    (try dsimp only at b_v_13 x_v_13)
    refine ok_jn ?_
    refine ok_ite (fun c_13 => ?_) (fun c_13 => ?_)
    · rw [fa_eq] at c_13
      obtain ⟨t_14, ht_14, g_14⟩ : ∃ t : Int, (x1_1 + 1).toInt = t ∧ t = x1_1.toInt + (1 : Int32).toInt := ⟨_, rfl, by have h9 := fb_addI (x := x1_1) (y := (1 : Int32)) (by omega) (by omega); exact h9⟩
      refine ok_lt fun x1_15 e_x1_15 => ?_
      have q_x1_15 : x1_15.toInt = t_14 := by rw [e_x1_15]; exact ht_14
      exact ih_a_2 _ x1_15 (by rw [hn_a_2]; omega) ⟨rfl, (by omega), (fun i hi g => by by_cases q : i = x1_1.toNatClampNeg; (subst q; first | exact absurd g (x_v_13.1 (by omega)) | (unfold ri; omega)); exact h1 i (by have := clamp_I (x := x1_1) (by omega); omega) g)⟩
    · rw [fa_eq] at c_13
      refine ok_ix ⟨by omega, by omega⟩ ?_
      have g_15 := gX_15 hB (x1_1.toNatClampNeg)
      refine ok_lt fun v_17 e_v_17 => ?_
      have b_v_17 : 0 ≤ v_17.toInt ∧ v_17.toInt ≤ 999 := by rw [e_v_17]; exact gX_15 hB _
      have z17 : v_17.toInt = (σ.1 15 x1_1.toNatClampNeg).toInt := by rw [e_v_17]
      refine ok_ite (fun c_16 => ?_) (fun c_16 => ?_)
      · rw [fa_lt] at c_16
        obtain ⟨t_17, ht_17, g_17⟩ : ∃ t : Int, (x1_1 + 1).toInt = t ∧ t = x1_1.toInt + (1 : Int32).toInt := ⟨_, rfl, by have h9 := fb_addI (x := x1_1) (y := (1 : Int32)) (by omega) (by omega); exact h9⟩
        refine ok_lt fun x1_15 e_x1_15 => ?_
        have q_x1_15 : x1_15.toInt = t_17 := by rw [e_x1_15]; exact ht_17
        exact ih_a_2 _ x1_15 (by rw [hn_a_2]; omega) ⟨rfl, (by omega), (fun i hi g => by by_cases q : i = x1_1.toNatClampNeg; (subst q; first | exact absurd g (x_v_13.1 (by omega)) | (unfold ri; omega)); exact h1 i (by have := clamp_I (x := x1_1) (by omega); omega) g)⟩
      · rw [fa_lt] at c_16
        exact ok_ret ⟨(by (try dsimp only); omega), (by (try dsimp only); rw [show (0 : Int32).toInt = 0 from by decide +kernel] at *; first | exact ⟨fun h => absurd h (by omega), fun _ => LDP.n2 (h := x1_3.toNatClampNeg) (by have := clamp_I (x := x1_3) (by omega); omega) (fun z => by unfold ri at z; omega)⟩ | exact ⟨fun h => absurd h (by omega), fun _ => LDP.n1 (i := x1_1.toNatClampNeg) (by have := clamp_I (x := x1_1) (by omega); omega) (x_v_13.2 (by omega)) (by unfold ri; omega)⟩ | exact ⟨fun _ => ⟨fun i hi => h1 i (by omega), fun k hk => h2 k (by omega)⟩, fun h => absurd h (by omega)⟩)⟩

set_option maxHeartbeats 4000000 in
theorem s_X3_lowestOpen_draft {x1 : Int64} {σ : Sto} (hB : BX σ) : OK (f_X3_lowestOpen_draft x1 σ) (fun v => ((-1) ≤ v.toInt ∧ v.toInt ≤ 39) ∧ ((v.toInt = -1 → loP (σ.1 12 0).toInt.toNat (mk (σ.1 12 0).toInt.toNat (σ.1 16)) (bL x1) = (σ.1 12 0).toInt.toNat) ∧ (v.toInt ≠ -1 → (loP (σ.1 12 0).toInt.toNat (mk (σ.1 12 0).toInt.toNat (σ.1 16)) (bL x1) : Int) = v.toInt ∧ v.toInt < (σ.1 12 0).toInt))) := by
  unfold f_X3_lowestOpen_draft
  have hF : FR [] [] σ σ := FR.rf
  have k_m1 : ((-1) : Int32).toInt = -1 := by decide +kernel
  have k_0 : (0 : Int32).toInt = 0 := by decide +kernel
  have k_1 : (1 : Int32).toInt = 1 := by decide +kernel
  have g12 := gX_12 hB 0
  refine ok_itr1 (fun (n : Nat) (x3_1 : Int32) => n = (41 - x3_1.toInt).toNat ∧ (0 ≤ x3_1.toInt ∧ x3_1.toInt ≤ 40) ∧ (∀ k : Nat, (k : Int) < x3_1.toInt → mk (σ.1 12 0).toInt.toNat (σ.1 16) k = -1 ∨ bL x1 k = true)) ?_ (n := _) ⟨rfl, (by omega), (fun k hk => by exfalso; have h9 : (0 : Int32).toInt = 0 := (by decide +kernel); omega)⟩ (show _ < 10000000 by omega)
  intro a_2 n x3_1 hI ih_a_2
  obtain ⟨hn_a_2, b_x3_1, hno⟩ := hI
  have g_2 := gX_12 hB 0
  refine ok_ite (fun c_1 => ?_) (fun c_1 => ?_)
  · rw [fa_le] at c_1
    exact ok_ret ⟨(by (try dsimp only); omega), (by (try dsimp only); first | exact ⟨fun _ => loP_no hno (by omega), fun h => absurd (by omega) h⟩ | exact ⟨fun h => absurd h (by omega), fun _ => ⟨by rw [loP_at hno x3_1.toNatClampNeg (by omega) (by omega) (by omega) (by cases q : bL x1 x3_1.toNatClampNeg; rfl; exact absurd ((x_v_7 (by omega) (by omega)).mpr q) (by omega))]; omega, by omega⟩⟩)⟩
  · rw [fa_le] at c_1
    refine ok_ix ⟨by omega, by omega⟩ ?_
    have g_3 := gX_16 hB (x3_1.toNatClampNeg)
    refine ok_lt fun v_3 e_v_3 => ?_
    have b_v_3 : (-1) ≤ v_3.toInt ∧ v_3.toInt ≤ 6 := by rw [e_v_3]; exact gX_16 hB _
    have z3 : v_3.toInt = (σ.1 16 x3_1.toNatClampNeg).toInt := by rw [e_v_3]
    have cx3 := clamp_I (x := x3_1) (by omega)
    have zm : mk (σ.1 12 0).toInt.toNat (σ.1 16) x3_1.toNatClampNeg = v_3.toInt := by rw [mk_lt (by omega), z3]
    refine ok_jn ?_
    refine ok_ite (fun c_4 => ?_) (fun c_4 => ?_)
    · rw [fa_eq] at c_4
      obtain ⟨t_5, ht_5, g_5⟩ : ∃ t : Int, (x3_1 + 1).toInt = t ∧ t = x3_1.toInt + (1 : Int32).toInt := ⟨_, rfl, by have h9 := fb_addI (x := x3_1) (y := (1 : Int32)) (by omega) (by omega); exact h9⟩
      refine ok_lt fun x3_5 e_x3_5 => ?_
      have q_x3_5 : x3_5.toInt = t_5 := by rw [e_x3_5]; exact ht_5
      exact ih_a_2 _ x3_5 (by rw [hn_a_2]; omega) ⟨rfl, (by omega), (lo_s hno (by omega) x3_1.toNatClampNeg (by omega) (by first | exact Or.inl (by omega) | exact Or.inr ((x_v_7 (by omega) (by omega)).mp (by omega))))⟩
    · rw [fa_eq] at c_4
      refine ok_calp (s_X11_isIn (x1 := x1) (x2 := x3_1) ) (fun v_7 h_6 => ?_)
      obtain ⟨b_v_7, x_v_7⟩ := h_6
      (try dsimp only at b_v_7 x_v_7)
      refine ok_ite (fun c_7 => ?_) (fun c_7 => ?_)
      · rw [fa_eq] at c_7
        exact ok_ret ⟨(by (try dsimp only); omega), (by (try dsimp only); first | exact ⟨fun _ => loP_no hno (by omega), fun h => absurd (by omega) h⟩ | exact ⟨fun h => absurd h (by omega), fun _ => ⟨by rw [loP_at hno x3_1.toNatClampNeg (by omega) (by omega) (by omega) (by cases q : bL x1 x3_1.toNatClampNeg; rfl; exact absurd ((x_v_7 (by omega) (by omega)).mpr q) (by omega))]; omega, by omega⟩⟩)⟩
      · rw [fa_eq] at c_7
        obtain ⟨t_8, ht_8, g_8⟩ : ∃ t : Int, (x3_1 + 1).toInt = t ∧ t = x3_1.toInt + (1 : Int32).toInt := ⟨_, rfl, by have h9 := fb_addI (x := x3_1) (y := (1 : Int32)) (by omega) (by omega); exact h9⟩
        refine ok_lt fun x3_5 e_x3_5 => ?_
        have q_x3_5 : x3_5.toInt = t_8 := by rw [e_x3_5]; exact ht_8
        exact ih_a_2 _ x3_5 (by rw [hn_a_2]; omega) ⟨rfl, (by omega), (lo_s hno (by omega) x3_1.toNatClampNeg (by omega) (by first | exact Or.inl (by omega) | exact Or.inr ((x_v_7 (by omega) (by omega)).mp (by omega))))⟩

set_option maxHeartbeats 4000000 in
theorem s_X3_needs {x1 : Int32} (p_x1 : 0 ≤ x1.toInt ∧ x1.toInt ≤ 255) : OK (f_X3_needs x1) (fun v => (0 ≤ v.toInt ∧ v.toInt ≤ 2) ∧ (v.toInt = ndI x1.toInt)) := by
  unfold f_X3_needs
  have k_0 : (0 : Int32).toInt = 0 := by decide +kernel
  have k_1 : (1 : Int32).toInt = 1 := by decide +kernel
  have k_2 : (2 : Int32).toInt = 2 := by decide +kernel
  have k_119 : (119 : Int32).toInt = 119 := by decide +kernel
  refine ok_ite (fun c_1 => ?_) (fun c_1 => ?_)
  · have c_1 := c_1
    exact ok_ret ⟨(by (try dsimp only); omega), (by (try dsimp only); unfold ndI; (try unfold opB at x_v_2); (repeat split) <;> omega)⟩
  · have c_1 := c_1
    refine ok_ite (fun c_2 => ?_) (fun c_2 => ?_)
    · have c_2 := c_2
      exact ok_ret ⟨(by (try dsimp only); omega), (by (try dsimp only); unfold ndI; (try unfold opB at x_v_2); (repeat split) <;> omega)⟩
    · have c_2 := c_2
      refine ok_calp (s_X11_isBinary (x1 := x1) ) (fun v_2 h_3 => ?_)
      obtain ⟨b_v_2, x_v_2⟩ := h_3
      (try dsimp only at b_v_2 x_v_2)
      refine ok_ite (fun c_4 => ?_) (fun c_4 => ?_)
      · rw [fa_eq] at c_4
        exact ok_ret ⟨(by (try dsimp only); omega), (by (try dsimp only); unfold ndI; (try unfold opB at x_v_2); (repeat split) <;> omega)⟩
      · rw [fa_eq] at c_4
        exact ok_ret ⟨(by (try dsimp only); omega), (by (try dsimp only); unfold ndI; (try unfold opB at x_v_2); (repeat split) <;> omega)⟩

set_option maxHeartbeats 4000000 in
theorem s_X3_gives {x1 : Int32} (p_x1 : 0 ≤ x1.toInt ∧ x1.toInt ≤ 255) : OK (f_X3_gives x1) (fun v => (0 ≤ v.toInt ∧ v.toInt ≤ 2) ∧ (v.toInt = gvI x1.toInt)) := by
  unfold f_X3_gives
  have k_0 : (0 : Int32).toInt = 0 := by decide +kernel
  have k_1 : (1 : Int32).toInt = 1 := by decide +kernel
  have k_2 : (2 : Int32).toInt = 2 := by decide +kernel
  refine ok_ite (fun c_1 => ?_) (fun c_1 => ?_)
  · have c_1 := c_1
    exact ok_ret ⟨(by (try dsimp only); omega), (by (try dsimp only); unfold gvI; (try unfold opB at x_v_2); (repeat split) <;> omega)⟩
  · have c_1 := c_1
    refine ok_ite (fun c_2 => ?_) (fun c_2 => ?_)
    · have c_2 := c_2
      exact ok_ret ⟨(by (try dsimp only); omega), (by (try dsimp only); unfold gvI; (try unfold opB at x_v_2); (repeat split) <;> omega)⟩
    · have c_2 := c_2
      refine ok_calp (s_X11_isBinary (x1 := x1) ) (fun v_2 h_3 => ?_)
      obtain ⟨b_v_2, x_v_2⟩ := h_3
      (try dsimp only at b_v_2 x_v_2)
      refine ok_ite (fun c_4 => ?_) (fun c_4 => ?_)
      · rw [fa_eq] at c_4
        exact ok_ret ⟨(by (try dsimp only); omega), (by (try dsimp only); unfold gvI; (try unfold opB at x_v_2); (repeat split) <;> omega)⟩
      · rw [fa_eq] at c_4
        exact ok_ret ⟨(by (try dsimp only); omega), (by (try dsimp only); unfold gvI; (try unfold opB at x_v_2); (repeat split) <;> omega)⟩

set_option maxHeartbeats 4000000 in
theorem s_X3_depthBehind_draft {x1 : Int32} {σ : Sto} (hB : BX σ) (p_x1 : 0 ≤ x1.toInt ∧ x1.toInt ≤ 39) : OK (f_X3_depthBehind_draft x1 σ) (fun v => ((-3) ≤ v.toInt ∧ v.toInt ≤ 8) ∧ (HD (σ.1 14 x1.toNatClampNeg).toInt (σ.1 16 x1.toNatClampNeg).toInt v.toInt)) := by
  unfold f_X3_depthBehind_draft
  have hF : FR [] [] σ σ := FR.rf
  refine ok_ix ⟨by omega, by omega⟩ ?_
  have g_1 := gX_16 hB (x1.toNatClampNeg)
  refine ok_lt fun v_1 e_v_1 => ?_
  have b_v_1 : (-1) ≤ v_1.toInt ∧ v_1.toInt ≤ 6 := by rw [e_v_1]; exact gX_16 hB _
  refine ok_ix ⟨by omega, by omega⟩ ?_
  have g_2 := gX_14 hB (x1.toNatClampNeg)
  refine ok_lt fun v_2 e_v_2 => ?_
  have b_v_2 : 0 ≤ v_2.toInt ∧ v_2.toInt ≤ 255 := by rw [e_v_2]; exact gX_14 hB _
  have q_v_2 : v_2.toInt = (σ.1 14 x1.toNatClampNeg).toInt := by rw [e_v_2]
  refine ok_calp (s_X3_needs (x1 := v_2) (by omega)) (fun v_3 h_3 => ?_)
  obtain ⟨b_v_3, x_v_3⟩ := h_3
  (try dsimp only at b_v_3 x_v_3)
  refine ok_ix ⟨by omega, by omega⟩ ?_
  refine ok_lt fun v_4 e_v_4 => ?_
  have b_v_4 : 0 ≤ v_4.toInt ∧ v_4.toInt ≤ 255 := by rw [e_v_4]; exact gX_14 hB _
  have q_v_4 : v_4.toInt = (σ.1 14 x1.toNatClampNeg).toInt := by rw [e_v_4]
  refine ok_calp (s_X3_gives (x1 := v_4) (by omega)) (fun v_5 h_4 => ?_)
  obtain ⟨b_v_5, x_v_5⟩ := h_4
  (try dsimp only at b_v_5 x_v_5)
  have y3 : v_3.toInt = ndI (σ.1 14 x1.toNatClampNeg).toInt := by rw [x_v_3, e_v_2]
  have y5 : v_5.toInt = gvI (σ.1 14 x1.toNatClampNeg).toInt := by rw [x_v_5, e_v_4]
  have y1 : v_1.toInt = (σ.1 16 x1.toNatClampNeg).toInt := by rw [e_v_1]
  obtain ⟨t_5, ht_5, g_5⟩ : ∃ t : Int, (v_1 - v_3).toInt = t ∧ t = v_1.toInt - v_3.toInt := ⟨_, rfl, by have h9 := fb_subI (x := v_1) (y := v_3) (by omega) (by omega); exact h9⟩
  obtain ⟨t_6, ht_6, g_6⟩ : ∃ t : Int, ((v_1 - v_3) + v_5).toInt = t ∧ t = t_5 + v_5.toInt := ⟨_, rfl, by have h9 := fb_addI (x := (v_1 - v_3)) (y := v_5) (by rw [ht_5]; omega) (by rw [ht_5]; omega); rw [ht_5] at h9; exact h9⟩
  exact ok_ret ⟨(by (try dsimp only); rw [ht_6]; omega), (by (try dsimp only); unfold HD; omega)⟩

set_option maxHeartbeats 4000000 in
theorem s_X3_ends_draft {x1 : Int32} {σ : Sto} (hB : BX σ) (p_x1 : 0 ≤ x1.toInt ∧ x1.toInt ≤ 39) : OK (f_X3_ends_draft x1 σ) (fun v => (0 ≤ v.toInt ∧ v.toInt ≤ 1) ∧ ((v.toInt = 0 → (σ.1 14 x1.toNatClampNeg).toInt ≠ 116 ∧ (σ.1 14 x1.toNatClampNeg).toInt ≠ 114) ∧ (v.toInt = 1 → (σ.1 14 x1.toNatClampNeg).toInt = 116 ∨ (σ.1 14 x1.toNatClampNeg).toInt = 114))) := by
  unfold f_X3_ends_draft
  have hF : FR [] [] σ σ := FR.rf
  have k_0 : (0 : Int32).toInt = 0 := by decide +kernel
  have k_1 : (1 : Int32).toInt = 1 := by decide +kernel
  have k_114 : (114 : Int32).toInt = 114 := by decide +kernel
  have k_116 : (116 : Int32).toInt = 116 := by decide +kernel
  refine ok_ix ⟨by omega, by omega⟩ ?_
  have g_1 := gX_14 hB (x1.toNatClampNeg)
  refine ok_lt fun v_1 e_v_1 => ?_
  have b_v_1 : 0 ≤ v_1.toInt ∧ v_1.toInt ≤ 255 := by rw [e_v_1]; exact gX_14 hB _
  have q_v_1 : v_1.toInt = (σ.1 14 x1.toNatClampNeg).toInt := by rw [e_v_1]
  have z1 : v_1.toInt = (σ.1 14 x1.toNatClampNeg).toInt := by rw [e_v_1]
  refine ok_jn ?_
  refine ok_ite (fun c_2 => ?_) (fun c_2 => ?_)
  · rw [fa_eq] at c_2
    exact ok_ret ⟨(by (try dsimp only); omega), ⟨fun h => by (try dsimp only at h); omega, fun h => by (try dsimp only at h); omega⟩⟩
  · rw [fa_eq] at c_2
    refine ok_ix ⟨by omega, by omega⟩ ?_
    refine ok_lt fun v_4 e_v_4 => ?_
    have b_v_4 : 0 ≤ v_4.toInt ∧ v_4.toInt ≤ 255 := by rw [e_v_4]; exact gX_14 hB _
    have q_v_4 : v_4.toInt = (σ.1 14 x1.toNatClampNeg).toInt := by rw [e_v_4]
    refine ok_ite (fun c_3 => ?_) (fun c_3 => ?_)
    · rw [fa_eq] at c_3
      exact ok_ret ⟨(by (try dsimp only); omega), ⟨fun h => by (try dsimp only at h); omega, fun h => by (try dsimp only at h); omega⟩⟩
    · rw [fa_eq] at c_3
      exact ok_ret ⟨(by (try dsimp only); omega), ⟨fun h => by (try dsimp only at h); omega, fun h => by (try dsimp only at h); omega⟩⟩

set_option maxHeartbeats 4000000 in
theorem s_X3_goesOn_draft {x1 : Int32} {σ : Sto} (hB : BX σ) (p_x1 : 0 ≤ x1.toInt ∧ x1.toInt ≤ 39) : OK (f_X3_goesOn_draft x1 σ) (fun v => (0 ≤ v.toInt ∧ v.toInt ≤ 1) ∧ ((v.toInt = 0 → ¬ gOnI (ri (σ.1 14) x1.toNatClampNeg)) ∧ (v.toInt = 1 → gOnI (ri (σ.1 14) x1.toNatClampNeg)))) := by
  unfold f_X3_goesOn_draft
  have hF : FR [] [] σ σ := FR.rf
  have k_0 : (0 : Int32).toInt = 0 := by decide +kernel
  have k_1 : (1 : Int32).toInt = 1 := by decide +kernel
  have k_103 : (103 : Int32).toInt = 103 := by decide +kernel
  refine ok_ix ⟨by omega, by omega⟩ ?_
  have g_1 := gX_14 hB (x1.toNatClampNeg)
  refine ok_lt fun v_1 e_v_1 => ?_
  have b_v_1 : 0 ≤ v_1.toInt ∧ v_1.toInt ≤ 255 := by rw [e_v_1]; exact gX_14 hB _
  have z1 : v_1.toInt = (σ.1 14 x1.toNatClampNeg).toInt := by rw [e_v_1]
  refine ok_jn ?_
  refine ok_ite (fun c_2 => ?_) (fun c_2 => ?_)
  · rw [fa_eq] at c_2
    exact ok_ret ⟨(by (try dsimp only); omega), ⟨fun h => by (try dsimp only at h); unfold ri; omega, fun h => by (try dsimp only at h); unfold ri; omega⟩⟩
  · rw [fa_eq] at c_2
    refine ok_calp (s_X3_ends_draft (x1 := x1) (σ := σ) hB (by omega)) (fun v_4 h_3 => ?_)
    obtain ⟨b_v_4, x_v_4⟩ := h_3
    (try dsimp only at b_v_4 x_v_4)
    refine ok_ite (fun c_4 => ?_) (fun c_4 => ?_)
    · rw [fa_eq] at c_4
      exact ok_ret ⟨(by (try dsimp only); omega), ⟨fun h => by (try dsimp only at h); unfold ri; omega, fun h => by (try dsimp only at h); unfold ri; omega⟩⟩
    · rw [fa_eq] at c_4
      exact ok_ret ⟨(by (try dsimp only); omega), ⟨fun h => by (try dsimp only at h); unfold ri; omega, fun h => by (try dsimp only at h); unfold ri; omega⟩⟩

set_option maxHeartbeats 4000000 in
theorem s_X3_canThrow_draft {x1 : Int32} {σ : Sto} (hB : BX σ) (p_x1 : 0 ≤ x1.toInt ∧ x1.toInt ≤ 39) : OK (f_X3_canThrow_draft x1 σ) (fun v => (0 ≤ v.toInt ∧ v.toInt ≤ 1) ∧ ((v.toInt = 0 → ¬ cThI (ri (σ.1 14) x1.toNatClampNeg)) ∧ (v.toInt = 1 → cThI (ri (σ.1 14) x1.toNatClampNeg)))) := by
  unfold f_X3_canThrow_draft
  have hF : FR [] [] σ σ := FR.rf
  have k_0 : (0 : Int32).toInt = 0 := by decide +kernel
  have k_1 : (1 : Int32).toInt = 1 := by decide +kernel
  have k_37 : (37 : Int32).toInt = 37 := by decide +kernel
  have k_47 : (47 : Int32).toInt = 47 := by decide +kernel
  have k_116 : (116 : Int32).toInt = 116 := by decide +kernel
  refine ok_ix ⟨by omega, by omega⟩ ?_
  have g_1 := gX_14 hB (x1.toNatClampNeg)
  refine ok_lt fun v_1 e_v_1 => ?_
  have b_v_1 : 0 ≤ v_1.toInt ∧ v_1.toInt ≤ 255 := by rw [e_v_1]; exact gX_14 hB _
  have q_v_1 : v_1.toInt = (σ.1 14 x1.toNatClampNeg).toInt := by rw [e_v_1]
  have z1 : v_1.toInt = (σ.1 14 x1.toNatClampNeg).toInt := by rw [e_v_1]
  refine ok_jn ?_
  refine ok_ite (fun c_2 => ?_) (fun c_2 => ?_)
  · rw [fa_eq] at c_2
    exact ok_ret ⟨(by (try dsimp only); omega), ⟨fun h => by (try dsimp only at h); unfold ri; omega, fun h => by (try dsimp only at h); unfold ri; omega⟩⟩
  · rw [fa_eq] at c_2
    refine ok_ix ⟨by omega, by omega⟩ ?_
    refine ok_lt fun v_4 e_v_4 => ?_
    have b_v_4 : 0 ≤ v_4.toInt ∧ v_4.toInt ≤ 255 := by rw [e_v_4]; exact gX_14 hB _
    have q_v_4 : v_4.toInt = (σ.1 14 x1.toNatClampNeg).toInt := by rw [e_v_4]
    refine ok_ite (fun c_3 => ?_) (fun c_3 => ?_)
    · rw [fa_eq] at c_3
      exact ok_ret ⟨(by (try dsimp only); omega), ⟨fun h => by (try dsimp only at h); unfold ri; omega, fun h => by (try dsimp only at h); unfold ri; omega⟩⟩
    · rw [fa_eq] at c_3
      refine ok_ix ⟨by omega, by omega⟩ ?_
      refine ok_lt fun v_6 e_v_6 => ?_
      have b_v_6 : 0 ≤ v_6.toInt ∧ v_6.toInt ≤ 255 := by rw [e_v_6]; exact gX_14 hB _
      have q_v_6 : v_6.toInt = (σ.1 14 x1.toNatClampNeg).toInt := by rw [e_v_6]
      refine ok_ite (fun c_4 => ?_) (fun c_4 => ?_)
      · rw [fa_eq] at c_4
        exact ok_ret ⟨(by (try dsimp only); omega), ⟨fun h => by (try dsimp only at h); unfold ri; omega, fun h => by (try dsimp only at h); unfold ri; omega⟩⟩
      · rw [fa_eq] at c_4
        exact ok_ret ⟨(by (try dsimp only); omega), ⟨fun h => by (try dsimp only at h); unfold ri; omega, fun h => by (try dsimp only at h); unfold ri; omega⟩⟩

set_option maxHeartbeats 4000000 in
theorem s_X3_arrive_draft {x1 : Int32} {x2 : Int32} {σ : Sto} (hB : BX σ) (p_x1 : 0 ≤ x1.toInt ∧ x1.toInt ≤ 39) (p_x2 : 0 ≤ x2.toInt ∧ x2.toInt ≤ 6) (hx : x1.toInt < (σ.1 12 0).toInt) : OK (f_X3_arrive_draft x1 x2 σ) (fun r => (0 ≤ r.1.toInt ∧ r.1.toInt ≤ 1) ∧ BX r.2 ∧ FR [16] [] σ r.2 ∧ ((mk (σ.1 12 0).toInt.toNat (r.2.1 16) = arP (mk (σ.1 12 0).toInt.toNat (σ.1 16)) x1.toNatClampNeg x2.toInt) ∧ (r.1.toInt = 1 ↔ mk (σ.1 12 0).toInt.toNat (r.2.1 16) x1.toNatClampNeg = x2.toInt))) := by
  unfold f_X3_arrive_draft
  have hF : FR [16] [] σ σ := FR.rf
  have k_m1 : ((-1) : Int32).toInt = -1 := by decide +kernel
  have k_0 : (0 : Int32).toInt = 0 := by decide +kernel
  have k_1 : (1 : Int32).toInt = 1 := by decide +kernel
  have hN : x1.toNatClampNeg < (σ.1 12 0).toInt.toNat := by have := clamp_I (x := x1) (by omega); omega
  refine ok_ix ⟨by omega, by omega⟩ ?_
  have g_1 := gX_16 hB (x1.toNatClampNeg)
  refine ok_lt fun v_1 e_v_1 => ?_
  have b_v_1 : (-1) ≤ v_1.toInt ∧ v_1.toInt ≤ 6 := by rw [e_v_1]; exact gX_16 hB _
  have z1 := congrArg Int32.toInt e_v_1
  refine ok_jn ?_
  refine ok_ite (fun c_2 => ?_) (fun c_2 => ?_)
  · rw [fa_eq] at c_2
    refine ok_ix ⟨by omega, by omega⟩ ?_
    refine ok_lt fun s_6 e_s_6 => ?_
    have hB_s_6 : BX s_6 := by rw [e_s_6]; exact pX_16 hB (by omega)
    have hF_s_6 : FR [16] [] σ s_6 := by rw [e_s_6]; exact FR.st hF (by decide)
    refine ok_ix ⟨by omega, by omega⟩ ?_
    have g_3 := gX_16 hB_s_6 (x1.toNatClampNeg)
    refine ok_lt fun v_3 e_v_3 => ?_
    have b_v_3 : (-1) ≤ v_3.toInt ∧ v_3.toInt ≤ 6 := by rw [e_v_3]; exact gX_16 hB_s_6 _
    have z3 := congrArg Int32.toInt e_v_3
    refine ok_ite (fun c_4 => ?_) (fun c_4 => ?_)
    · rw [fa_eq] at c_4
      exact ok_ret ⟨(by (try dsimp only); omega), hB_s_6, hF_s_6, ⟨by (try dsimp only); first | exact ar_a hN e_s_6 (by omega) | exact ar_b hN (by omega), by (try dsimp only); rw [mk_lt hN]; exact ⟨fun _ => by omega, fun _ => by omega⟩⟩⟩
    · rw [fa_eq] at c_4
      exact ok_ret ⟨(by (try dsimp only); omega), hB_s_6, hF_s_6, ⟨by (try dsimp only); first | exact ar_a hN e_s_6 (by omega) | exact ar_b hN (by omega), by (try dsimp only); rw [mk_lt hN]; exact ⟨fun _ => by omega, fun _ => by omega⟩⟩⟩
  · rw [fa_eq] at c_2
    refine ok_ix ⟨by omega, by omega⟩ ?_
    refine ok_lt fun v_3 e_v_3 => ?_
    have b_v_3 : (-1) ≤ v_3.toInt ∧ v_3.toInt ≤ 6 := by rw [e_v_3]; exact gX_16 hB _
    have z3 := congrArg Int32.toInt e_v_3
    refine ok_ite (fun c_5 => ?_) (fun c_5 => ?_)
    · rw [fa_eq] at c_5
      exact ok_ret ⟨(by (try dsimp only); omega), hB, hF, ⟨by (try dsimp only); first | exact ar_a hN e_s_6 (by omega) | exact ar_b hN (by omega), by (try dsimp only); rw [mk_lt hN]; exact ⟨fun _ => by omega, fun _ => by omega⟩⟩⟩
    · rw [fa_eq] at c_5
      exact ok_ret ⟨(by (try dsimp only); omega), hB, hF, ⟨by (try dsimp only); first | exact ar_a hN e_s_6 (by omega) | exact ar_b hN (by omega), by (try dsimp only); rw [mk_lt hN]; exact ⟨fun _ => by omega, fun _ => by omega⟩⟩⟩

set_option maxHeartbeats 4000000 in
theorem s_X3_handlerOf_draft {x1 : Int32} {σ : Sto} (hB : BX σ) (p_x1 : 0 ≤ x1.toInt ∧ x1.toInt ≤ 39) : OK (f_X3_handlerOf_draft x1 σ) (fun v => ((-1) ≤ v.toInt ∧ v.toInt ≤ 2) ∧ ((v.toInt = -1 → hoP (σ.1 13 0).toInt.toNat (ri (σ.1 17)) (ri (σ.1 18)) x1.toNatClampNeg = (σ.1 13 0).toInt.toNat) ∧ (v.toInt ≠ -1 → (hoP (σ.1 13 0).toInt.toNat (ri (σ.1 17)) (ri (σ.1 18)) x1.toNatClampNeg : Int) = v.toInt ∧ v.toInt < (σ.1 13 0).toInt))) := by
  unfold f_X3_handlerOf_draft
  have hF : FR [] [] σ σ := FR.rf
  have k_m1 : ((-1) : Int32).toInt = -1 := by decide +kernel
  have k_0 : (0 : Int32).toInt = 0 := by decide +kernel
  have k_1 : (1 : Int32).toInt = 1 := by decide +kernel
  have g13 := gX_13 hB 0
  have cx1 := clamp_I (x := x1) (by omega)
  refine ok_itr1 (fun (n : Nat) (x2_1 : Int32) => n = (4 - x2_1.toInt).toNat ∧ (0 ≤ x2_1.toInt ∧ x2_1.toInt ≤ 3) ∧ (∀ k : Nat, (k : Int) < x2_1.toInt → ¬ (ri (σ.1 17) k ≤ (x1.toNatClampNeg : Int) ∧ (x1.toNatClampNeg : Int) < ri (σ.1 18) k))) ?_ (n := _) ⟨rfl, (by omega), (fun k hk => by exfalso; have h9 : (0 : Int32).toInt = 0 := (by decide +kernel); omega)⟩ (show _ < 10000000 by omega)
  intro a_2 n x2_1 hI ih_a_2
  obtain ⟨hn_a_2, b_x2_1, hno⟩ := hI
  have g_2 := gX_13 hB 0
  refine ok_ite (fun c_1 => ?_) (fun c_1 => ?_)
  · rw [fa_le] at c_1
    exact ok_ret ⟨(by (try dsimp only); omega), (by (try dsimp only); first | exact ⟨fun _ => ho_no hno (by omega), fun h => absurd (by omega) h⟩ | exact ⟨fun h => absurd h (by omega), fun _ => ⟨by rw [ho_at hno x2_1.toNatClampNeg (by omega) (by omega) (by unfold ri; omega)]; omega, by omega⟩⟩)⟩
  · rw [fa_le] at c_1
    refine ok_ix ⟨by omega, by omega⟩ ?_
    have g_3 := gX_17 hB (x2_1.toNatClampNeg)
    refine ok_lt fun v_3 e_v_3 => ?_
    have b_v_3 : 0 ≤ v_3.toInt ∧ v_3.toInt ≤ 40 := by rw [e_v_3]; exact gX_17 hB _
    have z3 : v_3.toInt = (σ.1 17 x2_1.toNatClampNeg).toInt := by rw [e_v_3]
    have cx2 := clamp_I (x := x2_1) (by omega)
    refine ok_jn ?_
    refine ok_ite (fun c_4 => ?_) (fun c_4 => ?_)
    · rw [fa_lt] at c_4
      obtain ⟨t_5, ht_5, g_5⟩ : ∃ t : Int, (x2_1 + 1).toInt = t ∧ t = x2_1.toInt + (1 : Int32).toInt := ⟨_, rfl, by have h9 := fb_addI (x := x2_1) (y := (1 : Int32)) (by omega) (by omega); exact h9⟩
      refine ok_lt fun x2_5 e_x2_5 => ?_
      have q_x2_5 : x2_5.toInt = t_5 := by rw [e_x2_5]; exact ht_5
      exact ih_a_2 _ x2_5 (by rw [hn_a_2]; omega) ⟨rfl, (by omega), (ho_s hno (by omega) x2_1.toNatClampNeg (by omega) (by unfold ri; omega))⟩
    · rw [fa_lt] at c_4
      refine ok_ix ⟨by omega, by omega⟩ ?_
      have g_6 := gX_18 hB (x2_1.toNatClampNeg)
      refine ok_lt fun v_7 e_v_7 => ?_
      have b_v_7 : 0 ≤ v_7.toInt ∧ v_7.toInt ≤ 40 := by rw [e_v_7]; exact gX_18 hB _
      have z7 : v_7.toInt = (σ.1 18 x2_1.toNatClampNeg).toInt := by rw [e_v_7]
      refine ok_ite (fun c_7 => ?_) (fun c_7 => ?_)
      · rw [fa_le] at c_7
        obtain ⟨t_8, ht_8, g_8⟩ : ∃ t : Int, (x2_1 + 1).toInt = t ∧ t = x2_1.toInt + (1 : Int32).toInt := ⟨_, rfl, by have h9 := fb_addI (x := x2_1) (y := (1 : Int32)) (by omega) (by omega); exact h9⟩
        refine ok_lt fun x2_5 e_x2_5 => ?_
        have q_x2_5 : x2_5.toInt = t_8 := by rw [e_x2_5]; exact ht_8
        exact ih_a_2 _ x2_5 (by rw [hn_a_2]; omega) ⟨rfl, (by omega), (ho_s hno (by omega) x2_1.toNatClampNeg (by omega) (by unfold ri; omega))⟩
      · rw [fa_le] at c_7
        exact ok_ret ⟨(by (try dsimp only); omega), (by (try dsimp only); first | exact ⟨fun _ => ho_no hno (by omega), fun h => absurd (by omega) h⟩ | exact ⟨fun h => absurd h (by omega), fun _ => ⟨by rw [ho_at hno x2_1.toNatClampNeg (by omega) (by omega) (by unfold ri; omega)]; omega, by omega⟩⟩)⟩

set_option maxHeartbeats 4000000 in
theorem s_X3_goOver_draft {x1 : Int32} {σ : Sto} (hB : BX σ) (p_x1 : 0 ≤ x1.toInt ∧ x1.toInt ≤ 39) (hx : x1.toInt < (σ.1 12 0).toInt) (hl : LDP (σ.1 12 0).toInt.toNat (σ.1 13 0).toInt.toNat (ri (σ.1 14)) (ri (σ.1 15)) (ri (σ.1 17)) (ri (σ.1 18)) (ri (σ.1 19))) : OK (f_X3_goOver_draft x1 σ) (fun r => ((-6) ≤ r.1.toInt ∧ r.1.toInt ≤ 0) ∧ BX r.2 ∧ FR [16] [] σ r.2 ∧ ((r.1.toInt, mk (σ.1 12 0).toInt.toNat (r.2.1 16)) = goP (σ.1 12 0).toInt.toNat (σ.1 13 0).toInt.toNat (ri (σ.1 14)) (ri (σ.1 15)) (ri (σ.1 17)) (ri (σ.1 18)) (ri (σ.1 19)) x1.toNatClampNeg (mk (σ.1 12 0).toInt.toNat (σ.1 16)))) := by
  unfold f_X3_goOver_draft
  have hF : FR [16] [] σ σ := FR.rf
  have k_m6 : ((-6) : Int32).toInt = -6 := by decide +kernel
  have k_m5 : ((-5) : Int32).toInt = -5 := by decide +kernel
  have k_m4 : ((-4) : Int32).toInt = -4 := by decide +kernel
  have k_m3 : ((-3) : Int32).toInt = -3 := by decide +kernel
  have k_m1 : ((-1) : Int32).toInt = -1 := by decide +kernel
  have k_0 : (0 : Int32).toInt = 0 := by decide +kernel
  have k_1 : (1 : Int32).toInt = 1 := by decide +kernel
  have k_6 : (6 : Int32).toInt = 6 := by decide +kernel
  have g12 := gX_12 hB 0
  have g13 := gX_13 hB 0
  have cx1 := clamp_I (x := x1) (by omega)
  have hN : x1.toNatClampNeg < (σ.1 12 0).toInt.toNat := by omega
  have zs : ri (σ.1 14) x1.toNatClampNeg = (σ.1 14 x1.toNatClampNeg).toInt := rfl
  have zd : mk (σ.1 12 0).toInt.toNat (σ.1 16) x1.toNatClampNeg = (σ.1 16 x1.toNatClampNeg).toInt := mk_lt hN
  refine ok_ix ⟨by omega, by omega⟩ ?_
  have g_1 := gX_16 hB (x1.toNatClampNeg)
  refine ok_lt fun v_1 e_v_1 => ?_
  have b_v_1 : (-1) ≤ v_1.toInt ∧ v_1.toInt ≤ 6 := by rw [e_v_1]; exact gX_16 hB _
  refine ok_ix ⟨by omega, by omega⟩ ?_
  have g_2 := gX_14 hB (x1.toNatClampNeg)
  refine ok_lt fun v_2 e_v_2 => ?_
  have b_v_2 : 0 ≤ v_2.toInt ∧ v_2.toInt ≤ 255 := by rw [e_v_2]; exact gX_14 hB _
  refine ok_calp (s_X3_needs (x1 := v_2) (by omega)) (fun v_3 h_3 => ?_)
  obtain ⟨b_v_3, x_v_3⟩ := h_3
  (try dsimp only at b_v_3 x_v_3)
  have z1 := congrArg Int32.toInt e_v_1
  have z2 := congrArg Int32.toInt e_v_2
  have zn : v_3.toInt = ndI (ri (σ.1 14) x1.toNatClampNeg) := by rw [x_v_3, z2]; rfl
  have y0 := gv_0 (ri (σ.1 14) x1.toNatClampNeg)
  refine ok_ite (fun c_4 => ?_) (fun c_4 => ?_)
  · rw [fa_le] at c_4
    refine ok_calp (s_X3_depthBehind_draft (x1 := x1) (σ := σ) hB (by omega)) (fun v_5 h_5 => ?_)
    obtain ⟨b_v_5, x_v_5⟩ := h_5
    (try dsimp only at b_v_5 x_v_5)
    have yh : v_5.toInt = mk (σ.1 12 0).toInt.toNat (σ.1 16) x1.toNatClampNeg - ndI (ri (σ.1 14) x1.toNatClampNeg) + gvI (ri (σ.1 14) x1.toNatClampNeg) := by rw [zd]; exact x_v_5
    refine ok_ite (fun c_6 => ?_) (fun c_6 => ?_)
    · rw [fa_le] at c_6
      refine ok_calp (s_X3_goesOn_draft (x1 := x1) (σ := σ) hB (by omega)) (fun v_7 h_7 => ?_)
      obtain ⟨b_v_7, x_v_7⟩ := h_7
      (try dsimp only at b_v_7 x_v_7)
      refine ok_jnI1 (fun (s_8 : Sto) => True ∧ (BX s_8) ∧ (FR [16] [] σ s_8) ∧ (goP2 (σ.1 13 0).toInt.toNat (ri (σ.1 14)) (ri (σ.1 15)) (ri (σ.1 17)) (ri (σ.1 18)) (ri (σ.1 19)) x1.toNatClampNeg v_5.toInt (mk (σ.1 12 0).toInt.toNat (s_8.1 16)) = goP (σ.1 12 0).toInt.toNat (σ.1 13 0).toInt.toNat (ri (σ.1 14)) (ri (σ.1 15)) (ri (σ.1 17)) (ri (σ.1 18)) (ri (σ.1 19)) x1.toNatClampNeg (mk (σ.1 12 0).toInt.toNat (σ.1 16)))) ?_ ?_
      · intro s_8 hJ
        obtain ⟨-, hB_s_8, hF_s_8, j71⟩ := hJ
        have f_s_8_12 : (s_8.1 12 0).toInt = (σ.1 12 0).toInt := by rw [hF_s_8.1 12 (by decide)]
        have f_s_8_13 : (s_8.1 13 0).toInt = (σ.1 13 0).toInt := by rw [hF_s_8.1 13 (by decide)]
        refine ok_calp (s_X3_goesElsewhere_draft (x1 := x1) (σ := s_8) hB_s_8 (by omega)) (fun v_9 h_8 => ?_)
        obtain ⟨b_v_9, x_v_9⟩ := h_8
        (try dsimp only at b_v_9 x_v_9)
        rw [hF_s_8.1 14 (by decide)] at x_v_9
        refine ok_jnI1 (fun (s_10 : Sto) => True ∧ (BX s_10) ∧ (FR [16] [] σ s_10) ∧ (goP3 (σ.1 13 0).toInt.toNat (ri (σ.1 14)) (ri (σ.1 17)) (ri (σ.1 18)) (ri (σ.1 19)) x1.toNatClampNeg (mk (σ.1 12 0).toInt.toNat (s_10.1 16)) = goP (σ.1 12 0).toInt.toNat (σ.1 13 0).toInt.toNat (ri (σ.1 14)) (ri (σ.1 15)) (ri (σ.1 17)) (ri (σ.1 18)) (ri (σ.1 19)) x1.toNatClampNeg (mk (σ.1 12 0).toInt.toNat (σ.1 16)))) ?_ ?_
        · intro s_10 hJ
          obtain ⟨-, hB_s_10, hF_s_10, j96⟩ := hJ
          have f_s_10_12 : (s_10.1 12 0).toInt = (σ.1 12 0).toInt := by rw [hF_s_10.1 12 (by decide)]
          have f_s_10_13 : (s_10.1 13 0).toInt = (σ.1 13 0).toInt := by rw [hF_s_10.1 13 (by decide)]
          refine ok_calp (s_X3_canThrow_draft (x1 := x1) (σ := s_10) hB_s_10 (by omega)) (fun v_11 h_9 => ?_)
          obtain ⟨b_v_11, x_v_11⟩ := h_9
          (try dsimp only at b_v_11 x_v_11)
          rw [hF_s_10.1 14 (by decide)] at x_v_11
          refine ok_jnI1 (fun (t0_12 : Int32) => True ∧ ((-1) ≤ t0_12.toInt ∧ t0_12.toInt ≤ 2) ∧ ((t0_12.toInt = -1 → ¬ (cThI (ri (σ.1 14) x1.toNatClampNeg) ∧ hoP (σ.1 13 0).toInt.toNat (ri (σ.1 17)) (ri (σ.1 18)) x1.toNatClampNeg < (σ.1 13 0).toInt.toNat)) ∧ (t0_12.toInt ≠ -1 → cThI (ri (σ.1 14) x1.toNatClampNeg) ∧ (hoP (σ.1 13 0).toInt.toNat (ri (σ.1 17)) (ri (σ.1 18)) x1.toNatClampNeg : Int) = t0_12.toInt ∧ t0_12.toInt < (σ.1 13 0).toInt))) ?_ ?_
          · intro t0_12 hJ
            obtain ⟨-, b_t0_12, j113⟩ := hJ
            refine ok_jn ?_
            refine ok_ite (fun c_10 => ?_) (fun c_10 => ?_)
            · rw [fa_eq] at c_10
              exact ok_ret ⟨(by (try dsimp only); omega), hB_s_10, hF_s_10, (by (try dsimp only); first | (rw [k_m4]; exact goP_4 (by omega)) | (rw [k_m5]; exact goP_5 (by omega) (by omega)) | (rw [k_m3]; exact goP_3 (by omega) (by omega) (x_v_7.2 (by omega)) (by omega)) | (rw [k_m6]; exact goP_6 yh (by omega) (by omega) (x_v_7.2 (by omega)) (by omega) x_s_26.1 (fun z => by have := x_s_26.2.mpr z; omega)) | (rw [k_m6]; exact (goP2_6 hel x_s_22.1 (fun z => by have := x_s_22.2.mpr z; omega)).trans j71) | (rw [k_m6]; exact (goP3_6 (j113.2 (by omega)).1 (q := t0_12.toNatClampNeg) (by have := (j113.2 (by omega)).2.1; omega) (by have := (j113.2 (by omega)).2.2; omega) x_s_16.1 (fun z => by have := x_s_16.2.mpr z; omega)).trans j96) | (rw [k_0]; exact (goP3_0 (j113.2 (by omega)).1 (q := t0_12.toNatClampNeg) (by have := (j113.2 (by omega)).2.1; omega) (by have := (j113.2 (by omega)).2.2; omega) x_s_16.1 (x_s_16.2.mp (by omega))).trans j96) | (rw [k_0]; exact (goP3_n (j113.1 (by omega))).trans j96))⟩
            · rw [fa_eq] at c_10
              refine ok_ix ⟨by omega, by omega⟩ ?_
              have g_11 := gX_19 hB_s_10 (t0_12.toNatClampNeg)
              refine ok_lt fun v_15 e_v_15 => ?_
              have b_v_15 : 0 ≤ v_15.toInt ∧ v_15.toInt ≤ 40 := by rw [e_v_15]; exact gX_19 hB_s_10 _
              have l15 := hl.2 t0_12.toNatClampNeg (by have := clamp_I (x := t0_12) (by omega); omega)
              have z15 : v_15.toInt = ri (σ.1 19) t0_12.toNatClampNeg := by rw [e_v_15, hF_s_10.1 19 (by decide)]; rfl
              have c15 := clamp_I (x := v_15) (by omega)
              have t15 : v_15.toNatClampNeg = (ri (σ.1 19) t0_12.toNatClampNeg).toNat := by omega
              refine ok_calv (s_X3_arrive_draft (x1 := v_15) (x2 := (1 : Int32)) (σ := s_10) hB_s_10 (by omega) (by omega) (by omega)) (fun v_16 s_16 h_12 => ?_)
              obtain ⟨b_v_16, hB_s_16, hG_s_16, x_s_16⟩ := h_12
              (try dsimp only at b_v_16 hB_s_16 hG_s_16 x_s_16)
              have hF_s_16 : FR [16] [] σ s_16 := FR.cal hF_s_10 hG_s_16 rfl rfl
              have f_s_16_12 : (s_16.1 12 0).toInt = (σ.1 12 0).toInt := by rw [hF_s_16.1 12 (by decide)]
              have f_s_16_13 : (s_16.1 13 0).toInt = (σ.1 13 0).toInt := by rw [hF_s_16.1 13 (by decide)]
              rw [hF_s_10.1 12 (by decide), t15] at x_s_16
              have ct0 := clamp_I (x := t0_12) (by omega)
              refine ok_ite (fun c_13 => ?_) (fun c_13 => ?_)
              · rw [fa_eq] at c_13
                exact ok_ret ⟨(by (try dsimp only); omega), hB_s_16, hF_s_16, (by (try dsimp only); first | (rw [k_m4]; exact goP_4 (by omega)) | (rw [k_m5]; exact goP_5 (by omega) (by omega)) | (rw [k_m3]; exact goP_3 (by omega) (by omega) (x_v_7.2 (by omega)) (by omega)) | (rw [k_m6]; exact goP_6 yh (by omega) (by omega) (x_v_7.2 (by omega)) (by omega) x_s_26.1 (fun z => by have := x_s_26.2.mpr z; omega)) | (rw [k_m6]; exact (goP2_6 hel x_s_22.1 (fun z => by have := x_s_22.2.mpr z; omega)).trans j71) | (rw [k_m6]; exact (goP3_6 (j113.2 (by omega)).1 (q := t0_12.toNatClampNeg) (by have := (j113.2 (by omega)).2.1; omega) (by have := (j113.2 (by omega)).2.2; omega) x_s_16.1 (fun z => by have := x_s_16.2.mpr z; omega)).trans j96) | (rw [k_0]; exact (goP3_0 (j113.2 (by omega)).1 (q := t0_12.toNatClampNeg) (by have := (j113.2 (by omega)).2.1; omega) (by have := (j113.2 (by omega)).2.2; omega) x_s_16.1 (x_s_16.2.mp (by omega))).trans j96) | (rw [k_0]; exact (goP3_n (j113.1 (by omega))).trans j96))⟩
              · rw [fa_eq] at c_13
                exact ok_ret ⟨(by (try dsimp only); omega), hB_s_16, hF_s_16, (by (try dsimp only); first | (rw [k_m4]; exact goP_4 (by omega)) | (rw [k_m5]; exact goP_5 (by omega) (by omega)) | (rw [k_m3]; exact goP_3 (by omega) (by omega) (x_v_7.2 (by omega)) (by omega)) | (rw [k_m6]; exact goP_6 yh (by omega) (by omega) (x_v_7.2 (by omega)) (by omega) x_s_26.1 (fun z => by have := x_s_26.2.mpr z; omega)) | (rw [k_m6]; exact (goP2_6 hel x_s_22.1 (fun z => by have := x_s_22.2.mpr z; omega)).trans j71) | (rw [k_m6]; exact (goP3_6 (j113.2 (by omega)).1 (q := t0_12.toNatClampNeg) (by have := (j113.2 (by omega)).2.1; omega) (by have := (j113.2 (by omega)).2.2; omega) x_s_16.1 (fun z => by have := x_s_16.2.mpr z; omega)).trans j96) | (rw [k_0]; exact (goP3_0 (j113.2 (by omega)).1 (q := t0_12.toNatClampNeg) (by have := (j113.2 (by omega)).2.1; omega) (by have := (j113.2 (by omega)).2.2; omega) x_s_16.1 (x_s_16.2.mp (by omega))).trans j96) | (rw [k_0]; exact (goP3_n (j113.1 (by omega))).trans j96))⟩
          · intro k_113 hk_k_113
            refine ok_ite (fun c_14 => ?_) (fun c_14 => ?_)
            · rw [fa_eq] at c_14
              exact hk_k_113 ((-1) : Int32) ⟨trivial, (by omega), (by first | exact ⟨fun _ z => absurd z.1 (x_v_11.1 (by omega)), fun h => absurd (by omega) h⟩ | exact ⟨fun h z => by have := x_v_19.1 h; omega, fun h => ⟨x_v_11.2 (by omega), x_v_19.2 h⟩⟩)⟩
            · rw [fa_eq] at c_14
              refine ok_calp (s_X3_handlerOf_draft (x1 := x1) (σ := s_10) hB_s_10 (by omega)) (fun v_19 h_15 => ?_)
              obtain ⟨b_v_19, x_v_19⟩ := h_15
              (try dsimp only at b_v_19 x_v_19)
              rw [hF_s_10.1 13 (by decide), hF_s_10.1 17 (by decide), hF_s_10.1 18 (by decide)] at x_v_19
              exact hk_k_113 v_19 ⟨trivial, (by omega), (by first | exact ⟨fun _ z => absurd z.1 (x_v_11.1 (by omega)), fun h => absurd (by omega) h⟩ | exact ⟨fun h z => by have := x_v_19.1 h; omega, fun h => ⟨x_v_11.2 (by omega), x_v_19.2 h⟩⟩)⟩
        · intro k_96 hk_k_96
          refine ok_ite (fun c_16 => ?_) (fun c_16 => ?_)
          · rw [fa_eq] at c_16
            exact hk_k_96 s_8 ⟨trivial, hB_s_8, hF_s_8, (by first | exact (goP2_b (x_v_9.1 (by omega))).trans j71 | exact (goP2_a hel x_s_22.1 (x_s_22.2.mp (by omega))).trans j71)⟩
          · rw [fa_eq] at c_16
            refine ok_ix ⟨by omega, by omega⟩ ?_
            have g_17 := gX_15 hB_s_8 (x1.toNatClampNeg)
            refine ok_lt fun v_21 e_v_21 => ?_
            have b_v_21 : 0 ≤ v_21.toInt ∧ v_21.toInt ≤ 999 := by rw [e_v_21]; exact gX_15 hB_s_8 _
            have hel := x_v_9.2 (by omega)
            have z21 : v_21.toInt = ri (σ.1 15) x1.toNatClampNeg := by rw [e_v_21, hF_s_8.1 15 (by decide)]; rfl
            have l21 := hl.1 x1.toNatClampNeg hN hel
            have c21 := clamp_I (x := v_21) (by omega)
            have t21 : v_21.toNatClampNeg = (ri (σ.1 15) x1.toNatClampNeg).toNat := by omega
            refine ok_calv (s_X3_arrive_draft (x1 := v_21) (x2 := v_5) (σ := s_8) hB_s_8 (by omega) (by omega) (by omega)) (fun v_22 s_22 h_18 => ?_)
            obtain ⟨b_v_22, hB_s_22, hG_s_22, x_s_22⟩ := h_18
            (try dsimp only at b_v_22 hB_s_22 hG_s_22 x_s_22)
            have hF_s_22 : FR [16] [] σ s_22 := FR.cal hF_s_8 hG_s_22 rfl rfl
            have f_s_22_12 : (s_22.1 12 0).toInt = (σ.1 12 0).toInt := by rw [hF_s_22.1 12 (by decide)]
            have f_s_22_13 : (s_22.1 13 0).toInt = (σ.1 13 0).toInt := by rw [hF_s_22.1 13 (by decide)]
            rw [hF_s_8.1 12 (by decide), t21] at x_s_22
            refine ok_ite (fun c_19 => ?_) (fun c_19 => ?_)
            · rw [fa_eq] at c_19
              exact ok_ret ⟨(by (try dsimp only); omega), hB_s_22, hF_s_22, (by (try dsimp only); first | (rw [k_m4]; exact goP_4 (by omega)) | (rw [k_m5]; exact goP_5 (by omega) (by omega)) | (rw [k_m3]; exact goP_3 (by omega) (by omega) (x_v_7.2 (by omega)) (by omega)) | (rw [k_m6]; exact goP_6 yh (by omega) (by omega) (x_v_7.2 (by omega)) (by omega) x_s_26.1 (fun z => by have := x_s_26.2.mpr z; omega)) | (rw [k_m6]; exact (goP2_6 hel x_s_22.1 (fun z => by have := x_s_22.2.mpr z; omega)).trans j71) | (rw [k_m6]; exact (goP3_6 (j113.2 (by omega)).1 (q := t0_12.toNatClampNeg) (by have := (j113.2 (by omega)).2.1; omega) (by have := (j113.2 (by omega)).2.2; omega) x_s_16.1 (fun z => by have := x_s_16.2.mpr z; omega)).trans j96) | (rw [k_0]; exact (goP3_0 (j113.2 (by omega)).1 (q := t0_12.toNatClampNeg) (by have := (j113.2 (by omega)).2.1; omega) (by have := (j113.2 (by omega)).2.2; omega) x_s_16.1 (x_s_16.2.mp (by omega))).trans j96) | (rw [k_0]; exact (goP3_n (j113.1 (by omega))).trans j96))⟩
            · rw [fa_eq] at c_19
              exact hk_k_96 s_22 ⟨trivial, hB_s_22, hF_s_22, (by first | exact (goP2_b (x_v_9.1 (by omega))).trans j71 | exact (goP2_a hel x_s_22.1 (x_s_22.2.mp (by omega))).trans j71)⟩
      · intro k_71 hk_k_71
        refine ok_ite (fun c_20 => ?_) (fun c_20 => ?_)
        · rw [fa_eq] at c_20
          exact hk_k_71 σ ⟨trivial, hB, hF, (by first | exact goP_b yh (by omega) (by omega) (x_v_7.1 (by omega)) | exact goP_a yh (by omega) (by omega) (x_v_7.2 (by omega)) (by omega) x_s_26.1 (x_s_26.2.mp (by omega)))⟩
        · rw [fa_eq] at c_20
          obtain ⟨t_22, ht_22, g_22⟩ : ∃ t : Int, (x1 + 1).toInt = t ∧ t = x1.toInt + (1 : Int32).toInt := ⟨_, rfl, by have h9 := fb_addI (x := x1) (y := (1 : Int32)) (by omega) (by omega); exact h9⟩
          have g_23 := gX_12 hB 0
          refine ok_ite (fun c_21 => ?_) (fun c_21 => ?_)
          · rw [fa_lt, ht_22] at c_21
            refine ok_calv (s_X3_arrive_draft (x1 := (x1 + 1)) (x2 := v_5) (σ := σ) hB (by rw [ht_22]; omega) (by omega) (by omega)) (fun v_26 s_26 h_24 => ?_)
            obtain ⟨b_v_26, hB_s_26, hG_s_26, x_s_26⟩ := h_24
            (try dsimp only at b_v_26 hB_s_26 hG_s_26 x_s_26)
            have hF_s_26 : FR [16] [] σ s_26 := FR.cal hF hG_s_26 rfl rfl
            have f_s_26_12 : (s_26.1 12 0).toInt = (σ.1 12 0).toInt := by rw [hF_s_26.1 12 (by decide)]
            have f_s_26_13 : (s_26.1 13 0).toInt = (σ.1 13 0).toInt := by rw [hF_s_26.1 13 (by decide)]
            have xe : (x1 + 1).toNatClampNeg = x1.toNatClampNeg + 1 := by have h8 := clamp_I (x := (x1 + 1)) (by omega); omega
            rw [xe] at x_s_26
            refine ok_ite (fun c_25 => ?_) (fun c_25 => ?_)
            · rw [fa_eq] at c_25
              exact ok_ret ⟨(by (try dsimp only); omega), hB_s_26, hF_s_26, (by (try dsimp only); first | (rw [k_m4]; exact goP_4 (by omega)) | (rw [k_m5]; exact goP_5 (by omega) (by omega)) | (rw [k_m3]; exact goP_3 (by omega) (by omega) (x_v_7.2 (by omega)) (by omega)) | (rw [k_m6]; exact goP_6 yh (by omega) (by omega) (x_v_7.2 (by omega)) (by omega) x_s_26.1 (fun z => by have := x_s_26.2.mpr z; omega)) | (rw [k_m6]; exact (goP2_6 hel x_s_22.1 (fun z => by have := x_s_22.2.mpr z; omega)).trans j71) | (rw [k_m6]; exact (goP3_6 (j113.2 (by omega)).1 (q := t0_12.toNatClampNeg) (by have := (j113.2 (by omega)).2.1; omega) (by have := (j113.2 (by omega)).2.2; omega) x_s_16.1 (fun z => by have := x_s_16.2.mpr z; omega)).trans j96) | (rw [k_0]; exact (goP3_0 (j113.2 (by omega)).1 (q := t0_12.toNatClampNeg) (by have := (j113.2 (by omega)).2.1; omega) (by have := (j113.2 (by omega)).2.2; omega) x_s_16.1 (x_s_16.2.mp (by omega))).trans j96) | (rw [k_0]; exact (goP3_n (j113.1 (by omega))).trans j96))⟩
            · rw [fa_eq] at c_25
              exact hk_k_71 s_26 ⟨trivial, hB_s_26, hF_s_26, (by first | exact goP_b yh (by omega) (by omega) (x_v_7.1 (by omega)) | exact goP_a yh (by omega) (by omega) (x_v_7.2 (by omega)) (by omega) x_s_26.1 (x_s_26.2.mp (by omega)))⟩
          · rw [fa_lt, ht_22] at c_21
            exact ok_ret ⟨(by (try dsimp only); omega), hB, hF, (by (try dsimp only); first | (rw [k_m4]; exact goP_4 (by omega)) | (rw [k_m5]; exact goP_5 (by omega) (by omega)) | (rw [k_m3]; exact goP_3 (by omega) (by omega) (x_v_7.2 (by omega)) (by omega)) | (rw [k_m6]; exact goP_6 yh (by omega) (by omega) (x_v_7.2 (by omega)) (by omega) x_s_26.1 (fun z => by have := x_s_26.2.mpr z; omega)) | (rw [k_m6]; exact (goP2_6 hel x_s_22.1 (fun z => by have := x_s_22.2.mpr z; omega)).trans j71) | (rw [k_m6]; exact (goP3_6 (j113.2 (by omega)).1 (q := t0_12.toNatClampNeg) (by have := (j113.2 (by omega)).2.1; omega) (by have := (j113.2 (by omega)).2.2; omega) x_s_16.1 (fun z => by have := x_s_16.2.mpr z; omega)).trans j96) | (rw [k_0]; exact (goP3_0 (j113.2 (by omega)).1 (q := t0_12.toNatClampNeg) (by have := (j113.2 (by omega)).2.1; omega) (by have := (j113.2 (by omega)).2.2; omega) x_s_16.1 (x_s_16.2.mp (by omega))).trans j96) | (rw [k_0]; exact (goP3_n (j113.1 (by omega))).trans j96))⟩
    · rw [fa_le] at c_6
      exact ok_ret ⟨(by (try dsimp only); omega), hB, hF, (by (try dsimp only); first | (rw [k_m4]; exact goP_4 (by omega)) | (rw [k_m5]; exact goP_5 (by omega) (by omega)) | (rw [k_m3]; exact goP_3 (by omega) (by omega) (x_v_7.2 (by omega)) (by omega)) | (rw [k_m6]; exact goP_6 yh (by omega) (by omega) (x_v_7.2 (by omega)) (by omega) x_s_26.1 (fun z => by have := x_s_26.2.mpr z; omega)) | (rw [k_m6]; exact (goP2_6 hel x_s_22.1 (fun z => by have := x_s_22.2.mpr z; omega)).trans j71) | (rw [k_m6]; exact (goP3_6 (j113.2 (by omega)).1 (q := t0_12.toNatClampNeg) (by have := (j113.2 (by omega)).2.1; omega) (by have := (j113.2 (by omega)).2.2; omega) x_s_16.1 (fun z => by have := x_s_16.2.mpr z; omega)).trans j96) | (rw [k_0]; exact (goP3_0 (j113.2 (by omega)).1 (q := t0_12.toNatClampNeg) (by have := (j113.2 (by omega)).2.1; omega) (by have := (j113.2 (by omega)).2.2; omega) x_s_16.1 (x_s_16.2.mp (by omega))).trans j96) | (rw [k_0]; exact (goP3_n (j113.1 (by omega))).trans j96))⟩
  · rw [fa_le] at c_4
    exact ok_ret ⟨(by (try dsimp only); omega), hB, hF, (by (try dsimp only); first | (rw [k_m4]; exact goP_4 (by omega)) | (rw [k_m5]; exact goP_5 (by omega) (by omega)) | (rw [k_m3]; exact goP_3 (by omega) (by omega) (x_v_7.2 (by omega)) (by omega)) | (rw [k_m6]; exact goP_6 yh (by omega) (by omega) (x_v_7.2 (by omega)) (by omega) x_s_26.1 (fun z => by have := x_s_26.2.mpr z; omega)) | (rw [k_m6]; exact (goP2_6 hel x_s_22.1 (fun z => by have := x_s_22.2.mpr z; omega)).trans j71) | (rw [k_m6]; exact (goP3_6 (j113.2 (by omega)).1 (q := t0_12.toNatClampNeg) (by have := (j113.2 (by omega)).2.1; omega) (by have := (j113.2 (by omega)).2.2; omega) x_s_16.1 (fun z => by have := x_s_16.2.mpr z; omega)).trans j96) | (rw [k_0]; exact (goP3_0 (j113.2 (by omega)).1 (q := t0_12.toNatClampNeg) (by have := (j113.2 (by omega)).2.1; omega) (by have := (j113.2 (by omega)).2.2; omega) x_s_16.1 (x_s_16.2.mp (by omega))).trans j96) | (rw [k_0]; exact (goP3_n (j113.1 (by omega))).trans j96))⟩

set_option maxHeartbeats 4000000 in
theorem s_X3_judge_draft {σ : Sto} (hB : BX σ) (h1z : 1 ≤ (σ.1 12 0).toInt) : OK (f_X3_judge_draft σ) (fun r => ((-6) ≤ r.1.toInt ∧ r.1.toInt ≤ 0) ∧ BX r.2 ∧ FR [16] [] σ r.2 ∧ ((LDP (σ.1 12 0).toInt.toNat (σ.1 13 0).toInt.toNat (ri (σ.1 14)) (ri (σ.1 15)) (ri (σ.1 17)) (ri (σ.1 18)) (ri (σ.1 19)) → (r.1.toInt, mk (σ.1 12 0).toInt.toNat (r.2.1 16)) = JUP (σ.1 12 0).toInt.toNat (σ.1 13 0).toInt.toNat (ri (σ.1 14)) (ri (σ.1 15)) (ri (σ.1 17)) (ri (σ.1 18)) (ri (σ.1 19))) ∧ (¬ LDP (σ.1 12 0).toInt.toNat (σ.1 13 0).toInt.toNat (ri (σ.1 14)) (ri (σ.1 15)) (ri (σ.1 17)) (ri (σ.1 18)) (ri (σ.1 19)) → r.1.toInt = -2))) := by
  unfold f_X3_judge_draft
  have hF : FR [16] [] σ σ := FR.rf
  have k_m2 : ((-2) : Int32).toInt = -2 := by decide +kernel
  have k_m1 : ((-1) : Int32).toInt = -1 := by decide +kernel
  have k_0 : (0 : Int32).toInt = 0 := by decide +kernel
  have k_1 : (1 : Int32).toInt = 1 := by decide +kernel
  have g12 := gX_12 hB 0
  refine ok_calp (s_X3_leadsInside_draft  (σ := σ) hB) (fun v_1 h_1 => ?_)
  obtain ⟨b_v_1, x_v_1⟩ := h_1
  (try dsimp only at b_v_1 x_v_1)
  refine ok_ite (fun c_2 => ?_) (fun c_2 => ?_)
  · rw [fa_eq] at c_2
    exact ok_ret ⟨(by (try dsimp only); omega), hB, hF, (by (try dsimp only); first | exact ⟨fun z => absurd z (x_v_1.2 (by omega)), fun _ => k_m2⟩ | exact ⟨fun _ => by rw [k_0]; exact juP_z jT (by omega), fun z => absurd (x_v_1.1 (by omega)) z⟩ | exact ⟨fun _ => by rw [k_0]; exact juP_0 jT (x_v_8.1 (by omega)), fun z => absurd (x_v_1.1 (by omega)) z⟩ | exact ⟨fun _ => juP_n jT (by omega) hq8 (by omega) x_s_11 (by omega), fun z => absurd (x_v_1.1 (by omega)) z⟩)⟩
  · rw [fa_eq] at c_2
    refine ok_itr2 (fun (n : Nat) (x1_3 : Int32) (s_3 : Sto) => n = (41 - x1_3.toInt).toNat ∧ (0 ≤ x1_3.toInt ∧ x1_3.toInt ≤ 40) ∧ (BX s_3) ∧ (FR [16] [] σ s_3) ∧ (∀ i : Nat, (i : Int) < x1_3.toInt → (s_3.1 16 i).toInt = -1)) ?_ (n := _) ⟨rfl, (by omega), hB, hF, (fun i hi => by exfalso; have h9 : (0 : Int32).toInt = 0 := (by decide +kernel); omega)⟩ (show _ < 10000000 by omega)
    intro a_12 n x1_3 s_3 hI ih_a_12
    obtain ⟨hn_a_12, b_x1_3, hB_s_3, hF_s_3, h16⟩ := hI
    have f_s_3_12 : (s_3.1 12 0).toInt = (σ.1 12 0).toInt := by rw [hF_s_3.1 12 (by decide)]
    have g_4 := gX_12 hB_s_3 0
    have g_5 : (s_3.1 12 0).toInt = (σ.1 12 0).toInt := by rw [hF_s_3.1 12 (by decide)]
    have g_6 := gX_12 hB 0
    refine ok_ite (fun c_3 => ?_) (fun c_3 => ?_)
    · rw [fa_le] at c_3
      refine ok_ix ⟨by omega, by omega⟩ ?_
      refine ok_lt fun s_5 e_s_5 => ?_
      have hB_s_5 : BX s_5 := by rw [e_s_5]; exact pX_16 hB_s_3 (by omega)
      have hF_s_5 : FR [16] [] σ s_5 := by rw [e_s_5]; exact FR.st hF_s_3 (by decide)
      have f_s_5_12 : (s_5.1 12 0).toInt = (σ.1 12 0).toInt := by rw [hF_s_5.1 12 (by decide)]
      have m5 : mk (σ.1 12 0).toInt.toNat (s_5.1 16) = d0P := by funext i; unfold mk d0P; rw [e_s_5, sti_if]; have z0 : (0 : Int32).toNatClampNeg = 0 := rfl; rw [z0]; by_cases r : i = 0; (rw [if_pos r, if_pos r, if_pos (by omega)]; exact k_0); (rw [if_neg r, if_neg r]; by_cases q : i < (σ.1 12 0).toInt.toNat; (rw [if_pos q]; exact h16 i (by omega)); exact if_neg q)
      refine ok_itr3 (fun (n : Nat) (x1_6 : Int64) (x3_6 : Int32) (s_6 : Sto) => n = (41 - x3_6.toInt).toNat ∧ (0 ≤ x3_6.toInt ∧ x3_6.toInt ≤ 40) ∧ (BX s_6) ∧ (FR [16] [] σ s_6) ∧ (juP (σ.1 12 0).toInt.toNat (σ.1 13 0).toInt.toNat (ri (σ.1 14)) (ri (σ.1 15)) (ri (σ.1 17)) (ri (σ.1 18)) (ri (σ.1 19)) ((σ.1 12 0).toInt.toNat - x3_6.toInt.toNat) (bL x1_6) (mk (σ.1 12 0).toInt.toNat (s_6.1 16)) = JUP (σ.1 12 0).toInt.toNat (σ.1 13 0).toInt.toNat (ri (σ.1 14)) (ri (σ.1 15)) (ri (σ.1 17)) (ri (σ.1 18)) (ri (σ.1 19)))) ?_ (n := _) ⟨rfl, (by omega), hB_s_5, hF_s_5, (by rw [m5]; unfold JUP; rw [show bL (0 : Int64) = (fun _ => false) from funext bL_0]; rfl)⟩ (show _ < 10000000 by omega)
      intro a_44 n x1_6 x3_6 s_6 hI ih_a_44
      obtain ⟨hn_a_44, b_x3_6, hB_s_6, hF_s_6, jT⟩ := hI
      have f_s_6_12 : (s_6.1 12 0).toInt = (σ.1 12 0).toInt := by rw [hF_s_6.1 12 (by decide)]
      have g_8 := gX_12 hB_s_6 0
      have g_9 : (s_6.1 12 0).toInt = (σ.1 12 0).toInt := by rw [hF_s_6.1 12 (by decide)]
      refine ok_ite (fun c_7 => ?_) (fun c_7 => ?_)
      · rw [fa_le] at c_7
        exact ok_ret ⟨(by (try dsimp only); omega), hB_s_6, hF_s_6, (by (try dsimp only); first | exact ⟨fun z => absurd z (x_v_1.2 (by omega)), fun _ => k_m2⟩ | exact ⟨fun _ => by rw [k_0]; exact juP_z jT (by omega), fun z => absurd (x_v_1.1 (by omega)) z⟩ | exact ⟨fun _ => by rw [k_0]; exact juP_0 jT (x_v_8.1 (by omega)), fun z => absurd (x_v_1.1 (by omega)) z⟩ | exact ⟨fun _ => juP_n jT (by omega) hq8 (by omega) x_s_11 (by omega), fun z => absurd (x_v_1.1 (by omega)) z⟩)⟩
      · rw [fa_le] at c_7
        refine ok_calp (s_X3_lowestOpen_draft (x1 := x1_6) (σ := s_6) hB_s_6) (fun v_8 h_10 => ?_)
        obtain ⟨b_v_8, x_v_8⟩ := h_10
        (try dsimp only at b_v_8 x_v_8)
        rw [hF_s_6.1 12 (by decide)] at x_v_8
        refine ok_ite (fun c_11 => ?_) (fun c_11 => ?_)
        · rw [fa_eq] at c_11
          exact ok_ret ⟨(by (try dsimp only); omega), hB_s_6, hF_s_6, (by (try dsimp only); first | exact ⟨fun z => absurd z (x_v_1.2 (by omega)), fun _ => k_m2⟩ | exact ⟨fun _ => by rw [k_0]; exact juP_z jT (by omega), fun z => absurd (x_v_1.1 (by omega)) z⟩ | exact ⟨fun _ => by rw [k_0]; exact juP_0 jT (x_v_8.1 (by omega)), fun z => absurd (x_v_1.1 (by omega)) z⟩ | exact ⟨fun _ => juP_n jT (by omega) hq8 (by omega) x_s_11 (by omega), fun z => absurd (x_v_1.1 (by omega)) z⟩)⟩
        · rw [fa_eq] at c_11
          refine ok_lt fun x1_10 e_x1_10 => ?_
          have cv8 := clamp_I (x := v_8) (by omega)
          have lo8 := (x_v_8.2 (by omega)).1
          have hq8 : loP (σ.1 12 0).toInt.toNat (mk (σ.1 12 0).toInt.toNat (s_6.1 16)) (bL x1_6) = v_8.toNatClampNeg := by omega
          refine ok_calv (s_X3_goOver_draft (x1 := v_8) (σ := s_6) hB_s_6 (by omega) (by rw [hF_s_6.1 12 (by decide)]; omega) (by rw [hF_s_6.1 12 (by decide), hF_s_6.1 13 (by decide), hF_s_6.1 14 (by decide), hF_s_6.1 15 (by decide), hF_s_6.1 17 (by decide), hF_s_6.1 18 (by decide), hF_s_6.1 19 (by decide)]; exact x_v_1.1 (by omega))) (fun v_11 s_11 h_12 => ?_)
          obtain ⟨b_v_11, hB_s_11, hG_s_11, x_s_11⟩ := h_12
          (try dsimp only at b_v_11 hB_s_11 hG_s_11 x_s_11)
          have hF_s_11 : FR [16] [] σ s_11 := FR.cal hF_s_6 hG_s_11 rfl rfl
          have f_s_11_12 : (s_11.1 12 0).toInt = (σ.1 12 0).toInt := by rw [hF_s_11.1 12 (by decide)]
          rw [hF_s_6.1 12 (by decide), hF_s_6.1 13 (by decide), hF_s_6.1 14 (by decide), hF_s_6.1 15 (by decide), hF_s_6.1 17 (by decide), hF_s_6.1 18 (by decide), hF_s_6.1 19 (by decide)] at x_s_11
          refine ok_ite (fun c_13 => ?_) (fun c_13 => ?_)
          · rw [fa_eq] at c_13
            obtain ⟨t_14, ht_14, g_14⟩ : ∃ t : Int, (x3_6 + 1).toInt = t ∧ t = x3_6.toInt + (1 : Int32).toInt := ⟨_, rfl, by have h9 := fb_addI (x := x3_6) (y := (1 : Int32)) (by omega) (by omega); exact h9⟩
            refine ok_lt fun x3_13 e_x3_13 => ?_
            have q_x3_13 : x3_13.toInt = t_14 := by rw [e_x3_13]; exact ht_14
            exact ih_a_44 _ x1_10 x3_13 s_11 (by rw [hn_a_44]; omega) ⟨rfl, (by omega), hB_s_11, hF_s_11, (juP_g jT (by omega) hq8 (by omega) x_s_11 (by omega) (fun i => by rw [e_x1_10]; exact bL_set (by omega) (by omega) i))⟩
          · rw [fa_eq] at c_13
            exact ok_ret ⟨(by (try dsimp only); omega), hB_s_11, hF_s_11, (by (try dsimp only); first | exact ⟨fun z => absurd z (x_v_1.2 (by omega)), fun _ => k_m2⟩ | exact ⟨fun _ => by rw [k_0]; exact juP_z jT (by omega), fun z => absurd (x_v_1.1 (by omega)) z⟩ | exact ⟨fun _ => by rw [k_0]; exact juP_0 jT (x_v_8.1 (by omega)), fun z => absurd (x_v_1.1 (by omega)) z⟩ | exact ⟨fun _ => juP_n jT (by omega) hq8 (by omega) x_s_11 (by omega), fun z => absurd (x_v_1.1 (by omega)) z⟩)⟩
    · rw [fa_le] at c_3
      refine ok_ix ⟨by omega, by omega⟩ ?_
      refine ok_lt fun s_14 e_s_14 => ?_
      have hB_s_14 : BX s_14 := by rw [e_s_14]; exact pX_16 hB_s_3 (by omega)
      have hF_s_14 : FR [16] [] σ s_14 := by rw [e_s_14]; exact FR.st hF_s_3 (by decide)
      have f_s_14_12 : (s_14.1 12 0).toInt = (σ.1 12 0).toInt := by rw [hF_s_14.1 12 (by decide)]
      have cx1 := clamp_I (x := x1_3) (by omega)
      obtain ⟨t_15, ht_15, g_15⟩ : ∃ t : Int, (x1_3 + 1).toInt = t ∧ t = x1_3.toInt + (1 : Int32).toInt := ⟨_, rfl, by have h9 := fb_addI (x := x1_3) (y := (1 : Int32)) (by omega) (by omega); exact h9⟩
      refine ok_lt fun x1_15 e_x1_15 => ?_
      have q_x1_15 : x1_15.toInt = t_15 := by rw [e_x1_15]; exact ht_15
      exact ih_a_12 _ x1_15 s_14 (by rw [hn_a_12]; omega) ⟨rfl, (by omega), hB_s_14, hF_s_14, (fun i hi => by rw [e_s_14, sti_if]; by_cases q : i = x1_3.toNatClampNeg; (rw [if_pos q]; exact k_m1); (rw [if_neg q]; exact h16 i (by omega)))⟩

set_option maxHeartbeats 4000000 in
theorem s_X3_copy_draft {σ : Sto} (hB : BX σ) : OK (f_X3_copy_draft σ) (fun s => BX s ∧ FR [4, 5, 6, 7, 8, 9, 10, 11] [] σ s ∧ ((s.1 4 0).toInt = (σ.1 12 0).toInt ∧ (s.1 5 0).toInt = (σ.1 13 0).toInt ∧ (∀ i, i < 40 → s.1 6 i = σ.1 14 i ∧ s.1 7 i = σ.1 15 i ∧ s.1 8 i = σ.1 16 i) ∧ (∀ h, h < 3 → s.1 9 h = σ.1 17 h ∧ s.1 10 h = σ.1 18 h ∧ s.1 11 h = σ.1 19 h))) := by
  unfold f_X3_copy_draft
  have hF : FR [4, 5, 6, 7, 8, 9, 10, 11] [] σ σ := FR.rf
  have g_1 := gX_12 hB 0
  refine ok_lt fun s_1 e_s_1 => ?_
  have hB_s_1 : BX s_1 := by rw [e_s_1]; exact pX_4 hB (by omega)
  have hF_s_1 : FR [4, 5, 6, 7, 8, 9, 10, 11] [] σ s_1 := by rw [e_s_1]; exact FR.st hF (by decide)
  have g_2 := gX_13 hB_s_1 0
  have g_3 : (s_1.1 13 0).toInt = (σ.1 13 0).toInt := by rw [hF_s_1.1 13 (by decide)]
  have g_4 := gX_13 hB 0
  refine ok_lt fun s_2 e_s_2 => ?_
  have hB_s_2 : BX s_2 := by rw [e_s_2]; exact pX_5 hB_s_1 (by omega)
  have hF_s_2 : FR [4, 5, 6, 7, 8, 9, 10, 11] [] σ s_2 := by rw [e_s_2]; exact FR.st hF_s_1 (by decide)
  refine ok_lt fun s_3 e_s_3 => ?_
  have hB_s_3 : BX s_3 := by rw [e_s_3]; exact BD.stc hB_s_2 (fun j => by unfold va_cpy; split; exact hB_s_2 14 _; exact hB_s_2 6 j)
  have hF_s_3 : FR [4, 5, 6, 7, 8, 9, 10, 11] [] σ s_3 := by rw [e_s_3]; exact FR.stc hF_s_2 (by decide)
  refine ok_lt fun s_4 e_s_4 => ?_
  have hB_s_4 : BX s_4 := by rw [e_s_4]; exact BD.stc hB_s_3 (fun j => by unfold va_cpy; split; exact hB_s_3 15 _; exact hB_s_3 7 j)
  have hF_s_4 : FR [4, 5, 6, 7, 8, 9, 10, 11] [] σ s_4 := by rw [e_s_4]; exact FR.stc hF_s_3 (by decide)
  refine ok_lt fun s_5 e_s_5 => ?_
  have hB_s_5 : BX s_5 := by rw [e_s_5]; exact BD.stc hB_s_4 (fun j => by unfold va_cpy; split; exact hB_s_4 16 _; exact hB_s_4 8 j)
  have hF_s_5 : FR [4, 5, 6, 7, 8, 9, 10, 11] [] σ s_5 := by rw [e_s_5]; exact FR.stc hF_s_4 (by decide)
  refine ok_lt fun s_6 e_s_6 => ?_
  have hB_s_6 : BX s_6 := by rw [e_s_6]; exact BD.stc hB_s_5 (fun j => by unfold va_cpy; split; exact hB_s_5 17 _; exact hB_s_5 9 j)
  have hF_s_6 : FR [4, 5, 6, 7, 8, 9, 10, 11] [] σ s_6 := by rw [e_s_6]; exact FR.stc hF_s_5 (by decide)
  refine ok_lt fun s_7 e_s_7 => ?_
  have hB_s_7 : BX s_7 := by rw [e_s_7]; exact BD.stc hB_s_6 (fun j => by unfold va_cpy; split; exact hB_s_6 18 _; exact hB_s_6 10 j)
  have hF_s_7 : FR [4, 5, 6, 7, 8, 9, 10, 11] [] σ s_7 := by rw [e_s_7]; exact FR.stc hF_s_6 (by decide)
  refine ok_lt fun s_8 e_s_8 => ?_
  have hB_s_8 : BX s_8 := by rw [e_s_8]; exact BD.stc hB_s_7 (fun j => by unfold va_cpy; split; exact hB_s_7 19 _; exact hB_s_7 11 j)
  have hF_s_8 : FR [4, 5, 6, 7, 8, 9, 10, 11] [] σ s_8 := by rw [e_s_8]; exact FR.stc hF_s_7 (by decide)
  exact ok_ret ⟨hB_s_8, hF_s_8, ⟨(by rw [e_s_8, e_s_7, e_s_6, e_s_5, e_s_4, e_s_3, e_s_2, e_s_1]; rfl), (by rw [e_s_8, e_s_7, e_s_6, e_s_5, e_s_4, e_s_3, e_s_2, e_s_1]; rfl), (fun i hi => ⟨(by rw [e_s_8, e_s_7, e_s_6, e_s_5, e_s_4, e_s_3, e_s_2, e_s_1]; exact cpy_lt (f := σ.1 14) (g := σ.1 6) (n := 40) rfl rfl rfl hi), (by rw [e_s_8, e_s_7, e_s_6, e_s_5, e_s_4, e_s_3, e_s_2, e_s_1]; exact cpy_lt (f := σ.1 15) (g := σ.1 7) (n := 40) rfl rfl rfl hi), (by rw [e_s_8, e_s_7, e_s_6, e_s_5, e_s_4, e_s_3, e_s_2, e_s_1]; exact cpy_lt (f := σ.1 16) (g := σ.1 8) (n := 40) rfl rfl rfl hi)⟩), (fun i hi => ⟨(by rw [e_s_8, e_s_7, e_s_6, e_s_5, e_s_4, e_s_3, e_s_2, e_s_1]; exact cpy_lt (f := σ.1 17) (g := σ.1 9) (n := 3) rfl rfl rfl hi), (by rw [e_s_8, e_s_7, e_s_6, e_s_5, e_s_4, e_s_3, e_s_2, e_s_1]; exact cpy_lt (f := σ.1 18) (g := σ.1 10) (n := 3) rfl rfl rfl hi), (by rw [e_s_8, e_s_7, e_s_6, e_s_5, e_s_4, e_s_3, e_s_2, e_s_1]; exact cpy_lt (f := σ.1 19) (g := σ.1 11) (n := 3) rfl rfl rfl hi)⟩)⟩⟩

set_option maxHeartbeats 4000000 in
theorem s_X3_goesElsewhere {x1 : Int32} {σ : Sto} (hB : BX σ) (p_x1 : 0 ≤ x1.toInt ∧ x1.toInt ≤ 39) : OK (f_X3_goesElsewhere x1 σ) (fun v => (0 ≤ v.toInt ∧ v.toInt ≤ 1) ∧ ((v.toInt = 1 → gEl (σ.1 6 x1.toNatClampNeg)) ∧ (v.toInt = 0 → ¬ gEl (σ.1 6 x1.toNatClampNeg)))) := by
  unfold f_X3_goesElsewhere
  have hF : FR [] [] σ σ := FR.rf
  have k_0 : (0 : Int32).toInt = 0 := by decide +kernel
  have k_1 : (1 : Int32).toInt = 1 := by decide +kernel
  have k_103 : (103 : Int32).toInt = 103 := by decide +kernel
  have k_122 : (122 : Int32).toInt = 122 := by decide +kernel
  refine ok_ix ⟨by omega, by omega⟩ ?_
  have g_1 := gX_6 hB (x1.toNatClampNeg)
  refine ok_lt fun v_1 e_v_1 => ?_
  have b_v_1 : 0 ≤ v_1.toInt ∧ v_1.toInt ≤ 255 := by rw [e_v_1]; exact gX_6 hB _
  have q_v_1 : v_1.toInt = (σ.1 6 x1.toNatClampNeg).toInt := by rw [e_v_1]
  have z1 : v_1.toInt = (σ.1 6 x1.toNatClampNeg).toInt := by rw [e_v_1]
  refine ok_jn ?_
  refine ok_ite (fun c_2 => ?_) (fun c_2 => ?_)
  · rw [fa_eq] at c_2
    exact ok_ret ⟨(by (try dsimp only); omega), ⟨fun h => by (try dsimp only at h); unfold gEl; omega, fun h => by (try dsimp only at h); unfold gEl; omega⟩⟩
  · rw [fa_eq] at c_2
    refine ok_ix ⟨by omega, by omega⟩ ?_
    refine ok_lt fun v_4 e_v_4 => ?_
    have b_v_4 : 0 ≤ v_4.toInt ∧ v_4.toInt ≤ 255 := by rw [e_v_4]; exact gX_6 hB _
    have q_v_4 : v_4.toInt = (σ.1 6 x1.toNatClampNeg).toInt := by rw [e_v_4]
    refine ok_ite (fun c_3 => ?_) (fun c_3 => ?_)
    · rw [fa_eq] at c_3
      exact ok_ret ⟨(by (try dsimp only); omega), ⟨fun h => by (try dsimp only at h); unfold gEl; omega, fun h => by (try dsimp only at h); unfold gEl; omega⟩⟩
    · rw [fa_eq] at c_3
      exact ok_ret ⟨(by (try dsimp only); omega), ⟨fun h => by (try dsimp only at h); unfold gEl; omega, fun h => by (try dsimp only at h); unfold gEl; omega⟩⟩

set_option maxHeartbeats 4000000 in
theorem s_X3_ends {x1 : Int32} {σ : Sto} (hB : BX σ) (p_x1 : 0 ≤ x1.toInt ∧ x1.toInt ≤ 39) : OK (f_X3_ends x1 σ) (fun v => (0 ≤ v.toInt ∧ v.toInt ≤ 1) ∧ ((v.toInt = 0 → (σ.1 6 x1.toNatClampNeg).toInt ≠ 116 ∧ (σ.1 6 x1.toNatClampNeg).toInt ≠ 114) ∧ (v.toInt = 1 → (σ.1 6 x1.toNatClampNeg).toInt = 116 ∨ (σ.1 6 x1.toNatClampNeg).toInt = 114))) := by
  unfold f_X3_ends
  have hF : FR [] [] σ σ := FR.rf
  have k_0 : (0 : Int32).toInt = 0 := by decide +kernel
  have k_1 : (1 : Int32).toInt = 1 := by decide +kernel
  have k_114 : (114 : Int32).toInt = 114 := by decide +kernel
  have k_116 : (116 : Int32).toInt = 116 := by decide +kernel
  refine ok_ix ⟨by omega, by omega⟩ ?_
  have g_1 := gX_6 hB (x1.toNatClampNeg)
  refine ok_lt fun v_1 e_v_1 => ?_
  have b_v_1 : 0 ≤ v_1.toInt ∧ v_1.toInt ≤ 255 := by rw [e_v_1]; exact gX_6 hB _
  have q_v_1 : v_1.toInt = (σ.1 6 x1.toNatClampNeg).toInt := by rw [e_v_1]
  have z1 : v_1.toInt = (σ.1 6 x1.toNatClampNeg).toInt := by rw [e_v_1]
  refine ok_jn ?_
  refine ok_ite (fun c_2 => ?_) (fun c_2 => ?_)
  · rw [fa_eq] at c_2
    exact ok_ret ⟨(by (try dsimp only); omega), ⟨fun h => by (try dsimp only at h); omega, fun h => by (try dsimp only at h); omega⟩⟩
  · rw [fa_eq] at c_2
    refine ok_ix ⟨by omega, by omega⟩ ?_
    refine ok_lt fun v_4 e_v_4 => ?_
    have b_v_4 : 0 ≤ v_4.toInt ∧ v_4.toInt ≤ 255 := by rw [e_v_4]; exact gX_6 hB _
    have q_v_4 : v_4.toInt = (σ.1 6 x1.toNatClampNeg).toInt := by rw [e_v_4]
    refine ok_ite (fun c_3 => ?_) (fun c_3 => ?_)
    · rw [fa_eq] at c_3
      exact ok_ret ⟨(by (try dsimp only); omega), ⟨fun h => by (try dsimp only at h); omega, fun h => by (try dsimp only at h); omega⟩⟩
    · rw [fa_eq] at c_3
      exact ok_ret ⟨(by (try dsimp only); omega), ⟨fun h => by (try dsimp only at h); omega, fun h => by (try dsimp only at h); omega⟩⟩

set_option maxHeartbeats 4000000 in
theorem s_X0_markCuts {σ : Sto} (hB : BX σ) (hLV : LV σ) : OK (f_X0_markCuts σ) (fun s => BX s ∧ FR [33] [] σ s ∧ (∀ i : Nat, i ≤ 40 → ((s.1 33 i).toInt ≠ 0 ↔ CUTC (σ.1 4 0).toInt.toNat (σ.1 5 0).toInt.toNat (ri (σ.1 6)) (ri (σ.1 7)) (ri (σ.1 9)) (ri (σ.1 10)) (ri (σ.1 11)) (mk (σ.1 4 0).toInt.toNat (σ.1 8)) i))) := by
  unfold f_X0_markCuts
  have hF : FR [33] [] σ σ := FR.rf
  have k_m1 : ((-1) : Int32).toInt = -1 := by decide +kernel
  have k_0 : (0 : Int32).toInt = 0 := by decide +kernel
  have k_1 : (1 : Int32).toInt = 1 := by decide +kernel
  have k_40 : (40 : Int32).toInt = 40 := by decide +kernel
  have g4 := gX_4 hB 0
  have g5 := gX_5 hB 0
  refine ok_itr2 (fun (n : Nat) (x1_1 : Int32) (s_1 : Sto) => n = (42 - x1_1.toInt).toNat ∧ (0 ≤ x1_1.toInt ∧ x1_1.toInt ≤ 41) ∧ (BX s_1) ∧ (FR [33] [] σ s_1) ∧ (∀ i : Nat, (i : Int) < x1_1.toInt → (s_1.1 33 i).toInt = 0)) ?_ (n := _) ⟨rfl, (by omega), hB, hF, (fun i hi => by exfalso; have h9 : (0 : Int32).toInt = 0 := (by decide +kernel); omega)⟩ (show _ < 10000000 by omega)
  intro a_2 n x1_1 s_1 hI ih_a_2
  obtain ⟨hn_a_2, b_x1_1, hB_s_1, hF_s_1, h0⟩ := hI
  have f_s_1_4 : (s_1.1 4 0).toInt = (σ.1 4 0).toInt := by rw [hF_s_1.1 4 (by decide)]
  have f_s_1_5 : (s_1.1 5 0).toInt = (σ.1 5 0).toInt := by rw [hF_s_1.1 5 (by decide)]
  refine ok_ite (fun c_1 => ?_) (fun c_1 => ?_)
  · rw [fa_lt] at c_1
    refine ok_itr2 (fun (n : Nat) (x1_3 : Int32) (s_3 : Sto) => n = (41 - x1_3.toInt).toNat ∧ (0 ≤ x1_3.toInt ∧ x1_3.toInt ≤ 40) ∧ (BX s_3) ∧ (FR [33] [] σ s_3) ∧ (x1_3.toInt ≤ (σ.1 4 0).toInt) ∧ (∀ i : Nat, i ≤ 40 → ((s_3.1 33 i).toInt ≠ 0 ↔ CM (ri (σ.1 6)) (ri (σ.1 7)) (mk (σ.1 4 0).toInt.toNat (σ.1 8)) x1_3.toNatClampNeg i))) ?_ (n := _) ⟨rfl, (by omega), hB_s_1, hF_s_1, (by omega), (fun i hi => ⟨fun h => absurd (h0 i (by omega)) h, fun h => absurd h (by rw [show (0 : Int32).toNatClampNeg = 0 from rfl]; exact CM.z)⟩)⟩ (show _ < 10000000 by omega)
    intro a_23 n x1_3 s_3 hI ih_a_23
    obtain ⟨hn_a_23, b_x1_3, hB_s_3, hF_s_3, hle3, hm⟩ := hI
    have f_s_3_4 : (s_3.1 4 0).toInt = (σ.1 4 0).toInt := by rw [hF_s_3.1 4 (by decide)]
    have f_s_3_5 : (s_3.1 5 0).toInt = (σ.1 5 0).toInt := by rw [hF_s_3.1 5 (by decide)]
    have g_3 := gX_4 hB_s_3 0
    have g_4 : (s_3.1 4 0).toInt = (σ.1 4 0).toInt := by rw [hF_s_3.1 4 (by decide)]
    have g_5 := gX_4 hB 0
    refine ok_ite (fun c_2 => ?_) (fun c_2 => ?_)
    · rw [fa_le] at c_2
      refine ok_itr2 (fun (n : Nat) (x1_5 : Int32) (s_5 : Sto) => n = (4 - x1_5.toInt).toNat ∧ (0 ≤ x1_5.toInt ∧ x1_5.toInt ≤ 3) ∧ (BX s_5) ∧ (FR [33] [] σ s_5) ∧ (x1_5.toInt ≤ (σ.1 5 0).toInt) ∧ (∀ i : Nat, i ≤ 40 → ((s_5.1 33 i).toInt ≠ 0 ↔ CM (ri (σ.1 6)) (ri (σ.1 7)) (mk (σ.1 4 0).toInt.toNat (σ.1 8)) (σ.1 4 0).toInt.toNat i ∨ CH (ri (σ.1 9)) (ri (σ.1 10)) (ri (σ.1 11)) x1_5.toNatClampNeg i))) ?_ (n := _) ⟨rfl, (by omega), hB_s_3, hF_s_3, (by omega), (fun i hi => by rw [hm i hi, show (0 : Int32).toNatClampNeg = 0 from rfl, show x1_3.toNatClampNeg = (σ.1 4 0).toInt.toNat by have := clamp_I (x := x1_3) (by omega); omega]; exact ⟨Or.inl, fun h => h.resolve_right CH.z⟩)⟩ (show _ < 10000000 by omega)
      intro a_113 n x1_5 s_5 hI ih_a_113
      obtain ⟨hn_a_113, b_x1_5, hB_s_5, hF_s_5, hle5, hh⟩ := hI
      have f_s_5_4 : (s_5.1 4 0).toInt = (σ.1 4 0).toInt := by rw [hF_s_5.1 4 (by decide)]
      have f_s_5_5 : (s_5.1 5 0).toInt = (σ.1 5 0).toInt := by rw [hF_s_5.1 5 (by decide)]
      have g_7 := gX_5 hB_s_5 0
      have g_8 : (s_5.1 5 0).toInt = (σ.1 5 0).toInt := by rw [hF_s_5.1 5 (by decide)]
      have g_9 := gX_5 hB 0
      refine ok_ite (fun c_6 => ?_) (fun c_6 => ?_)
      · rw [fa_le] at c_6
        exact ok_ret ⟨hB_s_5, hF_s_5, (fun i hi => by rw [hh i hi, show x1_5.toNatClampNeg = (σ.1 5 0).toInt.toNat by have := clamp_I (x := x1_5) (by omega); omega]; rfl)⟩
      · rw [fa_le] at c_6
        refine ok_ix ⟨by omega, by omega⟩ ?_
        have g_10 := gX_9 hB_s_5 (x1_5.toNatClampNeg)
        refine ok_lt fun v_7 e_v_7 => ?_
        have b_v_7 : 0 ≤ v_7.toInt ∧ v_7.toInt ≤ 40 := by rw [e_v_7]; exact gX_9 hB_s_5 _
        have c5 := clamp_I (x := x1_5) (by omega)
        have c7 : v_7.toNatClampNeg = (ri (σ.1 9) x1_5.toNatClampNeg).toNat := by have := clamp_I (x := v_7) (by omega); unfold ri; rw [e_v_7, hF_s_5.1 9 (by decide)] at this ⊢; omega
        refine ok_ix ⟨by omega, by omega⟩ ?_
        refine ok_lt fun s_8 e_s_8 => ?_
        have hB_s_8 : BX s_8 := by rw [e_s_8]; exact pX_33 hB_s_5 (by omega)
        have hF_s_8 : FR [33] [] σ s_8 := by rw [e_s_8]; exact FR.st hF_s_5 (by decide)
        have f_s_8_4 : (s_8.1 4 0).toInt = (σ.1 4 0).toInt := by rw [hF_s_8.1 4 (by decide)]
        have f_s_8_5 : (s_8.1 5 0).toInt = (σ.1 5 0).toInt := by rw [hF_s_8.1 5 (by decide)]
        refine ok_ix ⟨by omega, by omega⟩ ?_
        have g_11 := gX_10 hB_s_8 (x1_5.toNatClampNeg)
        refine ok_lt fun v_9 e_v_9 => ?_
        have b_v_9 : 0 ≤ v_9.toInt ∧ v_9.toInt ≤ 40 := by rw [e_v_9]; exact gX_10 hB_s_8 _
        have c9 : v_9.toNatClampNeg = (ri (σ.1 10) x1_5.toNatClampNeg).toNat := by have := clamp_I (x := v_9) (by omega); unfold ri; rw [e_v_9, hF_s_8.1 10 (by decide)] at this ⊢; omega
        refine ok_ix ⟨by omega, by omega⟩ ?_
        refine ok_lt fun s_10 e_s_10 => ?_
        have hB_s_10 : BX s_10 := by rw [e_s_10]; exact pX_33 hB_s_8 (by omega)
        have hF_s_10 : FR [33] [] σ s_10 := by rw [e_s_10]; exact FR.st hF_s_8 (by decide)
        have f_s_10_4 : (s_10.1 4 0).toInt = (σ.1 4 0).toInt := by rw [hF_s_10.1 4 (by decide)]
        have f_s_10_5 : (s_10.1 5 0).toInt = (σ.1 5 0).toInt := by rw [hF_s_10.1 5 (by decide)]
        refine ok_ix ⟨by omega, by omega⟩ ?_
        have g_12 := gX_11 hB_s_10 (x1_5.toNatClampNeg)
        refine ok_lt fun v_11 e_v_11 => ?_
        have b_v_11 : 0 ≤ v_11.toInt ∧ v_11.toInt ≤ 40 := by rw [e_v_11]; exact gX_11 hB_s_10 _
        have c11 : v_11.toNatClampNeg = (ri (σ.1 11) x1_5.toNatClampNeg).toNat := by have := clamp_I (x := v_11) (by omega); unfold ri; rw [e_v_11, hF_s_10.1 11 (by decide)] at this ⊢; omega
        refine ok_ix ⟨by omega, by omega⟩ ?_
        refine ok_lt fun s_12 e_s_12 => ?_
        have hB_s_12 : BX s_12 := by rw [e_s_12]; exact pX_33 hB_s_10 (by omega)
        have hF_s_12 : FR [33] [] σ s_12 := by rw [e_s_12]; exact FR.st hF_s_10 (by decide)
        have f_s_12_4 : (s_12.1 4 0).toInt = (σ.1 4 0).toInt := by rw [hF_s_12.1 4 (by decide)]
        have f_s_12_5 : (s_12.1 5 0).toInt = (σ.1 5 0).toInt := by rw [hF_s_12.1 5 (by decide)]
        obtain ⟨t_13, ht_13, g_13⟩ : ∃ t : Int, (x1_5 + 1).toInt = t ∧ t = x1_5.toInt + (1 : Int32).toInt := ⟨_, rfl, by have h9 := fb_addI (x := x1_5) (y := (1 : Int32)) (by omega) (by omega); exact h9⟩
        refine ok_lt fun x1_13 e_x1_13 => ?_
        have q_x1_13 : x1_13.toInt = t_13 := by rw [e_x1_13]; exact ht_13
        exact ih_a_113 _ x1_13 s_12 (by rw [hn_a_113]; omega) ⟨rfl, (by omega), hB_s_12, hF_s_12, (by omega), (fun i hi => by rw [show x1_13.toNatClampNeg = x1_5.toNatClampNeg + 1 by have := clamp_I (x := x1_13) (by omega); omega, r1 e_s_12 (by omega), r1 e_s_10 (by omega), r1 e_s_8 (by omega), hh i hi, CH.s, c7, c9, c11]; grind)⟩
    · rw [fa_le] at c_2
      refine ok_ix ⟨by omega, by omega⟩ ?_
      have g_14 := gX_8 hB_s_3 (x1_3.toNatClampNeg)
      refine ok_lt fun v_14 e_v_14 => ?_
      have b_v_14 : (-1) ≤ v_14.toInt ∧ v_14.toInt ≤ 6 := by rw [e_v_14]; exact gX_8 hB_s_3 _
      have c3 := clamp_I (x := x1_3) (by omega)
      have z14 : (mk (σ.1 4 0).toInt.toNat (σ.1 8)) x1_3.toNatClampNeg = v_14.toInt := by rw [mk_lt (by omega), e_v_14, hF_s_3.1 8 (by decide)]
      refine ok_jnI1 (fun (s_15 : Sto) => True ∧ (BX s_15) ∧ (FR [33] [] σ s_15) ∧ (∀ i : Nat, i ≤ 40 → ((s_15.1 33 i).toInt ≠ 0 ↔ CM (ri (σ.1 6)) (ri (σ.1 7)) (mk (σ.1 4 0).toInt.toNat (σ.1 8)) (x1_3.toNatClampNeg + 1) i))) ?_ ?_
      · intro s_15 hJ
        obtain ⟨-, hB_s_15, hF_s_15, j15⟩ := hJ
        have f_s_15_4 : (s_15.1 4 0).toInt = (σ.1 4 0).toInt := by rw [hF_s_15.1 4 (by decide)]
        have f_s_15_5 : (s_15.1 5 0).toInt = (σ.1 5 0).toInt := by rw [hF_s_15.1 5 (by decide)]
        obtain ⟨t_15, ht_15, g_15⟩ : ∃ t : Int, (x1_3 + 1).toInt = t ∧ t = x1_3.toInt + (1 : Int32).toInt := ⟨_, rfl, by have h9 := fb_addI (x := x1_3) (y := (1 : Int32)) (by omega) (by omega); exact h9⟩
        refine ok_lt fun x1_16 e_x1_16 => ?_
        have q_x1_16 : x1_16.toInt = t_15 := by rw [e_x1_16]; exact ht_15
        exact ih_a_23 _ x1_16 s_15 (by rw [hn_a_23]; omega) ⟨rfl, (by omega), hB_s_15, hF_s_15, (by omega), (fun i hi => by rw [show x1_16.toNatClampNeg = x1_3.toNatClampNeg + 1 by have := clamp_I (x := x1_16) (by omega); omega]; exact j15 i hi)⟩
      · intro k_105 hk_k_105
        refine ok_ite (fun c_16 => ?_) (fun c_16 => ?_)
        · rw [fa_eq] at c_16
          exact hk_k_105 s_3 ⟨trivial, hB_s_3, hF_s_3, (fun i hi => by first | (rw [hm i hi, CM.s]; exact ⟨Or.inl, fun h => h.resolve_right (fun z => z.1 (by omega))⟩) | (have hen : ¬ enI (ri (σ.1 6) x1_3.toNatClampNeg) := (fun z => by have := x_v_20.1 (by omega); unfold ri at z; omega); rw [j19 i hi, CM.s]; grind) | (have hen : enI (ri (σ.1 6) x1_3.toNatClampNeg) := x_v_20.2 (by omega); rw [r1 e_s_22 (by omega), j19 i hi, CM.s, cx3]; grind))⟩
        · rw [fa_eq] at c_16
          refine ok_calp (s_X3_goesElsewhere (x1 := x1_3) (σ := s_3) hB_s_3 (by omega)) (fun v_18 h_17 => ?_)
          obtain ⟨b_v_18, x_v_18⟩ := h_17
          (try dsimp only at b_v_18 x_v_18)
          rw [hF_s_3.1 6 (by decide)] at x_v_18
          refine ok_jnI1 (fun (s_19 : Sto) => True ∧ (BX s_19) ∧ (FR [33] [] σ s_19) ∧ (∀ i : Nat, i ≤ 40 → ((s_19.1 33 i).toInt ≠ 0 ↔ CM (ri (σ.1 6)) (ri (σ.1 7)) (mk (σ.1 4 0).toInt.toNat (σ.1 8)) x1_3.toNatClampNeg i ∨ (gElI (ri (σ.1 6) x1_3.toNatClampNeg) ∧ ((ri (σ.1 7) x1_3.toNatClampNeg).toNat = i ∨ x1_3.toNatClampNeg + 1 = i))))) ?_ ?_
          · intro s_19 hJ
            obtain ⟨-, hB_s_19, hF_s_19, j19⟩ := hJ
            have f_s_19_4 : (s_19.1 4 0).toInt = (σ.1 4 0).toInt := by rw [hF_s_19.1 4 (by decide)]
            have f_s_19_5 : (s_19.1 5 0).toInt = (σ.1 5 0).toInt := by rw [hF_s_19.1 5 (by decide)]
            refine ok_calp (s_X3_ends (x1 := x1_3) (σ := s_19) hB_s_19 (by omega)) (fun v_20 h_18 => ?_)
            obtain ⟨b_v_20, x_v_20⟩ := h_18
            (try dsimp only at b_v_20 x_v_20)
            rw [hF_s_19.1 6 (by decide)] at x_v_20
            have cx3 : (x1_3 + 1).toNatClampNeg = x1_3.toNatClampNeg + 1 := c_s (by omega) (by omega)
            refine ok_ite (fun c_19 => ?_) (fun c_19 => ?_)
            · rw [fa_eq] at c_19
              exact hk_k_105 s_19 ⟨trivial, hB_s_19, hF_s_19, (fun i hi => by first | (rw [hm i hi, CM.s]; exact ⟨Or.inl, fun h => h.resolve_right (fun z => z.1 (by omega))⟩) | (have hen : ¬ enI (ri (σ.1 6) x1_3.toNatClampNeg) := (fun z => by have := x_v_20.1 (by omega); unfold ri at z; omega); rw [j19 i hi, CM.s]; grind) | (have hen : enI (ri (σ.1 6) x1_3.toNatClampNeg) := x_v_20.2 (by omega); rw [r1 e_s_22 (by omega), j19 i hi, CM.s, cx3]; grind))⟩
            · rw [fa_eq] at c_19
              obtain ⟨t_20, ht_20, g_20⟩ : ∃ t : Int, (x1_3 + 1).toInt = t ∧ t = x1_3.toInt + (1 : Int32).toInt := ⟨_, rfl, by have h9 := fb_addI (x := x1_3) (y := (1 : Int32)) (by omega) (by omega); exact h9⟩
              refine ok_ix ⟨by rw [ht_20]; omega, by rw [ht_20]; omega⟩ ?_
              refine ok_lt fun s_22 e_s_22 => ?_
              have hB_s_22 : BX s_22 := by rw [e_s_22]; exact pX_33 hB_s_19 (by omega)
              have hF_s_22 : FR [33] [] σ s_22 := by rw [e_s_22]; exact FR.st hF_s_19 (by decide)
              have f_s_22_4 : (s_22.1 4 0).toInt = (σ.1 4 0).toInt := by rw [hF_s_22.1 4 (by decide)]
              have f_s_22_5 : (s_22.1 5 0).toInt = (σ.1 5 0).toInt := by rw [hF_s_22.1 5 (by decide)]
              exact hk_k_105 s_22 ⟨trivial, hB_s_22, hF_s_22, (fun i hi => by first | (rw [hm i hi, CM.s]; exact ⟨Or.inl, fun h => h.resolve_right (fun z => z.1 (by omega))⟩) | (have hen : ¬ enI (ri (σ.1 6) x1_3.toNatClampNeg) := (fun z => by have := x_v_20.1 (by omega); unfold ri at z; omega); rw [j19 i hi, CM.s]; grind) | (have hen : enI (ri (σ.1 6) x1_3.toNatClampNeg) := x_v_20.2 (by omega); rw [r1 e_s_22 (by omega), j19 i hi, CM.s, cx3]; grind))⟩
          · intro k_85 hk_k_85
            refine ok_ite (fun c_21 => ?_) (fun c_21 => ?_)
            · rw [fa_eq] at c_21
              exact hk_k_85 s_3 ⟨trivial, hB_s_3, hF_s_3, (fun i hi => by first | (rw [hm i hi]; exact ⟨Or.inl, fun h => h.resolve_right (fun z => absurd z.1 (x_v_18.2 (by omega)))⟩) | (have hel : gElI (ri (σ.1 6) x1_3.toNatClampNeg) := x_v_18.1 (by omega); rw [r1 e_s_26 (by omega), r1 e_s_25 (by omega), hm i hi, c24, cx3]; grind))⟩
            · rw [fa_eq] at c_21
              refine ok_ix ⟨by omega, by omega⟩ ?_
              have g_22 := gX_7 hB_s_3 (x1_3.toNatClampNeg)
              refine ok_lt fun v_24 e_v_24 => ?_
              have b_v_24 : 0 ≤ v_24.toInt ∧ v_24.toInt ≤ 999 := by rw [e_v_24]; exact gX_7 hB_s_3 _
              have y24 : v_24.toInt ≤ 39 := by rw [e_v_24, hF_s_3.1 7 (by decide)]; exact (hLV.1 x1_3.toNatClampNeg (by omega)).1.2.2.1 (x_v_18.1 (by omega))
              have c24 : v_24.toNatClampNeg = (ri (σ.1 7) x1_3.toNatClampNeg).toNat := by have := clamp_I (x := v_24) (by omega); unfold ri; rw [e_v_24, hF_s_3.1 7 (by decide)] at this ⊢; omega
              have cx3 : (x1_3 + 1).toNatClampNeg = x1_3.toNatClampNeg + 1 := c_s (by omega) (by omega)
              refine ok_ix ⟨by omega, by omega⟩ ?_
              refine ok_lt fun s_25 e_s_25 => ?_
              have hB_s_25 : BX s_25 := by rw [e_s_25]; exact pX_33 hB_s_3 (by omega)
              have hF_s_25 : FR [33] [] σ s_25 := by rw [e_s_25]; exact FR.st hF_s_3 (by decide)
              have f_s_25_4 : (s_25.1 4 0).toInt = (σ.1 4 0).toInt := by rw [hF_s_25.1 4 (by decide)]
              have f_s_25_5 : (s_25.1 5 0).toInt = (σ.1 5 0).toInt := by rw [hF_s_25.1 5 (by decide)]
              obtain ⟨t_23, ht_23, g_23⟩ : ∃ t : Int, (x1_3 + 1).toInt = t ∧ t = x1_3.toInt + (1 : Int32).toInt := ⟨_, rfl, by have h9 := fb_addI (x := x1_3) (y := (1 : Int32)) (by omega) (by omega); exact h9⟩
              refine ok_ix ⟨by rw [ht_23]; omega, by rw [ht_23]; omega⟩ ?_
              refine ok_lt fun s_26 e_s_26 => ?_
              have hB_s_26 : BX s_26 := by rw [e_s_26]; exact pX_33 hB_s_25 (by omega)
              have hF_s_26 : FR [33] [] σ s_26 := by rw [e_s_26]; exact FR.st hF_s_25 (by decide)
              have f_s_26_4 : (s_26.1 4 0).toInt = (σ.1 4 0).toInt := by rw [hF_s_26.1 4 (by decide)]
              have f_s_26_5 : (s_26.1 5 0).toInt = (σ.1 5 0).toInt := by rw [hF_s_26.1 5 (by decide)]
              exact hk_k_85 s_26 ⟨trivial, hB_s_26, hF_s_26, (fun i hi => by first | (rw [hm i hi]; exact ⟨Or.inl, fun h => h.resolve_right (fun z => absurd z.1 (x_v_18.2 (by omega)))⟩) | (have hel : gElI (ri (σ.1 6) x1_3.toNatClampNeg) := x_v_18.1 (by omega); rw [r1 e_s_26 (by omega), r1 e_s_25 (by omega), hm i hi, c24, cx3]; grind))⟩
  · rw [fa_lt] at c_1
    refine ok_ix ⟨by omega, by omega⟩ ?_
    refine ok_lt fun s_27 e_s_27 => ?_
    have hB_s_27 : BX s_27 := by rw [e_s_27]; exact pX_33 hB_s_1 (by omega)
    have hF_s_27 : FR [33] [] σ s_27 := by rw [e_s_27]; exact FR.st hF_s_1 (by decide)
    have f_s_27_4 : (s_27.1 4 0).toInt = (σ.1 4 0).toInt := by rw [hF_s_27.1 4 (by decide)]
    have f_s_27_5 : (s_27.1 5 0).toInt = (σ.1 5 0).toInt := by rw [hF_s_27.1 5 (by decide)]
    have c27 := clamp_I (x := x1_1) (by omega)
    obtain ⟨t_24, ht_24, g_24⟩ : ∃ t : Int, (x1_1 + 1).toInt = t ∧ t = x1_1.toInt + (1 : Int32).toInt := ⟨_, rfl, by have h9 := fb_addI (x := x1_1) (y := (1 : Int32)) (by omega) (by omega); exact h9⟩
    refine ok_lt fun x1_28 e_x1_28 => ?_
    have q_x1_28 : x1_28.toInt = t_24 := by rw [e_x1_28]; exact ht_24
    exact ih_a_2 _ x1_28 s_27 (by rw [hn_a_2]; omega) ⟨rfl, (by omega), hB_s_27, hF_s_27, (fun i hi => by rw [e_s_27, sti_if]; by_cases q : i = x1_1.toNatClampNeg; (rw [if_pos q]; exact k_0); (rw [if_neg q]; exact h0 i (by omega)))⟩

set_option maxHeartbeats 4000000 in
theorem s_X3_goesOn {x1 : Int32} {σ : Sto} (hB : BX σ) (p_x1 : 0 ≤ x1.toInt ∧ x1.toInt ≤ 39) : OK (f_X3_goesOn x1 σ) (fun v => (0 ≤ v.toInt ∧ v.toInt ≤ 1) ∧ ((v.toInt = 1 → gOn (σ.1 6 x1.toNatClampNeg)))) := by
  unfold f_X3_goesOn
  have hF : FR [] [] σ σ := FR.rf
  have k_0 : (0 : Int32).toInt = 0 := by decide +kernel
  have k_1 : (1 : Int32).toInt = 1 := by decide +kernel
  have k_103 : (103 : Int32).toInt = 103 := by decide +kernel
  refine ok_ix ⟨by omega, by omega⟩ ?_
  have g_1 := gX_6 hB (x1.toNatClampNeg)
  refine ok_lt fun v_1 e_v_1 => ?_
  have b_v_1 : 0 ≤ v_1.toInt ∧ v_1.toInt ≤ 255 := by rw [e_v_1]; exact gX_6 hB _
  have z1 : v_1.toInt = (σ.1 6 x1.toNatClampNeg).toInt := by rw [e_v_1]
  refine ok_jn ?_
  refine ok_ite (fun c_2 => ?_) (fun c_2 => ?_)
  · rw [fa_eq] at c_2
    exact ok_ret ⟨(by (try dsimp only); omega), (fun h => by (try dsimp only at h); first | (exfalso; omega) | (have h9 := x_v_4.1 (by omega); unfold gOn; omega))⟩
  · rw [fa_eq] at c_2
    refine ok_calp (s_X3_ends (x1 := x1) (σ := σ) hB (by omega)) (fun v_4 h_3 => ?_)
    obtain ⟨b_v_4, x_v_4⟩ := h_3
    (try dsimp only at b_v_4 x_v_4)
    refine ok_ite (fun c_4 => ?_) (fun c_4 => ?_)
    · rw [fa_eq] at c_4
      exact ok_ret ⟨(by (try dsimp only); omega), (fun h => by (try dsimp only at h); first | (exfalso; omega) | (have h9 := x_v_4.1 (by omega); unfold gOn; omega))⟩
    · rw [fa_eq] at c_4
      exact ok_ret ⟨(by (try dsimp only); omega), (fun h => by (try dsimp only at h); first | (exfalso; omega) | (have h9 := x_v_4.1 (by omega); unfold gOn; omega))⟩

set_option maxHeartbeats 4000000 in
theorem s_X3_canThrow {x1 : Int32} {σ : Sto} (hB : BX σ) (p_x1 : 0 ≤ x1.toInt ∧ x1.toInt ≤ 39) : OK (f_X3_canThrow x1 σ) (fun v => (0 ≤ v.toInt ∧ v.toInt ≤ 1)) := by
  unfold f_X3_canThrow
  have hF : FR [] [] σ σ := FR.rf
  have k_0 : (0 : Int32).toInt = 0 := by decide +kernel
  have k_1 : (1 : Int32).toInt = 1 := by decide +kernel
  have k_37 : (37 : Int32).toInt = 37 := by decide +kernel
  have k_47 : (47 : Int32).toInt = 47 := by decide +kernel
  have k_116 : (116 : Int32).toInt = 116 := by decide +kernel
  refine ok_ix ⟨by omega, by omega⟩ ?_
  have g_1 := gX_6 hB (x1.toNatClampNeg)
  refine ok_lt fun v_1 e_v_1 => ?_
  have b_v_1 : 0 ≤ v_1.toInt ∧ v_1.toInt ≤ 255 := by rw [e_v_1]; exact gX_6 hB _
  have q_v_1 : v_1.toInt = (σ.1 6 x1.toNatClampNeg).toInt := by rw [e_v_1]
  refine ok_jn ?_
  refine ok_ite (fun c_2 => ?_) (fun c_2 => ?_)
  · rw [fa_eq] at c_2
    exact ok_ret (by (try dsimp only); omega)
  · rw [fa_eq] at c_2
    refine ok_ix ⟨by omega, by omega⟩ ?_
    refine ok_lt fun v_4 e_v_4 => ?_
    have b_v_4 : 0 ≤ v_4.toInt ∧ v_4.toInt ≤ 255 := by rw [e_v_4]; exact gX_6 hB _
    have q_v_4 : v_4.toInt = (σ.1 6 x1.toNatClampNeg).toInt := by rw [e_v_4]
    refine ok_ite (fun c_3 => ?_) (fun c_3 => ?_)
    · rw [fa_eq] at c_3
      exact ok_ret (by (try dsimp only); omega)
    · rw [fa_eq] at c_3
      refine ok_ix ⟨by omega, by omega⟩ ?_
      refine ok_lt fun v_6 e_v_6 => ?_
      have b_v_6 : 0 ≤ v_6.toInt ∧ v_6.toInt ≤ 255 := by rw [e_v_6]; exact gX_6 hB _
      have q_v_6 : v_6.toInt = (σ.1 6 x1.toNatClampNeg).toInt := by rw [e_v_6]
      refine ok_ite (fun c_4 => ?_) (fun c_4 => ?_)
      · rw [fa_eq] at c_4
        exact ok_ret (by (try dsimp only); omega)
      · rw [fa_eq] at c_4
        exact ok_ret (by (try dsimp only); omega)

set_option maxHeartbeats 4000000 in
theorem s_X0_catcherOf {x1 : Int32} {σ : Sto} (hB : BX σ) (hLV : LV σ) (hOF : OF σ) (p_x1 : 0 ≤ x1.toInt ∧ x1.toInt ≤ 39) : OK (f_X0_catcherOf x1 σ) (fun v => ((-1) ≤ v.toInt ∧ v.toInt ≤ 39) ∧ (v.toInt < (σ.1 20 0).toInt)) := by
  unfold f_X0_catcherOf
  have hF : FR [] [] σ σ := FR.rf
  have k_m1 : ((-1) : Int32).toInt = -1 := by decide +kernel
  have k_0 : (0 : Int32).toInt = 0 := by decide +kernel
  have k_1 : (1 : Int32).toInt = 1 := by decide +kernel
  have g9 := gX_5 hB 0
  have g20 := gX_20 hB 0
  refine ok_ix ⟨by omega, by omega⟩ ?_
  have g_1 := gX_21 hB (x1.toNatClampNeg)
  refine ok_lt fun v_1 e_v_1 => ?_
  have b_v_1 : 0 ≤ v_1.toInt ∧ v_1.toInt ≤ 39 := by rw [e_v_1]; exact gX_21 hB _
  refine ok_itr1 (fun (n : Nat) (x2_2 : Int32) => n = (41 - x2_2.toInt).toNat ∧ (0 ≤ x2_2.toInt ∧ x2_2.toInt ≤ 40)) ?_ (n := _) ⟨rfl, (by omega)⟩ (show _ < 10000000 by omega)
  intro a_7 n x2_2 hI ih_a_7
  obtain ⟨hn_a_7, b_x2_2⟩ := hI
  refine ok_ix ⟨by omega, by omega⟩ ?_
  have g_2 := gX_22 hB (x1.toNatClampNeg)
  refine ok_lt fun v_3 e_v_3 => ?_
  have b_v_3 : 0 ≤ v_3.toInt ∧ v_3.toInt ≤ 39 := by rw [e_v_3]; exact gX_22 hB _
  refine ok_ite (fun c_3 => ?_) (fun c_3 => ?_)
  · rw [fa_lt] at c_3
    exact ok_ret ⟨(by (try dsimp only); omega), (by (try dsimp only); omega)⟩
  · rw [fa_lt] at c_3
    refine ok_calp (s_X3_canThrow (x1 := x2_2) (σ := σ) hB (by omega)) (fun v_5 h_4 => ?_)
    have b_v_5 := h_4
    (try dsimp only at b_v_5)
    refine ok_jn ?_
    refine ok_ite (fun c_5 => ?_) (fun c_5 => ?_)
    · rw [fa_eq] at c_5
      refine ok_ite (fun c_6 => ?_) (fun c_6 => ?_)
      · rw [fa_eq] at c_6
        obtain ⟨t_7, ht_7, g_7⟩ : ∃ t : Int, (x2_2 + 1).toInt = t ∧ t = x2_2.toInt + (1 : Int32).toInt := ⟨_, rfl, by have h9 := fb_addI (x := x2_2) (y := (1 : Int32)) (by omega) (by omega); exact h9⟩
        refine ok_lt fun x2_8 e_x2_8 => ?_
        have q_x2_8 : x2_8.toInt = t_7 := by rw [e_x2_8]; exact ht_7
        exact ih_a_7 _ x2_8 (by rw [hn_a_7]; omega) ⟨rfl, (by omega)⟩
      · rw [fa_eq] at c_6
        exfalso; omega
    · rw [fa_eq] at c_5
      refine ok_calp (s_X3_handlerOf (x1 := x2_2) (σ := σ) hB (by omega)) (fun v_12 h_8 => ?_)
      obtain ⟨b_v_12, x_v_12⟩ := h_8
      (try dsimp only at b_v_12 x_v_12)
      refine ok_ite (fun c_9 => ?_) (fun c_9 => ?_)
      · rw [fa_eq] at c_9
        obtain ⟨t_10, ht_10, g_10⟩ : ∃ t : Int, (x2_2 + 1).toInt = t ∧ t = x2_2.toInt + (1 : Int32).toInt := ⟨_, rfl, by have h9 := fb_addI (x := x2_2) (y := (1 : Int32)) (by omega) (by omega); exact h9⟩
        refine ok_lt fun x2_8 e_x2_8 => ?_
        have q_x2_8 : x2_8.toInt = t_10 := by rw [e_x2_8]; exact ht_10
        exact ih_a_7 _ x2_8 (by rw [hn_a_7]; omega) ⟨rfl, (by omega)⟩
      · rw [fa_eq] at c_9
        refine ok_ix ⟨by omega, by omega⟩ ?_
        have g_11 := gX_11 hB (v_12.toNatClampNeg)
        refine ok_lt fun v_9 e_v_9 => ?_
        have b_v_9 : 0 ≤ v_9.toInt ∧ v_9.toInt ≤ 40 := by rw [e_v_9]; exact gX_11 hB _
        have y9 : v_9.toInt < (σ.1 4 0).toInt := by have h9 := (hLV.2 v_12.toNatClampNeg (by have := clamp_I (x := v_12) (by omega); omega)).2.2; rw [← e_v_9] at h9; exact h9
        have g4 := gX_4 hB 0
        refine ok_ix ⟨by omega, by omega⟩ ?_
        have g_12 := gX_23 hB (v_9.toNatClampNeg)
        refine ok_lt fun v_10 e_v_10 => ?_
        have b_v_10 : (-1) ≤ v_10.toInt ∧ v_10.toInt ≤ 39 := by rw [e_v_10]; exact gX_23 hB _
        have y10 : v_10.toInt < (σ.1 20 0).toInt := by rw [e_v_10]; exact hOF _ (by have := clamp_I (x := v_9) (by omega); omega)
        exact ok_ret ⟨(by (try dsimp only); omega), (by (try dsimp only); omega)⟩

set_option maxHeartbeats 4000000 in
theorem s_X0_edgeTo {x1 : Int32} {x2 : Int32} {σ : Sto} (hB : BX σ) (p_x1 : 0 ≤ x1.toInt ∧ x1.toInt ≤ 39) (p_x2 : 0 ≤ x2.toInt ∧ x2.toInt ≤ 39) (hfe : (σ.1 28 x1.toNatClampNeg).toInt ≤ 119) : OK (f_X0_edgeTo x1 x2 σ) (fun v => (0 ≤ v.toInt ∧ v.toInt ≤ 119)) := by
  unfold f_X0_edgeTo
  have hF : FR [] [] σ σ := FR.rf
  have k_1 : (1 : Int32).toInt = 1 := by decide +kernel
  refine ok_ix ⟨by omega, by omega⟩ ?_
  have g_1 := gX_28 hB (x1.toNatClampNeg)
  refine ok_lt fun v_1 e_v_1 => ?_
  have b_v_1 : 0 ≤ v_1.toInt ∧ v_1.toInt ≤ 120 := by rw [e_v_1]; exact gX_28 hB _
  have q_v_1 : v_1.toInt = (σ.1 28 x1.toNatClampNeg).toInt := by rw [e_v_1]
  refine ok_ix ⟨by omega, by omega⟩ ?_
  refine ok_lt fun v_2 e_v_2 => ?_
  have b_v_2 : 0 ≤ v_2.toInt ∧ v_2.toInt ≤ 120 := by rw [e_v_2]; exact gX_28 hB _
  have q_v_2 : v_2.toInt = (σ.1 28 x1.toNatClampNeg).toInt := by rw [e_v_2]
  refine ok_itr2 (fun (n : Nat) (x3_3 : Int32) (x4_3 : Int32) => n = (121 - x4_3.toInt).toNat ∧ (0 ≤ x3_3.toInt ∧ x3_3.toInt ≤ 120) ∧ (0 ≤ x4_3.toInt ∧ x4_3.toInt ≤ 120) ∧ (x3_3.toInt ≤ 119)) ?_ (n := _) ⟨rfl, (by omega), (by omega), (by omega)⟩ (show _ < 10000000 by omega)
  intro a_15 n x3_3 x4_3 hI ih_a_15
  obtain ⟨hn_a_15, b_x3_3, b_x4_3, hfd⟩ := hI
  have g_3 := gX_27 hB 0
  refine ok_ite (fun c_2 => ?_) (fun c_2 => ?_)
  · rw [fa_le] at c_2
    exact ok_ret (by (try dsimp only); omega)
  · rw [fa_le] at c_2
    refine ok_ix ⟨by omega, by omega⟩ ?_
    have g_4 := gX_29 hB (x4_3.toNatClampNeg)
    refine ok_lt fun v_5 e_v_5 => ?_
    have b_v_5 : 0 ≤ v_5.toInt ∧ v_5.toInt ≤ 39 := by rw [e_v_5]; exact gX_29 hB _
    refine ok_ite (fun c_5 => ?_) (fun c_5 => ?_)
    · rw [fa_eq] at c_5
      refine ok_ix ⟨by omega, by omega⟩ ?_
      have g_6 := gX_30 hB (x4_3.toNatClampNeg)
      refine ok_lt fun v_7 e_v_7 => ?_
      have b_v_7 : 0 ≤ v_7.toInt ∧ v_7.toInt ≤ 39 := by rw [e_v_7]; exact gX_30 hB _
      refine ok_jn ?_
      refine ok_ite (fun c_7 => ?_) (fun c_7 => ?_)
      · rw [fa_eq] at c_7
        obtain ⟨t_8, ht_8, g_8⟩ : ∃ t : Int, (x4_3 + 1).toInt = t ∧ t = x4_3.toInt + (1 : Int32).toInt := ⟨_, rfl, by have h9 := fb_addI (x := x4_3) (y := (1 : Int32)) (by omega) (by omega); exact h9⟩
        refine ok_lt fun x4_9 e_x4_9 => ?_
        have q_x4_9 : x4_9.toInt = t_8 := by rw [e_x4_9]; exact ht_8
        exact ih_a_15 _ x4_3 x4_9 (by rw [hn_a_15]; omega) ⟨rfl, (by omega), (by omega), (by omega)⟩
      · rw [fa_eq] at c_7
        obtain ⟨t_9, ht_9, g_9⟩ : ∃ t : Int, (x4_3 + 1).toInt = t ∧ t = x4_3.toInt + (1 : Int32).toInt := ⟨_, rfl, by have h9 := fb_addI (x := x4_3) (y := (1 : Int32)) (by omega) (by omega); exact h9⟩
        refine ok_lt fun x4_9 e_x4_9 => ?_
        have q_x4_9 : x4_9.toInt = t_9 := by rw [e_x4_9]; exact ht_9
        exact ih_a_15 _ x3_3 x4_9 (by rw [hn_a_15]; omega) ⟨rfl, (by omega), (by omega), (by omega)⟩
    · rw [fa_eq] at c_5
      exact ok_ret (by (try dsimp only); omega)

set_option maxHeartbeats 4000000 in
theorem s_X0_lead {x1 : Int32} {x2 : Int32} {x3 : Int32} {σ : Sto} (hB : BX σ) (hTG : TG σ) (p_x1 : 0 ≤ x1.toInt ∧ x1.toInt ≤ 39) (p_x2 : (-1) ≤ x2.toInt ∧ x2.toInt ≤ 39) (p_x3 : 0 ≤ x3.toInt ∧ x3.toInt ≤ 1) (hfe : (σ.1 28 x1.toNatClampNeg).toInt ≤ 119) (he : (σ.1 27 0).toInt ≤ 119) (hnb : x2.toInt < (σ.1 20 0).toInt) : OK (f_X0_lead x1 x2 x3 σ) (fun s => BX s ∧ FR [27, 29, 30, 31] [0] σ s ∧ TG s ∧ ((s.1 27 0).toInt ≤ (σ.1 27 0).toInt + 1 ∧ (σ.1 27 0).toInt ≤ (s.1 27 0).toInt)) := by
  unfold f_X0_lead
  have hF : FR [27, 29, 30, 31] [0] σ σ := FR.rf
  have k_m1 : ((-1) : Int32).toInt = -1 := by decide +kernel
  have k_0 : (0 : Int32).toInt = 0 := by decide +kernel
  have k_1 : (1 : Int32).toInt = 1 := by decide +kernel
  have g27 := gX_27 hB 0
  refine ok_ite (fun c_1 => ?_) (fun c_1 => ?_)
  · rw [fa_eq] at c_1
    exact ok_ret ⟨hB, hF, hTG, (by (try dsimp only); omega)⟩
  · rw [fa_eq] at c_1
    refine ok_ix ⟨by omega, by omega⟩ ?_
    refine ok_lt fun v_2 e_v_2 => ?_
    refine ok_calp (s_X11_isIn (x1 := v_2) (x2 := x2) ) (fun v_3 h_2 => ?_)
    obtain ⟨b_v_3, x_v_3⟩ := h_2
    (try dsimp only at b_v_3 x_v_3)
    refine ok_ite (fun c_3 => ?_) (fun c_3 => ?_)
    · rw [fa_eq] at c_3
      refine ok_ix ⟨by omega, by omega⟩ ?_
      refine ok_lt fun v_5 e_v_5 => ?_
      refine ok_ix ⟨by omega, by omega⟩ ?_
      refine ok_lt fun s_6 e_s_6 => ?_
      have hB_s_6 : BX s_6 := by rw [e_s_6]; exact BD.stl hB
      have hF_s_6 : FR [27, 29, 30, 31] [0] σ s_6 := by rw [e_s_6]; exact FR.stl hF (by decide)
      have w_s_6_27 : (s_6.1 27 0).toInt = (σ.1 27 0).toInt := by rw [e_s_6]; rfl
      have hTG_s_6 : TG s_6 := by rw [e_s_6]; exact TG.st2 (by decide) hTG
      have g_4 := gX_27 hB_s_6 0
      refine ok_ix ⟨by omega, by omega⟩ ?_
      refine ok_lt fun s_7 e_s_7 => ?_
      have hB_s_7 : BX s_7 := by rw [e_s_7]; exact pX_29 hB_s_6 (by omega)
      have hF_s_7 : FR [27, 29, 30, 31] [0] σ s_7 := by rw [e_s_7]; exact FR.st hF_s_6 (by decide)
      have w_s_7_27 : (s_7.1 27 0).toInt = (s_6.1 27 0).toInt := by rw [e_s_7]; rfl
      have hTG_s_7 : TG s_7 := by rw [e_s_7]; exact TG.st1 (by decide) hTG_s_6
      have g_5 := gX_27 hB_s_7 0
      refine ok_ix ⟨by omega, by omega⟩ ?_
      refine ok_lt fun s_8 e_s_8 => ?_
      have hB_s_8 : BX s_8 := by rw [e_s_8]; exact pX_30 hB_s_7 (by omega)
      have hF_s_8 : FR [27, 29, 30, 31] [0] σ s_8 := by rw [e_s_8]; exact FR.st hF_s_7 (by decide)
      have w_s_8_27 : (s_8.1 27 0).toInt = (s_7.1 27 0).toInt := by rw [e_s_8]; rfl
      refine ok_bz (by rw [fa_eq, fa_eq]; omega) ?_
      have g_6 := gX_27 hB_s_8 0
      refine ok_ix ⟨by omega, by omega⟩ ?_
      refine ok_lt fun s_9 e_s_9 => ?_
      have hB_s_9 : BX s_9 := by rw [e_s_9]; exact pX_31 hB_s_8 (by omega)
      have hF_s_9 : FR [27, 29, 30, 31] [0] σ s_9 := by rw [e_s_9]; exact FR.st hF_s_8 (by decide)
      have w_s_9_27 : (s_9.1 27 0).toInt = (s_8.1 27 0).toInt := by rw [e_s_9]; rfl
      have g_7 := gX_27 hB_s_9 0
      obtain ⟨t_8, ht_8, g_8⟩ : ∃ t : Int, ((s_9.1 27 0) + 1).toInt = t ∧ t = (s_9.1 27 0).toInt + (1 : Int32).toInt := ⟨_, rfl, by have h9 := fb_addI (x := (s_9.1 27 0)) (y := (1 : Int32)) (by omega) (by omega); exact h9⟩
      refine ok_lt fun s_11 e_s_11 => ?_
      have hB_s_11 : BX s_11 := by rw [e_s_11]; exact pX_27 hB_s_9 (by rw [ht_8]; omega)
      have hF_s_11 : FR [27, 29, 30, 31] [0] σ s_11 := by rw [e_s_11]; exact FR.st hF_s_9 (by decide)
      have w_s_11_27 : (s_11.1 27 0).toInt = t_8 := by rw [e_s_11, sti_s, ht_8]
      have hTG_s_11 : TG s_11 := TG.add hTG (s7 := s_7) (n := (s_7.1 27 0).toNatClampNeg) (v := x2) (by rw [e_s_11, e_s_9, e_s_8]; rfl) (by rw [e_s_7, e_s_6]; rfl) (by rw [hF_s_11.1 20 (by decide)]) (by omega) (by have := clamp_I (x := s_7.1 27 0) (by omega); omega) hnb
      exact ok_ret ⟨hB_s_11, hF_s_11, hTG_s_11, (by (try dsimp only); omega)⟩
    · rw [fa_eq] at c_3
      refine ok_calp (s_X0_edgeTo (x1 := x1) (x2 := x2) (σ := σ) hB (by omega) (by omega) (by omega)) (fun v_12 h_9 => ?_)
      have b_v_12 := h_9
      (try dsimp only at b_v_12)
      refine ok_ix ⟨by omega, by omega⟩ ?_
      have g_10 := gX_31 hB (v_12.toNatClampNeg)
      refine ok_lt fun v_13 e_v_13 => ?_
      have b_v_13 : 0 ≤ v_13.toInt ∧ v_13.toInt ≤ 1 := by rw [e_v_13]; exact gX_31 hB _
      refine ok_jn ?_
      refine ok_ite (fun c_11 => ?_) (fun c_11 => ?_)
      · rw [fa_eq] at c_11
        refine ok_ite (fun c_12 => ?_) (fun c_12 => ?_)
        · rw [fa_eq] at c_12
          refine ok_ix ⟨by omega, by omega⟩ ?_
          refine ok_lt fun s_18 e_s_18 => ?_
          have hB_s_18 : BX s_18 := by rw [e_s_18]; exact pX_31 hB (by omega)
          have hF_s_18 : FR [27, 29, 30, 31] [0] σ s_18 := by rw [e_s_18]; exact FR.st hF (by decide)
          have w_s_18_27 : (s_18.1 27 0).toInt = (σ.1 27 0).toInt := by rw [e_s_18]; rfl
          have hTG_s_18 : TG s_18 := by rw [e_s_18]; exact TG.st1 (by decide) hTG
          exact ok_ret ⟨hB_s_18, hF_s_18, hTG_s_18, (by (try dsimp only); omega)⟩
        · rw [fa_eq] at c_12
          refine ok_ix ⟨by omega, by omega⟩ ?_
          refine ok_lt fun s_15 e_s_15 => ?_
          have hB_s_15 : BX s_15 := by rw [e_s_15]; exact pX_31 hB (by omega)
          have hF_s_15 : FR [27, 29, 30, 31] [0] σ s_15 := by rw [e_s_15]; exact FR.st hF (by decide)
          have w_s_15_27 : (s_15.1 27 0).toInt = (σ.1 27 0).toInt := by rw [e_s_15]; rfl
          have hTG_s_15 : TG s_15 := by rw [e_s_15]; exact TG.st1 (by decide) hTG
          exact ok_ret ⟨hB_s_15, hF_s_15, hTG_s_15, (by (try dsimp only); omega)⟩
      · rw [fa_eq] at c_11
        refine ok_ix ⟨by omega, by omega⟩ ?_
        refine ok_lt fun s_15 e_s_15 => ?_
        have hB_s_15 : BX s_15 := by rw [e_s_15]; exact pX_31 hB (by omega)
        have hF_s_15 : FR [27, 29, 30, 31] [0] σ s_15 := by rw [e_s_15]; exact FR.st hF (by decide)
        have w_s_15_27 : (s_15.1 27 0).toInt = (σ.1 27 0).toInt := by rw [e_s_15]; rfl
        have hTG_s_15 : TG s_15 := by rw [e_s_15]; exact TG.st1 (by decide) hTG
        exact ok_ret ⟨hB_s_15, hF_s_15, hTG_s_15, (by (try dsimp only); omega)⟩

