set_option maxHeartbeats 4000000 in
theorem s_X12_isCome {x1 : Int32} {σ : Sto} (hB : BM σ) (p_x1 : 0 ≤ x1.toInt ∧ x1.toInt ≤ 39) : OK (f_X12_isCome x1 σ) (fun v => (0 ≤ v.toInt ∧ v.toInt ≤ 1) ∧ ((v.toInt = 1 ↔ (σ.1 20 x1.toNatClampNeg).toInt ≠ -1))) := by
  unfold f_X12_isCome
  have hF : FR [] [] σ σ := FR.rf
  have k_m1 : ((-1) : Int32).toInt = -1 := by decide +kernel
  have k_0 : (0 : Int32).toInt = 0 := by decide +kernel
  have k_1 : (1 : Int32).toInt = 1 := by decide +kernel
  refine ok_ix ⟨by omega, by omega⟩ ?_
  have g_1 := gM_20 hB (x1.toNatClampNeg)
  refine ok_lt fun v_1 e_v_1 => ?_
  have b_v_1 : (-1) ≤ v_1.toInt ∧ v_1.toInt ≤ 6 := by rw [e_v_1]; exact gM_20 hB _
  have z1 := congrArg Int32.toInt e_v_1
  refine ok_ite (fun c_2 => ?_) (fun c_2 => ?_)
  · rw [fa_eq] at c_2
    exact ok_ret ⟨(by (try dsimp only); omega), (by (try dsimp only); omega)⟩
  · rw [fa_eq] at c_2
    exact ok_ret ⟨(by (try dsimp only); omega), (by (try dsimp only); omega)⟩

set_option maxHeartbeats 4000000 in
theorem s_X12_handlerOf_handler {x2 : Int32} {x3 : Int32} {σ : Sto} (hB : BM σ) (p_x2 : 0 ≤ x2.toInt ∧ x2.toInt ≤ 3) (p_x3 : 0 ≤ x3.toInt ∧ x3.toInt ≤ 39) : OK (f_X12_handlerOf_handler x2 x3 σ) (fun v => ((-1) ≤ v.toInt ∧ v.toInt ≤ 2) ∧ ((v.toInt = -1 → hoP x2.toInt.toNat (ri (h3 (σ.1 11) 0)) (ri (h3 (σ.1 11) 1)) x3.toNatClampNeg = x2.toInt.toNat) ∧ (v.toInt ≠ -1 → (hoP x2.toInt.toNat (ri (h3 (σ.1 11) 0)) (ri (h3 (σ.1 11) 1)) x3.toNatClampNeg : Int) = v.toInt ∧ v.toInt < x2.toInt))) := by
  unfold f_X12_handlerOf_handler
  have hF : FR [] [] σ σ := FR.rf
  have k_m1 : ((-1) : Int32).toInt = -1 := by decide +kernel
  have k_0 : (0 : Int32).toInt = 0 := by decide +kernel
  have k_1 : (1 : Int32).toInt = 1 := by decide +kernel
  have k_3 : (3 : Int32).toInt = 3 := by decide +kernel
  have cx3 := clamp_I (x := x3) (by omega)
  refine ok_itr1 (fun (n : Nat) (x3_1 : Int32) => n = (4 - x3_1.toInt).toNat ∧ (0 ≤ x3_1.toInt ∧ x3_1.toInt ≤ 3) ∧ (∀ k : Nat, (k : Int) < x3_1.toInt → ¬ (ri (h3 (σ.1 11) 0) k ≤ (x3.toNatClampNeg : Int) ∧ (x3.toNatClampNeg : Int) < ri (h3 (σ.1 11) 1) k))) ?_ (n := _) ⟨rfl, (by omega), (fun k hk => by exfalso; have h9 : (0 : Int32).toInt = 0 := (by decide +kernel); omega)⟩ (show _ < 10000000 by omega)
  intro a_2 n x3_1 hI ih_a_2
  obtain ⟨hn_a_2, b_x3_1, hno⟩ := hI
  refine ok_ite (fun c_1 => ?_) (fun c_1 => ?_)
  · rw [fa_le] at c_1
    exact ok_ret ⟨(by (try dsimp only); omega), (by (try dsimp only); first | exact ⟨fun _ => ho_no hno (by omega), fun h => absurd (by omega) h⟩ | exact ⟨fun h => absurd h (by omega), fun _ => ⟨by have c1 := clamp_I (x := x3_1) (by omega); rw [ho_at hno x3_1.toNatClampNeg (by omega) (by omega) (by omega)]; omega, by omega⟩⟩)⟩
  · rw [fa_le] at c_1
    obtain ⟨t_2, ht_2, g_2⟩ : ∃ t : Int, ((3 : Int32) * x3_1).toInt = t ∧ t = 3 * x3_1.toInt := ⟨_, rfl, by have h9 := fb_mulI (x := (3 : Int32)) (y := x3_1) (by rw [k_3]; omega) (by rw [k_3]; omega); rw [k_3] at h9; exact h9⟩
    refine ok_ix ⟨by rw [ht_2]; omega, by rw [ht_2]; omega⟩ ?_
    have g_3 := gM_11 hB (((3 : Int32) * x3_1).toNatClampNeg)
    refine ok_lt fun v_3 e_v_3 => ?_
    have b_v_3 : 0 ≤ v_3.toInt ∧ v_3.toInt ≤ 40 := by rw [e_v_3]; exact gM_11 hB _
    have i0 : (((3 : Int32) * x3_1)).toNatClampNeg = 3 * x3_1.toNatClampNeg + 0 := by have := clamp_I (x := (((3 : Int32) * x3_1))) (by omega); have := clamp_I (x := x3_1) (by omega); omega
    have z3 : v_3.toInt = ri (h3 (σ.1 11) 0) x3_1.toNatClampNeg := by rw [e_v_3, i0]; rfl
    refine ok_jn ?_
    refine ok_ite (fun c_4 => ?_) (fun c_4 => ?_)
    · rw [fa_lt] at c_4
      obtain ⟨t_5, ht_5, g_5⟩ : ∃ t : Int, (x3_1 + 1).toInt = t ∧ t = x3_1.toInt + (1 : Int32).toInt := ⟨_, rfl, by have h9 := fb_addI (x := x3_1) (y := (1 : Int32)) (by omega) (by omega); exact h9⟩
      refine ok_lt fun x3_5 e_x3_5 => ?_
      have q_x3_5 : x3_5.toInt = t_5 := by rw [e_x3_5]; exact ht_5
      exact ih_a_2 _ x3_5 (by rw [hn_a_2]; omega) ⟨rfl, (by omega), (ho_s hno (by omega) x3_1.toNatClampNeg (by have := clamp_I (x := x3_1) (by omega); omega) (by omega))⟩
    · rw [fa_lt] at c_4
      obtain ⟨t_6, ht_6, g_6⟩ : ∃ t : Int, (((3 : Int32) * x3_1) + 1).toInt = t ∧ t = t_2 + (1 : Int32).toInt := ⟨_, rfl, by have h9 := fb_addI (x := ((3 : Int32) * x3_1)) (y := (1 : Int32)) (by rw [ht_2]; omega) (by rw [ht_2]; omega); rw [ht_2] at h9; exact h9⟩
      refine ok_ix ⟨by rw [ht_6]; omega, by rw [ht_6]; omega⟩ ?_
      have g_7 := gM_11 hB ((((3 : Int32) * x3_1) + 1).toNatClampNeg)
      refine ok_lt fun v_7 e_v_7 => ?_
      have b_v_7 : 0 ≤ v_7.toInt ∧ v_7.toInt ≤ 40 := by rw [e_v_7]; exact gM_11 hB _
      have i1 : (((3 : Int32) * x3_1) + 1).toNatClampNeg = 3 * x3_1.toNatClampNeg + 1 := by have := clamp_I (x := (((3 : Int32) * x3_1) + 1)) (by omega); have := clamp_I (x := x3_1) (by omega); omega
      have z7 : v_7.toInt = ri (h3 (σ.1 11) 1) x3_1.toNatClampNeg := by rw [e_v_7, i1]; rfl
      refine ok_ite (fun c_8 => ?_) (fun c_8 => ?_)
      · rw [fa_le] at c_8
        obtain ⟨t_9, ht_9, g_9⟩ : ∃ t : Int, (x3_1 + 1).toInt = t ∧ t = x3_1.toInt + (1 : Int32).toInt := ⟨_, rfl, by have h9 := fb_addI (x := x3_1) (y := (1 : Int32)) (by omega) (by omega); exact h9⟩
        refine ok_lt fun x3_5 e_x3_5 => ?_
        have q_x3_5 : x3_5.toInt = t_9 := by rw [e_x3_5]; exact ht_9
        exact ih_a_2 _ x3_5 (by rw [hn_a_2]; omega) ⟨rfl, (by omega), (ho_s hno (by omega) x3_1.toNatClampNeg (by have := clamp_I (x := x3_1) (by omega); omega) (by omega))⟩
      · rw [fa_le] at c_8
        exact ok_ret ⟨(by (try dsimp only); omega), (by (try dsimp only); first | exact ⟨fun _ => ho_no hno (by omega), fun h => absurd (by omega) h⟩ | exact ⟨fun h => absurd h (by omega), fun _ => ⟨by have c1 := clamp_I (x := x3_1) (by omega); rw [ho_at hno x3_1.toNatClampNeg (by omega) (by omega) (by omega)]; omega, by omega⟩⟩)⟩

set_option maxHeartbeats 4000000 in
theorem s_X12_isOneOf_s107 {x1 : Int32} (p_x1 : 0 ≤ x1.toInt ∧ x1.toInt ≤ 255) : OK (f_X12_isOneOf_s107 x1) (fun v => (0 ≤ v.toInt ∧ v.toInt ≤ 1) ∧ ((v.toInt = 1 ↔ (x1.toInt = 103 ∨ x1.toInt = 122 ∨ x1.toInt = 116 ∨ x1.toInt = 114)))) := by
  unfold f_X12_isOneOf_s107
  have k_0 : (0 : Int32).toInt = 0 := by decide +kernel
  have k_1 : (1 : Int32).toInt = 1 := by decide +kernel
  have k_4 : (4 : Int32).toInt = 4 := by decide +kernel
  refine ok_itr1 (fun (n : Nat) (x2_1 : Int32) => n = (6 - x2_1.toInt).toNat ∧ (0 ≤ x2_1.toInt ∧ x2_1.toInt ≤ 5) ∧ (∀ j : Nat, (j : Int) < x2_1.toInt → (chS 107 (nI j)).toInt ≠ x1.toInt)) ?_ (n := _) ⟨rfl, (by omega), (fun i hi => by exfalso; have h9 : (0 : Int32).toInt = 0 := (by decide +kernel); omega)⟩ (show _ < 10000000 by omega)
  intro a_2 n x2_1 hI ih_a_2
  obtain ⟨hn_a_2, b_x2_1, h1⟩ := hI
  refine ok_ite (fun c_1 => ?_) (fun c_1 => ?_)
  · rw [fa_le] at c_1
    exact ok_ret ⟨(by (try dsimp only); omega), (by (try dsimp only); first | (refine ⟨fun h => absurd h (by omega), fun h => ?_⟩; exfalso; have e0 := h1 0 (by omega); rw [ch_107_0] at e0; have e1 := h1 1 (by omega); rw [ch_107_1] at e1; have e2 := h1 2 (by omega); rw [ch_107_2] at e2; have e3 := h1 3 (by omega); rw [ch_107_3] at e3; omega) | exact ⟨fun _ => by have c := clamp_I (x := x2_1) (by omega); have q := ch_107 x2_1.toNatClampNeg (by omega); rw [← z3] at q; omega, fun _ => by omega⟩)⟩
  · rw [fa_le] at c_1
    refine ok_ix ⟨by omega, by omega⟩ ?_
    obtain ⟨t_2, ht_2, g_2⟩ : ∃ t : Int, (chS 107 x2_1).toInt = t ∧ -2147483648 ≤ t ∧ t ≤ 2147483647 := ⟨_, rfl, tI_rng _⟩
    refine ok_lt fun v_3 e_v_3 => ?_
    have b_v_3 : 0 ≤ v_3.toInt ∧ v_3.toInt ≤ 255 := by rw [e_v_3]; exact ch_rng _ _
    have n3 : x2_1 = nI x2_1.toNatClampNeg := by refine Int32.toInt_inj.mp ?_; have := clamp_I (x := x2_1) (by omega); rw [nI_toInt (n := x2_1.toNatClampNeg) (by omega)]; omega
    have z3 : v_3.toInt = (chS 107 (nI x2_1.toNatClampNeg)).toInt := by rw [e_v_3, ← n3]
    refine ok_ite (fun c_3 => ?_) (fun c_3 => ?_)
    · rw [fa_eq] at c_3
      exact ok_ret ⟨(by (try dsimp only); omega), (by (try dsimp only); first | (refine ⟨fun h => absurd h (by omega), fun h => ?_⟩; exfalso; have e0 := h1 0 (by omega); rw [ch_107_0] at e0; have e1 := h1 1 (by omega); rw [ch_107_1] at e1; have e2 := h1 2 (by omega); rw [ch_107_2] at e2; have e3 := h1 3 (by omega); rw [ch_107_3] at e3; omega) | exact ⟨fun _ => by have c := clamp_I (x := x2_1) (by omega); have q := ch_107 x2_1.toNatClampNeg (by omega); rw [← z3] at q; omega, fun _ => by omega⟩)⟩
    · rw [fa_eq] at c_3
      obtain ⟨t_4, ht_4, g_4⟩ : ∃ t : Int, (x2_1 + 1).toInt = t ∧ t = x2_1.toInt + (1 : Int32).toInt := ⟨_, rfl, by have h9 := fb_addI (x := x2_1) (y := (1 : Int32)) (by omega) (by omega); exact h9⟩
      refine ok_lt fun x2_5 e_x2_5 => ?_
      have q_x2_5 : x2_5.toInt = t_4 := by rw [e_x2_5]; exact ht_4
      exact ih_a_2 _ x2_5 (by rw [hn_a_2]; omega) ⟨rfl, (by omega), (fun j hj => by by_cases q : j = x2_1.toNatClampNeg; (rw [q, ← z3]; omega); exact h1 j (by have := clamp_I (x := x2_1) (by omega); omega))⟩

set_option maxHeartbeats 4000000 in
theorem s_X12_isOneOf_s108 {x1 : Int32} (p_x1 : 0 ≤ x1.toInt ∧ x1.toInt ≤ 255) : OK (f_X12_isOneOf_s108 x1) (fun v => (0 ≤ v.toInt ∧ v.toInt ≤ 1) ∧ ((v.toInt = 1 ↔ (x1.toInt = 43 ∨ x1.toInt = 45 ∨ x1.toInt = 42 ∨ x1.toInt = 47 ∨ x1.toInt = 37 ∨ x1.toInt = 60 ∨ x1.toInt = 61)))) := by
  unfold f_X12_isOneOf_s108
  have k_0 : (0 : Int32).toInt = 0 := by decide +kernel
  have k_1 : (1 : Int32).toInt = 1 := by decide +kernel
  have k_7 : (7 : Int32).toInt = 7 := by decide +kernel
  refine ok_itr1 (fun (n : Nat) (x2_1 : Int32) => n = (8 - x2_1.toInt).toNat ∧ (0 ≤ x2_1.toInt ∧ x2_1.toInt ≤ 7) ∧ (∀ j : Nat, (j : Int) < x2_1.toInt → (chS 108 (nI j)).toInt ≠ x1.toInt)) ?_ (n := _) ⟨rfl, (by omega), (fun i hi => by exfalso; have h9 : (0 : Int32).toInt = 0 := (by decide +kernel); omega)⟩ (show _ < 10000000 by omega)
  intro a_2 n x2_1 hI ih_a_2
  obtain ⟨hn_a_2, b_x2_1, h1⟩ := hI
  refine ok_ite (fun c_1 => ?_) (fun c_1 => ?_)
  · rw [fa_le] at c_1
    exact ok_ret ⟨(by (try dsimp only); omega), (by (try dsimp only); first | (refine ⟨fun h => absurd h (by omega), fun h => ?_⟩; exfalso; have e0 := h1 0 (by omega); rw [ch_108_0] at e0; have e1 := h1 1 (by omega); rw [ch_108_1] at e1; have e2 := h1 2 (by omega); rw [ch_108_2] at e2; have e3 := h1 3 (by omega); rw [ch_108_3] at e3; have e4 := h1 4 (by omega); rw [ch_108_4] at e4; have e5 := h1 5 (by omega); rw [ch_108_5] at e5; have e6 := h1 6 (by omega); rw [ch_108_6] at e6; omega) | exact ⟨fun _ => by have c := clamp_I (x := x2_1) (by omega); have q := ch_108 x2_1.toNatClampNeg (by omega); rw [← z3] at q; omega, fun _ => by omega⟩)⟩
  · rw [fa_le] at c_1
    refine ok_ix ⟨by omega, by omega⟩ ?_
    obtain ⟨t_2, ht_2, g_2⟩ : ∃ t : Int, (chS 108 x2_1).toInt = t ∧ -2147483648 ≤ t ∧ t ≤ 2147483647 := ⟨_, rfl, tI_rng _⟩
    refine ok_lt fun v_3 e_v_3 => ?_
    have b_v_3 : 0 ≤ v_3.toInt ∧ v_3.toInt ≤ 255 := by rw [e_v_3]; exact ch_rng _ _
    have n3 : x2_1 = nI x2_1.toNatClampNeg := by refine Int32.toInt_inj.mp ?_; have := clamp_I (x := x2_1) (by omega); rw [nI_toInt (n := x2_1.toNatClampNeg) (by omega)]; omega
    have z3 : v_3.toInt = (chS 108 (nI x2_1.toNatClampNeg)).toInt := by rw [e_v_3, ← n3]
    refine ok_ite (fun c_3 => ?_) (fun c_3 => ?_)
    · rw [fa_eq] at c_3
      exact ok_ret ⟨(by (try dsimp only); omega), (by (try dsimp only); first | (refine ⟨fun h => absurd h (by omega), fun h => ?_⟩; exfalso; have e0 := h1 0 (by omega); rw [ch_108_0] at e0; have e1 := h1 1 (by omega); rw [ch_108_1] at e1; have e2 := h1 2 (by omega); rw [ch_108_2] at e2; have e3 := h1 3 (by omega); rw [ch_108_3] at e3; have e4 := h1 4 (by omega); rw [ch_108_4] at e4; have e5 := h1 5 (by omega); rw [ch_108_5] at e5; have e6 := h1 6 (by omega); rw [ch_108_6] at e6; omega) | exact ⟨fun _ => by have c := clamp_I (x := x2_1) (by omega); have q := ch_108 x2_1.toNatClampNeg (by omega); rw [← z3] at q; omega, fun _ => by omega⟩)⟩
    · rw [fa_eq] at c_3
      obtain ⟨t_4, ht_4, g_4⟩ : ∃ t : Int, (x2_1 + 1).toInt = t ∧ t = x2_1.toInt + (1 : Int32).toInt := ⟨_, rfl, by have h9 := fb_addI (x := x2_1) (y := (1 : Int32)) (by omega) (by omega); exact h9⟩
      refine ok_lt fun x2_5 e_x2_5 => ?_
      have q_x2_5 : x2_5.toInt = t_4 := by rw [e_x2_5]; exact ht_4
      exact ih_a_2 _ x2_5 (by rw [hn_a_2]; omega) ⟨rfl, (by omega), (fun j hj => by by_cases q : j = x2_1.toNatClampNeg; (rw [q, ← z3]; omega); exact h1 j (by have := clamp_I (x := x2_1) (by omega); omega))⟩

set_option maxHeartbeats 4000000 in
theorem s_X12_isOneOf_s109 {x1 : Int32} (p_x1 : 0 ≤ x1.toInt ∧ x1.toInt ≤ 255) : OK (f_X12_isOneOf_s109 x1) (fun v => (0 ≤ v.toInt ∧ v.toInt ≤ 1) ∧ ((v.toInt = 1 ↔ (x1.toInt = 116 ∨ x1.toInt = 114)))) := by
  unfold f_X12_isOneOf_s109
  have k_0 : (0 : Int32).toInt = 0 := by decide +kernel
  have k_1 : (1 : Int32).toInt = 1 := by decide +kernel
  have k_2 : (2 : Int32).toInt = 2 := by decide +kernel
  refine ok_itr1 (fun (n : Nat) (x2_1 : Int32) => n = (3 - x2_1.toInt).toNat ∧ (0 ≤ x2_1.toInt ∧ x2_1.toInt ≤ 2) ∧ (∀ j : Nat, (j : Int) < x2_1.toInt → (chS 109 (nI j)).toInt ≠ x1.toInt)) ?_ (n := _) ⟨rfl, (by omega), (fun i hi => by exfalso; have h9 : (0 : Int32).toInt = 0 := (by decide +kernel); omega)⟩ (show _ < 10000000 by omega)
  intro a_2 n x2_1 hI ih_a_2
  obtain ⟨hn_a_2, b_x2_1, h1⟩ := hI
  refine ok_ite (fun c_1 => ?_) (fun c_1 => ?_)
  · rw [fa_le] at c_1
    exact ok_ret ⟨(by (try dsimp only); omega), (by (try dsimp only); first | (refine ⟨fun h => absurd h (by omega), fun h => ?_⟩; exfalso; have e0 := h1 0 (by omega); rw [ch_109_0] at e0; have e1 := h1 1 (by omega); rw [ch_109_1] at e1; omega) | exact ⟨fun _ => by have c := clamp_I (x := x2_1) (by omega); have q := ch_109 x2_1.toNatClampNeg (by omega); rw [← z3] at q; omega, fun _ => by omega⟩)⟩
  · rw [fa_le] at c_1
    refine ok_ix ⟨by omega, by omega⟩ ?_
    obtain ⟨t_2, ht_2, g_2⟩ : ∃ t : Int, (chS 109 x2_1).toInt = t ∧ -2147483648 ≤ t ∧ t ≤ 2147483647 := ⟨_, rfl, tI_rng _⟩
    refine ok_lt fun v_3 e_v_3 => ?_
    have b_v_3 : 0 ≤ v_3.toInt ∧ v_3.toInt ≤ 255 := by rw [e_v_3]; exact ch_rng _ _
    have n3 : x2_1 = nI x2_1.toNatClampNeg := by refine Int32.toInt_inj.mp ?_; have := clamp_I (x := x2_1) (by omega); rw [nI_toInt (n := x2_1.toNatClampNeg) (by omega)]; omega
    have z3 : v_3.toInt = (chS 109 (nI x2_1.toNatClampNeg)).toInt := by rw [e_v_3, ← n3]
    refine ok_ite (fun c_3 => ?_) (fun c_3 => ?_)
    · rw [fa_eq] at c_3
      exact ok_ret ⟨(by (try dsimp only); omega), (by (try dsimp only); first | (refine ⟨fun h => absurd h (by omega), fun h => ?_⟩; exfalso; have e0 := h1 0 (by omega); rw [ch_109_0] at e0; have e1 := h1 1 (by omega); rw [ch_109_1] at e1; omega) | exact ⟨fun _ => by have c := clamp_I (x := x2_1) (by omega); have q := ch_109 x2_1.toNatClampNeg (by omega); rw [← z3] at q; omega, fun _ => by omega⟩)⟩
    · rw [fa_eq] at c_3
      obtain ⟨t_4, ht_4, g_4⟩ : ∃ t : Int, (x2_1 + 1).toInt = t ∧ t = x2_1.toInt + (1 : Int32).toInt := ⟨_, rfl, by have h9 := fb_addI (x := x2_1) (y := (1 : Int32)) (by omega) (by omega); exact h9⟩
      refine ok_lt fun x2_5 e_x2_5 => ?_
      have q_x2_5 : x2_5.toInt = t_4 := by rw [e_x2_5]; exact ht_4
      exact ih_a_2 _ x2_5 (by rw [hn_a_2]; omega) ⟨rfl, (by omega), (fun j hj => by by_cases q : j = x2_1.toNatClampNeg; (rw [q, ← z3]; omega); exact h1 j (by have := clamp_I (x := x2_1) (by omega); omega))⟩

set_option maxHeartbeats 4000000 in
theorem s_X12_isOne {x1 : Int32} {σ : Sto} (hB : BM σ) (p_x1 : 0 ≤ x1.toInt ∧ x1.toInt ≤ 5999) : OK (f_X12_isOne x1 σ) (fun v => (0 ≤ v.toInt ∧ v.toInt ≤ 1) ∧ ((v.toInt = 1 ↔ (σ.1 38 x1.toNatClampNeg).toInt = 5 ∨ (σ.1 38 x1.toNatClampNeg).toInt = 6))) := by
  unfold f_X12_isOne
  have hF : FR [] [] σ σ := FR.rf
  have k_0 : (0 : Int32).toInt = 0 := by decide +kernel
  have k_1 : (1 : Int32).toInt = 1 := by decide +kernel
  have k_5 : (5 : Int32).toInt = 5 := by decide +kernel
  have k_6 : (6 : Int32).toInt = 6 := by decide +kernel
  refine ok_ix ⟨by omega, by omega⟩ ?_
  have g_1 := gM_38 hB (x1.toNatClampNeg)
  refine ok_lt fun v_1 e_v_1 => ?_
  have b_v_1 : 0 ≤ v_1.toInt ∧ v_1.toInt ≤ 255 := by rw [e_v_1]; exact gM_38 hB _
  have q_v_1 : v_1.toInt = (σ.1 38 x1.toNatClampNeg).toInt := by rw [e_v_1]
  have zv_1 : v_1.toInt = (σ.1 38 x1.toNatClampNeg).toInt := by rw [e_v_1]
  refine ok_jn ?_
  refine ok_ite (fun c_2 => ?_) (fun c_2 => ?_)
  · rw [fa_eq] at c_2
    exact ok_ret ⟨(by (try dsimp only); omega), (by (try dsimp only); omega)⟩
  · rw [fa_eq] at c_2
    refine ok_ix ⟨by omega, by omega⟩ ?_
    refine ok_lt fun v_4 e_v_4 => ?_
    have b_v_4 : 0 ≤ v_4.toInt ∧ v_4.toInt ≤ 255 := by rw [e_v_4]; exact gM_38 hB _
    have q_v_4 : v_4.toInt = (σ.1 38 x1.toNatClampNeg).toInt := by rw [e_v_4]
    have zv_4 : v_4.toInt = (σ.1 38 x1.toNatClampNeg).toInt := by rw [e_v_4]
    refine ok_ite (fun c_3 => ?_) (fun c_3 => ?_)
    · rw [fa_eq] at c_3
      exact ok_ret ⟨(by (try dsimp only); omega), (by (try dsimp only); omega)⟩
    · rw [fa_eq] at c_3
      exact ok_ret ⟨(by (try dsimp only); omega), (by (try dsimp only); omega)⟩

set_option maxHeartbeats 4000000 in
theorem s_X12_isBoth {x1 : Int32} {σ : Sto} (hB : BM σ) (p_x1 : 0 ≤ x1.toInt ∧ x1.toInt ≤ 5999) : OK (f_X12_isBoth x1 σ) (fun v => (0 ≤ v.toInt ∧ v.toInt ≤ 1) ∧ ((v.toInt = 1 ↔ 6 < (σ.1 38 x1.toNatClampNeg).toInt))) := by
  unfold f_X12_isBoth
  have hF : FR [] [] σ σ := FR.rf
  have k_0 : (0 : Int32).toInt = 0 := by decide +kernel
  have k_1 : (1 : Int32).toInt = 1 := by decide +kernel
  have k_6 : (6 : Int32).toInt = 6 := by decide +kernel
  refine ok_ix ⟨by omega, by omega⟩ ?_
  have g_1 := gM_38 hB (x1.toNatClampNeg)
  refine ok_lt fun v_1 e_v_1 => ?_
  have b_v_1 : 0 ≤ v_1.toInt ∧ v_1.toInt ≤ 255 := by rw [e_v_1]; exact gM_38 hB _
  have zv_1 : v_1.toInt = (σ.1 38 x1.toNatClampNeg).toInt := by rw [e_v_1]
  refine ok_ite (fun c_2 => ?_) (fun c_2 => ?_)
  · rw [fa_le] at c_2
    exact ok_ret ⟨(by (try dsimp only); omega), (by (try dsimp only); omega)⟩
  · rw [fa_le] at c_2
    exact ok_ret ⟨(by (try dsimp only); omega), (by (try dsimp only); omega)⟩

set_option maxHeartbeats 4000000 in
theorem s_X12_isName {x1 : Int32} {σ : Sto} (hB : BM σ) (p_x1 : 0 ≤ x1.toInt ∧ x1.toInt ≤ 5999) : OK (f_X12_isName x1 σ) (fun v => (0 ≤ v.toInt ∧ v.toInt ≤ 1) ∧ ((v.toInt = 1 ↔ (σ.1 38 x1.toNatClampNeg).toInt = 1 ∨ (σ.1 38 x1.toNatClampNeg).toInt = 2 ∨ (σ.1 38 x1.toNatClampNeg).toInt = 3))) := by
  unfold f_X12_isName
  have hF : FR [] [] σ σ := FR.rf
  have k_0 : (0 : Int32).toInt = 0 := by decide +kernel
  have k_1 : (1 : Int32).toInt = 1 := by decide +kernel
  have k_2 : (2 : Int32).toInt = 2 := by decide +kernel
  have k_3 : (3 : Int32).toInt = 3 := by decide +kernel
  refine ok_ix ⟨by omega, by omega⟩ ?_
  have g_1 := gM_38 hB (x1.toNatClampNeg)
  refine ok_lt fun v_1 e_v_1 => ?_
  have b_v_1 : 0 ≤ v_1.toInt ∧ v_1.toInt ≤ 255 := by rw [e_v_1]; exact gM_38 hB _
  have q_v_1 : v_1.toInt = (σ.1 38 x1.toNatClampNeg).toInt := by rw [e_v_1]
  have zv_1 : v_1.toInt = (σ.1 38 x1.toNatClampNeg).toInt := by rw [e_v_1]
  refine ok_jn ?_
  refine ok_ite (fun c_2 => ?_) (fun c_2 => ?_)
  · rw [fa_eq] at c_2
    exact ok_ret ⟨(by (try dsimp only); omega), (by (try dsimp only); omega)⟩
  · rw [fa_eq] at c_2
    refine ok_ix ⟨by omega, by omega⟩ ?_
    refine ok_lt fun v_4 e_v_4 => ?_
    have b_v_4 : 0 ≤ v_4.toInt ∧ v_4.toInt ≤ 255 := by rw [e_v_4]; exact gM_38 hB _
    have q_v_4 : v_4.toInt = (σ.1 38 x1.toNatClampNeg).toInt := by rw [e_v_4]
    have zv_4 : v_4.toInt = (σ.1 38 x1.toNatClampNeg).toInt := by rw [e_v_4]
    refine ok_ite (fun c_3 => ?_) (fun c_3 => ?_)
    · rw [fa_eq] at c_3
      exact ok_ret ⟨(by (try dsimp only); omega), (by (try dsimp only); omega)⟩
    · rw [fa_eq] at c_3
      refine ok_ix ⟨by omega, by omega⟩ ?_
      refine ok_lt fun v_6 e_v_6 => ?_
      have b_v_6 : 0 ≤ v_6.toInt ∧ v_6.toInt ≤ 255 := by rw [e_v_6]; exact gM_38 hB _
      have q_v_6 : v_6.toInt = (σ.1 38 x1.toNatClampNeg).toInt := by rw [e_v_6]
      have zv_6 : v_6.toInt = (σ.1 38 x1.toNatClampNeg).toInt := by rw [e_v_6]
      refine ok_ite (fun c_4 => ?_) (fun c_4 => ?_)
      · rw [fa_eq] at c_4
        exact ok_ret ⟨(by (try dsimp only); omega), (by (try dsimp only); omega)⟩
      · rw [fa_eq] at c_4
        exact ok_ret ⟨(by (try dsimp only); omega), (by (try dsimp only); omega)⟩

set_option maxHeartbeats 4000000 in
theorem s_X12_makes {x1 : Int32} {x2 : Int32} {x3 : Int32} {σ : Sto} (hB : BM σ) (p_x1 : 0 ≤ x1.toInt ∧ x1.toInt ≤ 255) (p_x2 : 0 ≤ x2.toInt ∧ x2.toInt ≤ 5999) (p_x3 : 0 ≤ x3.toInt ∧ x3.toInt ≤ 5999) (hn : (σ.1 41 0).toInt < 6000) : OK (f_X12_makes x1 x2 x3 σ) (fun r => (0 ≤ r.1.toInt ∧ r.1.toInt ≤ 5999) ∧ BM r.2 ∧ FR [38, 39, 40, 41] [] σ r.2 ∧ (r.1.toInt = (σ.1 41 0).toInt ∧ (r.2.1 41 0).toInt = (σ.1 41 0).toInt + 1 ∧ r.2.1 38 = (sti σ 38 (σ.1 41 0).toNatClampNeg x1).1 38 ∧ r.2.1 39 = (sti σ 39 (σ.1 41 0).toNatClampNeg x2).1 39 ∧ r.2.1 40 = (sti σ 40 (σ.1 41 0).toNatClampNeg x3).1 40)) := by
  unfold f_X12_makes
  have hF : FR [38, 39, 40, 41] [] σ σ := FR.rf
  have k_1 : (1 : Int32).toInt = 1 := by decide +kernel
  have g41 := gM_41 hB 0
  have g_1 := gM_41 hB 0
  refine ok_ix ⟨by omega, by omega⟩ ?_
  refine ok_lt fun s_1 e_s_1 => ?_
  have hB_s_1 : BM s_1 := by rw [e_s_1]; exact pM_38 hB (by omega)
  have hF_s_1 : FR [38, 39, 40, 41] [] σ s_1 := by rw [e_s_1]; exact FR.st hF (by decide)
  have w_s_1_41 : (s_1.1 41 0).toInt = (σ.1 41 0).toInt := by rw [e_s_1]; rfl
  have g_2 := gM_41 hB_s_1 0
  refine ok_ix ⟨by omega, by omega⟩ ?_
  refine ok_lt fun s_2 e_s_2 => ?_
  have hB_s_2 : BM s_2 := by rw [e_s_2]; exact pM_39 hB_s_1 (by omega)
  have hF_s_2 : FR [38, 39, 40, 41] [] σ s_2 := by rw [e_s_2]; exact FR.st hF_s_1 (by decide)
  have w_s_2_41 : (s_2.1 41 0).toInt = (s_1.1 41 0).toInt := by rw [e_s_2]; rfl
  have g_3 := gM_41 hB_s_2 0
  refine ok_ix ⟨by omega, by omega⟩ ?_
  refine ok_lt fun s_3 e_s_3 => ?_
  have hB_s_3 : BM s_3 := by rw [e_s_3]; exact pM_40 hB_s_2 (by omega)
  have hF_s_3 : FR [38, 39, 40, 41] [] σ s_3 := by rw [e_s_3]; exact FR.st hF_s_2 (by decide)
  have w_s_3_41 : (s_3.1 41 0).toInt = (s_2.1 41 0).toInt := by rw [e_s_3]; rfl
  have g_4 := gM_41 hB_s_3 0
  obtain ⟨t_5, ht_5, g_5⟩ : ∃ t : Int, ((s_3.1 41 0) + 1).toInt = t ∧ t = (s_3.1 41 0).toInt + (1 : Int32).toInt := ⟨_, rfl, by have h9 := fb_addI (x := (s_3.1 41 0)) (y := (1 : Int32)) (by omega) (by omega); exact h9⟩
  refine ok_lt fun s_4 e_s_4 => ?_
  have hB_s_4 : BM s_4 := by rw [e_s_4]; exact pM_41 hB_s_3 (by rw [ht_5]; omega)
  have hF_s_4 : FR [38, 39, 40, 41] [] σ s_4 := by rw [e_s_4]; exact FR.st hF_s_3 (by decide)
  have w_s_4_41 : (s_4.1 41 0).toInt = t_5 := by rw [e_s_4, sti_s, ht_5]
  have g_6 := gM_41 hB_s_4 0
  obtain ⟨t_7, ht_7, g_7⟩ : ∃ t : Int, ((s_4.1 41 0) - 1).toInt = t ∧ t = (s_4.1 41 0).toInt - (1 : Int32).toInt := ⟨_, rfl, by have h9 := fb_subI (x := (s_4.1 41 0)) (y := (1 : Int32)) (by omega) (by omega); exact h9⟩
  exact ok_ret ⟨(by (try dsimp only); rw [ht_7]; omega), hB_s_4, hF_s_4, (by (try dsimp only); exact ⟨by omega, by omega, by rw [e_s_4, e_s_3, e_s_2, e_s_1]; rfl, by rw [e_s_4, e_s_3, e_s_2, e_s_1]; rfl, by rw [e_s_4, e_s_3, e_s_2, e_s_1]; rfl⟩)⟩

set_option maxHeartbeats 4000000 in
theorem s_X12_states {x1 : Int32} {x2 : Int32} {x3 : Int32} {σ : Sto} (hB : BM σ) (p_x1 : 0 ≤ x1.toInt ∧ x1.toInt ≤ 6) (p_x2 : (-1) ≤ x2.toInt ∧ x2.toInt ≤ 399) (p_x3 : (-1) ≤ x3.toInt ∧ x3.toInt ≤ 5999) (hn : (σ.1 47 0).toInt < 400) : OK (f_X12_states x1 x2 x3 σ) (fun s => BM s ∧ FR [42, 43, 44, 47] [] σ s ∧ ((s.1 47 0).toInt = (σ.1 47 0).toInt + 1 ∧ s.1 42 = (sti σ 42 (σ.1 47 0).toNatClampNeg x1).1 42 ∧ s.1 43 = (sti σ 43 (σ.1 47 0).toNatClampNeg x2).1 43 ∧ s.1 44 = (sti σ 44 (σ.1 47 0).toNatClampNeg x3).1 44)) := by
  unfold f_X12_states
  have hF : FR [42, 43, 44, 47] [] σ σ := FR.rf
  have k_1 : (1 : Int32).toInt = 1 := by decide +kernel
  have g47 := gM_47 hB 0
  have g_1 := gM_47 hB 0
  refine ok_ix ⟨by omega, by omega⟩ ?_
  refine ok_lt fun s_1 e_s_1 => ?_
  have hB_s_1 : BM s_1 := by rw [e_s_1]; exact pM_42 hB (by omega)
  have hF_s_1 : FR [42, 43, 44, 47] [] σ s_1 := by rw [e_s_1]; exact FR.st hF (by decide)
  have w_s_1_47 : (s_1.1 47 0).toInt = (σ.1 47 0).toInt := by rw [e_s_1]; rfl
  have g_2 := gM_47 hB_s_1 0
  refine ok_ix ⟨by omega, by omega⟩ ?_
  refine ok_lt fun s_2 e_s_2 => ?_
  have hB_s_2 : BM s_2 := by rw [e_s_2]; exact pM_43 hB_s_1 (by omega)
  have hF_s_2 : FR [42, 43, 44, 47] [] σ s_2 := by rw [e_s_2]; exact FR.st hF_s_1 (by decide)
  have w_s_2_47 : (s_2.1 47 0).toInt = (s_1.1 47 0).toInt := by rw [e_s_2]; rfl
  have g_3 := gM_47 hB_s_2 0
  refine ok_ix ⟨by omega, by omega⟩ ?_
  refine ok_lt fun s_3 e_s_3 => ?_
  have hB_s_3 : BM s_3 := by rw [e_s_3]; exact pM_44 hB_s_2 (by omega)
  have hF_s_3 : FR [42, 43, 44, 47] [] σ s_3 := by rw [e_s_3]; exact FR.st hF_s_2 (by decide)
  have w_s_3_47 : (s_3.1 47 0).toInt = (s_2.1 47 0).toInt := by rw [e_s_3]; rfl
  have g_4 := gM_47 hB_s_3 0
  obtain ⟨t_5, ht_5, g_5⟩ : ∃ t : Int, ((s_3.1 47 0) + 1).toInt = t ∧ t = (s_3.1 47 0).toInt + (1 : Int32).toInt := ⟨_, rfl, by have h9 := fb_addI (x := (s_3.1 47 0)) (y := (1 : Int32)) (by omega) (by omega); exact h9⟩
  refine ok_lt fun s_4 e_s_4 => ?_
  have hB_s_4 : BM s_4 := by rw [e_s_4]; exact pM_47 hB_s_3 (by rw [ht_5]; omega)
  have hF_s_4 : FR [42, 43, 44, 47] [] σ s_4 := by rw [e_s_4]; exact FR.st hF_s_3 (by decide)
  have w_s_4_47 : (s_4.1 47 0).toInt = t_5 := by rw [e_s_4, sti_s, ht_5]
  exact ok_ret ⟨hB_s_4, hF_s_4, (by (try dsimp only); exact ⟨by omega, by rw [e_s_4, e_s_3, e_s_2, e_s_1]; rfl, by rw [e_s_4, e_s_3, e_s_2, e_s_1]; rfl, by rw [e_s_4, e_s_3, e_s_2, e_s_1]; rfl⟩)⟩

set_option maxHeartbeats 4000000 in
theorem s_X12_freshX {x1 : Int32} {σ : Sto} (hB : BM σ) (p_x1 : 0 ≤ x1.toInt ∧ x1.toInt ≤ 5999) (hn : (σ.1 47 0).toInt < 400) (hn2 : (σ.1 41 0).toInt < 6000) (hx : (σ.1 48 0).toInt < 400) : OK (f_X12_freshX x1 σ) (fun r => (0 ≤ r.1.toInt ∧ r.1.toInt ≤ 5999) ∧ BM r.2 ∧ FR [38, 39, 40, 41, 42, 43, 44, 47, 48] [] σ r.2 ∧ (r.1.toInt = (σ.1 41 0).toInt ∧ (r.2.1 41 0).toInt = (σ.1 41 0).toInt + 1 ∧ (r.2.1 47 0).toInt = (σ.1 47 0).toInt + 1 ∧ (r.2.1 48 0).toInt = (σ.1 48 0).toInt + 1 ∧ (∃ w : Int32, w.toInt = (σ.1 48 0).toInt ∧ r.2.1 39 = (sti σ 39 (σ.1 41 0).toNatClampNeg w).1 39) ∧ r.2.1 38 = (sti σ 38 (σ.1 41 0).toNatClampNeg 3).1 38 ∧ r.2.1 40 = (sti σ 40 (σ.1 41 0).toNatClampNeg 0).1 40 ∧ r.2.1 42 = (sti σ 42 (σ.1 47 0).toNatClampNeg 2).1 42 ∧ r.2.1 43 = (sti σ 43 (σ.1 47 0).toNatClampNeg (σ.1 48 0)).1 43 ∧ r.2.1 44 = (sti σ 44 (σ.1 47 0).toNatClampNeg x1).1 44)) := by
  unfold f_X12_freshX
  have hF : FR [38, 39, 40, 41, 42, 43, 44, 47, 48] [] σ σ := FR.rf
  have k_0 : (0 : Int32).toInt = 0 := by decide +kernel
  have k_1 : (1 : Int32).toInt = 1 := by decide +kernel
  have k_2 : (2 : Int32).toInt = 2 := by decide +kernel
  have k_3 : (3 : Int32).toInt = 3 := by decide +kernel
  have g48 := gM_48 hB 0
  have g_1 := gM_48 hB 0
  refine ok_cals (s_X12_states (x1 := (2 : Int32)) (x2 := (σ.1 48 0)) (x3 := x1) (σ := σ) hB (by omega) (by omega) (by omega) (by omega)) (fun s_1 h_2 => ?_)
  obtain ⟨hB_s_1, hG_s_1, x_s_1⟩ := h_2
  (try dsimp only at hB_s_1 hG_s_1 x_s_1)
  have hF_s_1 : FR [38, 39, 40, 41, 42, 43, 44, 47, 48] [] σ s_1 := FR.cal hF hG_s_1 rfl rfl
  have w_s_1_41 : (s_1.1 41 0).toInt = (σ.1 41 0).toInt := by rw [hG_s_1.1 41 (by decide)]
  have w_s_1_48 : (s_1.1 48 0).toInt = (σ.1 48 0).toInt := by rw [hG_s_1.1 48 (by decide)]
  obtain ⟨y1, y2, y3, y4⟩ := x_s_1
  have q41 : s_1.1 41 = σ.1 41 := hG_s_1.1 41 (by decide)
  have g_3 := gM_48 hB_s_1 0
  obtain ⟨t_4, ht_4, g_4⟩ : ∃ t : Int, ((s_1.1 48 0) + 1).toInt = t ∧ t = (s_1.1 48 0).toInt + (1 : Int32).toInt := ⟨_, rfl, by have h9 := fb_addI (x := (s_1.1 48 0)) (y := (1 : Int32)) (by omega) (by omega); exact h9⟩
  refine ok_lt fun s_2 e_s_2 => ?_
  have hB_s_2 : BM s_2 := by rw [e_s_2]; exact pM_48 hB_s_1 (by rw [ht_4]; omega)
  have hF_s_2 : FR [38, 39, 40, 41, 42, 43, 44, 47, 48] [] σ s_2 := by rw [e_s_2]; exact FR.st hF_s_1 (by decide)
  have w_s_2_41 : (s_2.1 41 0).toInt = (s_1.1 41 0).toInt := by rw [e_s_2]; rfl
  have w_s_2_47 : (s_2.1 47 0).toInt = (s_1.1 47 0).toInt := by rw [e_s_2]; rfl
  have w_s_2_48 : (s_2.1 48 0).toInt = t_4 := by rw [e_s_2, sti_s, ht_4]
  have p41 : s_2.1 41 = σ.1 41 := by rw [e_s_2]; exact q41
  have p38 : s_2.1 38 = σ.1 38 := by rw [e_s_2]; exact hG_s_1.1 38 (by decide)
  have p39 : s_2.1 39 = σ.1 39 := by rw [e_s_2]; exact hG_s_1.1 39 (by decide)
  have p40 : s_2.1 40 = σ.1 40 := by rw [e_s_2]; exact hG_s_1.1 40 (by decide)
  have p42 : s_2.1 42 = s_1.1 42 := by rw [e_s_2]; rfl
  have p43 : s_2.1 43 = s_1.1 43 := by rw [e_s_2]; rfl
  have p44 : s_2.1 44 = s_1.1 44 := by rw [e_s_2]; rfl
  have g_5 := gM_48 hB_s_2 0
  obtain ⟨t_6, ht_6, g_6⟩ : ∃ t : Int, ((s_2.1 48 0) - 1).toInt = t ∧ t = (s_2.1 48 0).toInt - (1 : Int32).toInt := ⟨_, rfl, by have h9 := fb_subI (x := (s_2.1 48 0)) (y := (1 : Int32)) (by omega) (by omega); exact h9⟩
  refine ok_calv (s_X12_makes (x1 := (3 : Int32)) (x2 := ((s_2.1 48 0) - 1)) (x3 := (0 : Int32)) (σ := s_2) hB_s_2 (by omega) (by rw [ht_6]; omega) (by omega) (by rw [p41]; omega)) (fun v_3 s_3 h_7 => ?_)
  obtain ⟨b_v_3, hB_s_3, hG_s_3, x_s_3⟩ := h_7
  (try dsimp only at b_v_3 hB_s_3 hG_s_3 x_s_3)
  have hF_s_3 : FR [38, 39, 40, 41, 42, 43, 44, 47, 48] [] σ s_3 := FR.cal hF_s_2 hG_s_3 rfl rfl
  have w_s_3_47 : (s_3.1 47 0).toInt = (s_2.1 47 0).toInt := by rw [hG_s_3.1 47 (by decide)]
  have w_s_3_48 : (s_3.1 48 0).toInt = (s_2.1 48 0).toInt := by rw [hG_s_3.1 48 (by decide)]
  obtain ⟨u1, u2, u3, u4, u5⟩ := x_s_3
  have st_cg : ∀ (k n : Nat) (v : Int32), s_2.1 k = σ.1 k → (sti s_2 k n v).1 k = (sti σ k n v).1 k := fun k n v h => by funext i; rw [sti_if, sti_if, h]
  rw [p41, st_cg 38 _ _ p38] at u3
  rw [p41, st_cg 39 _ _ p39] at u4
  rw [p41, st_cg 40 _ _ p40] at u5
  rw [← p42, ← hG_s_3.1 42 (by decide)] at y2
  rw [← p43, ← hG_s_3.1 43 (by decide)] at y3
  rw [← p44, ← hG_s_3.1 44 (by decide)] at y4
  have z41 : (s_2.1 41 0).toInt = (σ.1 41 0).toInt := by rw [p41]
  exact ok_ret ⟨(by (try dsimp only); omega), hB_s_3, hF_s_3, (by (try dsimp only); exact ⟨by omega, by omega, by omega, by omega, ⟨_, by omega, u4⟩, u3, u5, y2, y3, y4⟩)⟩

set_option maxHeartbeats 4000000 in
theorem s_X12_pops_ {σ : Sto} (hB : BM σ) (hy : 1 ≤ (σ.1 50 0).toInt) : OK (f_X12_pops_ σ) (fun r => (0 ≤ r.1.toInt ∧ r.1.toInt ≤ 5999) ∧ BM r.2 ∧ FR [50] [] σ r.2 ∧ ((r.2.1 50 0).toInt = (σ.1 50 0).toInt - 1 ∧ r.1 = σ.1 49 (r.2.1 50 0).toNatClampNeg)) := by
  unfold f_X12_pops_
  have hF : FR [50] [] σ σ := FR.rf
  have k_1 : (1 : Int32).toInt = 1 := by decide +kernel
  have g50 := gM_50 hB 0
  have g_1 := gM_50 hB 0
  obtain ⟨t_2, ht_2, g_2⟩ : ∃ t : Int, ((σ.1 50 0) - 1).toInt = t ∧ t = (σ.1 50 0).toInt - (1 : Int32).toInt := ⟨_, rfl, by have h9 := fb_subI (x := (σ.1 50 0)) (y := (1 : Int32)) (by omega) (by omega); exact h9⟩
  refine ok_lt fun s_1 e_s_1 => ?_
  have hB_s_1 : BM s_1 := by rw [e_s_1]; exact pM_50 hB (by rw [ht_2]; omega)
  have hF_s_1 : FR [50] [] σ s_1 := by rw [e_s_1]; exact FR.st hF (by decide)
  have w_s_1_50 : (s_1.1 50 0).toInt = t_2 := by rw [e_s_1, sti_s, ht_2]
  have g_3 := gM_50 hB_s_1 0
  refine ok_ix ⟨by omega, by omega⟩ ?_
  have g_4 := gM_49 hB_s_1 ((s_1.1 50 0).toNatClampNeg)
  refine ok_lt fun v_2 e_v_2 => ?_
  have b_v_2 : 0 ≤ v_2.toInt ∧ v_2.toInt ≤ 5999 := by rw [e_v_2]; exact gM_49 hB_s_1 _
  exact ok_ret ⟨(by (try dsimp only); omega), hB_s_1, hF_s_1, (by (try dsimp only); exact ⟨by omega, by rw [e_v_2]; rw [e_s_1]; rfl⟩)⟩

set_option maxHeartbeats 4000000 in
theorem s_X12_lays {x1 : Int32} {σ : Sto} (hB : BM σ) (p_x1 : 0 ≤ x1.toInt ∧ x1.toInt ≤ 5999) (hy : (σ.1 50 0).toInt ≤ 7) : OK (f_X12_lays x1 σ) (fun s => BM s ∧ FR [49, 50] [] σ s ∧ ((s.1 50 0).toInt = (σ.1 50 0).toInt + 1 ∧ s.1 49 = (sti σ 49 (σ.1 50 0).toNatClampNeg x1).1 49)) := by
  unfold f_X12_lays
  have hF : FR [49, 50] [] σ σ := FR.rf
  have k_1 : (1 : Int32).toInt = 1 := by decide +kernel
  have g50 := gM_50 hB 0
  have g_1 := gM_50 hB 0
  refine ok_ix ⟨by omega, by omega⟩ ?_
  refine ok_lt fun s_1 e_s_1 => ?_
  have hB_s_1 : BM s_1 := by rw [e_s_1]; exact pM_49 hB (by omega)
  have hF_s_1 : FR [49, 50] [] σ s_1 := by rw [e_s_1]; exact FR.st hF (by decide)
  have w_s_1_50 : (s_1.1 50 0).toInt = (σ.1 50 0).toInt := by rw [e_s_1]; rfl
  have g_2 := gM_50 hB_s_1 0
  obtain ⟨t_3, ht_3, g_3⟩ : ∃ t : Int, ((s_1.1 50 0) + 1).toInt = t ∧ t = (s_1.1 50 0).toInt + (1 : Int32).toInt := ⟨_, rfl, by have h9 := fb_addI (x := (s_1.1 50 0)) (y := (1 : Int32)) (by omega) (by omega); exact h9⟩
  refine ok_lt fun s_2 e_s_2 => ?_
  have hB_s_2 : BM s_2 := by rw [e_s_2]; exact pM_50 hB_s_1 (by rw [ht_3]; omega)
  have hF_s_2 : FR [49, 50] [] σ s_2 := by rw [e_s_2]; exact FR.st hF_s_1 (by decide)
  have w_s_2_50 : (s_2.1 50 0).toInt = t_3 := by rw [e_s_2, sti_s, ht_3]
  exact ok_ret ⟨hB_s_2, hF_s_2, ⟨by omega, by rw [e_s_2, e_s_1]; rfl⟩⟩

