theorem sd_areAlike {σ : Sto} (hB : BM σ) : ∀ (d s d2 s2 : Nat) (e f : Int32), 0 ≤ e.toInt → 0 ≤ f.toInt → TZ (σ.1 38) (σ.1 39) (σ.1 40) (σ.1 41 0).toInt d s e.toNatClampNeg → TZ (σ.1 38) (σ.1 39) (σ.1 40) (σ.1 41 0).toInt d2 s2 f.toNatClampNeg → OK (f_X12_areAlike d e f σ) (fun v => (v.toInt = 0 ∨ v.toInt = 1) ∧ (e = f → v.toInt = 1)) := by
  intro d
  induction d with
  | zero => intro s d2 s2 e f _ _ h; exact absurd h (fun z => z)
  | succ d ih =>
    intro s d2 s2 e f e0 f0 h g
    have k_0 : (0 : Int32).toInt = 0 := by decide +kernel
    have k_1 : (1 : Int32).toInt = 1 := by decide +kernel
    cases d2 with
    | zero => exact absurd g (fun z => z)
    | succ d2 =>
    have g41 := gM_41 hB 0
    have hl := h.lt
    have gl := g.lt
    have ce := clamp_I e0
    have cf := clamp_I f0
    have ei : 0 ≤ e.toInt ∧ e.toInt < 6000 := ⟨e0, by omega⟩
    have fi : 0 ≤ f.toInt ∧ f.toInt < 6000 := ⟨f0, by omega⟩
    obtain ⟨-, -, h3⟩ := h
    obtain ⟨-, -, g3⟩ := g
    have a1 := gM_39 hB e.toNatClampNeg
    have a2 := gM_39 hB f.toNatClampNeg
    have a3 := gM_40 hB e.toNatClampNeg
    have a4 := gM_40 hB f.toNatClampNeg
    show OK (b_X12_areAlike (f_X12_areAlike d) e f σ) _
    unfold b_X12_areAlike
    refine ok_ix ei ?_
    refine ok_lt fun v1 e1 => ?_
    refine ok_ix fi ?_
    refine ok_lt fun v2 e2 => ?_
    refine ok_ite (fun c1 => ?_) (fun c1 => ok_ret ⟨Or.inl k_0, fun z => absurd (by rw [e1, e2, z]) c1⟩)
    rw [fa_eq, e1, e2] at c1
    refine ok_calp (s_X12_isOne hB (by omega)) (fun v4 q4 => ?_)
    refine ok_ite (fun c2 => ?_) (fun c2 => ?_)
    · rw [fa_eq, k_0] at c2
      refine ok_calp (s_X12_isBoth hB (by omega)) (fun v6 q6 => ?_)
      refine ok_ite (fun c3 => ?_) (fun c3 => ?_)
      · refine ok_ix ei ?_
        refine ok_lt fun v8 e8 => ?_
        refine ok_ix fi ?_
        refine ok_lt fun v9 e9 => ?_
        exact ok_ite (fun _ => ok_ret ⟨Or.inr k_1, fun _ => k_1⟩) (fun c4 => ok_ret ⟨Or.inl k_0, fun z => absurd (by rw [e8, e9, z]) c4⟩)
      · rw [fa_eq, k_0] at c3
        have k6 := q6.2.mp (by omega)
        rcases h3 with h3 | ⟨h3, -⟩ | ⟨-, p, q, -, h4, h5⟩
        · omega
        · omega
        · rcases g3 with g3 | ⟨g3, -⟩ | ⟨-, p2, q2, -, g4, g5⟩
          · omega
          · omega
          · refine ok_ix ei ?_
            refine ok_lt fun v11 e11 => ?_
            refine ok_ix fi ?_
            refine ok_lt fun v12 e12 => ?_
            subst e11
            subst e12
            refine ok_calp (ih p d2 p2 _ _ (by omega) (by omega) h4 g4) (fun v13 w13 => ?_)
            refine ok_jnI0 (e ≠ f) (fun w => ok_ret ⟨Or.inl k_0, fun z => absurd z w⟩) (fun k hk => ?_)
            refine ok_ite (fun c4 => hk (fun z => by
              rw [fa_eq, k_0] at c4
              have := w13.2 (by rw [z])
              omega)) (fun _ => ?_)
            refine ok_ix ei ?_
            refine ok_lt fun v16 e16 => ?_
            refine ok_ix fi ?_
            refine ok_lt fun v17 e17 => ?_
            subst e16
            subst e17
            refine ok_calp (ih q d2 q2 _ _ (by omega) (by omega) h5 g5) (fun v18 w18 => ?_)
            exact ok_ite (fun c5 => hk (fun z => by
              rw [fa_eq, k_0] at c5
              have := w18.2 (by rw [z])
              omega)) (fun _ => ok_ret ⟨Or.inr k_1, fun _ => k_1⟩)
    · rw [fa_eq, k_0] at c2
      have k5 := q4.2.mp (by omega)
      rcases h3 with h3 | ⟨-, h4⟩ | ⟨h3, -⟩
      · omega
      · rcases g3 with g3 | ⟨-, g4⟩ | ⟨g3, -⟩
        · omega
        · refine ok_ix ei ?_
          refine ok_lt fun v20 e20 => ?_
          refine ok_ix fi ?_
          refine ok_lt fun v21 e21 => ?_
          subst e20
          subst e21
          refine ok_calp (ih (s - 1) d2 (s2 - 1) _ _ (by omega) (by omega) h4 g4) (fun v22 q => ?_)
          exact ok_bz (by rw [fa_eq, fa_eq, k_0, k_1]; exact q.1) (ok_ret ⟨q.1, fun z => q.2 (by rw [z])⟩)
        · omega
      · omega
theorem pig : ∀ (n m : Nat) (f : Nat → Nat), (∀ i, i < m → f i < n) → (∀ i j, i < m → j < m → f i = f j → i = j) → m ≤ n
  | 0, m, f, h, _ => by
    cases m with
    | zero => exact Nat.le_refl _
    | succ m => exact absurd (h 0 (by omega)) (by omega)
  | n + 1, m, f, h, g => by
    cases m with
    | zero => exact Nat.zero_le _
    | succ m =>
      by_cases q : ∃ i, i < m + 1 ∧ f i = n
      · obtain ⟨i, i1, i2⟩ := q
        have := pig n m (fun j => if j = i then f m else f j) (fun j hj => by
          show (if j = i then f m else f j) < n
          by_cases z : j = i
          · rw [if_pos z]
            have a := h m (by omega)
            have b : f m ≠ n := fun w => by
              have := g m i (by omega) i1 (by rw [w, i2])
              omega
            omega
          · rw [if_neg z]
            have a := h j (by omega)
            have b : f j ≠ n := fun w => z (g j i (by omega) i1 (by rw [w, i2]))
            omega) (fun j k hj hk w => by
          have w2 : (if j = i then f m else f j) = (if k = i then f m else f k) := w
          by_cases z1 : j = i
          · by_cases z2 : k = i
            · rw [z1, z2]
            · rw [if_pos z1, if_neg z2] at w2
              have := g m k (by omega) (by omega) w2
              omega
          · by_cases z2 : k = i
            · rw [if_neg z1, if_pos z2] at w2
              have := g j m (by omega) (by omega) w2
              omega
            · rw [if_neg z1, if_neg z2] at w2
              exact g j k (by omega) (by omega) w2)
        omega
      · have := pig n (m + 1) f (fun i hi => by
          have a := h i hi
          have b : f i ≠ n := fun w => q ⟨i, hi, w⟩
          omega) g
        omega
