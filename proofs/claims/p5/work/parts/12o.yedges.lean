abbrev FE_ : List Nat := [25, 27, 28, 29, 32]
theorem frE {σ s : Sto} (h : FR FE_ [] σ s) {k : Nat} (hk : k < 25 ∨ k = 26 ∨ 32 < k) : s.1 k = σ.1 k := h.1 k (by simp [FE_]; omega)
theorem s_laysEdges {σ : Sto} (hB : BM σ) (hQ : QL σ) (hK : BK σ) : OK (f_X12_laysEdges σ) (fun s => BM s ∧ FR FE_ [] σ s ∧ ED s) := by
  have k_0 : (0 : Int32).toInt = 0 := by decide +kernel
  have k_1 : (1 : Int32).toInt = 1 := by decide +kernel
  have k_2 : (2 : Int32).toInt = 2 := by decide +kernel
  have k_3 : (3 : Int32).toInt = 3 := by decide +kernel
  have k_m1 : ((-1) : Int32).toInt = -1 := by decide +kernel
  have hC := nC_le hB
  have hn := nB_le hB
  have hH := nH_le hB
  unfold f_X12_laysEdges
  refine ok_lt fun s1 e1 => ?_
  have z32 : (s1.1 32 0).toInt = 0 := by rw [e1, sti_s]; exact k_0
  have zE : nE s1 = 0 := by unfold nE; rw [z32]; rfl
  refine ok_itr2 (fun n x s => n = (41 - x.toInt).toNat ∧ 0 ≤ x.toInt ∧ x.toInt ≤ (nB σ : Int) ∧ BM s ∧ FR FE_ [] σ s ∧ EDg σ s x.toNatClampNeg x.toNatClampNeg (3 * x.toNatClampNeg)) ?_ (n := (41 - (0 : Int32).toInt).toNat) ⟨rfl, by omega, by omega, by rw [e1]; exact pM_32 hB (by omega), by rw [e1]; exact FR.st FR.rf (by decide), fun e he => by omega, fun e d he => by omega, fun b t hb => absurd hb (Nat.not_lt_zero _), fun b hb => absurd hb (Nat.not_lt_zero _), by omega, fun b hb => absurd hb (Nat.not_lt_zero _)⟩ (by rw [k_0]; decide)
  intro ag n x s I ih
  obtain ⟨hnn, x0, xb, b1, b2, b3⟩ := I
  have cx := clamp_I x0
  have e26 : s.1 26 = σ.1 26 := frE b2 (by decide)
  refine ok_ite (fun c1 => ?_) (fun c1 => ?_)
  · rw [fa_le, e26] at c1
    have xe : x.toNatClampNeg = nB σ := by omega
    rw [xe] at b3
    have nb : nB s = nB σ := by unfold nB; rw [e26]
    have es : ∀ b t, ESU s b t ↔ ESU σ b t := fun b t => ESU.cg (frE b2 (by decide)) (frE b2 (by decide)) (frE b2 (by decide)) (frE b2 (by decide))
    refine ok_ret ⟨b1, b2, ?_⟩
    obtain ⟨h1, h2, h3, h4, h5, h6⟩ := b3
    unfold ED EDg
    rw [nb]
    exact ⟨fun e he => ⟨(h1 e he).1, (h1 e he).2.1, (h1 e he).2.2.imp_left (es _ _).mpr⟩, h2, fun b t hb ht => h3 b t hb ((es _ _).mp ht), h4, by omega, h6⟩
  · rw [fa_le, e26] at c1
    have hb : x.toNatClampNeg < nB σ := by omega
    have xi : 0 ≤ x.toInt ∧ x.toInt < 40 := by omega
    have ex : (x + 1).toInt = x.toInt + 1 := i1 (by omega)
    have nx : (x + 1).toNatClampNeg = x.toNatClampNeg + 1 := by have := clamp_I (x := x + 1) (by omega); omega
    obtain ⟨k1, k2, k3, k4, k5, k6, k7, k8, k9⟩ := hK.at_ hB hQ hb
    have hdl := (k8 (laR σ x.toNatClampNeg) k3 (Nat.le_refl _)).1
    have okl := hQ.ok hB k4 hdl
    have gv0 := gv_0 (sG σ (laR σ x.toNatClampNeg))
    have vg := hQ.2.1 _ k4
    have g9 := gM_9 hB (laR σ x.toNatClampNeg)
    have g10 := gM_10 hB (laR σ x.toNatClampNeg)
    have c23 : (σ.1 23 x.toNatClampNeg).toNatClampNeg = laR σ x.toNatClampNeg := rfl
    have esg : sG σ (laR σ x.toNatClampNeg) = (σ.1 9 (laR σ x.toNatClampNeg)).toInt := rfl
    have enm : nM σ (laR σ x.toNatClampNeg) = (σ.1 10 (laR σ x.toNatClampNeg)).toInt := rfl
    have b3' : EDg σ s x.toNatClampNeg (x.toNatClampNeg + 1) (3 * x.toNatClampNeg) := ⟨fun e he => by have := b3.1 e he; exact ⟨by omega, this.2⟩, b3.2⟩
    -- the handler's edge; the next block
    have fin : ∀ t : Sto, BM t → FR FE_ [] σ t → EDg σ t x.toNatClampNeg (x.toNatClampNeg + 1) (3 * x.toNatClampNeg + 2) → (∀ u, ESU σ x.toNatClampNeg u → ∃ e, e < nE t ∧ eF t e = x.toNatClampNeg ∧ eT t e = u) → (-1 ≤ (t.1 25 x.toNatClampNeg).toInt ∧ (t.1 25 x.toNatClampNeg).toInt < (nB σ : Int)) → OK (ix 40 x <| lt (t.1 25 x.toNatClampNeg) fun v_15 => if v_15 = (-1) then (lt (x + 1) fun x1_17 => ag x1_17 t) else (ix 40 x <| lt (t.1 25 x.toNatClampNeg) fun v_19 => cals (f_X12_laysEdge x v_19 (1 : Int32) t) fun s_20 => lt (x + 1) fun x1_17 => ag x1_17 s_20)) (fun s => BM s ∧ FR FE_ [] σ s ∧ ED s) := by
      intro t t1 t2 t3 t4 t5
      refine ok_ix xi ?_
      refine ok_lt fun v15 e15 => ?_
      refine ok_ite (fun c2 => ?_) (fun c2 => ?_)
      · rw [fa_eq, k_m1, e15] at c2
        refine ok_lt fun x17 e17 => ?_
        subst e17
        obtain ⟨h1, h2, h3, h4, h5, h6⟩ := t3
        refine ih (41 - (x + 1).toInt).toNat (x + 1) t (by rw [hnn, ex]; omega) ⟨rfl, by omega, by omega, t1, t2, ?_⟩
        rw [nx]
        refine ⟨h1, h2, fun b u hb2 hu => ?_, fun b hb2 hu => ?_, by omega, fun b hb2 => ?_⟩
        · by_cases q : b = x.toNatClampNeg
          · subst q; exact t4 u hu
          · exact h3 b u (by omega) hu
        · by_cases q : b = x.toNatClampNeg
          · subst q; exact absurd c2 hu
          · exact h4 b (by omega) hu
        · by_cases q : b = x.toNatClampNeg
          · subst q; exact t5
          · exact h6 b (by omega)
      · rw [fa_eq, k_m1, e15] at c2
        refine ok_ix xi ?_
        refine ok_lt fun v19 e19 => ?_
        subst e19
        have hne := t3.2.2.2.2.1
        refine ok_cals (s_laysEdge (x1 := x) (x2 := t.1 25 x.toNatClampNeg) (x3 := 1) t1 (by omega) (by omega) (Or.inr k_1) (by have := gM_32 t1 0; unfold nE at hne; omega)) (fun s20 w => ?_)
        obtain ⟨w1, w2, w3⟩ := w
        have e25 := w2.1 25 (by decide)
        refine ok_lt fun x17 e17 => ?_
        subst e17
        obtain ⟨h1, h2, h3, h4, h5, h6⟩ := t3.add w3 e25 ⟨by omega, t5.2⟩ (Or.inr k_1)
        refine ih (41 - (x + 1).toInt).toNat (x + 1) s20 (by rw [hnn, ex]; omega) ⟨rfl, by omega, by omega, w1, FR.cal t2 w2 rfl rfl, ?_⟩
        rw [nx]
        refine ⟨h1, h2, fun b u hb2 hu => ?_, fun b hb2 hu => ?_, by omega, fun b hb2 => ?_⟩
        · by_cases q : b = x.toNatClampNeg
          · subst q; exact w3.old (t4 u hu)
          · exact h3 b u (by omega) hu
        · by_cases q : b = x.toNatClampNeg
          · subst q
            obtain ⟨e, q1, q2, q3, q4⟩ := w3.esu
            exact ⟨e, q1, q2, by rw [e25]; exact q3, q4 k_1⟩
          · exact h4 b (by omega) hu
        · by_cases q : b = x.toNatClampNeg
          · subst q; rw [e25]; exact t5
          · exact h6 b (by omega)
    refine ok_ix xi ?_
    rw [frE b2 (show (23 : Nat) < 25 ∨ 23 = 26 ∨ 32 < 23 by decide)]
    refine ok_lt fun v4 e4 => ?_
    subst e4
    refine ok_ix (by omega) ?_
    rw [c23, frE b2 (show (9 : Nat) < 25 ∨ 9 = 26 ∨ 32 < 9 by decide)]
    refine ok_lt fun v5 e5 => ?_
    have e5' : v5.toInt = sG σ (laR σ x.toNatClampNeg) := by rw [e5]; rfl
    refine ok_calp (s_X12_goesOn (x1 := v5) (by rw [e5]; exact g9)) (fun v6 h6 => ?_)
    rw [e5'] at h6
    refine ok_jn ?_
    -- the handlers
    have hand : ∀ t : Sto, BM t → FR FE_ [] σ t → EDg σ t x.toNatClampNeg (x.toNatClampNeg + 1) (3 * x.toNatClampNeg + 2) → (∀ u, ESU σ x.toNatClampNeg u → ∃ e, e < nE t ∧ eF t e = x.toNatClampNeg ∧ eT t e = u) → OK (ix 40 x <| lt (sti t 25 x.toNatClampNeg (((-1) : Int32))) fun s_10 => ix 40 x <| lt (s_10.1 22 x.toNatClampNeg) fun v_11 =>
          itr (fun _ _ => none) (fun (a_96 : Int32 → Sto → Option Sto) (x3_12 : Int32) (s_12 : Sto) => (
            ix 40 x <| lt (s_12.1 23 x.toNatClampNeg) fun v_13 =>
            if v_13 < x3_12 then (
              ix 40 x <| lt (s_12.1 25 x.toNatClampNeg) fun v_15 =>
              jn (fun (s_16 : Sto) => (
                lt (x + 1) fun x1_17 =>
                ag x1_17 s_16
              )) fun k_188 =>
              if v_15 = (-1) then (
                k_188 s_12
              ) else (
                ix 40 x <| lt (s_12.1 25 x.toNatClampNeg) fun v_19 =>
                cals (f_X12_laysEdge x v_19 (1 : Int32) s_12) fun s_20 =>
                k_188 s_20
              )
            ) else (
              calp (f_X12_handlerOf_handler (s_12.1 16 0) x3_12 s_12) fun v_21 =>
              ix 40 x3_12 <| lt (s_12.1 9 x3_12.toNatClampNeg) fun v_22 =>
              calp (f_X12_canThrow v_22) fun v_23 =>
              jn (fun (s_24 : Sto) => (
                lt (x3_12 + 1) fun x3_25 =>
                a_96 x3_25 s_24
              )) fun k_160 =>
              if v_23 = 0 then (
                k_160 s_12
              ) else (
                if v_21 = (-1) then (
                  k_160 s_12
                ) else (
                  ix 9 (((3 : Int32) * v_21) + 2) <| lt (s_12.1 11 (((3 : Int32) * v_21) + 2).toNatClampNeg) fun v_28 =>
                  ix 40 v_28 <| lt (s_12.1 24 v_28.toNatClampNeg) fun v_29 =>
                  ix 40 x <| lt (sti s_12 25 x.toNatClampNeg v_29) fun s_30 =>
                  k_160 s_30
                )
              )
            )
          )) LF v_11 s_10) (fun s => BM s ∧ FR FE_ [] σ s ∧ ED s) := by
      intro t t1 t2 t3 t4
      refine ok_ix xi ?_
      refine ok_lt fun s10 e10 => ?_
      have B10 : BM s10 := by rw [e10]; exact pM_25 t1 (by omega)
      have F10 : FR FE_ [] σ s10 := by rw [e10]; exact FR.st t2 (by decide)
      have E10 : EDg σ s10 x.toNatClampNeg (x.toNatClampNeg + 1) (3 * x.toNatClampNeg + 2) := t3.fr (by rw [e10]; rfl) (by rw [e10]; rfl) (by rw [e10]; rfl) (by rw [e10]; rfl) (fun b hb => by rw [e10, sti_j (by omega)])
      have S10 : ∀ u, ESU σ x.toNatClampNeg u → ∃ e, e < nE s10 ∧ eF s10 e = x.toNatClampNeg ∧ eT s10 e = u := fun u hu => by
        have := t4 u hu
        unfold nE eF eT at this ⊢
        rw [show s10.1 32 = t.1 32 by rw [e10]; rfl, show s10.1 27 = t.1 27 by rw [e10]; rfl, show s10.1 28 = t.1 28 by rw [e10]; rfl]
        exact this
      refine ok_ix xi ?_
      rw [frE F10 (show (22 : Nat) < 25 ∨ 22 = 26 ∨ 32 < 22 by decide)]
      refine ok_lt fun v11 e11 => ?_
      refine ok_itr2 (fun n i u => n = (42 - i.toInt).toNat ∧ (fiR σ x.toNatClampNeg : Int) ≤ i.toInt ∧ i.toInt ≤ (laR σ x.toNatClampNeg : Int) + 1 ∧ BM u ∧ FR FE_ [] σ u ∧ EDg σ u x.toNatClampNeg (x.toNatClampNeg + 1) (3 * x.toNatClampNeg + 2) ∧ (∀ g, ESU σ x.toNatClampNeg g → ∃ e, e < nE u ∧ eF u e = x.toNatClampNeg ∧ eT u e = g) ∧ (-1 ≤ (u.1 25 x.toNatClampNeg).toInt ∧ (u.1 25 x.toNatClampNeg).toInt < (nB σ : Int))) ?_ (n := (42 - v11.toInt).toNat) ⟨rfl, by rw [e11]; omega, by rw [e11]; omega, B10, F10, E10, S10, by rw [e10, sti_s]; omega⟩ (by unfold LF; rw [e11]; omega)
      intro ag2 n2 i u I2 ih2
      obtain ⟨hn2, i0, il, u1, u2, u3, u4, u5⟩ := I2
      have ci := clamp_I (x := i) (by omega)
      refine ok_ix xi ?_
      rw [frE u2 (show (23 : Nat) < 25 ∨ 23 = 26 ∨ 32 < 23 by decide)]
      refine ok_lt fun v13 e13 => ?_
      refine ok_ite (fun c3 => ?_) (fun c3 => ?_)
      · exact fin u u1 u2 u3 u4 u5
      · rw [fa_lt, e13] at c3
        have exi : (i + 1).toInt = i.toInt + 1 := i1 (by omega)
        have g16 := gM_16 hB 0
        have cont : ∀ t : Sto, BM t → FR FE_ [] σ t → EDg σ t x.toNatClampNeg (x.toNatClampNeg + 1) (3 * x.toNatClampNeg + 2) → (∀ g, ESU σ x.toNatClampNeg g → ∃ e, e < nE t ∧ eF t e = x.toNatClampNeg ∧ eT t e = g) → (-1 ≤ (t.1 25 x.toNatClampNeg).toInt ∧ (t.1 25 x.toNatClampNeg).toInt < (nB σ : Int)) → OK (lt (i + 1) fun x3_25 => ag2 x3_25 t) (fun s => BM s ∧ FR FE_ [] σ s ∧ ED s) := fun t t1 t2 t3 t4 t5 => ok_lt fun x25 e25 => by
          subst e25
          exact ih2 (42 - (i + 1).toInt).toNat (i + 1) t (by rw [hn2, exi]; omega) ⟨rfl, by omega, by omega, t1, t2, t3, t4, t5⟩
        have fq : ∀ k, k = 9 ∨ k = 10 ∨ k = 11 ∨ k = 15 ∨ k = 16 ∨ k = 20 ∨ k = 24 → u.1 k = σ.1 k := fun k hk => frE u2 (by omega)
        rw [fq 16 (by decide)]
        refine ok_calp (s_X12_handlerOf_handler (x2 := σ.1 16 0) (x3 := i) u1 g16 (by omega)) (fun v21 h21 => ?_)
        rw [fq 11 (by decide)] at h21
        have g9i := gM_9 hB i.toNatClampNeg
        refine ok_ix (by omega) ?_
        rw [fq 9 (by decide)]
        refine ok_lt fun v22 e22 => ?_
        have e22' : v22.toInt = sG σ i.toNatClampNeg := by rw [e22]; rfl
        refine ok_calp (s_X12_canThrow (x1 := v22) (by rw [e22]; exact g9i)) (fun v23 h23 => ?_)
        rw [e22'] at h23
        refine ok_jn ?_
        refine ok_ite (fun _ => cont u u1 u2 u3 u4 u5) (fun c4 => ?_)
        rw [fa_eq, k_0] at c4
        refine ok_ite (fun _ => cont u u1 u2 u3 u4 u5) (fun c5 => ?_)
        rw [fa_eq, k_m1] at c5
        have h231 := h23.1
        have hct := h23.2.mp (by omega)
        obtain ⟨o1, o2⟩ := h21.2.2 c5
        have r21 := h21.1
        have iN : i.toNatClampNeg < nC σ := by omega
        have hdi := (k8 i.toNatClampNeg (by omega) (by omega)).1
        have oki := (hQ.ok hB iN hdi).2.2.2.2 hct
        have o1' : (hoP (nH σ) (fR σ) (uP σ) i.toNatClampNeg : Int) = v21.toInt := o1
        have lh : hoP (nH σ) (fR σ) (uP σ) i.toNatClampNeg < nH σ := by omega
        have hd1 := oki lh
        have ldp := hQ.2.2.1.2 _ lh
        have c21 := clamp_I (x := v21) (by omega)
        have hv : hoP (nH σ) (fR σ) (uP σ) i.toNatClampNeg = v21.toNatClampNeg := by omega
        rw [hv] at hd1 ldp
        have m21 : (((3 : Int32) * v21) + 2).toInt = 3 * v21.toInt + 2 := by
          have h8 : ((3 : Int32) * v21).toInt = 3 * v21.toInt := by
            have h := fb_mulI (x := 3) (y := v21) (by rw [k_3]; omega) (by rw [k_3]; omega)
            rw [h, k_3]
          have h9 := fb_addI (x := (3 : Int32) * v21) (y := 2) (by omega) (by omega)
          rw [h9, h8, k_2]
        have n21 : (((3 : Int32) * v21) + 2).toNatClampNeg = 3 * v21.toNatClampNeg + 2 := by have := clamp_I (x := ((3 : Int32) * v21) + 2) (by omega); omega
        have eg : gO σ v21.toNatClampNeg = (σ.1 11 (3 * v21.toNatClampNeg + 2)).toInt := rfl
        have g11 := gM_11 hB (3 * v21.toNatClampNeg + 2)
        refine ok_ix (by omega) ?_
        rw [n21, fq 11 (by decide)]
        refine ok_lt fun v28 e28 => ?_
        have c28 := clamp_I (x := v28) (by rw [e28]; omega)
        have gn : (gO σ v21.toNatClampNeg).toNat = v28.toNatClampNeg := by rw [e28] at c28 ⊢; omega
        rw [gn] at hd1
        have hj : v28.toNatClampNeg < nC σ := by rw [e28] at c28 ⊢; omega
        have oo := hK.of_ hB hQ hj (by rw [hd1]; decide)
        refine ok_ix (by rw [e28]; omega) ?_
        rw [fq 24 (by decide)]
        refine ok_lt fun v29 e29 => ?_
        refine ok_ix xi ?_
        refine ok_lt fun s30 e30 => ?_
        refine cont s30 (by rw [e30]; exact pM_25 u1 (by rw [e29]; omega)) (by rw [e30]; exact FR.st u2 (by decide)) (u3.fr (by rw [e30]; rfl) (by rw [e30]; rfl) (by rw [e30]; rfl) (by rw [e30]; rfl) (fun b hb => by rw [e30, sti_j (by omega)])) (fun g hg => ?_) (by rw [e30, sti_s, e29]; omega)
        have := u4 g hg
        unfold nE eF eT at this ⊢
        rw [show s30.1 32 = u.1 32 by rw [e30]; rfl, show s30.1 27 = u.1 27 by rw [e30]; rfl, show s30.1 28 = u.1 28 by rw [e30]; rfl]
        exact this
    -- where it goes
    have goes : ∀ t : Sto, BM t → FR FE_ [] σ t → EDg σ t x.toNatClampNeg (x.toNatClampNeg + 1) (3 * x.toNatClampNeg + 1) → (gOnI (sG σ (laR σ x.toNatClampNeg)) → ∃ e, e < nE t ∧ eF t e = x.toNatClampNeg ∧ eT t e = (σ.1 24 (laR σ x.toNatClampNeg + 1)).toInt) → ∀ K : Sto → Option Sto, (∀ s9 : Sto, BM s9 → FR FE_ [] σ s9 → EDg σ s9 x.toNatClampNeg (x.toNatClampNeg + 1) (3 * x.toNatClampNeg + 2) → (∀ u, ESU σ x.toNatClampNeg u → ∃ e, e < nE s9 ∧ eF s9 e = x.toNatClampNeg ∧ eT s9 e = u) → OK (K s9) (fun s => BM s ∧ FR FE_ [] σ s ∧ ED s)) → OK (calp (f_X12_goesTo v5) fun v_8 => jn K fun k_82 => if v_8 = 0 then (k_82 t) else (ix 40 x <| lt (t.1 23 x.toNatClampNeg) fun v_32 => ix 40 v_32 <| lt (t.1 10 v_32.toNatClampNeg) fun v_33 => ix 40 v_33 <| lt (t.1 24 v_33.toNatClampNeg) fun v_34 => cals (f_X12_laysEdge x v_34 (0 : Int32) t) fun s_35 => k_82 s_35)) (fun s => BM s ∧ FR FE_ [] σ s ∧ ED s) := by
      intro t t1 t2 t3 t4 K hKK
      refine ok_calp (s_X12_goesTo (x1 := v5) (by rw [e5]; exact g9)) (fun v8 h8 => ?_)
      rw [e5'] at h8
      refine ok_jn ?_
      refine ok_ite (fun c2 => ?_) (fun c2 => ?_)
      · rw [fa_eq, k_0] at c2
        refine hKK t t1 t2 ⟨t3.1, t3.2.1, t3.2.2.1, t3.2.2.2.1, by have := t3.2.2.2.2.1; omega, t3.2.2.2.2.2⟩ (fun u hu => ?_)
        rcases hu with ⟨q1, q2⟩ | ⟨q1, q2⟩
        · rw [q2]; exact t4 q1
        · have := h8.2.mpr q1; omega
      · rw [fa_eq, k_0] at c2
        have h81 := h8.1
        have hg := h8.2.mp (by omega)
        have ld := hQ.2.2.1.1 _ k4 hg
        have hd2 := okl.2.2.2.1 hg
        have nd := okl.1
        have hj : (nM σ (laR σ x.toNatClampNeg)).toNat < nC σ := by omega
        have oo := hK.of_ hB hQ hj (by omega)
        refine ok_ix xi ?_
        rw [frE t2 (show (23 : Nat) < 25 ∨ 23 = 26 ∨ 32 < 23 by decide)]
        refine ok_lt fun v32 e32 => ?_
        subst e32
        refine ok_ix (by omega) ?_
        rw [c23, frE t2 (show (10 : Nat) < 25 ∨ 10 = 26 ∨ 32 < 10 by decide)]
        refine ok_lt fun v33 e33 => ?_
        subst e33
        have c10 : (σ.1 10 (laR σ x.toNatClampNeg)).toNatClampNeg = (nM σ (laR σ x.toNatClampNeg)).toNat := rfl
        refine ok_ix (by omega) ?_
        rw [c10, frE t2 (show (24 : Nat) < 25 ∨ 24 = 26 ∨ 32 < 24 by decide)]
        refine ok_lt fun v34 e34 => ?_
        subst e34
        have hne := t3.2.2.2.2.1
        refine ok_cals (s_laysEdge (x1 := x) (x2 := σ.1 24 (nM σ (laR σ x.toNatClampNeg)).toNat) (x3 := 0) t1 (by omega) (by omega) (Or.inl k_0) (by have := gM_32 t1 0; unfold nE at hne; omega)) (fun s35 w => ?_)
        obtain ⟨w1, w2, w3⟩ := w
        refine hKK s35 w1 (FR.cal t2 w2 rfl rfl) (t3.add w3 (w2.1 25 (by decide)) oo (Or.inl (Or.inr ⟨hg, rfl⟩))) (fun u hu => ?_)
        rcases hu with ⟨q1, q2⟩ | ⟨q1, q2⟩
        · rw [q2]; exact w3.old (t4 q1)
        · rw [q2]
          obtain ⟨e, r1, r2, r3, -⟩ := w3.esu
          exact ⟨e, r1, r2, r3⟩
    refine ok_ite (fun c2 => ?_) (fun c2 => ?_)
    · rw [fa_eq, k_0] at c2
      refine goes s b1 b2 ⟨b3'.1, b3'.2.1, b3'.2.2.1, b3'.2.2.2.1, by have := b3'.2.2.2.2.1; omega, b3'.2.2.2.2.2⟩ (fun z => by have := h6.2.mpr z; omega) _ (fun s9 r1 r2 r3 r4 => ?_)
      exact hand s9 r1 r2 r3 r4
    · rw [fa_eq, k_0] at c2
      have h61 := h6.1
      have hg := h6.2.mp (by omega)
      have ok3 := okl.2.2.1 hg
      have nd := okl.1
      have oo := hK.of_ hB hQ ok3.1 (by rw [ok3.2]; omega)
      refine ok_ix xi ?_
      refine ok_lt fun v37 e37 => ?_
      subst e37
      have ei : ((σ.1 23 x.toNatClampNeg) + 1).toInt = (σ.1 23 x.toNatClampNeg).toInt + 1 := i1 (by omega)
      have en : ((σ.1 23 x.toNatClampNeg) + 1).toNatClampNeg = laR σ x.toNatClampNeg + 1 := by have := clamp_I (x := (σ.1 23 x.toNatClampNeg) + 1) (by omega); omega
      refine ok_ix (by omega) ?_
      rw [en, frE b2 (show (24 : Nat) < 25 ∨ 24 = 26 ∨ 32 < 24 by decide)]
      refine ok_lt fun v38 e38 => ?_
      subst e38
      have hne := b3'.2.2.2.2.1
      refine ok_cals (s_laysEdge (x1 := x) (x2 := σ.1 24 (laR σ x.toNatClampNeg + 1)) (x3 := 0) b1 (by omega) (by omega) (Or.inl k_0) (by have := gM_32 b1 0; unfold nE at hne; omega)) (fun s39 w => ?_)
      obtain ⟨w1, w2, w3⟩ := w
      refine goes s39 w1 (FR.cal b2 w2 rfl rfl) (b3'.add w3 (w2.1 25 (by decide)) oo (Or.inl (Or.inl ⟨hg, rfl⟩))) (fun _ => ?_) _ (fun s9 r1 r2 r3 r4 => ?_)
      · obtain ⟨e, r1, r2, r3, -⟩ := w3.esu
        exact ⟨e, r1, r2, r3⟩
      · exact hand s9 r1 r2 r3 r4
