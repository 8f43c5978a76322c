theorem RW.zero {σ : Sto} {d : Nat} : RW σ d 0 := fun _ p _ => p
theorem RW.st {σ : Sto} {d e : Nat} (h : RW σ d (eA σ e)) (he : KP σ e) (hd : eB σ e ≠ d) : RW σ d (eB σ e) := fun P p1 p2 => p2 e he (h P p1 p2) hd
theorem dom_tot {σ : Sto} (hG : GAl σ) (hD : DOM σ σ) {a d b : Nat} (ha : a < nB σ) (hd : d < nB σ) (hb : b < nB σ) (h1 : bL (σ.2 0 b) a = true) (h2 : bL (σ.2 0 b) d = true) : bL (σ.2 0 d) a = true ∨ bL (σ.2 0 a) d = true := by
  rw [hD d hd a ha, hD a ha d hd]
  have h1 := (hD b hb a ha).mp h1
  have h2 := (hD b hb d hd).mp h2
  by_cases z1 : RW σ a d
  · by_cases z2 : RW σ d a
    · by_cases a0 : a = 0
      · exact Or.inl (Or.inl a0)
      · by_cases d0 : d = 0
        · exact Or.inr (Or.inl d0)
        · exfalso
          have := hG b hb (fun x => RW σ a x ∨ RW σ d x) (Or.inl RW.zero) (fun e he hP => by
            by_cases q1 : eB σ e = a
            · rw [q1]; exact Or.inr z2
            · by_cases q2 : eB σ e = d
              · rw [q2]; exact Or.inl z1
              · exact hP.imp (fun w => w.st he q1) (fun w => w.st he q2))
          rcases this with w | w
          · exact (h1.resolve_left a0) w
          · exact (h2.resolve_left d0) w
    · exact Or.inr (Or.inr z2)
  · exact Or.inl (Or.inr z1)
theorem dom_tr {σ : Sto} (hD : DOM σ σ) {a d b : Nat} (ha : a < nB σ) (hd : d < nB σ) (hb : b < nB σ) (h1 : bL (σ.2 0 b) a = true) (h2 : bL (σ.2 0 a) d = true) : bL (σ.2 0 b) d = true := by
  rw [hD b hb d hd]
  have h1 := (hD b hb a ha).mp h1
  have h2 := (hD a ha d hd).mp h2
  by_cases d0 : d = 0
  · exact Or.inl d0
  · have n2 := h2.resolve_left d0
    by_cases a0 : a = 0
    · rw [a0] at n2; exact absurd RW.zero n2
    · have n1 := h1.resolve_left a0
      refine Or.inr (fun w => n1 ?_)
      have := w (fun x => RW σ a x ∧ RW σ d x) ⟨RW.zero, RW.zero⟩ (fun e he hP hne => by
        have r := hP.2.st he hne
        refine ⟨hP.1.st he (fun q => ?_), r⟩
        rw [q] at r; exact n2 r)
      exact this.1
theorem dom_rf {σ : Sto} (hD : DOM σ σ) {b : Nat} (hb : b < nB σ) : bL (σ.2 0 b) b = true := by
  rw [hD b hb b hb]
  by_cases b0 : b = 0
  · exact Or.inl b0
  · refine Or.inr (fun w => ?_)
    exact w (fun x => x ≠ b) (fun q => b0 q.symm) (fun e _ _ hne => hne) rfl
theorem dom_0 {σ : Sto} (hD : DOM σ σ) {d : Nat} (h0 : 0 < nB σ) (hd : d < nB σ) (h : bL (σ.2 0 0) d = true) : d = 0 := by
  rcases (hD 0 h0 d hd).mp h with w | w
  · exact w
  · exact absurd RW.zero w
/-- above: the nearest -/
def ABV (s : Sto) : Prop := (s.1 34 0).toInt = -1 ∧ ∀ b, b < nB s → b ≠ 0 → ∃ a, a < nB s ∧ (s.1 34 b).toInt = a ∧ a ≠ b ∧ bL (s.2 0 b) a = true ∧ ∀ d, d < nB s → d ≠ b → bL (s.2 0 b) d = true → bL (s.2 0 a) d = true
theorem s_laysAbove {σ : Sto} (hB : BM σ) : OK (f_X12_laysAbove σ) (fun s => BM s ∧ FR [34] [] σ s ∧ (∀ b, b < nB σ → -1 ≤ (s.1 34 b).toInt ∧ (s.1 34 b).toInt < (nB σ : Int)) ∧ (GD σ → 1 ≤ nB σ → ABV s)) := by
  have k_0 : (0 : Int32).toInt = 0 := by decide +kernel
  have k_m1 : ((-1) : Int32).toInt = -1 := by decide +kernel
  have hn := nB_le hB
  unfold f_X12_laysAbove
  -- what is known of a block's row
  have fin : ∀ s : Sto, FR [34] [] σ s → BM s → (∀ b, b < nB σ → ((s.1 34 b).toInt = -1 ∧ ∀ d, d < nB σ → d ≠ b → bL (σ.2 0 b) d = false) ∨ (∃ a, a < nB σ ∧ (s.1 34 b).toInt = a ∧ a ≠ b ∧ bL (σ.2 0 b) a = true ∧ (GD σ → ∀ d, d < nB σ → d ≠ b → bL (σ.2 0 b) d = true → bL (σ.2 0 a) d = true))) → OK (some s) (fun s => BM s ∧ FR [34] [] σ s ∧ (∀ b, b < nB σ → -1 ≤ (s.1 34 b).toInt ∧ (s.1 34 b).toInt < (nB σ : Int)) ∧ (GD σ → 1 ≤ nB σ → ABV s)) := by
    intro s hFR hBs h
    refine ok_ret ⟨hBs, hFR, fun b hb => ?_, fun hG h1 => ⟨?_, fun b hb b0 => ?_⟩⟩
    · rcases h b hb with ⟨w, -⟩ | ⟨a, w1, w2, -⟩ <;> omega
    · rcases h 0 (by omega) with ⟨w, -⟩ | ⟨a, w1, w2, w3, w4, -⟩
      · exact w
      · exact absurd (dom_0 hG.2.1 (by omega) w1 w4) w3
    · have nb : nB s = nB σ := by unfold nB; rw [hFR.1 26 (by decide)]
      rw [nb] at hb ⊢
      rw [hFR.2 0 (by decide)]
      rcases h b hb with ⟨w, w2⟩ | ⟨a, w1, w2, w3, w4, w5⟩
      · have := w2 0 (by omega) (fun q => b0 q.symm)
        rw [(hG.2.1 b hb 0 (by omega)).mpr (Or.inl rfl)] at this
        exact absurd this (by decide)
      · exact ⟨a, w1, w2, w3, w4, w5 hG⟩
  refine ok_itr2 (fun n x s => n = (41 - x.toInt).toNat ∧ 0 ≤ x.toInt ∧ x.toInt ≤ (nB σ : Int) ∧ BM s ∧ FR [34] [] σ s ∧ ∀ b : Nat, (b : Int) < x.toInt → ((s.1 34 b).toInt = -1 ∧ ∀ d, d < nB σ → d ≠ b → bL (σ.2 0 b) d = false) ∨ (∃ a, a < nB σ ∧ (s.1 34 b).toInt = a ∧ a ≠ b ∧ bL (σ.2 0 b) a = true ∧ (GD σ → ∀ d, d < nB σ → d ≠ b → bL (σ.2 0 b) d = true → bL (σ.2 0 a) d = true))) ?_ (n := (41 - (0 : Int32).toInt).toNat) ⟨rfl, by omega, by omega, hB, FR.rf, fun b hb => by omega⟩ (by rw [k_0]; decide)
  intro ag n x s I ih
  obtain ⟨hnn, x0, xb, b1, b2, b3⟩ := I
  have cx := clamp_I x0
  have q26 := b2.1 26 (by decide)
  refine ok_ite (fun c1 => ?_) (fun c1 => ?_)
  · rw [fa_le, q26] at c1
    exact fin s b2 b1 (fun b hb => b3 b (by omega))
  · rw [fa_le, q26] at c1
    have xi : 0 ≤ x.toInt ∧ x.toInt < 40 := by omega
    have hb : x.toNatClampNeg < nB σ := by omega
    have ex : (x + 1).toInt = x.toInt + 1 := i1 (by omega)
    refine ok_ix xi ?_
    refine ok_lt fun s3 e3 => ?_
    have e3' : ∀ j, s3.1 34 j = if j = x.toNatClampNeg then (-1) else s.1 34 j := fun j => by rw [e3, sti_if]
    refine ok_itr2 (fun n d t => n = (41 - d.toInt).toNat ∧ 0 ≤ d.toInt ∧ d.toInt ≤ (nB σ : Int) ∧ BM t ∧ FR [34] [] σ t ∧ (∀ b : Nat, (b : Int) < x.toInt → t.1 34 b = s.1 34 b) ∧ (((t.1 34 x.toNatClampNeg).toInt = -1 ∧ ∀ c : Nat, (c : Int) < d.toInt → c ≠ x.toNatClampNeg → bL (σ.2 0 x.toNatClampNeg) c = false) ∨ (∃ a, a < nB σ ∧ (t.1 34 x.toNatClampNeg).toInt = a ∧ a ≠ x.toNatClampNeg ∧ bL (σ.2 0 x.toNatClampNeg) a = true ∧ (GD σ → ∀ c : Nat, (c : Int) < d.toInt → c ≠ x.toNatClampNeg → bL (σ.2 0 x.toNatClampNeg) c = true → bL (σ.2 0 a) c = true)))) ?_ (n := (41 - (0 : Int32).toInt).toNat) ⟨rfl, by omega, by omega, by rw [e3]; exact pM_34 b1 (by omega), by rw [e3]; exact FR.st b2 (by decide), fun b hb => by rw [e3', if_neg (by omega)], Or.inl ⟨by rw [e3', if_pos rfl]; exact k_m1, fun c hc => by omega⟩⟩ (by rw [k_0]; decide)
    intro ag2 n2 d t I2 ih2
    obtain ⟨hn2, d0, db, t1, t2, t3, t4⟩ := I2
    have cd := clamp_I d0
    have p26 := t2.1 26 (by decide)
    have pl0 := t2.2 0 (by decide)
    refine ok_ite (fun c2 => ?_) (fun c2 => ?_)
    · rw [fa_le, p26] at c2
      refine ok_lt fun x6 e6 => ?_
      subst e6
      refine ih (41 - (x + 1).toInt).toNat (x + 1) t (by rw [hnn, ex]; omega) ⟨rfl, by omega, by omega, t1, t2, fun b hb => ?_⟩
      by_cases q : b = x.toNatClampNeg
      · rw [q]
        rcases t4 with ⟨w1, w2⟩ | ⟨a, w1, w2, w3, w4, w5⟩
        · exact Or.inl ⟨w1, fun c hc => w2 c (by omega)⟩
        · exact Or.inr ⟨a, w1, w2, w3, w4, fun hG c hc => w5 hG c (by omega)⟩
      · rw [t3 b (by omega)]; exact b3 b (by omega)
    · rw [fa_le, p26] at c2
      have exd : (d + 1).toInt = d.toInt + 1 := i1 (by omega)
      have hdn : d.toNatClampNeg < nB σ := by omega
      have di : 0 ≤ d.toInt ∧ d.toInt ≤ 39 := by omega
      have m1 : (41 - (d + 1).toInt).toNat < n2 := by rw [hn2, exd]; omega
      have m2 : 0 ≤ (d + 1).toInt ∧ (d + 1).toInt ≤ (nB σ : Int) := by rw [exd]; omega
      have cont : ∀ u : Sto, BM u → FR [34] [] σ u → (∀ b : Nat, (b : Int) < x.toInt → u.1 34 b = s.1 34 b) → (((u.1 34 x.toNatClampNeg).toInt = -1 ∧ ∀ c : Nat, (c : Int) < d.toInt + 1 → c ≠ x.toNatClampNeg → bL (σ.2 0 x.toNatClampNeg) c = false) ∨ (∃ a, a < nB σ ∧ (u.1 34 x.toNatClampNeg).toInt = a ∧ a ≠ x.toNatClampNeg ∧ bL (σ.2 0 x.toNatClampNeg) a = true ∧ (GD σ → ∀ c : Nat, (c : Int) < d.toInt + 1 → c ≠ x.toNatClampNeg → bL (σ.2 0 x.toNatClampNeg) c = true → bL (σ.2 0 a) c = true))) → OK (lt (d + 1) fun x2_8 => ag2 x2_8 u) _ := fun u u1 u2 u3 u4 => ok_lt fun x8 e8 => by
        subst e8
        exact ih2 (41 - (d + 1).toInt).toNat (d + 1) u m1 ⟨rfl, m2.1, m2.2, u1, u2, u3, by rw [exd]; exact u4⟩
      -- it is no other one that dominates
      have skip : (d.toNatClampNeg = x.toNatClampNeg ∨ bL (σ.2 0 x.toNatClampNeg) d.toNatClampNeg = false) → OK (lt (d + 1) fun x2_8 => ag2 x2_8 t) _ := fun hs => cont t t1 t2 t3 (by
        rcases t4 with ⟨w1, w2⟩ | ⟨a, w1, w2, w3, w4, w5⟩
        · refine Or.inl ⟨w1, fun c hc hne => ?_⟩
          by_cases q : c = d.toNatClampNeg
          · rw [q] at hne ⊢; exact hs.resolve_left hne
          · exact w2 c (by omega) hne
        · refine Or.inr ⟨a, w1, w2, w3, w4, fun hG c hc hne hc2 => ?_⟩
          by_cases q : c = d.toNatClampNeg
          · rw [q] at hne hc2
            rw [hs.resolve_left hne] at hc2; exact absurd hc2 (by decide)
          · exact w5 hG c (by omega) hne hc2)
      refine ok_jn ?_
      refine ok_ite (fun c3 => ?_) (fun c3 => ?_)
      · rw [fa_eq] at c3
        exact skip (Or.inl (by omega))
      · rw [fa_eq] at c3
        have hne : d.toNatClampNeg ≠ x.toNatClampNeg := by omega
        refine ok_ix xi ?_
        rw [pl0]
        refine ok_lt fun v10 e10 => ?_
        subst e10
        refine ok_calp (s_has (v := d) di) (fun v11 h11 => ?_)
        refine ok_ite (fun c4 => ?_) (fun c4 => ?_)
        · rw [fa_eq, k_0] at c4
          exact skip (Or.inr (bf (fun z => by have := h11.2.mpr z; omega)))
        · rw [fa_eq, k_0] at c4
          have h111 := h11.1
          have hd := h11.2.mp (by omega)
          refine ok_ix xi ?_
          refine ok_lt fun v13 e13 => ?_
          -- it is the nearer one
          have take : (GD σ → ∀ c : Nat, (c : Int) < d.toInt → c ≠ x.toNatClampNeg → bL (σ.2 0 x.toNatClampNeg) c = true → bL (σ.2 0 d.toNatClampNeg) c = true) → OK (ix 40 x <| lt (sti t 34 x.toNatClampNeg d) fun s_15 => lt (d + 1) fun x2_8 => ag2 x2_8 s_15) (fun s => BM s ∧ FR [34] [] σ s ∧ (∀ b, b < nB σ → -1 ≤ (s.1 34 b).toInt ∧ (s.1 34 b).toInt < (nB σ : Int)) ∧ (GD σ → 1 ≤ nB σ → ABV s)) := fun hs => by
            refine ok_ix xi ?_
            refine ok_lt fun s15 e15 => ?_
            refine cont s15 (by rw [e15]; exact pM_34 t1 (by omega)) (by rw [e15]; exact FR.st t2 (by decide)) (fun b hb => by rw [e15, sti_j (by omega)]; exact t3 b hb) (Or.inr ⟨d.toNatClampNeg, hdn, by rw [e15, sti_s]; omega, hne, hd, fun hG c hc hcn hc2 => ?_⟩)
            by_cases q : c = d.toNatClampNeg
            · rw [q]; exact dom_rf hG.2.1 hdn
            · exact hs hG c (by omega) hcn hc2
          refine ok_jn ?_
          refine ok_ite (fun c5 => ?_) (fun c5 => ?_)
          · rw [fa_eq, k_m1, e13] at c5
            refine take (fun hG c hc hcn hc2 => ?_)
            rcases t4 with ⟨w1, w2⟩ | ⟨a, w1, w2, -⟩
            · rw [w2 c hc hcn] at hc2; exact absurd hc2 (by decide)
            · omega
          · rw [fa_eq, k_m1, e13] at c5
            rcases t4 with ⟨w1, w2⟩ | ⟨a, w1, w2, w3, w4, w5⟩
            · exact absurd w1 c5
            · have g34 := gM_34 t1 x.toNatClampNeg
              have ca := clamp_I (x := t.1 34 x.toNatClampNeg) (by omega)
              have na : (t.1 34 x.toNatClampNeg).toNatClampNeg = a := by omega
              refine ok_ix (by omega) ?_
              refine ok_lt fun v17 e17 => ?_
              subst e17
              refine ok_ix xi ?_
              refine ok_lt fun v18 e18 => ?_
              subst e18
              refine ok_calp (s_has (v := t.1 34 x.toNatClampNeg) (by omega)) (fun v19 h19 => ?_)
              rw [na] at h19
              refine ok_ite (fun c6 => ?_) (fun c6 => ?_)
              · rw [fa_eq, k_0] at c6
                have nd : ¬ bL (σ.2 0 d.toNatClampNeg) a = true := fun z => by have := h19.2.mpr z; omega
                refine cont t t1 t2 t3 (Or.inr ⟨a, w1, w2, w3, w4, fun hG c hc hcn hc2 => ?_⟩)
                by_cases q : c = d.toNatClampNeg
                · rw [q]
                  exact (dom_tot hG.1 hG.2.1 w1 hdn hb w4 hd).resolve_left nd
                · exact w5 hG c (by omega) hcn hc2
              · rw [fa_eq, k_0] at c6
                have h191 := h19.1
                have hda := h19.2.mp (by omega)
                exact take (fun hG c hc hcn hc2 => dom_tr hG.2.1 w1 (by omega) hdn hda (w5 hG c hc hcn hc2))
theorem s_comeTo {σ : Sto} {x1 x2 : Int32} (hB : BM σ) (hx : 0 ≤ x1.toInt ∧ x1.toInt ≤ 39) : OK (f_X12_comeTo x1 x2 σ) (fun _ => True) := by
  have k_0 : (0 : Int32).toInt = 0 := by decide +kernel
  have k_1 : (1 : Int32).toInt = 1 := by decide +kernel
  have hE := nE_le hB
  unfold f_X12_comeTo
  refine ok_lt fun S0 e0 => ?_
  have main : ∀ g0 : Int32, (g0.toInt = 0 ∨ g0.toInt = 1) → OK (itr (fun _ _ => none) (fun (a_16 : Int64 → Int32 → Option Int64) (x3_3 : Int64) (x5_3 : Int32) => (
      if x5_3 = 0 then (
        some x3_3
      ) else (
        itr (fun _ _ _ => none) (fun (a_27 : Int64 → Int32 → Int32 → Option Int64) (x3_5 : Int64) (x5_5 : Int32) (x6_5 : Int32) => (
          if (σ.1 32 0) ≤ x6_5 then (
            a_16 x3_5 x5_5
          ) else (
            ix 120 x6_5 <| lt (σ.1 30 x6_5.toNatClampNeg) fun v_7 =>
            jn (fun (x3_8 : Int64) (x5_8 : Int32) => (
              lt (x6_5 + 1) fun x6_9 =>
              a_27 x3_8 x5_8 x6_9
            )) fun k_103 =>
            if v_7 = 0 then (
              ix 120 x6_5 <| lt (σ.1 28 x6_5.toNatClampNeg) fun v_11 =>
              calp (f_X12_has x3_5 v_11) fun v_12 =>
              if v_12 = 0 then (
                k_103 x3_5 x5_5
              ) else (
                ix 120 x6_5 <| lt (σ.1 27 x6_5.toNatClampNeg) fun v_14 =>
                calp (f_X12_has x3_5 v_14) fun v_15 =>
                if v_15 = 0 then (
                  ix 120 x6_5 <| lt (σ.1 27 x6_5.toNatClampNeg) fun v_17 =>
                  if v_17 = x2 then (
                    k_103 x3_5 x5_5
                  ) else (
                    ix 120 x6_5 <| lt (σ.1 27 x6_5.toNatClampNeg) fun v_19 =>
                    lt (x3_5 ||| ((1 : Int64) <<< (v_19.toInt64 &&& 63))) fun x3_20 =>
                    k_103 x3_20 (1 : Int32)
                  )
                ) else (
                  k_103 x3_5 x5_5
                )
              )
            ) else (
              k_103 x3_5 x5_5
            )
          )
        )) LF x3_3 (0 : Int32) (0 : Int32)
      )
    )) LF S0 g0) (fun _ => True) := by
    intro g0 hg0
    refine ok_itr2 (fun n S g => n = 2 * (65 - fb_ct (bL S) 64) + g.toInt.toNat ∧ (g.toInt = 0 ∨ g.toInt = 1)) ?_ (n := 2 * (65 - fb_ct (bL S0) 64) + g0.toInt.toNat) ⟨rfl, hg0⟩ (by unfold LF; omega)
    intro ag n S g I ih
    obtain ⟨hn, h01⟩ := I
    refine ok_ite (fun _ => ok_ret trivial) (fun c1 => ?_)
    rw [fa_eq, k_0] at c1
    have hct := fb_ct_le (bL S) 64
    refine ok_itr3 (fun n T f e => n = (121 - e.toInt).toNat ∧ 0 ≤ e.toInt ∧ e.toInt ≤ 120 ∧ (f.toInt = 0 ∨ f.toInt = 1) ∧ (f.toInt = 0 → T = S) ∧ (f.toInt = 1 → fb_ct (bL S) 64 + 1 ≤ fb_ct (bL T) 64)) ?_ (n := (121 - (0 : Int32).toInt).toNat) ⟨rfl, by omega, by omega, Or.inl k_0, fun _ => rfl, fun z => by omega⟩ (by rw [k_0]; decide)
    intro ag2 n2 T f e I2 ih2
    obtain ⟨hn2, a0, aE, f01, a3, a4⟩ := I2
    have ce := clamp_I a0
    have hctT := fb_ct_le (bL T) 64
    refine ok_ite (fun c2 => ?_) (fun c2 => ?_)
    · refine ih (2 * (65 - fb_ct (bL T) 64) + f.toInt.toNat) T f ?_ ⟨rfl, f01⟩
      rcases f01 with z | z
      · rw [hn, a3 z]; omega
      · have := a4 z; omega
    · rw [fa_le] at c2
      have ie : 0 ≤ e.toInt ∧ e.toInt < 120 := by omega
      have ex : (e + 1).toInt = e.toInt + 1 := i1 (by omega)
      have g27 := gM_27 hB e.toNatClampNeg
      have g28 := gM_28 hB e.toNatClampNeg
      have skip : OK (lt (e + 1) fun x7_8 => ag2 T f x7_8) (fun _ => True) := ok_lt fun x8 e8 => by
        subst e8
        exact ih2 (121 - (e + 1).toInt).toNat T f (e + 1) (by rw [hn2, ex]; omega) ⟨rfl, by omega, by omega, f01, a3, a4⟩
      refine ok_ix ie ?_
      refine ok_lt fun v7 e7 => ?_
      refine ok_jn ?_
      refine ok_ite (fun c3 => ?_) (fun _ => skip)
      refine ok_ix ie ?_
      refine ok_lt fun v11 e11 => ?_
      subst e11
      refine ok_calp (s_has (x := T) g28) (fun v12 h12 => ?_)
      refine ok_ite (fun _ => skip) (fun c4 => ?_)
      refine ok_ix ie ?_
      refine ok_lt fun v14 e14 => ?_
      subst e14
      refine ok_calp (s_has (x := T) g27) (fun v15 h15 => ?_)
      refine ok_ite (fun c5 => ?_) (fun _ => skip)
      rw [fa_eq, k_0] at c5
      have hf : bL T (eA σ e.toNatClampNeg) = false := bf (fun z => by have := h15.2.mpr z; omega)
      refine ok_ix ie ?_
      refine ok_lt fun v17 e17 => ?_
      refine ok_ite (fun _ => skip) (fun _ => ?_)
      refine ok_ix ie ?_
      refine ok_lt fun v19 e19 => ?_
      subst e19
      refine ok_lt fun T2 eT2 => ?_
      refine ok_lt fun x8 e8 => ?_
      subst e8
      have ct := set_ct (x := T) (v := σ.1 27 e.toNatClampNeg) (n := 64) g27.1 (by omega) (by have := (e39 hB e.toNatClampNeg).1; unfold eA at this; omega) hf
      rw [← eT2] at ct
      refine ih2 (121 - (e + 1).toInt).toNat T2 1 (e + 1) (by rw [hn2, ex]; omega) ⟨rfl, by omega, by omega, Or.inr k_1, fun z => by omega, fun _ => ?_⟩
      rcases f01 with z | z
      · rw [a3 z] at ct; omega
      · have := a4 z; omega
  refine ok_jn ?_
  exact ok_ite (fun _ => main 0 (Or.inl k_0)) (fun _ => main 1 (Or.inr k_1))
/-- a block that an edge comes back to is a loop -/
def LPS (s : Sto) : Prop := ∀ e, e < nE s → (s.1 31 e).toInt ≠ 0 → s.2 1 (eB s e) ≠ 0
theorem s_laysLoops {σ : Sto} (hB : BM σ) (hF : EFI σ) : OK (f_X12_laysLoops σ) (fun s => BM s ∧ FR [] [1] σ s ∧ LPS s) := by
  have k_0 : (0 : Int32).toInt = 0 := by decide +kernel
  have hn := nB_le hB
  have hE := nE_le hB
  unfold f_X12_laysLoops
  refine ok_itr2 (fun n x s => n = (41 - x.toInt).toNat ∧ 0 ≤ x.toInt ∧ x.toInt ≤ (nB σ : Int) ∧ BM s ∧ FR [] [1] σ s ∧ ∀ e, e < nE σ → (eB σ e : Int) < x.toInt → (σ.1 31 e).toInt ≠ 0 → s.2 1 (eB σ e) ≠ 0) ?_ (n := (41 - (0 : Int32).toInt).toNat) ⟨rfl, by omega, by omega, hB, FR.rf, fun e _ he => by omega⟩ (by rw [k_0]; decide)
  intro ag n x s I ih
  obtain ⟨hnn, x0, xb, b1, b2, b3⟩ := I
  have cx := clamp_I x0
  have sr : s.1 = σ.1 := funext (fun k => b2.1 k (by simp))
  refine ok_ite (fun c1 => ?_) (fun c1 => ?_)
  · rw [fa_le, sr] at c1
    refine ok_ret ⟨b1, b2, fun e he hb => ?_⟩
    unfold nE at he
    unfold eB
    rw [sr] at he hb ⊢
    have he' : e < nE σ := he
    exact b3 e he' (by have := (hF e he').2; omega) hb
  · rw [fa_le, sr] at c1
    have xi : 0 ≤ x.toInt ∧ x.toInt < 40 := by omega
    have ex : (x + 1).toInt = x.toInt + 1 := i1 (by omega)
    refine ok_ix xi ?_
    refine ok_lt fun s3 e3 => ?_
    refine ok_itr2 (fun n e t => n = (122 - e.toInt).toNat ∧ 0 ≤ e.toInt ∧ e.toInt ≤ 120 ∧ BM t ∧ FR [] [1] σ t ∧ (∀ b, b ≠ x.toNatClampNeg → t.2 1 b = s.2 1 b) ∧ ∀ c : Nat, (c : Int) < e.toInt → eB σ c = x.toNatClampNeg → (σ.1 31 c).toInt ≠ 0 → bL (t.2 1 x.toNatClampNeg) x.toNatClampNeg = true) ?_ (n := (122 - (0 : Int32).toInt).toNat) ⟨rfl, by omega, by omega, by rw [e3]; exact BD.stl b1, by rw [e3]; exact FR.stl b2 (by decide), fun b hb => by rw [e3, stl_if, if_neg hb], fun c hc => by omega⟩ (by rw [k_0]; decide)
    intro ag2 n2 e t I2 ih2
    obtain ⟨hn2, e0, e120, t1, t2, t3, t4⟩ := I2
    have ce := clamp_I e0
    have tr : t.1 = σ.1 := funext (fun k => t2.1 k (by simp))
    refine ok_ite (fun c2 => ?_) (fun c2 => ?_)
    · rw [fa_le, tr] at c2
      refine ok_lt fun x6 e6 => ?_
      subst e6
      refine ih (41 - (x + 1).toInt).toNat (x + 1) t (by rw [hnn, ex]; omega) ⟨rfl, by omega, by omega, t1, t2, fun c hc hx hb => ?_⟩
      by_cases q : eB σ c = x.toNatClampNeg
      · have w := t4 c (by omega) q hb
        rw [q]
        intro z
        rw [z, bL_0] at w
        exact absurd w (by decide)
      · rw [t3 _ q]; exact b3 c hc (by omega) hb
    · rw [fa_le, tr] at c2
      have ie : 0 ≤ e.toInt ∧ e.toInt < 120 := by omega
      have exe : (e + 1).toInt = e.toInt + 1 := i1 (by omega)
      have ee := e39 hB e.toNatClampNeg
      have cont : ∀ u : Sto, BM u → FR [] [1] σ u → (∀ b, b ≠ x.toNatClampNeg → u.2 1 b = s.2 1 b) → (∀ c : Nat, (c : Int) < e.toInt + 1 → eB σ c = x.toNatClampNeg → (σ.1 31 c).toInt ≠ 0 → bL (u.2 1 x.toNatClampNeg) x.toNatClampNeg = true) → OK (lt (e + 1) fun x2_9 => ag2 x2_9 u) _ := fun u u1 u2 u3 u4 => ok_lt fun x9 e9 => by
        subst e9
        exact ih2 (122 - (e + 1).toInt).toNat (e + 1) u (by rw [hn2, exe]; omega) ⟨rfl, by omega, by omega, u1, u2, u3, by rw [exe]; exact u4⟩
      have skip : ¬ (eB σ e.toNatClampNeg = x.toNatClampNeg ∧ (σ.1 31 e.toNatClampNeg).toInt ≠ 0) → OK (lt (e + 1) fun x2_9 => ag2 x2_9 t) _ := fun hs => cont t t1 t2 t3 (fun c hc h1 h2 => by
        by_cases q : c = e.toNatClampNeg
        · rw [q] at h1 h2; exact absurd ⟨h1, h2⟩ hs
        · exact t4 c (by omega) h1 h2)
      refine ok_ix ie ?_
      rw [tr]
      refine ok_lt fun v7 e7 => ?_
      refine ok_jn ?_
      refine ok_ite (fun c3 => ?_) (fun c3 => ?_)
      · rw [fa_eq, k_0, e7] at c3
        exact skip (fun z => z.2 c3)
      · refine ok_ix ie ?_
        refine ok_lt fun v11 e11 => ?_
        refine ok_ite (fun c4 => ?_) (fun c4 => ?_)
        · refine ok_ix xi ?_
          refine ok_lt fun v13 e13 => ?_
          refine ok_ix ie ?_
          refine ok_lt fun v14 e14 => ?_
          have g27 := gM_27 hB e.toNatClampNeg
          refine ok_calp (s_comeTo (x1 := v14) (x2 := x) t1 (by rw [e14]; exact g27)) (fun v15 _ => ?_)
          refine ok_ix xi ?_
          refine ok_lt fun s16 e16 => ?_
          refine cont s16 (by rw [e16]; exact BD.stl t1) (by rw [e16]; exact FR.stl t2 (by decide)) (fun b hb => by rw [e16, stl_if, if_neg hb]; exact t3 b hb) (fun c hc h1 h2 => ?_)
          rw [e16, stl_if, if_pos rfl, bL_or, bL_or, bL_one x0 (by omega)]
          simp
        · rw [fa_eq, e11] at c4
          exact skip (fun z => c4 (by have := z.1; omega))
