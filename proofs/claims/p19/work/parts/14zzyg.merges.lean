/-- one of two that meet there -/
def mgc (V : EVt) (J Bk : Nat → Bool) (i e : Nat) : Bool := decide (gB V e = i) && (!J e && !Bk e)
/-- where ways meet, or handlers begin -/
def MGP (V : EVt) (J Bk : Nat → Bool) (i : Nat) : Prop := (∃ e, e < V.1 ∧ gB V e = i ∧ V.2.2.2 e = true) ∨ 2 ≤ fb_ct (mgc V J Bk i) V.1
/-- jumps are never thrown -/
theorem JRS.th {V : EVt} {nb : Nat} {J : Nat → Bool} {k : Int} (h : JRS V nb J k) {e : Nat} (he : e < V.1) (ht : V.2.2.2 e = true) : J e = false := by
  rcases h with ⟨h1, h2, h3⟩ | ⟨h0, a, h1, h2, h3, h4, h5, h6⟩ | ⟨h0, h0b, a, b, h1, h2, h3, h4, h5, h6, h7, h8, h9⟩ | ⟨h0, h1, h2, h3, h4⟩
  · exact h3 e he
  · rw [h6 e he]
    refine decide_eq_false (fun z => ?_)
    rw [z, h3] at ht
    exact absurd ht (by decide)
  · rw [h9 e he, Bool.or_eq_false_iff]
    refine ⟨decide_eq_false (fun z => ?_), decide_eq_false (fun z => ?_)⟩
    · rw [z, h4] at ht
      exact absurd ht (by decide)
    · rw [z, h5] at ht
      exact absurd ht (by decide)
  · exact h4 e he
section
variable {V : EVt} {J Bk : Nat → Bool} {i e : Nat}
theorem mgc_s : fb_ct (mgc V J Bk i) (e + 1) = fb_ct (mgc V J Bk i) e + (if gB V e = i ∧ J e = false ∧ Bk e = false then 1 else 0) := by
  rw [fb_ct_succ]
  have q : (if mgc V J Bk i e = true then (1 : Nat) else 0) = if gB V e = i ∧ J e = false ∧ Bk e = false then 1 else 0 := by
    unfold mgc
    by_cases c : gB V e = i
    · rw [decide_eq_true c]
      cases J e <;> cases Bk e <;> simp [c]
    · rw [decide_eq_false c, if_neg (by simp), if_neg (fun z => c z.1)]
  rw [← q]
end
theorem t_merges {σ : Sto} {V : EVt} {J Bk : Nat → Bool} {n : Nat} (hn : n ≤ 40) (h27 : (σ.1 27 0).toInt = (V.1 : Int)) (hB : ∀ e, e < V.1 → (σ.1 30 e).toInt = (gB V e : Int) ∧ gB V e < n) (hT : ∀ e, e < V.1 → (V.2.2.2 e = false ↔ (σ.1 31 e).toInt = 0)) (hJ : ∀ e, e < V.1 → (J e = false ↔ (σ.1 37 e).toInt = 0)) (hK : ∀ e, e < V.1 → (Bk e = false ↔ (σ.1 38 e).toInt = 0)) : PC (f_X8_findMerges σ) (fun s => FR [] [4] σ s ∧ ∀ i, bL (s.2 4 0) i = true ↔ MGP V J Bk i) := by
  have k_0 : (0 : Int32).toInt = 0 := by decide +kernel
  unfold f_X8_findMerges
  refine pc_lt fun s1 e1 => ?_
  have f1 : FR [] [4] σ s1 := by rw [e1]; exact FR.stl FR.rf (by decide)
  have z1 : s1.2 4 0 = 0 := by rw [e1, stl_s]
  refine pc_itr3 (fun x e s => 0 ≤ e.toInt ∧ e.toInt ≤ (V.1 : Int) ∧ FR [] [4] σ s ∧ (∀ i, bL x i = true ↔ 1 ≤ fb_ct (mgc V J Bk i) e.toNatClampNeg) ∧ ∀ i, bL (s.2 4 0) i = true ↔ (∃ d, d < e.toNatClampNeg ∧ gB V d = i ∧ V.2.2.2 d = true) ∨ 2 ≤ fb_ct (mgc V J Bk i) e.toNatClampNeg) ?_ (by exact ⟨by omega, by omega, f1, fun i => ⟨fun z => by rw [bL_0] at z; exact absurd z (by decide), fun z => absurd z (by show ¬ 1 ≤ 0; omega)⟩, fun i => ⟨fun z => by rw [z1, bL_0] at z; exact absurd z (by decide), fun z => by
    rcases z with ⟨d, d1, _⟩ | z
    · exact absurd d1 (Nat.not_lt_zero _)
    · exact absurd z (by show ¬ 2 ≤ 0; omega)⟩⟩)
  intro ag x e s I ih
  obtain ⟨e0, en, f, i4, i5⟩ := I
  have ce := clamp_I e0
  have fr : ∀ k, s.1 k = σ.1 k := fun k => f.1 k List.not_mem_nil
  refine pc_ite (fun c => ?_) (fun c => ?_)
  · rw [fa_le, fr 27, h27] at c
    rw [show e.toNatClampNeg = V.1 by omega] at i5
    exact pc_ret ⟨f, i5⟩
  · rw [fa_le, fr 27, h27] at c
    have ev : e.toNatClampNeg < V.1 := by omega
    obtain ⟨b30, bn⟩ := hB _ ev
    have ht := hT _ ev
    have hj := hJ _ ev
    have hk := hK _ ev
    have ex : (e + 1).toInt = e.toInt + 1 := i1 (by have := tI_rng (σ.1 27 0); omega)
    have ce1 : (e + 1).toNatClampNeg = e.toNatClampNeg + 1 := by have := clamp_I (x := e + 1) (by omega); omega
    refine pc_ix (fun _ => ?_)
    rw [fr 30]
    refine pc_lt fun v4 e4 => ?_
    have v40 : v4.toInt = (gB V e.toNatClampNeg : Int) := by rw [e4]; exact b30
    have c4 : v4.toNatClampNeg = gB V e.toNatClampNeg := by have := clamp_I (x := v4) (by omega); omega
    refine pc_lt fun x5 e5 => ?_
    have b5 : ∀ i, bL x5 i = decide (i = gB V e.toNatClampNeg) := fun i => by rw [e5, bL_one (by omega) (by omega), c4]
    refine pc_ix (fun _ => ?_)
    rw [fr 31]
    refine pc_lt fun v6 e6 => ?_
    -- behind the thrown
    refine pc_jnI1 (fun u => FR [] [4] σ u ∧ ∀ i, bL (u.2 4 0) i = true ↔ (∃ d, d < e.toNatClampNeg + 1 ∧ gB V d = i ∧ V.2.2.2 d = true) ∨ 2 ≤ fb_ct (mgc V J Bk i) e.toNatClampNeg) (fun u Ju => ?_) (fun k56 hk56 => ?_)
    · obtain ⟨fu, j5⟩ := Ju
      have fru : ∀ k, u.1 k = σ.1 k := fun k => fu.1 k List.not_mem_nil
      refine pc_ix (fun _ => ?_)
      rw [fru 37]
      refine pc_lt fun v8 e8 => ?_
      refine pc_jnI2 (fun y w => FR [] [4] σ w ∧ (∀ i, bL y i = true ↔ 1 ≤ fb_ct (mgc V J Bk i) (e.toNatClampNeg + 1)) ∧ ∀ i, bL (w.2 4 0) i = true ↔ (∃ d, d < e.toNatClampNeg + 1 ∧ gB V d = i ∧ V.2.2.2 d = true) ∨ 2 ≤ fb_ct (mgc V J Bk i) (e.toNatClampNeg + 1)) (fun y w Jw => ?_) (fun k92 hk92 => ?_)
      · refine pc_lt fun x10 e10 => ?_
        subst e10
        exact ih y (e + 1) w ⟨by omega, by omega, Jw.1, by rw [ce1]; exact Jw.2.1, by rw [ce1]; exact Jw.2.2⟩
      · have skip : ¬ (J e.toNatClampNeg = false ∧ Bk e.toNatClampNeg = false) → PC (k92 x u) (fun s => FR [] [4] σ s ∧ ∀ i, bL (s.2 4 0) i = true ↔ MGP V J Bk i) := fun z => hk92 x u ⟨fu, fun i => by rw [mgc_s, if_neg (fun w => z w.2)]; exact i4 i, fun i => by rw [mgc_s, if_neg (fun w => z w.2)]; exact j5 i⟩
        refine pc_ite (fun c8 => ?_) (fun c8 => ?_)
        · rw [fa_eq, k_0, e8] at c8
          have j0 := hj.mpr c8
          refine pc_ix (fun _ => ?_)
          rw [fru 38]
          refine pc_lt fun v12 e12 => ?_
          refine pc_ite (fun c12 => ?_) (fun c12 => ?_)
          · rw [fa_eq, k_0, e12] at c12
            have k0 := hk.mpr c12
            refine pc_lt fun s14 e14 => ?_
            refine pc_lt fun x15 e15 => ?_
            have n15 : ∀ i, bL x15 i = (bL x i || decide (i = gB V e.toNatClampNeg)) := fun i => by rw [e15, bL_or, b5]
            have n14 : ∀ i, bL (s14.2 4 0) i = (bL (u.2 4 0) i || (bL x i && decide (i = gB V e.toNatClampNeg))) := fun i => by rw [e14, stl_s, bL_or, bL_and, b5]
            refine hk92 x15 s14 ⟨by rw [e14]; exact FR.stl fu (by decide), fun i => ?_, fun i => ?_⟩
            · rw [n15, Bool.or_eq_true, i4, decide_eq_true_eq, mgc_s]
              by_cases q : i = gB V e.toNatClampNeg
              · rw [if_pos ⟨q.symm, j0, k0⟩]
                exact ⟨fun _ => by omega, fun _ => Or.inr q⟩
              · rw [if_neg (fun w => q w.1.symm)]
                exact ⟨fun w => by
                  rcases w with w | w
                  · omega
                  · exact absurd w q, fun w => Or.inl (by omega)⟩
            · rw [n14, Bool.or_eq_true, j5, Bool.and_eq_true, i4, decide_eq_true_eq, mgc_s]
              by_cases q : i = gB V e.toNatClampNeg
              · rw [if_pos ⟨q.symm, j0, k0⟩]
                constructor
                · rintro ((w | w) | w)
                  · exact Or.inl w
                  · exact Or.inr (by omega)
                  · exact Or.inr (by omega)
                · rintro (w | w)
                  · exact Or.inl (Or.inl w)
                  · exact Or.inr ⟨by omega, q⟩
              · rw [if_neg (fun w => q w.1.symm)]
                constructor
                · rintro ((w | w) | w)
                  · exact Or.inl w
                  · exact Or.inr (by omega)
                  · exact absurd w.2 q
                · rintro (w | w)
                  · exact Or.inl (Or.inl w)
                  · exact Or.inl (Or.inr (by omega))
          · rw [fa_eq, k_0, e12] at c12
            exact skip (fun z => c12 (hk.mp z.2))
        · rw [fa_eq, k_0, e8] at c8
          exact skip (fun z => c8 (hj.mp z.1))
    · refine pc_ite (fun c6 => ?_) (fun c6 => ?_)
      · rw [fa_eq, k_0, e6] at c6
        have t0 := ht.mpr c6
        refine hk56 s ⟨f, fun i => ?_⟩
        rw [i5]
        constructor
        · rintro (⟨d, d1, d2⟩ | w)
          · exact Or.inl ⟨d, by omega, d2⟩
          · exact Or.inr w
        · rintro (⟨d, d1, d2, d3⟩ | w)
          · by_cases q : d = e.toNatClampNeg
            · rw [q, t0] at d3; exact absurd d3 (by decide)
            · exact Or.inl ⟨d, by omega, d2, d3⟩
          · exact Or.inr w
      · rw [fa_eq, k_0, e6] at c6
        have t1 : V.2.2.2 e.toNatClampNeg = true := by
          cases w : V.2.2.2 e.toNatClampNeg with
          | true => rfl
          | false => exact absurd (ht.mp w) c6
        refine pc_lt fun s17 e17 => ?_
        refine hk56 s17 ⟨by rw [e17]; exact FR.stl f (by decide), fun i => ?_⟩
        rw [e17, stl_s, bL_or, b5, Bool.or_eq_true, i5, decide_eq_true_eq]
        constructor
        · rintro ((⟨d, d1, d2⟩ | w) | w)
          · exact Or.inl ⟨d, by omega, d2⟩
          · exact Or.inr w
          · exact Or.inl ⟨e.toNatClampNeg, by omega, w.symm, t1⟩
        · rintro (⟨d, d1, d2, d3⟩ | w)
          · by_cases q : d = e.toNatClampNeg
            · rw [q] at d2; exact Or.inr d2.symm
            · exact Or.inl (Or.inl ⟨d, by omega, d2, d3⟩)
          · exact Or.inl (Or.inr w)
theorem m_isMerge {σ : Sto} {V : EVt} {J Bk : Nat → Bool} {x : Int32} (h32 : (σ.1 32 0).toInt = (V.1 : Int)) (hB : ∀ e, e < V.1 → (σ.1 28 e).toInt = (gB V e : Int)) (hT : ∀ e, e < V.1 → (V.2.2.2 e = false ↔ (σ.1 29 e).toInt = 0)) (hJ : ∀ e, e < V.1 → (J e = false ↔ (σ.1 30 e).toInt = 0)) (hK : ∀ e, e < V.1 → (Bk e = false ↔ (σ.1 31 e).toInt = 0)) (hTJ : ∀ e, e < V.1 → V.2.2.2 e = true → J e = false) (hx : 0 ≤ x.toInt) : PC (f_X12_isMerge x σ) (fun v => (v = 0 ∨ v = 1) ∧ (v ≠ 0 ↔ MGP V J Bk x.toNatClampNeg)) := by
  have k_0 : (0 : Int32).toInt = 0 := by decide +kernel
  have k_1 : (1 : Int32).toInt = 1 := by decide +kernel
  have n1 : (1 : Int32) ≠ 0 := by decide
  have cx := clamp_I hx
  unfold f_X12_isMerge
  refine pc_itr2 (fun c e => 0 ≤ e.toInt ∧ e.toInt ≤ (V.1 : Int) ∧ c.toInt = (fb_ct (mgc V J Bk x.toNatClampNeg) e.toNatClampNeg : Int) ∧ ∀ d, d < e.toNatClampNeg → gB V d = x.toNatClampNeg → V.2.2.2 d = false) ?_ (by exact ⟨by omega, by omega, k_0, fun d hd => absurd hd (Nat.not_lt_zero _)⟩)
  intro ag c e I ih
  obtain ⟨e0, en, i3, i4⟩ := I
  have ce := clamp_I e0
  have ctl := fb_ct_le (mgc V J Bk x.toNatClampNeg) e.toNatClampNeg
  refine pc_ite (fun z => ?_) (fun z => ?_)
  · rw [fa_le, h32] at z
    rw [show e.toNatClampNeg = V.1 by omega] at i3 i4
    have nt : ¬ ∃ e, e < V.1 ∧ gB V e = x.toNatClampNeg ∧ V.2.2.2 e = true := fun ⟨d, d1, d2, d3⟩ => by
      rw [i4 d d1 d2] at d3
      exact absurd d3 (by decide)
    refine pc_ite (fun y => ?_) (fun y => ?_)
    · rw [fa_le, k_1] at y
      refine pc_ret ⟨Or.inl rfl, fun w => absurd rfl w, fun w => ?_⟩
      rcases w with w | w
      · exact absurd w nt
      · omega
    · rw [fa_le, k_1] at y
      exact pc_ret ⟨Or.inr rfl, fun _ => Or.inr (by omega), fun _ => n1⟩
  · rw [fa_le, h32] at z
    have ev : e.toNatClampNeg < V.1 := by omega
    have b28 := hB _ ev
    have ht := hT _ ev
    have hj := hJ _ ev
    have hk := hK _ ev
    have r32 := tI_rng (σ.1 32 0)
    have ex : (e + 1).toInt = e.toInt + 1 := i1 (by omega)
    have ce1 : (e + 1).toNatClampNeg = e.toNatClampNeg + 1 := by have := clamp_I (x := e + 1) (by omega); omega
    refine pc_ix (fun _ => ?_)
    refine pc_lt fun v4 e4 => ?_
    refine pc_jnI1 (fun y => y.toInt = (fb_ct (mgc V J Bk x.toNatClampNeg) (e.toNatClampNeg + 1) : Int) ∧ (gB V e.toNatClampNeg = x.toNatClampNeg → V.2.2.2 e.toNatClampNeg = false)) (fun y Jy => ?_) (fun k62 hk62 => ?_)
    · refine pc_lt fun x6 e6 => ?_
      subst e6
      refine ih y (e + 1) ⟨by omega, by omega, by rw [ce1]; exact Jy.1, fun d hd hb => ?_⟩
      rw [ce1] at hd
      by_cases q : d = e.toNatClampNeg
      · rw [q] at hb ⊢; exact Jy.2 hb
      · exact i4 d (by omega) hb
    · refine pc_ite (fun c4 => ?_) (fun c4 => ?_)
      · rw [fa_eq, e4, b28] at c4
        have bx : gB V e.toNatClampNeg = x.toNatClampNeg := by omega
        refine pc_ix (fun _ => ?_)
        refine pc_lt fun v8 e8 => ?_
        refine pc_ite (fun c8 => ?_) (fun c8 => ?_)
        · rw [fa_eq, k_0, e8] at c8
          have j0 := hj.mpr c8
          refine pc_ix (fun _ => ?_)
          refine pc_lt fun v10 e10 => ?_
          refine pc_ite (fun c10 => ?_) (fun c10 => ?_)
          · rw [fa_eq, k_0, e10] at c10
            have t0 := ht.mpr c10
            refine pc_ix (fun _ => ?_)
            refine pc_lt fun v12 e12 => ?_
            refine pc_jnI1 (fun t => t.toInt = if Bk e.toNatClampNeg = false then 1 else 0) (fun t ht_ => ?_) (fun k60 hk60 => ?_)
            · refine pc_lt fun x14 e14 => ?_
              refine hk62 x14 ⟨?_, fun _ => t0⟩
              rw [e14, mgc_s]
              by_cases q : Bk e.toNatClampNeg = false
              · rw [if_pos q] at ht_
                rw [if_pos ⟨bx, j0, q⟩, fb_addI (by omega) (by omega)]
                omega
              · rw [if_neg q] at ht_
                rw [if_neg (fun w => q w.2.2), fb_addI (by omega) (by omega)]
                omega
            · refine pc_ite (fun c12 => hk60 1 ?_) (fun c12 => hk60 0 ?_)
              · rw [fa_eq, k_0, e12] at c12
                rw [if_pos (hk.mpr c12)]; exact k_1
              · rw [fa_eq, k_0, e12] at c12
                rw [if_neg (fun w => c12 (hk.mp w))]; exact k_0
          · rw [fa_eq, k_0, e10] at c10
            have t1 : V.2.2.2 e.toNatClampNeg = true := by
              cases w : V.2.2.2 e.toNatClampNeg with
              | true => rfl
              | false => exact absurd (ht.mp w) c10
            exact pc_ret ⟨Or.inr rfl, fun _ => Or.inl ⟨e.toNatClampNeg, ev, bx, t1⟩, fun _ => n1⟩
        · rw [fa_eq, k_0, e8] at c8
          refine hk62 c ⟨?_, fun _ => ?_⟩
          · rw [mgc_s, if_neg (fun w => c8 (hj.mp w.2.1))]; exact i3
          · cases w : V.2.2.2 e.toNatClampNeg with
            | false => rfl
            | true => exact absurd (hj.mp (hTJ _ ev w)) c8
      · rw [fa_eq, e4, b28] at c4
        have bx : gB V e.toNatClampNeg ≠ x.toNatClampNeg := by omega
        refine hk62 c ⟨?_, fun w => absurd w bx⟩
        rw [mgc_s, if_neg (fun w => bx w.1)]; exact i3
