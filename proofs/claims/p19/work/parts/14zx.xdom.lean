theorem allX {σ : Sto} (hB : BX σ) (i : Nat) : bL (((1 : Int64) <<< ((σ.1 20 0).toInt64 &&& 63)) - 1) i = decide (i < nX σ) := by
  have g := gX_20 hB 0
  have e : σ.1 20 0 = nI (nX σ) := by rw [nI_id (x := σ.1 20 0) (by omega)]; rfl
  have hn : nX σ < 41 := by unfold nX; omega
  rw [e]
  by_cases q : i < 64
  · exact all_b _ hn i q
  · rw [bL_hi (by omega)]; exact (decide_eq_false (by omega)).symm
/-- what all of a set's share -/
theorem t_sharedBefore {σ : Sto} {x1 : Int32} {b : Nat} (hB : BX σ) (hb : x1.toNatClampNeg = b) : PC (f_X8_sharedBefore x1 σ) (fun v => ∀ i, bL v i = true ↔ (i < nX σ ∧ ∀ p, bL (σ.2 5 b) p = true → bL (σ.2 1 p) i = true)) := by
  have k_0 : (0 : Int32).toInt = 0 := by decide +kernel
  unfold f_X8_sharedBefore
  refine pc_lt fun x2 e2 => ?_
  rw [hb]
  refine pc_ix (fun _ => ?_)
  refine pc_lt fun v2 ev => ?_
  refine pc_calp (pc_ok (s_J13_bitCount_95d88 (x1 := v2))) (fun v3 h3 => ?_)
  have a0 : ∀ i, bL x2 i = decide (i < nX σ) := fun i => by rw [e2]; exact allX hB i
  refine pc_itr3 (fun S op l => l.toInt = (fb_ct (bL op) 64 : Int) ∧ (∀ i, bL S i = true ↔ (i < nX σ ∧ ∀ p, bL v2 p = true → bL op p = false → bL (σ.2 1 p) i = true)) ∧ (∀ p, bL op p = true → bL v2 p = true)) ?_ ⟨h3.2, fun i => ?_, fun p z => z⟩
  · intro ag S op l I ih
    obtain ⟨i1_, i2, i3⟩ := I
    refine pc_ite (fun c => ?_) (fun c => ?_)
    · rw [fa_le, k_0] at c
      refine pc_ret (fun i => ?_)
      rw [i2 i, ← ev]
      have z : fb_ct (bL op) 64 = 0 := by omega
      have zz := fb_ct_zero.mp z
      have no : ∀ p, bL op p = false := fun p => by
        by_cases q : p < 64
        · exact zz p q
        · exact bL_hi (by omega)
      exact ⟨fun h => ⟨h.1, fun p hp => h.2 p hp (no p)⟩, fun h => ⟨h.1, fun p hp _ => h.2 p hp⟩⟩
    · rw [fa_le, k_0] at c
      refine pc_calp (pc_ok (s_J13_numberOfTrailingZeros_95d88 (x1 := op) (by omega))) (fun v6 h6 => ?_)
      have c6 := clamp_I (x := v6) h6.1.1
      have p64 : v6.toNatClampNeg < 64 := by have := h6.1.2; omega
      refine pc_ix (fun _ => ?_)
      refine pc_lt fun v7 e7 => ?_
      refine pc_lt fun S2 eS => ?_
      refine pc_lt fun op2 eo => ?_
      refine pc_lt fun l2 el => ?_
      have cl : ∀ i, bL op2 i = (bL op i && decide (i ≠ v6.toNatClampNeg)) := fun i => by
        by_cases q : i < 64
        · rw [eo]; exact clrL p64 h6.2.1 h6.2.2 i q
        · rw [bL_hi (by omega), bL_hi (by omega)]; rfl
      have ct := clr_ct p64 h6.2.1 h6.2.2
      rw [← eo] at ct
      have hl := fb_ct_le (bL op) 64
      refine ih S2 op2 l2 ⟨by rw [el, i_m1 (by omega) (by omega)]; omega, fun i => ?_, fun p hp => i3 p ?_⟩
      · rw [eS, bL_and, Bool.and_eq_true, i2 i, e7]
        constructor
        · rintro ⟨⟨y1, y2⟩, y3⟩
          refine ⟨y1, fun p hp hq => ?_⟩
          by_cases r : p = v6.toNatClampNeg
          · rw [r]; exact y3
          · refine y2 p hp ?_
            rw [cl, decide_eq_true r, Bool.and_true] at hq
            exact hq
        · rintro ⟨y1, y2⟩
          refine ⟨⟨y1, fun p hp hq => y2 p hp (by rw [cl, hq]; rfl)⟩, y2 _ (i3 _ h6.2.1) ?_⟩
          rw [cl]
          simp
      · rw [cl, Bool.and_eq_true] at hp
        exact hp.1
  · rw [a0]
    constructor
    · exact fun z => ⟨of_decide_eq_true z, fun p hp hq => by rw [hp] at hq; exact absurd hq (by decide)⟩
    · exact fun z => decide_eq_true z.1
/-- those from which kept edges come -/
def PDG (V : EVt) (J : Nat → Bool) (p b : Nat) : Prop := ∃ e, KG V J e ∧ gB V e = b ∧ gA V e = p
def FDG (V : EVt) (J : Nat → Bool) (n : Nat) (D : Nat → Nat → Bool) (b i : Nat) : Prop := i < n ∧ (i = b ∨ ∀ p, PDG V J p b → D p i = true)
def DIN (V : EVt) (J : Nat → Bool) (n : Nat) (D : Nat → Nat → Bool) : Prop := (∀ b, b < n → b ≠ 0 → ∀ i, FDG V J n D b i → D b i = true) ∧ (∀ b, b < n → ∀ i, D b i = true → i < n) ∧ (∀ b, b < n → ∀ i, i < n → DG V J i b → D b i = true) ∧ ∀ i, D 0 i = true ↔ i = 0
section
variable {V : EVt} {J : Nat → Bool} {n : Nat} {D D2 : Nat → Nat → Bool}
theorem FDG.mono (hr : ∀ e, e < V.1 → gA V e < n) (h : ∀ b, b < n → ∀ i, D b i = true → D2 b i = true) {b i : Nat} (k : FDG V J n D b i) : FDG V J n D2 b i := ⟨k.1, k.2.imp_right (fun z p hp => by
  obtain ⟨e, e1, e2, e3⟩ := id hp
  exact h p (by rw [← e3]; exact hr e e1.1) i (z p hp))⟩
theorem DIN.ini (hn : 0 < n) (h0 : ∀ i, D 0 i = true ↔ i = 0) (h : ∀ b, b < n → b ≠ 0 → ∀ i, D b i = true ↔ i < n) : DIN V J n D := by
  refine ⟨fun b hb b0 i hi => (h b hb b0 i).mpr hi.1, fun b hb i hi => ?_, fun b hb i hi hd => ?_, h0⟩
  · by_cases q : b = 0
    · rw [q] at hi
      rw [(h0 i).mp hi]; exact hn
    · exact (h b hb q i).mp hi
  · by_cases q : b = 0
    · rw [q] at hd ⊢
      rcases hd with z | z
      · exact (h0 i).mpr z
      · exact absurd RG.zero z
    · exact (h b hb q i).mpr hi
theorem DIN.st (hr : ∀ e, e < V.1 → gA V e < n) (h : DIN V J n D) {b : Nat} (hb : b < n) (b0 : b ≠ 0) (e1 : ∀ i, D2 b i = true ↔ FDG V J n D b i) (e2 : ∀ c, c ≠ b → D2 c = D c) : DIN V J n D2 ∧ ∀ c, c < n → ∀ i, D2 c i = true → D c i = true := by
  obtain ⟨h1, h2, h3, h4⟩ := h
  have sub : ∀ c, c < n → ∀ i, D2 c i = true → D c i = true := fun c hc i hi => by
    by_cases q : c = b
    · rw [q] at hi ⊢
      exact h1 b hb b0 i ((e1 i).mp hi)
    · rw [e2 c q] at hi; exact hi
  refine ⟨⟨fun c hc c0 i hi => ?_, fun c hc i hi => h2 c hc i (sub c hc i hi), fun c hc i hi hd => ?_, fun i => ?_⟩, sub⟩
  · have k := hi.mono hr sub
    by_cases q : c = b
    · rw [q] at k ⊢
      exact (e1 i).mpr k
    · rw [e2 c q]; exact h1 c hc c0 i k
  · by_cases q : c = b
    · subst q
      refine (e1 i).mpr ⟨hi, ?_⟩
      by_cases r : i = c
      · exact Or.inl r
      · right
        rintro p ⟨e, x1, x2, x3⟩
        refine h3 p (by rw [← x3]; exact hr e x1.1) i hi ?_
        rcases hd with z | z
        · exact Or.inl z
        · refine Or.inr (fun y => z ?_)
          rw [← x3] at y
          have := y.st x1 (by rw [x2]; exact fun w => r w.symm)
          rw [x2] at this
          exact this
    · rw [e2 c q]; exact h3 c hc i hi hd
  · rw [e2 0 (fun z => b0 z.symm)]; exact h4 i
/-- where nothing changes any more, it is those that dominate -/
theorem DIN.fin (hr : ∀ e, e < V.1 → gA V e < n ∧ gB V e < n) (h : DIN V J n D) (hf : ∀ b, b < n → b ≠ 0 → ∀ i, D b i = true → FDG V J n D b i) : ∀ b, b < n → ∀ i, D b i = true ↔ (i < n ∧ DG V J i b) := by
  obtain ⟨h1, h2, h3, h4⟩ := h
  refine fun b hb i => ⟨fun hi => ⟨h2 b hb i hi, ?_⟩, fun z => h3 b hb i z.1 z.2⟩
  by_cases q : i = 0
  · exact Or.inl q
  refine Or.inr (fun R => ?_)
  have key := R (fun x => x < n → D x i = false) (fun _ => bf (fun z => q ((h4 i).mp z))) (fun e he ha hd hx => bf (fun z => ?_))
  · rw [key hb] at hi; exact absurd hi (by decide)
  · by_cases r : gB V e = 0
    · rw [r] at z
      exact q ((h4 i).mp z)
    · have k := hf _ hx r i z
      rcases k.2 with w | w
      · exact hd w.symm
      · have := w (gA V e) ⟨e, he, rfl, rfl⟩
        rw [ha (hr e he.1).1] at this
        exact absurd this (by decide)
end
theorem sF_bdm {f : Nat → Nat} {m : Nat} : ∀ n, (∀ k, k < n → f k ≤ m) → sF f n ≤ m * n
  | 0, _ => Nat.zero_le _
  | n + 1, h => by
    show sF f n + f n ≤ m * (n + 1)
    have a := h n (by omega)
    have := sF_bdm (f := f) (m := m) n (fun k hk => h k (by omega))
    rw [Nat.mul_succ]
    omega
def MSD (n : Nat) (D : Nat → Nat → Bool) : Nat := sF (fun b => fb_ct (D b) n) n
theorem MSD_le {n : Nat} {D D2 : Nat → Nat → Bool} (h : ∀ c, c < n → ∀ i, D2 c i = true → D c i = true) : MSD n D2 ≤ MSD n D := sF_le n (fun k hk => fb_ct_sub (fun i _ z => h k hk i z))
theorem MSD_lt {n b : Nat} {D D2 : Nat → Nat → Bool} (h : ∀ c, c < n → ∀ i, D2 c i = true → D c i = true) (hb : b < n) (hin : ∀ i, D b i = true → i < n) (hne : ∃ i, D b i ≠ D2 b i) : MSD n D2 + 1 ≤ MSD n D := by
  obtain ⟨i, hi⟩ := hne
  have d1 : D b i = true := by
    cases c : D b i with
    | true => rfl
    | false =>
      cases c2 : D2 b i with
      | true => have := h b hb i c2; rw [c] at this; exact absurd this (by decide)
      | false => rw [c, c2] at hi; exact absurd rfl hi
  have d2 : D2 b i = false := bf (fun z => hi (by rw [d1, z]))
  exact sF_lt (b := b) n (fun k hk => fb_ct_sub (fun i _ z => h k hk i z)) hb (fb_ct_lt (fun i _ z => h b hb i z) ⟨i, hin i d1, d1, d2⟩)
theorem MSD_bd {n : Nat} {D : Nat → Nat → Bool} (hn : n ≤ 40) : MSD n D ≤ 1600 := by
  have a := sF_bdm (f := fun b => fb_ct (D b) n) (m := n) n (fun k _ => fb_ct_le _ _)
  have b : n * n ≤ 40 * 40 := Nat.mul_le_mul hn hn
  unfold MSD
  omega
abbrev Dx (s : Sto) : Nat → Nat → Bool := fun b i => bL (s.2 1 b) i
/-- the class's rows: from where kept edges come; who dominates -/
def BEF (σ s : Sto) : Prop := ∀ b, b < nX σ → ∀ i, bL (s.2 5 b) i = true ↔ PDG (EVx σ) (Jx σ) i b
def DMX (σ s : Sto) : Prop := ∀ b, b < nX σ → ∀ i, bL (s.2 1 b) i = true ↔ (i < nX σ ∧ DG (EVx σ) (Jx σ) i b)
abbrev DINx (σ u : Sto) : Prop := DIN (EVx σ) (Jx σ) (nX σ) (Dx u)
theorem t_findDominators {σ : Sto} (hB : BX σ) (hr : ∀ e, e < (EVx σ).1 → gA (EVx σ) e < nX σ ∧ gB (EVx σ) e < nX σ) (hn : 0 < nX σ) (hO : ∀ p, p < nX σ → ∃ b : Nat, b < nX σ ∧ (σ.1 39 p).toInt = b) (hO2 : ∀ b, b < nX σ → ∃ p : Nat, p < nX σ ∧ (σ.1 39 p).toInt = b) (hO3 : ∀ p, p < nX σ → ((σ.1 39 p).toInt = 0 ↔ p = 0)) : PC (f_X8_findDominators σ) (fun s => FR [] [1, 5] σ s ∧ BEF σ s ∧ DMX σ s) := by
  have k_0 : (0 : Int32).toInt = 0 := by decide +kernel
  have k_1 : (1 : Int32).toInt = 1 := by decide +kernel
  have k_M : (1000000 : Int32).toInt = 1000000 := by decide +kernel
  have n1 : (1 : Int32) ≠ 0 := by decide
  have z0 : (0 : Int32).toNatClampNeg = 0 := rfl
  have g20 := gX_20 hB 0
  have g27 := gX_27 hB 0
  have hN : (nX σ : Int) = (σ.1 20 0).toInt := Int.toNat_of_nonneg g20.1
  have hV : ((EVx σ).1 : Int) = (σ.1 27 0).toInt := Int.toNat_of_nonneg g27.1
  have fi : ∀ {s : Sto}, FR [] [1, 5] σ s → ∀ k, s.1 k = σ.1 k := fun f k => f.1 k List.not_mem_nil
  have bx : ∀ {s : Sto}, FR [] [1, 5] σ s → BX s := fun f => fun k i => by rw [fi f k]; exact hB k i
  have nx : ∀ {s : Sto}, FR [] [1, 5] σ s → nX s = nX σ := fun f => by unfold nX; rw [fi f 20]
  unfold f_X8_findDominators
  refine pc_itr2 (fun x s => 0 ≤ x.toInt ∧ FR [] [1, 5] σ s ∧ ∀ b : Nat, (b : Int) < x.toInt → b < nX σ → s.2 5 b = 0 ∧ ∀ i, bL (s.2 1 b) i = decide (i < nX σ)) ?_ ⟨by omega, FR.rf, fun b hb => by omega⟩
  intro ag x s I ih
  obtain ⟨x0, f, hz⟩ := I
  have cx := clamp_I x0
  refine pc_ite (fun c1 => ?_) (fun c1 => ?_)
  · rw [fa_le, fi f 20] at c1
    refine pc_itr2 (fun e t => 0 ≤ e.toInt ∧ FR [] [1, 5] σ t ∧ (∀ b, b < nX σ → ∀ i, bL (t.2 1 b) i = decide (i < nX σ)) ∧ ∀ b, b < nX σ → ∀ i, bL (t.2 5 b) i = true ↔ ∃ d : Nat, (d : Int) < e.toInt ∧ KG (EVx σ) (Jx σ) d ∧ gB (EVx σ) d = b ∧ gA (EVx σ) d = i) ?_ ⟨by omega, f, fun b hb => (hz b (by omega) hb).2, fun b hb i => ?_⟩
    · intro ag2 e t I2 ih2
      obtain ⟨e0, f2, h1, h5⟩ := I2
      have ce := clamp_I e0
      refine pc_ite (fun c2 => ?_) (fun c2 => ?_)
      · rw [fa_le, fi f2 27] at c2
        rw [z0]
        refine pc_ix (fun _ => ?_)
        refine pc_lt fun s5 e5 => ?_
        have f5 : FR [] [1, 5] σ s5 := by rw [e5]; exact FR.stl f2 (by decide)
        have bef : BEF σ s5 := fun b hb i => by
          rw [e5, stl_o (by decide), h5 b hb i]
          constructor
          · rintro ⟨d, _, d2, d3, d4⟩
            exact ⟨d, d2, d3, d4⟩
          · rintro ⟨d, d2, d3, d4⟩
            exact ⟨d, by have := d2.1; omega, d2, d3, d4⟩
        have one : ∀ i, bL (1 : Int64) i = decide (i = 0) := fun i => by
          have := bL_one (v := (0 : Int32)) (by rw [k_0]; omega) (by rw [k_0]; omega) i
          rw [z0] at this
          rw [← this]
          rfl
        have D5 : DINx σ s5 := DIN.ini hn (fun i => by
          show bL (s5.2 1 0) i = true ↔ i = 0
          rw [e5, stl_s, one, decide_eq_true_eq]) (fun b hb b0 i => by
          show bL (s5.2 1 b) i = true ↔ i < nX σ
          rw [e5, stl_j b0, h1 b hb i, decide_eq_true_eq])
        refine pc_itr3 (fun g r u => FR [] [1, 5] σ u ∧ u.2 5 = s5.2 5 ∧ DINx σ u ∧ ((g = 0 ∧ DMX σ u) ∨ (g = 1 ∧ 0 ≤ r.toInt ∧ r.toInt + (MSD (nX σ) (Dx u) : Int) ≤ 1600))) ?_ ⟨f5, rfl, D5, Or.inr ⟨rfl, by omega, by have := MSD_bd (n := nX σ) (D := Dx s5) (by omega); omega⟩⟩
        intro ag3 g r u I3 ih3
        obtain ⟨f6, u5, hD, hg⟩ := I3
        have befu : BEF σ u := fun b hb i => by rw [u5]; exact bef b hb i
        refine pc_ite (fun c3 => ?_) (fun c3 => ?_)
        · rw [fa_le, k_M] at c3
          rcases hg with ⟨_, h⟩ | ⟨_, h0, h1⟩
          · exact pc_ret ⟨f6, befu, h⟩
          · exfalso; omega
        rw [fa_le, k_M] at c3
        refine pc_ite (fun c4 => ?_) (fun c4 => ?_)
        · rcases hg with ⟨_, h⟩ | ⟨h, _⟩
          · exact pc_ret ⟨f6, befu, h⟩
          · exact absurd (h.symm.trans c4) n1
        obtain ⟨_, r0, r1⟩ := hg.resolve_left (fun q => c4 q.1)
        refine pc_itr3 (fun g2 p w => 1 ≤ p.toInt ∧ FR [] [1, 5] σ w ∧ w.2 5 = s5.2 5 ∧ DINx σ w ∧ MSD (nX σ) (Dx w) ≤ MSD (nX σ) (Dx u) ∧ ((g2 = 1 ∧ MSD (nX σ) (Dx w) + 1 ≤ MSD (nX σ) (Dx u)) ∨ (g2 = 0 ∧ ∀ q b : Nat, 1 ≤ q → (q : Int) < p.toInt → q < nX σ → (σ.1 39 q).toInt = b → ∀ i, Dx w b i = true → FDG (EVx σ) (Jx σ) (nX σ) (Dx w) b i))) ?_ ⟨by omega, f6, u5, hD, Nat.le_refl _, Or.inr ⟨rfl, fun q b h1 h2 => by omega⟩⟩
        intro ag4 g2 p w I4 ih4
        obtain ⟨p0, f7, w5, hD7, le7, hg7⟩ := I4
        have cp := clamp_I (x := p) (by omega)
        refine pc_ite (fun c5 => ?_) (fun c5 => ?_)
        · rw [fa_le, fi f7 20] at c5
          refine pc_lt fun x11 e11 => ?_
          have v11 : x11.toInt = r.toInt + 1 := by rw [e11]; exact i1 (by omega)
          refine ih3 g2 x11 w ⟨f7, w5, hD7, ?_⟩
          rcases hg7 with ⟨h1, h2⟩ | ⟨h1, h2⟩
          · exact Or.inr ⟨h1, by omega, by omega⟩
          · refine Or.inl ⟨h1, hD7.fin hr (fun b hb b0 i hi => ?_)⟩
            obtain ⟨q, q1, q2⟩ := hO2 b hb
            have q0 : q ≠ 0 := fun z => b0 (by
              have := (hO3 q q1).mpr z
              omega)
            exact h2 q b (by omega) (by omega) q1 q2 i hi
        rw [fa_le, fi f7 20] at c5
        have pn : p.toNatClampNeg < nX σ := by omega
        have ex : (p + 1).toInt = p.toInt + 1 := i1 (by omega)
        obtain ⟨b, bn, eb⟩ := hO _ pn
        have b0 : b ≠ 0 := fun z => by
          have := (hO3 _ pn).mp (by rw [eb, z]; rfl)
          omega
        refine pc_ix (fun _ => ?_)
        rw [fi f7 39]
        refine pc_lt fun v12 e12 => ?_
        have c12 : v12.toNatClampNeg = b := by
          have := clamp_I (x := v12) (by rw [e12, eb]; omega)
          rw [e12, eb] at this
          rw [e12]; omega
        have v12b : v12.toInt = b := by rw [e12]; exact eb
        refine pc_calp (t_sharedBefore (b := b) (bx f7) c12) (fun v13 h13 => ?_)
        rw [nx f7] at h13
        refine pc_lt fun x14 e14 => ?_
        have X14 : ∀ i, bL x14 i = true ↔ FDG (EVx σ) (Jx σ) (nX σ) (Dx w) b i := fun i => by
          rw [e14, bL_set (v := v12) (by omega) (by omega), Bool.or_eq_true, decide_eq_true_eq, c12, h13 i, w5]
          unfold FDG
          constructor
          · rintro (⟨y1, y2⟩ | y)
            · exact ⟨y1, Or.inr (fun q hq => y2 q ((bef b bn q).mpr hq))⟩
            · exact ⟨by omega, Or.inl y⟩
          · rintro ⟨y1, y | y⟩
            · exact Or.inr y
            · exact Or.inl ⟨y1, fun q hq => y q ((bef b bn q).mp hq)⟩
        rw [c12]
        refine pc_jnI1 (fun g4 => ∀ s16 : Sto, s16 = stl w 1 b x14 → (g4 = 1 ∧ MSD (nX σ) (Dx s16) + 1 ≤ MSD (nX σ) (Dx u)) ∨ (g4 = 0 ∧ g2 = 0 ∧ Dx s16 = Dx w)) (fun g4 Jn => ?_) (fun k hk => ?_)
        · refine pc_ix (fun _ => ?_)
          refine pc_lt fun s16 e16 => ?_
          refine pc_lt fun x17 e17 => ?_
          subst e17
          have J := Jn s16 e16
          have s1 : ∀ i, Dx s16 b i = true ↔ FDG (EVx σ) (Jx σ) (nX σ) (Dx w) b i := fun i => by
            show bL (s16.2 1 b) i = true ↔ _
            rw [e16, stl_s]; exact X14 i
          have s2 : ∀ c, c ≠ b → Dx s16 c = Dx w c := fun c hc => by
            funext i
            show bL (s16.2 1 c) i = bL (w.2 1 c) i
            rw [e16, stl_j hc]
          obtain ⟨D16, sub⟩ := hD7.st (fun e he => (hr e he).1) bn b0 s1 s2
          have le16 := MSD_le sub
          refine ih4 g4 (p + 1) s16 ⟨by omega, by rw [e16]; exact FR.stl f7 (by decide), by rw [e16, stl_o (by decide)]; exact w5, D16, by omega, ?_⟩
          rcases J with ⟨h1, h2⟩ | ⟨h1, h2, h3⟩
          · exact Or.inl ⟨h1, h2⟩
          · refine Or.inr ⟨h1, fun q c y1 y2 y3 y4 i y5 => ?_⟩
            rcases hg7 with ⟨z1, _⟩ | ⟨_, z2⟩
            · exact absurd (z1.symm.trans h2) n1
            rw [h3] at y5 ⊢
            by_cases r2 : q = p.toNatClampNeg
            · have cb : c = b := by
                rw [r2, eb] at y4
                omega
              rw [cb] at y5 ⊢
              rw [← h3] at y5
              exact (s1 i).mp y5
            · exact z2 q c y1 (by omega) y3 y4 i y5
        · have hlt : (∃ i, bL (w.2 1 b) i ≠ bL x14 i) → ∀ s16 : Sto, s16 = stl w 1 b x14 → MSD (nX σ) (Dx s16) + 1 ≤ MSD (nX σ) (Dx u) := fun hne s16 e16 => by
            have s1 : ∀ i, Dx s16 b i = true ↔ FDG (EVx σ) (Jx σ) (nX σ) (Dx w) b i := fun i => by
              show bL (s16.2 1 b) i = true ↔ _
              rw [e16, stl_s]; exact X14 i
            have s2 : ∀ c, c ≠ b → Dx s16 c = Dx w c := fun c hc => by
              funext i
              show bL (s16.2 1 c) i = bL (w.2 1 c) i
              rw [e16, stl_j hc]
            obtain ⟨D16, sub⟩ := hD7.st (fun e he => (hr e he).1) bn b0 s1 s2
            have := MSD_lt sub bn (fun i hi => hD7.2.1 b bn i hi) (by
              obtain ⟨i, hi⟩ := hne
              refine ⟨i, ?_⟩
              show bL (w.2 1 b) i ≠ bL (s16.2 1 b) i
              rw [e16, stl_s]; exact hi)
            omega
          have hle : ∀ s16 : Sto, s16 = stl w 1 b x14 → MSD (nX σ) (Dx s16) ≤ MSD (nX σ) (Dx w) := fun s16 e16 => by
            have s1 : ∀ i, Dx s16 b i = true ↔ FDG (EVx σ) (Jx σ) (nX σ) (Dx w) b i := fun i => by
              show bL (s16.2 1 b) i = true ↔ _
              rw [e16, stl_s]; exact X14 i
            have s2 : ∀ c, c ≠ b → Dx s16 c = Dx w c := fun c hc => by
              funext i
              show bL (s16.2 1 c) i = bL (w.2 1 c) i
              rw [e16, stl_j hc]
            exact MSD_le (hD7.st (fun e he => (hr e he).1) bn b0 s1 s2).2
          refine pc_jnI0 (∀ s16 : Sto, s16 = stl w 1 b x14 → MSD (nX σ) (Dx s16) + 1 ≤ MSD (nX σ) (Dx u)) (fun h => hk 1 (fun s16 e16 => Or.inl ⟨rfl, h s16 e16⟩)) (fun k2 hk2 => ?_)
          refine pc_ite (fun c6 => ?_) (fun c6 => ?_)
          · refine pc_ix (fun _ => ?_)
            refine pc_lt fun v20 e20 => ?_
            refine pc_ite (fun c7 => ?_) (fun c7 => ?_)
            · rw [lg_cmp_eq, e20] at c7
              refine hk 0 (fun s16 e16 => Or.inr ⟨rfl, c6, ?_⟩)
              funext c i
              show bL (s16.2 1 c) i = bL (w.2 1 c) i
              by_cases q : c = b
              · rw [q, e16, stl_s, c7]
              · rw [e16, stl_j q]
            · rw [lg_cmp_eq, e20] at c7
              refine hk2 (hlt (Classical.byContradiction fun z => c7 (bL_ext fun i => Classical.byContradiction fun y => z ⟨i, fun w2 => y w2.symm⟩)))
          · have h9 := (hg7.resolve_right (fun q => c6 q.1)).2
            exact hk2 (fun s16 e16 => by have := hle s16 e16; omega)
      · rw [fa_le, fi f2 27] at c2
        have ex : (e + 1).toInt = e.toInt + 1 := i1 (by omega)
        have heE : e.toNatClampNeg < (EVx σ).1 := by omega
        have he := hr _ heE
        refine pc_ix (fun _ => ?_)
        rw [fi f2 37]
        refine pc_lt fun v22 e22 => ?_
        refine pc_jnI1 (fun u => FR [] [1, 5] σ u ∧ (∀ b, b < nX σ → ∀ i, bL (u.2 1 b) i = decide (i < nX σ)) ∧ ∀ b, b < nX σ → ∀ i, bL (u.2 5 b) i = true ↔ ∃ d : Nat, (d : Int) < e.toInt + 1 ∧ KG (EVx σ) (Jx σ) d ∧ gB (EVx σ) d = b ∧ gA (EVx σ) d = i) (fun u J => ?_) (fun k hk => ?_)
        · refine pc_lt fun x24 e24 => ?_
          subst e24
          exact ih2 (e + 1) u ⟨by omega, J.1, J.2.1, by rw [ex]; exact J.2.2⟩
        · refine pc_ite (fun c3 => ?_) (fun c3 => ?_)
          · rw [fa_eq, k_0, e22] at c3
            have kg : KG (EVx σ) (Jx σ) e.toNatClampNeg := ⟨heE, Jx_f.mpr c3⟩
            have g30 := gX_30 hB e.toNatClampNeg
            have g29 := gX_29 hB e.toNatClampNeg
            refine pc_ix (fun _ => ?_)
            rw [fi f2 30]
            refine pc_lt fun v26 e26 => ?_
            have c26 : v26.toNatClampNeg = gB (EVx σ) e.toNatClampNeg := by rw [e26]; rfl
            refine pc_ix (fun _ => ?_)
            rw [c26]
            refine pc_lt fun v27 e27 => ?_
            refine pc_ix (fun _ => ?_)
            rw [fi f2 29]
            refine pc_lt fun v28 e28 => ?_
            have c28 : v28.toNatClampNeg = gA (EVx σ) e.toNatClampNeg := by rw [e28]; rfl
            refine pc_ix (fun _ => ?_)
            refine pc_lt fun s29 e29 => ?_
            refine hk s29 ⟨by rw [e29]; exact FR.stl f2 (by decide), fun b hb i => by rw [e29, stl_o (by decide)]; exact h1 b hb i, fun b hb i => ?_⟩
            rw [e29, stl_if]
            by_cases q : b = gB (EVx σ) e.toNatClampNeg
            · rw [if_pos q, e27, bL_set (v := v28) (by rw [e28]; omega) (by rw [e28]; omega), Bool.or_eq_true, decide_eq_true_eq, c28, h5 _ he.2 i]
              constructor
              · rintro (⟨d, d1, d2, d3, d4⟩ | y)
                · exact ⟨d, by omega, d2, by rw [d3, q], d4⟩
                · exact ⟨e.toNatClampNeg, by omega, kg, q.symm, y.symm⟩
              · rintro ⟨d, d1, d2, d3, d4⟩
                by_cases w : d = e.toNatClampNeg
                · right; rw [← d4, w]
                · exact Or.inl ⟨d, by omega, d2, by rw [d3, q], d4⟩
            · rw [if_neg q, h5 b hb i]
              constructor
              · rintro ⟨d, d1, d2, d3, d4⟩
                exact ⟨d, by omega, d2, d3, d4⟩
              · rintro ⟨d, d1, d2, d3, d4⟩
                have w : d ≠ e.toNatClampNeg := fun z => q (by rw [← d3, z])
                exact ⟨d, by omega, d2, d3, d4⟩
          · rw [fa_eq, k_0, e22] at c3
            refine hk t ⟨f2, h1, fun b hb i => ?_⟩
            rw [h5 b hb i]
            constructor
            · rintro ⟨d, d1, d2, d3, d4⟩
              exact ⟨d, by omega, d2, d3, d4⟩
            · rintro ⟨d, d1, d2, d3, d4⟩
              have w : d ≠ e.toNatClampNeg := fun z => by
                rw [z] at d2
                exact c3 (Jx_f.mp d2.2)
              exact ⟨d, by omega, d2, d3, d4⟩
    · rw [(hz b (by omega) hb).1, bL_0]
      exact ⟨fun z => absurd z (by decide), fun ⟨d, d1, _⟩ => by omega⟩
  · rw [fa_le, fi f 20] at c1
    have ex : (x + 1).toInt = x.toInt + 1 := i1 (by omega)
    refine pc_ix (fun _ => ?_)
    refine pc_lt fun s30 e30 => ?_
    have f30 : FR [] [1, 5] σ s30 := by rw [e30]; exact FR.stl f (by decide)
    refine pc_ix (fun _ => ?_)
    refine pc_lt fun s31 e31 => ?_
    refine pc_lt fun x32 e32 => ?_
    subst e32
    refine ih (x + 1) s31 ⟨by omega, by rw [e31]; exact FR.stl f30 (by decide), fun b hb hb2 => ?_⟩
    have a := allX (bx f30)
    rw [nx f30] at a
    by_cases q : b = x.toNatClampNeg
    · refine ⟨by rw [e31, stl_o (by decide), e30, q, stl_s], fun i => ?_⟩
      rw [e31, q, stl_s]
      exact a i
    · have z := hz b (by omega) hb2
      refine ⟨by rw [e31, stl_o (by decide), e30, stl_j q]; exact z.1, fun i => ?_⟩
      rw [e31, stl_j q, e30, stl_o (by decide)]
      exact z.2 i
