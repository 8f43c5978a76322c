abbrev Jx (s : Sto) : Nat → Bool := fun e => decide ((s.1 37 e).toInt ≠ 0)
theorem Jx_f {s : Sto} {e : Nat} : Jx s e = false ↔ (s.1 37 e).toInt = 0 := by
  show decide ((s.1 37 e).toInt ≠ 0) = false ↔ _
  rw [decide_eq_false_iff_not]
  exact ⟨fun h => Classical.byContradiction h, fun h z => z h⟩
abbrev fEx (σ : Sto) : Nat → Nat := fun b => (σ.1 28 b).toInt.toNat
theorem EDX.pfe {σ : Sto} (h : EDX σ) (hB : BX σ) (hr : ∀ e, e < (EVx σ).1 → gA (EVx σ) e < nX σ ∧ gB (EVx σ) e < nX σ) : PFE (EVx σ) (nX σ) (fEx σ) := by
  refine ⟨fun b hb => ?_, hr⟩
  obtain ⟨h1, h2, h3, h4⟩ := h.fex hB hb
  have g1 := gX_28 hB b
  have g2 := gX_28 hB (b + 1)
  have n0 := gX_27 hB 0
  refine ⟨?_, ?_, fun e he => ?_⟩
  · show (σ.1 28 b).toInt.toNat ≤ (σ.1 27 0).toInt.toNat
    omega
  · show (σ.1 28 (b + 1)).toInt.toNat ≤ (σ.1 27 0).toInt.toNat
    omega
  · have he2 : e < (σ.1 27 0).toInt.toNat := he
    have q := h4 e (by omega)
    have ge := gX_29 hB e
    show ((σ.1 28 b).toInt.toNat ≤ e ↔ b ≤ (σ.1 29 e).toInt.toNat) ∧ ((σ.1 28 (b + 1)).toInt.toNat ≤ e ↔ b + 1 ≤ (σ.1 29 e).toInt.toNat)
    obtain ⟨q1, q2⟩ := q
    constructor
    · constructor
      · intro z
        have := q1.mp (by omega)
        omega
      · intro z
        have := q1.mpr (by omega)
        omega
    · constructor
      · intro z
        have := q2.mp (by omega)
        omega
      · intro z
        have := q2.mpr (by omega)
        omega
abbrev MS8 : List Nat := [39, 40, 42, 43]
def DFX (σ s : Sto) (S : Int64) (l h t : Int32) (L H T : Nat) (O c : Nat → Nat) : Prop := FR MS8 [] σ s ∧ (l.toInt = L ∧ h.toInt = H ∧ t.toInt = T) ∧ DFI (EVx σ) (Jx σ) (nX σ) (fEx σ) (ri (s.1 42)) (ri (s.1 43)) (ri (s.1 39)) (ri (s.1 40)) (bL S) L H T O c
/-- and the machine -/
def MCH (σ s : Sto) (S : Int64) (L H : Nat) (O c : Nat → Nat) : Prop := ∃ k R, dgo (EVx σ) (Jx σ) (fEx σ) (nX σ) k (dbeg (fEx σ)) = (stkO (fEx σ) O c H, bL S, L, R) ∧ ∀ b r, R b = some r → ri (s.1 40) b = (r : Nat)
theorem t_allAreComeTo {σ : Sto} (hB : BX σ) (hE : PFE (EVx σ) (nX σ) (fEx σ)) (hn : 0 < nX σ) : PC (f_X8_allAreComeTo σ) (fun r => FR MS8 [] σ r.2 ∧ (r.1 ≠ 0 ↔ ∀ b, b < nX σ → AG (EVx σ) (Jx σ) b) ∧ (r.1 ≠ 0 → PRM (EVx σ) (Jx σ) (nX σ) (ri (r.2.1 39)) (ri (r.2.1 40)))) := by
  have k_0 : (0 : Int32).toInt = 0 := by decide +kernel
  have k_1 : (1 : Int32).toInt = 1 := by decide +kernel
  have k_M : (1000000 : Int32).toInt = 1000000 := by decide +kernel
  have n1 : (1 : Int32) ≠ 0 := by decide
  have z0 : (0 : Int32).toNatClampNeg = 0 := rfl
  have g20 := gX_20 hB 0
  have g27 := gX_27 hB 0
  have hN : (nX σ : Int) = (σ.1 20 0).toInt := Int.toNat_of_nonneg g20.1
  have hV : ((EVx σ).1 : Int) = (σ.1 27 0).toInt := Int.toNat_of_nonneg g27.1
  unfold f_X8_allAreComeTo
  rw [z0]
  refine pc_ix (fun _ => ?_)
  refine pc_lt fun s1 e1 => ?_
  refine pc_ix (fun _ => ?_)
  refine pc_lt fun v2 e2 => ?_
  refine pc_ix (fun _ => ?_)
  refine pc_lt fun s3 e3 => ?_
  rw [e1, sti_o (by decide)] at e2
  have F3 : FR MS8 [] σ s3 := by rw [e3, e1]; exact FR.st (FR.st FR.rf (by decide)) (by decide)
  have one : ∀ i, bL (1 : Int64) i = decide (i = 0) := fun i => by
    have := bL_one (v := (0 : Int32)) (by rw [k_0]; omega) (by rw [k_0]; omega) i
    rw [z0] at this
    rw [← this]
    rfl
  refine pc_itr5 (fun S l h t s => ∃ L H T O c, DFX σ s S l h t L H T O c ∧ MCH σ s S L H O c) ?_ ⟨0, 1, 0, fun _ => 0, fun _ => 0, ⟨F3, ⟨k_0, k_1, k_0⟩, ?_⟩, ?_⟩
  · intro ag S l h t s I ih
    obtain ⟨L, H, T, O, c, ⟨f, ⟨l1, l2, l3⟩, D⟩, MC⟩ := I
    have bd := D.bd hE hn
    have fs : ∀ {k : Nat}, k ≠ 39 ∧ k ≠ 40 ∧ k ≠ 42 ∧ k ≠ 43 → s.1 k = σ.1 k := fun {k} hk => f.1 k (by simp; omega)
    refine pc_jnI0 (H = 0) (fun hH => ?_) (fun k hk => ?_)
    · subst hH
      obtain ⟨q1, q2⟩ := D.fin hE (fun A => by
        obtain ⟨k, R, m1, m2⟩ := MC
        refine ⟨fEx σ, k, bL S, L, R, hE, m1, fun b hb => ?_⟩
        have din := (DSN.beg (fE := fEx σ)).go (V := EVx σ) (J := Jx σ) (fE := fEx σ) (n := nX σ) k
        rw [m1] at din
        cases w : R b with
        | some r => exact ⟨r, rfl, m2 b r w⟩
        | none =>
          obtain ⟨p, p1, _⟩ := din b w (A b hb)
          exact absurd p1 List.not_mem_nil)
      rw [fs (by decide)]
      refine pc_ite (fun c1 => ?_) (fun c1 => ?_)
      · rw [fa_eq] at c1
        have e : L = nX σ := by omega
        exact pc_ret ⟨f, ⟨fun _ => q1.mp e, fun _ => n1⟩, fun _ => q2 e⟩
      · rw [fa_eq] at c1
        have e : L ≠ nX σ := by omega
        exact pc_ret ⟨f, ⟨fun z => absurd rfl z, fun z => absurd (q1.mpr z) e⟩, fun z => absurd rfl z⟩
    refine pc_ite (fun c1 => ?_) (fun c1 => ?_)
    · rw [fa_le, k_M] at c1
      exfalso
      omega
    refine pc_ite (fun c2 => hk (by rw [fa_le, k_0] at c2; omega)) (fun c2 => ?_)
    rw [fa_le, k_0] at c2
    have hH : 0 < H := by omega
    obtain ⟨⟨a1, a2, a3⟩, ⟨b1, b2, b3, b4⟩, ⟨d1, d2, d3, d4⟩, _⟩ := id D
    obtain ⟨x1, x2, x3, x4⟩ := a2 (H - 1) (by omega)
    have hm : (h - 1).toInt = h.toInt - 1 := i32_m1 (by omega)
    have cm : (h - 1).toNatClampNeg = H - 1 := by
      have := clamp_I (x := h - 1) (by omega)
      omega
    refine pc_ix (fun _ => ?_)
    rw [cm]
    refine pc_lt fun v9 e9 => ?_
    refine pc_ix (fun _ => ?_)
    refine pc_lt fun v10 e10 => ?_
    obtain ⟨b, hb⟩ : ∃ b, O (H - 1) = b := ⟨_, rfl⟩
    rw [hb] at x1 x2 x3 x4
    have v9b : v9.toInt = b := by rw [e9]; exact x1
    have v10b : v10.toInt = fEx σ b + c b := by rw [e10]; exact x2
    have bdeg := b2 b x3
    have mo := hE.mono x3
    obtain ⟨y1, y2, _⟩ := hE.1 b x3
    refine pc_ix (fun _ => ?_)
    have h9 : (v9 + 1).toInt = b + 1 := by rw [i1 (by omega)]; omega
    have c9 : (v9 + 1).toNatClampNeg = b + 1 := by
      have := clamp_I (x := v9 + 1) (by omega)
      omega
    have c9b : v9.toNatClampNeg = b := by
      have := clamp_I (x := v9) (by omega)
      omega
    rw [c9, fs (show (28 : Nat) ≠ 39 ∧ (28 : Nat) ≠ 40 ∧ (28 : Nat) ≠ 42 ∧ (28 : Nat) ≠ 43 by decide)]
    refine pc_lt fun v11 e11 => ?_
    have g28 := gX_28 hB (b + 1)
    have v11b : v11.toInt = fEx σ (b + 1) := by rw [e11]; exact (Int.toNat_of_nonneg g28.1).symm
    refine pc_jnI4 (fun S2 l2 h2 s2 => ∃ L2 H2 O2 c2, FR MS8 [] σ s2 ∧ (l2.toInt = (L2 : Nat) ∧ h2.toInt = (H2 : Nat)) ∧ DFI (EVx σ) (Jx σ) (nX σ) (fEx σ) (ri (s2.1 42)) (ri (s2.1 43)) (ri (s2.1 39)) (ri (s2.1 40)) (bL S2) L2 H2 (T + 1) O2 c2 ∧ MCH σ s2 S2 L2 H2 O2 c2) (fun S2 l2 h2 s2 J => ?_) (fun k2 hk2 => ?_)
    · obtain ⟨L2, H2, O2, c2, j1, ⟨j2, j3⟩, j4, j5⟩ := J
      refine pc_lt fun x13 e13 => ?_
      have v13 : x13.toInt = ((T + 1 : Nat) : Int) := by rw [e13, i1 (by omega)]; omega
      exact ih S2 l2 h2 x13 s2 ⟨L2, H2, T + 1, O2, c2, ⟨j1, ⟨j2, j3, v13⟩, j4⟩, j5⟩
    obtain ⟨mk, mR, m1, m2⟩ := MC
    have top : stkO (fEx σ) O c H = (b, fEx σ b + c b) :: stkO (fEx σ) O c (H - 1) := by
      obtain ⟨H', rfl⟩ : ∃ H', H = H' + 1 := ⟨H - 1, by omega⟩
      have hb' : O H' = b := hb
      show (O H', fEx σ (O H') + c (O H')) :: _ = _
      rw [hb']
      rfl
    rw [top] at m1
    have low : ∀ i, i < H - 1 → O i ≠ b := fun i hi z => by
      have := a3 i (H - 1) (by omega) (by omega) (by rw [hb]; exact z)
      omega
    refine pc_ite (fun c3 => ?_) (fun c3 => ?_)
    · rw [fa_eq, v10b, v11b] at c3
      refine pc_lt fun x15 e15 => ?_
      have v15 : x15.toInt = ((H - 1 : Nat) : Int) := by rw [e15, i_m1 (by omega) (by omega)]; omega
      refine pc_lt fun x16 e16 => ?_
      have v16 : x16.toInt = ((L + 1 : Nat) : Int) := by rw [e16, i1 (by have := fb_ct_le (bL S) (nX σ); omega)]; omega
      have hle := fb_ct_le (bL S) (nX σ)
      have hs : ((σ.1 20 0) - x16).toInt = ((nX σ - (L + 1) : Nat) : Int) := by rw [fb_subI (by omega) (by omega)]; omega
      have cs : ((σ.1 20 0) - x16).toNatClampNeg = nX σ - (L + 1) := by
        have := clamp_I (x := (σ.1 20 0) - x16) (by omega)
        omega
      rw [fs (show (20 : Nat) ≠ 39 ∧ (20 : Nat) ≠ 40 ∧ (20 : Nat) ≠ 42 ∧ (20 : Nat) ≠ 43 by decide), cs, c9b]
      refine pc_ix (fun _ => ?_)
      refine pc_lt fun s17 e17 => ?_
      refine pc_ix (fun _ => ?_)
      have f17 : s17.1 20 = σ.1 20 := by rw [e17, sti_o (by decide)]; exact fs (by decide)
      rw [f17]
      refine pc_lt fun s18 e18 => ?_
      refine hk2 S x16 x15 s18 ⟨L + 1, H - 1, O, c, by rw [e18, e17]; exact FR.st (FR.st f (by decide)) (by decide), ⟨v16, v15⟩, ?_, ?_⟩
      rotate_left
      · refine ⟨mk + 1, dpl b (nX σ - (L + 1)) mR, ?_, fun x r hx => ?_⟩
        · rw [dgo_one, m1, dstp_pop (by omega)]
        · show (s18.1 40 x).toInt = (r : Int)
          unfold dpl at hx
          rw [e18, sti_if]
          by_cases q : x = b
          · rw [if_pos q] at hx ⊢
            rw [hs, Option.some.inj hx]
          · rw [if_neg q] at hx ⊢
            rw [e17, sti_o (by decide)]
            exact m2 x r hx
      have r42 : s18.1 42 = s.1 42 := by rw [e18, sti_o (by decide), e17, sti_o (by decide)]
      have r43 : s18.1 43 = s.1 43 := by rw [e18, sti_o (by decide), e17, sti_o (by decide)]
      rw [r42, r43]
      refine D.pop hE hH hb (by omega) (fun p => ?_) (fun x => ?_)
      · show (s18.1 39 p).toInt = if p = nX σ - (L + 1) then (b : Int) else (s.1 39 p).toInt
        rw [e18, sti_o (by decide), e17, sti_if]
        by_cases q : p = nX σ - (L + 1)
        · rw [if_pos q, if_pos q]; exact v9b
        · rw [if_neg q, if_neg q]
      · show (s18.1 40 x).toInt = if x = b then ((nX σ - (L + 1) : Nat) : Int) else (s.1 40 x).toInt
        rw [e18, sti_if]
        by_cases q : x = b
        · rw [if_pos q, if_pos q]; exact hs
        · rw [if_neg q, if_neg q, e17, sti_o (by decide)]
    · rw [fa_eq, v10b, v11b] at c3
      have hc : c b < fEx σ (b + 1) - fEx σ b := by omega
      have ed := hE.src x3 (e := fEx σ b + c b) (by omega) (by omega)
      refine pc_lt fun v19 e19 => ?_
      have c19 : v19.toNatClampNeg = H - 1 := by rw [e19]; exact cm
      refine pc_ix (fun _ => ?_)
      rw [c19]
      refine pc_lt fun v20 e20 => ?_
      refine pc_ix (fun _ => ?_)
      refine pc_lt fun s21 e21 => ?_
      have v20b : v20.toInt = fEx σ b + c b := by rw [e20]; exact x2
      have v20s : (v20 + 1).toInt = ((fEx σ b + c b + 1 : Nat) : Int) := by rw [i1 (by omega)]; omega
      have F21 : FR MS8 [] σ s21 := by rw [e21]; exact FR.st f (by decide)
      have c10 : v10.toNatClampNeg = fEx σ b + c b := by
        have := clamp_I (x := v10) (by omega)
        omega
      refine pc_ix (fun _ => ?_)
      rw [c10, F21.1 30 (by decide)]
      refine pc_lt fun v22 e22 => ?_
      refine pc_ix (fun _ => ?_)
      rw [F21.1 37 (by decide)]
      refine pc_lt fun v23 e23 => ?_
      obtain ⟨y, hy⟩ : ∃ y, gB (EVx σ) (fEx σ b + c b) = y := ⟨_, rfl⟩
      have g30 := gX_30 hB (fEx σ b + c b)
      have yn := (hE.2 _ ed.1).2
      rw [hy] at yn
      have v22y : v22.toInt = y := by
        rw [e22, ← hy]
        exact (Int.toNat_of_nonneg g30.1).symm
      have c22 : v22.toNatClampNeg = y := by
        have := clamp_I (x := v22) (by omega)
        omega
      have ec : ∀ x, (fun x => if x = b then c b + 1 else c x) x = if x = b then c b + 1 else c x := fun _ => rfl
      have r42 : s21.1 42 = s.1 42 := by rw [e21, sti_o (by decide)]
      have r39 : s21.1 39 = s.1 39 := by rw [e21, sti_o (by decide)]
      have r40 : s21.1 40 = s.1 40 := by rw [e21, sti_o (by decide)]
      have r43 : ∀ i : Nat, ri (s21.1 43) i = if i = H - 1 then ((fEx σ b + c b + 1 : Nat) : Int) else ri (s.1 43) i := fun i => by
        show (s21.1 43 i).toInt = if i = H - 1 then _ else (s.1 43 i).toInt
        rw [e21, sti_if]
        by_cases q : i = H - 1
        · rw [if_pos q, if_pos q]; exact v20s
        · rw [if_neg q, if_neg q]
      have old : (Jx σ (fEx σ b + c b) = false → bL S y = true) → PC (k2 S l h s21) (fun r => FR MS8 [] σ r.2 ∧ (r.1 ≠ 0 ↔ ∀ b, b < nX σ → AG (EVx σ) (Jx σ) b) ∧ (r.1 ≠ 0 → PRM (EVx σ) (Jx σ) (nX σ) (ri (r.2.1 39)) (ri (r.2.1 40)))) := fun hx => by
        refine hk2 S l h s21 ⟨L, H, O, fun x => if x = b then c b + 1 else c x, F21, ⟨l1, l2⟩, ?_, ?_⟩
        rotate_left
        · refine ⟨mk + 1, mR, ?_, fun x r hr => by rw [r40]; exact m2 x r hr⟩
          rw [dgo_one, m1, dstp_old (by omega) (fun z => by rw [hy] at z; rw [hx z.1] at z; exact absurd z.2 (by decide))]
          obtain ⟨H', e⟩ : ∃ H', H = H' + 1 := ⟨H - 1, by omega⟩
          subst e
          have hb' : O H' = b := hb
          show ((b, fEx σ b + c b + 1) :: stkO (fEx σ) O c H', _) = ((O H', fEx σ (O H') + (fun x => if x = b then c b + 1 else c x) (O H')) :: stkO (fEx σ) O (fun x => if x = b then c b + 1 else c x) H', _)
          rw [stkO_cg (O := O) (c := c) (O2 := O) (c2 := fun x => if x = b then c b + 1 else c x) H' (fun i hi => ⟨rfl, if_neg (low i hi)⟩), hb']
          (try dsimp only)
          rw [if_pos rfl]
          rfl
        rw [r42, r39, r40]
        exact D.old hH hb hc (by rw [hy]; exact hx) r43 ec
      refine pc_ite (fun c4 => ?_) (fun c4 => ?_)
      · rw [fa_eq, k_0, e23] at c4
        refine pc_calp (t_isInB (x := S) (i := v22) (by omega) (by omega)) (fun v25 h25 => ?_)
        rw [c22] at h25
        refine pc_ite (fun c5 => ?_) (fun c5 => ?_)
        · have sy : bL S y = false := bf (h25.mp c5)
          refine pc_lt fun x27 e27 => ?_
          refine pc_ix (fun _ => ?_)
          have ch : h.toNatClampNeg = H := by
            have := clamp_I (x := h) (by omega)
            omega
          rw [ch]
          refine pc_lt fun s28 e28 => ?_
          refine pc_ix (fun _ => ?_)
          have f28 : s28.1 28 = σ.1 28 := by rw [e28, sti_o (by decide)]; exact F21.1 28 (by decide)
          rw [c22, f28]
          refine pc_lt fun v29 e29 => ?_
          refine pc_ix (fun _ => ?_)
          refine pc_lt fun s30 e30 => ?_
          refine pc_lt fun x31 e31 => ?_
          have v31 : x31.toInt = ((H + 1 : Nat) : Int) := by rw [e31, i1 (by omega)]; omega
          have g28y := gX_28 hB y
          have v29y : v29.toInt = fEx σ y := by rw [e29]; exact (Int.toNat_of_nonneg g28y.1).symm
          have bs : ∀ x, bL x27 x = (bL S x || decide (x = y)) := fun x => by rw [e27, bL_set (v := v22) (by omega) (by omega), c22]
          have ct := set_ct (x := S) (v := v22) (n := nX σ) (by omega) (by omega) (by omega) (by rw [c22]; exact sy)
          rw [← e27] at ct
          refine hk2 x27 l x31 s30 ⟨L, H + 1, fun i => if i = H then y else O i, fun x => if x = b then c b + 1 else c x, by rw [e30, e28]; exact FR.st (FR.st F21 (by decide)) (by decide), ⟨l1, v31⟩, ?_, ?_⟩
          rotate_left
          · have yb : ¬ y = b := fun z => by rw [z, x4] at sy; exact absurd sy (by decide)
            have cy0 : c y = 0 := b4 y sy
            refine ⟨mk + 1, mR, ?_, fun x r hr => ?_⟩
            · rw [dgo_one, m1, dstp_new (by omega) ⟨Jx_f.mpr c4, by rw [hy]; exact sy⟩, hy]
              obtain ⟨H', e⟩ : ∃ H', H = H' + 1 := ⟨H - 1, by omega⟩
              subst e
              have hb' : O H' = b := hb
              have sb : dmk y (bL S) = bL x27 := funext fun x => (bs x).symm
              rw [sb]
              show ((y, fEx σ y) :: (b, fEx σ b + c b + 1) :: stkO (fEx σ) O c H', _) = (((fun i => if i = H' + 1 then y else O i) (H' + 1), fEx σ ((fun i => if i = H' + 1 then y else O i) (H' + 1)) + (fun x => if x = b then c b + 1 else c x) ((fun i => if i = H' + 1 then y else O i) (H' + 1))) :: ((fun i => if i = H' + 1 then y else O i) H', fEx σ ((fun i => if i = H' + 1 then y else O i) H') + (fun x => if x = b then c b + 1 else c x) ((fun i => if i = H' + 1 then y else O i) H')) :: stkO (fEx σ) (fun i => if i = H' + 1 then y else O i) (fun x => if x = b then c b + 1 else c x) H', _)
              rw [stkO_cg (O := O) (c := c) (O2 := fun i => if i = H' + 1 then y else O i) (c2 := fun x => if x = b then c b + 1 else c x) H' (fun i hi => ⟨if_neg (by omega), if_neg (low i hi)⟩)]
              (try dsimp only)
              rw [if_pos rfl, if_neg yb, cy0, if_neg (show ¬ H' = H' + 1 by omega), hb', if_pos rfl]
              rfl
            · have q40 : s30.1 40 = s.1 40 := by rw [e30, sti_o (by decide), e28, sti_o (by decide)]; exact r40
              rw [q40]; exact m2 x r hr
          have q39 : s30.1 39 = s.1 39 := by rw [e30, sti_o (by decide), e28, sti_o (by decide)]; exact r39
          have q40 : s30.1 40 = s.1 40 := by rw [e30, sti_o (by decide), e28, sti_o (by decide)]; exact r40
          rw [q39, q40]
          refine D.new hE hH hb hc (Jx_f.mpr c4) hy sy bs ct (fun i => ?_) (fun i => ?_) (fun _ => rfl) (fun _ => rfl)
          · show (s30.1 42 i).toInt = if i = H then (y : Int) else (s.1 42 i).toInt
            rw [e30, sti_o (by decide), e28, sti_if, r42]
            by_cases q : i = H
            · rw [if_pos q, if_pos q]; exact v22y
            · rw [if_neg q, if_neg q]
          · show (s30.1 43 i).toInt = if i = H then (fEx σ y : Int) else if i = H - 1 then ((fEx σ b + c b + 1 : Nat) : Int) else (s.1 43 i).toInt
            rw [e30, sti_if]
            by_cases q : i = H
            · rw [if_pos q, if_pos q]; exact v29y
            · rw [if_neg q, if_neg q, e28, sti_o (by decide)]
              exact r43 i
        · exact old (fun _ => by
            cases w : bL S y with
            | true => rfl
            | false => exact absurd (h25.mpr (by rw [w]; decide)) c5)
      · rw [fa_eq, k_0, e23] at c4
        exact old (fun z => absurd (Jx_f.mp z) c4)
  · have w42 : ri (s3.1 42) 0 = 0 := by
      show (s3.1 42 0).toInt = 0
      rw [e3, sti_o (by decide), e1, sti_s]; exact k_0
    have w43 : ri (s3.1 43) 0 = fEx σ 0 := by
      show (s3.1 43 0).toInt = fEx σ 0
      rw [e3, sti_s, e2]
      exact (Int.toNat_of_nonneg (gX_28 hB 0).1).symm
    exact DFI.ini hE hn w42 w43 one (ct_one hn)
  · refine ⟨0, fun _ => none, ?_, fun b r h => absurd h (by simp)⟩
    have e : dmk 0 (fun _ => false) = bL (1 : Int64) := funext fun i => by rw [one i]; unfold dmk; rw [Bool.false_or]
    show ([(0, fEx σ 0)], dmk 0 (fun _ => false), 0, fun _ => none) = (stkO (fEx σ) (fun _ => 0) (fun _ => 0) 1, bL 1, 0, fun _ => none)
    rw [e]
    rfl
