abbrev eA (σ : Sto) (e : Nat) : Nat := (σ.1 27 e).toNatClampNeg
abbrev eB (σ : Sto) (e : Nat) : Nat := (σ.1 28 e).toNatClampNeg
/-- an edge that is kept -/
def KP (σ : Sto) (e : Nat) : Prop := e < nE σ ∧ (σ.1 30 e).toInt = 0
def RSt (σ : Sto) (a : Nat) (W S : Int64) : Prop := bL S a = true ∧ (∀ e, KP σ e → bL S (eA σ e) = true → bL W (eB σ e) = false → bL S (eB σ e) = true) ∧ ∀ P : Nat → Prop, P a → (∀ e, KP σ e → P (eA σ e) → bL W (eB σ e) = false → P (eB σ e)) → ∀ i, bL S i = true → P i
theorem s_has {x : Int64} {v : Int32} (h : 0 ≤ v.toInt ∧ v.toInt ≤ 39) : OK (f_X12_has x v) (fun r => (0 ≤ r.toInt ∧ r.toInt ≤ 1) ∧ (r.toInt = 1 ↔ bL x v.toNatClampNeg = true)) :=
  ok_imp (s_X12_has (x1 := x) (x2 := v)) (fun r q => ⟨q.1, q.2 h.1 (by omega)⟩)
theorem bf {b : Bool} (h : ¬ b = true) : b = false := by cases b; rfl; exact absurd rfl h
theorem nE_le {σ : Sto} (hB : BM σ) : nE σ ≤ 120 ∧ (nE σ : Int) = (σ.1 32 0).toInt := by
  have := gM_32 hB 0
  unfold nE; omega
theorem e39 {σ : Sto} (hB : BM σ) (e : Nat) : eA σ e ≤ 39 ∧ eB σ e ≤ 39 ∧ (eA σ e : Int) = (σ.1 27 e).toInt ∧ (eB σ e : Int) = (σ.1 28 e).toInt := by
  have g1 := gM_27 hB e
  have g2 := gM_28 hB e
  have c1 := clamp_I g1.1
  have c2 := clamp_I g2.1
  unfold eA eB; omega
theorem s_reached {σ : Sto} {x1 : Int32} {W : Int64} (hB : BM σ) (hx : 0 ≤ x1.toInt ∧ x1.toInt ≤ 39) : OK (f_X12_reached x1 W σ) (fun S => RSt σ x1.toNatClampNeg W S) := by
  have k_0 : (0 : Int32).toInt = 0 := by decide +kernel
  have k_1 : (1 : Int32).toInt = 1 := by decide +kernel
  have hE := nE_le hB
  unfold f_X12_reached
  refine ok_lt fun S0 e0 => ?_
  have hm : ∀ P : Nat → Prop, P x1.toNatClampNeg → (∀ e, KP σ e → P (eA σ e) → bL W (eB σ e) = false → P (eB σ e)) → ∀ i, bL S0 i = true → P i := fun P h1 _ i hi => by
    rw [e0, bL_one hx.1 (by omega)] at hi
    rw [of_decide_eq_true hi]; exact h1
  refine ok_itr2 (fun n S g => n = 2 * (65 - fb_ct (bL S) 64) + g.toInt.toNat ∧ (g.toInt = 0 ∨ g.toInt = 1) ∧ bL S x1.toNatClampNeg = true ∧ (∀ P : Nat → Prop, P x1.toNatClampNeg → (∀ e, KP σ e → P (eA σ e) → bL W (eB σ e) = false → P (eB σ e)) → ∀ i, bL S i = true → P i) ∧ (g.toInt = 0 → ∀ e, KP σ e → bL S (eA σ e) = true → bL W (eB σ e) = false → bL S (eB σ e) = true)) ?_ (n := 2 * (65 - fb_ct (bL S0) 64) + (1 : Int32).toInt.toNat) ⟨rfl, Or.inr k_1, by rw [e0, bL_one hx.1 (by omega)]; simp, hm, fun z => by omega⟩ (by rw [k_1]; have : (1 : Int).toNat = 1 := rfl; unfold LF; omega)
  intro ag n S g I ih
  obtain ⟨hn, h01, h1, h2, h3⟩ := I
  refine ok_ite (fun c1 => ?_) (fun c1 => ?_)
  · rw [fa_eq, k_0] at c1
    exact ok_ret ⟨h1, h3 c1, h2⟩
  · rw [fa_eq, k_0] at c1
    have hct := fb_ct_le (bL S) 64
    refine ok_itr3 (fun n T f e => n = (121 - e.toInt).toNat ∧ 0 ≤ e.toInt ∧ e.toInt ≤ (σ.1 32 0).toInt ∧ (f.toInt = 0 ∨ f.toInt = 1) ∧ bL T x1.toNatClampNeg = true ∧ (∀ P : Nat → Prop, P x1.toNatClampNeg → (∀ e, KP σ e → P (eA σ e) → bL W (eB σ e) = false → P (eB σ e)) → ∀ i, bL T i = true → P i) ∧ (f.toInt = 0 → T = S ∧ ∀ d : Nat, (d : Int) < e.toInt → KP σ d → bL T (eA σ d) = true → bL W (eB σ d) = false → bL T (eB σ d) = true) ∧ (f.toInt = 1 → fb_ct (bL S) 64 + 1 ≤ fb_ct (bL T) 64)) ?_ (n := (121 - (0 : Int32).toInt).toNat) ⟨rfl, by omega, by omega, Or.inl k_0, h1, h2, fun _ => ⟨rfl, fun d hd => by omega⟩, fun z => by omega⟩ (by rw [k_0]; decide)
    intro ag2 n2 T f e I2 ih2
    obtain ⟨hn2, a0, aE, f01, a1, a2, a3, a4⟩ := I2
    have ce := clamp_I a0
    have hctT := fb_ct_le (bL T) 64
    refine ok_ite (fun c2 => ?_) (fun c2 => ?_)
    · rw [fa_le] at c2
      refine ih (2 * (65 - fb_ct (bL T) 64) + f.toInt.toNat) T f ?_ ⟨rfl, f01, a1, a2, fun z d hd => (a3 z).2 d (by have := hd.1; unfold nE at this; omega) hd⟩
      rcases f01 with z | z
      · rw [hn, (a3 z).1]; omega
      · have := a4 z; omega
    · rw [fa_le] at c2
      have ie : 0 ≤ e.toInt ∧ e.toInt < 120 := by omega
      have ex : (e + 1).toInt = e.toInt + 1 := i1 (by omega)
      have g27 := gM_27 hB e.toNatClampNeg
      have g28 := gM_28 hB e.toNatClampNeg
      -- nothing new
      have skip : (KP σ e.toNatClampNeg → bL T (eA σ e.toNatClampNeg) = true → bL W (eB σ e.toNatClampNeg) = false → bL T (eB σ e.toNatClampNeg) = true) → OK (lt (e + 1) fun x7_8 => ag2 T f x7_8) (fun S => RSt σ x1.toNatClampNeg W S) := fun hs => ok_lt fun x8 e8 => by
        subst e8
        refine ih2 (121 - (e + 1).toInt).toNat T f (e + 1) (by rw [hn2, ex]; omega) ⟨rfl, by omega, by omega, f01, a1, a2, fun z => ⟨(a3 z).1, fun d hd => ?_⟩, a4⟩
        by_cases q : d = e.toNatClampNeg
        · rw [q]; exact hs
        · exact (a3 z).2 d (by omega)
      refine ok_ix ie ?_
      refine ok_lt fun v6 e6 => ?_
      refine ok_jn ?_
      refine ok_ite (fun c3 => ?_) (fun c3 => ?_)
      · rw [fa_eq, k_0, e6] at c3
        refine ok_ix ie ?_
        refine ok_lt fun v10 e10 => ?_
        subst e10
        refine ok_calp (s_has (x := T) g27) (fun v11 h11 => ?_)
        refine ok_ite (fun c4 => ?_) (fun c4 => ?_)
        · rw [fa_eq, k_0] at c4
          exact skip (fun _ z => by have := h11.2.mpr z; omega)
        · rw [fa_eq, k_0] at c4
          have h111 := h11.1
          have hA := h11.2.mp (by omega)
          refine ok_ix ie ?_
          refine ok_lt fun v13 e13 => ?_
          subst e13
          refine ok_calp (s_has (x := T) g28) (fun v14 h14 => ?_)
          refine ok_ite (fun c5 => ?_) (fun c5 => ?_)
          · rw [fa_eq, k_0] at c5
            have hBf : bL T (eB σ e.toNatClampNeg) = false := bf (fun z => by have := h14.2.mpr z; omega)
            refine ok_ix ie ?_
            refine ok_lt fun v16 e16 => ?_
            subst e16
            refine ok_calp (s_has (x := W) g28) (fun v17 h17 => ?_)
            refine ok_ite (fun c6 => ?_) (fun c6 => ?_)
            · rw [fa_eq, k_0] at c6
              have hW : bL W (eB σ e.toNatClampNeg) = false := bf (fun z => by have := h17.2.mpr z; omega)
              refine ok_ix ie ?_
              refine ok_lt fun v19 e19 => ?_
              subst e19
              refine ok_lt fun T2 eT2 => ?_
              refine ok_lt fun x8 e8 => ?_
              subst e8
              have bs : ∀ i, bL T2 i = (bL T i || decide (i = eB σ e.toNatClampNeg)) := fun i => by rw [eT2]; exact bL_set g28.1 (by omega) i
              have ct := set_ct (x := T) (v := σ.1 28 e.toNatClampNeg) (n := 64) g28.1 (by omega) (by have := (e39 hB e.toNatClampNeg).2.1; unfold eB at this; omega) hBf
              rw [← eT2] at ct
              refine ih2 (121 - (e + 1).toInt).toNat T2 1 (e + 1) (by rw [hn2, ex]; omega) ⟨rfl, by omega, by omega, Or.inr k_1, by rw [bs, a1]; rfl, fun P p1 p2 i hi => ?_, fun z => by omega, fun _ => ?_⟩
              · rw [bs] at hi
                rcases Bool.or_eq_true_iff.mp hi with q | q
                · exact a2 P p1 p2 i q
                · rw [of_decide_eq_true q]
                  exact p2 e.toNatClampNeg ⟨by unfold nE; omega, c3⟩ (a2 P p1 p2 _ hA) hW
              · rcases f01 with z | z
                · rw [(a3 z).1] at ct; omega
                · have := a4 z; omega
            · rw [fa_eq, k_0] at c6
              have h171 := h17.1
              exact skip (fun _ _ z => by have := h17.2.mp (by omega); unfold eB at z; rw [z] at this; exact absurd this (by decide))
          · rw [fa_eq, k_0] at c5
            have h141 := h14.1
            exact skip (fun _ _ _ => h14.2.mp (by omega))
      · rw [fa_eq, k_0, e6] at c3
        exact skip (fun z => absurd z.2 c3)
theorem all_b : ∀ n, n < 41 → ∀ i, i < 64 → bL (((1 : Int64) <<< ((nI n).toInt64 &&& 63)) - 1) i = decide (i < n) := by decide +kernel
theorem bL_hi {x : Int64} {i : Nat} (h : 64 ≤ i) : bL x i = false := by unfold bL; exact BitVec.getLsbD_of_ge _ _ h
theorem s_all {σ : Sto} (hB : BM σ) : OK (f_X12_all σ) (fun S => ∀ i, bL S i = decide (i < nB σ)) := by
  have hn := nB_le hB
  unfold f_X12_all
  refine ok_ret (fun i => ?_)
  have e : σ.1 26 0 = nI (nB σ) := by rw [nI_id (x := σ.1 26 0) (by omega)]; rfl
  rw [e]
  by_cases q : i < 64
  · exact all_b _ (by omega) i q
  · rw [bL_hi (by omega)]; exact (decide_eq_false (by omega)).symm
/-- b is come to from 0 without d -/
def RW (σ : Sto) (d b : Nat) : Prop := ∀ P : Nat → Prop, P 0 → (∀ e, KP σ e → P (eA σ e) → eB σ e ≠ d → P (eB σ e)) → P b
theorem RSt.rw_ {σ : Sto} (hB : BM σ) {d : Nat} {v : Int32} {S : Int64} (hv : 0 ≤ v.toInt ∧ v.toInt ≤ 39) (hd : v.toNatClampNeg = d) (h : RSt σ 0 ((1 : Int64) <<< (v.toInt64 &&& 63)) S) (b : Nat) : bL S b = true ↔ RW σ d b := by
  obtain ⟨h1, h2, h3⟩ := h
  have bo : ∀ i, bL ((1 : Int64) <<< (v.toInt64 &&& 63)) i = decide (i = d) := fun i => by rw [bL_one hv.1 (by omega), hd]
  constructor
  · intro q P p1 p2
    exact h3 P p1 (fun e he ha hw => p2 e he ha (by rw [bo] at hw; exact of_decide_eq_false hw)) b q
  · intro q
    exact q (fun i => bL S i = true) h1 (fun e he ha hw => h2 e he ha (by rw [bo]; exact decide_eq_false hw))
def DOM (σ s : Sto) : Prop := ∀ b, b < nB σ → ∀ d, d < nB σ → (bL (s.2 0 b) d = true ↔ (d = 0 ∨ ¬ RW σ d b))
def BKe (s : Sto) : Prop := ∀ e, e < nE s → ((s.1 31 e).toInt ≠ 0 ↔ (KP s e ∧ bL (s.2 0 (eA s e)) (eB s e) = true))
theorem KP.cg {σ s : Sto} {e : Nat} (e30 : s.1 30 = σ.1 30) (e32 : s.1 32 = σ.1 32) : KP s e ↔ KP σ e := by unfold KP nE; rw [e30, e32]
theorem RW.cg {σ s : Sto} {d b : Nat} (e27 : s.1 27 = σ.1 27) (e28 : s.1 28 = σ.1 28) (e30 : s.1 30 = σ.1 30) (e32 : s.1 32 = σ.1 32) : RW s d b ↔ RW σ d b := by unfold RW KP nE eA eB; rw [e27, e28, e30, e32]
theorem stl_if (σ : Sto) (k i : Nat) (v : Int64) (j : Nat) : (stl σ k i v).2 k j = if j = i then v else σ.2 k j := by
  rw [stl_at]
  by_cases q : j = i
  · rw [if_pos ⟨rfl, q⟩, if_pos q]
  · rw [if_neg (fun z => q z.2), if_neg q]
theorem frD {σ s : Sto} (h : FR [31] [0] σ s) {k : Nat} (hk : k ≠ 31) : s.1 k = σ.1 k := h.1 k (by simpa using hk)
theorem s_laysDominators {σ : Sto} (hB : BM σ) (hF : ∀ e, e < nE σ → eA σ e < nB σ ∧ eB σ e < nB σ) : OK (f_X12_laysDominators σ) (fun s => BM s ∧ FR [31] [0] σ s ∧ DOM σ s ∧ BKe s) := by
  have k_0 : (0 : Int32).toInt = 0 := by decide +kernel
  have k_1 : (1 : Int32).toInt = 1 := by decide +kernel
  have hn := nB_le hB
  have hE := nE_le hB
  unfold f_X12_laysDominators
  refine ok_itr2 (fun n x s => n = (41 - x.toInt).toNat ∧ 0 ≤ x.toInt ∧ x.toInt ≤ (nB σ : Int) ∧ BM s ∧ FR [31] [0] σ s ∧ ∀ b : Nat, (b : Int) < x.toInt → s.2 0 b = 0) ?_ (n := (41 - (0 : Int32).toInt).toNat) ⟨rfl, by omega, by omega, hB, FR.rf, fun b hb => by omega⟩ (by rw [k_0]; decide)
  intro ag n x s I ih
  obtain ⟨hnn, x0, xb, b1, b2, b3⟩ := I
  have cx := clamp_I x0
  have q26 := frD b2 (show (26 : Nat) ≠ 31 by decide)
  refine ok_ite (fun c1 => ?_) (fun c1 => ?_)
  · rw [fa_le, q26] at c1
    -- d by d
    refine ok_itr2 (fun n d t => n = (41 - d.toInt).toNat ∧ 0 ≤ d.toInt ∧ d.toInt ≤ (nB σ : Int) ∧ BM t ∧ FR [31] [0] σ t ∧ ∀ b, b < nB σ → ∀ i, bL (t.2 0 b) i = true ↔ ((i : Int) < d.toInt ∧ (i = 0 ∨ ¬ RW σ i b))) ?_ (n := (41 - (0 : Int32).toInt).toNat) ⟨rfl, by omega, by omega, b1, b2, fun b hb i => by rw [b3 b (by omega), bL_0]; exact ⟨fun z => absurd z (by decide), fun z => by omega⟩⟩ (by rw [k_0]; decide)
    intro ag2 n2 d t I2 ih2
    obtain ⟨hn2, d0, db, t1, t2, t3⟩ := I2
    have cd := clamp_I d0
    have p26 := frD t2 (show (26 : Nat) ≠ 31 by decide)
    have p32 := frD t2 (show (32 : Nat) ≠ 31 by decide)
    refine ok_ite (fun c2 => ?_) (fun c2 => ?_)
    · rw [fa_le, p26] at c2
      -- edges that are back
      refine ok_itr2 (fun n e u => n = (121 - e.toInt).toNat ∧ 0 ≤ e.toInt ∧ e.toInt ≤ (σ.1 32 0).toInt ∧ BM u ∧ FR [31] [0] σ u ∧ (u.2 0 = t.2 0) ∧ ∀ c : Nat, (c : Int) < e.toInt → ((u.1 31 c).toInt ≠ 0 ↔ (KP u c ∧ bL (u.2 0 (eA u c)) (eB u c) = true))) ?_ (n := (121 - (0 : Int32).toInt).toNat) ⟨rfl, by omega, by omega, t1, t2, rfl, fun c hc => by omega⟩ (by rw [k_0]; decide)
      intro ag3 n3 e u I3 ih3
      obtain ⟨hn3, e0, eE, u1, u2, u3, u4⟩ := I3
      have ce := clamp_I e0
      have r32 := frD u2 (show (32 : Nat) ≠ 31 by decide)
      refine ok_ite (fun c3 => ?_) (fun c3 => ?_)
      · rw [fa_le, r32] at c3
        refine ok_ret ⟨u1, u2, fun b hb i hi => ?_, fun c hc => u4 c (by unfold nE at hc; rw [r32] at hc; omega)⟩
        rw [u3, t3 b hb i]
        exact ⟨fun z => z.2, fun z => ⟨by omega, z⟩⟩
      · rw [fa_le, r32] at c3
        have ie : 0 ≤ e.toInt ∧ e.toInt < 120 := by omega
        have ex : (e + 1).toInt = e.toInt + 1 := i1 (by omega)
        have heE : e.toNatClampNeg < nE σ := by omega
        have hf := hF e.toNatClampNeg heE
        have g27 := gM_27 u1 e.toNatClampNeg
        have g28 := gM_28 u1 e.toNatClampNeg
        have wr : ∀ w : Int32, (w.toInt = 0 ∨ w.toInt = 1) → (w.toInt ≠ 0 ↔ (KP u e.toNatClampNeg ∧ bL (u.2 0 (eA u e.toNatClampNeg)) (eB u e.toNatClampNeg) = true)) → OK (bz w <| ix 120 e <| lt (sti u 31 e.toNatClampNeg w) fun s_9 => lt (e + 1) fun x1_11 => ag3 x1_11 s_9) (fun s => BM s ∧ FR [31] [0] σ s ∧ DOM σ s ∧ BKe s) := by
          intro w hw hw2
          refine ok_bz (by rw [fa_eq, fa_eq, k_0, k_1]; exact hw) ?_
          refine ok_ix ie ?_
          refine ok_lt fun s9 e9 => ?_
          refine ok_lt fun x11 e11 => ?_
          subst e11
          refine ih3 (121 - (e + 1).toInt).toNat (e + 1) s9 (by rw [hn3, ex]; omega) ⟨rfl, by omega, by omega, by rw [e9]; exact pM_31 u1 (by omega), by rw [e9]; exact FR.st u2 (by decide), by rw [e9]; exact u3, fun c hc => ?_⟩
          have k9 : ∀ c, KP s9 c ↔ KP u c := fun c => KP.cg (by rw [e9]; rfl) (by rw [e9]; rfl)
          rw [k9]
          unfold eA eB
          rw [show s9.1 27 = u.1 27 by rw [e9]; rfl, show s9.1 28 = u.1 28 by rw [e9]; rfl, show s9.2 0 = u.2 0 by rw [e9]; rfl, e9, sti_if]
          by_cases q : c = e.toNatClampNeg
          · rw [if_pos q, q]; exact hw2
          · rw [if_neg q]; exact u4 c (by omega)
        refine ok_ix ie ?_
        refine ok_lt fun v7 e7 => ?_
        refine ok_jn ?_
        refine ok_jn ?_
        refine ok_ite (fun c4 => ?_) (fun c4 => ?_)
        · rw [fa_eq, k_0, e7] at c4
          have kp : KP u e.toNatClampNeg := ⟨by unfold nE; rw [r32]; omega, c4⟩
          refine ok_ix ie ?_
          refine ok_lt fun v14 e14 => ?_
          subst e14
          refine ok_ix (by omega) ?_
          refine ok_lt fun v15 e15 => ?_
          refine ok_ix ie ?_
          refine ok_lt fun v16 e16 => ?_
          subst e16
          refine ok_calp (s_has (x := v15) g28) (fun v17 h17 => ?_)
          rw [e15] at h17
          refine ok_ite (fun c5 => ?_) (fun c5 => ?_)
          · rw [fa_eq, k_0] at c5
            exact wr 0 (Or.inl k_0) ⟨fun z => absurd k_0 z, fun z => by have := h17.2.mpr z.2; omega⟩
          · rw [fa_eq, k_0] at c5
            have h171 := h17.1
            exact wr 1 (Or.inr k_1) ⟨fun _ => ⟨kp, h17.2.mp (by omega)⟩, fun _ => by omega⟩
        · rw [fa_eq, k_0, e7] at c4
          exact wr 0 (Or.inl k_0) ⟨fun z => absurd k_0 z, fun z => absurd z.1.2 c4⟩
    · rw [fa_le, p26] at c2
      have exd : (d + 1).toInt = d.toInt + 1 := i1 (by omega)
      refine ok_jn ?_
      -- what is come to without d
      have inner : ∀ S : Int64, (∀ b, b < nB σ → (bL S b = true ↔ (d.toInt ≠ 0 ∧ RW σ d.toNatClampNeg b))) → OK (itr (fun _ _ => none) (fun (a_53 : Int32 → Sto → Option Sto) (x4_20 : Int32) (s_20 : Sto) => (
              if (s_20.1 26 0) ≤ x4_20 then (
                lt (d + 1) fun x1_22 =>
                ag2 x1_22 s_20
              ) else (
                calp (f_X12_has S x4_20) fun v_23 =>
                jn (fun (s_24 : Sto) => (
                  lt (x4_20 + 1) fun x4_25 =>
                  a_53 x4_25 s_24
                )) fun k_84 =>
                if v_23 = 0 then (
                  ix 40 x4_20 <| lt (s_20.2 0 x4_20.toNatClampNeg) fun v_27 =>
                  ix 40 x4_20 <| lt (stl s_20 0 x4_20.toNatClampNeg ((v_27 ||| ((1 : Int64) <<< (d.toInt64 &&& 63))))) fun s_28 =>
                  k_84 s_28
                ) else (
                  k_84 s_20
                )
              )
            )) LF (0 : Int32) t) (fun s => BM s ∧ FR [31] [0] σ s ∧ DOM σ s ∧ BKe s) := by
        intro S hS
        refine ok_itr2 (fun n c u => n = (41 - c.toInt).toNat ∧ 0 ≤ c.toInt ∧ c.toInt ≤ (nB σ : Int) ∧ BM u ∧ FR [31] [0] σ u ∧ ∀ b, b < nB σ → ∀ i, bL (u.2 0 b) i = true ↔ (((i : Int) < d.toInt ∧ (i = 0 ∨ ¬ RW σ i b)) ∨ ((b : Int) < c.toInt ∧ i = d.toNatClampNeg ∧ (i = 0 ∨ ¬ RW σ i b)))) ?_ (n := (41 - (0 : Int32).toInt).toNat) ⟨rfl, by omega, by omega, t1, t2, fun b hb i => by rw [t3 b hb i]; exact ⟨Or.inl, fun z => z.resolve_right (fun w => by omega)⟩⟩ (by rw [k_0]; decide)
        intro ag3 n3 c u I3 ih3
        obtain ⟨hn3, c0, cb, u1, u2, u3⟩ := I3
        have cc := clamp_I c0
        have r26 := frD u2 (show (26 : Nat) ≠ 31 by decide)
        refine ok_ite (fun c3 => ?_) (fun c3 => ?_)
        · rw [fa_le, r26] at c3
          refine ok_lt fun x22 e22 => ?_
          subst e22
          refine ih2 (41 - (d + 1).toInt).toNat (d + 1) u (by rw [hn2, exd]; omega) ⟨rfl, by omega, by omega, u1, u2, fun b hb i => ?_⟩
          rw [u3 b hb i]
          constructor
          · rintro (z | z)
            · exact ⟨by omega, z.2⟩
            · exact ⟨by omega, z.2.2⟩
          · intro z
            by_cases q : i = d.toNatClampNeg
            · exact Or.inr ⟨by omega, q, z.2⟩
            · exact Or.inl ⟨by omega, z.2⟩
        · rw [fa_le, r26] at c3
          have hcb : c.toNatClampNeg < nB σ := by omega
          have exc : (c + 1).toInt = c.toInt + 1 := i1 (by omega)
          have hSc := hS c.toNatClampNeg hcb
          refine ok_calp (s_has (x := S) (v := c) (by omega)) (fun v23 h23 => ?_)
          refine ok_jn ?_
          refine ok_ite (fun c4 => ?_) (fun c4 => ?_)
          · rw [fa_eq, k_0] at c4
            have hns : ¬ (d.toInt ≠ 0 ∧ RW σ d.toNatClampNeg c.toNatClampNeg) := fun z => by have := h23.2.mpr (hSc.mpr z); omega
            refine ok_ix (by omega) ?_
            refine ok_lt fun v27 e27 => ?_
            refine ok_ix (by omega) ?_
            refine ok_lt fun s28 e28 => ?_
            refine ok_lt fun x25 e25 => ?_
            subst e25
            refine ih3 (41 - (c + 1).toInt).toNat (c + 1) s28 (by rw [hn3, exc]; omega) ⟨rfl, by omega, by omega, by rw [e28]; exact BD.stl u1, by rw [e28]; exact FR.stl u2 (by decide), fun b hb i => ?_⟩
            rw [e28, stl_if]
            by_cases q : b = c.toNatClampNeg
            · rw [if_pos q, e27, bL_set d0 (by omega)]
              rw [Bool.or_eq_true, ← q, u3 b hb i]
              constructor
              · rintro ((z | z) | z)
                · exact Or.inl z
                · exact Or.inr ⟨by omega, z.2⟩
                · have z := of_decide_eq_true z
                  refine Or.inr ⟨by omega, z, ?_⟩
                  rw [z, q]
                  by_cases r : d.toInt = 0
                  · exact Or.inl (by omega)
                  · exact Or.inr (fun w => hns ⟨r, w⟩)
              · rintro (z | z)
                · exact Or.inl (Or.inl z)
                · exact Or.inr (decide_eq_true z.2.1)
            · rw [if_neg q, u3 b hb i]
              constructor
              · rintro (z | z)
                · exact Or.inl z
                · exact Or.inr ⟨by omega, z.2⟩
              · rintro (z | z)
                · exact Or.inl z
                · exact Or.inr ⟨by omega, z.2⟩
          · rw [fa_eq, k_0] at c4
            have h231 := h23.1
            have hs := hSc.mp (h23.2.mp (by omega))
            refine ok_lt fun x25 e25 => ?_
            subst e25
            refine ih3 (41 - (c + 1).toInt).toNat (c + 1) u (by rw [hn3, exc]; omega) ⟨rfl, by omega, by omega, u1, u2, fun b hb i => ?_⟩
            rw [u3 b hb i]
            constructor
            · rintro (z | z)
              · exact Or.inl z
              · exact Or.inr ⟨by omega, z.2⟩
            · rintro (z | z)
              · exact Or.inl z
              · by_cases q : b = c.toNatClampNeg
                · exfalso
                  rw [z.2.1, q] at z
                  rcases z.2.2 with w | w
                  · omega
                  · exact w hs.2
                · exact Or.inr ⟨by omega, z.2⟩
      refine ok_ite (fun c3 => ?_) (fun c3 => ?_)
      · rw [fa_eq, k_0] at c3
        exact inner 0 (fun b hb => by rw [bL_0]; exact ⟨fun z => absurd z (by decide), fun z => absurd c3 z.1⟩)
      · rw [fa_eq, k_0] at c3
        refine ok_calp (s_reached (x1 := 0) (W := (1 : Int64) <<< (d.toInt64 &&& 63)) t1 (by omega)) (fun S hS => ?_)
        refine inner S (fun b hb => ?_)
        have := RSt.rw_ t1 (v := d) (d := d.toNatClampNeg) (by omega) rfl hS b
        rw [this, RW.cg (frD t2 (by decide)) (frD t2 (by decide)) (frD t2 (by decide)) p32]
        exact ⟨fun z => ⟨c3, z⟩, fun z => z.2⟩
  · rw [fa_le, q26] at c1
    have ex : (x + 1).toInt = x.toInt + 1 := i1 (by omega)
    refine ok_ix (by omega) ?_
    refine ok_lt fun s31 e31 => ?_
    refine ok_lt fun x32 e32 => ?_
    subst e32
    refine ih (41 - (x + 1).toInt).toNat (x + 1) s31 (by rw [hnn, ex]; omega) ⟨rfl, by omega, by omega, by rw [e31]; exact BD.stl b1, by rw [e31]; exact FR.stl b2 (by decide), fun b hb => ?_⟩
    rw [e31, stl_if]
    by_cases q : b = x.toNatClampNeg
    · rw [if_pos q]
    · rw [if_neg q]; exact b3 b (by omega)
