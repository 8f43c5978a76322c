section
variable {q : Term → Bool}
theorem pSp1_h {k : Nat} {P : PSt} : pHt (pSp1 q k P) = pHt P := by
  unfold pSp1
  by_cases c : q (pKs P k) = true
  · rw [if_pos c]; rfl
  · rw [if_neg c]
theorem pSp_h {P : PSt} : ∀ k, pHt (pSp q k P) = pHt P
  | 0 => rfl
  | k + 1 => by
    show pHt (pSp1 q k (pSp q k P)) = _
    rw [pSp1_h, pSp_h k]
theorem pSp1_t {k : Nat} {P : PSt} : pTs (pSp1 q k P) = pTs P := by
  unfold pSp1
  by_cases c : q (pKs P k) = true
  · rw [if_pos c]; rfl
  · rw [if_neg c]
theorem pSp_t {P : PSt} : ∀ k, pTs (pSp q k P) = pTs P
  | 0 => rfl
  | k + 1 => by
    show pTs (pSp1 q k (pSp q k P)) = _
    rw [pSp1_t, pSp_t k]
theorem pSp1_n {k : Nat} {P : PSt} : pNn (pSp1 q k P) + pFr P = pNn P + pFr (pSp1 q k P) ∧ pFr P ≤ pFr (pSp1 q k P) ∧ pFr (pSp1 q k P) ≤ pFr P + 1 := by
  unfold pSp1
  by_cases c : q (pKs P k) = true
  · rw [if_pos c]
    show pNn P + 1 + pFr P = pNn P + (pFr P + 1) ∧ pFr P ≤ pFr P + 1 ∧ pFr P + 1 ≤ pFr P + 1
    omega
  · rw [if_neg c]; omega
theorem pSp_n {P : PSt} : ∀ k, pNn (pSp q k P) + pFr P = pNn P + pFr (pSp q k P) ∧ pFr P ≤ pFr (pSp q k P)
  | 0 => ⟨rfl, Nat.le_refl _⟩
  | k + 1 => by
    have a := pSp_n (P := P) k
    have b := pSp1_n (q := q) (k := k) (P := pSp q k P)
    show pNn (pSp1 q k (pSp q k P)) + pFr P = pNn P + pFr (pSp1 q k (pSp q k P)) ∧ pFr P ≤ pFr (pSp1 q k (pSp q k P))
    omega
theorem pSp_mono {P : PSt} {k : Nat} : ∀ j, pFr (pSp q k P) ≤ pFr (pSp q (k + j) P)
  | 0 => Nat.le_refl _
  | j + 1 => by
    have a := pSp_mono (P := P) (k := k) j
    have b := pSp1_n (q := q) (k := k + j) (P := pSp q (k + j) P)
    show _ ≤ pFr (pSp1 q (k + j) (pSp q (k + j) P))
    omega
/-- places from k on are as they were -/
theorem pSp_k {P : PSt} : ∀ k i, k ≤ i → pKs (pSp q k P) i = pKs P i
  | 0, _, _ => rfl
  | k + 1, i, h => by
    show pKs (pSp1 q k (pSp q k P)) i = _
    rw [← pSp_k (P := P) k i (by omega)]
    unfold pSp1
    by_cases c : q (pKs (pSp q k P) k) = true
    · rw [if_pos c]
      exact upT_n (by omega)
    · rw [if_neg c]
end
/-- settling below the top, and a pop -/
theorem pSp_pop {q : Term → Bool} {P : PSt} : ∀ k, pPop (pSp q k P) = pSp q k (pPop P)
  | 0 => rfl
  | k + 1 => by
    show pPop (pSp1 q k (pSp q k P)) = pSp1 q k (pSp q k (pPop P))
    rw [← pSp_pop k]
    unfold pSp1
    have e : pKs (pPop (pSp q k P)) k = pKs (pSp q k P) k := rfl
    rw [e]
    by_cases c : q (pKs (pSp q k P) k) = true
    · rw [if_pos c, if_pos c]; rfl
    · rw [if_neg c, if_neg c]
theorem and_z {v m : Int32} : v &&& m = 0 ↔ ∀ i, i < 32 → ¬ (bI v i = true ∧ bI m i = true) := by
  constructor
  · intro h i hi ⟨a, b⟩
    have t := congrArg (fun x => bI x i) h
    simp only [bI_and, bI_0, a, b] at t
    exact absurd t (by decide)
  · intro h
    refine bI_eq (fun i hi => ?_)
    rw [bI_and, bI_0]
    have := h i hi
    revert this
    cases bI v i <;> cases bI m i <;> intro z
    · rfl
    · rfl
    · rfl
    · exact absurd ⟨rfl, rfl⟩ z
/-- a mask of traits asks so -/
def MASK (m : Int32) (q : Term → Bool) : Prop := ∀ v t, TRB v t → (v &&& m = 0 ↔ q t = false)
theorem MASK.eff : MASK 4096 qEff := fun v t h => by
  rw [and_z]
  unfold qEff
  rw [← h.2.2]
  constructor
  · intro z
    exact bf (fun w => z 12 (by omega) ⟨w, by rw [bI_4096 12 (by omega)]; rfl⟩)
  · intro z i hi ⟨a, b⟩
    rw [bI_4096 i hi, decide_eq_true_eq] at b
    rw [b, z] at a
    exact absurd a (by decide)
theorem MASK.eff0 : MASK (4096 ||| 0) qEff := by rw [or_z]; exact MASK.eff
theorem MASK.var {w : Int32} (h0 : 0 ≤ w.toInt) (h6 : w.toInt < 6) : MASK (4096 ||| ((1 : Int32) <<< (w &&& 31))) (qVar w.toNatClampNeg) := fun v t h => by
  have cw := clamp_I h0
  rw [and_z]
  show _ ↔ (tEff t || tVar w.toNatClampNeg t) = false
  rw [Bool.or_eq_false_iff, ← h.2.2, ← h.1 w.toNatClampNeg (by omega)]
  have bm : ∀ i, i < 32 → bI (4096 ||| ((1 : Int32) <<< (w &&& 31))) i = (decide (i = 12) || decide (i = w.toNatClampNeg)) := fun i hi => by
    rw [bI_or, bI_4096 i hi, bI_sl h0 (by omega) hi]
  constructor
  · intro z
    refine ⟨bf (fun y => z 12 (by omega) ⟨y, by rw [bm 12 (by omega)]; rfl⟩), bf (fun y => z w.toNatClampNeg (by omega) ⟨y, by rw [bm _ (by omega), decide_eq_true (p := w.toNatClampNeg = w.toNatClampNeg) rfl, Bool.or_true]⟩)⟩
  · intro z i hi ⟨a, b⟩
    rw [bm i hi, Bool.or_eq_true, decide_eq_true_eq, decide_eq_true_eq] at b
    rcases b with y | y
    · rw [y, z.1] at a; exact absurd a (by decide)
    · rw [y, z.2] at a; exact absurd a (by decide)
section
variable {b : BTy} {n : Nat} {σ : Sto} {tr : Nat → Term} {P : PSt}
theorem RLP.set {v : Int32} {t : Term} {k : Nat} (h : RLP b σ n tr P) (hv : EXV v n tr (some t)) : RLP b (sti σ 60 k v) n tr (pSet k t P) := by
  obtain ⟨h1, h2, h3_, h4, h5, h6, h7⟩ := h
  have o : ∀ {j : Nat}, j ≠ 60 → (sti σ 60 k v).1 j = σ.1 j := fun {j} hj => sti_o hj
  refine ⟨h1.cg (fun j hj => o (by omega)), by rw [o (by decide)]; exact h2, fun i hi => ?_, by rw [o (by decide)]; exact h4, fun j hj => (h5 j hj).up EXT.rf (fun j hj => o (by omega)), by rw [o (by decide)]; exact h6, by rw [o (by decide)]; exact h7⟩
  show EXV ((sti σ 60 k v).1 60 i) n tr (some (upT (pKs P) k t i))
  rw [sti_if]
  by_cases q : i = k
  · rw [if_pos q, q, upT_s]; exact hv
  · rw [if_neg q, upT_n q]; exact h3_ i hi
/-- what stands in a pool of this place -/
theorem PLX.at_ {e : Nat} (h : PLX σ n tr) (he : e < n) : TRB (σ.1 51 e) (tr e) := (h.2.2.1 e he).2.2.2.1
abbrev MPB : List Nat := [46, 47, 48, 49, 50, 51, 52, 53, 54, 55, 58, 60]
/-- the pure bounds -/
def PBD (n : Nat) (tr : Nat → Term) (P Q : PSt) (c : Nat) : Prop := pNn Q ≤ 320 ∧ pFr Q ≤ 160 ∧ nzT n tr + pFr Q + c ≤ 500 + pFr P
/-- what a step answers: c more expressions than X -/
def RLA (b : BTy) (ms : List Nat) (σ : Sto) (n : Nat) (tr : Nat → Term) (P Q : PSt) (c : Nat) (s : Sto) : Prop := FR ms [] σ s ∧ ∃ n2 tr2, RLP b s n2 tr2 Q ∧ EXT n tr n2 tr2 ∧ nzT n2 tr2 + pFr P ≤ nzT n tr + pFr Q + c
theorem t_spill {m : Int32} {q : Term → Bool} (hm : MASK m q) (h : RLP b σ n tr P) (hb : PBD n tr P (pSp q (pHt P) P) 0) : PC (f_X1_spill m σ) (RLA b MPB σ n tr P (pSp q (pHt P) P) 0) := by
  have k_0 : (0 : Int32).toInt = 0 := by decide +kernel
  obtain ⟨b1, b2, b3⟩ := hb
  unfold f_X1_spill
  refine pc_itr2 (fun x s => 0 ≤ x.toInt ∧ x.toInt ≤ (pHt P : Int) ∧ FR MPB [] σ s ∧ ∃ n2 tr2, RLP b s n2 tr2 (pSp q x.toNatClampNeg P) ∧ EXT n tr n2 tr2 ∧ nzT n2 tr2 + pFr P ≤ nzT n tr + pFr (pSp q x.toNatClampNeg P)) ?_ (by exact ⟨by omega, by omega, FR.rf, n, tr, h, EXT.rf, Nat.le_refl _⟩)
  intro ag x s I ih
  obtain ⟨x0, xh, f, n2, tr2, r1, r2, r3⟩ := I
  have cx := clamp_I x0
  have hh : (s.1 61 0).toInt = (pHt P : Int) := by rw [r1.2.1, pSp_h]
  refine pc_ite (fun c => ?_) (fun c => ?_)
  · rw [fa_le, hh] at c
    have e : x.toNatClampNeg = pHt P := by omega
    rw [e] at r1 r3
    exact pc_ret ⟨f, n2, tr2, r1, r2, r3⟩
  · rw [fa_le, hh] at c
    have ex : (x + 1).toInt = x.toInt + 1 := i1 (by have := tI_rng (s.1 61 0); omega)
    have cx1 : (x + 1).toNatClampNeg = x.toNatClampNeg + 1 := by
      have := clamp_I (x := x + 1) (by omega)
      omega
    have xi : x.toNatClampNeg < pHt P := by omega
    have v := r1.2.2.1 x.toNatClampNeg (by rw [pSp_h]; exact xi)
    rw [pSp_k x.toNatClampNeg x.toNatClampNeg (Nat.le_refl _)] at v
    obtain ⟨e, v1, v2, v3, v4⟩ := v.so
    refine pc_ix (fun _ => ?_)
    refine pc_lt fun v3_ e3 => ?_
    refine pc_ix (fun _ => ?_)
    refine pc_lt fun v4_ e4 => ?_
    rw [e3, v4] at e4
    have tb := r1.1.at_ v2
    rw [v3] at tb
    have mq := hm _ _ tb
    rw [← e4] at mq
    have st : pSp q (x.toNatClampNeg + 1) P = pSp1 q x.toNatClampNeg (pSp q x.toNatClampNeg P) := rfl
    have kx : pKs (pSp q x.toNatClampNeg P) x.toNatClampNeg = pKs P x.toNatClampNeg := pSp_k _ _ (Nat.le_refl _)
    refine pc_jnI1 (fun u => FR MPB [] σ u ∧ ∃ n2 tr2, RLP b u n2 tr2 (pSp q (x.toNatClampNeg + 1) P) ∧ EXT n tr n2 tr2 ∧ nzT n2 tr2 + pFr P ≤ nzT n tr + pFr (pSp q (x.toNatClampNeg + 1) P)) (fun u J => ?_) (fun k hk => ?_)
    · refine pc_lt fun x6 e6 => ?_
      subst e6
      exact ih (x + 1) u ⟨by omega, by omega, J.1, by rw [cx1]; exact J.2⟩
    · refine pc_ite (fun c2 => ?_) (fun c2 => ?_)
      · have z := mq.mp c2
        refine hk s ⟨f, n2, tr2, ?_⟩
        rw [st]
        unfold pSp1
        rw [if_neg (by rw [kx, z]; decide)]
        exact ⟨r1, r2, r3⟩
      · have z : q (pKs P x.toNatClampNeg) = true := by
          cases w : q (pKs P x.toNatClampNeg) with
          | true => rfl
          | false => exact absurd (mq.mpr w) c2
        have sp : pSp1 q x.toNatClampNeg (pSp q x.toNatClampNeg P) = pSet x.toNatClampNeg (tX (pFr (pSp q x.toNatClampNeg P))) (pPut (pKs P x.toNatClampNeg) (pSp q x.toNatClampNeg P)) := by
          unfold pSp1
          rw [kx, if_pos z]
        have fr1 : pFr (pSp q (x.toNatClampNeg + 1) P) = pFr (pSp q x.toNatClampNeg P) + 1 := by rw [st, sp]; rfl
        have mo := pSp_mono (q := q) (P := P) (k := x.toNatClampNeg + 1) (pHt P - (x.toNatClampNeg + 1))
        rw [show x.toNatClampNeg + 1 + (pHt P - (x.toNatClampNeg + 1)) = pHt P by omega] at mo
        have a1 := pSp_n (q := q) (P := P) (x.toNatClampNeg)
        have a2 := pSp_n (q := q) (P := P) (pHt P)
        refine pc_ix (fun _ => ?_)
        refine pc_lt fun v8 e8 => ?_
        refine pc_calv (t_putAside (v := v8) r1 (by rw [e8]; exact v) (by omega) (by omega) (by omega)) (fun v9 s9 w => ?_)
        obtain ⟨w1, n3, tr3, w2, w3, w4, w5⟩ := w
        (try dsimp only at w1 w2 w5)
        refine pc_ix (fun _ => ?_)
        refine pc_lt fun s10 e10 => ?_
        refine hk s10 ⟨by rw [e10]; exact FR.st (FR.cal f w1 rfl rfl) (by decide), n3, tr3, ?_, r2.tr w3, by rw [fr1]; omega⟩
        rw [e10, st, sp]
        exact w2.set w5
end
