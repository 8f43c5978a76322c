section
variable {α c : Nat} {φ : Nat → Term → Nat} {ψ : Term → Nat} {P : PSt} {sg nv : Nat → Int32} {fk : Nat → Bool} {f : Nat}
/-- heights along a block: d says them -/
def HTS (sg : Nat → Int32) (d : Nat → Int) (f l : Nat) : Prop := ∀ i, f ≤ i → i ≤ l → VSg (sg i).toInt ∧ ndI (sg i).toInt ≤ d i ∧ d i ≤ 6 ∧ (i < l → d (i + 1) = d i - ndI (sg i).toInt + gvI (sg i).toInt) ∧ d i - ndI (sg i).toInt + gvI (sg i).toInt ≤ 6
theorem pRun_h {d : Nat → Int} {l : Nat} (h : HTS sg d f l) (h0 : (pHt P : Int) = d f) : ∀ j, f + j ≤ l → (pHt (pRun sg nv fk f j P) : Int) = d (f + j)
  | 0, _ => h0
  | j + 1, hj => by
    have ih := pRun_h h h0 j (by omega)
    obtain ⟨q1, q2, q3, q4⟩ := h (f + j) (by omega) (by omega)
    have q5 := q4.1 (by omega)
    have s := pStep_h (g := sg (f + j)) (n := nv (f + j)) (c := fk (f + j)) (P := pRun sg nv fk f j P) q1 (by omega)
    show (pHt (pStep (sg (f + j)) (nv (f + j)) (fk (f + j)) (pRun sg nv fk f j P)) : Int) = d (f + j + 1)
    omega
theorem pRun_hl {d : Nat → Int} {l : Nat} (h : HTS sg d f l) (h0 : (pHt P : Int) = d f) (hl : f ≤ l) : pHt (pRun sg nv fk f (l + 1 - f) P) ≤ 6 := by
  have ih := pRun_h (nv := nv) (fk := fk) h h0 (l - f) (by omega)
  rw [show f + (l - f) = l by omega] at ih
  obtain ⟨q1, q2, q3, q4⟩ := h l hl (Nat.le_refl _)
  have s := pStep_h (g := sg l) (n := nv l) (c := fk l) (P := pRun sg nv fk f (l - f) P) q1 (by omega)
  have e : pRun sg nv fk f (l + 1 - f) P = pStep (sg (f + (l - f))) (nv (f + (l - f))) (fk (f + (l - f))) (pRun sg nv fk f (l - f) P) := by
    rw [show l + 1 - f = (l - f) + 1 by omega]
    rfl
  rw [e, show f + (l - f) = l by omega]
  have := q4.2
  omega
theorem pRun_G {d : Nat → Int} {l : Nat} (hG : GPF α c φ ψ) (h : HTS sg d f l) (h0 : (pHt P : Int) = d f) : ∀ j, f + j ≤ l + 1 → pG α φ ψ (pRun sg nv fk f j P) ≤ pG α φ ψ P + c * j
  | 0, _ => Nat.le_refl _
  | j + 1, hj => by
    have ih := pRun_G hG h h0 j (by omega)
    have hh := pRun_h (nv := nv) (fk := fk) h h0 j (by omega)
    obtain ⟨q1, q2, q3, q4⟩ := h (f + j) (by omega) (by omega)
    have s := pStep_G (P := pRun sg nv fk f j P) (g := sg (f + j)) (n := nv (f + j)) (d := fk (f + j)) hG q1 (by omega)
    show pG α φ ψ (pStep (sg (f + j)) (nv (f + j)) (fk (f + j)) (pRun sg nv fk f j P)) ≤ pG α φ ψ P + c * (j + 1)
    rw [Nat.mul_succ]
    omega
/-- what is told only grows -/
def PLE (P Q : PSt) : Prop := pNn P ≤ pNn Q ∧ pFr P ≤ pFr Q ∧ (pFr P ≤ pNn P → pFr Q ≤ pNn Q) ∧ ∀ j, j < pNn P → pSm Q j = pSm P j
theorem PLE.rf : PLE P P := ⟨Nat.le_refl _, Nat.le_refl _, fun h => h, fun _ _ => rfl⟩
theorem PLE.tr {Q R : PSt} (h : PLE P Q) (g : PLE Q R) : PLE P R := ⟨Nat.le_trans h.1 g.1, Nat.le_trans h.2.1 g.2.1, fun z => g.2.2.1 (h.2.2.1 z), fun j hj => (g.2.2.2 j (Nat.lt_of_lt_of_le hj h.1)).trans (h.2.2.2 j hj)⟩
theorem PLE.put {t : Term} : PLE P (pPut t P) := ⟨Nat.le_succ _, Nat.le_succ _, fun h => Nat.succ_le_succ h, fun j hj => upT_n (by omega)⟩
theorem PLE.add {k w : Int} {o : Option Term} : PLE P (pAdd k w o P) := ⟨Nat.le_succ _, Nat.le_refl _, fun h => Nat.le_succ_of_le h, fun j hj => upT_n (by omega)⟩
theorem PLE.push {t : Term} : PLE P (pPush t P) := ⟨Nat.le_refl _, Nat.le_refl _, fun h => h, fun _ _ => rfl⟩
theorem PLE.pop : PLE P (pPop P) := ⟨Nat.le_refl _, Nat.le_refl _, fun h => h, fun _ _ => rfl⟩
theorem PLE.set {k : Nat} {t : Term} : PLE P (pSet k t P) := ⟨Nat.le_refl _, Nat.le_refl _, fun h => h, fun _ _ => rfl⟩
theorem PLE.tst {t : Option Term} : PLE P (pTst t P) := ⟨Nat.le_refl _, Nat.le_refl _, fun h => h, fun _ _ => rfl⟩
theorem PLE.sp1 {q : Term → Bool} {k : Nat} : PLE P (pSp1 q k P) := by
  unfold pSp1
  by_cases z : q (pKs P k) = true
  · rw [if_pos z]; exact PLE.tr PLE.put PLE.set
  · rw [if_neg z]; exact PLE.rf
theorem PLE.sp {q : Term → Bool} : ∀ k, PLE P (pSp q k P)
  | 0 => PLE.rf
  | k + 1 => (PLE.sp k).tr PLE.sp1
theorem PLE.drop {t : Term} : PLE P (pDrop t P) := by
  by_cases z : tEff t = true
  · rw [pDrop_1 z]; exact (PLE.sp _).tr PLE.add
  · rw [pDrop_2 z]; exact PLE.rf
theorem PLE.twice : PLE P (pTwice P) := by
  by_cases z : (isNu (pTop P) || isNm (pTop P)) = true
  · rw [pTwice_1 z]; exact (PLE.pop.tr PLE.push).tr PLE.push
  · rw [pTwice_2 z]; exact (((PLE.pop.tr (PLE.sp _)).tr PLE.put).tr PLE.push).tr PLE.push
theorem PLE.exch : PLE P (pExch P) := by
  by_cases z : (tEff (pTop P) && tEff (pTop (pPop P))) = true
  · rw [pExch_1 z]; exact (((PLE.pop.tr (PLE.sp _)).tr PLE.pop).tr PLE.push).tr PLE.push
  · rw [pExch_2 z]; exact ((PLE.pop.tr PLE.pop).tr PLE.push).tr PLE.push
theorem ite_pl {c : Prop} {d : Decidable c} {P a b : PSt} (h1 : c → PLE P a) (h2 : ¬ c → PLE P b) : PLE P (if c then a else b) := by
  by_cases hc : c
  · rw [if_pos hc]; exact h1 hc
  · rw [if_neg hc]; exact h2 hc
theorem PLE.step {g n : Int32} {d : Bool} : PLE P (pStep g n d P) := by
  unfold pStep
  refine ite_pl (fun _ => PLE.twice) (fun _ => ?_)
  refine ite_pl (fun _ => PLE.rf) (fun _ => ?_)
  refine ite_pl (fun _ => PLE.push) (fun _ => ?_)
  refine ite_pl (fun _ => PLE.push) (fun _ => ?_)
  refine ite_pl (fun _ => PLE.push) (fun _ => ?_)
  refine ite_pl (fun _ => (PLE.pop.tr (PLE.sp _)).tr PLE.add) (fun _ => ?_)
  refine ite_pl (fun _ => PLE.pop.tr PLE.drop) (fun _ => ?_)
  refine ite_pl (fun _ => (PLE.sp _).tr PLE.add) (fun _ => ?_)
  refine ite_pl (fun _ => (PLE.pop.tr (PLE.sp _)).tr PLE.add) (fun _ => ?_)
  refine ite_pl (fun _ => (PLE.pop.tr (PLE.sp _)).tr PLE.add) (fun _ => ?_)
  refine ite_pl (fun _ => PLE.exch) (fun _ => ?_)
  refine ite_pl (fun _ => ite_pl (fun _ => PLE.pop.tr PLE.tst) (fun _ => PLE.pop.tr PLE.drop)) (fun _ => ?_)
  refine ite_pl (fun _ => PLE.pop.tr PLE.push) (fun _ => ?_)
  refine ite_pl (fun _ => PLE.pop.tr PLE.push) (fun _ => ?_)
  exact (PLE.pop.tr PLE.pop).tr PLE.push
theorem PLE.run : ∀ j, PLE P (pRun sg nv fk f j P)
  | 0 => PLE.rf
  | j + 1 => (PLE.run j).tr PLE.step
theorem PLE.run2 {j : Nat} : ∀ k, PLE (pRun sg nv fk f j P) (pRun sg nv fk f (j + k) P)
  | 0 => PLE.rf
  | k + 1 => (PLE.run2 k).tr PLE.step
theorem PLE.rpl {k x : Nat} : PLE P (pRpl k x P) := ⟨Nat.le_refl _, Nat.le_refl _, fun h => h, fun _ _ => rfl⟩
theorem pHnd_0 {k : Nat} (h : pKs P k = .index k) : pHnd k P = P := by unfold pHnd; rw [if_pos h]
theorem pHnd_1 {k : Nat} (h : ¬ pKs P k = .index k) (g : pNed k P) : pHnd k P = pAdd 1 (k : Int) (some (pKs P k)) (pRpl k (pFr P) (pPut (.index k) P)) := by unfold pHnd; rw [if_neg h, if_pos g]
theorem pHnd_2 {k : Nat} (h : ¬ pKs P k = .index k) (g : ¬ pNed k P) : pHnd k P = pAdd 1 (k : Int) (some (pKs P k)) P := by unfold pHnd; rw [if_neg h, if_neg g]
theorem PLE.hnd {k : Nat} : PLE P (pHnd k P) := by
  by_cases z : pKs P k = .index k
  · rw [pHnd_0 z]; exact PLE.rf
  · by_cases y : pNed k P
    · rw [pHnd_1 z y]; exact (PLE.put.tr PLE.rpl).tr PLE.add
    · rw [pHnd_2 z y]; exact PLE.add
theorem pHnd_h {k : Nat} : pHt (pHnd k P) = pHt P := by
  by_cases z : pKs P k = .index k
  · rw [pHnd_0 z]
  · by_cases y : pNed k P
    · rw [pHnd_1 z y]; rfl
    · rw [pHnd_2 z y]; rfl
theorem pEnd1_h : ∀ k, pHt (pEnd1 k P) = pHt P
  | 0 => rfl
  | k + 1 => by
    show pHt (pHnd k (pEnd1 k P)) = _
    rw [pHnd_h, pEnd1_h k]
theorem PLE.end1 : ∀ k, PLE P (pEnd1 k P)
  | 0 => PLE.rf
  | k + 1 => (PLE.end1 k).tr PLE.hnd
theorem PLE.end1b {j : Nat} : ∀ k, PLE (pEnd1 j P) (pEnd1 (j + k) P)
  | 0 => PLE.rf
  | k + 1 => (PLE.end1b k).tr PLE.hnd
theorem pEnd2_0 (h : pTs P = none) : pEnd2 P = P := by unfold pEnd2; rw [h]
theorem pEnd2_1 {t : Term} (h : pTs P = some t) (g : tEff t = true) : pEnd2 P = pTst (some (tX (pFr P))) (pPut t P) := by unfold pEnd2; rw [h]; exact if_pos g
theorem pEnd2_2 {t : Term} (h : pTs P = some t) (g : ¬ tEff t = true) : pEnd2 P = P := by unfold pEnd2; rw [h]; exact if_neg g
theorem PLE.end2 : PLE P (pEnd2 P) := by
  cases h : pTs P with
  | none => rw [pEnd2_0 h]; exact PLE.rf
  | some t =>
    by_cases g : tEff t = true
    · rw [pEnd2_1 h g]; exact PLE.put.tr PLE.tst
    · rw [pEnd2_2 h g]; exact PLE.rf
theorem PLE.end_ : PLE P (pEnd P) := (PLE.end1 _).tr PLE.end2
/-- what is left to hand over -/
def rvw (k i : Nat) (t : Term) : Nat := if k ≤ i then 2 * cc2 i t else 0
def pRV (k : Nat) (P : PSt) : Nat := pNn P + pSum (rvw k) P + pPs cc1 P
theorem rvw_s {k i : Nat} {t : Term} (h : i ≠ k) : rvw (k + 1) i t = rvw k i t := by
  unfold rvw
  by_cases q : k ≤ i
  · rw [if_pos q, if_pos (by omega)]
  · rw [if_neg q, if_neg (by omega)]
theorem cc1_rp {k x : Nat} {t : Term} : cc1 (tRp k x t) ≤ cc1 t := by
  by_cases z : lf0 t = true
  · rw [cc1_0 z]
    cases t with
    | index i =>
      rw [tRp_i]
      by_cases q : i = k
      · rw [if_pos q]; exact Nat.le_refl _
      · rw [if_neg q]; exact Nat.le_refl _
    | int n => exact Nat.le_refl _
    | string a n => exact Nat.le_refl _
    | _ => exact absurd z (by simp [lf0])
  · have w : lf0 t = false := by cases y : lf0 t with | false => rfl | true => exact absurd y z
    rw [cc1_1 w]
    exact cc1_le _
theorem cc2_rp {k x i : Nat} {t : Term} (h : k < i) : cc2 i (tRp k x t) ≤ cc2 i t := by
  by_cases z : isTk i t = true
  · rw [isTk_t z, tRp_i, if_neg (by omega)]
    exact Nat.le_refl _
  · have w : isTk i t = false := by cases y : isTk i t with | false => rfl | true => exact absurd y z
    rw [cc2_1 w]
    exact cc2_le _ _
theorem pHnd_V {k : Nat} (h : k < pHt P) : pRV (k + 1) (pHnd k P) ≤ pRV k P := by
  by_cases z : pKs P k = .index k
  · rw [pHnd_0 z]
    have a : pSum (rvw (k + 1)) P ≤ pSum (rvw k) P := sF_le _ (fun i hi => by
      (try dsimp only)
      by_cases q : i = k
      · unfold rvw; rw [if_neg (by omega)]; exact Nat.zero_le _
      · rw [rvw_s q]; exact Nat.le_refl _)
    unfold pRV
    omega
  have c1 : rvw k k (pKs P k) = 2 := by
    unfold rvw
    rw [if_pos (Nat.le_refl _), cc2_1]
    cases y : isTk k (pKs P k) with
    | false => rfl
    | true => exact absurd (isTk_t y) z
  by_cases y : pNed k P
  · rw [pHnd_1 z y]
    have a : sF (fun i => rvw (k + 1) i (if k < i ∧ i < pHt P then tRp k (pFr P) (pKs P i) else pKs P i)) (pHt P) + 2 ≤ sF (fun i => rvw k i (pKs P i)) (pHt P) := sF_gap (pHt P) (fun i hi => by
      (try dsimp only)
      by_cases q : i = k
      · unfold rvw; rw [if_neg (by omega)]; exact Nat.zero_le _
      · rw [rvw_s q]
        by_cases w : k < i
        · rw [if_pos ⟨w, hi⟩]
          unfold rvw
          rw [if_pos (by omega), if_pos (by omega)]
          have := cc2_rp (x := pFr P) (t := pKs P i) w
          omega
        · rw [if_neg (fun u => w u.1)]; exact Nat.le_refl _) h (by
      (try dsimp only)
      rw [c1]
      unfold rvw; rw [if_neg (by omega)]
      exact Nat.le_refl _)
    have b : pPs cc1 (pRpl k (pFr P) (pPut (.index k) P)) ≤ pPs cc1 P := by
      show (match (pTs P).map (tRp k (pFr P)) with | none => 0 | some t => cc1 t) ≤ (match pTs P with | none => 0 | some t => cc1 t)
      cases pTs P with
      | none => exact Nat.le_refl _
      | some t => exact cc1_rp
    show pNn P + 1 + 1 + sF (fun i => rvw (k + 1) i (if k < i ∧ i < pHt P then tRp k (pFr P) (pKs P i) else pKs P i)) (pHt P) + pPs cc1 (pRpl k (pFr P) (pPut (.index k) P)) ≤ pNn P + sF (fun i => rvw k i (pKs P i)) (pHt P) + pPs cc1 P
    omega
  · rw [pHnd_2 z y]
    have a : sF (fun i => rvw (k + 1) i (pKs P i)) (pHt P) + 2 ≤ sF (fun i => rvw k i (pKs P i)) (pHt P) := sF_gap (pHt P) (fun i hi => by
      (try dsimp only)
      by_cases q : i = k
      · unfold rvw; rw [if_neg (by omega)]; exact Nat.zero_le _
      · rw [rvw_s q]; exact Nat.le_refl _) h (by
      (try dsimp only)
      rw [c1]
      unfold rvw; rw [if_neg (by omega)]
      exact Nat.le_refl _)
    show pNn P + 1 + sF (fun i => rvw (k + 1) i (pKs P i)) (pHt P) + pPs cc1 P ≤ pNn P + sF (fun i => rvw k i (pKs P i)) (pHt P) + pPs cc1 P
    omega
theorem pEnd1_V : ∀ k, k ≤ pHt P → pRV k (pEnd1 k P) ≤ pRV 0 P
  | 0, _ => Nat.le_refl _
  | k + 1, h => by
    have a := pEnd1_V k (by omega)
    have b := pHnd_V (P := pEnd1 k P) (k := k) (by rw [pEnd1_h]; omega)
    exact Nat.le_trans b a
theorem pEnd_V : pNn (pEnd P) ≤ pG 1 phV cc1 P := by
  have a := pEnd1_V (P := P) (pHt P) (Nat.le_refl _)
  have b : pRV 0 P ≤ pG 1 phV cc1 P := by
    have q : pSum (rvw 0) P ≤ pSum phV P := sF_le _ (fun i hi => by
      show rvw 0 i (pKs P i) ≤ cc1 (pKs P i) + 2 * cc2 i (pKs P i)
      unfold rvw; rw [if_pos (Nat.zero_le _)]; omega)
    unfold pRV pG
    omega
  have d : pNn (pEnd2 (pEnd1 (pHt P) P)) ≤ pNn (pEnd1 (pHt P) P) + pPs cc1 (pEnd1 (pHt P) P) := by
    generalize pEnd1 (pHt P) P = Q
    cases h : pTs Q with
    | none => rw [pEnd2_0 h]; omega
    | some t =>
      by_cases g : tEff t = true
      · rw [pEnd2_1 h g]
        have e : pPs cc1 Q = 1 := by
          unfold pPs
          rw [h]
          exact cc1_1 (lf0_e g)
        show pNn Q + 1 ≤ _
        omega
      · rw [pEnd2_2 h g]; omega
  unfold pRV at a
  show pNn (pEnd2 (pEnd1 (pHt P) P)) ≤ _
  unfold pRV at b
  omega
/-- parts and operators under handing over: as they were -/
theorem pHnd_sum {k : Nat} {ω : Term → Nat} (hω : ∀ k x t, ω (tRp k x t) = ω t) : pSum (fun _ => ω) (pHnd k P) = pSum (fun _ => ω) P ∧ pPs ω (pHnd k P) = pPs ω P := by
  by_cases z : pKs P k = .index k
  · rw [pHnd_0 z]; exact ⟨rfl, rfl⟩
  by_cases y : pNed k P
  · rw [pHnd_1 z y]
    refine ⟨?_, ?_⟩
    · show sF (fun i => ω (if k < i ∧ i < pHt P then tRp k (pFr P) (pKs P i) else pKs P i)) (pHt P) = sF (fun i => ω (pKs P i)) (pHt P)
      refine sF_cg (pHt P) (fun i hi => ?_)
      (try dsimp only)
      by_cases w : k < i
      · rw [if_pos ⟨w, hi⟩, hω]
      · rw [if_neg (fun u => w u.1)]
    · show (match (pTs P).map (tRp k (pFr P)) with | none => 0 | some t => ω t) = (match pTs P with | none => 0 | some t => ω t)
      cases pTs P with
      | none => rfl
      | some t => exact hω k (pFr P) t
  · rw [pHnd_2 z y]; exact ⟨rfl, rfl⟩
theorem pEnd1_sum {ω : Term → Nat} (hω : ∀ k x t, ω (tRp k x t) = ω t) : ∀ k, pSum (fun _ => ω) (pEnd1 k P) = pSum (fun _ => ω) P ∧ pPs ω (pEnd1 k P) = pPs ω P
  | 0 => ⟨rfl, rfl⟩
  | k + 1 => by
    have a := pEnd1_sum hω k
    have b := pHnd_sum (P := pEnd1 k P) (k := k) hω
    exact ⟨b.1.trans a.1, b.2.trans a.2⟩
theorem pSum_1 {ω : Term → Nat} {i : Nat} (h : i < pHt P) : ω (pKs P i) ≤ pSum (fun _ => ω) P := by
  have e : ∀ n, i < n → ω (pKs P i) ≤ sF (fun i => ω (pKs P i)) n := fun n => by
    induction n with
    | zero => intro z; exact absurd z (Nat.not_lt_zero _)
    | succ n ih =>
      intro z
      show _ ≤ sF (fun i => ω (pKs P i)) n + ω (pKs P n)
      by_cases q : i = n
      · rw [q]; omega
      · have := ih (by omega); omega
  exact e _ h
theorem pBeg_G {d : Nat} : pG 1 phV cc1 (pBeg d P) = pNn P ∧ pG 0 (fun _ => tOp) tOp (pBeg d P) = 0 ∧ pG 0 (fun _ => tSz) tSz (pBeg d P) = d := by
  have z : ∀ {φ : Nat → Term → Nat} {m : Nat}, (∀ i, φ i (.index i) = m) → ∀ n, sF (fun i => φ i (.index i)) n = m * n := fun {φ m} h n => by
    induction n with
    | zero => exact (Nat.mul_zero _).symm
    | succ n ih =>
      show sF (fun i => φ i (.index i)) n + φ n (.index n) = _
      rw [ih, h, Nat.mul_succ]
  have v0 : ∀ i, phV i (.index i) = 0 := fun i => by
    unfold phV cc2
    rw [if_pos (isTk_s i)]
    rfl
  refine ⟨?_, ?_, ?_⟩
  · show 1 * pNn P + sF (fun i => phV i (.index i)) d + 0 = pNn P
    rw [z v0 d]; omega
  · show 0 * pNn P + sF (fun i => tOp (.index i)) d + 0 = 0
    rw [z (φ := fun _ => tOp) (m := 0) (fun _ => rfl) d]; omega
  · show 0 * pNn P + sF (fun i => tSz (.index i)) d + 0 = d
    rw [z (φ := fun _ => tSz) (m := 1) (fun _ => rfl) d]; omega
end
