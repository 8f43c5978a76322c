/-- what an expression of the class's pool says -/
def mkX (sg lf rt : Int32) (tr : Nat → Term) : Term :=
  if sg.toInt = 107 then .int lf else
  if sg.toInt = 108 then .arg lf.toNatClampNeg else
  if sg.toInt = 84 then .index lf.toNatClampNeg else
  if sg.toInt = 88 then tX lf.toNatClampNeg else
  if sg.toInt = 105 then .null else
  if sg.toInt = 33 then .length (tr lf.toNatClampNeg) else
  if sg.toInt = 110 then .sum (tr lf.toNatClampNeg) else
  bn sg (tr lf.toNatClampNeg) (tr rt.toNatClampNeg)
abbrev isBi (g : Int) : Prop := g = 37 ∨ g = 42 ∨ g = 43 ∨ g = 45 ∨ g = 47 ∨ g = 60 ∨ g = 61
def WFX (sg lf rt : Int32) (n : Nat) : Prop :=
  (sg.toInt = 107 ∧ 0 ≤ lf.toInt ∧ lf.toInt ≤ 999 ∧ rt = 0) ∨ (sg.toInt = 108 ∧ 0 ≤ lf.toInt ∧ lf.toInt < 6 ∧ rt = 0) ∨ (sg.toInt = 84 ∧ 0 ≤ lf.toInt ∧ lf.toInt < 6 ∧ rt = 0) ∨ (sg.toInt = 88 ∧ 0 ≤ lf.toInt ∧ lf.toInt ≤ 999 ∧ rt = 0) ∨ (sg.toInt = 105 ∧ lf = 0 ∧ rt = 0) ∨ ((sg.toInt = 33 ∨ sg.toInt = 110) ∧ 0 ≤ lf.toInt ∧ lf.toInt < (n : Int) ∧ rt = 0) ∨ (isBi sg.toInt ∧ (0 ≤ lf.toInt ∧ lf.toInt < (n : Int)) ∧ 0 ≤ rt.toInt ∧ rt.toInt < (n : Int))
theorem clamp_in {x y : Int32} (hx : 0 ≤ x.toInt) (hy : 0 ≤ y.toInt) (h : x.toNatClampNeg = y.toNatClampNeg) : x = y := Int32.toInt_inj.mp (by
  have := clamp_I hx
  have := clamp_I hy
  omega)
section
variable {tr tr2 : Nat → Term} {sg lf rt sg2 lf2 rt2 : Int32} {n : Nat}
theorem mkX_k (h : sg.toInt = 107) : mkX sg lf rt tr = .int lf := by unfold mkX; rw [if_pos h]
theorem mkX_l (h : sg.toInt = 108) : mkX sg lf rt tr = .arg lf.toNatClampNeg := by unfold mkX; rw [if_neg (by omega), if_pos h]
theorem mkX_t (h : sg.toInt = 84) : mkX sg lf rt tr = .index lf.toNatClampNeg := by unfold mkX; rw [if_neg (by omega), if_neg (by omega), if_pos h]
theorem mkX_x (h : sg.toInt = 88) : mkX sg lf rt tr = tX lf.toNatClampNeg := by unfold mkX; rw [if_neg (by omega), if_neg (by omega), if_neg (by omega), if_pos h]
theorem mkX_i (h : sg.toInt = 105) : mkX sg lf rt tr = .null := by unfold mkX; rw [if_neg (by omega), if_neg (by omega), if_neg (by omega), if_neg (by omega), if_pos h]
theorem mkX_n (h : sg.toInt = 33) : mkX sg lf rt tr = .length (tr lf.toNatClampNeg) := by unfold mkX; rw [if_neg (by omega), if_neg (by omega), if_neg (by omega), if_neg (by omega), if_neg (by omega), if_pos h]
theorem mkX_g (h : sg.toInt = 110) : mkX sg lf rt tr = .sum (tr lf.toNatClampNeg) := by unfold mkX; rw [if_neg (by omega), if_neg (by omega), if_neg (by omega), if_neg (by omega), if_neg (by omega), if_neg (by omega), if_pos h]
theorem mkX_b (h : isBi sg.toInt) : mkX sg lf rt tr = bn sg (tr lf.toNatClampNeg) (tr rt.toNatClampNeg) := by
  unfold mkX
  rw [if_neg (by omega), if_neg (by omega), if_neg (by omega), if_neg (by omega), if_neg (by omega), if_neg (by omega), if_neg (by omega)]
theorem mkX_cg (h : WFX sg lf rt n) (e : ∀ d, d < n → tr d = tr2 d) : mkX sg lf rt tr = mkX sg lf rt tr2 := by
  rcases h with h | h | h | h | h | h | h
  · rw [mkX_k h.1, mkX_k h.1]
  · rw [mkX_l h.1, mkX_l h.1]
  · rw [mkX_t h.1, mkX_t h.1]
  · rw [mkX_x h.1, mkX_x h.1]
  · rw [mkX_i h.1, mkX_i h.1]
  · have c := clamp_I h.2.1
    have q := e lf.toNatClampNeg (by omega)
    rcases h.1 with g | g
    · rw [mkX_n g, mkX_n g, q]
    · rw [mkX_g g, mkX_g g, q]
  · have c := clamp_I h.2.1.1
    have d := clamp_I h.2.2.1
    rw [mkX_b h.1, mkX_b h.1, e lf.toNatClampNeg (by omega), e rt.toNatClampNeg (by omega)]
/-- which one it is -/
def kd : Term → Nat
  | .int _ => 0
  | .arg _ => 1
  | .index _ => 2
  | .string _ _ => 3
  | .null => 4
  | .length _ => 5
  | .sum _ => 6
  | _ => 7
theorem mkX_inj (inj : ∀ d e, d < n → e < n → tr d = tr e → d = e) (h : WFX sg lf rt n) (g : WFX sg2 lf2 rt2 n) (q : mkX sg lf rt tr = mkX sg2 lf2 rt2 tr) : sg = sg2 ∧ lf = lf2 ∧ rt = rt2 := by
  have k : kd (mkX sg lf rt tr) = kd (mkX sg2 lf2 rt2 tr) := by rw [q]
  have eq : ∀ {a b : Int32}, a.toInt = b.toInt → a = b := fun z => Int32.toInt_inj.mp z
  rcases h with h | h | h | h | h | h | h
  · rw [mkX_k h.1] at q k
    rcases g with g | g | g | g | g | ⟨g | g, _⟩ | g
    · rw [mkX_k g.1] at q
      exact ⟨eq (by omega), Term.int.inj q, h.2.2.2.trans g.2.2.2.symm⟩
    · rw [mkX_l g.1] at k; cases k
    · rw [mkX_t g.1] at k; cases k
    · rw [mkX_x g.1] at k; cases k
    · rw [mkX_i g.1] at k; cases k
    · rw [mkX_n g] at k; cases k
    · rw [mkX_g g] at k; cases k
    · rw [mkX_b g.1] at k; cases k
  · rw [mkX_l h.1] at q k
    rcases g with g | g | g | g | g | ⟨g | g, _⟩ | g
    · rw [mkX_k g.1] at k; cases k
    · rw [mkX_l g.1] at q
      exact ⟨eq (by omega), clamp_in h.2.1 g.2.1 (Term.arg.inj q), h.2.2.2.trans g.2.2.2.symm⟩
    · rw [mkX_t g.1] at k; cases k
    · rw [mkX_x g.1] at k; cases k
    · rw [mkX_i g.1] at k; cases k
    · rw [mkX_n g] at k; cases k
    · rw [mkX_g g] at k; cases k
    · rw [mkX_b g.1] at k; cases k
  · rw [mkX_t h.1] at q k
    rcases g with g | g | g | g | g | ⟨g | g, _⟩ | g
    · rw [mkX_k g.1] at k; cases k
    · rw [mkX_l g.1] at k; cases k
    · rw [mkX_t g.1] at q
      exact ⟨eq (by omega), clamp_in h.2.1 g.2.1 (Term.index.inj q), h.2.2.2.trans g.2.2.2.symm⟩
    · rw [mkX_x g.1] at k; cases k
    · rw [mkX_i g.1] at k; cases k
    · rw [mkX_n g] at k; cases k
    · rw [mkX_g g] at k; cases k
    · rw [mkX_b g.1] at k; cases k
  · rw [mkX_x h.1] at q k
    rcases g with g | g | g | g | g | ⟨g | g, _⟩ | g
    · rw [mkX_k g.1] at k; cases k
    · rw [mkX_l g.1] at k; cases k
    · rw [mkX_t g.1] at k; cases k
    · rw [mkX_x g.1] at q
      exact ⟨eq (by omega), clamp_in h.2.1 g.2.1 (Term.string.inj q).2, h.2.2.2.trans g.2.2.2.symm⟩
    · rw [mkX_i g.1] at k; cases k
    · rw [mkX_n g] at k; cases k
    · rw [mkX_g g] at k; cases k
    · rw [mkX_b g.1] at k; cases k
  · rw [mkX_i h.1] at q k
    rcases g with g | g | g | g | g | ⟨g | g, _⟩ | g
    · rw [mkX_k g.1] at k; cases k
    · rw [mkX_l g.1] at k; cases k
    · rw [mkX_t g.1] at k; cases k
    · rw [mkX_x g.1] at k; cases k
    · exact ⟨eq (by omega), h.2.1.trans g.2.1.symm, h.2.2.trans g.2.2.symm⟩
    · rw [mkX_n g] at k; cases k
    · rw [mkX_g g] at k; cases k
    · rw [mkX_b g.1] at k; cases k
  · have c := clamp_I h.2.1
    rcases h with ⟨h1 | h1, h2, h3_, h4⟩
    · rw [mkX_n h1] at q k
      rcases g with g | g | g | g | g | ⟨g | g, g2, g3, g4⟩ | g
      · rw [mkX_k g.1] at k; cases k
      · rw [mkX_l g.1] at k; cases k
      · rw [mkX_t g.1] at k; cases k
      · rw [mkX_x g.1] at k; cases k
      · rw [mkX_i g.1] at k; cases k
      · rw [mkX_n g] at q
        have d := clamp_I g2
        exact ⟨eq (by omega), clamp_in h2 g2 (inj _ _ (by omega) (by omega) (Term.length.inj q)), h4.trans g4.symm⟩
      · rw [mkX_g g] at k; cases k
      · rw [mkX_b g.1] at k; cases k
    · rw [mkX_g h1] at q k
      rcases g with g | g | g | g | g | ⟨g | g, g2, g3, g4⟩ | g
      · rw [mkX_k g.1] at k; cases k
      · rw [mkX_l g.1] at k; cases k
      · rw [mkX_t g.1] at k; cases k
      · rw [mkX_x g.1] at k; cases k
      · rw [mkX_i g.1] at k; cases k
      · rw [mkX_n g] at k; cases k
      · rw [mkX_g g] at q
        have d := clamp_I g2
        exact ⟨eq (by omega), clamp_in h2 g2 (inj _ _ (by omega) (by omega) (Term.sum.inj q)), h4.trans g4.symm⟩
      · rw [mkX_b g.1] at k; cases k
  · rw [mkX_b h.1] at q k
    rcases g with g | g | g | g | g | ⟨g | g, _⟩ | g
    · rw [mkX_k g.1] at k; cases k
    · rw [mkX_l g.1] at k; cases k
    · rw [mkX_t g.1] at k; cases k
    · rw [mkX_x g.1] at k; cases k
    · rw [mkX_i g.1] at k; cases k
    · rw [mkX_n g] at k; cases k
    · rw [mkX_g g] at k; cases k
    · rw [mkX_b g.1] at q
      obtain ⟨q1, q2⟩ := Term.add.inj q
      obtain ⟨q3, q4⟩ := Term.sub.inj q2
      have c1 := clamp_I h.2.1.1
      have c2 := clamp_I h.2.2.1
      have c3 := clamp_I g.2.1.1
      have c4 := clamp_I g.2.2.1
      exact ⟨Term.int.inj q1, clamp_in h.2.1.1 g.2.1.1 (inj _ _ (by omega) (by omega) q3), clamp_in h.2.2.1 g.2.2.1 (inj _ _ (by omega) (by omega) q4)⟩
end
theorem bI_sl {x : Int32} (h0 : 0 ≤ x.toInt) (h1 : x.toInt < 32) {i : Nat} (hi : i < 32) : bI ((1 : Int32) <<< (x &&& 31)) i = decide (i = x.toNatClampNeg) := by
  have c := clamp_I h0
  have e : x = nI x.toNatClampNeg := nI_id (x := x) (by omega)
  have e2 : x &&& 31 = nI x.toNatClampNeg := by
    have m := fa_mask x.toNatClampNeg 5
    rw [← e] at m
    rw [show (31 : Int32) = nI (2 ^ 5 - 1) by decide +kernel, m, Nat.mod_eq_of_lt (by omega)]
  rw [e2]
  unfold bI
  rw [bI_tp _ (by omega), BitVec.getLsbD_twoPow]
  by_cases q : i = x.toNatClampNeg
  · rw [decide_eq_true q, decide_eq_true (p := x.toNatClampNeg < 32) (by omega), decide_eq_true (p := x.toNatClampNeg = i) q.symm]; rfl
  · rw [decide_eq_false q, decide_eq_false (p := x.toNatClampNeg = i) (fun z => q z.symm), Bool.and_false]
theorem bI_4096 : ∀ i, i < 32 → bI (4096 : Int32) i = decide (i = 12) := by decide +kernel
/-- bits 0 to 5 variables, 6 to 11 T, 12 effects -/
def TRB (v : Int32) (t : Term) : Prop := (∀ i, i < 6 → bI v i = tVar i t) ∧ (∀ i, i < 6 → bI v (6 + i) = tTn i t) ∧ bI v 12 = tEff t
/-- the class's pool -/
def PLX (σ : Sto) (n : Nat) (tr : Nat → Term) : Prop := (σ.1 46 0).toInt = (n : Int) ∧ n ≤ 512 ∧ (∀ e, e < n → WFX (σ.1 47 e) (σ.1 48 e) (σ.1 49 e) e ∧ tr e = mkX (σ.1 47 e) (σ.1 48 e) (σ.1 49 e) tr ∧ (σ.1 50 e).toInt = (tSz (tr e) : Int) ∧ TRB (σ.1 51 e) (tr e) ∧ tSz (tr e) ≤ 60) ∧ ∀ d e, d < n → e < n → tr d = tr e → d = e
theorem WFX.up {sg lf rt : Int32} {n m : Nat} (h : WFX sg lf rt n) (hm : n ≤ m) : WFX sg lf rt m := by
  unfold WFX at h ⊢
  rcases h with h | h | h | h | h | h | h
  · exact Or.inl h
  · exact Or.inr (Or.inl h)
  · exact Or.inr (Or.inr (Or.inl h))
  · exact Or.inr (Or.inr (Or.inr (Or.inl h)))
  · exact Or.inr (Or.inr (Or.inr (Or.inr (Or.inl h))))
  · exact Or.inr (Or.inr (Or.inr (Or.inr (Or.inr (Or.inl ⟨h.1, h.2.1, by omega, h.2.2.2⟩)))))
  · exact Or.inr (Or.inr (Or.inr (Or.inr (Or.inr (Or.inr ⟨h.1, ⟨h.2.1.1, by omega⟩, h.2.2.1, by omega⟩)))))
/-- the pool with one more -/
theorem PLX.ext {σ s : Sto} {n : Nat} {tr : Nat → Term} {sg lf rt : Int32} (h : PLX σ n tr) (hw : WFX sg lf rt n) (hn : n < 512) (hs : tSz (mkX sg lf rt tr) ≤ 60) (no : ∀ e, e < n → ¬ (σ.1 47 e = sg ∧ σ.1 48 e = lf ∧ σ.1 49 e = rt)) (e46 : (s.1 46 0).toInt = (n : Int) + 1) (eo : ∀ k, k = 47 ∨ k = 48 ∨ k = 49 ∨ k = 50 ∨ k = 51 → ∀ e, e < n → s.1 k e = σ.1 k e) (e47 : s.1 47 n = sg) (e48 : s.1 48 n = lf) (e49 : s.1 49 n = rt) (e50 : (s.1 50 n).toInt = (tSz (mkX sg lf rt tr) : Int)) (e51 : TRB (s.1 51 n) (mkX sg lf rt tr)) : PLX s (n + 1) (upT tr n (mkX sg lf rt tr)) := by
  obtain ⟨h1, h2, h3, h4⟩ := h
  have old : ∀ e, e < n → upT tr n (mkX sg lf rt tr) e = tr e := fun e he => upT_n (by omega)
  have oldm : ∀ {a b c : Int32} {m : Nat}, m ≤ n → WFX a b c m → mkX a b c (upT tr n (mkX sg lf rt tr)) = mkX a b c tr := fun hm w => mkX_cg w (fun d hd => old d (by omega))
  have diff : ∀ e, e < n → tr e ≠ mkX sg lf rt tr := fun e he z => by
    obtain ⟨w, q, _⟩ := h3 e he
    rw [q] at z
    exact no e he (mkX_inj (n := n) h4 (w.up (by omega)) hw z)
  refine ⟨by omega, by omega, fun e he => ?_, fun d e hd he q => ?_⟩
  · by_cases c : e = n
    · subst c
      rw [upT_s, e47, e48, e49, oldm (Nat.le_refl _) hw]
      exact ⟨hw, rfl, e50, e51, hs⟩
    · have he : e < n := by omega
      obtain ⟨w, q, r, t, u⟩ := h3 e he
      rw [old e he, eo 47 (by omega) e he, eo 48 (by omega) e he, eo 49 (by omega) e he, eo 50 (by omega) e he, eo 51 (by omega) e he, oldm (by omega) w]
      exact ⟨w, q, r, t, u⟩
  · by_cases c : d = n
    · by_cases c2 : e = n
      · omega
      · rw [c, upT_s, old e (by omega)] at q
        exact absurd q.symm (diff e (by omega))
    · by_cases c2 : e = n
      · rw [c2, upT_s, old d (by omega)] at q
        exact absurd q (diff d (by omega))
      · rw [old d (by omega), old e (by omega)] at q
        exact h4 d e (by omega) (by omega) q
abbrev MPL : List Nat := [46, 47, 48, 49, 50, 51]
/-- what make answers -/
def MKA (σ : Sto) (n : Nat) (tr : Nat → Term) (t : Term) (r : Int32 × Sto) : Prop := FR MPL [] σ r.2 ∧ ∃ n' tr' e, PLX r.2 n' tr' ∧ (∀ d, d < n → tr' d = tr d) ∧ r.1.toInt = ((e : Nat) : Int) ∧ e < n' ∧ tr' e = t ∧ (n' = n ∨ (n' = n + 1 ∧ e = n))
theorem t_make {σ : Sto} {n : Nat} {tr : Nat → Term} {sg lf rt : Int32} (h : PLX σ n tr) (hw : WFX sg lf rt n) (hn : n < 512) (hs : tSz (mkX sg lf rt tr) ≤ 60) : PC (f_X7_make sg lf rt σ) (MKA σ n tr (mkX sg lf rt tr)) := by
  have k_0 : (0 : Int32).toInt = 0 := by decide +kernel
  have k_1 : (1 : Int32).toInt = 1 := by decide +kernel
  have k_512 : (512 : Int32).toInt = 512 := by decide +kernel
  have k_105 : (105 : Int32).toInt = 105 := by decide +kernel
  have k_47 : (47 : Int32).toInt = 47 := by decide +kernel
  have k_37 : (37 : Int32).toInt = 37 := by decide +kernel
  obtain ⟨h1, h2, h3, h4⟩ := id h
  unfold f_X7_make
  refine pc_itr1 (fun x => 0 ≤ x.toInt ∧ x.toInt ≤ (n : Int) ∧ ∀ e : Nat, (e : Int) < x.toInt → ¬ (σ.1 47 e = sg ∧ σ.1 48 e = lf ∧ σ.1 49 e = rt)) ?_ ⟨by omega, by omega, fun e he => by omega⟩
  intro ag x I ih
  obtain ⟨x0, xn, hx⟩ := I
  have cx := clamp_I x0
  refine pc_ite (fun c => ?_) (fun c => ?_)
  · rw [fa_le, h1] at c
    have no : ∀ e, e < n → ¬ (σ.1 47 e = sg ∧ σ.1 48 e = lf ∧ σ.1 49 e = rt) := fun e he => hx e (by omega)
    refine pc_ite (fun c2 => ?_) (fun c2 => ?_)
    · rw [fa_eq, h1, k_512] at c2
      omega
    have cn : (σ.1 46 0).toNatClampNeg = n := by
      have := clamp_I (x := σ.1 46 0) (by omega)
      omega
    refine pc_ix (fun _ => ?_)
    rw [cn]
    refine pc_lt fun s4 e4 => ?_
    have r4 : s4.1 46 = σ.1 46 := by rw [e4, sti_o (by decide)]
    refine pc_ix (fun _ => ?_)
    rw [r4, cn]
    refine pc_lt fun s5 e5 => ?_
    have r5 : s5.1 46 = σ.1 46 := by rw [e5, sti_o (by decide)]; exact r4
    refine pc_ix (fun _ => ?_)
    rw [r5, cn]
    refine pc_lt fun s6 e6 => ?_
    have r6 : s6.1 46 = σ.1 46 := by rw [e6, sti_o (by decide)]; exact r5
    refine pc_ix (fun _ => ?_)
    rw [r6, cn]
    refine pc_lt fun s7 e7 => ?_
    have r7 : s7.1 46 = σ.1 46 := by rw [e7, sti_o (by decide)]; exact r6
    rw [r7, cn]
    -- rows of what stands, at s7
    have q47 : ∀ i, s7.1 47 i = if i = n then sg else σ.1 47 i := fun i => by rw [e7, sti_o (by decide), e6, sti_o (by decide), e5, sti_o (by decide), e4, sti_if]
    have q48 : ∀ i, s7.1 48 i = if i = n then lf else σ.1 48 i := fun i => by rw [e7, sti_o (by decide), e6, sti_o (by decide), e5, sti_if, e4, sti_o (by decide)]
    have q49 : ∀ i, s7.1 49 i = if i = n then rt else σ.1 49 i := fun i => by rw [e7, sti_o (by decide), e6, sti_if, e5, sti_o (by decide), e4, sti_o (by decide)]
    have q50 : ∀ i, s7.1 50 i = if i = n then 1 else σ.1 50 i := fun i => by rw [e7, sti_if, e6, sti_o (by decide), e5, sti_o (by decide), e4, sti_o (by decide)]
    have q51 : ∀ i, s7.1 51 i = σ.1 51 i := fun i => by rw [e7, sti_o (by decide), e6, sti_o (by decide), e5, sti_o (by decide), e4, sti_o (by decide)]
    have F7 : FR MPL [] σ s7 := by rw [e7, e6, e5, e4]; exact FR.st (FR.st (FR.st (FR.st FR.rf (by decide)) (by decide)) (by decide)) (by decide)
    refine pc_jnI1 (fun t => t = if sg.toInt = 105 ∨ sg.toInt = 47 ∨ sg.toInt = 37 then 4096 else 0) (fun t ht => ?_) (fun k hk => ?_)
    · refine pc_ix (fun _ => ?_)
      refine pc_lt fun s9 e9 => ?_
      have r9 : s9.1 46 = σ.1 46 := by rw [e9, sti_o (by decide)]; exact r7
      have p50 : ∀ i, s9.1 50 i = if i = n then 1 else σ.1 50 i := fun i => by rw [e9, sti_o (by decide)]; exact q50 i
      have p51 : ∀ i, s9.1 51 i = if i = n then t else σ.1 51 i := fun i => by rw [e9, sti_if, q51]
      have F9 : FR MPL [] σ s9 := by rw [e9]; exact FR.st F7 (by decide)
      -- the end
      refine pc_jnI1 (fun s10 => FR MPL [] σ s10 ∧ s10.1 46 = σ.1 46 ∧ s10.1 47 = s9.1 47 ∧ s10.1 48 = s9.1 48 ∧ s10.1 49 = s9.1 49 ∧ (∀ i, i < n → s10.1 50 i = σ.1 50 i ∧ s10.1 51 i = σ.1 51 i) ∧ (s10.1 50 n).toInt = (tSz (mkX sg lf rt tr) : Int) ∧ TRB (s10.1 51 n) (mkX sg lf rt tr)) (fun s10 Jn => ?_) (fun k2 hk2 => ?_)
      · obtain ⟨j1, j2, j3, j4, j5, j6, j7, j8⟩ := Jn
        refine pc_lt fun s11 e11 => ?_
        have v11 : (s11.1 46 0).toInt = (n : Int) + 1 := by rw [e11, sti_s, j2, i1 (by omega)]; omega
        have o11 : ∀ {k : Nat}, k ≠ 46 → s11.1 k = s10.1 k := fun {k} hk => by rw [e11, sti_o hk]
        have P := h.ext (s := s11) hw hn hs no v11 (fun k hk e he => by
          rcases hk with z | z | z | z | z
          · subst z; rw [o11 (by decide), j3, e9, sti_o (by decide), q47, if_neg (by omega)]
          · subst z; rw [o11 (by decide), j4, e9, sti_o (by decide), q48, if_neg (by omega)]
          · subst z; rw [o11 (by decide), j5, e9, sti_o (by decide), q49, if_neg (by omega)]
          · subst z; rw [o11 (by decide)]; exact (j6 e he).1
          · subst z; rw [o11 (by decide)]; exact (j6 e he).2) (by rw [o11 (by decide), j3, e9, sti_o (by decide), q47, if_pos rfl]) (by rw [o11 (by decide), j4, e9, sti_o (by decide), q48, if_pos rfl]) (by rw [o11 (by decide), j5, e9, sti_o (by decide), q49, if_pos rfl]) (by rw [o11 (by decide)]; exact j7) (by rw [o11 (by decide)]; exact j8)
        refine pc_ret ⟨by rw [e11]; exact FR.st j1 (by decide), n + 1, _, n, P, fun d hd => upT_n (by omega), ?_, by omega, upT_s _ _ _, Or.inr ⟨rfl, rfl⟩⟩
        show ((s11.1 46 0) - 1).toInt = (n : Int)
        rw [i32_m1 (by omega)]
        omega
      · have bt : ∀ i, i < 12 → bI t i = false := fun i hi => by
          rw [ht]
          by_cases z : sg.toInt = 105 ∨ sg.toInt = 47 ∨ sg.toInt = 37
          · rw [if_pos z, bI_4096 i (by omega)]; exact decide_eq_false (by omega)
          · rw [if_neg z, bI_0]
        have bt12 : bI t 12 = decide (sg.toInt = 105 ∨ sg.toInt = 47 ∨ sg.toInt = 37) := by
          rw [ht]
          by_cases z : sg.toInt = 105 ∨ sg.toInt = 47 ∨ sg.toInt = 37
          · rw [if_pos z, bI_4096 12 (by omega), decide_eq_true z]; rfl
          · rw [if_neg z, bI_0, decide_eq_false z]
        have fin : ∀ u : Sto, FR MPL [] σ u → (∀ q, q ≠ 50 ∧ q ≠ 51 → u.1 q = s9.1 q) → (∀ i, i ≠ n → u.1 50 i = s9.1 50 i ∧ u.1 51 i = s9.1 51 i) → (u.1 50 n).toInt = (tSz (mkX sg lf rt tr) : Int) → TRB (u.1 51 n) (mkX sg lf rt tr) → PC (k2 u) (MKA σ n tr (mkX sg lf rt tr)) := fun u u1 u2 u3 u4 u5 => hk2 u ⟨u1, (u2 46 (by decide)).trans r9, u2 47 (by decide), u2 48 (by decide), u2 49 (by decide), fun i hi => by
          obtain ⟨y1, y2⟩ := u3 i (by omega)
          rw [y1, y2, p50, p51, if_neg (by omega), if_neg (by omega)]
          exact ⟨rfl, rfl⟩, u4, u5⟩
        have one9 : s9.1 50 n = 1 := by rw [p50, if_pos rfl]
        refine pc_ite (fun c3 => ?_) (fun c3 => ?_)
        · -- not, neg
          have hl : 0 ≤ lf.toInt ∧ lf.toInt < (n : Int) := by
            rcases hw with w | w | w | w | w | w | w
            · omega
            · omega
            · omega
            · omega
            · omega
            · exact ⟨w.2.1, w.2.2.1⟩
            · have := w.1; omega
          have cl := clamp_I hl.1
          obtain ⟨_, _, g50, g51, g52⟩ := h3 lf.toNatClampNeg (by omega)
          refine pc_lt fun v13 e13 => ?_
          have c13 : v13.toNatClampNeg = n := by rw [e13, r9]; exact cn
          refine pc_ix (fun _ => ?_)
          rw [c13]
          refine pc_lt fun v14 e14 => ?_
          refine pc_ix (fun _ => ?_)
          refine pc_lt fun v15 e15 => ?_
          rw [one9] at e14
          rw [p50, if_neg (by omega)] at e15
          refine pc_ix (fun _ => ?_)
          refine pc_lt fun s16 e16 => ?_
          refine pc_ix (fun _ => ?_)
          refine pc_lt fun v17 e17 => ?_
          rw [e16, sti_o (by decide), p51, if_neg (by omega)] at e17
          have r16 : s16.1 46 = σ.1 46 := by rw [e16, sti_o (by decide)]; exact r9
          refine pc_ix (fun _ => ?_)
          rw [r16, cn]
          refine pc_lt fun s18 e18 => ?_
          have mk : mkX sg lf rt tr = .length (tr lf.toNatClampNeg) ∨ mkX sg lf rt tr = .sum (tr lf.toNatClampNeg) := by
            rcases c3 with z | z
            · exact Or.inl (mkX_n z)
            · exact Or.inr (mkX_g z)
          refine fin s18 (by rw [e18, e16]; exact FR.st (FR.st F9 (by decide)) (by decide)) (fun q hq => by rw [e18, sti_o hq.2, e16, sti_o hq.1]) (fun i hi => by rw [e18, sti_o (by decide), sti_j hi, e16, sti_j hi, sti_o (by decide)]; exact ⟨rfl, rfl⟩) ?_ ?_
          · rw [e18, sti_o (by decide), e16, sti_s, e14, e15, fb_addI (by rw [k_1]; omega) (by rw [k_1]; omega), k_1, g50]
            rcases mk with z | z
            · rw [z]; show _ = ((1 + tSz (tr lf.toNatClampNeg) : Nat) : Int); omega
            · rw [z]; show _ = ((1 + tSz (tr lf.toNatClampNeg) : Nat) : Int); omega
          · rw [e18, sti_s, e17]
            rcases mk with z | z
            · rw [z]; exact g51
            · rw [z]; exact g51
        refine pc_ite (fun c4 => ?_) (fun c4 => ?_)
        · -- T
          have hl : 0 ≤ lf.toInt ∧ lf.toInt < 6 := by
            rcases hw with w | w | w | w | w | w | w
            · omega
            · omega
            · exact ⟨w.2.1, w.2.2.1⟩
            · omega
            · omega
            · omega
            · have := w.1; omega
          have cl := clamp_I hl.1
          have k_6 : (6 : Int32).toInt = 6 := by decide +kernel
          have s6l : ((6 : Int32) + lf).toInt = 6 + lf.toInt := by rw [fb_addI (by rw [k_6]; omega) (by rw [k_6]; omega), k_6]
          have c6l : ((6 : Int32) + lf).toNatClampNeg = 6 + lf.toNatClampNeg := by
            have := clamp_I (x := (6 : Int32) + lf) (by omega)
            omega
          refine pc_ix (fun _ => ?_)
          rw [r9, cn]
          refine pc_lt fun s19 e19 => ?_
          refine fin s19 (by rw [e19]; exact FR.st F9 (by decide)) (fun q hq => by rw [e19, sti_o hq.2]) (fun i hi => by rw [e19, sti_o (by decide), sti_j hi]; exact ⟨rfl, rfl⟩) (by rw [e19, sti_o (by decide), one9, mkX_t c4, k_1]; rfl) ?_
          rw [e19, sti_s, mkX_t c4]
          refine ⟨fun i hi => ?_, fun i hi => ?_, ?_⟩
          · rw [bI_sl (by omega) (by omega) (by omega), c6l]; exact decide_eq_false (by omega)
          · rw [bI_sl (by omega) (by omega) (by omega), c6l]
            show decide (6 + i = 6 + lf.toNatClampNeg) = decide (lf.toNatClampNeg = i)
            exact decide_eq_decide.mpr ⟨fun z => by omega, fun z => by omega⟩
          · rw [bI_sl (by omega) (by omega) (by omega), c6l]; exact decide_eq_false (by omega)
        refine pc_ite (fun c5 => ?_) (fun c5 => ?_)
        · -- X, in, numbers
          refine fin s9 F9 (fun _ _ => rfl) (fun _ _ => ⟨rfl, rfl⟩) ?_ ?_
          · rw [one9, k_1]
            rcases c5 with z | z | z
            · rw [mkX_x z]; rfl
            · rw [mkX_i z]; rfl
            · rw [mkX_k z]; rfl
          · rw [p51, if_pos rfl]
            refine ⟨fun i hi => ?_, fun i hi => ?_, ?_⟩
            · rw [bt i (by omega)]
              rcases c5 with z | z | z
              · rw [mkX_x z]; rfl
              · rw [mkX_i z]; rfl
              · rw [mkX_k z]; rfl
            · rw [bt _ (by omega)]
              rcases c5 with z | z | z
              · rw [mkX_x z]; rfl
              · rw [mkX_i z]; rfl
              · rw [mkX_k z]; rfl
            · rw [bt12]
              rcases c5 with z | z | z
              · rw [mkX_x z, decide_eq_false (by omega)]; rfl
              · rw [mkX_i z, decide_eq_true (Or.inl z)]; rfl
              · rw [mkX_k z, decide_eq_false (by omega)]; rfl
        refine pc_ite (fun c6 => ?_) (fun c6 => ?_)
        · -- variables
          have hl : 0 ≤ lf.toInt ∧ lf.toInt < 6 := by
            rcases hw with w | w | w | w | w | w | w
            · omega
            · exact ⟨w.2.1, w.2.2.1⟩
            · omega
            · omega
            · omega
            · omega
            · have := w.1; omega
          have cl := clamp_I hl.1
          refine pc_ix (fun _ => ?_)
          rw [r9, cn]
          refine pc_lt fun s20 e20 => ?_
          refine fin s20 (by rw [e20]; exact FR.st F9 (by decide)) (fun q hq => by rw [e20, sti_o hq.2]) (fun i hi => by rw [e20, sti_o (by decide), sti_j hi]; exact ⟨rfl, rfl⟩) (by rw [e20, sti_o (by decide), one9, mkX_l c6, k_1]; rfl) ?_
          rw [e20, sti_s, mkX_l c6]
          refine ⟨fun i hi => ?_, fun i hi => ?_, ?_⟩
          · rw [bI_sl (by omega) (by omega) (by omega)]
            show decide (i = lf.toNatClampNeg) = decide (lf.toNatClampNeg = i)
            exact decide_eq_decide.mpr ⟨fun z => z.symm, fun z => z.symm⟩
          · rw [bI_sl (by omega) (by omega) (by omega)]; exact decide_eq_false (by omega)
          · rw [bI_sl (by omega) (by omega) (by omega)]; exact decide_eq_false (by omega)
        · -- of two
          have hb : isBi sg.toInt ∧ (0 ≤ lf.toInt ∧ lf.toInt < (n : Int)) ∧ 0 ≤ rt.toInt ∧ rt.toInt < (n : Int) := by
            rcases hw with w | w | w | w | w | w | w
            · omega
            · omega
            · omega
            · omega
            · omega
            · omega
            · exact w
          have cl := clamp_I hb.2.1.1
          have cr := clamp_I hb.2.2.1
          obtain ⟨_, _, g50, g51, g52⟩ := h3 lf.toNatClampNeg (by omega)
          obtain ⟨_, _, f50, f51, f52⟩ := h3 rt.toNatClampNeg (by omega)
          refine pc_lt fun v21 e21 => ?_
          have c21 : v21.toNatClampNeg = n := by rw [e21, r9]; exact cn
          refine pc_ix (fun _ => ?_)
          rw [c21]
          refine pc_lt fun v22 e22 => ?_
          refine pc_ix (fun _ => ?_)
          refine pc_lt fun v23 e23 => ?_
          refine pc_ix (fun _ => ?_)
          refine pc_lt fun v24 e24 => ?_
          rw [one9] at e22
          rw [p50, if_neg (by omega)] at e23 e24
          refine pc_ix (fun _ => ?_)
          refine pc_lt fun s25 e25 => ?_
          have r25 : s25.1 46 = σ.1 46 := by rw [e25, sti_o (by decide)]; exact r9
          refine pc_lt fun v26 e26 => ?_
          have c26 : v26.toNatClampNeg = n := by rw [e26, r25]; exact cn
          refine pc_ix (fun _ => ?_)
          rw [c26]
          refine pc_lt fun v27 e27 => ?_
          refine pc_ix (fun _ => ?_)
          refine pc_lt fun v28 e28 => ?_
          refine pc_ix (fun _ => ?_)
          refine pc_lt fun v29 e29 => ?_
          rw [e25, sti_o (by decide), p51, if_pos rfl] at e27
          rw [e25, sti_o (by decide), p51, if_neg (by omega)] at e28 e29
          refine pc_ix (fun _ => ?_)
          refine pc_lt fun s30 e30 => ?_
          have mk := mkX_b (lf := lf) (rt := rt) (tr := tr) hb.1
          have a1 : (v23 + v24).toInt = (tSz (tr lf.toNatClampNeg) : Int) + tSz (tr rt.toNatClampNeg) := by
            rw [e23, e24, fb_addI (by omega) (by omega), g50, f50]
          refine fin s30 (by rw [e30, e25]; exact FR.st (FR.st F9 (by decide)) (by decide)) (fun q hq => by rw [e30, sti_o hq.2, e25, sti_o hq.1]) (fun i hi => by rw [e30, sti_o (by decide), sti_j hi, e25, sti_j hi, sti_o (by decide)]; exact ⟨rfl, rfl⟩) ?_ ?_
          · rw [e30, sti_o (by decide), e25, sti_s, e22, fb_addI (by rw [k_1]; omega) (by rw [k_1]; omega), k_1, a1, mk]
            show _ = ((1 + (tSz (tr lf.toNatClampNeg) + tSz (tr rt.toNatClampNeg)) : Nat) : Int)
            omega
          · rw [e30, sti_s, e27, e28, e29, mk]
            refine ⟨fun i hi => ?_, fun i hi => ?_, ?_⟩
            · rw [bI_or, bI_or, bt i (by omega), g51.1 i hi, f51.1 i hi]; rfl
            · rw [bI_or, bI_or, bt _ (by omega), g51.2.1 i hi, f51.2.1 i hi]; rfl
            · rw [bI_or, bI_or, bt12, g51.2.2, f51.2.2]
              have e : decide (sg.toInt = 105 ∨ sg.toInt = 47 ∨ sg.toInt = 37) = (decide (sg = 47) || decide (sg = 37)) := by
                have b47 : sg = 47 ↔ sg.toInt = 47 := by rw [fa_eq, k_47]
                have b37 : sg = 37 ↔ sg.toInt = 37 := by rw [fa_eq, k_37]
                have h105 : sg.toInt ≠ 105 := by have := hb.1; omega
                by_cases z : sg.toInt = 47
                · rw [decide_eq_true (Or.inr (Or.inl z)), decide_eq_true (b47.mpr z)]; rfl
                · by_cases z2 : sg.toInt = 37
                  · rw [decide_eq_true (Or.inr (Or.inr z2)), decide_eq_true (b37.mpr z2), Bool.or_true]
                  · rw [decide_eq_false (by omega), decide_eq_false (fun w => z (b47.mp w)), decide_eq_false (fun w => z2 (b37.mp w))]; rfl
              rw [e]
              show _ = (decide (sg = 47) || decide (sg = 37) || tEff (tr lf.toNatClampNeg) || tEff (tr rt.toNatClampNeg))
              rw [Bool.or_assoc, Bool.or_assoc, Bool.or_assoc]
    · refine pc_jnI0 (sg.toInt = 105 ∨ sg.toInt = 47 ∨ sg.toInt = 37) (fun z => hk 4096 (if_pos z).symm) (fun k2 hk2 => ?_)
      refine pc_ite (fun c3 => hk2 (Or.inl (by rw [fa_eq, k_105] at c3; exact c3))) (fun c3 => ?_)
      refine pc_ite (fun c4 => hk2 (Or.inr (Or.inl (by rw [fa_eq, k_47] at c4; exact c4)))) (fun c4 => ?_)
      refine pc_ite (fun c5 => hk2 (Or.inr (Or.inr (by rw [fa_eq, k_37] at c5; exact c5)))) (fun c5 => ?_)
      rw [fa_eq, k_105] at c3
      rw [fa_eq, k_47] at c4
      rw [fa_eq, k_37] at c5
      exact hk 0 (if_neg (by omega)).symm
  · rw [fa_le, h1] at c
    have ex : (x + 1).toInt = x.toInt + 1 := i1 (by omega)
    refine pc_ix (fun _ => ?_)
    refine pc_lt fun v35 e35 => ?_
    refine pc_jnI0 (¬ (σ.1 47 x.toNatClampNeg = sg ∧ σ.1 48 x.toNatClampNeg = lf ∧ σ.1 49 x.toNatClampNeg = rt)) (fun hno => ?_) (fun k hk => ?_)
    · refine pc_lt fun x37 e37 => ?_
      subst e37
      refine ih (x + 1) ⟨by omega, by omega, fun e he => ?_⟩
      by_cases q : e = x.toNatClampNeg
      · rw [q]; exact hno
      · exact hx e (by omega)
    · refine pc_ite (fun c1 => ?_) (fun c1 => hk (fun z => c1 (by rw [e35]; exact z.1)))
      refine pc_ix (fun _ => ?_)
      refine pc_lt fun v39 e39 => ?_
      refine pc_ite (fun c2 => ?_) (fun c2 => hk (fun z => c2 (by rw [e39]; exact z.2.1)))
      refine pc_ix (fun _ => ?_)
      refine pc_lt fun v41 e41 => ?_
      refine pc_ite (fun c3 => ?_) (fun c3 => hk (fun z => c3 (by rw [e41]; exact z.2.2)))
      rw [e35] at c1
      rw [e39] at c2
      rw [e41] at c3
      have xl : x.toNatClampNeg < n := by omega
      have q := (h3 _ xl).2.1
      rw [c1, c2, c3] at q
      exact pc_ret ⟨FR.rf, n, tr, x.toNatClampNeg, h, fun _ _ => rfl, cx.symm, xl, q, Or.inl rfl⟩
/-- how many are no T -/
def nzT (n : Nat) (tr : Nat → Term) : Nat := fb_ct (fun e => nT (tr e)) n
noncomputable def imB (p : Nat → Bool) (g : Nat → Nat) (n j : Nat) : Bool := @decide (∃ e, e < n ∧ p e = true ∧ g e = j) (Classical.propDecidable _)
theorem imB_t {p : Nat → Bool} {g : Nat → Nat} {n j : Nat} : imB p g n j = true ↔ ∃ e, e < n ∧ p e = true ∧ g e = j := ⟨fun h => @of_decide_eq_true _ (Classical.propDecidable _) h, fun h => @decide_eq_true _ (Classical.propDecidable _) h⟩
theorem ct_inj {p : Nat → Bool} {g : Nat → Nat} {m : Nat} : ∀ n, (∀ e, e < n → p e = true → g e < m) → (∀ d e, d < n → e < n → p d = true → p e = true → g d = g e → d = e) → fb_ct p n ≤ fb_ct (imB p g n) m
  | 0, _, _ => Nat.zero_le _
  | n + 1, h, i => by
    have ih := ct_inj n (fun e he => h e (by omega)) (fun d e hd he => i d e (by omega) (by omega))
    have up : ∀ k, k < m → imB p g n k = true → imB p g (n + 1) k = true := fun k _ z => by
      obtain ⟨e, e1, e2, e3⟩ := imB_t.mp z
      exact imB_t.mpr ⟨e, by omega, e2, e3⟩
    rw [fb_ct_succ]
    by_cases c : p n = true
    · rw [if_pos c]
      have new : imB p g n (g n) = false := by
        cases w : imB p g n (g n) with
        | false => rfl
        | true =>
          obtain ⟨e, e1, e2, e3⟩ := imB_t.mp w
          have := i e n (by omega) (by omega) e2 c e3
          omega
      have q := ct_lt up (h n (by omega) c) new (imB_t.mpr ⟨n, by omega, c, rfl⟩)
      omega
    · rw [if_neg c]
      have q := fb_ct_sub (n := m) up
      omega
theorem PLX.six {σ : Sto} {n : Nat} {tr : Nat → Term} (h : PLX σ n tr) {e : Nat} (he : e < n) (c : nT (tr e) = false) : ixT (tr e) < 6 ∧ tr e = .index (ixT (tr e)) := by
  refine ⟨?_, nT_f c⟩
  obtain ⟨w, q, _⟩ := h.2.2.1 e he
  rw [q] at c ⊢
  rcases w with w | w | w | w | w | w | w
  · rw [mkX_k w.1] at c; exact absurd c (by simp [nT])
  · rw [mkX_l w.1] at c; exact absurd c (by simp [nT])
  · rw [mkX_t w.1]
    have := clamp_I w.2.1
    show (σ.1 48 e).toNatClampNeg < 6
    omega
  · rw [mkX_x w.1] at c; exact absurd c (by simp [nT])
  · rw [mkX_i w.1] at c; exact absurd c (by simp [nT])
  · rcases w.1 with z | z
    · rw [mkX_n z] at c; exact absurd c (by simp [nT])
    · rw [mkX_g z] at c; exact absurd c (by simp [nT])
  · rw [mkX_b w.1] at c; exact absurd c (by simp [nT])
theorem PLX.nz_ {σ : Sto} {n : Nat} {tr : Nat → Term} (h : PLX σ n tr) : n ≤ nzT n tr + 6 := by
  have a := fb_ct_not (fun e => nT (tr e)) n
  have b := ct_inj (p := fun e => !nT (tr e)) (g := fun e => ixT (tr e)) (m := 6) n (fun e he c => (h.six he (by cases w : nT (tr e) with | false => rfl | true => (try dsimp only at c); rw [w] at c; exact absurd c (by decide))).1) (fun d e hd he c1 c2 q => by
    have q1 : nT (tr d) = false := by cases w : nT (tr d) with | false => rfl | true => (try dsimp only at c1); rw [w] at c1; exact absurd c1 (by decide)
    have q2 : nT (tr e) = false := by cases w : nT (tr e) with | false => rfl | true => (try dsimp only at c2); rw [w] at c2; exact absurd c2 (by decide)
    refine h.2.2.2 d e hd he ?_
    rw [(h.six hd q1).2, (h.six he q2).2]
    (try dsimp only at q)
    rw [q])
  have c := fb_ct_le (imB (fun e => !nT (tr e)) (fun e => ixT (tr e)) n) 6
  unfold nzT
  omega
