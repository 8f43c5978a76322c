/-- what a node of the reference says -/
def mkM (kd lf rt : Int32) (tr : Nat → Term) : Term :=
  if kd.toInt = 0 then .int lf else
  if kd.toInt = 1 then .arg lf.toNatClampNeg else
  if kd.toInt = 2 then .index lf.toNatClampNeg else
  if kd.toInt = 3 then tX lf.toNatClampNeg else
  if kd.toInt = 4 then .null else
  if kd.toInt = 5 then .length (tr lf.toNatClampNeg) else
  if kd.toInt = 6 then .sum (tr lf.toNatClampNeg) else
  bn kd (tr lf.toNatClampNeg) (tr rt.toNatClampNeg)
def WFM (kd lf rt : Int32) (n : Nat) : Prop :=
  kd.toInt = 0 ∨ ((kd.toInt = 1 ∨ kd.toInt = 2 ∨ kd.toInt = 3) ∧ 0 ≤ lf.toInt) ∨ kd.toInt = 4 ∨ ((kd.toInt = 5 ∨ kd.toInt = 6) ∧ 0 ≤ lf.toInt ∧ lf.toInt < (n : Int)) ∨ (isBi kd.toInt ∧ (0 ≤ lf.toInt ∧ lf.toInt < (n : Int)) ∧ 0 ≤ rt.toInt ∧ rt.toInt < (n : Int))
section
variable {tr tr2 : Nat → Term} {kd_ lf rt : Int32} {n : Nat}
theorem mkM_0 (h : kd_.toInt = 0) : mkM kd_ lf rt tr = .int lf := by unfold mkM; rw [if_pos h]
theorem mkM_1 (h : kd_.toInt = 1) : mkM kd_ lf rt tr = .arg lf.toNatClampNeg := by unfold mkM; rw [if_neg (by omega), if_pos h]
theorem mkM_2 (h : kd_.toInt = 2) : mkM kd_ lf rt tr = .index lf.toNatClampNeg := by unfold mkM; rw [if_neg (by omega), if_neg (by omega), if_pos h]
theorem mkM_3 (h : kd_.toInt = 3) : mkM kd_ lf rt tr = tX lf.toNatClampNeg := by unfold mkM; rw [if_neg (by omega), if_neg (by omega), if_neg (by omega), if_pos h]
theorem mkM_4 (h : kd_.toInt = 4) : mkM kd_ lf rt tr = .null := by unfold mkM; rw [if_neg (by omega), if_neg (by omega), if_neg (by omega), if_neg (by omega), if_pos h]
theorem mkM_5 (h : kd_.toInt = 5) : mkM kd_ lf rt tr = .length (tr lf.toNatClampNeg) := by unfold mkM; rw [if_neg (by omega), if_neg (by omega), if_neg (by omega), if_neg (by omega), if_neg (by omega), if_pos h]
theorem mkM_6 (h : kd_.toInt = 6) : mkM kd_ lf rt tr = .sum (tr lf.toNatClampNeg) := by unfold mkM; rw [if_neg (by omega), if_neg (by omega), if_neg (by omega), if_neg (by omega), if_neg (by omega), if_neg (by omega), if_pos h]
theorem mkM_b (h : isBi kd_.toInt) : mkM kd_ lf rt tr = bn kd_ (tr lf.toNatClampNeg) (tr rt.toNatClampNeg) := by
  unfold mkM
  rw [if_neg (by omega), if_neg (by omega), if_neg (by omega), if_neg (by omega), if_neg (by omega), if_neg (by omega), if_neg (by omega)]
theorem mkM_cg (h : WFM kd_ lf rt n) (e : ∀ d, d < n → tr d = tr2 d) : mkM kd_ lf rt tr = mkM kd_ lf rt tr2 := by
  rcases h with h | ⟨h | h | h, _⟩ | h | ⟨h, h2, h3⟩ | ⟨h, h2, h3⟩
  · rw [mkM_0 h, mkM_0 h]
  · rw [mkM_1 h, mkM_1 h]
  · rw [mkM_2 h, mkM_2 h]
  · rw [mkM_3 h, mkM_3 h]
  · rw [mkM_4 h, mkM_4 h]
  · have c := clamp_I h2
    have q := e lf.toNatClampNeg (by omega)
    rcases h with g | g
    · rw [mkM_5 g, mkM_5 g, q]
    · rw [mkM_6 g, mkM_6 g, q]
  · have c := clamp_I h2.1
    have d := clamp_I h3.1
    rw [mkM_b h, mkM_b h, e lf.toNatClampNeg (by omega), e rt.toNatClampNeg (by omega)]
theorem WFM.up {m : Nat} (h : WFM kd_ lf rt n) (hm : n ≤ m) : WFM kd_ lf rt m := by
  unfold WFM at h ⊢
  rcases h with h | h | h | ⟨h, h2, h3⟩ | ⟨h, h2, h3⟩
  · exact Or.inl h
  · exact Or.inr (Or.inl h)
  · exact Or.inr (Or.inr (Or.inl h))
  · exact Or.inr (Or.inr (Or.inr (Or.inl ⟨h, h2, by omega⟩)))
  · exact Or.inr (Or.inr (Or.inr (Or.inr ⟨h, ⟨h2.1, by omega⟩, h3.1, by omega⟩)))
end
/-- the reference's nodes -/
def PLM (σ : Sto) (n : Nat) (tr : Nat → Term) : Prop := (σ.1 41 0).toInt = (n : Int) ∧ ∀ e, e < n → WFM (σ.1 38 e) (σ.1 39 e) (σ.1 40 e) e ∧ tr e = mkM (σ.1 38 e) (σ.1 39 e) (σ.1 40 e) tr
theorem PLM.cg {σ s : Sto} {n : Nat} {tr : Nat → Term} (h : PLM σ n tr) (e : ∀ k, k = 38 ∨ k = 39 ∨ k = 40 ∨ k = 41 → s.1 k = σ.1 k) : PLM s n tr := by
  unfold PLM at h ⊢
  rw [e 38 (by omega), e 39 (by omega), e 40 (by omega), e 41 (by omega)]
  exact h
abbrev MNP : List Nat := [38, 39, 40, 41]
theorem m_makes {σ : Sto} {n : Nat} {tr : Nat → Term} {k l r : Int32} (h : PLM σ n tr) (hw : WFM k l r n) : PC (f_X12_makes k l r σ) (fun q => FR MNP [] σ q.2 ∧ ∃ tr2, PLM q.2 (n + 1) tr2 ∧ EXT n tr (n + 1) tr2 ∧ EXV q.1 (n + 1) tr2 (some (mkM k l r tr))) := by
  obtain ⟨h1, h2⟩ := h
  unfold f_X12_makes
  refine pc_ix (fun g => ?_)
  have cn : (σ.1 41 0).toNatClampNeg = n := by
    have := clamp_I (x := σ.1 41 0) (by omega)
    omega
  rw [cn]
  refine pc_lt fun s1 e1 => ?_
  have r1 : s1.1 41 = σ.1 41 := by rw [e1, sti_o (by decide)]
  refine pc_ix (fun _ => ?_)
  rw [r1, cn]
  refine pc_lt fun s2 e2 => ?_
  have r2 : s2.1 41 = σ.1 41 := by rw [e2, sti_o (by decide)]; exact r1
  refine pc_ix (fun _ => ?_)
  rw [r2, cn]
  refine pc_lt fun s3 e3 => ?_
  have r3 : s3.1 41 = σ.1 41 := by rw [e3, sti_o (by decide)]; exact r2
  refine pc_lt fun s4 e4 => ?_
  have q38 : ∀ i, s4.1 38 i = if i = n then k else σ.1 38 i := fun i => by rw [e4, sti_o (by decide), e3, sti_o (by decide), e2, sti_o (by decide), e1, sti_if]
  have q39 : ∀ i, s4.1 39 i = if i = n then l else σ.1 39 i := fun i => by rw [e4, sti_o (by decide), e3, sti_o (by decide), e2, sti_if, e1, sti_o (by decide)]
  have q40 : ∀ i, s4.1 40 i = if i = n then r else σ.1 40 i := fun i => by rw [e4, sti_o (by decide), e3, sti_if, e2, sti_o (by decide), e1, sti_o (by decide)]
  have v41 : (s4.1 41 0).toInt = (n : Int) + 1 := by rw [e4, sti_s, r3, i1 (by omega), h1]
  have old : ∀ e, e < n → upT tr n (mkM k l r tr) e = tr e := fun e he => upT_n (by omega)
  refine pc_ret ⟨by rw [e4, e3, e2, e1]; exact FR.st (FR.st (FR.st (FR.st FR.rf (by decide)) (by decide)) (by decide)) (by decide), upT tr n (mkM k l r tr), ⟨by rw [v41]; omega, fun e he => ?_⟩, ⟨by omega, old⟩, EXV.mk (e := n) ?_ (by omega) (upT_s _ _ _)⟩
  · rw [q38, q39, q40]
    by_cases c : e = n
    · rw [if_pos c, if_pos c, if_pos c, c, upT_s]
      exact ⟨hw, mkM_cg hw (fun d hd => (old d hd).symm)⟩
    · have w := h2 e (by omega)
      rw [if_neg c, if_neg c, if_neg c, old e (by omega)]
      exact ⟨w.1, w.2.trans (mkM_cg w.1 (fun d hd => (old d (by omega)).symm))⟩
  · show ((s4.1 41 0) - 1).toInt = (n : Int)
    rw [i32_m1 (by omega)]
    omega
/-- a statement's row of the reference -/
def STM (σ : Sto) (n : Nat) (tr : Nat → Term) (j : Nat) (S : Int × Int × Option Term) : Prop := (σ.1 42 j).toInt = S.1 ∧ (σ.1 43 j).toInt = S.2.1 ∧ EXV (σ.1 44 j) n tr S.2.2
/-- the reference while it lifts, and the pure machine -/
def RLM (b : BTy) (σ : Sto) (n : Nat) (tr : Nat → Term) (P : PSt) : Prop := PLM σ n tr ∧ (σ.1 50 0).toInt = (pHt P : Int) ∧ (∀ i, i < pHt P → EXV (σ.1 49 i) n tr (some (pKs P i))) ∧ (σ.1 47 0).toInt = (pNn P : Int) ∧ (∀ j, j < pNn P → STM σ n tr j (pSm P j)) ∧ ((σ.1 48 0).toInt = (pFr P : Int) ∧ pFr P ≤ pNn P) ∧ EXV (σ.1 46 b.1) n tr (pTs P) ∧ ∀ c, c ≠ b.1 → σ.1 46 c = b.2 c
section
variable {b : BTy} {n : Nat} {σ : Sto} {tr : Nat → Term} {P : PSt}
theorem STM.up {σ2 : Sto} {n2 : Nat} {tr2 : Nat → Term} {j : Nat} {S : Int × Int × Option Term} (h : STM σ n tr j S) (g : EXT n tr n2 tr2) (e : ∀ k, k = 42 ∨ k = 43 ∨ k = 44 → σ2.1 k = σ.1 k) : STM σ2 n2 tr2 j S := by
  unfold STM at h ⊢
  rw [e 42 (by omega), e 43 (by omega), e 44 (by omega)]
  exact ⟨h.1, h.2.1, h.2.2.up g⟩
theorem RLM.pool {σ2 : Sto} {n2 : Nat} {tr2 : Nat → Term} (h : RLM b σ n tr P) (f : FR MNP [] σ σ2) (m : PLM σ2 n2 tr2) (g : EXT n tr n2 tr2) : RLM b σ2 n2 tr2 P := by
  obtain ⟨h1, h2, h3_, h4, h5, h6, h7⟩ := h
  have o : ∀ {k : Nat}, 41 < k → σ2.1 k = σ.1 k := fun {k} hk => f.1 k (by simp [MNP]; omega)
  exact ⟨m, by rw [o (by decide)]; exact h2, fun i hi => by rw [o (by decide)]; exact (h3_ i hi).up g, by rw [o (by decide)]; exact h4, fun j hj => (h5 j hj).up g (fun k hk => o (by omega)), by rw [o (by decide)]; exact h6, by rw [o (by decide)]; exact ⟨h7.1.up g, h7.2⟩⟩
theorem m_pop (h : RLM b σ n tr P) : PC (f_X12_pops_ σ) (fun r => FR [50] [] σ r.2 ∧ RLM b r.2 n tr (pPop P) ∧ EXV r.1 n tr (some (pTop P)) ∧ 0 < pHt P) := by
  obtain ⟨h1, h2, h3_, h4, h5, h6, h7⟩ := h
  unfold f_X12_pops_
  refine pc_lt fun s es => ?_
  have m0 : (s.1 50 0).toInt = (pHt P : Int) - 1 := by rw [es, sti_s, i32_m1 (by omega), h2]
  have o : ∀ {k : Nat}, k ≠ 50 → s.1 k = σ.1 k := fun {k} hk => by rw [es, sti_o hk]
  refine pc_ix (fun g => ?_)
  have h0 : 0 < pHt P := by omega
  have c : (s.1 50 0).toNatClampNeg = pHt P - 1 := by
    have := clamp_I (x := s.1 50 0) (by omega)
    omega
  rw [c]
  refine pc_lt fun v2 e2 => ?_
  rw [o (by decide)] at e2
  refine pc_ret ⟨by rw [es]; exact FR.st FR.rf (by decide), ⟨h1.cg (fun k hk => o (by omega)), ?_, fun i hi => ?_, by rw [o (by decide)]; exact h4, fun j hj => (h5 j hj).up EXT.rf (fun k hk => o (by omega)), by rw [o (by decide)]; exact h6, by rw [o (by decide)]; exact h7⟩, by rw [e2]; exact h3_ _ (by omega), h0⟩
  · show (s.1 50 0).toInt = ((pHt P - 1 : Nat) : Int)
    omega
  · have hi : i < pHt P - 1 := hi
    rw [o (by decide)]; exact h3_ i (by omega)
theorem m_lays {v : Int32} {t : Term} (h : RLM b σ n tr P) (hv : EXV v n tr (some t)) : PC (f_X12_lays v σ) (fun s => FR [49, 50] [] σ s ∧ RLM b s n tr (pPush t P)) := by
  obtain ⟨h1, h2, h3_, h4, h5, h6, h7⟩ := h
  unfold f_X12_lays
  refine pc_ix (fun g => ?_)
  have cn : (σ.1 50 0).toNatClampNeg = pHt P := by
    have := clamp_I (x := σ.1 50 0) (by omega)
    omega
  rw [cn]
  refine pc_lt fun s2 e2 => ?_
  refine pc_lt fun s3 e3 => ?_
  have o3 : ∀ {k : Nat}, k ≠ 49 ∧ k ≠ 50 → s3.1 k = σ.1 k := fun {k} hk => by rw [e3, sti_o hk.2, e2, sti_o hk.1]
  refine pc_ret ⟨by rw [e3, e2]; exact FR.st (FR.st FR.rf (by decide)) (by decide), h1.cg (fun k hk => o3 (by omega)), ?_, fun i hi => ?_, by rw [o3 (by decide)]; exact h4, fun j hj => (h5 j hj).up EXT.rf (fun k hk => o3 (by omega)), by rw [o3 (by decide)]; exact h6, by rw [o3 (by decide)]; exact h7⟩
  · rw [e3, sti_s, e2, sti_o (by decide), i1 (by omega)]
    show _ = ((pHt P + 1 : Nat) : Int)
    omega
  · have hi : i < pHt P + 1 := hi
    show EXV (s3.1 49 i) n tr (some (upT (pKs P) (pHt P) t i))
    rw [e3, sti_o (by decide), e2, sti_if]
    by_cases q : i = pHt P
    · rw [if_pos q, q, upT_s]; exact hv
    · rw [if_neg q, upT_n q]; exact h3_ i (by omega)
abbrev MNS : List Nat := [42, 43, 44, 47]
theorem m_states {k w v : Int32} {k2 w2 : Int} {o : Option Term} (h : RLM b σ n tr P) (hv : EXV v n tr o) (ek : k.toInt = k2) (ew : w.toInt = w2) : PC (f_X12_states k w v σ) (fun s => FR MNS [] σ s ∧ RLM b s n tr (pAdd k2 w2 o P)) := by
  subst ek
  subst ew
  obtain ⟨h1, h2, h3_, h4, h5, h6, h7⟩ := h
  unfold f_X12_states
  refine pc_ix (fun g => ?_)
  have cn : (σ.1 47 0).toNatClampNeg = pNn P := by
    have := clamp_I (x := σ.1 47 0) (by omega)
    omega
  rw [cn]
  refine pc_lt fun s2 e2 => ?_
  have r2 : s2.1 47 = σ.1 47 := by rw [e2, sti_o (by decide)]
  refine pc_ix (fun _ => ?_)
  rw [r2, cn]
  refine pc_lt fun s3 e3 => ?_
  have r3 : s3.1 47 = σ.1 47 := by rw [e3, sti_o (by decide)]; exact r2
  refine pc_ix (fun _ => ?_)
  rw [r3, cn]
  refine pc_lt fun s4 e4 => ?_
  have r4 : s4.1 47 = σ.1 47 := by rw [e4, sti_o (by decide)]; exact r3
  refine pc_lt fun s5 e5 => ?_
  have o5 : ∀ {k : Nat}, k ≠ 47 ∧ k ≠ 42 ∧ k ≠ 43 ∧ k ≠ 44 → s5.1 k = σ.1 k := fun {k} hk => by rw [e5, sti_o hk.1, e4, sti_o hk.2.2.2, e3, sti_o hk.2.2.1, e2, sti_o hk.2.1]
  have q42 : ∀ i, s5.1 42 i = if i = pNn P then k else σ.1 42 i := fun i => by rw [e5, sti_o (by decide), e4, sti_o (by decide), e3, sti_o (by decide), e2, sti_if]
  have q43 : ∀ i, s5.1 43 i = if i = pNn P then w else σ.1 43 i := fun i => by rw [e5, sti_o (by decide), e4, sti_o (by decide), e3, sti_if, e2, sti_o (by decide)]
  have q44 : ∀ i, s5.1 44 i = if i = pNn P then v else σ.1 44 i := fun i => by rw [e5, sti_o (by decide), e4, sti_if, e3, sti_o (by decide), e2, sti_o (by decide)]
  refine pc_ret ⟨by rw [e5, e4, e3, e2]; exact FR.st (FR.st (FR.st (FR.st FR.rf (by decide)) (by decide)) (by decide)) (by decide), h1.cg (fun k hk => o5 (by omega)), by rw [o5 (by decide)]; exact h2, fun i hi => by rw [o5 (by decide)]; exact h3_ i hi, ?_, fun j hj => ?_, by rw [o5 (by decide)]; exact ⟨h6.1, Nat.le_succ_of_le h6.2⟩, by rw [o5 (by decide)]; exact h7⟩
  · rw [e5, sti_s, r4, i1 (by omega)]
    show _ = ((pNn P + 1 : Nat) : Int)
    omega
  · have hj : j < pNn P + 1 := hj
    show STM s5 n tr j (upT (pSm P) (pNn P) (k.toInt, w.toInt, o) j)
    unfold STM
    rw [q42, q43, q44]
    by_cases q : j = pNn P
    · rw [if_pos q, if_pos q, if_pos q, q, upT_s]
      exact ⟨rfl, rfl, hv⟩
    · rw [if_neg q, if_neg q, if_neg q, upT_n q]
      exact h5 j (by omega)
abbrev MNF : List Nat := [38, 39, 40, 41, 42, 43, 44, 47, 48]
/-- what a step of the reference answers -/
def RMA (b : BTy) (ms : List Nat) (σ : Sto) (n : Nat) (tr : Nat → Term) (Q : PSt) (s : Sto) : Prop := FR ms [] σ s ∧ ∃ n2 tr2, RLM b s n2 tr2 Q ∧ EXT n tr n2 tr2
theorem RMA.cal {ms ms2 : List Nat} {s1 s2 : Sto} {n2 : Nat} {tr2 : Nat → Term} {Q : PSt} (f : FR ms [] σ s1) (x : EXT n tr n2 tr2) (u : RMA b ms2 s1 n2 tr2 Q s2) (hm : ms2.all (fun k => ms.contains k) = true) : RMA b ms σ n tr Q s2 := by
  obtain ⟨u1, n3, tr3, u2, u3⟩ := u
  exact ⟨FR.cal f u1 hm rfl, n3, tr3, u2, x.tr u3⟩
theorem m_fresh {v : Int32} {t : Term} (h : RLM b σ n tr P) (hv : EXV v n tr (some t)) : PC (f_X12_freshX v σ) (fun r => RMA b MNF σ n tr (pPut t P) r.2 ∧ ∃ n2 tr2, RLM b r.2 n2 tr2 (pPut t P) ∧ EXT n tr n2 tr2 ∧ EXV r.1 n2 tr2 (some (tX (pFr P)))) := by
  have k_2 : (2 : Int32).toInt = 2 := by decide +kernel
  have k_3 : (3 : Int32).toInt = 3 := by decide +kernel
  have f6 := h.2.2.2.2.2.1
  have g47 := tI_rng (σ.1 47 0)
  have e47 := h.2.2.2.1
  unfold f_X12_freshX
  refine pc_cals (m_states h hv k_2 f6.1) (fun s1 q => ?_)
  obtain ⟨q1, q2⟩ := q
  have e48 : s1.1 48 = σ.1 48 := q1.1 48 (by decide)
  have n47 := q2.2.2.2.1
  have n47' : (s1.1 47 0).toInt = ((pNn P + 1 : Nat) : Int) := n47
  have g47b := tI_rng (s1.1 47 0)
  refine pc_lt fun s2 e2 => ?_
  have o2 : ∀ {k : Nat}, k ≠ 48 → s2.1 k = s1.1 k := fun {k} hk => by rw [e2, sti_o hk]
  have v48 : (s2.1 48 0).toInt = (pFr P : Int) + 1 := by rw [e2, sti_s, e48, i1 (by omega), f6.1]
  have m48 : ((s2.1 48 0) - 1).toInt = (pFr P : Int) := by rw [i32_m1 (by omega), v48]; omega
  have c48 : ((s2.1 48 0) - 1).toNatClampNeg = pFr P := by
    have := clamp_I (x := (s2.1 48 0) - 1) (by omega)
    omega
  have R2 : RLM b s2 n tr (pPut t P) := by
    obtain ⟨y1, y2, y3, y4, y5, y6, y7⟩ := q2
    exact ⟨y1.cg (fun k hk => o2 (by omega)), by rw [o2 (by decide)]; exact y2, fun i hi => by rw [o2 (by decide)]; exact y3 i hi, by rw [o2 (by decide)]; exact y4, fun j hj => (y5 j hj).up EXT.rf (fun k hk => o2 (by omega)), ⟨by rw [v48]; show _ = ((pFr P + 1 : Nat) : Int); omega, Nat.succ_le_succ f6.2⟩, by rw [o2 (by decide)]; exact y7⟩
  have mk : mkM 3 ((s2.1 48 0) - 1) 0 tr = tX (pFr P) := by rw [mkM_3 k_3, c48]
  refine pc_calv (m_makes R2.1 (Or.inr (Or.inl ⟨Or.inr (Or.inr k_3), by omega⟩))) (fun v3 s3 w => ?_)
  obtain ⟨w1, tr2, w2, w3, w4⟩ := w
  (try dsimp only at w1 w2 w4)
  rw [mk] at w4
  have R3 := R2.pool w1 w2 w3
  have F3 : FR MNF [] σ s3 := FR.cal (by rw [e2]; exact FR.st (FR.cal FR.rf q1 rfl rfl) (by decide)) w1 rfl rfl
  exact pc_ret ⟨⟨F3, _, tr2, R3, w3⟩, _, tr2, R3, w3, w4⟩
theorem RLM.set {v : Int32} {t : Term} {k : Nat} (h : RLM b σ n tr P) (hv : EXV v n tr (some t)) : RLM b (sti σ 49 k v) n tr (pSet k t P) := by
  obtain ⟨h1, h2, h3_, h4, h5, h6, h7⟩ := h
  have o : ∀ {j : Nat}, j ≠ 49 → (sti σ 49 k v).1 j = σ.1 j := fun {j} hj => sti_o hj
  refine ⟨h1.cg (fun j hj => o (by omega)), by rw [o (by decide)]; exact h2, fun i hi => ?_, by rw [o (by decide)]; exact h4, fun j hj => (h5 j hj).up EXT.rf (fun j hj => o (by omega)), by rw [o (by decide)]; exact h6, by rw [o (by decide)]; exact h7⟩
  show EXV ((sti σ 49 k v).1 49 i) n tr (some (upT (pKs P) k t i))
  rw [sti_if]
  by_cases q : i = k
  · rw [if_pos q, q, upT_s]; exact hv
  · rw [if_neg q, upT_n q]; exact h3_ i hi
theorem RLM.tst {v : Int32} {o : Option Term} (h : RLM b σ n tr P) (hv : EXV v n tr o) : RLM b (sti σ 46 b.1 v) n tr (pTst o P) := by
  obtain ⟨h1, h2, h3_, h4, h5, h6, h7⟩ := h
  have q : ∀ {j : Nat}, j ≠ 46 → (sti σ 46 b.1 v).1 j = σ.1 j := fun {j} hj => sti_o hj
  exact ⟨h1.cg (fun j hj => q (by omega)), by rw [q (by decide)]; exact h2, fun i hi => by rw [q (by decide)]; exact h3_ i hi, by rw [q (by decide)]; exact h4, fun j hj => (h5 j hj).up EXT.rf (fun j hj => q (by omega)), by rw [q (by decide)]; exact h6, by rw [sti_s]; exact hv, fun c hc => by rw [sti_j hc]; exact h7.2 c hc⟩
end
