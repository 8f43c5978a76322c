theorem t_X3_canThrow {x : Int32} {σ : Sto} : PC (f_X3_canThrow x σ) (fun v => (v.toInt = 0 ∨ v.toInt = 1) ∧ (v.toInt ≠ 0 ↔ cThI (ri (σ.1 6) x.toNatClampNeg))) := by
  have k_0 : (0 : Int32).toInt = 0 := by decide +kernel
  have k_1 : (1 : Int32).toInt = 1 := by decide +kernel
  have k_47 : (47 : Int32).toInt = 47 := by decide +kernel
  have k_37 : (37 : Int32).toInt = 37 := by decide +kernel
  have k_116 : (116 : Int32).toInt = 116 := by decide +kernel
  have yes : cThI (ri (σ.1 6) x.toNatClampNeg) → PC (some (1 : Int32)) (fun v => (v.toInt = 0 ∨ v.toInt = 1) ∧ (v.toInt ≠ 0 ↔ cThI (ri (σ.1 6) x.toNatClampNeg))) := fun h => pc_ret ⟨Or.inr k_1, fun _ => h, fun _ => by rw [k_1]; decide⟩
  unfold f_X3_canThrow
  refine pc_ix (fun _ => ?_)
  refine pc_lt fun v1 e1 => ?_
  refine pc_jn ?_
  refine pc_ite (fun c => yes ?_) (fun c => ?_)
  · rw [fa_eq, k_47, e1] at c; exact Or.inl c
  rw [fa_eq, k_47, e1] at c
  refine pc_ix (fun _ => ?_)
  refine pc_lt fun v4 e4 => ?_
  refine pc_ite (fun c2 => yes ?_) (fun c2 => ?_)
  · rw [fa_eq, k_37, e4] at c2; exact Or.inr (Or.inl c2)
  rw [fa_eq, k_37, e4] at c2
  refine pc_ix (fun _ => ?_)
  refine pc_lt fun v6 e6 => ?_
  refine pc_ite (fun c3 => yes ?_) (fun c3 => ?_)
  · rw [fa_eq, k_116, e6] at c3; exact Or.inr (Or.inr c3)
  rw [fa_eq, k_116, e6] at c3
  refine pc_ret ⟨Or.inl k_0, fun z => absurd k_0 z, fun z => ?_⟩
  rcases z with z | z | z
  · exact absurd z c
  · exact absurd z c2
  · exact absurd z c3
theorem t_X3_ends {x : Int32} {σ : Sto} : PC (f_X3_ends x σ) (fun v => (v.toInt = 0 ∨ v.toInt = 1) ∧ (v.toInt ≠ 0 ↔ enI (ri (σ.1 6) x.toNatClampNeg))) := by
  have k_0 : (0 : Int32).toInt = 0 := by decide +kernel
  have k_1 : (1 : Int32).toInt = 1 := by decide +kernel
  have k_114 : (114 : Int32).toInt = 114 := by decide +kernel
  have k_116 : (116 : Int32).toInt = 116 := by decide +kernel
  have yes : enI (ri (σ.1 6) x.toNatClampNeg) → PC (some (1 : Int32)) (fun v => (v.toInt = 0 ∨ v.toInt = 1) ∧ (v.toInt ≠ 0 ↔ enI (ri (σ.1 6) x.toNatClampNeg))) := fun h => pc_ret ⟨Or.inr k_1, fun _ => h, fun _ => by rw [k_1]; decide⟩
  unfold f_X3_ends
  refine pc_ix (fun _ => ?_)
  refine pc_lt fun v1 e1 => ?_
  refine pc_jn ?_
  refine pc_ite (fun c => yes ?_) (fun c => ?_)
  · rw [fa_eq, k_116, e1] at c; exact Or.inl c
  rw [fa_eq, k_116, e1] at c
  refine pc_ix (fun _ => ?_)
  refine pc_lt fun v4 e4 => ?_
  refine pc_ite (fun c2 => yes ?_) (fun c2 => ?_)
  · rw [fa_eq, k_114, e4] at c2; exact Or.inr c2
  rw [fa_eq, k_114, e4] at c2
  refine pc_ret ⟨Or.inl k_0, fun z => absurd k_0 z, fun z => ?_⟩
  rcases z with z | z
  · exact absurd z c
  · exact absurd z c2
theorem t_X3_goesOn {x : Int32} {σ : Sto} : PC (f_X3_goesOn x σ) (fun v => (v.toInt = 0 ∨ v.toInt = 1) ∧ (v.toInt ≠ 0 ↔ gOnI (ri (σ.1 6) x.toNatClampNeg))) := by
  have k_0 : (0 : Int32).toInt = 0 := by decide +kernel
  have k_1 : (1 : Int32).toInt = 1 := by decide +kernel
  have k_103 : (103 : Int32).toInt = 103 := by decide +kernel
  have no : ¬ gOnI (ri (σ.1 6) x.toNatClampNeg) → PC (some (0 : Int32)) (fun v => (v.toInt = 0 ∨ v.toInt = 1) ∧ (v.toInt ≠ 0 ↔ gOnI (ri (σ.1 6) x.toNatClampNeg))) := fun h => pc_ret ⟨Or.inl k_0, fun z => absurd k_0 z, fun z => absurd z h⟩
  unfold f_X3_goesOn
  refine pc_ix (fun _ => ?_)
  refine pc_lt fun v1 e1 => ?_
  refine pc_jn ?_
  refine pc_ite (fun c => no ?_) (fun c => ?_)
  · rw [fa_eq, k_103, e1] at c; exact fun z => z.1 c
  rw [fa_eq, k_103, e1] at c
  refine pc_calp t_X3_ends (fun v4 q => ?_)
  refine pc_ite (fun c2 => ?_) (fun c2 => no ?_)
  · rw [fa_eq, k_0] at c2
    have ne : ¬ enI (ri (σ.1 6) x.toNatClampNeg) := fun z => q.2.mpr z c2
    exact pc_ret ⟨Or.inr k_1, fun _ => ⟨c, fun z => ne (Or.inl z), fun z => ne (Or.inr z)⟩, fun _ => by rw [k_1]; decide⟩
  · rw [fa_eq, k_0] at c2
    rintro ⟨z1, z2, z3⟩
    rcases q.2.mp c2 with z | z
    · exact z2 z
    · exact z3 z
theorem t_X3_goesElsewhere {x : Int32} {σ : Sto} : PC (f_X3_goesElsewhere x σ) (fun v => (v.toInt = 0 ∨ v.toInt = 1) ∧ (v.toInt ≠ 0 ↔ gElI (ri (σ.1 6) x.toNatClampNeg))) := by
  have k_0 : (0 : Int32).toInt = 0 := by decide +kernel
  have k_1 : (1 : Int32).toInt = 1 := by decide +kernel
  have k_103 : (103 : Int32).toInt = 103 := by decide +kernel
  have k_122 : (122 : Int32).toInt = 122 := by decide +kernel
  have yes : gElI (ri (σ.1 6) x.toNatClampNeg) → PC (some (1 : Int32)) (fun v => (v.toInt = 0 ∨ v.toInt = 1) ∧ (v.toInt ≠ 0 ↔ gElI (ri (σ.1 6) x.toNatClampNeg))) := fun h => pc_ret ⟨Or.inr k_1, fun _ => h, fun _ => by rw [k_1]; decide⟩
  unfold f_X3_goesElsewhere
  refine pc_ix (fun _ => ?_)
  refine pc_lt fun v1 e1 => ?_
  refine pc_jn ?_
  refine pc_ite (fun c => yes ?_) (fun c => ?_)
  · rw [fa_eq, k_103, e1] at c; exact Or.inl c
  rw [fa_eq, k_103, e1] at c
  refine pc_ix (fun _ => ?_)
  refine pc_lt fun v4 e4 => ?_
  refine pc_ite (fun c2 => yes ?_) (fun c2 => ?_)
  · rw [fa_eq, k_122, e4] at c2; exact Or.inr c2
  rw [fa_eq, k_122, e4] at c2
  refine pc_ret ⟨Or.inl k_0, fun z => absurd k_0 z, fun z => ?_⟩
  rcases z with z | z
  · exact absurd z c
  · exact absurd z c2
theorem t_X3_handlerOf {x : Int32} {σ : Sto} (hx : 0 ≤ x.toInt) : PC (f_X3_handlerOf x σ) (fun v => (v.toInt = -1 ∧ hoP (σ.1 5 0).toInt.toNat (ri (σ.1 9)) (ri (σ.1 10)) x.toNatClampNeg = (σ.1 5 0).toInt.toNat) ∨ (0 ≤ v.toInt ∧ hoP (σ.1 5 0).toInt.toNat (ri (σ.1 9)) (ri (σ.1 10)) x.toNatClampNeg = v.toNatClampNeg ∧ v.toNatClampNeg < (σ.1 5 0).toInt.toNat)) := by
  have k_0 : (0 : Int32).toInt = 0 := by decide +kernel
  have k_m1 : ((-1) : Int32).toInt = -1 := by decide +kernel
  have cx := clamp_I hx
  unfold f_X3_handlerOf
  refine pc_itr1 (fun k => 0 ≤ k.toInt ∧ ∀ q : Nat, (q : Int) < k.toInt → ¬ (ri (σ.1 9) q ≤ (x.toNatClampNeg : Int) ∧ (x.toNatClampNeg : Int) < ri (σ.1 10) q)) ?_ ⟨by omega, fun q hq => by omega⟩
  intro ag k I ih
  obtain ⟨i1_, i2⟩ := I
  have ck := clamp_I i1_
  refine pc_ite (fun c => ?_) (fun c => ?_)
  · rw [fa_le] at c
    exact pc_ret (Or.inl ⟨k_m1, ho_no i2 (by omega)⟩)
  rw [fa_le] at c
  refine pc_ix (fun ik => ?_)
  refine pc_lt fun v3 e3 => ?_
  have ex : (k + 1).toInt = k.toInt + 1 := i1 (by omega)
  have go : ¬ (ri (σ.1 9) k.toNatClampNeg ≤ (x.toNatClampNeg : Int) ∧ (x.toNatClampNeg : Int) < ri (σ.1 10) k.toNatClampNeg) → PC (lt (k + 1) fun x2_5 => ag x2_5) (fun v => (v.toInt = -1 ∧ hoP (σ.1 5 0).toInt.toNat (ri (σ.1 9)) (ri (σ.1 10)) x.toNatClampNeg = (σ.1 5 0).toInt.toNat) ∨ (0 ≤ v.toInt ∧ hoP (σ.1 5 0).toInt.toNat (ri (σ.1 9)) (ri (σ.1 10)) x.toNatClampNeg = v.toNatClampNeg ∧ v.toNatClampNeg < (σ.1 5 0).toInt.toNat)) := fun hn => pc_lt fun x5 e5 => by
    subst e5
    exact ih (k + 1) ⟨by omega, ho_s i2 ex k.toNatClampNeg ck hn⟩
  refine pc_jn ?_
  refine pc_ite (fun c2 => go ?_) (fun c2 => ?_)
  · rw [fa_lt, e3] at c2
    intro z
    have z1 : (σ.1 9 k.toNatClampNeg).toInt ≤ _ := z.1
    omega
  rw [fa_lt, e3] at c2
  refine pc_ix (fun _ => ?_)
  refine pc_lt fun v7 e7 => ?_
  refine pc_ite (fun c3 => go ?_) (fun c3 => ?_)
  · rw [fa_le, e7] at c3
    intro z
    have z1 : _ < (σ.1 10 k.toNatClampNeg).toInt := z.2
    omega
  rw [fa_le, e7] at c3
  have hk : k.toNatClampNeg < (σ.1 5 0).toInt.toNat := by omega
  refine pc_ret (Or.inr ⟨i1_, ho_at i2 k.toNatClampNeg ck hk ⟨?_, ?_⟩, hk⟩)
  · show (σ.1 9 k.toNatClampNeg).toInt ≤ _; omega
  · show _ < (σ.1 10 k.toNatClampNeg).toInt; omega
theorem t_X0_catcherOf {x1 : Int32} {σ : Sto} (h1 : 0 ≤ (σ.1 21 x1.toNatClampNeg).toInt) (h2 : 0 ≤ (σ.1 22 x1.toNatClampNeg).toInt) : PC (f_X0_catcherOf x1 σ) (fun v => CAT (σ.1 5 0).toInt.toNat (ri (σ.1 6)) (ri (σ.1 9)) (ri (σ.1 10)) (ri (σ.1 11)) (ri (σ.1 23)) (σ.1 21 x1.toNatClampNeg).toInt.toNat (σ.1 22 x1.toNatClampNeg).toInt.toNat v.toInt) := by
  have k_0 : (0 : Int32).toInt = 0 := by decide +kernel
  have k_m1 : ((-1) : Int32).toInt = -1 := by decide +kernel
  unfold f_X0_catcherOf
  refine pc_ix (fun _ => ?_)
  refine pc_lt fun v1 e1 => ?_
  refine pc_itr1 (fun x => 0 ≤ x.toInt ∧ (σ.1 21 x1.toNatClampNeg).toInt ≤ x.toInt ∧ ∀ i : Nat, (σ.1 21 x1.toNatClampNeg).toInt.toNat ≤ i → (i : Int) < x.toInt → ¬ (cThI (ri (σ.1 6) i) ∧ hoP (σ.1 5 0).toInt.toNat (ri (σ.1 9)) (ri (σ.1 10)) i < (σ.1 5 0).toInt.toNat)) ?_ ⟨by rw [e1]; exact h1, by rw [e1]; omega, fun i h3 h4 => by rw [e1] at h4; omega⟩
  intro ag x I ih
  obtain ⟨x0, xf, I3⟩ := I
  have cx := clamp_I x0
  refine pc_ix (fun _ => ?_)
  refine pc_lt fun v3 e3 => ?_
  refine pc_ite (fun c => ?_) (fun c => ?_)
  · rw [fa_lt, e3] at c
    exact pc_ret (Or.inl ⟨k_m1, fun i h3 h4 => I3 i h3 (by omega)⟩)
  rw [fa_lt, e3] at c
  refine pc_calp (pc_and t_X3_canThrow (P := fun v => (v.toInt = 0 ∨ v.toInt = 1) ∧ (v.toInt ≠ 0 ↔ cThI (ri (σ.1 6) x.toNatClampNeg))) (fun v e => (show 0 ≤ x.toInt ∧ x.toInt < 40 from (by
    unfold f_X3_canThrow ix at e
    by_cases q : 0 ≤ x.toInt ∧ x.toInt < ((40 : Nat) : Int)
    · omega
    · rw [if_neg q] at e; cases e)))) (fun v5 q => ?_)
  obtain ⟨⟨q1, q2⟩, q3⟩ := q
  have ex : (x + 1).toInt = x.toInt + 1 := i1 (by omega)
  have go : ¬ (cThI (ri (σ.1 6) x.toNatClampNeg) ∧ hoP (σ.1 5 0).toInt.toNat (ri (σ.1 9)) (ri (σ.1 10)) x.toNatClampNeg < (σ.1 5 0).toInt.toNat) → PC (lt (x + 1) fun x2_8 => ag x2_8) (fun v => CAT (σ.1 5 0).toInt.toNat (ri (σ.1 6)) (ri (σ.1 9)) (ri (σ.1 10)) (ri (σ.1 11)) (ri (σ.1 23)) (σ.1 21 x1.toNatClampNeg).toInt.toNat (σ.1 22 x1.toNatClampNeg).toInt.toNat v.toInt) := fun hn => pc_lt fun x8 e8 => by
    subst e8
    refine ih (x + 1) ⟨by omega, by omega, fun i h3 h4 => ?_⟩
    by_cases z : i = x.toNatClampNeg
    · rw [z]; exact hn
    · exact I3 i h3 (by omega)
  refine pc_jn ?_
  refine pc_ite (fun c2 => ?_) (fun c2 => ?_)
  · rw [fa_eq, k_0] at c2
    refine pc_ite (fun _ => go (fun z => q2.mpr z.1 c2)) (fun c3 => absurd rfl c3)
  rw [fa_eq, k_0] at c2
  have hct := q2.mp c2
  refine pc_calp (t_X3_handlerOf x0) (fun v12 r => ?_)
  refine pc_ite (fun c3 => go ?_) (fun c3 => ?_)
  · rw [fa_eq, k_m1] at c3
    rcases r with r | r
    · intro z; rw [r.2] at z; exact absurd z.2 (Nat.lt_irrefl _)
    · omega
  rw [fa_eq, k_m1] at c3
  rcases r with r | ⟨r1, r2, r3⟩
  · exact absurd r.1 c3
  refine pc_ix (fun _ => ?_)
  refine pc_lt fun v9 e9 => ?_
  refine pc_ix (fun i9 => ?_)
  refine pc_lt fun v10 e10 => ?_
  refine pc_ret (Or.inr ⟨x.toNatClampNeg, by omega, by omega, ⟨hct, by rw [r2]; exact r3⟩, ?_⟩)
  rw [r2, e10, e9]
  rfl
theorem t_X0_edgeTo {x1 x2 : Int32} {σ : Sto} {e0 : Nat} (h1 : (σ.1 28 x1.toNatClampNeg).toInt ≤ e0) (h2 : ∀ e : Nat, (σ.1 28 x1.toNatClampNeg).toInt ≤ e → e ≤ e0 → (σ.1 29 e).toInt = x1.toInt) (h3 : (σ.1 30 e0).toInt = x2.toInt) (h4 : ∀ e : Nat, (e : Int) < (σ.1 27 0).toInt → (σ.1 29 e).toInt = x1.toInt → (σ.1 30 e).toInt = x2.toInt → e = e0) (h5 : (e0 : Int) < (σ.1 27 0).toInt) : PC (f_X0_edgeTo x1 x2 σ) (fun v => v.toInt = e0) := by
  unfold f_X0_edgeTo
  refine pc_ix (fun _ => ?_)
  refine pc_lt fun v1 e1 => ?_
  refine pc_ix (fun _ => ?_)
  refine pc_lt fun v2 e2 => ?_
  refine pc_itr2 (fun y x => (σ.1 28 x1.toNatClampNeg).toInt ≤ x.toInt ∧ ((e0 : Int) < x.toInt → y.toInt = (e0 : Int))) ?_ ⟨by rw [e2]; omega, fun z => by rw [e2] at z; omega⟩
  intro ag y x I ih
  obtain ⟨I1, I2⟩ := I
  refine pc_ite (fun c => ?_) (fun c => ?_)
  · rw [fa_le] at c
    exact pc_ret (I2 (by omega))
  rw [fa_le] at c
  refine pc_ix (fun ix_ => ?_)
  have cx := clamp_I ix_.1
  have ex : (x + 1).toInt = x.toInt + 1 := i1 (by omega)
  refine pc_lt fun v5 e5 => ?_
  refine pc_ite (fun c2 => ?_) (fun c2 => ?_)
  · rw [fa_eq, e5] at c2
    refine pc_ix (fun _ => ?_)
    refine pc_lt fun v7 e7 => ?_
    refine pc_jn ?_
    refine pc_ite (fun c3 => ?_) (fun c3 => ?_)
    · rw [fa_eq, e7] at c3
      have z := h4 x.toNatClampNeg (by omega) c2 c3
      refine pc_lt fun x9 e9 => ?_
      subst e9
      exact ih x (x + 1) ⟨by omega, fun _ => by omega⟩
    · rw [fa_eq, e7] at c3
      refine pc_lt fun x9 e9 => ?_
      subst e9
      refine ih y (x + 1) ⟨by omega, fun z => ?_⟩
      by_cases q : e0 = x.toNatClampNeg
      · exact absurd (by rw [← q]; exact h3) c3
      · exact I2 (by omega)
  · rw [fa_eq, e5] at c2
    by_cases q : (e0 : Int) < x.toInt
    · exact pc_ret (I2 q)
    · exact absurd (h2 x.toNatClampNeg (by omega) (by omega)) c2
/-- a block whose edges are being laid: they are the last ones, its bits are told -/
def NXI (s : Sto) (b : Nat) : Prop := (0 ≤ (s.1 27 0).toInt ∧ (s.1 27 0).toInt ≤ 120) ∧ (0 ≤ (s.1 28 b).toInt ∧ (s.1 28 b).toInt ≤ (s.1 27 0).toInt) ∧ (∀ e : Nat, (e : Int) < (s.1 27 0).toInt → ((s.1 28 b).toInt ≤ e ↔ (s.1 29 e).toInt = b)) ∧ (∀ g : Nat, g < 64 → (bL (s.2 0 b) g = true ↔ ∃ e : Nat, (e : Int) < (s.1 27 0).toInt ∧ (s.1 29 e).toInt = b ∧ (s.1 30 e).toInt = g)) ∧ (∀ e d : Nat, (e : Int) < (s.1 27 0).toInt → (d : Int) < (s.1 27 0).toInt → (s.1 29 e).toInt = b → (s.1 29 d).toInt = b → (s.1 30 e).toInt = (s.1 30 d).toInt → e = d)
theorem NXI.cg {σ s : Sto} {b : Nat} (h : NXI σ b) (e27 : s.1 27 = σ.1 27) (e28 : s.1 28 b = σ.1 28 b) (e29 : s.1 29 = σ.1 29) (e30 : s.1 30 = σ.1 30) (l : s.2 0 b = σ.2 0 b) : NXI s b := by
  unfold NXI at h ⊢
  rw [e27, e28, e29, e30, l]
  exact h
/-- edges that lay there lie there -/
def OLE (σ s : Sto) : Prop := (σ.1 27 0).toInt ≤ (s.1 27 0).toInt ∧ ∀ e : Nat, (e : Int) < (σ.1 27 0).toInt → s.1 29 e = σ.1 29 e ∧ s.1 30 e = σ.1 30 e
theorem OLE.tr {a b c : Sto} (h : OLE a b) (g : OLE b c) : OLE a c := ⟨Int.le_trans h.1 g.1, fun e he => ⟨(g.2 e (Int.lt_of_lt_of_le he h.1)).1.trans (h.2 e he).1, (g.2 e (Int.lt_of_lt_of_le he h.1)).2.trans (h.2 e he).2⟩⟩
theorem OLE.cg {a b c : Sto} (h : OLE a b) (e27 : c.1 27 = b.1 27) (e29 : c.1 29 = b.1 29) (e30 : c.1 30 = b.1 30) : OLE a c := by
  unfold OLE at h ⊢
  rw [e27, e29, e30]
  exact h
theorem t_X0_lead {x1 x2 x3 : Int32} {σ : Sto} (h1 : 0 ≤ x1.toInt) (h2 : 0 ≤ x2.toInt ∧ x2.toInt ≤ 39) (hJ : NXI σ x1.toNatClampNeg) : PC (f_X0_lead x1 x2 x3 σ) (fun s => FR [27, 29, 30, 31] [0] σ s ∧ EVw s 27 29 30 31 = leP x1.toNatClampNeg x2.toInt (decide (x3.toInt ≠ 0)) (EVw σ 27 29 30 31) ∧ NXI s x1.toNatClampNeg ∧ (∀ q, q ≠ x1.toNatClampNeg → s.2 0 q = σ.2 0 q) ∧ OLE σ s) := by
  have k_0 : (0 : Int32).toInt = 0 := by decide +kernel
  have k_1 : (1 : Int32).toInt = 1 := by decide +kernel
  have k_m1 : ((-1) : Int32).toInt = -1 := by decide +kernel
  obtain ⟨⟨j1, j2⟩, ⟨j3, j4⟩, j5, j6, j7⟩ := id hJ
  have c1 := clamp_I h1
  have c2 := clamp_I h2.1
  have cE := clamp_I j1
  unfold f_X0_lead
  refine pc_ite (fun c => by rw [fa_eq, k_m1] at c; omega) (fun _ => ?_)
  refine pc_ix (fun _ => ?_)
  refine pc_lt fun v2 e2 => ?_
  refine pc_calp (pc_ok (s_X11_isIn (x1 := v2) (x2 := x2))) (fun v3 y => ?_)
  have y1 := y.1
  have y3 := y.2 h2.1 (by omega)
  rw [e2, j6 x2.toNatClampNeg (by omega)] at y3
  refine pc_ite (fun c => ?_) (fun c => ?_)
  · rw [fa_eq, k_0] at c
    have no : ∀ e : Nat, (e : Int) < (σ.1 27 0).toInt → ¬ ((σ.1 29 e).toInt = x1.toNatClampNeg ∧ (σ.1 30 e).toInt = x2.toInt) := fun e he z => by
      have := y3.mpr ⟨e, he, z.1, by omega⟩
      omega
    obtain ⟨n, hn⟩ : ∃ n : Nat, n = (σ.1 27 0).toNatClampNeg := ⟨_, rfl⟩
    have nI_ : (n : Int) = (σ.1 27 0).toInt := by rw [hn]; exact cE
    have N : (σ.1 27 0).toInt.toNat = n := by omega
    refine pc_ix (fun _ => ?_)
    refine pc_lt fun v5 e5 => ?_
    refine pc_ix (fun _ => ?_)
    refine pc_lt fun s6 e6 => ?_
    have q6 : s6.1 = σ.1 := by rw [e6]; rfl
    rw [q6]
    refine pc_ix (fun i6 => ?_)
    rw [← hn]
    refine pc_lt fun s7 e7 => ?_
    have q7 : s7.1 27 = σ.1 27 := by rw [e7, sti_o (by decide), q6]
    rw [q7]
    refine pc_ix (fun _ => ?_)
    rw [← hn]
    refine pc_lt fun s8 e8 => ?_
    have q8 : s8.1 27 = σ.1 27 := by rw [e8, sti_o (by decide), q7]
    refine pc_bz (fun _ => ?_)
    rw [q8]
    refine pc_ix (fun _ => ?_)
    rw [← hn]
    refine pc_lt fun s9 e9 => ?_
    have q9 : s9.1 27 = σ.1 27 := by rw [e9, sti_o (by decide), q8]
    rw [q9]
    refine pc_lt fun s11 e11 => ?_
    have ei : ((σ.1 27 0) + 1).toInt = (σ.1 27 0).toInt + 1 := i1 (by omega)
    have r27 : (s11.1 27 0).toInt = (σ.1 27 0).toInt + 1 := by rw [e11, sti_s, ei]
    have r28 : s11.1 28 = σ.1 28 := by rw [e11, sti_o (by decide), e9, sti_o (by decide), e8, sti_o (by decide), e7, sti_o (by decide), q6]
    have r29 : ∀ e, s11.1 29 e = if e = n then x1 else σ.1 29 e := fun e => by rw [e11, sti_o (by decide), e9, sti_o (by decide), e8, sti_o (by decide), e7, sti_if, q6]
    have r30 : ∀ e, s11.1 30 e = if e = n then x2 else σ.1 30 e := fun e => by rw [e11, sti_o (by decide), e9, sti_o (by decide), e8, sti_if, e7, sti_o (by decide), q6]
    have r31 : ∀ e, s11.1 31 e = if e = n then x3 else σ.1 31 e := fun e => by rw [e11, sti_o (by decide), e9, sti_if, e8, sti_o (by decide), e7, sti_o (by decide), q6]
    have p2 : s11.2 = s6.2 := by rw [e11, e9, e8, e7]; rfl
    have l0 : s11.2 0 x1.toNatClampNeg = (σ.2 0 x1.toNatClampNeg) ||| ((1 : Int64) <<< (x2.toInt64 &&& 63)) := by rw [p2, e6, stl_s, e5]
    have lq : ∀ q, q ≠ x1.toNatClampNeg → s11.2 0 q = σ.2 0 q := fun q hq => by rw [p2, e6, stl_j hq]
    have kn : knP (x1.toNatClampNeg : Int) x2.toInt (EVw σ 27 29 30 31) = (EVw σ 27 29 30 31).1 := knP_no (fun e he z => no e (by have he : e < (σ.1 27 0).toInt.toNat := he; omega) z)
    refine pc_ret ⟨?_, ?_, ⟨by rw [r27]; omega, by rw [r27, r28]; omega, fun e he => ?_, fun g hg => ?_, fun e d he hd z1 z2 z3 => ?_⟩, lq, by rw [r27]; omega, fun e he => ?_⟩
    · rw [e11]; refine FR.st ?_ (by decide)
      rw [e9]; refine FR.st ?_ (by decide)
      rw [e8]; refine FR.st ?_ (by decide)
      rw [e7]; refine FR.st ?_ (by decide)
      rw [e6]; exact FR.stl FR.rf (by decide)
    · unfold leP
      rw [if_neg (by rw [kn]; exact Nat.lt_irrefl _)]
      have a1 : (s11.1 27 0).toInt.toNat = (σ.1 27 0).toInt.toNat + 1 := by omega
      have a2 : ri (s11.1 29) = upI (ri (σ.1 29)) (σ.1 27 0).toInt.toNat x1.toNatClampNeg := funext fun e => by
        unfold ri upI
        rw [r29, N]
        by_cases q : e = n
        · rw [if_pos q, if_pos q]; omega
        · rw [if_neg q, if_neg q]
      have a3 : ri (s11.1 30) = upI (ri (σ.1 30)) (σ.1 27 0).toInt.toNat x2.toInt := funext fun e => by
        unfold ri upI
        rw [r30, N]
        by_cases q : e = n
        · rw [if_pos q, if_pos q]
        · rw [if_neg q, if_neg q]
      have a4 : (fun e => decide ((s11.1 31 e).toInt ≠ 0)) = (fun e => if e = (σ.1 27 0).toInt.toNat then decide (x3.toInt ≠ 0) else decide ((σ.1 31 e).toInt ≠ 0)) := funext fun e => by
        rw [r31, N]
        by_cases q : e = n
        · rw [if_pos q, if_pos q]
        · rw [if_neg q, if_neg q]
      unfold EVw
      rw [a1, a2, a3, a4]
    · rw [r27] at he
      rw [r28, r29]
      by_cases q : e = n
      · rw [if_pos q]; omega
      · rw [if_neg q]; exact j5 e (by omega)
    · rw [l0, bL_set h2.1 (by omega), Bool.or_eq_true, decide_eq_true_eq, j6 g hg]
      constructor
      · rintro (⟨e, z1, z2, z3⟩ | z)
        · exact ⟨e, by omega, by rw [r29, if_neg (by omega)]; exact z2, by rw [r30, if_neg (by omega)]; exact z3⟩
        · exact ⟨n, by omega, by rw [r29, if_pos rfl]; omega, by rw [r30, if_pos rfl]; omega⟩
      · rintro ⟨e, z1, z2, z3⟩
        rw [r29] at z2
        rw [r30] at z3
        by_cases q : e = n
        · rw [if_pos q] at z3; exact Or.inr (by omega)
        · rw [if_neg q] at z2 z3; exact Or.inl ⟨e, by omega, z2, z3⟩
    · rw [r29] at z1 z2
      rw [r30, r30] at z3
      by_cases q : e = n
      · by_cases r : d = n
        · omega
        · rw [if_neg r] at z2
          rw [if_pos q, if_neg r] at z3
          exact absurd ⟨z2, z3.symm⟩ (no d (by omega))
      · by_cases r : d = n
        · rw [if_neg q] at z1
          rw [if_neg q, if_pos r] at z3
          exact absurd ⟨z1, z3⟩ (no e (by omega))
        · rw [if_neg q] at z1
          rw [if_neg r] at z2
          rw [if_neg q, if_neg r] at z3
          exact j7 e d (by omega) (by omega) z1 z2 z3
    · rw [r29, r30, if_neg (by omega), if_neg (by omega)]; exact ⟨rfl, rfl⟩
  · rw [fa_eq, k_0] at c
    obtain ⟨e0, z1, z2, z3⟩ := y3.mp (by omega)
    have fe : ∀ e : Nat, (σ.1 28 x1.toNatClampNeg).toInt ≤ e → e ≤ e0 → (σ.1 29 e).toInt = x1.toInt := fun e h3 h4 => by
      have := (j5 e (by omega)).mp h3
      omega
    refine pc_calp (t_X0_edgeTo (e0 := e0) ((j5 e0 z1).mpr z2) fe (by omega) (fun e a1 a2 a3 => j7 e e0 a1 z1 (by omega) z2 (by omega)) z1) (fun v12 w => ?_)
    have w2 : v12.toNatClampNeg = e0 := by have := clamp_I (x := v12) (by omega); omega
    have kn : knP (x1.toNatClampNeg : Int) x2.toInt (EVw σ 27 29 30 31) = e0 := knP_at (by show e0 < (σ.1 27 0).toInt.toNat; omega) z2 (by show (σ.1 30 e0).toInt = _; omega) (fun d hd z => by
      have z4 : (σ.1 29 d).toInt = x1.toNatClampNeg := z.1
      have z5 : (σ.1 30 d).toInt = x2.toInt := z.2
      have := j7 d e0 (by omega) z1 z4 z2 (by omega)
      omega)
    have fin : ∀ u : Int32, (u.toInt ≠ 0 ↔ ((σ.1 31 e0).toInt ≠ 0 ∨ x3.toInt ≠ 0)) → PC (ix 120 v12 <| lt (sti σ 31 v12.toNatClampNeg u) fun s_15 => some s_15) (fun s => FR [27, 29, 30, 31] [0] σ s ∧ EVw s 27 29 30 31 = leP x1.toNatClampNeg x2.toInt (decide (x3.toInt ≠ 0)) (EVw σ 27 29 30 31) ∧ NXI s x1.toNatClampNeg ∧ (∀ q, q ≠ x1.toNatClampNeg → s.2 0 q = σ.2 0 q) ∧ OLE σ s) := fun u hu => by
      refine pc_ix (fun _ => ?_)
      rw [w2]
      refine pc_lt fun s15 e15 => ?_
      have o : ∀ k, k ≠ 31 → s15.1 k = σ.1 k := fun k hk => by rw [e15, sti_o hk]
      have l : s15.2 = σ.2 := by rw [e15]; rfl
      refine pc_ret ⟨by rw [e15]; exact FR.st FR.rf (by decide), ?_, hJ.cg (o 27 (by decide)) (by rw [o 28 (by decide)]) (o 29 (by decide)) (o 30 (by decide)) (by rw [l]), fun q _ => by rw [l], by rw [o 27 (by decide)]; exact Int.le_refl _, fun e _ => by rw [o 29 (by decide), o 30 (by decide)]; exact ⟨rfl, rfl⟩⟩
      unfold leP
      rw [if_pos (by rw [kn]; show e0 < (σ.1 27 0).toInt.toNat; omega), kn]
      have a4 : (fun e => decide ((s15.1 31 e).toInt ≠ 0)) = (fun e => decide ((σ.1 31 e).toInt ≠ 0) || (decide (e = e0) && decide (x3.toInt ≠ 0))) := funext fun e => by
        rw [e15, sti_if]
        by_cases q : e = e0
        · rw [if_pos q, q, decide_eq_true (rfl : e0 = e0), Bool.true_and, ← Bool.decide_or]
          exact decide_eq_decide.mpr hu
        · rw [if_neg q, decide_eq_false q, Bool.false_and, Bool.or_false]
      unfold EVw
      rw [a4, o 27 (by decide), o 29 (by decide), o 30 (by decide)]
    refine pc_ix (fun _ => ?_)
    refine pc_lt fun v13 e13 => ?_
    rw [w2] at e13
    refine pc_jn ?_
    refine pc_ite (fun c5 => ?_) (fun c5 => ?_)
    · rw [fa_eq, k_0, e13] at c5
      refine pc_ite (fun c6 => fin 0 ?_) (fun c6 => fin 1 ?_)
      · rw [fa_eq, k_0] at c6; omega
      · rw [fa_eq, k_0] at c6; omega
    · rw [fa_eq, k_0, e13] at c5
      exact fin 1 (by omega)
