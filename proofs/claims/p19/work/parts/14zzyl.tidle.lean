/-- from k one falls to the END of the block b -/
def IDL (l : List Ln) (b : Int) : Nat → Nat → Prop
  | 0, _ => False
  | n + 1, k => ∃ x : Ln, l[k]? = some x ∧ ((x.1 = 5 ∧ x.2.2 = 2 ∧ x.2.1 = b) ∨ (x.1 = 5 ∧ IDL l b n (k + 1)) ∨ (x.1 = 4 ∧ ∃ j, k < j ∧ l[j]? = some (5, x.2.1, 3) ∧ IDL l b n (j + 1)))
def IDLE (l : List Ln) (b : Int) (k : Nat) : Prop := ∃ n, IDL l b n k
/-- the END of a choice stands once -/
def ON5 (l : List Ln) : Prop := ∀ (i j : Nat) (b : Int), 0 ≤ b → l[i]? = some (5, b, 3) → l[j]? = some (5, b, 3) → i = j
theorem ONC.on5 {l : List Ln} (h : ONC l) : ON5 l := fun i j b hb hi hj => by
  have k : KY 5 b.toNat (5, b, 3) = true := by
    unfold KY
    rw [decide_eq_true_eq]
    exact ⟨by show b = ((b.toNat : Nat) : Int); omega, Or.inr (Or.inr ⟨rfl, rfl, rfl⟩)⟩
  exact h 5 b.toNat i j _ _ hi hj k k
section
variable {l : List Ln} {b : Int} {k : Nat} {x : Ln}
theorem idl_e (h : l[k]? = some x) (h5 : x.1 = 5) (hm : x.2.2 = 2 ∧ x.2.1 = b) : IDLE l b k := ⟨1, x, h, Or.inl ⟨h5, hm⟩⟩
theorem idl_n (h : l[k]? = some x) (h5 : x.1 = 5) (hm : ¬ (x.2.2 = 2 ∧ x.2.1 = b)) : IDLE l b k ↔ IDLE l b (k + 1) := by
  constructor
  · rintro ⟨n, q⟩
    cases n with
    | zero => exact q.elim
    | succ n =>
      obtain ⟨y, hy, q⟩ := q
      rw [h] at hy
      have e := Option.some.inj hy
      subst e
      rcases q with ⟨_, q⟩ | ⟨_, q⟩ | ⟨q, _⟩
      · exact absurd q hm
      · exact ⟨n, q⟩
      · omega
  · rintro ⟨n, q⟩
    exact ⟨n + 1, x, h, Or.inr (Or.inl ⟨h5, q⟩)⟩
theorem idl_4 (h : l[k]? = some x) (h4 : x.1 = 4) (hx : 0 ≤ x.2.1) (u : ON5 l) {j : Nat} (hj : k < j) (g : l[j]? = some (5, x.2.1, 3)) : IDLE l b k ↔ IDLE l b (j + 1) := by
  constructor
  · rintro ⟨n, q⟩
    cases n with
    | zero => exact q.elim
    | succ n =>
      obtain ⟨y, hy, q⟩ := q
      rw [h] at hy
      have e := Option.some.inj hy
      subst e
      rcases q with ⟨q, _⟩ | ⟨q, _⟩ | ⟨_, i, _, i2, q⟩
      · omega
      · omega
      · have e := u i j _ hx i2 g
        subst e
        exact ⟨n, q⟩
  · rintro ⟨n, q⟩
    exact ⟨n + 1, x, h, Or.inr (Or.inr ⟨h4, j, hj, g, q⟩)⟩
theorem idl_o (h : l[k]? = some x) (h4 : x.1 ≠ 4) (h5 : x.1 ≠ 5) : ¬ IDLE l b k := by
  rintro ⟨n, q⟩
  cases n with
  | zero => exact q.elim
  | succ n =>
    obtain ⟨y, hy, q⟩ := q
    rw [h] at hy
    have e := Option.some.inj hy
    subst e
    rcases q with ⟨q, _⟩ | ⟨q, _⟩ | ⟨q, _⟩
    · exact h5 q
    · exact h5 q
    · exact h4 q
theorem idl_x (h : l.length ≤ k) : ¬ IDLE l b k := by
  rintro ⟨n, q⟩
  cases n with
  | zero => exact q.elim
  | succ n =>
    obtain ⟨y, hy, q⟩ := q
    have := (List.getElem?_eq_some_iff.mp hy).1
    omega
end
/-- a break that is left out -/
def OU1 (l : List Ln) (i : Nat) : Prop := ∃ x : Ln, l[i]? = some x ∧ x.1 = 6 ∧ IDLE l x.2.1 (i + 1)
/-- an ELSE that is left out -/
def OU2 (l : List Ln) (i : Nat) : Prop := (∃ x : Ln, l[i]? = some x ∧ x.1 = 4) ∧ OU1 l (i + 1)
theorem m_isIdle {s : Sto} {l : List Ln} {x : Int32} (hB : BM s) (hE : ELs s) (hA : ATL s l) (hO : ON5 l) (x0 : 0 ≤ x.toInt) (xn : x.toNatClampNeg < nL s) : PC (f_X12_isIdle x s) (fun v => (v = 0 ∨ v = 1) ∧ (v ≠ 0 ↔ IDLE l (mA s x.toNatClampNeg) (x.toNatClampNeg + 1))) := by
  have n1 : (1 : Int32) ≠ 0 := by decide
  have k_2 : (2 : Int32).toInt = 2 := by decide +kernel
  have k_4 : (4 : Int32).toInt = 4 := by decide +kernel
  have k_5 : (5 : Int32).toInt = 5 := by decide +kernel
  have cx := clamp_I x0
  have hl := nL_le hB
  have g62 := gM_62 hB 0
  unfold f_X12_isIdle
  refine pc_lt fun x1 e1 => ?_
  have ex : x1.toInt = x.toInt + 1 := by rw [e1]; exact i1 (by omega)
  have c1x := clamp_I (x := x1) (by omega)
  refine pc_itr1 (fun i => 0 ≤ i.toInt ∧ i.toInt ≤ 1401 ∧ (IDLE l (mA s x.toNatClampNeg) i.toNatClampNeg ↔ IDLE l (mA s x.toNatClampNeg) (x.toNatClampNeg + 1))) ?_ ⟨by omega, by omega, by rw [show x1.toNatClampNeg = x.toNatClampNeg + 1 by omega]⟩
  intro ag i I ih
  obtain ⟨i0, ij, hI⟩ := I
  have ci := clamp_I i0
  refine pc_ite (fun c1 => ?_) (fun c1 => ?_)
  · rw [fa_le] at c1
    exact pc_ret ⟨Or.inl rfl, fun z => absurd rfl z, fun z => absurd (hI.mpr z) (idl_x (by rw [← hA.1]; omega))⟩
  rw [fa_le] at c1
  have il : i.toNatClampNeg < nL s := by omega
  have ill : i.toNatClampNeg < l.length := by rw [← hA.1]; exact il
  have hy : l[i.toNatClampNeg]? = some l[i.toNatClampNeg] := List.getElem?_eq_getElem ill
  generalize l[i.toNatClampNeg] = y at hy
  have a0 := hA.2 _ _ hy
  have ky : kA s i.toNatClampNeg = y.1 := congrArg Prod.fst a0
  have my : mA s i.toNatClampNeg = y.2.1 := congrArg (fun z => z.2.1) a0
  have oy : oA s i.toNatClampNeg = y.2.2 := congrArg (fun z => z.2.2) a0
  have mp : 0 ≤ mA s i.toNatClampNeg := (gM_59 hB _).1
  refine pc_ix (fun _ => ?_)
  refine pc_lt fun v4 e4 => ?_
  refine pc_jnI0 (y.1 = 5 ∨ y.1 = 4) (fun hk0 => ?_) (fun k hk => ?_)
  · refine pc_ix (fun _ => ?_)
    refine pc_lt fun v6 e6 => ?_
    refine pc_jnI0 (¬ (y.1 = 5 ∧ y.2.2 = 2 ∧ y.2.1 = mA s x.toNatClampNeg)) (fun hk1 => ?_) (fun k hk => ?_)
    · refine pc_ix (fun _ => ?_)
      refine pc_lt fun v8 e8 => ?_
      refine pc_jnI1 (fun t => 0 ≤ t.toInt ∧ t.toInt ≤ 1401 ∧ (IDLE l (mA s x.toNatClampNeg) t.toNatClampNeg ↔ IDLE l (mA s x.toNatClampNeg) i.toNatClampNeg)) (fun t ht => ih t ⟨ht.1, ht.2.1, ht.2.2.trans hI⟩) (fun k hk => ?_)
      refine pc_ite (fun c2 => ?_) (fun c2 => ?_)
      · rw [fa_eq, k_4, e8] at c2
        have c2' : kA s i.toNatClampNeg = 4 := c2
        refine pc_calp (pc_ok (s_endOfIf hB i0 il (hE _ il c2'))) (fun v11 q => ?_)
        obtain ⟨q0, q1, q2⟩ := q
        obtain ⟨r1, r2, r3, r4, r5⟩ := q1
        have c11 := clamp_I q0
        have e11 : (v11 + 1).toInt = v11.toInt + 1 := i1 (by omega)
        have d11 : (v11 + 1).toNatClampNeg = v11.toNatClampNeg + 1 := by have := clamp_I (x := v11 + 1) (by omega); omega
        have jl : v11.toNatClampNeg < l.length := by rw [← hA.1]; exact r2
        have hz : l[v11.toNatClampNeg]? = some l[v11.toNatClampNeg] := List.getElem?_eq_getElem jl
        have b0 := hA.2 _ _ hz
        have z1 : kA s v11.toNatClampNeg = (l[v11.toNatClampNeg]).1 := congrArg Prod.fst b0
        have z2 : mA s v11.toNatClampNeg = (l[v11.toNatClampNeg]).2.1 := congrArg (fun z => z.2.1) b0
        have z3 : oA s v11.toNatClampNeg = (l[v11.toNatClampNeg]).2.2 := congrArg (fun z => z.2.2) b0
        have hz2 : l[v11.toNatClampNeg]? = some (5, y.2.1, 3) := by
          rw [hz]
          refine congrArg some ?_
          refine Prod.ext ?_ (Prod.ext ?_ ?_)
          · show (l[v11.toNatClampNeg]).1 = 5
            omega
          · show (l[v11.toNatClampNeg]).2.1 = y.2.1
            omega
          · show (l[v11.toNatClampNeg]).2.2 = 3
            omega
        refine hk (v11 + 1) ⟨by omega, by omega, ?_⟩
        rw [d11]
        exact (idl_4 hy (by omega) (by omega) hO r1 hz2).symm
      · rw [fa_eq, k_4, e8] at c2
        have c2' : ¬ kA s i.toNatClampNeg = 4 := c2
        have y5 : y.1 = 5 := by omega
        have ei : (i + 1).toInt = i.toInt + 1 := i1 (by omega)
        have di : (i + 1).toNatClampNeg = i.toNatClampNeg + 1 := by have := clamp_I (x := i + 1) (by omega); omega
        refine hk (i + 1) ⟨by omega, by omega, ?_⟩
        rw [di]
        exact (idl_n hy y5 (fun z => hk1 ⟨y5, z⟩)).symm
    · refine pc_ite (fun c2 => ?_) (fun c2 => ?_)
      · rw [fa_eq, k_5, e6] at c2
        have c2' : kA s i.toNatClampNeg = 5 := c2
        refine pc_ix (fun _ => ?_)
        refine pc_lt fun v13 e13 => ?_
        refine pc_ite (fun c3 => ?_) (fun c3 => ?_)
        · rw [fa_eq, k_2, e13] at c3
          have c3' : oA s i.toNatClampNeg = 2 := c3
          refine pc_ix (fun _ => ?_)
          refine pc_lt fun v15 e15 => ?_
          refine pc_ix (fun _ => ?_)
          refine pc_lt fun v16 e16 => ?_
          refine pc_ite (fun c4 => ?_) (fun c4 => ?_)
          · rw [fa_eq, e15, e16] at c4
            have c4' : mA s i.toNatClampNeg = mA s x.toNatClampNeg := c4
            exact pc_ret ⟨Or.inr rfl, fun _ => hI.mp (idl_e hy (by omega) ⟨by omega, by omega⟩), fun _ => n1⟩
          · rw [fa_eq, e15, e16] at c4
            have c4' : ¬ mA s i.toNatClampNeg = mA s x.toNatClampNeg := c4
            exact hk (fun z => c4' (by omega))
        · rw [fa_eq, k_2, e13] at c3
          have c3' : ¬ oA s i.toNatClampNeg = 2 := c3
          exact hk (fun z => c3' (by omega))
      · rw [fa_eq, k_5, e6] at c2
        have c2' : ¬ kA s i.toNatClampNeg = 5 := c2
        exact hk (fun z => c2' (by omega))
  · refine pc_ite (fun c2 => ?_) (fun c2 => ?_)
    · rw [fa_eq, k_5, e4] at c2
      have c2' : kA s i.toNatClampNeg = 5 := c2
      exact hk (Or.inl (by omega))
    · rw [fa_eq, k_5, e4] at c2
      have c2' : ¬ kA s i.toNatClampNeg = 5 := c2
      refine pc_ix (fun _ => ?_)
      refine pc_lt fun v19 e19 => ?_
      refine pc_ite (fun c3 => ?_) (fun c3 => ?_)
      · rw [fa_eq, k_4, e19] at c3
        have c3' : kA s i.toNatClampNeg = 4 := c3
        exact hk (Or.inr (by omega))
      · rw [fa_eq, k_4, e19] at c3
        have c3' : ¬ kA s i.toNatClampNeg = 4 := c3
        exact pc_ret ⟨Or.inl rfl, fun z => absurd rfl z, fun z => absurd (hI.mpr z) (idl_o hy (by omega) (by omega))⟩
