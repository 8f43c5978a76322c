/-- each ELSE has its END behind it -/
def ELS (l : List Ln) : Prop := ∀ (i : Nat) (b o : Int), l[i]? = some (4, b, o) → ∃ j, i < j ∧ l[j]? = some (5, b, 3)
theorem ELS.nil : ELS [] := fun i b o h => by simp at h
theorem ELS.app {l m : List Ln} (h : ELS l) (g : ELS m) : ELS (l ++ m) := fun i b o q => by
  rw [List.getElem?_append] at q
  by_cases z : i < l.length
  · rw [if_pos z] at q
    obtain ⟨j, j1, j2⟩ := h i b o q
    have jl : j < l.length := (List.getElem?_eq_some_iff.mp j2).1
    exact ⟨j, j1, by rw [List.getElem?_append, if_pos jl]; exact j2⟩
  · rw [if_neg z] at q
    obtain ⟨j, j1, j2⟩ := g _ b o q
    refine ⟨l.length + j, by omega, ?_⟩
    rw [List.getElem?_append, if_neg (by omega), show l.length + j - l.length = j by omega]
    exact j2
theorem ELS.one {k b o : Int} (hk : k ≠ 4) : ELS [(k, b, o)] := fun i c p q => by
  cases i with
  | zero =>
    simp at q
    exact absurd q.1 hk
  | succ i => simp at q
theorem ELS.els {l : List Ln} {b : Int} (h : ELS l) : ELS ([(4, b, -1)] ++ (l ++ [(5, b, 3)])) := fun i c o q => by
  cases i with
  | zero =>
    simp at q
    refine ⟨l.length + 1, by omega, ?_⟩
    rw [List.getElem?_append, if_neg (by simp), List.getElem?_append, if_neg (by simp)]
    simp
    exact q.1
  | succ i =>
    have q2 : (l ++ [(5, b, 3)])[i]? = some (4, c, o) := by simpa using q
    obtain ⟨j, j1, j2⟩ := (h.app (ELS.one (k := 5) (by decide))) i c o q2
    exact ⟨j + 1, by omega, by simpa using j2⟩
theorem ELS.st (b a : Int) : ∀ n, ELS (stLs b a n)
  | 0 => ELS.nil
  | n + 1 => (ELS.st b a n).app (ELS.one (by decide))
theorem ELS.ty (σ : Sto) (b : Nat) : ELS (tyL σ b) := by
  unfold tyL
  by_cases q : (σ.1 25 b).toInt = -1
  · rw [if_pos q]; exact ELS.nil
  · rw [if_neg q]; exact ELS.one (by decide)
theorem ELS.ca (σ : Sto) (b : Nat) : ELS (caL σ b) := by
  unfold caL
  by_cases q : (σ.1 25 b).toInt = -1
  · rw [if_pos q]; exact ELS.nil
  · rw [if_neg q]; exact ELS.one (by decide)
theorem TEL.els {σ : Sto} : ∀ (d w b : Nat) (k : Int) (l : List Ln), TEL σ d w b k l → ELS l
  | 0, _, _, _, _, h => h.elim
  | d + 1, w, b, k, l, h => by
    rcases h with ⟨_, ⟨_, h⟩ | ⟨_, l1, h, e⟩⟩ | ⟨_, ⟨_, h⟩ | ⟨m, l1, l2, _, _, _, h1, h2, e⟩⟩ | ⟨_, tl, e, h⟩ | ⟨_, e, _, _, _, ⟨_, q⟩ | ⟨_, _, q⟩ | ⟨_, _, q⟩ | ⟨_, _, q⟩⟩
    · exact TEL.els d _ _ _ _ h
    · rw [e]; exact (ELS.one (by decide)).app ((TEL.els d _ _ _ _ h).app (ELS.one (by decide)))
    · exact TEL.els d _ _ _ _ h
    · rw [e]; exact (ELS.one (by decide)).app ((TEL.els d _ _ _ _ h1).app ((ELS.one (by decide)).app (TEL.els d _ _ _ _ h2)))
    · have ht : ELS tl := by
        rcases h with ⟨_, l1, l2, h1, h2, e2⟩ | ⟨_, _, h⟩ | ⟨_, _, _, h⟩ | ⟨_, _, h⟩
        · rw [e2]; exact (ELS.one (by decide)).app ((TEL.els d _ _ _ _ h1).app (ELS.els (TEL.els d _ _ _ _ h2)))
        · exact TEL.els d _ _ _ _ h
        · exact TEL.els d _ _ _ _ h
        · rw [h]; exact ELS.nil
      rw [e]; exact (ELS.one (by decide)).app ((ELS.ty σ b).app ((ELS.st _ _ _).app ((ELS.ca σ b).app ht)))
    · rw [q]; exact ELS.one (by decide)
    · rw [q]; exact ELS.one (by decide)
    · rw [q]; exact ELS.one (by decide)
    · exact TEL.els d _ _ _ _ q
abbrev kA (s : Sto) (i : Nat) : Int := (s.1 58 i).toInt
abbrev mA (s : Sto) (i : Nat) : Int := (s.1 59 i).toInt
abbrev oA (s : Sto) (i : Nat) : Int := (s.1 61 i).toInt
/-- the END of an IF -/
def EIF (s : Sto) (x j : Nat) : Prop := x < j ∧ j < nL s ∧ kA s j = 5 ∧ oA s j = 3 ∧ mA s j = mA s x
def ELs (s : Sto) : Prop := ∀ i, i < nL s → kA s i = 4 → ∃ j, EIF s i j
theorem APP.els {s t : Sto} {l : List Ln} (h : APP s t l) (h0 : nL s = 0) (g : ELS l) : ELs t := fun i hi hk => by
  have n := h.1
  rw [h0] at n
  have hl : i < l.length := by omega
  have e : l[i]? = some l[i] := List.getElem?_eq_getElem hl
  have a := h.2.2 i _ e
  rw [h0, Nat.zero_add] at a
  have a1 : kA t i = (l[i]).1 := congrArg Prod.fst a
  have a2 : mA t i = (l[i]).2.1 := congrArg (fun z => z.2.1) a
  obtain ⟨j, j1, j2⟩ := g i (l[i]).2.1 (l[i]).2.2 (by rw [e, ← hk, a1])
  have jl : j < l.length := (List.getElem?_eq_some_iff.mp j2).1
  have c := h.2.2 j _ j2
  rw [h0, Nat.zero_add] at c
  exact ⟨j, j1, by omega, congrArg Prod.fst c, congrArg (fun z => z.2.2) c, by rw [a2]; exact congrArg (fun z => z.2.1) c⟩
theorem s_endOfIf {s : Sto} {x : Int32} (hB : BM s) (x0 : 0 ≤ x.toInt) (xn : x.toNatClampNeg < nL s) (h : ∃ j, EIF s x.toNatClampNeg j) : OK (f_X12_endOfIf x s) (fun v => 0 ≤ v.toInt ∧ EIF s x.toNatClampNeg v.toNatClampNeg ∧ ∀ i, i < v.toNatClampNeg → ¬ EIF s x.toNatClampNeg i) := by
  have k_3 : (3 : Int32).toInt = 3 := by decide +kernel
  have k_5 : (5 : Int32).toInt = 5 := by decide +kernel
  have cx := clamp_I x0
  have hl := nL_le hB
  have g62 := gM_62 hB 0
  obtain ⟨j, h1, h2, h3, h4, h5⟩ := h
  unfold f_X12_endOfIf
  refine ok_lt fun x1 e1 => ?_
  have ex : x1.toInt = x.toInt + 1 := by rw [e1]; exact i1 (by omega)
  refine ok_itr1 (fun n i => n = (1401 - i.toInt).toNat ∧ x.toInt + 1 ≤ i.toInt ∧ i.toInt ≤ (j : Int) ∧ ∀ u : Nat, (u : Int) < i.toInt → ¬ EIF s x.toNatClampNeg u) ?_ (n := (1401 - x1.toInt).toNat) ⟨rfl, by omega, by omega, fun u hu q => by have := q.1; omega⟩ (by unfold LF; omega)
  intro ag n i I ih
  obtain ⟨hn, i0, ij, hno⟩ := I
  have ci := clamp_I (x := i) (by omega)
  have ii : 0 ≤ i.toInt ∧ i.toInt < 1400 := by omega
  have skip : ¬ EIF s x.toNatClampNeg i.toNatClampNeg → OK (lt (i + 1) fun x2_5 => ag x2_5) _ := fun q => ok_lt fun x5 e5 => by
    have e : x5.toInt = i.toInt + 1 := by rw [e5]; exact i1 (by omega)
    have ne : i.toNatClampNeg ≠ j := fun z => q (by rw [z]; exact ⟨h1, h2, h3, h4, h5⟩)
    refine ih (1401 - x5.toInt).toNat x5 (by omega) ⟨rfl, by omega, by omega, fun u hu r => ?_⟩
    by_cases z : u = i.toNatClampNeg
    · rw [z] at r; exact q r
    · exact hno u (by omega) r
  refine ok_ix ii ?_
  refine ok_lt fun v3 e3 => ?_
  refine ok_jn ?_
  refine ok_ite (fun c1 => ?_) (fun c1 => ?_)
  · rw [fa_eq, k_5, e3] at c1
    refine ok_ix ii ?_
    refine ok_lt fun v7 e7 => ?_
    refine ok_ite (fun c2 => ?_) (fun c2 => ?_)
    · rw [fa_eq, k_3, e7] at c2
      refine ok_ix ii ?_
      refine ok_lt fun v9 e9 => ?_
      refine ok_ix (by omega) ?_
      refine ok_lt fun v10 e10 => ?_
      refine ok_ite (fun c3 => ?_) (fun c3 => ?_)
      · rw [fa_eq, e9, e10] at c3
        exact ok_ret ⟨ii.1, ⟨by omega, by omega, c1, c2, c3⟩, fun u hu => hno u (by omega)⟩
      · rw [fa_eq, e9, e10] at c3
        exact skip (fun q => c3 q.2.2.2.2)
    · rw [fa_eq, k_3, e7] at c2
      exact skip (fun q => c2 q.2.2.2.1)
  · rw [fa_eq, k_5, e3] at c1
    exact skip (fun q => c1 q.2.2.1)
/-- from k one falls to the END of the block b -/
def IDR (s : Sto) (b : Int) : Nat → Nat → Prop
  | 0, _ => False
  | n + 1, k => k < nL s ∧ ((kA s k = 5 ∧ oA s k = 2 ∧ mA s k = b) ∨ (kA s k = 5 ∧ IDR s b n (k + 1)) ∨ (kA s k = 4 ∧ ∃ j, EIF s k j ∧ (∀ i, i < j → ¬ EIF s k i) ∧ IDR s b n (j + 1)))
theorem s_isIdle {s : Sto} {x : Int32} (hB : BM s) (hE : ELs s) (x0 : 0 ≤ x.toInt) (xn : x.toNatClampNeg < nL s) : OK (f_X12_isIdle x s) (fun v => v.toInt = 0 ∨ v.toInt = 1 ∧ ∃ n, IDR s (mA s x.toNatClampNeg) n (x.toNatClampNeg + 1)) := by
  have k_0 : (0 : Int32).toInt = 0 := by decide +kernel
  have k_1 : (1 : Int32).toInt = 1 := by decide +kernel
  have k_2 : (2 : Int32).toInt = 2 := by decide +kernel
  have k_4 : (4 : Int32).toInt = 4 := by decide +kernel
  have k_5 : (5 : Int32).toInt = 5 := by decide +kernel
  have cx := clamp_I x0
  have hl := nL_le hB
  have g62 := gM_62 hB 0
  unfold f_X12_isIdle
  refine ok_lt fun x1 e1 => ?_
  have ex : x1.toInt = x.toInt + 1 := by rw [e1]; exact i1 (by omega)
  have c1x := clamp_I (x := x1) (by omega)
  refine ok_itr1 (fun n i => n = (1402 - i.toInt).toNat ∧ x.toInt + 1 ≤ i.toInt ∧ i.toInt ≤ 1401 ∧ ((∃ n, IDR s (mA s x.toNatClampNeg) n i.toNatClampNeg) → ∃ n, IDR s (mA s x.toNatClampNeg) n (x.toNatClampNeg + 1))) ?_ (n := (1402 - x1.toInt).toNat) ⟨rfl, by omega, by omega, fun q => by rw [show x1.toNatClampNeg = x.toNatClampNeg + 1 by omega] at q; exact q⟩ (by unfold LF; omega)
  intro ag n i I ih
  obtain ⟨hn, i0, ij, hI⟩ := I
  have ci := clamp_I (x := i) (by omega)
  refine ok_ite (fun c1 => ok_ret (Or.inl k_0)) (fun c1 => ?_)
  rw [fa_le] at c1
  have ii : 0 ≤ i.toInt ∧ i.toInt < 1400 := by omega
  have il : i.toNatClampNeg < nL s := by omega
  refine ok_ix ii ?_
  refine ok_lt fun v4 e4 => ?_
  refine ok_jnI0 (kA s i.toNatClampNeg = 5 ∨ kA s i.toNatClampNeg = 4) (fun hk0 => ?_) (fun k hk => ?_)
  · refine ok_ix ii ?_
    refine ok_lt fun v6 e6 => ?_
    refine ok_jnI0 True (fun _ => ?_) (fun k hk => ?_)
    · refine ok_ix ii ?_
      refine ok_lt fun v8 e8 => ?_
      refine ok_jnI1 (fun t => (t.toInt = i.toInt + 1 ∧ kA s i.toNatClampNeg = 5) ∨ (i.toInt + 1 < t.toInt ∧ t.toInt ≤ 1400 ∧ kA s i.toNatClampNeg = 4 ∧ EIF s i.toNatClampNeg (t.toNatClampNeg - 1) ∧ ∀ u, u < t.toNatClampNeg - 1 → ¬ EIF s i.toNatClampNeg u)) (fun t ht => ?_) (fun k hk => ?_)
      · have ct : (t.toNatClampNeg : Int) = t.toInt := clamp_I (by omega)
        refine ih (1402 - t.toInt).toNat t (by omega) ⟨rfl, by omega, by omega, fun q => hI ?_⟩
        obtain ⟨m, hm⟩ := q
        refine ⟨m + 1, il, ?_⟩
        rcases ht with ⟨z1, z2⟩ | ⟨z1, z2, z3, z4, z5⟩
        · refine Or.inr (Or.inl ⟨z2, ?_⟩)
          rw [show t.toNatClampNeg = i.toNatClampNeg + 1 by omega] at hm
          exact hm
        · refine Or.inr (Or.inr ⟨z3, t.toNatClampNeg - 1, z4, z5, ?_⟩)
          rw [show t.toNatClampNeg - 1 + 1 = t.toNatClampNeg by omega]
          exact hm
      · refine ok_ite (fun c2 => ?_) (fun c2 => ?_)
        · rw [fa_eq, k_4, e8] at c2
          refine ok_calp (s_endOfIf hB ii.1 il (hE _ il c2)) (fun v11 q => ?_)
          obtain ⟨q0, q1, q2⟩ := q
          have c11 := clamp_I q0
          have b1 := q1.1
          have b2 := q1.2.1
          have e11 : (v11 + 1).toInt = v11.toInt + 1 := i1 (by omega)
          have d11 := clamp_I (x := v11 + 1) (by omega)
          have m11 : (v11 + 1).toNatClampNeg - 1 = v11.toNatClampNeg := by omega
          exact hk (v11 + 1) (Or.inr ⟨by omega, by omega, c2, by rw [m11]; exact q1, by rw [m11]; exact q2⟩)
        · rw [fa_eq, k_4, e8] at c2
          exact hk (i + 1) (Or.inl ⟨i1 (by omega), hk0.resolve_right c2⟩)
    · refine ok_ite (fun c2 => ?_) (fun c2 => hk trivial)
      rw [fa_eq, k_5, e6] at c2
      refine ok_ix ii ?_
      refine ok_lt fun v13 e13 => ?_
      refine ok_ite (fun c3 => ?_) (fun c3 => hk trivial)
      rw [fa_eq, k_2, e13] at c3
      refine ok_ix ii ?_
      refine ok_lt fun v15 e15 => ?_
      refine ok_ix (by omega) ?_
      refine ok_lt fun v16 e16 => ?_
      refine ok_ite (fun c4 => ?_) (fun c4 => hk trivial)
      rw [fa_eq, e15, e16] at c4
      exact ok_ret (Or.inr ⟨k_1, hI ⟨1, il, Or.inl ⟨c2, c3, c4⟩⟩⟩)
  · refine ok_ite (fun c2 => ?_) (fun c2 => ?_)
    · rw [fa_eq, k_5, e4] at c2; exact hk (Or.inl c2)
    · refine ok_ix ii ?_
      refine ok_lt fun v19 e19 => ?_
      refine ok_ite (fun c3 => ?_) (fun c3 => ok_ret (Or.inl k_0))
      rw [fa_eq, k_4, e19] at c3; exact hk (Or.inr c3)
