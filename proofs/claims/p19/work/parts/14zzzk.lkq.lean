/-- in the lines that stay each is once -/
def UQL (s : Sto) : Prop := (∀ c i j : Nat, LWj s 1 (c : Int) i → LWj s 1 (c : Int) j → i = j) ∧ (∀ c i j : Nat, EN s 2 (c : Int) i → EN s 2 (c : Int) j → i = j) ∧ (∀ c i j : Nat, LWj s 11 (c : Int) i → LWj s 11 (c : Int) j → i = j) ∧ (∀ c i j : Nat, LWj s 3 (c : Int) i → LWj s 3 (c : Int) j → i = j) ∧ (∀ c i j : Nat, LWj s 4 (c : Int) i → LWj s 4 (c : Int) j → i = j) ∧ ∀ c i j : Nat, EN s 3 (c : Int) i → EN s 3 (c : Int) j → i = j
theorem LAID.uql {s : Sto} (h : LAID s) (hj : (s.1 36 0).toInt ≠ -1) : UQL s := by
  have W := h.lnw hj
  obtain ⟨h0, h1, h2, h3_, h4, h5, h6, h7, h8, h9, h10, h11⟩ := h
  rcases h11 with ⟨z, _⟩ | ⟨_, l, s1, s2, s3, t0, hl, q1, q2, q3, q4, q5, q6⟩
  · exact absurd z hj
  have T : THIN l s1 s2 s3 s := ⟨q1, q2, q3, q4, q5, q6⟩
  have X : LTX s l s1 s2 s3 := ⟨W, h8, h4, T, hl, 250, t0⟩
  obtain ⟨u1, u2, u3⟩ := T.uq W t0
  refine ⟨u1, u2, u3, fun c i j hi hj => ?_, fun c i j hi hj => ?_, fun c i j hi hj => ?_⟩
  · obtain ⟨i', u, i1, i2, i3⟩ := T.lwu hi
    obtain ⟨j', v, j1, j2, j3⟩ := T.lwu hj
    rw [← i3, ← j3, X.onc 3 c i' j' _ _ i1 j1 ky3 ky3]
  · obtain ⟨i', u, i1, i2, i3⟩ := T.lwu hi
    obtain ⟨j', v, j1, j2, j3⟩ := T.lwu hj
    rw [← i3, ← j3, X.onc 4 c i' j' _ _ i1 j1 ky4 ky4]
  · obtain ⟨i', i1, i2, i3⟩ := T.enu hi
    obtain ⟨j', j1, j2, j3⟩ := T.enu hj
    rw [← i3, ← j3, X.onc 5 c i' j' _ _ i1 j1 ky5 ky5]
/-- where the class's lines lead, by the reference's -/
def LKQ (σ s : Sto) : Prop := (∀ k, k < nL s → kA s k = 3 → ∃ j : Nat, k < j ∧ (σ.1 72 k).toInt = (j : Int) ∧ (LWj s 4 (mA s k) j ∨ (EN s 3 (mA s k) j ∧ ∀ m, ¬ LWj s 4 (mA s k) m))) ∧ (∀ k, k < nL s → kA s k = 4 → ∃ j : Nat, k < j ∧ (σ.1 72 k).toInt = (j : Int) ∧ EN s 3 (mA s k) j) ∧ (∀ c j : Nat, LWj s 11 (c : Int) j → (σ.1 73 c).toInt = (j : Int)) ∧ (∀ c j : Nat, LWj s 1 (c : Int) j → (σ.1 74 c).toInt = (j : Int)) ∧ ∀ c j : Nat, EN s 2 (c : Int) j → (σ.1 75 c).toInt = (j : Int)
theorem JT4.lkq {σ s : Sto} (h : JT4 σ s) (hl : (σ.1 0 0).toInt ≠ 0) (hj : (s.1 36 0).toInt ≠ -1) : LKQ σ s := by
  obtain ⟨A, L, D, K, hl2⟩ := h.laid hl
  obtain ⟨B, Q, KM, E⟩ := D.p
  obtain ⟨i1_, _⟩ := h.lnq hl
  obtain ⟨s7, s8, t, e7, l7, e8⟩ := A.lns (i1_.mpr hj)
  have W := (h.wtl hl hj).cg e7 l7
  obtain ⟨l, t1, R⟩ := L.lns (fun z => D.lnw z) hj
  obtain ⟨At, u1, _, _, _⟩ := h.sts hl
  obtain ⟨_, _, _, _, _, _, x56, _, p160, _⟩ := u1
  have w4 := (h.wtl hl hj).2.2.2.1
  have nb := nB_le B
  have len := TEL.all (D.lnw hj) t1
  have g0 := gM_45 B 0
  have b1 := w4 (nB s) (Nat.le_refl _)
  have b2 := x56 (nB s) (Nat.le_refl _)
  have sb0 : sB s 0 = (s.1 45 0).toInt := rfl
  have X := t_tellAll2 W t1 (by omega) _ t
  obtain ⟨f, k0, KL, r1, r2, r3⟩ := X
  obtain ⟨n2, rw2⟩ := R
  obtain ⟨u1, u2, u3, u4, u5, u6⟩ := D.uql hj
  have e72 := e8 72 (by omega) (by omega)
  have e73 := e8 73 (by omega) (by omega)
  have e74 := e8 74 (by omega) (by omega)
  have e75 := e8 75 (by omega) (by omega)
  -- the lines that stay, of both
  have fl : f.length = nL s := by rw [KL.1, n2]
  have at_ : ∀ k, k < nL s → f[k]? = some (lnA s k) := fun k hk => by
    have hk2 := hk
    rw [n2] at hk2
    obtain ⟨j, j1, j2, j3⟩ := fb_ct_kth hk2
    have hx : l[j]? = some l[j] := List.getElem?_eq_getElem j1
    have a := KL.2 j _ hx j2
    have c := (rw2 j _ hx j2).1
    have j3' : ppl l j = k := j3
    rw [j3'] at a
    rw [j3] at c
    rw [a, c]
  have of_ : ∀ {k : Nat} {x : Ln}, f[k]? = some x → k < nL s ∧ lnA s k = x := fun {k x} hx => by
    have kl := lt_len hx
    rw [fl] at kl
    have := at_ k kl
    rw [hx] at this
    exact ⟨kl, (Option.some.inj this).symm⟩
  have lw_ : ∀ {k : Nat} {x : Ln}, f[k]? = some x → LWj s x.1 x.2.1 k := fun {k x} hx => by
    obtain ⟨a, b⟩ := of_ hx
    exact ⟨a, congrArg Prod.fst b, congrArg (fun z => z.2.1) b⟩
  have en_ : ∀ {k : Nat} {c o : Int}, f[k]? = some (5, c, o) → EN s o c k := fun {k c o} hx => by
    obtain ⟨a, b⟩ := of_ hx
    exact ⟨a, congrArg Prod.fst b, congrArg (fun z => z.2.2) b, congrArg (fun z => z.2.1) b⟩
  have fe : ∀ {k : Nat} {o c : Int}, EN s o c k → f[k]? = some (5, c, o) := fun {k o c} q => by
    rw [at_ k q.1]
    show some ((kA s k, mA s k, oA s k) : Ln) = _
    rw [q.2.1, q.2.2.1, q.2.2.2]
  refine ⟨fun k hk k3 => ?_, fun k hk k4 => ?_, fun c j q => ?_, fun c j q => ?_, fun c j q => ?_⟩
  · have q := r1 k _ (at_ k hk)
    obtain ⟨j, j1, j2, j3⟩ := q.2 k3
    rw [e72]
    refine ⟨j, j1, j2, ?_⟩
    rcases j3 with ⟨o, j3⟩ | ⟨j3, j4⟩
    · exact Or.inl (lw_ j3)
    · refine Or.inr ⟨en_ j3, fun m hm => ?_⟩
      exact j4 m _ (at_ m hm.1) hm.2.1 hm.2.2
  · have q := r1 k _ (at_ k hk)
    obtain ⟨j, j1, j2, j3⟩ := q.1.2 k4
    rw [e72]
    exact ⟨j, j1, j2, en_ j3⟩
  · obtain ⟨q1, q2, q3⟩ := q
    have m := (r2 j _ (by rw [fl]; exact q1) (at_ j q1) (by show 0 ≤ mA s j; omega)).1 q2
    obtain ⟨i, y, i1, i2, i3, i4, i5, i6⟩ := m
    rw [e73]
    have i6' : (s8.1 73 (mA s j).toNat).toInt = (i : Int) := i6
    have i5' : y.2.1 = mA s j := i5
    have cc : (mA s j).toNat = c := by omega
    rw [cc] at i6'
    have w := lw_ i3
    rw [i4, i5', q3] at w
    rw [i6', u3 c i j w ⟨q1, q2, q3⟩]
  · obtain ⟨q1, q2, q3⟩ := q
    have m := (r2 j _ (by rw [fl]; exact q1) (at_ j q1) (by show 0 ≤ mA s j; omega)).2.1 q2
    obtain ⟨i, y, i1, i2, i3, i4, i5, i6⟩ := m
    rw [e74]
    have i6' : (s8.1 74 (mA s j).toNat).toInt = (i : Int) := i6
    have i5' : y.2.1 = mA s j := i5
    have cc : (mA s j).toNat = c := by omega
    rw [cc] at i6'
    have w := lw_ i3
    rw [i4, i5', q3] at w
    rw [i6', u1 c i j w ⟨q1, q2, q3⟩]
  · have hf := fe q
    have q' := q
    obtain ⟨q1, q2, q3, q4⟩ := q
    have md := (r1 j _ hf).1.1 rfl
    have l2 : (mrun f k0 f.length).2.2 j = 2 := by
      rcases md with md | ⟨md, _⟩
      · rw [← r3]; exact md
      · exact absurd md (by show ¬ (2 : Int) = 3; decide)
    have cl : ∀ {i : Nat} {y : Ln}, f[i]? = some y → y.1 = 5 → i < f.length → (mrun f k0 f.length).2.2 i = (mrun f k0 (i + 1)).2.2 i := fun {i y} hy y5 hi => by
      have := mrun_cl (l := f) (k0 := k0) (j := i) (by rw [kdL_s hy]; exact Or.inl y5) (f.length - (i + 1))
      rw [show i + 1 + (f.length - (i + 1)) = f.length by omega] at this
      exact this
    have m := (r2 j _ (by rw [fl]; exact q1) hf (by show 0 ≤ (c : Int); omega)).2.2 rfl (by rw [← cl hf rfl (by rw [fl]; exact q1)]; exact l2)
    obtain ⟨i, y, i1, i2, i3, i4, i5, i7, i6⟩ := m
    rw [e75]
    have i6' : (s8.1 75 ((c : Int)).toNat).toInt = (i : Int) := i6
    have i5' : y.2.1 = (c : Int) := i5
    rw [show ((c : Int)).toNat = c by omega] at i6'
    have yd := (r1 i _ i3).1.1 i4
    have y2 : y.2.2 = 2 := by
      have : (s8.1 72 i).toInt = 2 := by rw [r3, cl i3 i4 i2]; exact i7
      rcases yd with yd | ⟨yd, yd2⟩
      · rw [← yd]; exact this
      · have yd2 : (s8.1 72 i).toInt = 4 := yd2
        omega
    have ey : y = (5, (c : Int), 2) := by rw [← i4, ← i5', ← y2]
    rw [ey] at i3
    rw [i6', u2 c i j (en_ i3) q']
/-- behind a choice both go to the same line -/
theorem oth_eq {s : Sto} (U : UQL s) {b : Nat} {k j i : Nat} (hk : LWj s 3 (b : Int) k) (h : OTHj s (b : Int) i) (j1 : k < j) (q : LWj s 4 (b : Int) j ∨ (EN s 3 (b : Int) j ∧ ∀ m, ¬ LWj s 4 (b : Int) m)) (q4 : ∀ m, LWj s 4 (b : Int) m → ∃ e, m < e ∧ EN s 3 (b : Int) e) : i = j := by
  obtain ⟨u1, u2, u3, u4, u5, u6⟩ := U
  obtain ⟨h1, h2⟩ := h
  obtain ⟨h3_, h4⟩ := h1 k hk
  rcases q with q | ⟨q, q5⟩
  · rcases h2 with h2 | h2
    · exact u5 b i j h2 q
    · obtain ⟨e, e1, e2⟩ := q4 j q
      have := u6 b i e h2 e2
      exact absurd (Or.inl q) (h4 j j1 (by omega))
  · rcases h2 with h2 | h2
    · exact absurd h2 (q5 i)
    · exact u6 b i j h2 q
