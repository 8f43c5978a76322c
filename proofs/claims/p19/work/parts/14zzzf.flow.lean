/-- a line, and to which block's name one comes behind it -/
def TOb (t : Sto) (Q : Nat → Prop) (c : Int) (k : Nat) : Prop := k < nL t ∧ kA t k ≠ 0 ∧ kA t k ≠ 3 ∧ (kA t k = 11 → mA t k = c) ∧ (kA t k = 4 → ∀ j, EN t 3 (mA t k) j → Q (j + 1)) ∧ (kA t k = 6 → ∀ j, EN t 2 (mA t k) j → Q (j + 1)) ∧ (kA t k = 7 → ∀ j, LWj t 1 (mA t k) j → Q j) ∧ (kA t k = 8 → ∀ j, LWj t 11 (mA t k) j → Q j) ∧ (kA t k = 1 ∨ kA t k = 2 ∨ kA t k = 5 ∨ kA t k = 9 ∨ kA t k = 10 → Q (k + 1))
def TOn (t : Sto) (c : Int) : Nat → Nat → Prop
  | 0 => fun _ => True
  | n + 1 => TOb t (TOn t c n) c
def TOC (t : Sto) (c : Int) (k : Nat) : Prop := ∀ n, TOn t c n k
theorem TOC.mk {t : Sto} {c : Int} {k : Nat} (h : TOb t (TOC t c) c k) : TOC t c k := fun n => by
  cases n with
  | zero => trivial
  | succ n =>
    obtain ⟨h0, h1, h2, h3_, h4, h5, h6, h7, h8⟩ := h
    exact ⟨h0, h1, h2, h3_, fun z j hj => h4 z j hj n, fun z j hj => h5 z j hj n, fun z j hj => h6 z j hj n, fun z j hj => h7 z j hj n, fun z => h8 z n⟩
theorem TOC.out {t : Sto} {c : Int} {k : Nat} (h : TOC t c k) : TOb t (TOC t c) c k := by
  obtain ⟨h0, h1, h2, h3_, _⟩ := h 1
  refine ⟨h0, h1, h2, h3_, fun z j hj n => ?_, fun z j hj n => ?_, fun z j hj n => ?_, fun z j hj n => ?_, fun z n => ?_⟩
  · obtain ⟨_, _, _, _, g4, g5, g6, g7, g8⟩ := h (n + 1)
    exact g4 z j hj
  · obtain ⟨_, _, _, _, g4, g5, g6, g7, g8⟩ := h (n + 1)
    exact g5 z j hj
  · obtain ⟨_, _, _, _, g4, g5, g6, g7, g8⟩ := h (n + 1)
    exact g6 z j hj
  · obtain ⟨_, _, _, _, g4, g5, g6, g7, g8⟩ := h (n + 1)
    exact g7 z j hj
  · obtain ⟨_, _, _, _, g4, g5, g6, g7, g8⟩ := h (n + 1)
    exact g8 z
section
variable {l : List Ln} {s1 s2 s3 t : Sto}
theorem TOC.st (h : THIN l s1 s2 s3 t) {i : Nat} {c : Int} {x : Ln} (hx : l[i]? = some x) (hk : x.1 = 1 ∨ x.1 = 2 ∨ x.1 = 5 ∨ x.1 = 9 ∨ x.1 = 10) (g : TOC t c (ph s1 s3 (i + 1))) : TOC t c (ph s1 s3 i) := by
  have k := h.ke hx (by omega) (by omega)
  obtain ⟨a1, a2⟩ := h.k hx k
  rw [a2] at g
  have e : kA t (ph s1 s3 i) = x.1 := by rw [← a1]; rfl
  exact TOC.mk ⟨h.lt hx k, by omega, by omega, fun z => by omega, fun z => by omega, fun z => by omega, fun z => by omega, fun z => by omega, fun _ => g⟩
theorem TOC.lb (h : THIN l s1 s2 s3 t) {i : Nat} {x : Ln} (hx : l[i]? = some x) (hk : x.1 = 11) : TOC t x.2.1 (ph s1 s3 i) := by
  have k := h.ke hx (by omega) (by omega)
  have e : kA t (ph s1 s3 i) = x.1 := by rw [← (h.k hx k).1]; rfl
  have e2 : mA t (ph s1 s3 i) = x.2.1 := by rw [← (h.k hx k).1]; rfl
  exact TOC.mk ⟨h.lt hx k, by omega, by omega, fun _ => e2, fun z => by omega, fun z => by omega, fun z => by omega, fun z => by omega, fun z => by omega⟩
def Q1L (l : List Ln) (s1 s3 t : Sto) (i : Nat) : Prop := (∀ c o, l[i]? = some (1, c, o) → TOC t c (ph s1 s3 i)) ∧ ∀ m, l[i]? = some (5, m, 2) → TOC t m (ph s1 s3 (i + 1))
def D1L (l : List Ln) (s1 s3 t : Sto) (a n : Nat) : Prop := ∀ i, a ≤ i → i < a + n → Q1L l s1 s3 t i
theorem D1L.app {a n m : Nat} (h : D1L l s1 s3 t a n) (g : D1L l s1 s3 t (a + n) m) : D1L l s1 s3 t a (n + m) := fun i h1 h2 => by
  by_cases q : i < a + n
  · exact h i h1 q
  · exact g i (by omega) (by omega)
theorem D1L.pl {a : Nat} {x : List Ln} (o : OC l a x) (h : ∀ y, y ∈ x → y.1 ≠ 1 ∧ (y.1 = 5 → y.2.2 ≠ 2)) : D1L l s1 s3 t a x.length := fun i h1 h2 => by
  have hx : x[i - a]? = some x[i - a] := List.getElem?_eq_getElem (by omega)
  have hl := o _ _ hx
  rw [show a + (i - a) = i by omega] at hl
  obtain ⟨a1, a2⟩ := h _ (List.mem_of_getElem? hx)
  refine ⟨fun c o z => ?_, fun m z => ?_⟩
  · rw [hl] at z; injection z with z; rw [z] at a1; exact absurd rfl a1
  · rw [hl] at z; injection z with z; rw [z] at a2; exact absurd rfl (a2 rfl)
theorem D1L.one {a : Nat} {k b o : Int} (h : l[a]? = some (k, b, o)) (h1 : k ≠ 1) (h5 : k ≠ 5 ∨ o ≠ 2) : D1L l s1 s3 t a 1 :=
  D1L.pl (x := [(k, b, o)]) (fun i y hy => by
    cases i with
    | zero =>
      simp at hy
      rw [Nat.add_zero, h, hy]
    | succ i => simp at hy) (fun y hy => by
    rw [List.mem_singleton.mp hy]
    exact ⟨h1, fun z w => h5.elim (fun q => q z) (fun q => q w)⟩)
theorem hdc_all {σ : Sto} (h : THIN l s1 s2 s3 t) : ∀ (d w b : Nat) (k : Int) (x : List Ln) (a : Nat), TEL σ d w b k x → OC l a x → (w ≤ 2 → TOC t (b : Int) (ph s1 s3 a)) ∧ D1L l s1 s3 t a x.length
  | 0, _, _, _, _, _, q, _ => q.elim
  | d + 1, w, b, k, x, a, q, o => by
    rcases q with ⟨w0, ⟨_, q⟩ | ⟨_, l1, q, e⟩⟩ | ⟨w1, ⟨_, q⟩ | ⟨m, l1, l2, _, _, _, q1, q2, e⟩⟩ | ⟨w2, tl, e, q⟩ | ⟨w3, e, _, _, _, ⟨_, q⟩ | ⟨_, _, q⟩ | ⟨_, _, q⟩ | ⟨_, _, q⟩⟩
    · have := hdc_all h d _ _ _ _ a q o
      exact ⟨fun _ => this.1 (by decide), this.2⟩
    · rw [e] at o ⊢
      obtain ⟨h1, h2⟩ := hdc_all h d _ _ _ _ _ q o.t.l
      have hd := TOC.st h o.h (Or.inl rfl) (h1 (by decide))
      refine ⟨fun _ => hd, ?_⟩
      rw [List.length_append, List.length_append]
      refine D1L.app (n := 1) (fun i i1 i2 => ?_) (h2.app (D1L.one o.t.r.one (by decide) (Or.inr (by decide))))
      have ia : i = a := by omega
      subst ia
      have oh := o.h
      refine ⟨fun c u z => ?_, fun m z => by rw [oh] at z; simp at z⟩
      rw [oh] at z
      simp at z
      rw [← z.1]; exact hd
    · have := hdc_all h d _ _ _ _ a q o
      exact ⟨fun _ => this.1 (by decide), this.2⟩
    · rw [e] at o ⊢
      obtain ⟨h1, h2⟩ := hdc_all h d _ _ _ _ _ q1 o.t.l
      obtain ⟨h3_, h4⟩ := hdc_all h d _ _ _ _ _ q2 o.t.r.t
      have hd := TOC.st h o.h (Or.inr (Or.inl rfl)) (h1 (by decide))
      refine ⟨fun _ => hd, ?_⟩
      rw [List.length_append, List.length_append, List.length_append]
      have om := o.t.r.h
      refine D1L.app (n := 1) (D1L.one o.h (by decide) (Or.inl (by decide))) (h2.app (D1L.app (n := 1) (fun i i1 i2 => ?_) h4))
      have ia : i = a + 1 + l1.length := by omega
      subst ia
      refine ⟨fun c o z => by rw [om] at z; simp at z, fun c z => ?_⟩
      rw [om] at z
      simp at z
      rw [← z]; exact h3_ (by decide)
    · rw [e] at o ⊢
      have ot := o.t.r.r.r
      have ht : D1L l s1 s3 t (a + 1 + (tyL σ b).length + (stLs b (sB σ b) (sB σ (b + 1) - sB σ b).toNat).length + (caL σ b).length) tl.length := by
        rcases q with ⟨_, l1, l2, q1, q2, e2⟩ | ⟨_, _, q⟩ | ⟨_, _, _, q⟩ | ⟨_, _, q⟩
        · rw [e2] at ot ⊢
          obtain ⟨_, h2⟩ := hdc_all h d _ _ _ _ _ q1 ot.t.l
          obtain ⟨_, h4⟩ := hdc_all h d _ _ _ _ _ q2 ot.t.r.t.l
          rw [List.length_append, List.length_append, List.length_append, List.length_append]
          exact D1L.app (n := 1) (D1L.one ot.h (by decide) (Or.inl (by decide))) (h2.app (D1L.app (n := 1) (D1L.one ot.t.r.h (by decide) (Or.inl (by decide))) (h4.app (D1L.one ot.t.r.t.r.one (by decide) (Or.inr (by decide))))))
        · exact (hdc_all h d _ _ _ _ _ q ot).2
        · exact (hdc_all h d _ _ _ _ _ q ot).2
        · rw [q]; exact fun i i1 i2 => by simp only [List.length_nil] at i2; omega
      have olb := o.h
      refine ⟨fun _ => TOC.lb h olb rfl, ?_⟩
      rw [List.length_append, List.length_append, List.length_append, List.length_append]
      refine D1L.app (n := 1) (D1L.one o.h (by decide) (Or.inl (by decide))) ((D1L.pl o.t.l (fun y hy => by have := mem_ty hy; exact ⟨by omega, fun z => by omega⟩)).app ((D1L.pl o.t.r.l (fun y hy => by have := mem_st hy; exact ⟨by omega, fun z => by omega⟩)).app ((D1L.pl o.t.r.r.l (fun y hy => by have := mem_ca hy; exact ⟨by omega, fun z => by omega⟩)).app ht)))
    · rw [q] at o ⊢
      exact ⟨fun z => absurd w3 (by omega), D1L.one o.one (by decide) (Or.inl (by decide))⟩
    · rw [q] at o ⊢
      exact ⟨fun z => absurd w3 (by omega), D1L.one o.one (by decide) (Or.inl (by decide))⟩
    · rw [q] at o ⊢
      exact ⟨fun z => absurd w3 (by omega), D1L.one o.one (by decide) (Or.inl (by decide))⟩
    · exact ⟨fun z => absurd w3 (by omega), (hdc_all h d _ _ _ _ a q o).2⟩
theorem LTX.q1 (h : LTX t l s1 s2 s3) {i : Nat} {x : Ln} (hx : l[i]? = some x) : Q1L l s1 s3 t i := by
  obtain ⟨D, q⟩ := h.2.2.2.2.2
  have := (hdc_all h.2.2.2.1 D 0 0 0 l 0 q OC.self).2
  exact this i (Nat.zero_le _) (by have := lt_len hx; omega)
theorem LTX.to0 (h : LTX t l s1 s2 s3) : TOC t 0 0 := by
  obtain ⟨D, q⟩ := h.2.2.2.2.2
  have p0 : ph s1 s3 0 = 0 := by have := THIN.le (s1 := s1) (s3 := s3) (i := 0); omega
  have := (hdc_all h.2.2.2.1 D 0 0 0 l 0 q OC.self).1 (by decide)
  rw [p0] at this
  exact this
/-- what an idle break falls through -/
theorem LTX.idc (h : LTX t l s1 s2 s3) {m : Int} : ∀ (n k : Nat), IDR s1 m n k → TOC t m (ph s1 s3 k)
  | 0, _, q => q.elim
  | n + 1, k, q => by
    have T := h.2.2.2.1
    obtain ⟨kl, q⟩ := q
    have kl2 : k < l.length := by rw [← T.1.1]; exact kl
    have hx : l[k]? = some l[k] := List.getElem?_eq_getElem kl2
    have ha := (T.a hx).2
    have a1 : kA s1 k = (l[k]).1 := by rw [← ha]; rfl
    have a2 : mA s1 k = (l[k]).2.1 := by rw [← ha]; rfl
    have a3 : oA s1 k = (l[k]).2.2 := by rw [← ha]; rfl
    rcases q with ⟨q1, q2, q3⟩ | ⟨q1, q2⟩ | ⟨q1, j, q2, _, q3⟩
    · rw [a1] at q1
      rw [a2] at q3
      rw [a3] at q2
      have e : l[k] = (5, m, 2) := by rw [← q1, ← q2, ← q3]
      exact TOC.st T hx (by omega) ((h.q1 hx).2 _ (by rw [hx, ← e]))
    · rw [a1] at q1
      exact TOC.st T hx (by omega) (h.idc n _ q2)
    · rw [a1] at q1
      have bd := h.idc n _ q3
      have e4 : l[k] = (4, (l[k]).2.1, (l[k]).2.2) := by rw [← q1]
      obtain ⟨c, e, y, c1, p1, p2, p3, p4, p5⟩ := (h.p1 hx).2.2 (l[k]).2.1 (l[k]).2.2 (by rw [hx, ← e4])
      have je : j = e := by
        have jl : j < l.length := by rw [← T.1.1]; exact q2.2.1
        have jx : l[j]? = some l[j] := List.getElem?_eq_getElem jl
        have jh := (T.a jx).2
        have j1 : (l[j]).1 = 5 := by rw [← jh]; exact q2.2.2.1
        have j2 : (l[j]).2.2 = 3 := by rw [← jh]; exact q2.2.2.2.1
        have j3 : (l[j]).2.1 = (l[k]).2.1 := by rw [← a2, ← jh]; exact q2.2.2.2.2
        exact h.onc 5 c j e l[j] (5, (l[k]).2.1, 3) jx p1 (by unfold KY; simp [j1, j2, j3, c1]) (by unfold KY; simp [c1])
      subst je
      by_cases k4 : KE s1 s3 k
      · obtain ⟨b1, b2⟩ := T.k hx k4
        have m1 : mA t (ph s1 s3 k) = (l[k]).2.1 := by rw [← b1]; rfl
        have k1 : kA t (ph s1 s3 k) = 4 := by rw [← q1, ← b1]; rfl
        have fj := T.k p1 (T.ke p1 (by simp) (by simp))
        refine TOC.mk ⟨T.lt hx k4, by omega, by omega, fun z => by omega, fun _ i hi => ?_, fun z => by omega, fun z => by omega, fun z => by omega, fun z => by omega⟩
        rw [m1] at hi
        obtain ⟨u, u1, u2, u3⟩ := T.enu hi
        have uj : u = j := h.onc 5 c u j _ _ u1 p1 (by unfold KY; simp [c1]) (by unfold KY; simp [c1])
        rw [← u3, uj, ← fj.2]
        exact bd
      · have m := T.el hx p3 q1 p4 k4
        have k1 : ¬ KE s1 s3 (k + 1) := fun z => m z.1
        have y6 := (T.m1 p3 m).1
        have e2 := p5 y6
        subst e2
        have bj := TOC.st T p1 (by omega) bd
        have w1 := THIN.n k4
        have w2 : ph s1 s3 (k + 2) = ph s1 s3 (k + 1) := THIN.n k1
        rw [← w1, ← w2]
        exact bj
theorem LTX.loopc (h : LTX t l s1 s2 s3) {c : Int} {j : Nat} (q : LWj t 1 c j) : TOC t c j := by
  obtain ⟨i, u, i1, i2, i3⟩ := h.2.2.2.1.lwu q
  rw [← i3]
  exact (h.q1 i1).1 _ _ i1
theorem LTX.mendc (h : LTX t l s1 s2 s3) {c : Int} {j : Nat} (q : EN t 2 c j) : TOC t c (j + 1) := by
  obtain ⟨i, i1, i2, i3⟩ := h.2.2.2.1.enu q
  have a := (h.2.2.2.1.k i1 i2).2
  rw [← i3, ← a]
  exact (h.q1 i1).2 _ i1
theorem LTX.labc (h : LTX t l s1 s2 s3) {c : Int} {j : Nat} (q : LWj t 11 c j) : TOC t c j := by
  obtain ⟨i, u, i1, i2, i3⟩ := h.2.2.2.1.lwu q
  rw [← i3]
  exact TOC.lb h.2.2.2.1 i1 rfl
/-- where one goes from a block -/
theorem LTX.goc (h : LTX t l s1 s2 s3) {d b a : Nat} {k : Int} {x : List Ln} (q : TEL t d 3 b k x) (o : OC l a x) : TOC t k (ph s1 s3 a) := by
  have T := h.2.2.2.1
  have one : ∀ (kd : Int), kd = 6 ∨ kd = 7 ∨ kd = 8 → l[a]? = some (kd, k, -1) → KE s1 s3 a → TOC t k (ph s1 s3 a) := fun kd hk hx ke => by
    obtain ⟨b1, b2⟩ := T.k hx ke
    have m1 : mA t (ph s1 s3 a) = k := by rw [show mA t (ph s1 s3 a) = (lnA t (ph s1 s3 a)).2.1 from rfl, b1]
    have k1 : kA t (ph s1 s3 a) = kd := by rw [show kA t (ph s1 s3 a) = (lnA t (ph s1 s3 a)).1 from rfl, b1]
    refine TOC.mk ⟨T.lt hx ke, by omega, by omega, fun z => by omega, fun z => by omega, fun _ j hj => ?_, fun _ j hj => ?_, fun _ j hj => ?_, fun z => by omega⟩
    · rw [m1] at hj; exact h.mendc hj
    · rw [m1] at hj; exact h.loopc hj
    · rw [m1] at hj; exact h.labc hj
  cases d with
  | zero => exact q.elim
  | succ d =>
    rcases q with ⟨z, _⟩ | ⟨z, _⟩ | ⟨z, _⟩ | ⟨_, e, e1, e2, e3, ⟨_, q⟩ | ⟨z1, z2, q⟩ | ⟨fw, mg, q⟩ | ⟨fw, _, q⟩⟩
    · exact absurd z (by decide)
    · exact absurd z (by decide)
    · exact absurd z (by decide)
    · rw [q] at o
      exact one 8 (by omega) o.one (T.ke o.one (by simp) (by simp))
    · rw [q] at o
      exact one 7 (by omega) o.one (T.ke o.one (by simp) (by simp))
    · rw [q] at o
      have hx := o.one
      by_cases ke : KE s1 s3 a
      · exact one 6 (by omega) hx ke
      · have m := T.k6 hx (by simp) ke
        obtain ⟨_, n, r⟩ := T.m1 hx m
        rw [← THIN.n ke]
        exact h.idc n _ r
    · have eb := eBt h.1.1 e
      have := (hdc_all T d 0 _ _ x a q o).1 (by decide)
      rw [eb, e3] at this
      exact this
/-- where a choice goes on otherwise -/
def OTHj (t : Sto) (b : Int) (j : Nat) : Prop := (∀ q, LWj t 3 b q → q < j ∧ ∀ i, q < i → i < j → ¬ (LWj t 4 b i ∨ EN t 3 b i)) ∧ (LWj t 4 b j ∨ EN t 3 b j)
/-- a choice -/
theorem LTX.forkc (h : LTX t l s1 s2 s3) {d b a : Nat} {l1 l2 : List Ln} (q1 : TEL t d 3 b (fallT t b) l1) (q2 : TEL t d 3 b (jmpT t b) l2) (o : OC l a ([(3, (b : Int), -1)] ++ (l1 ++ ([(4, (b : Int), -1)] ++ (l2 ++ [(5, (b : Int), 3)]))))) : LWj t 3 b (ph s1 s3 a) ∧ TOC t (fallT t b) (ph s1 s3 a + 1) ∧ ∃ j, OTHj t b j ∧ TOC t (jmpT t b) (j + 1) := by
  have T := h.2.2.2.1
  have hx := o.h
  have o1 := o.t.l
  have hp := o.t.r.h
  have o2 := o.t.r.t.l
  have he := o.t.r.t.r.one
  generalize hpe : a + 1 + l1.length = p at hp o2 he
  have g1 := h.goc q1 o1
  have g2 := h.goc q2 o2
  have ke := T.ke hx (by simp) (by simp)
  have f := T.k hx ke
  have fe := T.k he (T.ke he (by simp) (by simp))
  have lp := THIN.mono (s1 := s1) (s3 := s3) (i := a + 1) (j := p) (by omega)
  have le := THIN.mono (s1 := s1) (s3 := s3) (i := p) (j := p + 1 + l2.length) (by omega)
  have uif : ∀ q, LWj t 3 b q → q = ph s1 s3 a := fun q hq => by
    obtain ⟨i, u, i1, i2, i3⟩ := T.lwu hq
    rw [← i3, h.onc 3 b i a _ _ i1 hx ky3 ky3]
  have uel : ∀ q, LWj t 4 b q → KE s1 s3 p ∧ q = ph s1 s3 p := fun q hq => by
    obtain ⟨i, u, i1, i2, i3⟩ := T.lwu hq
    have := h.onc 4 b i p _ _ i1 hp ky4 ky4
    subst this
    exact ⟨i2, i3.symm⟩
  have uen : ∀ q, EN t 3 b q → q = ph s1 s3 (p + 1 + l2.length) := fun q hq => by
    obtain ⟨i, i1, i2, i3⟩ := T.enu hq
    rw [← i3, h.onc 5 b i _ _ _ i1 he ky5 ky5]
  refine ⟨T.lw hx ke, by rw [← f.2]; exact g1, ?_⟩
  by_cases kp : KE s1 s3 p
  · have fp := T.k hp kp
    refine ⟨ph s1 s3 p, ⟨fun q hq => ⟨by rw [uif q hq]; omega, fun i i1 i2 i3 => ?_⟩, Or.inl (T.lw hp kp)⟩, ?_⟩
    · rcases i3 with i3 | i3
      · have := (uel i i3).2; omega
      · have := uen i i3; omega
    · rw [← fp.2]
      exact g2
  · obtain ⟨y, z, f1, f2, f3⟩ := TEL.f3 q2
    have oy := (o2.to f1).h
    have m := T.el hp oy rfl f2 kp
    have kp1 : ¬ KE s1 s3 (p + 1) := fun z => m z.1
    obtain ⟨y6, n, r⟩ := T.m1 oy m
    have l2n : l2.length = 1 := by rw [f1, f3 y6]; rfl
    rw [l2n] at he fe le uen
    have w1 := THIN.n kp
    have w2 := THIN.n kp1
    refine ⟨ph s1 s3 (p + 1 + 1), ⟨fun q hq => ⟨by rw [uif q hq]; omega, fun i i1 i2 i3 => ?_⟩, Or.inr (T.en he)⟩, ?_⟩
    · rcases i3 with i3 | i3
      · exact kp (uel i i3).1
      · have := uen i i3; omega
    · rw [← fe.2]
      -- the break that went was this one
      have yk : y.2.1 = jmpT t b := by
        rw [f1, f3 y6] at q2
        cases d with
        | zero => exact q2.elim
        | succ d =>
          rcases q2 with ⟨z, _⟩ | ⟨z, _⟩ | ⟨z, _⟩ | ⟨_, e, e1, e2, e3, ⟨_, q⟩ | ⟨z1, z2, q⟩ | ⟨fw, mg, q⟩ | ⟨fw, _, q⟩⟩
          · exact absurd z (by decide)
          · exact absurd z (by decide)
          · exact absurd z (by decide)
          · simp at q; rw [q]
          · simp at q; rw [q]
          · simp at q; rw [q]
          · obtain ⟨y', z', g1', g2'⟩ := TEL.f1 q (by decide)
            have : y = y' := by
              have := congrArg List.head? g1'
              simpa using this
            rw [← this] at g2'
            omega
      cases n with
      | zero => exact r.elim
      | succ n =>
        obtain ⟨_, r⟩ := r
        have ha := (T.a he).2
        have a1 : kA s1 (p + 1 + 1) = 5 := by rw [show kA s1 (p + 1 + 1) = (lnA s1 (p + 1 + 1)).1 from rfl, ha]
        have a3 : oA s1 (p + 1 + 1) = 3 := by rw [show oA s1 (p + 1 + 1) = (lnA s1 (p + 1 + 1)).2.2 from rfl, ha]
        rw [← yk]
        rcases r with ⟨_, r, _⟩ | ⟨_, r⟩ | ⟨r, _⟩
        · omega
        · exact h.idc n _ r
        · omega
/-- what stands behind a block's statements -/
def TAIL (t : Sto) (b q : Nat) : Prop := enI (sG t (laR t b)) ∨ (FORK t b ∧ LWj t 3 b q ∧ TOC t (fallT t b) (q + 1) ∧ ∃ j, OTHj t b j ∧ TOC t (jmpT t b) (j + 1)) ∨ (¬ FORK t b ∧ sG t (laR t b) = 103 ∧ TOC t (jmpT t b) q) ∨ (¬ FORK t b ∧ gOnI (sG t (laR t b)) ∧ TOC t (fallT t b) q)
/-- what stands behind a block's name -/
def BLKP (t : Sto) (b p : Nat) : Prop := ∃ q, ((t.1 25 b).toInt = -1 ∧ q = p + 1 ∨ (t.1 25 b).toInt ≠ -1 ∧ q = p + 2 ∧ p + 1 < nL t ∧ kA t (p + 1) = 9) ∧ (∀ i, i < (sB t (b + 1) - sB t b).toNat → q + i < nL t ∧ lnA t (q + i) = (0, (b : Int), sB t b + i)) ∧ (((t.1 25 b).toInt = -1 ∧ TAIL t b (q + (sB t (b + 1) - sB t b).toNat)) ∨ ((t.1 25 b).toInt ≠ -1 ∧ q + (sB t (b + 1) - sB t b).toNat < nL t ∧ kA t (q + (sB t (b + 1) - sB t b).toNat) = 10 ∧ TAIL t b (q + (sB t (b + 1) - sB t b).toNat + 1)))
theorem LTX.bodyc (h : LTX t l s1 s2 s3) {d b a : Nat} {k : Int} {x : List Ln} (q : TEL t d 2 b k x) (o : OC l a x) : BLKP t b (ph s1 s3 a) := by
  have T := h.2.2.2.1
  cases d with
  | zero => exact q.elim
  | succ d =>
    rcases q with ⟨z, _⟩ | ⟨z, _⟩ | ⟨_, tl, e, q⟩ | ⟨z, _⟩
    · exact absurd z (by decide)
    · exact absurd z (by decide)
    · rw [e] at o
      have olb := o.h
      have oty : OC l (a + 1) (tyL t b) := o.t.l
      have ost := o.t.r.l
      have oca := o.t.r.r.l
      have otl := o.t.r.r.r
      rw [stLs_len] at oca otl
      have plb := (T.k olb (T.ke olb (by simp) (by simp))).2
      generalize hn : (sB t (b + 1) - sB t b).toNat = n at ost oca otl
      generalize ha1 : a + 1 + (tyL t b).length = a1 at ost oca otl
      -- the statements stand in a row
      have row : ∀ i, i < n → l[a1 + i]? = some (0, (b : Int), sB t b + i) := fun i hi => ost i _ (stLs_at (b : Int) (sB t b) n i hi)
      have pr : ∀ i, i ≤ n → ph s1 s3 (a1 + i) = ph s1 s3 a1 + i := fun i => by
        induction i with
        | zero => intro _; rfl
        | succ i ih =>
          intro hi
          have hx := row i (by omega)
          have := (T.k hx (T.ke hx (by simp) (by simp))).2
          rw [show a1 + (i + 1) = a1 + i + 1 by omega, this, ih (by omega)]
          omega
      have tl_ : ∀ u, OC l u tl → TAIL t b (ph s1 s3 u) := fun u ou => by
        rcases q with ⟨fk, l1, l2, q1, q2, e2⟩ | ⟨nf, g, q⟩ | ⟨nf, g, g2, q⟩ | ⟨nf, g, q⟩
        · rw [e2] at ou
          exact Or.inr (Or.inl ⟨fk, h.forkc q1 q2 ou⟩)
        · exact Or.inr (Or.inr (Or.inl ⟨nf, g, h.goc q ou⟩))
        · exact Or.inr (Or.inr (Or.inr ⟨nf, g2, h.goc q ou⟩))
        · exact Or.inl (Classical.byContradiction fun z => g.2 ⟨g.1, fun w => z (Or.inl w), fun w => z (Or.inr w)⟩)
      have st_ : ∀ i, i < n → ph s1 s3 a1 + i < nL t ∧ lnA t (ph s1 s3 a1 + i) = (0, (b : Int), sB t b + i) := fun i hi => by
        have hx := row i hi
        have k := T.ke hx (by simp) (by simp)
        rw [← pr i (by omega)]
        exact ⟨T.lt hx k, (T.k hx k).1⟩
      by_cases z : (t.1 25 b).toInt = -1
      · have e1 : tyL t b = [] := by unfold tyL; rw [if_pos z]
        have e2 : caL t b = [] := by unfold caL; rw [if_pos z]
        rw [e1] at ha1
        rw [e2] at otl
        have a1e : a1 = a + 1 := ha1.symm
        refine ⟨ph s1 s3 a1, Or.inl ⟨z, by rw [a1e, plb]⟩, by rw [hn]; exact st_, Or.inl ⟨z, ?_⟩⟩
        rw [hn, ← pr n (Nat.le_refl _)]
        exact tl_ _ otl
      · have e1 : tyL t b = [(9, (b : Int), -1)] := by unfold tyL; rw [if_neg z]
        have e2 : caL t b = [(10, (t.1 25 b).toInt, (b : Int))] := by unfold caL; rw [if_neg z]
        rw [e1] at ha1 oty
        rw [e2] at oca otl
        have a1e : a1 = a + 1 + 1 := ha1.symm
        have hy := oty.one
        have hz := oca.one
        have ky := T.ke hy (by simp) (by simp)
        have kz := T.ke hz (by simp) (by simp)
        obtain ⟨y1, y2⟩ := T.k hy ky
        obtain ⟨z1, z2⟩ := T.k hz kz
        refine ⟨ph s1 s3 a1, Or.inr ⟨z, by rw [a1e, y2, plb], by rw [← plb]; exact T.lt hy ky, by rw [← plb, show kA t (ph s1 s3 (a + 1)) = (lnA t (ph s1 s3 (a + 1))).1 from rfl, y1]⟩, by rw [hn]; exact st_, Or.inr ⟨z, ?_⟩⟩
        rw [hn, ← pr n (Nat.le_refl _)]
        refine ⟨T.lt hz kz, by rw [show kA t (ph s1 s3 (a1 + n)) = (lnA t (ph s1 s3 (a1 + n))).1 from rfl, z1], ?_⟩
        rw [← z2]
        exact tl_ _ otl
    · exact absurd z (by decide)
def C4c (l : List Ln) (s1 s3 t : Sto) (a n : Nat) : Prop := ∀ i, a ≤ i → i < a + n → ∀ c o, l[i]? = some (11, c, o) → ∃ b : Nat, c = (b : Int) ∧ b < nB t ∧ BLKP t b (ph s1 s3 i)
theorem C4c.app {a n m : Nat} (h : C4c l s1 s3 t a n) (g : C4c l s1 s3 t (a + n) m) : C4c l s1 s3 t a (n + m) := fun i h1 h2 => by
  by_cases q : i < a + n
  · exact h i h1 q
  · exact g i (by omega) (by omega)
theorem C4c.pl {a : Nat} {x : List Ln} (o : OC l a x) (h : ∀ y, y ∈ x → y.1 ≠ 11) : C4c l s1 s3 t a x.length := fun i h1 h2 c u z => by
  have hx : x[i - a]? = some x[i - a] := List.getElem?_eq_getElem (by omega)
  have hl := o _ _ hx
  rw [show a + (i - a) = i by omega] at hl
  have a1 := h _ (List.mem_of_getElem? hx)
  rw [hl] at z; injection z with z; rw [z] at a1; exact absurd rfl a1
theorem C4c.one {a : Nat} {k b o : Int} (h : l[a]? = some (k, b, o)) (h1 : k ≠ 11) : C4c l s1 s3 t a 1 := fun i i1 i2 c u z => by
  have : i = a := by omega
  subst this
  rw [h] at z
  simp at z
  exact absurd z.1 h1
theorem lbc_all (h : LTX t l s1 s2 s3) : ∀ (d w b : Nat) (k : Int) (x : List Ln) (a : Nat), b < nB t → TEL t d w b k x → OC l a x → C4c l s1 s3 t a x.length
  | 0, _, _, _, _, _, _, q, _ => q.elim
  | d + 1, w, b, k, x, a, hb, q, o => by
    rcases q with ⟨w0, ⟨_, q⟩ | ⟨_, l1, q, e⟩⟩ | ⟨w1, ⟨_, q⟩ | ⟨m, l1, l2, hm, _, _, q1, q2, e⟩⟩ | ⟨w2, tl, e, q⟩ | ⟨w3, e, _, _, _, ⟨_, q⟩ | ⟨_, _, q⟩ | ⟨_, _, q⟩ | ⟨fw, _, q⟩⟩
    · exact lbc_all h d _ _ _ _ a hb q o
    · rw [e] at o ⊢
      rw [List.length_append, List.length_append]
      exact C4c.app (n := 1) (C4c.one o.h (by decide)) ((lbc_all h d _ _ _ _ _ hb q o.t.l).app (C4c.one o.t.r.one (by decide)))
    · exact lbc_all h d _ _ _ _ a hb q o
    · rw [e] at o ⊢
      rw [List.length_append, List.length_append, List.length_append]
      exact C4c.app (n := 1) (C4c.one o.h (by decide)) ((lbc_all h d _ _ _ _ _ hb q1 o.t.l).app (C4c.app (n := 1) (C4c.one o.t.r.h (by decide)) (lbc_all h d _ _ _ _ _ hm.1.1 q2 o.t.r.t)))
    · have bo := h.bodyc (d := d + 1) (k := k) (Or.inr (Or.inr (Or.inl ⟨rfl, tl, e, q⟩))) o
      rw [e] at o ⊢
      have ot := o.t.r.r.r
      have ht : C4c l s1 s3 t (a + 1 + (tyL t b).length + (stLs b (sB t b) (sB t (b + 1) - sB t b).toNat).length + (caL t b).length) tl.length := by
        rcases q with ⟨_, l1, l2, q1, q2, e2⟩ | ⟨_, _, q⟩ | ⟨_, _, _, q⟩ | ⟨_, _, q⟩
        · rw [e2] at ot ⊢
          rw [List.length_append, List.length_append, List.length_append, List.length_append]
          exact C4c.app (n := 1) (C4c.one ot.h (by decide)) ((lbc_all h d _ _ _ _ _ hb q1 ot.t.l).app (C4c.app (n := 1) (C4c.one ot.t.r.h (by decide)) ((lbc_all h d _ _ _ _ _ hb q2 ot.t.r.t.l).app (C4c.one ot.t.r.t.r.one (by decide)))))
        · exact lbc_all h d _ _ _ _ _ hb q ot
        · exact lbc_all h d _ _ _ _ _ hb q ot
        · rw [q]; exact fun i i1 i2 => by simp only [List.length_nil] at i2; omega
      have olb := o.h
      rw [List.length_append, List.length_append, List.length_append, List.length_append]
      refine C4c.app (n := 1) (fun i i1 i2 c u z => ?_) ((C4c.pl o.t.l (fun y hy => by have := mem_ty hy; omega)).app ((C4c.pl o.t.r.l (fun y hy => by have := mem_st hy; omega)).app ((C4c.pl o.t.r.r.l (fun y hy => by have := mem_ca hy; omega)).app ht)))
      have ia : i = a := by omega
      subst ia
      rw [olb] at z
      simp at z
      exact ⟨b, z.1.symm, hb, bo⟩
    · rw [q] at o ⊢; exact C4c.one o.one (by decide)
    · rw [q] at o ⊢; exact C4c.one o.one (by decide)
    · rw [q] at o ⊢; exact C4c.one o.one (by decide)
    · exact lbc_all h d _ _ _ _ a (h.1.lt_b fw) q o
end
/-- where lines lead, by names -/
def FLW (s : Sto) : Prop := TOC s 0 0 ∧ (∀ k, k < nL s → kA s k = 11 → ∃ b : Nat, mA s k = (b : Int) ∧ b < nB s ∧ BLKP s b k) ∧ (∀ c j, LWj s 1 c j → TOC s c j) ∧ ∀ c j, EN s 2 c j → TOC s c (j + 1)
theorem LAID.flw {s : Sto} (h : LAID s) (hj : (s.1 36 0).toInt ≠ -1) : FLW s := by
  have W := h.lnw hj
  obtain ⟨h0, h1, h2, h3_, h4, h5, h6, h7, h8, h9, h10, h11⟩ := h
  rcases h11 with ⟨z, _⟩ | ⟨_, l, s1, s2, s3, t0, hl, q1, q2, q3, q4, q5, q6⟩
  · exact absurd z hj
  have T : THIN l s1 s2 s3 s := ⟨q1, q2, q3, q4, q5, q6⟩
  have X : LTX s l s1 s2 s3 := ⟨W, h8, h4, T, hl, 250, t0⟩
  refine ⟨X.to0, fun k hk hk11 => ?_, fun c j q => X.loopc q, fun c j q => X.mendc q⟩
  obtain ⟨i, x, i1, i2, i3⟩ := T.sur hk
  have a := T.k i1 i2
  rw [i3] at a
  have e1 : x.1 = 11 := by rw [← a.1]; exact hk11
  have e2 : mA s k = x.2.1 := by rw [← a.1]; rfl
  obtain ⟨b, b1, b2, b3⟩ := lbc_all X 250 0 0 0 l 0 h10 t0 OC.self i (Nat.zero_le _) (by have := lt_len i1; omega) x.2.1 x.2.2 (by rw [i1, ← e1])
  rw [i3] at b3
  exact ⟨b, by rw [e2, b1], b2, b3⟩
