section
variable {l : List Ln} {s1 s2 s3 t : Sto}
/-- what is told of a block by its own, behind its name -/
theorem LTX.body (h : LTX t l s1 s2 s3) {d b a : Nat} {k : Int} {x : List Ln} (hb : b < nB t) (q : TEL t d 2 b k x) (o : OC l a x) : GO t 2000 40 (ph s1 s3 (a + 1)) := by
  have T := h.2.2.2.1
  have hl := h.2.2.2.2.1
  cases d with
  | zero => exact q.elim
  | succ d =>
    rcases q with ⟨z, _⟩ | ⟨z, _⟩ | ⟨_, tl, e, q⟩ | ⟨z, _⟩
    · exact absurd z (by decide)
    · exact absurd z (by decide)
    · rw [e] at o
      have olb := o.h
      have oty : OC l (a + 1) (tyL t b) := o.t.l
      have ost := o.t.r.l
      have oca := o.t.r.r.l
      have otl := o.t.r.r.r
      rw [stLs_len] at oca otl
      have klb := T.ke olb (by simp) (by simp)
      have flb := T.fu hl olb klb
      obtain ⟨st1, st2, st3, st4⟩ := h.1.2.2.2.2.2.2.2.1.2.2.2.1 b hb
      generalize hn : (sB t (b + 1) - sB t b).toNat = n at ost oca otl
      unfold sB at hn ost
      generalize ha1 : a + 1 + (tyL t b).length = a1 at ost oca otl
      have te : ¬ enI (sG t (laR t b)) → BDG s1 s3 t (a1 + n + (caL t b).length) := fun hne => by
        rcases q with ⟨fk, l1, l2, q1, q2, e2⟩ | ⟨_, _, q⟩ | ⟨_, _, _, q⟩ | ⟨_, g, _⟩
        · rw [e2] at otl
          exact h.fork hb fk q1 q2 otl
        · exact h.go q otl
        · exact h.go q otl
        · exact absurd (Classical.byContradiction fun z => g.2 ⟨g.1, fun w => z (Or.inl w), fun w => z (Or.inr w)⟩) hne
      have c2 : ¬ enI (sG t (laR t b)) → BDG s1 s3 t (a1 + n) := fun hne => by
        have := te hne
        by_cases z : (t.1 25 b).toInt = -1
        · have e : caL t b = [] := by unfold caL; rw [if_pos z]
          rw [e] at this
          exact this
        · have e : caL t b = [(10, (t.1 25 b).toInt, (b : Int))] := by unfold caL; rw [if_neg z]
          rw [e] at this oca
          exact BDG.st T hl oca.one (by simp) this
      generalize hS : (t.1 45 b).toInt.toNat = S
      have hSi : ((S : Nat) : Int) = (t.1 45 b).toInt := by omega
      have step : ∀ i, i < n → ((t.1 42 (S + i)).toInt ≠ 6 → (t.1 42 (S + i)).toInt ≠ 5 → ∃ p : Int, p + (if (t.1 42 (S + i)).toInt = 3 then 1 else 0) ≤ 40 - (oct t (S + i) : Int) ∧ GO t (2000 - ph s1 s3 (a1 + i + 1)) p (ph s1 s3 (a1 + i + 1))) → GO t (2000 - ph s1 s3 (a1 + i)) (40 - (oct t (S + i) : Int)) (ph s1 s3 (a1 + i)) := fun i hi nx => by
        have hx := ost i _ (stLs_at (b : Int) (t.1 45 b).toInt n i hi)
        have ke := T.ke hx (by simp) (by simp)
        have f := T.fu hl hx ke
        obtain ⟨b1, b2⟩ := T.k hx ke
        have m1 : mA t (ph s1 s3 (a1 + i)) = b := by rw [show mA t (ph s1 s3 (a1 + i)) = (lnA t (ph s1 s3 (a1 + i))).2.1 from rfl, b1]
        have k1 : kA t (ph s1 s3 (a1 + i)) = 0 := by rw [show kA t (ph s1 s3 (a1 + i)) = (lnA t (ph s1 s3 (a1 + i))).1 from rfl, b1]
        have o1 : oA t (ph s1 s3 (a1 + i)) = (t.1 45 b).toInt + i := by rw [show oA t (ph s1 s3 (a1 + i)) = (lnA t (ph s1 s3 (a1 + i))).2.2 from rfl, b1]
        have oc := oct_le h.1 (s := S + i) (by omega)
        rw [show 2000 - ph s1 s3 (a1 + i) = (1999 - ph s1 s3 (a1 + i)) + 1 by omega, GO.s]
        refine ⟨⟨by omega, T.lt hx ke⟩, Or.inr (Or.inl ⟨k1, S + i, b, by rw [o1]; omega, by omega, m1, hb, fun k6 => ⟨fun k5 => ?_, fun ht => h.way hb ht (by omega)⟩⟩)⟩
        obtain ⟨p, p1, p2⟩ := nx k6 k5
        refine ⟨p, p1, ?_⟩
        rw [← f.2.1]
        exact GO.mono (by omega) (Int.le_refl _) p2
      have sc : ∀ r i, i + (r + 1) = n → GO t (2000 - ph s1 s3 (a1 + i)) (40 - (oct t (S + i) : Int)) (ph s1 s3 (a1 + i)) := fun r => by
        induction r with
        | zero =>
          intro i hi
          refine step i (by omega) (fun k6 k5 => ?_)
          have ne : ¬ enI (sG t (laR t b)) := fun en => by
            obtain ⟨u1, u2⟩ := st4 en
            rw [show (t.1 45 (b + 1)).toInt.toNat - 1 = S + i by omega] at u2
            have g := gM_42 h.1.1 (S + i)
            omega
          have oc := oct_le h.1 (s := S + i + 1) (by omega)
          have os := oct_s t (S + i)
          refine ⟨0, ?_, ?_⟩
          · by_cases z : (t.1 42 (S + i)).toInt = 3
            · rw [if_pos z] at os ⊢; omega
            · rw [if_neg z] at os ⊢; omega
          · have := c2 ne
            unfold BDG at this
            rw [show a1 + i + 1 = a1 + n by omega]
            exact this
        | succ r ih =>
          intro i hi
          refine step i (by omega) (fun k6 k5 => ⟨40 - (oct t (S + (i + 1)) : Int), ?_, ih (i + 1) (by omega)⟩)
          have os := oct_s t (S + i)
          rw [show S + (i + 1) = S + i + 1 by omega]
          by_cases z : (t.1 42 (S + i)).toInt = 3
          · rw [if_pos z] at os ⊢; omega
          · rw [if_neg z] at os ⊢; omega
      have c1 : GO t (2000 - ph s1 s3 a1) 40 (ph s1 s3 a1) := by
        by_cases z : n = 0
        · have ne : ¬ enI (sG t (laR t b)) := fun en => by
            have := (st4 en).1
            omega
          have := c2 ne
          rw [z] at this
          exact GO.mono (Nat.le_refl _) (by decide) this
        · exact GO.mono (Nat.le_refl _) (by omega) (sc (n - 1) 0 (by omega))
      have m1 := THIN.mono (s1 := s1) (s3 := s3) (i := a + 1) (j := a1) (by omega)
      by_cases z : (t.1 25 b).toInt = -1
      · have e : tyL t b = [] := by unfold tyL; rw [if_pos z]
        rw [e] at ha1
        have : a1 = a + 1 := ha1.symm
        rw [this] at c1
        exact GO.mono (by omega) (Int.le_refl _) c1
      · have e : tyL t b = [(9, (b : Int), -1)] := by unfold tyL; rw [if_neg z]
        rw [e] at ha1 oty
        have : a1 = a + 1 + 1 := ha1.symm
        rw [this] at c1 m1
        exact T.st (n := 1999) oty.one (by simp) (GO.mono (by omega) (Int.le_refl _) c1) (by decide)
    · exact absurd z (by decide)
def C4 (l : List Ln) (s1 s3 t : Sto) (a n : Nat) : Prop := ∀ i, a ≤ i → i < a + n → ∀ c o, l[i]? = some (11, c, o) → GO t 2000 40 (ph s1 s3 (i + 1))
theorem C4.app {a n m : Nat} (h : C4 l s1 s3 t a n) (g : C4 l s1 s3 t (a + n) m) : C4 l s1 s3 t a (n + m) := fun i h1 h2 => by
  by_cases q : i < a + n
  · exact h i h1 q
  · exact g i (by omega) (by omega)
theorem C4.pl {a : Nat} {x : List Ln} (o : OC l a x) (h : ∀ y, y ∈ x → y.1 ≠ 11) : C4 l s1 s3 t a x.length := fun i h1 h2 c u z => by
  have hx : x[i - a]? = some x[i - a] := List.getElem?_eq_getElem (by omega)
  have hl := o _ _ hx
  rw [show a + (i - a) = i by omega] at hl
  have a1 := h _ (List.mem_of_getElem? hx)
  rw [hl] at z; injection z with z; rw [z] at a1; exact absurd rfl a1
theorem C4.one {a : Nat} {k b o : Int} (h : l[a]? = some (k, b, o)) (h1 : k ≠ 11) : C4 l s1 s3 t a 1 := fun i i1 i2 c u z => by
  have : i = a := by omega
  subst this
  rw [h] at z
  simp at z
  exact absurd z.1 h1
theorem lb_all (h : LTX t l s1 s2 s3) : ∀ (d w b : Nat) (k : Int) (x : List Ln) (a : Nat), b < nB t → TEL t d w b k x → OC l a x → C4 l s1 s3 t a x.length
  | 0, _, _, _, _, _, _, q, _ => q.elim
  | d + 1, w, b, k, x, a, hb, q, o => by
    rcases q with ⟨w0, ⟨_, q⟩ | ⟨_, l1, q, e⟩⟩ | ⟨w1, ⟨_, q⟩ | ⟨m, l1, l2, hm, _, _, q1, q2, e⟩⟩ | ⟨w2, tl, e, q⟩ | ⟨w3, e, _, _, _, ⟨_, q⟩ | ⟨_, _, q⟩ | ⟨_, _, q⟩ | ⟨fw, _, q⟩⟩
    · exact lb_all h d _ _ _ _ a hb q o
    · rw [e] at o ⊢
      rw [List.length_append, List.length_append]
      exact C4.app (n := 1) (C4.one o.h (by decide)) ((lb_all h d _ _ _ _ _ hb q o.t.l).app (C4.one o.t.r.one (by decide)))
    · exact lb_all h d _ _ _ _ a hb q o
    · rw [e] at o ⊢
      rw [List.length_append, List.length_append, List.length_append]
      exact C4.app (n := 1) (C4.one o.h (by decide)) ((lb_all h d _ _ _ _ _ hb q1 o.t.l).app (C4.app (n := 1) (C4.one o.t.r.h (by decide)) (lb_all h d _ _ _ _ _ hm.1.1 q2 o.t.r.t)))
    · have bo := h.body (d := d + 1) (k := k) hb (Or.inr (Or.inr (Or.inl ⟨rfl, tl, e, q⟩))) o
      rw [e] at o ⊢
      have ot := o.t.r.r.r
      have ht : C4 l s1 s3 t (a + 1 + (tyL t b).length + (stLs b (sB t b) (sB t (b + 1) - sB t b).toNat).length + (caL t b).length) tl.length := by
        rcases q with ⟨_, l1, l2, q1, q2, e2⟩ | ⟨_, _, q⟩ | ⟨_, _, _, q⟩ | ⟨_, _, q⟩
        · rw [e2] at ot ⊢
          rw [List.length_append, List.length_append, List.length_append, List.length_append]
          exact C4.app (n := 1) (C4.one ot.h (by decide)) ((lb_all h d _ _ _ _ _ hb q1 ot.t.l).app (C4.app (n := 1) (C4.one ot.t.r.h (by decide)) ((lb_all h d _ _ _ _ _ hb q2 ot.t.r.t.l).app (C4.one ot.t.r.t.r.one (by decide)))))
        · exact lb_all h d _ _ _ _ _ hb q ot
        · exact lb_all h d _ _ _ _ _ hb q ot
        · rw [q]; exact fun i i1 i2 => by simp only [List.length_nil] at i2; omega
      rw [List.length_append, List.length_append, List.length_append, List.length_append]
      refine C4.app (n := 1) (fun i i1 i2 c u _ => ?_) ((C4.pl o.t.l (fun y hy => by have := mem_ty hy; omega)).app ((C4.pl o.t.r.l (fun y hy => by have := mem_st hy; omega)).app ((C4.pl o.t.r.r.l (fun y hy => by have := mem_ca hy; omega)).app ht)))
      have : i = a := by omega
      rw [this]; exact bo
    · rw [q] at o ⊢; exact C4.one o.one (by decide)
    · rw [q] at o ⊢; exact C4.one o.one (by decide)
    · rw [q] at o ⊢; exact C4.one o.one (by decide)
    · exact lb_all h d _ _ _ _ a (h.1.lt_b fw) q o
end
/-- what is known of the lines when they are run, or told -/
def RUNL (s : Sto) : Prop := GO s 2000 0 0 ∧ (∀ k, k < nL s → kA s k = 11 → GO s 2000 40 (k + 1)) ∧ ∀ k, k < nL s → LOK s (lnA s k)
theorem LAID.lnw {s : Sto} (h : LAID s) (hj : (s.1 36 0).toInt ≠ -1) : LNW s := by
  obtain ⟨h0, h1, h2, h3, h4, h5, h6, h7, h8, h9, h10, h11⟩ := h
  obtain ⟨g1, g2, g3⟩ := h6 hj
  exact ⟨h0, h1, h2, h3, g1, g2, g3, h9, h10⟩
theorem LAID.runl {s : Sto} (h : LAID s) (hj : (s.1 36 0).toInt ≠ -1) : RUNL s := by
  have W := h.lnw hj
  obtain ⟨h0, h1, h2, h3, h4, h5, h6, h7, h8, h9, h10, h11⟩ := h
  rcases h11 with ⟨z, _⟩ | ⟨_, l, s1, s2, s3, t0, hl, q1, q2, q3, q4, q5, q6⟩
  · exact absurd z hj
  have T : THIN l s1 s2 s3 s := ⟨q1, q2, q3, q4, q5, q6⟩
  have X : LTX s l s1 s2 s3 := ⟨W, h8, h4, T, hl, 250, t0⟩
  refine ⟨?_, fun k hk hk11 => ?_, fun k hk => ?_⟩
  · have := X.hd0
    have p0 : ph s1 s3 0 = 0 := by have := THIN.le (s1 := s1) (s3 := s3) (i := 0); omega
    unfold HDG at this
    rw [p0] at this
    exact GO.mono (by omega) (Int.le_refl _) this
  · obtain ⟨i, x, i1, i2, i3⟩ := T.sur hk
    have a := T.k i1 i2
    rw [i3] at a
    have e1 : x.1 = 11 := by rw [← a.1]; exact hk11
    have := lb_all X 250 0 0 0 l 0 h10 t0 OC.self i (Nat.zero_le _) (by have := lt_len i1; omega) x.2.1 x.2.2 (by rw [i1, ← e1])
    rw [a.2] at this
    exact this
  · obtain ⟨i, x, i1, i2, i3⟩ := T.sur hk
    have a := (T.k i1 i2).1
    rw [i3] at a
    rw [a]
    exact TEL.ok W 250 0 0 0 l h10 t0 x (List.mem_of_getElem? i1)
