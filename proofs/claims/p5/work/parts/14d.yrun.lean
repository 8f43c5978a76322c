/-- all that is known of the lines of a text: it is laid (its own lines are l, told, marked, thinned) -/
def LTX (t : Sto) (l : List Ln) (s1 s2 s3 : Sto) : Prop := LNW t ∧ LPS t ∧ JXt t ∧ THIN l s1 s2 s3 t ∧ l.length ≤ 900 ∧ ∃ D, TEL t D 0 0 0 l
section
variable {l : List Ln} {s1 s2 s3 t : Sto}
theorem LTX.onc (h : LTX t l s1 s2 s3) : ONC l := by
  obtain ⟨D, q⟩ := h.2.2.2.2.2
  exact TEL.onc h.1 (by have := h.1.2.2.2.2.2.2.2.2; omega) q
theorem LTX.p1 (h : LTX t l s1 s2 s3) {i : Nat} {x : Ln} (hx : l[i]? = some x) : P1 l s1 s3 t i := by
  obtain ⟨D, q⟩ := h.2.2.2.2.2
  have := (hd_all h.2.2.2.1 h.2.2.2.2.1 D 0 0 0 l 0 q OC.self).2
  exact this i (Nat.zero_le _) (by have := lt_len hx; omega)
theorem LTX.hd0 (h : LTX t l s1 s2 s3) : HDG s1 s3 t 0 := by
  obtain ⟨D, q⟩ := h.2.2.2.2.2
  exact (hd_all h.2.2.2.1 h.2.2.2.2.1 D 0 0 0 l 0 q OC.self).1 (by decide)
theorem LTX.tld (h : LTX t l s1 s2 s3) {c : Nat} (hc : c < nB t) : TLD t l c := by
  obtain ⟨D, q⟩ := h.2.2.2.2.2
  exact TEL.tld h.1 q hc
theorem ky3 {c : Nat} {o : Int} : KY 3 c (3, (c : Int), o) = true := by unfold KY; simp
theorem ky4 {c : Nat} {o : Int} : KY 4 c (4, (c : Int), o) = true := by unfold KY; simp
theorem ky5 {c : Nat} : KY 5 c (5, (c : Int), 3) = true := by unfold KY; simp
/-- what an idle break falls through -/
theorem LTX.idr (h : LTX t l s1 s2 s3) {m : Int} : ∀ (n k : Nat), IDR s1 m n k → BDG s1 s3 t k
  | 0, _, q => q.elim
  | n + 1, k, q => by
    have T := h.2.2.2.1
    have hl := h.2.2.2.2.1
    obtain ⟨kl, q⟩ := q
    have kl2 : k < l.length := by rw [← T.1.1]; exact kl
    have hx : l[k]? = some l[k] := List.getElem?_eq_getElem kl2
    have ha := (T.a hx).2
    have a1 : kA s1 k = (l[k]).1 := by rw [← ha]; rfl
    have a2 : mA s1 k = (l[k]).2.1 := by rw [← ha]; rfl
    have a3 : oA s1 k = (l[k]).2.2 := by rw [← ha]; rfl
    rcases q with ⟨q1, q2, q3⟩ | ⟨q1, q2⟩ | ⟨q1, j, q2, _, q3⟩
    · rw [a1] at q1
      rw [a3] at q2
      have e : l[k] = (5, (l[k]).2.1, 2) := by rw [← q1, ← q2]
      exact BDG.st T hl hx (by omega) ((h.p1 hx).2.1 _ (by rw [hx, ← e])).bd
    · rw [a1] at q1
      exact BDG.st T hl hx (by omega) (h.idr n _ q2)
    · rw [a1] at q1
      have bd := h.idr n _ q3
      have e4 : l[k] = (4, (l[k]).2.1, (l[k]).2.2) := by rw [← q1]
      obtain ⟨c, e, y, c1, p1, p2, p3, p4, p5⟩ := (h.p1 hx).2.2 (l[k]).2.1 (l[k]).2.2 (by rw [hx, ← e4])
      -- the END is the one that was found
      have je : j = e := by
        have jl : j < l.length := by rw [← T.1.1]; exact q2.2.1
        have jx : l[j]? = some l[j] := List.getElem?_eq_getElem jl
        have jh := (T.a jx).2
        have j1 : (l[j]).1 = 5 := by rw [← jh]; exact q2.2.2.1
        have j2 : (l[j]).2.2 = 3 := by rw [← jh]; exact q2.2.2.2.1
        have j3 : (l[j]).2.1 = (l[k]).2.1 := by rw [← a2, ← jh]; exact q2.2.2.2.2
        exact h.onc 5 c j e l[j] (5, (l[k]).2.1, 3) jx p1 (by unfold KY; simp [j1, j2, j3, c1]) (by unfold KY; simp [c1])
      subst je
      by_cases k4 : KE s1 s3 k
      · obtain ⟨b1, b2⟩ := T.k hx k4
        have f := T.fu hl hx k4
        have en := T.en p1
        have m1 : mA t (ph s1 s3 k) = (l[k]).2.1 := by rw [← b1]; rfl
        have fj := T.fu hl p1 (T.ke p1 (by simp) (by simp))
        have mo := THIN.mono (s1 := s1) (s3 := s3) (i := k + 1) (j := j) (by omega)
        unfold BDG at bd ⊢
        rw [show 2000 - ph s1 s3 k = (1999 - ph s1 s3 k) + 1 by omega, GO.s]
        refine ⟨⟨by decide, T.lt hx k4⟩, Or.inr (Or.inr (Or.inr (Or.inl ⟨by rw [← q1, ← b1]; rfl, ⟨_, by rw [m1]; exact en⟩, fun i hi => ?_⟩)))⟩
        rw [m1] at hi
        obtain ⟨u, u1, u2, u3⟩ := T.enu hi
        have uj : u = j := h.onc 5 c u j _ _ u1 p1 (by unfold KY; simp [c1]) (by unfold KY; simp [c1])
        rw [← u3, uj, ← fj.2.1]
        exact GO.mono (by omega) (Int.le_refl _) bd
      · have m := T.el hx p3 q1 p4 k4
        have k1 : ¬ KE s1 s3 (k + 1) := fun z => m z.1
        have y6 := (T.m1 p3 m).1
        have e2 := p5 y6
        subst e2
        have bj := BDG.st T hl p1 (by omega) bd
        have w1 := THIN.n k4
        have w2 : ph s1 s3 (k + 2) = ph s1 s3 (k + 1) := THIN.n k1
        unfold BDG at bj ⊢
        rw [← w1, ← w2]
        exact bj
theorem GO.hd {i n : Nat} {o : Int} (g : HDG s1 s3 t i) (hn : 1000 ≤ n) (ho : 0 ≤ o) : GO t n o (ph s1 s3 i) := GO.mono (by omega) ho g
theorem GO.lb {n k : Nat} {o : Int} {c : Int} (hn : 1 ≤ n) (ho : 0 ≤ o) (h : LWj t 11 c k) : GO t n o k := by
  obtain ⟨n, rfl⟩ : ∃ m, n = m + 1 := ⟨n - 1, by omega⟩
  rw [GO.s]
  exact ⟨⟨ho, h.1⟩, Or.inl h.2.1⟩
theorem LTX.loop (h : LTX t l s1 s2 s3) {c : Nat} (hc : c < nB t) (hb : t.2 1 c ≠ 0) : ∃ j, LWj t 1 c j := by
  obtain ⟨_, _, _, _, _, q⟩ := tl_mk (h.tld hc)
  obtain ⟨j, hj⟩ := q hb
  exact ⟨_, h.2.2.2.1.lw hj (h.2.2.2.1.ke hj (by simp) (by simp))⟩
theorem LTX.loopq (h : LTX t l s1 s2 s3) {c : Int} {j n : Nat} {o : Int} (q : LWj t 1 c j) (hn : 1000 ≤ n) (ho : 0 ≤ o) : GO t n o j := by
  obtain ⟨i, u, i1, i2, i3⟩ := h.2.2.2.1.lwu q
  rw [← i3]
  exact GO.hd ((h.p1 i1).1 _ _ i1) hn ho
theorem LTX.mend (h : LTX t l s1 s2 s3) {c : Nat} (hc : c < nB t) (c0 : c ≠ 0) (hm : MGp t c) : ∃ j, EN t 2 c j := by
  obtain ⟨d, a, x, _, _, q⟩ := h.tld hc
  exact ⟨_, h.2.2.2.1.en (q c0 hm).2⟩
theorem LTX.mendq (h : LTX t l s1 s2 s3) {c : Int} {j n : Nat} {o : Int} (q : EN t 2 c j) (hn : 1000 ≤ n) (ho : 0 ≤ o) : GO t n o (j + 1) := by
  obtain ⟨i, i1, i2, i3⟩ := h.2.2.2.1.enu q
  have a := (h.2.2.2.1.k i1 i2).2
  rw [← i3, ← a]
  exact GO.hd ((h.p1 i1).2.1 _ i1) hn ho
theorem eAf (h : BM t) (e : Nat) : (eA t e : Int) = eF t e := clamp_I (x := t.1 27 e) (gM_27 h e).1
theorem eBt (h : BM t) (e : Nat) : (eB t e : Int) = eT t e := clamp_I (x := t.1 28 e) (gM_28 h e).1
/-- where one goes from a block -/
theorem LTX.go (h : LTX t l s1 s2 s3) {d b a : Nat} {k : Int} {x : List Ln} (q : TEL t d 3 b k x) (o : OC l a x) : BDG s1 s3 t a := by
  have T := h.2.2.2.1
  have hl := h.2.2.2.2.1
  cases d with
  | zero => exact q.elim
  | succ d =>
    rcases q with ⟨z, _⟩ | ⟨z, _⟩ | ⟨z, _⟩ | ⟨_, e, e1, e2, e3, ⟨_, q⟩ | ⟨z1, z2, q⟩ | ⟨fw, mg, q⟩ | ⟨fw, _, q⟩⟩
    · exact absurd z (by decide)
    · exact absurd z (by decide)
    · exact absurd z (by decide)
    · rw [q] at o
      have hx := o.one
      have ke := T.ke hx (by simp) (by simp)
      have f := T.fu hl hx ke
      obtain ⟨b1, b2⟩ := T.k hx ke
      have m1 : mA t (ph s1 s3 a) = k := by rw [show mA t (ph s1 s3 a) = (lnA t (ph s1 s3 a)).2.1 from rfl, b1]
      have k1 : kA t (ph s1 s3 a) = 8 := by rw [show kA t (ph s1 s3 a) = (lnA t (ph s1 s3 a)).1 from rfl, b1]
      have eb := eBt h.1.1 e
      have el := (h.1.efi e e1).2
      unfold BDG
      rw [show 2000 - ph s1 s3 a = (1999 - ph s1 s3 a) + 1 by omega, GO.s]
      refine ⟨⟨by decide, T.lt hx ke⟩, Or.inr (Or.inr (Or.inr (Or.inr (Or.inr (Or.inr (Or.inl ⟨k1, ?_, fun j hj => GO.lb (by omega) (by decide) hj⟩))))))⟩
      obtain ⟨j, hj⟩ := tl_lb h.1 (h.tld el)
      rw [m1, ← e3, ← eb]
      exact ⟨_, T.lw hj (T.ke hj (by simp) (by simp))⟩
    · rw [q] at o
      have hx := o.one
      have ke := T.ke hx (by simp) (by simp)
      have f := T.fu hl hx ke
      obtain ⟨b1, b2⟩ := T.k hx ke
      have m1 : mA t (ph s1 s3 a) = k := by rw [show mA t (ph s1 s3 a) = (lnA t (ph s1 s3 a)).2.1 from rfl, b1]
      have k1 : kA t (ph s1 s3 a) = 7 := by rw [show kA t (ph s1 s3 a) = (lnA t (ph s1 s3 a)).1 from rfl, b1]
      have eb := eBt h.1.1 e
      have el := (h.1.efi e e1).2
      unfold BDG
      rw [show 2000 - ph s1 s3 a = (1999 - ph s1 s3 a) + 1 by omega, GO.s]
      refine ⟨⟨by decide, T.lt hx ke⟩, Or.inr (Or.inr (Or.inr (Or.inr (Or.inr (Or.inl ⟨k1, ?_, fun j hj => h.loopq hj (by omega) (by decide)⟩)))))⟩
      rw [m1, ← e3, ← eb]
      exact h.loop el (h.2.1 e e1 z2)
    · rw [q] at o
      have hx := o.one
      by_cases ke : KE s1 s3 a
      · have f := T.fu hl hx ke
        obtain ⟨b1, b2⟩ := T.k hx ke
        have m1 : mA t (ph s1 s3 a) = k := by rw [show mA t (ph s1 s3 a) = (lnA t (ph s1 s3 a)).2.1 from rfl, b1]
        have k1 : kA t (ph s1 s3 a) = 6 := by rw [show kA t (ph s1 s3 a) = (lnA t (ph s1 s3 a)).1 from rfl, b1]
        have eb := eBt h.1.1 e
        have el := (h.1.efi e e1).2
        unfold BDG
        rw [show 2000 - ph s1 s3 a = (1999 - ph s1 s3 a) + 1 by omega, GO.s]
        refine ⟨⟨by decide, T.lt hx ke⟩, Or.inr (Or.inr (Or.inr (Or.inr (Or.inl ⟨k1, ?_, fun j hj => h.mendq hj (by omega) (by decide)⟩))))⟩
        rw [m1, ← e3, ← eb]
        exact h.mend el (fw_n0 h.1 fw) mg
      · have m := T.k6 hx (by simp) ke
        obtain ⟨_, n, r⟩ := T.m1 hx m
        have bd := h.idr n _ r
        unfold BDG at bd ⊢
        rw [← THIN.n ke]
        exact bd
    · exact ((hd_all T hl d 0 _ _ x a q o).1 (by decide)).bd
/-- behind what is caught -/
theorem LTX.way (h : LTX t l s1 s2 s3) {b n : Nat} (hb : b < nB t) (ht : (t.1 25 b).toInt ≠ -1) (hn : 1000 ≤ n) : WY t (GO t n) b := by
  obtain ⟨e, e1, e2, e3, e4⟩ := h.1.2.2.2.1.2.2.2.1 b hb ht
  refine ⟨⟨e, e1, e2, e3⟩, fun g g1 g2 g3 => ?_⟩
  have ge : g = e := h.1.2.2.2.1.2.1 g e g1 e1 (by rw [g2, e2]) (by rw [g3, e3])
  subst ge
  have eb := eBt h.1.1 g
  have el := (h.1.efi g g1).2
  have kp : KP t g := ⟨g1, Classical.byContradiction fun z => e4 (h.2.2.1 g g1 z)⟩
  by_cases q : (t.1 31 g).toInt = 0
  · refine Or.inr ⟨q, ?_, fun j hj => h.mendq hj hn (by decide)⟩
    rw [← g3, ← eb]
    exact h.mend el (fw_n0 h.1 ⟨kp, q⟩) (Or.inl ⟨g, kp, rfl, e4⟩)
  · refine Or.inl ⟨q, ?_, fun j hj => h.loopq hj hn (by decide)⟩
    rw [← g3, ← eb]
    exact h.loop el (h.2.1 g g1 q)
/-- the outputs among the first statements -/
def oct (t : Sto) (s : Nat) : Nat := fb_ct (fun j => decide ((t.1 42 j).toInt = 3)) s
theorem oct_s (t : Sto) (s : Nat) : oct t (s + 1) = oct t s + if (t.1 42 s).toInt = 3 then 1 else 0 := by
  unfold oct
  rw [fb_ct_succ]
  by_cases q : (t.1 42 s).toInt = 3
  · rw [if_pos (decide_eq_true q), if_pos q]
  · rw [if_neg (by rw [decide_eq_true_eq]; exact q), if_neg q]
theorem oct_le (h : LNW t) {s : Nat} (hs : (s : Int) ≤ (t.1 47 0).toInt) : oct t s ≤ 40 := by
  have a := h.2.2.2.2.2.2.2.1.2.1
  have b : oct t s ≤ OCt t := fb_ct_mono _ (by omega)
  omega
/-- a choice -/
theorem LTX.fork (h : LTX t l s1 s2 s3) {d b a : Nat} {l1 l2 : List Ln} (hb : b < nB t) (fk : FORK t b) (q1 : TEL t d 3 b (fallT t b) l1) (q2 : TEL t d 3 b (jmpT t b) l2) (o : OC l a ([(3, (b : Int), -1)] ++ (l1 ++ ([(4, (b : Int), -1)] ++ (l2 ++ [(5, (b : Int), 3)]))))) : BDG s1 s3 t a := by
  have T := h.2.2.2.1
  have hl := h.2.2.2.2.1
  have hx := o.h
  have o1 := o.t.l
  have hp := o.t.r.h
  have o2 := o.t.r.t.l
  have he := o.t.r.t.r.one
  generalize hpe : a + 1 + l1.length = p at hp o2 he
  have g1 := h.go q1 o1
  have g2 := h.go q2 o2
  have ke := T.ke hx (by simp) (by simp)
  have f := T.fu hl hx ke
  obtain ⟨b1, b2⟩ := T.k hx ke
  have m1 : mA t (ph s1 s3 a) = b := by rw [show mA t (ph s1 s3 a) = (lnA t (ph s1 s3 a)).2.1 from rfl, b1]
  have k1 : kA t (ph s1 s3 a) = 3 := by rw [show kA t (ph s1 s3 a) = (lnA t (ph s1 s3 a)).1 from rfl, b1]
  have fe := T.fu hl he (T.ke he (by simp) (by simp))
  have co : (t.1 46 b).toInt ≠ -1 := h.1.2.2.2.2.2.2.2.1.2.2.2.2.2 b hb fk
  have lp := THIN.mono (s1 := s1) (s3 := s3) (i := a + 1) (j := p) (by omega)
  have le := THIN.mono (s1 := s1) (s3 := s3) (i := p) (j := p + 1 + l2.length) (by omega)
  have uif : ∀ q, LWj t 3 b q → q = ph s1 s3 a := fun q hq => by
    obtain ⟨i, u, i1, i2, i3⟩ := T.lwu hq
    rw [← i3, h.onc 3 b i a _ _ i1 hx ky3 ky3]
  have uel : ∀ q, LWj t 4 b q → KE s1 s3 p ∧ q = ph s1 s3 p := fun q hq => by
    obtain ⟨i, u, i1, i2, i3⟩ := T.lwu hq
    have := h.onc 4 b i p _ _ i1 hp ky4 ky4
    subst this
    exact ⟨i2, i3.symm⟩
  have uen : ∀ q, EN t 3 b q → q = ph s1 s3 (p + 1 + l2.length) := fun q hq => by
    obtain ⟨i, i1, i2, i3⟩ := T.enu hq
    rw [← i3, h.onc 5 b i _ _ _ i1 he ky5 ky5]
  have q0 : GO t (1999 - ph s1 s3 a) 0 (ph s1 s3 a + 1) := by
    rw [← f.2.1]
    exact GO.mono (by omega) (Int.le_refl _) g1
  unfold BDG
  rw [show 2000 - ph s1 s3 a = (1999 - ph s1 s3 a) + 1 by omega, GO.s]
  refine ⟨⟨by decide, T.lt hx ke⟩, Or.inr (Or.inr (Or.inl ⟨k1, b, m1, hb, co, q0, ⟨_, T.lw hx ke⟩, ?_⟩))⟩
  by_cases kp : KE s1 s3 p
  · have fp := T.fu hl hp kp
    refine ⟨ph s1 s3 p, fun q hq => ⟨by rw [uif q hq]; omega, fun i i1 i2 i3 => ?_⟩, Or.inl (T.lw hp kp), ?_⟩
    · rcases i3 with i3 | i3
      · have := (uel i i3).2; omega
      · have := uen i i3; omega
    · rw [← fp.2.1]
      exact GO.mono (by omega) (Int.le_refl _) g2
  · obtain ⟨y, z, f1, f2, f3⟩ := TEL.f3 q2
    have oy := (o2.to f1).h
    have m := T.el hp oy rfl f2 kp
    have kp1 : ¬ KE s1 s3 (p + 1) := fun z => m z.1
    obtain ⟨y6, n, r⟩ := T.m1 oy m
    have l2n : l2.length = 1 := by rw [f1, f3 y6]; rfl
    rw [l2n] at he fe le uen
    have w1 := THIN.n kp
    have w2 := THIN.n kp1
    refine ⟨ph s1 s3 (p + 1 + 1), fun q hq => ⟨by rw [uif q hq]; omega, fun i i1 i2 i3 => ?_⟩, Or.inr (T.en he), ?_⟩
    · rcases i3 with i3 | i3
      · exact kp (uel i i3).1
      · have := uen i i3; omega
    · rw [← fe.2.1]
      cases n with
      | zero => exact r.elim
      | succ n =>
        obtain ⟨_, r⟩ := r
        have ha := (T.a he).2
        have a1 : kA s1 (p + 1 + 1) = 5 := by rw [show kA s1 (p + 1 + 1) = (lnA s1 (p + 1 + 1)).1 from rfl, ha]
        have a3 : oA s1 (p + 1 + 1) = 3 := by rw [show oA s1 (p + 1 + 1) = (lnA s1 (p + 1 + 1)).2.2 from rfl, ha]
        rcases r with ⟨_, r, _⟩ | ⟨_, r⟩ | ⟨r, _⟩
        · omega
        · exact GO.mono (by omega) (Int.le_refl _) (h.idr n _ r)
        · omega
end
