/-- what a statement does with its value -/
def pEff (S : Int × Int × Option Term) (v : Int32) (R : RUS) : RUS := if S.1 = 0 then rSet S.2.1.toNat v R else if S.1 = 3 then rOut v R else R
def pRow (k : Int) (S : Int × Int × Option Term) (v : Int32) (r : Nat → Int32) : Nat → Int32 := if S.1 = k then upT r S.2.1.toNat v else r
theorem pRow_n {k : Int} {S : Int × Int × Option Term} {v : Int32} {r : Nat → Int32} (h : S.1 ≠ k) : pRow k S v r = r := if_neg h
theorem pRow_y {k : Int} {S : Int × Int × Option Term} {v : Int32} {r : Nat → Int32} (h : S.1 = k) : pRow k S v r = upT r S.2.1.toNat v := if_pos h
/-- what is thrown, in the class -/
def CTX (v : Int32) (R : RUS) (a x2 : Int32) (c : Sto) (r : Int32 × Sto) : Prop := RXX a R r.2 ∧ ((c.1 26 x2.toNatClampNeg = -1 ∧ r.1 = -1 ∧ r.2.1 86 0 = 1 ∧ r.2.1 85 0 = v ∧ FR [82, 84, 85, 86, 88] [] c r.2) ∨ (c.1 26 x2.toNatClampNeg ≠ -1 ∧ r.2.1 84 0 = 0 ∧ r.2.1 79 0 = v ∧ FR [79, 82, 84, 88] [] c r.2 ∧ f_X2_whereCaught x2 r.2 = some r.1))
theorem t_catchIn {a x2 v : Int32} {R : RUS} {c d : Sto} (hR : RXX a R d) (f : FR [82, 84, 88] [] c d) : PC (f_X5_catchIn x2 v d) (CTX v R a x2 c) := by
  unfold f_X5_catchIn
  refine pc_ix (fun _ => ?_)
  refine pc_lt fun v1 e1 => ?_
  rw [f.1 26 (by decide)] at e1
  refine pc_ite (fun z => ?_) (fun z => ?_)
  · unfold f_X5_throwOut
    refine pc_cals (Q := fun t => FR [85, 86] [] d t ∧ t.1 86 0 = 1 ∧ t.1 85 0 = v) ?_ (fun t w => pc_ret ⟨hR.fr w.1 rfl, Or.inl ⟨by rw [← e1]; exact z, rfl, w.2.1, w.2.2, FR.cal (FR.cal FR.rf f rfl rfl) w.1 rfl rfl⟩⟩)
    refine pc_lt fun s1 e1 => ?_
    refine pc_lt fun s2 e2 => ?_
    exact pc_ret ⟨by rw [e2, e1]; exact FR.st (FR.st FR.rf (by decide)) (by decide), by rw [e2, sti_o (by decide), e1, sti_s], by rw [e2, sti_s]⟩
  · refine pc_lt fun s4 e4 => ?_
    refine pc_ix (fun _ => ?_)
    refine pc_lt fun s5 e5 => ?_
    have f5 : FR [79, 84] [] d s5 := by rw [e5, e4]; exact FR.st (FR.st FR.rf (by decide)) (by decide)
    refine pc_calp pc_eq (fun v6 e6 => pc_ret ⟨hR.fr f5 rfl, Or.inr ⟨by rw [← e1]; exact z, ?_, ?_, FR.cal (FR.cal FR.rf f rfl rfl) f5 rfl rfl, e6⟩⟩)
    · (try dsimp only)
      rw [e5, sti_o (by decide), e4, sti_s]
    · (try dsimp only)
      rw [e5]
      show (sti s4 79 0 v).1 79 0 = v
      rw [sti_s]
/-- what a statement has done, in the class -/
def PFX (S : Int × Int × Option Term) (T X : Nat → Int32) (R : RUS) (a x2 x3 : Int32) (c : Sto) (r : Int32 × Sto) : Prop := (S.1 = 6 → r = (-1, c)) ∧ ∀ t, S.1 ≠ 6 → S.2.2 = some t → ((evT T X t R).2.2 = false ∧ S.1 ≠ 5 ∧ r.1 = x3 + 1 ∧ FR [78, 79, 80, 82, 84, 88, 89, 90, 92] [] c r.2 ∧ RXX a (pEff S (evT T X t R).1 (evT T X t R).2.1) r.2 ∧ (∀ i, r.2.1 79 i = pRow 1 S (evT T X t R).1 (c.1 79) i) ∧ (∀ i, r.2.1 80 i = pRow 2 S (evT T X t R).1 (c.1 80) i) ∧ r.2.1 84 0 = 0) ∨ ((evT T X t R).2.2 = true ∧ CTX 99 (evT T X t R).2.1 a x2 c r) ∨ ((evT T X t R).2.2 = false ∧ S.1 = 5 ∧ CTX (evT T X t R).1 (evT T X t R).2.1 a x2 c r)
theorem t_perform {n j : Nat} {tr : Nat → Term} {a x1 x2 x3 : Int32} {T X : Nat → Int32} {R : RUS} {c : Sto} {S : Int × Int × Option Term} (h : PLX c n tr) (hS : STX c n tr j S) (hj : x1.toNatClampNeg = j) (hR : RXX a R c) (h84 : c.1 84 0 = 0) (hN : ∀ t, S.2.2 = some t → NMT (c.1 79) (c.1 80) T X t) (hs : S.1 ≠ 6 → ∃ t, S.2.2 = some t) : PC (f_X5_perform x1 x2 x3 c) (PFX S T X R a x2 x3 c) := by
  have k_6 : (6 : Int32).toInt = 6 := by decide +kernel
  have k_5 : (5 : Int32).toInt = 5 := by decide +kernel
  have k_0 : (0 : Int32).toInt = 0 := by decide +kernel
  obtain ⟨s1, s2, s3⟩ := hS
  unfold f_X5_perform
  refine pc_ix (fun _ => ?_)
  rw [hj]
  refine pc_lt fun v1 e1 => ?_
  rw [← e1] at s1
  refine pc_ite (fun z => ?_) (fun z => ?_)
  · rw [fa_eq, k_6, s1] at z
    exact pc_ret ⟨fun _ => rfl, fun t w => absurd z w⟩
  rw [fa_eq, k_6, s1] at z
  obtain ⟨t, et⟩ := hs z
  rw [et] at s3
  have hn := hN t et
  have sz : tSz t ≤ 60 := by
    obtain ⟨e, w1, w2, w3, w4⟩ := s3.so
    have := (h.2.2.1 e w2).2.2.2.2
    rw [w3] at this
    exact this
  have yes : ∀ {r : Int32 × Sto}, (((evT T X t R).2.2 = false ∧ S.1 ≠ 5 ∧ r.1 = x3 + 1 ∧ FR [78, 79, 80, 82, 84, 88, 89, 90, 92] [] c r.2 ∧ RXX a (pEff S (evT T X t R).1 (evT T X t R).2.1) r.2 ∧ (∀ i, r.2.1 79 i = pRow 1 S (evT T X t R).1 (c.1 79) i) ∧ (∀ i, r.2.1 80 i = pRow 2 S (evT T X t R).1 (c.1 80) i) ∧ r.2.1 84 0 = 0) ∨ ((evT T X t R).2.2 = true ∧ CTX 99 (evT T X t R).2.1 a x2 c r) ∨ ((evT T X t R).2.2 = false ∧ S.1 = 5 ∧ CTX (evT T X t R).1 (evT T X t R).2.1 a x2 c r)) → PFX S T X R a x2 x3 c r := fun {r} w => ⟨fun y => absurd y z, fun u _ hu => by
    rw [et] at hu
    rw [← Option.some.inj hu]
    exact w⟩
  refine pc_ix (fun _ => ?_)
  refine pc_lt fun v3 e3 => ?_
  rw [← e3] at s3
  refine pc_calv (t_value (T := T) (X := X) 250 v3 0 c t R h s3 hR h84 hn (by omega) (by omega)) (fun v4 s4 u => ?_)
  obtain ⟨u1, u2, u3⟩ := u
  (try dsimp only at u1 u2 u3)
  generalize evT T X t R = E at *
  refine pc_jnI0 ((E.2.2 = true ∧ s4.1 84 0 = 1) ∨ (E.2.2 = false ∧ S.1 = 5 ∧ v4 = E.1 ∧ s4.1 84 0 = 0)) (fun w => ?_) (fun k49 h49 => ?_)
  · refine pc_ite (fun y => ?_) (fun y => ?_)
    · rcases w with w | ⟨w1, w2, w3, w4⟩
      · rw [w.2] at y
        exact absurd y (by decide)
      · refine pc_calv (t_catchIn (v := v4) u2 u1) (fun v7 s7 q => pc_ret (yes (Or.inr (Or.inr ⟨w1, w2, ?_⟩))))
        rw [w3] at q
        exact q
    · rcases w with w | w
      · exact pc_calv (t_catchIn (v := 99) u2 u1) (fun v8 s8 q => pc_ret (yes (Or.inr (Or.inl ⟨w.1, q⟩))))
      · exact absurd w.2.2.2 y
  · refine pc_ite (fun y => ?_) (fun y => ?_)
    rotate_left
    · rcases u3 with u3 | u3
      · exact absurd u3.2.2 y
      · exact h49 (Or.inl u3)
    have u4 : E.2.2 = false ∧ v4 = E.1 ∧ s4.1 84 0 = 0 := by
      rcases u3 with u3 | u3
      · exact u3
      · rw [u3.2] at y
        exact absurd y (by decide)
    obtain ⟨w1, w2, w3⟩ := u4
    refine pc_ite (fun z5 => ?_) (fun z5 => ?_)
    · rw [fa_eq, k_5, s1] at z5
      exact h49 (Or.inr ⟨w1, z5, w2, w3⟩)
    rw [fa_eq, k_5, s1] at z5
    refine pc_ix (fun _ => ?_)
    rw [u1.1 54 (by decide)]
    refine pc_lt fun v11 e11 => ?_
    rw [← e11] at s2
    have cw : v11.toNatClampNeg = S.2.1.toNat := by
      show v11.toInt.toNat = _
      rw [s2]
    refine pc_jnI1 (fun s => FR [78, 79, 80, 82, 84, 88, 89, 90, 92] [] c s ∧ RXX a (pEff S E.1 E.2.1) s ∧ (∀ i, s.1 79 i = pRow 1 S E.1 (c.1 79) i) ∧ (∀ i, s.1 80 i = pRow 2 S E.1 (c.1 80) i) ∧ s.1 84 0 = 0) (fun s hs => pc_ret (yes (Or.inl ⟨w1, z5, rfl, hs.1, hs.2.1, hs.2.2.1, hs.2.2.2.1, hs.2.2.2.2⟩))) (fun k157 h157 => ?_)
    have F4 : FR [78, 79, 80, 82, 84, 88, 89, 90, 92] [] c s4 := FR.cal FR.rf u1 rfl rfl
    have r79 : s4.1 79 = c.1 79 := u1.1 79 (by decide)
    have r80 : s4.1 80 = c.1 80 := u1.1 80 (by decide)
    refine pc_ite (fun k0 => ?_) (fun k0 => ?_)
    · rw [s1] at k0
      refine pc_ix (fun _ => ?_)
      refine pc_lt fun s14 e14 => ?_
      have f14 : FR [78] [] s4 s14 := by rw [e14]; exact FR.st FR.rf (by decide)
      refine h157 s14 ⟨FR.cal F4 f14 rfl rfl, ?_, fun i => ?_, fun i => ?_, by rw [f14.1 84 (by decide)]; exact w3⟩
      · unfold pEff
        rw [if_pos k0, ← cw, ← w2]
        exact u2.set e14
      · rw [f14.1 79 (by decide), r79, pRow_n (by omega)]
      · rw [f14.1 80 (by decide), r80, pRow_n (by omega)]
    rw [s1] at k0
    refine pc_ite (fun k1 => ?_) (fun k1 => ?_)
    · rw [s1] at k1
      refine pc_ix (fun _ => ?_)
      refine pc_lt fun s15 e15 => ?_
      have f15 : FR [79] [] s4 s15 := by rw [e15]; exact FR.st FR.rf (by decide)
      refine h157 s15 ⟨FR.cal F4 f15 rfl rfl, ?_, fun i => ?_, fun i => ?_, by rw [f15.1 84 (by decide)]; exact w3⟩
      · unfold pEff
        rw [if_neg k0, if_neg (by omega)]
        exact u2.fr f15 rfl
      · rw [e15, sti_if, r79, pRow_y k1, cw, w2]
        rfl
      · rw [f15.1 80 (by decide), r80, pRow_n (by omega)]
    rw [s1] at k1
    refine pc_ite (fun k2 => ?_) (fun k2 => ?_)
    · rw [s1] at k2
      refine pc_ix (fun _ => ?_)
      refine pc_lt fun s16 e16 => ?_
      have f16 : FR [80] [] s4 s16 := by rw [e16]; exact FR.st FR.rf (by decide)
      refine h157 s16 ⟨FR.cal F4 f16 rfl rfl, ?_, fun i => ?_, fun i => ?_, by rw [f16.1 84 (by decide)]; exact w3⟩
      · unfold pEff
        rw [if_neg k0, if_neg (by omega)]
        exact u2.fr f16 rfl
      · rw [f16.1 79 (by decide), r79, pRow_n (by omega)]
      · rw [e16, sti_if, r80, pRow_y k2, cw, w2]
        rfl
    rw [s1] at k2
    refine pc_ite (fun k3 => ?_) (fun k3 => ?_)
    · rw [s1] at k3
      refine pc_cals (t_tellOut (v := v4) u2) (fun s17 q => h157 s17 ⟨FR.cal F4 q.1 rfl rfl, ?_, fun i => ?_, fun i => ?_, by rw [q.1.1 84 (by decide)]; exact w3⟩)
      · unfold pEff
        rw [if_neg k0, if_pos k3, ← w2]
        exact q.2
      · rw [q.1.1 79 (by decide), r79, pRow_n (by omega)]
      · rw [q.1.1 80 (by decide), r80, pRow_n (by omega)]
    · rw [s1] at k3
      refine h157 s4 ⟨F4, ?_, fun i => ?_, fun i => ?_, w3⟩
      · unfold pEff
        rw [if_neg k0, if_neg k3]
        exact u2
      · rw [r79, pRow_n k1]
      · rw [r80, pRow_n k2]
/-- what is thrown, in the reference -/
def CTM (v : Int32) (R : RUS) (b : Int32) (m : Sto) (r : Int32 × Sto) : Prop := RMM R r.2 ∧ ((m.1 25 b.toNatClampNeg = -1 ∧ r.2.1 74 0 = 1 ∧ r.2.1 75 0 = v ∧ FR [72, 74, 75, 76, 78, 79] [] m r.2) ∨ (m.1 25 b.toNatClampNeg ≠ -1 ∧ r.2.1 78 0 = 0 ∧ r.2.1 82 0 = v ∧ FR [72, 76, 78, 79, 82] [] m r.2 ∧ f_X12_wayTo b (m.1 25 b.toNatClampNeg) r.2 = some r.1))
theorem m_caughtLine {b y v : Int32} {R : RUS} {m d : Sto} (hR : RMM R d) (f : FR [72, 76, 78, 79] [] m d) (hv : d.1 79 0 = v) : PC (f_X12_caughtLine b y d) (CTM v R b m) := by
  unfold f_X12_caughtLine
  refine pc_lt fun s1 e1 => ?_
  have f1 : FR [78] [] d s1 := by rw [e1]; exact FR.st FR.rf (by decide)
  have F1 : FR [72, 76, 78, 79] [] m s1 := FR.cal f f1 rfl rfl
  refine pc_ix (fun _ => ?_)
  refine pc_lt fun v2 e2 => ?_
  rw [F1.1 25 (by decide)] at e2
  refine pc_ite (fun z => ?_) (fun z => ?_)
  · refine pc_lt fun s4 e4 => ?_
    refine pc_lt fun s5 e5 => ?_
    have f5 : FR [74, 75] [] s1 s5 := by rw [e5, e4]; exact FR.st (FR.st FR.rf (by decide)) (by decide)
    refine pc_ret ⟨(hR.fr f1 rfl).fr f5 rfl, Or.inl ⟨by rw [← e2]; exact z, by (try dsimp only); rw [e5, sti_o (by decide), e4, sti_s], ?_, FR.cal (FR.cal FR.rf F1 rfl rfl) f5 rfl rfl⟩⟩
    (try dsimp only)
    rw [e5, sti_s, e4, sti_o (by decide), f1.1 79 (by decide)]; exact hv
  · refine pc_ix (fun _ => ?_)
    refine pc_lt fun s6 e6 => ?_
    have f6 : FR [82] [] s1 s6 := by rw [e6]; exact FR.st FR.rf (by decide)
    have F6 : FR [72, 76, 78, 79, 82] [] m s6 := FR.cal (FR.cal FR.rf F1 rfl rfl) f6 rfl rfl
    refine pc_ix (fun _ => ?_)
    refine pc_lt fun v7 e7 => ?_
    rw [F6.1 25 (by decide)] at e7
    refine pc_calp pc_eq (fun v8 e8 => pc_ret ⟨(hR.fr f1 rfl).fr f6 rfl, Or.inr ⟨by rw [← e2]; exact z, ?_, ?_, F6, ?_⟩⟩)
    · (try dsimp only)
      rw [f6.1 78 (by decide), e1, sti_s]
    · (try dsimp only)
      rw [e6]
      show (sti s1 82 0 (s1.1 79 0)).1 82 0 = v
      rw [sti_s, f1.1 79 (by decide)]; exact hv
    · rw [← e7]; exact e8
/-- what a statement has done, in the reference -/
def PFM (S : Int × Int × Option Term) (T X : Nat → Int32) (R : RUS) (y : Int32) (m : Sto) (r : Int32 × Sto) : Prop := (S.1 = 6 → r = (y, sti m 74 0 0)) ∧ ∀ t, S.1 ≠ 6 → S.2.2 = some t → ((evT T X t R).2.2 = false ∧ S.1 ≠ 5 ∧ r.1 = y + 1 ∧ FR [69, 70, 71, 72, 76, 78, 79, 82, 83] [] m r.2 ∧ RMM (pEff S (evT T X t R).1 (evT T X t R).2.1) r.2 ∧ (∀ i, r.2.1 82 i = pRow 1 S (evT T X t R).1 (m.1 82) i) ∧ (∀ i, r.2.1 83 i = pRow 2 S (evT T X t R).1 (m.1 83) i) ∧ r.2.1 78 0 = 0) ∨ ((evT T X t R).2.2 = true ∧ CTM 99 (evT T X t R).2.1 (m.1 59 y.toNatClampNeg) m r) ∨ ((evT T X t R).2.2 = false ∧ S.1 = 5 ∧ CTM (evT T X t R).1 (evT T X t R).2.1 (m.1 59 y.toNatClampNeg) m r)
theorem m_perform {n j : Nat} {tr : Nat → Term} {x y : Int32} {T X : Nat → Int32} {R : RUS} {m : Sto} {S : Int × Int × Option Term} (h : PLM m n tr) (hS : STM m n tr j S) (hj : x.toNatClampNeg = j) (hR : RMM R m) (h78 : m.1 78 0 = 0) (hN : ∀ t, S.2.2 = some t → NMT (m.1 82) (m.1 83) T X t) (hs : S.1 ≠ 6 → ∃ t, S.2.2 = some t) : PC (f_X12_states_ x y m) (PFM S T X R y m) := by
  have k_6 : (6 : Int32).toInt = 6 := by decide +kernel
  obtain ⟨s1, s2, s3⟩ := hS
  unfold f_X12_states_
  refine pc_ix (fun _ => ?_)
  rw [hj]
  refine pc_lt fun v1 e1 => ?_
  rw [← e1] at s3
  refine pc_ix (fun _ => ?_)
  refine pc_lt fun v2 e2 => ?_
  rw [← e2] at s1
  refine pc_ite (fun z => ?_) (fun z => ?_)
  · rw [fa_eq, k_6, s1] at z
    refine pc_lt fun s4 e4 => pc_ret ⟨fun _ => by rw [e4], fun t w => absurd z w⟩
  rw [fa_eq, k_6, s1] at z
  obtain ⟨t, et⟩ := hs z
  rw [et] at s3
  have hn := hN t et
  have yes : ∀ {r : Int32 × Sto}, (((evT T X t R).2.2 = false ∧ S.1 ≠ 5 ∧ r.1 = y + 1 ∧ FR [69, 70, 71, 72, 76, 78, 79, 82, 83] [] m r.2 ∧ RMM (pEff S (evT T X t R).1 (evT T X t R).2.1) r.2 ∧ (∀ i, r.2.1 82 i = pRow 1 S (evT T X t R).1 (m.1 82) i) ∧ (∀ i, r.2.1 83 i = pRow 2 S (evT T X t R).1 (m.1 83) i) ∧ r.2.1 78 0 = 0) ∨ ((evT T X t R).2.2 = true ∧ CTM 99 (evT T X t R).2.1 (m.1 59 y.toNatClampNeg) m r) ∨ ((evT T X t R).2.2 = false ∧ S.1 = 5 ∧ CTM (evT T X t R).1 (evT T X t R).2.1 (m.1 59 y.toNatClampNeg) m r)) → PFM S T X R y m r := fun {r} w => ⟨fun q => absurd q z, fun u _ hu => by
    rw [et] at hu
    rw [← Option.some.inj hu]
    exact w⟩
  refine pc_calv (m_value (T := T) (X := X) 250 v1 m t R h s3 hR h78 hn) (fun v5 s5 u => ?_)
  obtain ⟨u1, u2, u3⟩ := u
  (try dsimp only at u1 u2 u3)
  generalize evT T X t R = E at *
  -- what is done behind it: it goes on, or is caught
  refine pc_jnI1 (fun s => (E.2.2 = false ∧ S.1 ≠ 5 ∧ FR [69, 70, 71, 72, 76, 78, 79, 82, 83] [] m s ∧ RMM (pEff S E.1 E.2.1) s ∧ (∀ i, s.1 82 i = pRow 1 S E.1 (m.1 82) i) ∧ (∀ i, s.1 83 i = pRow 2 S E.1 (m.1 83) i) ∧ s.1 78 0 = 0) ∨ (E.2.2 = true ∧ FR [72, 76, 78, 79] [] m s ∧ RMM E.2.1 s ∧ s.1 78 0 = 1 ∧ s.1 79 0 = 99) ∨ (E.2.2 = false ∧ S.1 = 5 ∧ FR [72, 76, 78, 79] [] m s ∧ RMM E.2.1 s ∧ s.1 78 0 = 1 ∧ s.1 79 0 = E.1)) (fun s hs => ?_) (fun k46 h46 => ?_)
  · refine pc_ite (fun q => ?_) (fun q => ?_)
    · rcases hs with ⟨w1, w2, w3, w4, w5, w6, w7⟩ | ⟨_, _, _, w, _⟩ | ⟨_, _, _, _, w, _⟩
      · exact pc_ret (yes (Or.inl ⟨w1, w2, rfl, w3, w4, w5, w6, w7⟩))
      · rw [w] at q
        exact absurd q (by decide)
      · rw [w] at q
        exact absurd q (by decide)
    · refine pc_ix (fun _ => ?_)
      refine pc_lt fun v8 e8 => ?_
      rcases hs with ⟨_, _, _, _, _, _, w⟩ | ⟨w1, w2, w3, w4, w5⟩ | ⟨w1, w2, w3, w4, w5, w6⟩
      · exact absurd w q
      · rw [w2.1 59 (by decide)] at e8
        refine pc_calv (m_caughtLine (b := v8) (y := y) w3 w2 w5) (fun v9 s9 o => pc_ret (yes (Or.inr (Or.inl ⟨w1, ?_⟩))))
        rw [← e8]
        exact o
      · rw [w3.1 59 (by decide)] at e8
        refine pc_calv (m_caughtLine (b := v8) (y := y) w4 w3 w6) (fun v9 s9 o => pc_ret (yes (Or.inr (Or.inr ⟨w1, w2, ?_⟩))))
        rw [← e8]
        exact o
  · refine pc_ite (fun q => ?_) (fun q => ?_)
    rotate_left
    · rcases u3 with u3 | u3
      · exact absurd u3.2.2 q
      · exact h46 s5 (Or.inr (Or.inl ⟨u3.1, u1, u2, u3.2.1, u3.2.2⟩))
    have u4 : E.2.2 = false ∧ v5 = E.1 ∧ s5.1 78 0 = 0 := by
      rcases u3 with u3 | u3
      · exact u3
      · rw [u3.2.1] at q
        exact absurd q (by decide)
    obtain ⟨w1, w2, w3⟩ := u4
    have F5 : FR [69, 70, 71, 72, 76, 78, 79, 82, 83] [] m s5 := FR.cal FR.rf u1 rfl rfl
    have r82 : s5.1 82 = m.1 82 := u1.1 82 (by decide)
    have r83 : s5.1 83 = m.1 83 := u1.1 83 (by decide)
    unfold f_X12_puts
    refine pc_cals (Q := fun s => (E.2.2 = false ∧ S.1 ≠ 5 ∧ FR [69, 70, 71, 72, 76, 78, 79, 82, 83] [] m s ∧ RMM (pEff S E.1 E.2.1) s ∧ (∀ i, s.1 82 i = pRow 1 S E.1 (m.1 82) i) ∧ (∀ i, s.1 83 i = pRow 2 S E.1 (m.1 83) i) ∧ s.1 78 0 = 0) ∨ (E.2.2 = true ∧ FR [72, 76, 78, 79] [] m s ∧ RMM E.2.1 s ∧ s.1 78 0 = 1 ∧ s.1 79 0 = 99) ∨ (E.2.2 = false ∧ S.1 = 5 ∧ FR [72, 76, 78, 79] [] m s ∧ RMM E.2.1 s ∧ s.1 78 0 = 1 ∧ s.1 79 0 = E.1)) ?_ (fun s hs => h46 s hs)
    refine pc_ix (fun _ => ?_)
    rw [hj, u1.1 42 (by decide), u1.1 43 (by decide)]
    refine pc_lt fun p1 f1 => ?_
    have sp : p1.toInt = S.1 := by rw [f1, ← e2]; exact s1
    have st2 : ∀ {v : Int32}, v = m.1 43 j → v.toNatClampNeg = S.2.1.toNat := fun {v} e => by
      show v.toInt.toNat = _
      rw [e, s2]
    refine pc_ite (fun k0 => ?_) (fun k0 => ?_)
    · rw [sp] at k0
      refine pc_ix (fun _ => ?_)
      refine pc_lt fun p3 f3 => ?_
      have cw := st2 f3
      refine pc_ix (fun _ => ?_)
      refine pc_lt fun s14 e14 => ?_
      have f14 : FR [69] [] s5 s14 := by rw [e14]; exact FR.st FR.rf (by decide)
      refine pc_ret (Or.inl ⟨w1, by omega, FR.cal F5 f14 rfl rfl, ?_, fun i => ?_, fun i => ?_, by rw [f14.1 78 (by decide)]; exact w3⟩)
      · unfold pEff
        rw [if_pos k0, ← cw, ← w2]
        exact u2.set e14
      · rw [f14.1 82 (by decide), r82, pRow_n (by omega)]
      · rw [f14.1 83 (by decide), r83, pRow_n (by omega)]
    rw [sp] at k0
    refine pc_ite (fun k1 => ?_) (fun k1 => ?_)
    · rw [sp] at k1
      refine pc_ix (fun _ => ?_)
      refine pc_lt fun p3 f3 => ?_
      have cw := st2 f3
      refine pc_ix (fun _ => ?_)
      refine pc_lt fun s15 e15 => ?_
      have f15 : FR [82] [] s5 s15 := by rw [e15]; exact FR.st FR.rf (by decide)
      refine pc_ret (Or.inl ⟨w1, by omega, FR.cal F5 f15 rfl rfl, ?_, fun i => ?_, fun i => ?_, by rw [f15.1 78 (by decide)]; exact w3⟩)
      · unfold pEff
        rw [if_neg k0, if_neg (by omega)]
        exact u2.fr f15 rfl
      · rw [e15, sti_if, r82, pRow_y k1, cw, w2]
        rfl
      · rw [f15.1 83 (by decide), r83, pRow_n (by omega)]
    rw [sp] at k1
    refine pc_ite (fun k2 => ?_) (fun k2 => ?_)
    · rw [sp] at k2
      refine pc_ix (fun _ => ?_)
      refine pc_lt fun p3 f3 => ?_
      have cw := st2 f3
      refine pc_ix (fun _ => ?_)
      refine pc_lt fun s16 e16 => ?_
      have f16 : FR [83] [] s5 s16 := by rw [e16]; exact FR.st FR.rf (by decide)
      refine pc_ret (Or.inl ⟨w1, by omega, FR.cal F5 f16 rfl rfl, ?_, fun i => ?_, fun i => ?_, by rw [f16.1 78 (by decide)]; exact w3⟩)
      · unfold pEff
        rw [if_neg k0, if_neg (by omega)]
        exact u2.fr f16 rfl
      · rw [f16.1 82 (by decide), r82, pRow_n (by omega)]
      · rw [e16, sti_if, r83, pRow_y k2, cw, w2]
        rfl
    rw [sp] at k2
    refine pc_ite (fun k3 => ?_) (fun k3 => ?_)
    · rw [sp] at k3
      refine pc_cals (m_outputs (v := v5) u2) (fun s17 q => pc_ret (Or.inl ⟨w1, by omega, FR.cal F5 q.1 rfl rfl, ?_, fun i => ?_, fun i => ?_, by rw [q.1.1 78 (by decide)]; exact w3⟩))
      · unfold pEff
        rw [if_neg k0, if_pos k3, ← w2]
        exact q.2
      · rw [q.1.1 82 (by decide), r82, pRow_n (by omega)]
      · rw [q.1.1 83 (by decide), r83, pRow_n (by omega)]
    rw [sp] at k3
    refine pc_ite (fun k5 => ?_) (fun k5 => ?_)
    · rw [sp] at k5
      unfold f_X12_throwsIt
      refine pc_cals (Q := fun t => t.1 78 0 = 1 ∧ t.1 79 0 = v5 ∧ FR [78, 79] [] s5 t) ?_ (fun t o => pc_ret (Or.inr (Or.inr ⟨w1, k5, FR.cal u1 o.2.2 rfl rfl, u2.fr o.2.2 rfl, o.1, by rw [o.2.1]; exact w2⟩)))
      refine pc_lt fun s1 e1 => ?_
      refine pc_lt fun s2 e2 => ?_
      exact pc_ret ⟨by rw [e2, sti_o (by decide), e1, sti_s], by rw [e2, sti_s], by rw [e2, e1]; exact FR.st (FR.st FR.rf (by decide)) (by decide)⟩
    · rw [sp] at k5
      refine pc_ret (Or.inl ⟨w1, k5, F5, ?_, fun i => ?_, fun i => ?_, w3⟩)
      · unfold pEff
        rw [if_neg k0, if_neg k3]
        exact u2
      · rw [r82, pRow_n k1]
      · rw [r83, pRow_n k2]
