theorem EIF.cg {s t : Sto} (e58 : t.1 58 = s.1 58) (e59 : t.1 59 = s.1 59) (e61 : t.1 61 = s.1 61) (e62 : t.1 62 = s.1 62) (x j : Nat) : EIF t x j ↔ EIF s x j := by
  unfold EIF nL kA oA mA
  rw [e58, e59, e61, e62]
theorem IDR.cg {s t : Sto} (e58 : t.1 58 = s.1 58) (e59 : t.1 59 = s.1 59) (e61 : t.1 61 = s.1 61) (e62 : t.1 62 = s.1 62) (b : Int) : ∀ n k, IDR t b n k ↔ IDR s b n k
  | 0, _ => Iff.rfl
  | n + 1, k => by
    have ih := IDR.cg e58 e59 e61 e62 b n
    have ee := EIF.cg e58 e59 e61 e62
    show (k < nL t ∧ ((kA t k = 5 ∧ oA t k = 2 ∧ mA t k = b) ∨ (kA t k = 5 ∧ IDR t b n (k + 1)) ∨ (kA t k = 4 ∧ ∃ j, EIF t k j ∧ (∀ i, i < j → ¬ EIF t k i) ∧ IDR t b n (j + 1)))) ↔ (k < nL s ∧ ((kA s k = 5 ∧ oA s k = 2 ∧ mA s k = b) ∨ (kA s k = 5 ∧ IDR s b n (k + 1)) ∨ (kA s k = 4 ∧ ∃ j, EIF s k j ∧ (∀ i, i < j → ¬ EIF s k i) ∧ IDR s b n (j + 1))))
    unfold nL kA oA mA
    simp only [e58, e59, e61, e62, ih, ee]
def ATL (s : Sto) (l : List Ln) : Prop := nL s = l.length ∧ ∀ i x, l[i]? = some x → lnA s i = x
/-- a mark says: a break that is idle -/
def IDM (s : Sto) : Prop := ∀ i, i < nL s → (s.1 64 i).toInt ≠ 0 → kA s i = 6 ∧ ∃ n, IDR s (mA s i) n (i + 1)
def SAM (s t : Sto) : Prop := nL t = nL s ∧ ∀ i, lnA t i = lnA s i
/-- a mark says: an ELSE with nothing in it -/
def ELM (s : Sto) : Prop := ∀ i, i < nL s → ((s.1 64 i).toInt ≠ 0 ↔ (kA s i = 4 ∧ kA s (i + 1) = 5))
abbrev LYS : List Nat := [58, 59, 60, 61, 62, 63, 64]
def LNF (σ t : Sto) : Prop := ((σ.1 36 0).toInt = -1 ∧ nL t = 0) ∨ ((σ.1 36 0).toInt ≠ -1 ∧ ∃ l s1 s2 s3, TEL σ 250 0 0 0 l ∧ l.length ≤ 900 ∧ ATL s1 l ∧ IDM s1 ∧ THN s1 s2 ∧ SAM s2 s3 ∧ ELM s3 ∧ THN s3 t)
theorem s_laysLines {σ : Sto} (hB : BM σ) (h : (σ.1 36 0).toInt ≠ -1 → LNW σ) : OK (f_X12_laysLines σ) (fun t => BM t ∧ FR LYS [] σ t ∧ LNF σ t) := by
  have k_0 : (0 : Int32).toInt = 0 := by decide +kernel
  have k_1 : (1 : Int32).toInt = 1 := by decide +kernel
  have k_4 : (4 : Int32).toInt = 4 := by decide +kernel
  have k_5 : (5 : Int32).toInt = 5 := by decide +kernel
  have k_6 : (6 : Int32).toInt = 6 := by decide +kernel
  have k_m1 : ((-1) : Int32).toInt = -1 := by decide +kernel
  unfold f_X12_laysLines
  refine ok_lt fun s1 e1 => ?_
  refine ok_lt fun s2 e2 => ?_
  have b1 : BM s1 := by rw [e1]; exact pM_62 hB (by omega)
  have b2 : BM s2 := by rw [e2]; exact pM_63 b1 (by omega)
  have f2 : FR LNS [] σ s2 := by
    rw [e2]; refine FR.st ?_ (by decide)
    rw [e1]; exact FR.st FR.rf (by decide)
  have z2 : (s2.1 62 0).toInt = 0 := by
    rw [e2, sti_o (by decide), e1, sti_if, if_pos rfl]; exact k_0
  have n2 : nL s2 = 0 := by unfold nL; rw [z2]; rfl
  refine ok_ite (fun c1 => ?_) (fun c1 => ?_)
  · rw [fa_eq, k_m1, f2.1 36 (by decide)] at c1
    exact ok_ret ⟨b2, FR.cal FR.rf f2 rfl rfl, Or.inl ⟨c1, n2⟩⟩
  · rw [fa_eq, k_m1, f2.1 36 (by decide)] at c1
    have W := h c1
    refine ok_cals (s_tells0 W b2 f2 z2) (fun s4 q => ?_)
    obtain ⟨q1, q2, ⟨l, q3, q4⟩, q5⟩ := q
    have F4 : FR LYS [] σ s4 := FR.cal (FR.cal FR.rf f2 rfl rfl) q2 rfl rfl
    have hE : ELs s4 := q4.els n2 (TEL.els _ _ _ _ _ q3)
    have l4 : nL s4 = l.length := by rw [q4.1, n2, Nat.zero_add]
    have a4 : ∀ i x, l[i]? = some x → lnA s4 i = x := fun i x hx => by
      have := q4.2.2 i x hx
      rw [n2, Nat.zero_add] at this
      exact this
    have h4 := nL_le q1
    refine ok_itr2 (fun n x u => n = (1401 - x.toInt).toNat ∧ 0 ≤ x.toInt ∧ x.toInt ≤ (nL s4 : Int) ∧ BM u ∧ FR [64] [] s4 u ∧ ∀ i, i < x.toNatClampNeg → (u.1 64 i).toInt ≠ 0 → kA s4 i = 6 ∧ ∃ n, IDR s4 (mA s4 i) n (i + 1)) ?_ (n := (1401 - (0 : Int32).toInt).toNat) ⟨rfl, by omega, by omega, q1, FR.rf, fun i hi => by have := clamp_I (x := 0) (by omega); omega⟩ (by rw [k_0]; decide)
    intro ag n x u I ih
    obtain ⟨hn, x0, xn, u1, u2, u3⟩ := I
    have cx := clamp_I x0
    have e58 := u2.1 58 (by decide)
    have e59 := u2.1 59 (by decide)
    have e61 := u2.1 61 (by decide)
    have e62 := u2.1 62 (by decide)
    have nu : nL u = nL s4 := by unfold nL; rw [e62]
    have su : ∀ i, lnA u i = lnA s4 i := fun i => by unfold lnA; rw [e58, e59, e61]
    refine ok_ite (fun c2 => ?_) (fun c2 => ?_)
    · rw [fa_le, e62] at c2
      have xe : x.toNatClampNeg = nL s4 := by omega
      have A1 : ATL u l := ⟨by rw [nu, l4], fun i y hy => by rw [su]; exact a4 i y hy⟩
      have M1 : IDM u := fun i hi hm => by
        rw [nu] at hi
        obtain ⟨r1, m, r2⟩ := u3 i (by omega) hm
        refine ⟨by unfold kA at r1 ⊢; rw [e58]; exact r1, m, ?_⟩
        rw [IDR.cg e58 e59 e61 e62]
        have : mA u i = mA s4 i := by unfold mA; rw [e59]
        rw [this]; exact r2
      refine ok_cals (s_thins u1) (fun s7 r => ?_)
      obtain ⟨r1, r2, r3⟩ := r
      have F7 : FR LYS [] σ s7 := FR.cal (FR.cal F4 u2 rfl rfl) r2 rfl rfl
      have n7 : nL s7 ≤ 900 := by
        have a := r3.1
        have b := kpt_le u (nL u)
        omega
      have h7 := nL_le r1
      refine ok_itr2 (fun n x v => n = (1401 - x.toInt).toNat ∧ 0 ≤ x.toInt ∧ x.toInt ≤ (nL s7 : Int) ∧ BM v ∧ FR [64] [] s7 v ∧ ∀ i, i < x.toNatClampNeg → ((v.1 64 i).toInt ≠ 0 ↔ (kA s7 i = 4 ∧ kA s7 (i + 1) = 5))) ?_ (n := (1401 - (0 : Int32).toInt).toNat) ⟨rfl, by omega, by omega, r1, FR.rf, fun i hi => by have := clamp_I (x := 0) (by omega); omega⟩ (by rw [k_0]; decide)
      intro ag2 m y v I2 ih2
      obtain ⟨hm, y0, yn, v1, v2, v3⟩ := I2
      have cy := clamp_I y0
      have d58 := v2.1 58 (by decide)
      have d59 := v2.1 59 (by decide)
      have d61 := v2.1 61 (by decide)
      have d62 := v2.1 62 (by decide)
      have nv : nL v = nL s7 := by unfold nL; rw [d62]
      refine ok_ite (fun c3 => ?_) (fun c3 => ?_)
      · rw [fa_le, d62] at c3
        refine ok_cals (s_thins v1) (fun s10 t => ?_)
        obtain ⟨t1, t2, t3⟩ := t
        refine ok_ret ⟨t1, FR.cal (FR.cal F7 v2 rfl rfl) t2 rfl rfl, Or.inr ⟨c1, l, u, s7, v, q3, by omega, A1, M1, r3, ⟨nv, fun i => by unfold lnA; rw [d58, d59, d61]⟩, fun i hi => ?_, t3⟩⟩
        rw [nv] at hi
        unfold kA
        rw [d58]
        exact v3 i (by omega)
      · rw [fa_le, d62] at c3
        have iy : 0 ≤ y.toInt ∧ y.toInt < 1400 := by omega
        have ey : (y + 1).toInt = y.toInt + 1 := i1 (by omega)
        have ny : (y + 1).toNatClampNeg = y.toNatClampNeg + 1 := by have := clamp_I (x := y + 1) (by omega); omega
        refine ok_ix iy ?_
        refine ok_lt fun v11 e11 => ?_
        rw [d58] at e11
        refine ok_jnI1 (fun t => (t.toInt = 0 ∨ t.toInt = 1) ∧ (t.toInt ≠ 0 ↔ (kA s7 y.toNatClampNeg = 4 ∧ kA s7 (y.toNatClampNeg + 1) = 5))) (fun t ht => ?_) (fun k hk => ?_)
        · refine ok_bz (by rw [fa_eq, fa_eq, k_0, k_1]; exact ht.1) ?_
          refine ok_ix iy ?_
          refine ok_lt fun s13 e13 => ?_
          refine ok_lt fun x15 e15 => ?_
          subst e15
          refine ih2 (1401 - (y + 1).toInt).toNat (y + 1) s13 (by rw [hm, ey]; omega) ⟨rfl, by omega, by omega, by rw [e13]; exact pM_64 v1 (by omega), by rw [e13]; exact FR.st v2 (by decide), fun i hi => ?_⟩
          rw [e13, sti_if]
          by_cases z : i = y.toNatClampNeg
          · rw [if_pos z, z]; exact ht.2
          · rw [if_neg z]; exact v3 i (by omega)
        · refine ok_jnI0 (¬ (kA s7 y.toNatClampNeg = 4 ∧ kA s7 (y.toNatClampNeg + 1) = 5)) (fun hk0 => hk 0 ⟨Or.inl k_0, fun z => absurd k_0 z, fun z => absurd z hk0⟩) (fun k2 hk2 => ?_)
          refine ok_ite (fun c4 => ?_) (fun c4 => ?_)
          · rw [fa_eq, k_4, e11] at c4
            refine ok_ix (by omega) ?_
            rw [ny, d58]
            refine ok_lt fun v18 e18 => ?_
            refine ok_ite (fun c5 => ?_) (fun c5 => ?_)
            · rw [fa_eq, k_5, e18] at c5
              exact hk 1 ⟨Or.inr k_1, fun _ => ⟨c4, c5⟩, fun _ => by rw [k_1]; decide⟩
            · rw [fa_eq, k_5, e18] at c5
              exact hk2 (fun z => c5 z.2)
          · rw [fa_eq, k_4, e11] at c4
            exact hk2 (fun z => c4 z.1)
    · rw [fa_le, e62] at c2
      have xl : x.toNatClampNeg < nL s4 := by omega
      have ix_ : 0 ≤ x.toInt ∧ x.toInt < 1400 := by omega
      have ex : (x + 1).toInt = x.toInt + 1 := i1 (by omega)
      have nx : (x + 1).toNatClampNeg = x.toNatClampNeg + 1 := by have := clamp_I (x := x + 1) (by omega); omega
      have hEu : ELs u := fun i hi hk => by
        rw [nu] at hi
        unfold kA at hk
        rw [e58] at hk
        obtain ⟨j, hj⟩ := hE i hi hk
        exact ⟨j, (EIF.cg e58 e59 e61 e62 i j).mpr hj⟩
      refine ok_ix ix_ ?_
      refine ok_lt fun v20 e20 => ?_
      rw [e58] at e20
      refine ok_jnI1 (fun t => t.toInt = 0 ∨ (t.toInt = 1 ∧ kA s4 x.toNatClampNeg = 6 ∧ ∃ n, IDR s4 (mA s4 x.toNatClampNeg) n (x.toNatClampNeg + 1))) (fun t ht => ?_) (fun k hk => ?_)
      · have t01 : t.toInt = 0 ∨ t.toInt = 1 := ht.imp_right (fun z => z.1)
        refine ok_bz (by rw [fa_eq, fa_eq, k_0, k_1]; exact t01) ?_
        refine ok_ix ix_ ?_
        refine ok_lt fun s22 e22 => ?_
        refine ok_lt fun x24 e24 => ?_
        subst e24
        refine ih (1401 - (x + 1).toInt).toNat (x + 1) s22 (by rw [hn, ex]; omega) ⟨rfl, by omega, by omega, by rw [e22]; exact pM_64 u1 (by omega), by rw [e22]; exact FR.st u2 (by decide), fun i hi hm => ?_⟩
        rw [e22, sti_if] at hm
        by_cases z : i = x.toNatClampNeg
        · rw [if_pos z] at hm
          rw [z]
          rcases ht with r | r
          · exact absurd r hm
          · exact r.2
        · rw [if_neg z] at hm; exact u3 i (by omega) hm
      · refine ok_jnI0 True (fun _ => hk 0 (Or.inl k_0)) (fun k2 hk2 => ?_)
        refine ok_ite (fun c4 => ?_) (fun _ => hk2 trivial)
        rw [fa_eq, k_6, e20] at c4
        refine ok_calp (s_isIdle u1 hEu x0 (by rw [nu]; exact xl)) (fun v27 r => ?_)
        refine ok_ite (fun _ => hk2 trivial) (fun c5 => ?_)
        rw [fa_eq, k_0] at c5
        rcases r with r | ⟨_, m, r⟩
        · exact absurd r c5
        · refine hk 1 (Or.inr ⟨k_1, c4, m, ?_⟩)
          rw [IDR.cg e58 e59 e61 e62] at r
          unfold mA at r ⊢
          rw [e59] at r
          exact r
