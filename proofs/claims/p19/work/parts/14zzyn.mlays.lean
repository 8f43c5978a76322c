/-- which lines stay -/
noncomputable def kp1 (l : List Ln) (i : Nat) : Bool := @decide (¬ OU1 l i) (Classical.propDecidable _)
theorem kp1_t {l : List Ln} {i : Nat} : kp1 l i = true ↔ ¬ OU1 l i := @decide_eq_true_iff _ (Classical.propDecidable _)
noncomputable def kpl (l : List Ln) (i : Nat) : Bool := @decide (¬ OU1 l i ∧ ¬ OU2 l i) (Classical.propDecidable _)
theorem kpl_t {l : List Ln} {i : Nat} : kpl l i = true ↔ ¬ OU1 l i ∧ ¬ OU2 l i := @decide_eq_true_iff _ (Classical.propDecidable _)
theorem kp1_y {l : List Ln} {i : Nat} (h : ¬ OU1 l i) : fb_ct (kp1 l) (i + 1) = fb_ct (kp1 l) i + 1 := by
  rw [fb_ct_succ, if_pos (kp1_t.mpr h)]
theorem kp1_n {l : List Ln} {i : Nat} (h : OU1 l i) : fb_ct (kp1 l) (i + 1) = fb_ct (kp1 l) i := by
  rw [fb_ct_succ, if_neg (fun z => kp1_t.mp z h), Nat.add_zero]
theorem kpl_y {l : List Ln} {i : Nat} (h : ¬ OU1 l i ∧ ¬ OU2 l i) : fb_ct (kpl l) (i + 1) = fb_ct (kpl l) i + 1 := by
  rw [fb_ct_succ, if_pos (kpl_t.mpr h)]
theorem kpl_n {l : List Ln} {i : Nat} (h : ¬ (¬ OU1 l i ∧ ¬ OU2 l i)) : fb_ct (kpl l) (i + 1) = fb_ct (kpl l) i := by
  rw [fb_ct_succ, if_neg (fun z => h (kpl_t.mp z)), Nat.add_zero]
/-- the lines that stay, with their depths, one behind another -/
def RWM (l : List Ln) (s : Sto) : Prop := nL s = fb_ct (kpl l) l.length ∧ ∀ i x, l[i]? = some x → kpl l i = true → lnA s (fb_ct (kpl l) i) = x ∧ s.1 60 (fb_ct (kpl l) i) = dpD (kdL l) i
theorem thn_two {l : List Ln} {s1 s2 s3 t : Sto} (hS : STR l) (A : ATL s1 l) (D : ∀ i, i < l.length → s1.1 60 i = dpD (kdL l) i) (M1 : ∀ i, i < l.length → ((s1.1 64 i).toInt ≠ 0 ↔ OU1 l i)) (T1 : THN s1 s2) (D1 : ∀ i, i < nL s1 → (s1.1 64 i).toInt = 0 → s2.1 60 (kpt s1 i) = s1.1 60 i) (E1 : nL s3 = nL s2) (E2 : ∀ i, lnA s3 i = lnA s2 i) (E3 : s3.1 60 = s2.1 60) (M2 : ∀ j, j < nL s3 → ((s3.1 64 j).toInt ≠ 0 ↔ (kA s3 j = 4 ∧ kA s3 (j + 1) = 5))) (T2 : THN s3 t) (D2 : ∀ j, j < nL s3 → (s3.1 64 j).toInt = 0 → t.1 60 (kpt s3 j) = s3.1 60 j) : RWM l t := by
  have n1 := A.1
  have k1 : ∀ n, n ≤ l.length → kpt s1 n = fb_ct (kp1 l) n := fun n hn => by
    unfold kpt
    refine fb_ct_cong (fun i hi => ?_)
    have m := M1 i (by omega)
    cases h : kp1 l i with
    | true =>
      refine decide_eq_true (Classical.byContradiction fun z => kp1_t.mp h (m.mp z))
    | false =>
      refine decide_eq_false (fun z => ?_)
      have q : ¬ OU1 l i := fun w => m.mpr w z
      rw [kp1_t.mpr q] at h
      cases h
  have at1 : ∀ i, i < l.length → ¬ OU1 l i → (s1.1 64 i).toInt = 0 := fun i hi h => Classical.byContradiction fun z => h ((M1 i hi).mp z)
  have n3 : nL s3 = fb_ct (kp1 l) l.length := by rw [E1, T1.1, n1, k1 _ (Nat.le_refl _)]
  have il : ∀ {i : Nat} {x : Ln}, l[i]? = some x → i < l.length := fun hx => (List.getElem?_eq_some_iff.mp hx).1
  have r3 : ∀ i x, l[i]? = some x → ¬ OU1 l i → lnA s3 (fb_ct (kp1 l) i) = x ∧ fb_ct (kp1 l) i < nL s3 := fun i x hx h => by
    have hi := il hx
    refine ⟨?_, ?_⟩
    · rw [E2, ← k1 i (by omega), T1.2 i (by omega) (at1 i hi h)]
      exact A.2 i x hx
    · have a := kp1_y h
      have b := fb_ct_mono (kp1 l) (m := i + 1) (n := l.length) (by omega)
      omega
  have ka : ∀ i x, l[i]? = some x → ¬ OU1 l i → kA s3 (fb_ct (kp1 l) i) = x.1 := fun i x hx h => congrArg Prod.fst (r3 i x hx h).1
  have mk_ : ∀ i x, l[i]? = some x → ¬ OU1 l i → ((s3.1 64 (fb_ct (kp1 l) i)).toInt ≠ 0 ↔ OU2 l i) := fun i x hx h => by
    have c := kp1_y h
    have kx := ka i x hx h
    rw [M2 _ (r3 i x hx h).2, kx]
    constructor
    · rintro ⟨h4, h5⟩
      refine ⟨⟨x, hx, h4⟩, Classical.byContradiction fun w => ?_⟩
      obtain ⟨y, y1, y2, _⟩ := hS i x.2.1 x.2.2 (by rw [hx, ← h4])
      have ky := ka (i + 1) y y1 w
      rw [c] at ky
      exact y2 (ky.symm.trans h5)
    · rintro ⟨⟨x', hx', h4⟩, w⟩
      rw [hx] at hx'
      have e := Option.some.inj hx'
      subst e
      refine ⟨h4, ?_⟩
      obtain ⟨y, y1, y2, y3⟩ := hS i x.2.1 x.2.2 (by rw [hx, ← h4])
      obtain ⟨y', y1', y6, _⟩ := id w
      rw [y1] at y1'
      have e := Option.some.inj y1'
      subst e
      have z := y3 y6
      have nz : ¬ OU1 l (i + 2) := fun ⟨v, v1, v2, _⟩ => by
        rw [z] at v1
        have e := Option.some.inj v1
        rw [← e] at v2
        exact absurd (show (5 : Int) = 6 from v2) (by decide)
      have kz := ka (i + 2) _ z nz
      have c2 := kp1_n w
      rw [show i + 1 + 1 = i + 2 by omega] at c2
      rw [c2, c] at kz
      exact kz
  have k2 : ∀ i, i ≤ l.length → kpt s3 (fb_ct (kp1 l) i) = fb_ct (kpl l) i := fun i => by
    induction i with
    | zero => intro _; rfl
    | succ i ih =>
      intro hi
      have ih := ih (by omega)
      by_cases h : OU1 l i
      · rw [kp1_n h, kpl_n (fun z => z.1 h)]; exact ih
      · have hx : l[i]? = some l[i] := List.getElem?_eq_getElem (by omega)
        have m := mk_ i _ hx h
        by_cases g : OU2 l i
        · rw [kp1_y h, kpt_n (m.mpr g), kpl_n (fun z => z.2 g)]; exact ih
        · rw [kp1_y h, kpt_y (Classical.byContradiction fun z => g (m.mp z)), kpl_y ⟨h, g⟩, ih]
  refine ⟨?_, fun i x hx hk => ?_⟩
  · rw [T2.1, n3]
    exact k2 _ (Nat.le_refl _)
  · obtain ⟨h, g⟩ := kpl_t.mp hk
    have hi := il hx
    have r := r3 i x hx h
    have m0 : (s3.1 64 (fb_ct (kp1 l) i)).toInt = 0 := Classical.byContradiction fun z => g ((mk_ i x hx h).mp z)
    rw [← k2 i (by omega)]
    refine ⟨(T2.2 _ r.2 m0).trans r.1, ?_⟩
    rw [D2 _ r.2 m0, E3, ← k1 i (by omega), D1 i (by omega) (at1 i hi h)]
    exact D i hi
/-- the reference's lines -/
theorem m_laysLines {σ : Sto} (hB : BM σ) (h : (σ.1 36 0).toInt ≠ -1 → LNW σ) : PC (f_X12_laysLines σ) (fun t => ((σ.1 36 0).toInt = -1 ∧ nL t = 0) ∨ ((σ.1 36 0).toInt ≠ -1 ∧ ∃ l, TEL σ 250 0 0 0 l ∧ RWM l t)) := by
  have k_0 : (0 : Int32).toInt = 0 := by decide +kernel
  have k_1 : (1 : Int32).toInt = 1 := by decide +kernel
  have k_4 : (4 : Int32).toInt = 4 := by decide +kernel
  have k_5 : (5 : Int32).toInt = 5 := by decide +kernel
  have k_6 : (6 : Int32).toInt = 6 := by decide +kernel
  have k_m1 : ((-1) : Int32).toInt = -1 := by decide +kernel
  have c0 : (0 : Int32).toNatClampNeg = 0 := by have := clamp_I (x := 0) (by omega); omega
  unfold f_X12_laysLines
  refine pc_lt fun s1 e1 => ?_
  refine pc_lt fun s2 e2 => ?_
  have b1 : BM s1 := by rw [e1]; exact pM_62 hB (by omega)
  have b2 : BM s2 := by rw [e2]; exact pM_63 b1 (by omega)
  have f2 : FR LNS [] σ s2 := by
    rw [e2]; refine FR.st ?_ (by decide)
    rw [e1]; exact FR.st FR.rf (by decide)
  have z2 : (s2.1 62 0).toInt = 0 := by
    rw [e2, sti_o (by decide), e1, sti_if, if_pos rfl]; exact k_0
  have n2 : nL s2 = 0 := by unfold nL; rw [z2]; rfl
  have d2 : DPM s2 := ⟨by rw [n2, e2, sti_s]; rfl, fun i hi => by rw [n2] at hi; omega⟩
  refine pc_ite (fun c1 => ?_) (fun c1 => ?_)
  · rw [fa_eq, k_m1, f2.1 36 (by decide)] at c1
    exact pc_ret (Or.inl ⟨c1, n2⟩)
  · rw [fa_eq, k_m1, f2.1 36 (by decide)] at c1
    have W := h c1
    refine pc_cals (pc_and (pc_ok (s_tells0 W b2 f2 z2)) ((wd_all 250).1 0 s2 d2)) (fun s4 q => ?_)
    obtain ⟨⟨q1, q2, ⟨l, q3, q4⟩, q5⟩, d4⟩ := q
    have hE : ELs s4 := q4.els n2 (TEL.els _ _ _ _ _ q3)
    have l4 : nL s4 = l.length := by rw [q4.1, n2, Nat.zero_add]
    have a4 : ∀ i x, l[i]? = some x → lnA s4 i = x := fun i x hx => by
      have := q4.2.2 i x hx
      rw [n2, Nat.zero_add] at this
      exact this
    have h4 := nL_le q1
    have g62 := gM_62 q1 0
    have o5 := (TEL.onc W (by have := W.2.2.2.2.2.2.2.2; omega) q3).on5
    have D4 : ∀ i, i < l.length → s4.1 60 i = dpD (kdL l) i := fun i hi => by
      rw [d4.2 i (by omega)]
      refine dpD_cg (fun j hj => ?_)
      have hx : l[j]? = some l[j] := List.getElem?_eq_getElem (by omega)
      rw [kdL_s hx]
      exact congrArg Prod.fst (a4 j _ hx)
    refine pc_itr2 (fun x u => 0 ≤ x.toInt ∧ x.toInt ≤ (nL s4 : Int) ∧ BM u ∧ FR [64] [] s4 u ∧ ∀ i, i < x.toNatClampNeg → ((u.1 64 i).toInt ≠ 0 ↔ OU1 l i)) ?_ ⟨by omega, by omega, q1, FR.rf, fun i hi => by rw [c0] at hi; omega⟩
    intro ag x u I ih
    obtain ⟨x0, xn, u1, u2, u3⟩ := I
    have cx := clamp_I x0
    have e58 := u2.1 58 (by decide)
    have e59 := u2.1 59 (by decide)
    have e60 := u2.1 60 (by decide)
    have e61 := u2.1 61 (by decide)
    have e62 := u2.1 62 (by decide)
    have nu : nL u = nL s4 := by unfold nL; rw [e62]
    have su : ∀ i, lnA u i = lnA s4 i := fun i => by unfold lnA; rw [e58, e59, e61]
    have A1 : ATL u l := ⟨by rw [nu, l4], fun i y hy => by rw [su]; exact a4 i y hy⟩
    refine pc_ite (fun c2 => ?_) (fun c2 => ?_)
    · rw [fa_le, e62] at c2
      have xe : x.toNatClampNeg = nL s4 := by omega
      refine pc_cals (pc_and (pc_ok (s_thins u1)) m_thins60) (fun s7 r => ?_)
      obtain ⟨⟨r1, r2, r3⟩, r4⟩ := r
      have h7 := nL_le r1
      have g62 := gM_62 r1 0
      refine pc_itr2 (fun x v => 0 ≤ x.toInt ∧ x.toInt ≤ (nL s7 : Int) ∧ BM v ∧ FR [64] [] s7 v ∧ ∀ i, i < x.toNatClampNeg → ((v.1 64 i).toInt ≠ 0 ↔ (kA s7 i = 4 ∧ kA s7 (i + 1) = 5))) ?_ ⟨by omega, by omega, r1, FR.rf, fun i hi => by rw [c0] at hi; omega⟩
      intro ag2 y v I2 ih2
      obtain ⟨y0, yn, v1, v2, v3⟩ := I2
      have cy := clamp_I y0
      have d58 := v2.1 58 (by decide)
      have d59 := v2.1 59 (by decide)
      have d60 := v2.1 60 (by decide)
      have d61 := v2.1 61 (by decide)
      have d62 := v2.1 62 (by decide)
      have nv : nL v = nL s7 := by unfold nL; rw [d62]
      refine pc_ite (fun c3 => ?_) (fun c3 => ?_)
      · rw [fa_le, d62] at c3
        refine pc_cals (pc_and (pc_ok (s_thins v1)) m_thins60) (fun s10 t => ?_)
        obtain ⟨⟨t1, t2, t3⟩, t4⟩ := t
        refine pc_ret (Or.inr ⟨c1, l, q3, ?_⟩)
        refine thn_two (TEL.str _ _ _ _ _ q3) A1 (fun i hi => by rw [e60]; exact D4 i hi) (fun i hi => u3 i (by omega)) r3 r4 nv (fun i => by unfold lnA; rw [d58, d59, d61]) d60 (fun j hj => ?_) t3 t4
        rw [nv] at hj
        unfold kA
        rw [d58]
        exact v3 j (by omega)
      · rw [fa_le, d62] at c3
        have iy : 0 ≤ y.toInt ∧ y.toInt < 1400 := by omega
        have ey : (y + 1).toInt = y.toInt + 1 := i1 (by omega)
        have ny : (y + 1).toNatClampNeg = y.toNatClampNeg + 1 := by have := clamp_I (x := y + 1) (by omega); omega
        refine pc_ix (fun _ => ?_)
        refine pc_lt fun v11 e11 => ?_
        rw [d58] at e11
        refine pc_jnI1 (fun t => (t.toInt = 0 ∨ t.toInt = 1) ∧ (t.toInt ≠ 0 ↔ (kA s7 y.toNatClampNeg = 4 ∧ kA s7 (y.toNatClampNeg + 1) = 5))) (fun t ht => ?_) (fun k hk => ?_)
        · refine pc_bz (fun _ => ?_)
          refine pc_ix (fun _ => ?_)
          refine pc_lt fun s13 e13 => ?_
          refine pc_lt fun x15 e15 => ?_
          subst e15
          refine ih2 (y + 1) s13 ⟨by omega, by omega, by rw [e13]; exact pM_64 v1 (by have := ht.1; omega), by rw [e13]; exact FR.st v2 (by decide), fun i hi => ?_⟩
          rw [e13, sti_if]
          by_cases z : i = y.toNatClampNeg
          · rw [if_pos z, z]; exact ht.2
          · rw [if_neg z]; exact v3 i (by omega)
        · refine pc_jnI0 (¬ (kA s7 y.toNatClampNeg = 4 ∧ kA s7 (y.toNatClampNeg + 1) = 5)) (fun hk0 => hk 0 ⟨Or.inl k_0, fun z => absurd k_0 z, fun z => absurd z hk0⟩) (fun k2 hk2 => ?_)
          refine pc_ite (fun c4 => ?_) (fun c4 => ?_)
          · rw [fa_eq, k_4, e11] at c4
            refine pc_ix (fun _ => ?_)
            rw [ny, d58]
            refine pc_lt fun v18 e18 => ?_
            refine pc_ite (fun c5 => ?_) (fun c5 => ?_)
            · rw [fa_eq, k_5, e18] at c5
              exact hk 1 ⟨Or.inr k_1, fun _ => ⟨c4, c5⟩, fun _ => by rw [k_1]; decide⟩
            · rw [fa_eq, k_5, e18] at c5
              exact hk2 (fun z => c5 z.2)
          · rw [fa_eq, k_4, e11] at c4
            exact hk2 (fun z => c4 z.1)
    · rw [fa_le, e62] at c2
      have xl : x.toNatClampNeg < nL s4 := by omega
      have ex : (x + 1).toInt = x.toInt + 1 := i1 (by omega)
      have nx : (x + 1).toNatClampNeg = x.toNatClampNeg + 1 := by have := clamp_I (x := x + 1) (by omega); omega
      have hEu : ELs u := fun i hi hk => by
        rw [nu] at hi
        unfold kA at hk
        rw [e58] at hk
        obtain ⟨j, hj⟩ := hE i hi hk
        exact ⟨j, (EIF.cg e58 e59 e61 e62 i j).mpr hj⟩
      have hx : l[x.toNatClampNeg]? = some l[x.toNatClampNeg] := List.getElem?_eq_getElem (by omega)
      generalize l[x.toNatClampNeg] = z at hx
      have k0 : kA s4 x.toNatClampNeg = z.1 := congrArg Prod.fst (a4 _ _ hx)
      have m0 : mA u x.toNatClampNeg = z.2.1 := congrArg (fun w => w.2.1) (A1.2 _ _ hx)
      have ou : OU1 l x.toNatClampNeg ↔ z.1 = 6 ∧ IDLE l z.2.1 (x.toNatClampNeg + 1) := by
        constructor
        · rintro ⟨w, w1, w2, w3⟩
          rw [hx] at w1
          have e := Option.some.inj w1
          subst e
          exact ⟨w2, w3⟩
        · exact fun w => ⟨z, hx, w⟩
      refine pc_ix (fun _ => ?_)
      refine pc_lt fun v20 e20 => ?_
      rw [e58] at e20
      refine pc_jnI1 (fun t => (t.toInt = 0 ∨ t.toInt = 1) ∧ (t.toInt ≠ 0 ↔ OU1 l x.toNatClampNeg)) (fun t ht => ?_) (fun k hk => ?_)
      · refine pc_bz (fun _ => ?_)
        refine pc_ix (fun _ => ?_)
        refine pc_lt fun s22 e22 => ?_
        refine pc_lt fun x24 e24 => ?_
        subst e24
        refine ih (x + 1) s22 ⟨by omega, by omega, by rw [e22]; exact pM_64 u1 (by have := ht.1; omega), by rw [e22]; exact FR.st u2 (by decide), fun i hi => ?_⟩
        rw [e22, sti_if]
        by_cases w : i = x.toNatClampNeg
        · rw [if_pos w, w]; exact ht.2
        · rw [if_neg w]; exact u3 i (by omega)
      · refine pc_jnI0 (¬ OU1 l x.toNatClampNeg) (fun w => hk 0 ⟨Or.inl k_0, fun y => absurd k_0 y, fun y => absurd y w⟩) (fun k2 hk2 => ?_)
        refine pc_ite (fun c4 => ?_) (fun c4 => ?_)
        · rw [fa_eq, k_6, e20] at c4
          have c4' : kA s4 x.toNatClampNeg = 6 := c4
          refine pc_calp (m_isIdle u1 hEu A1 o5 x0 (by rw [nu]; exact xl)) (fun v27 r => ?_)
          rw [m0] at r
          refine pc_ite (fun c5 => hk2 (fun w => ?_)) (fun c5 => ?_)
          · exact r.2.mpr (ou.mp w).2 c5
          · exact hk 1 ⟨Or.inr k_1, fun _ => ou.mpr ⟨by omega, r.2.mp c5⟩, fun _ => by rw [k_1]; decide⟩
        · rw [fa_eq, k_6, e20] at c4
          have c4' : ¬ kA s4 x.toNatClampNeg = 6 := c4
          exact hk2 (fun w => c4' (by have := (ou.mp w).1; omega))
