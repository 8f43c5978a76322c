theorem n31 (n : Int32) : ∃ k, k < 32 ∧ n &&& 31 = nI k := by
  refine ⟨(n.toBitVec &&& 31#32).toNat, ?_, ?_⟩
  · rw [BitVec.toNat_and]
    have h := @Nat.and_le_right n.toBitVec.toNat (31#32).toNat
    have e : (31#32).toNat = 31 := rfl
    omega
  · refine Int32.toBitVec_inj.mp ?_
    rw [Int32.toBitVec_and]
    refine BitVec.eq_of_toNat_eq ?_
    show _ = (BitVec.ofNat 32 _).toNat
    rw [BitVec.toNat_ofNat, Nat.mod_eq_of_lt (BitVec.isLt _)]
    rfl
theorem hsI_tp : ∀ k, k < 32 → ((nI k).toBitVec.smod 32#32) = BitVec.ofNat 32 k := by decide +kernel
theorem bI_tp : ∀ k, k < 32 → ((1 : Int32) <<< nI k).toBitVec = BitVec.twoPow 32 k := by decide +kernel
theorem bI_and (x y : Int32) (i : Nat) : bI (x &&& y) i = (bI x i && bI y i) := BitVec.getLsbD_and
theorem shI1 {S : Int32} {k : Nat} (hk : k < 32) : (S >>> nI k) &&& 1 = 0 ↔ bI S k = false := by
  have e2 : (S >>> nI k).toBitVec = S.toBitVec.sshiftRight k := by
    rw [Int32.toBitVec_shiftRight]
    show S.toBitVec.sshiftRight ((nI k).toBitVec.smod 32#32).toNat = _
    rw [hsI_tp k hk, BitVec.toNat_ofNat, Nat.mod_eq_of_lt (by omega)]
  rw [← Int32.toBitVec_inj, Int32.toBitVec_and, e2]
  show S.toBitVec.sshiftRight k &&& 1#32 = 0#32 ↔ S.toBitVec.getLsbD k = false
  have z : (S.toBitVec.sshiftRight k).getLsbD 0 = S.toBitVec.getLsbD k := by
    rw [BitVec.getLsbD_sshiftRight, if_pos (by omega), Nat.add_zero]
    simp
  constructor
  · intro h
    have t := congrArg (fun x => x.getLsbD 0) h
    simp only [BitVec.getLsbD_and, z] at t
    simpa using t
  · intro h
    apply BitVec.eq_of_getLsbD_eq
    intro i hi
    rw [BitVec.getLsbD_and]
    by_cases q : i = 0
    · subst q; rw [z, h]; simp
    · have q1 : (1#32).getLsbD i = false := by rw [BitVec.getLsbD_one]; simp [q]
      rw [q1, Bool.and_false]; simp
theorem shI2 {S : Int32} {k : Nat} (hk : k < 32) : S &&& ((1 : Int32) <<< nI k) = 0 ↔ bI S k = false := by
  have one : ∀ i, bI ((1 : Int32) <<< nI k) i = (decide (k < 32) && decide (k = i)) := fun i => by
    unfold bI
    rw [bI_tp k hk, BitVec.getLsbD_twoPow]
  constructor
  · intro h
    have t := congrArg (fun x => bI x k) h
    simp only [bI_and, one, bI_0] at t
    simpa [hk] using t
  · intro h
    refine bI_eq (fun i hi => ?_)
    rw [bI_and, one, bI_0]
    by_cases q : k = i
    · subst q; rw [h]; rfl
    · simp [q]
theorem shI {S n : Int32} : (S >>> (n &&& 31)) &&& 1 = 0 ↔ S &&& mkI n = 0 := by
  obtain ⟨k, hk, e⟩ := n31 n
  unfold mkI
  rw [e, shI1 hk, shI2 hk]
abbrev lvM (σ : Sto) (L : Nat → Int32) (b : Nat) : Int32 := lvF (EVm σ) (ri (σ.1 9)) (σ.1 10) (fiR σ) (laR σ) (ri (σ.1 25)) L b
abbrev LDM (σ : Sto) (L : Nat → Int32) (b i : Nat) : Prop := LVD (EVm σ) (ri (σ.1 9)) (σ.1 10) (laR σ) (ri (σ.1 25)) L b i
theorem t_behindM {x1 : Int32} {b : Nat} {σ : Sto} (hx : 0 ≤ x1.toInt) (hb : x1.toNatClampNeg = b) (hE : 0 ≤ (σ.1 32 0).toInt) : PC (f_X12_behind x1 σ) (fun v => v = bhF (EVm σ) (σ.1 55) b (EVm σ).1) := by
  have k_0 : (0 : Int32).toInt = 0 := by decide +kernel
  have cb := clamp_I hx
  rw [hb] at cb
  have hN : ((EVm σ).1 : Int) = (σ.1 32 0).toInt := Int.toNat_of_nonneg hE
  unfold f_X12_behind
  refine pc_itr2 (fun v e => 0 ≤ e.toInt ∧ e.toInt ≤ (σ.1 32 0).toInt ∧ v = bhF (EVm σ) (σ.1 55) b e.toNatClampNeg) ?_ ⟨by omega, by omega, rfl⟩
  intro ag v e I ih
  obtain ⟨e0, e1_, hv⟩ := I
  have ce := clamp_I e0
  refine pc_ite (fun c => ?_) (fun c => ?_)
  · rw [fa_le] at c
    refine pc_ret ?_
    rw [hv, show e.toNatClampNeg = (EVm σ).1 by omega]
  · rw [fa_le] at c
    have ex : (e + 1).toInt = e.toInt + 1 := i1 (by have := tI_rng (σ.1 32 0); omega)
    have cxe : (e + 1).toNatClampNeg = e.toNatClampNeg + 1 := by
      have := clamp_I (x := e + 1) (by omega)
      omega
    refine pc_ix (fun _ => ?_)
    refine pc_lt fun v3 e3 => ?_
    refine pc_jnI1 (fun t => t = if (EVm σ).2.1 e.toNatClampNeg = (b : Int) then σ.1 55 ((EVm σ).2.2.1 e.toNatClampNeg).toNat else 0) (fun t ht => ?_) (fun k hk => ?_)
    · refine pc_lt fun w ew => ?_
      refine pc_lt fun x6 e6 => ?_
      subst e6
      refine ih w (e + 1) ⟨by omega, by omega, ?_⟩
      rw [cxe, bhF_s, ew, hv, ht]
    · have src : (EVm σ).2.1 e.toNatClampNeg = v3.toInt := by rw [e3]; rfl
      refine pc_ite (fun c3 => ?_) (fun c3 => ?_)
      · rw [fa_eq] at c3
        refine pc_ix (fun _ => ?_)
        refine pc_lt fun v8 e8 => ?_
        refine pc_ix (fun _ => ?_)
        refine pc_lt fun v9 e9 => ?_
        refine hk v9 ?_
        rw [if_pos (by rw [src]; omega), e9, e8]
        rfl
      · rw [fa_eq] at c3
        refine hk 0 ?_
        rw [if_neg (by rw [src]; omega)]
/-- the reference's dead ones from a place on -/
def DDM (σ u : Sto) (b : Nat) (h v : Int32) (j : Int) : Prop := ∀ i : Nat, ((j < (i : Int) ∧ i ≤ laR σ b ∧ sG σ i = 115) → ((u.1 57 i).toInt ≠ 0 ↔ goF (ri (σ.1 9)) (σ.1 10) h (laR σ b) (laR σ b - i) v &&& mkI (σ.1 10 i) = 0)) ∧ (¬ (j < (i : Int) ∧ i ≤ laR σ b ∧ sG σ i = 115) → u.1 57 i = σ.1 57 i)
theorem DDM.no {σ u : Sto} {b : Nat} {h v : Int32} {j j2 : Int} {jN : Nat} (d : DDM σ u b h v j) (e : j2 = j - 1) (ej : (jN : Int) = j) (n : sG σ jN ≠ 115) : DDM σ u b h v j2 := fun i => by
  have c : (j2 < (i : Int) ∧ i ≤ laR σ b ∧ sG σ i = 115) → (j < (i : Int) ∧ i ≤ laR σ b ∧ sG σ i = 115) := fun ⟨z1, z2, z3⟩ => by
    by_cases q : i = jN
    · subst q; exact absurd z3 n
    · exact ⟨by omega, z2, z3⟩
  exact ⟨fun z => (d i).1 (c z), fun z => (d i).2 (fun y => z ⟨by have := y.1; omega, y.2⟩)⟩
theorem DDM.wr {σ u w : Sto} {b : Nat} {h v t : Int32} {j j2 : Int} {jN : Nat} (d : DDM σ u b h v j) (e : j2 = j - 1) (ej : (jN : Int) = j) (hj : jN ≤ laR σ b) (y : sG σ jN = 115) (ew : w.1 57 = (sti u 57 jN t).1 57) (ht : t.toInt ≠ 0 ↔ goF (ri (σ.1 9)) (σ.1 10) h (laR σ b) (laR σ b - jN) v &&& mkI (σ.1 10 jN) = 0) : DDM σ w b h v j2 := fun i => by
  by_cases q : i = jN
  · subst q
    refine ⟨fun _ => ?_, fun z => absurd ⟨by omega, hj, y⟩ z⟩
    rw [ew, sti_s]; exact ht
  · have s : w.1 57 i = u.1 57 i := by rw [ew, sti_j q]
    rw [s]
    exact ⟨fun z => (d i).1 ⟨by have := z.1; omega, z.2⟩, fun z => (d i).2 (fun y => z ⟨by have := y.1; omega, y.2⟩)⟩
def LAM (σ s : Sto) (b : Nat) (v : Int32) : Prop := v = lvM σ (σ.1 55) b ∧ FR [57] [] σ s ∧ (∀ i, fiR σ b ≤ i → i ≤ laR σ b → sG σ i = 115 → ((s.1 57 i).toInt ≠ 0 ↔ LDM σ (σ.1 55) b i)) ∧ ∀ i, ¬ (fiR σ b ≤ i ∧ i ≤ laR σ b ∧ sG σ i = 115) → s.1 57 i = σ.1 57 i
theorem t_liveAheadM {x1 : Int32} {b : Nat} {σ : Sto} (hx : 0 ≤ x1.toInt) (hb : x1.toNatClampNeg = b) (hE : 0 ≤ (σ.1 32 0).toInt) (f1 : 0 ≤ (σ.1 22 b).toInt) (f2 : (σ.1 22 b).toInt ≤ (σ.1 23 b).toInt) : PC (f_X12_liveAhead x1 σ) (fun r => LAM σ r.2 b r.1) := by
  have k_0 : (0 : Int32).toInt = 0 := by decide +kernel
  have k_1 : (1 : Int32).toInt = 1 := by decide +kernel
  have k_m1 : ((-1) : Int32).toInt = -1 := by decide +kernel
  have k_108 : (108 : Int32).toInt = 108 := by decide +kernel
  have k_115 : (115 : Int32).toInt = 115 := by decide +kernel
  have hla : (laR σ b : Int) = (σ.1 23 b).toInt := clamp_I (x := σ.1 23 b) (by omega)
  have hfi : (fiR σ b : Int) = (σ.1 22 b).toInt := clamp_I (x := σ.1 22 b) (by omega)
  have hbh := t_behindM hx hb hE
  unfold f_X12_liveAhead
  rw [hb]
  refine pc_ix (fun _ => ?_)
  refine pc_lt fun v1 e1 => ?_
  refine pc_jnI1 (fun h => h = hdF (ri (σ.1 25)) (σ.1 55) b) (fun h eh => ?_) (fun k hk => ?_)
  · refine pc_calp hbh (fun v3 e3 => ?_)
    refine pc_ix (fun _ => ?_)
    refine pc_lt fun v4 e4 => ?_
    refine pc_itr3 (fun S j u => (fiR σ b : Int) - 1 ≤ j.toInt ∧ j.toInt ≤ (laR σ b : Int) ∧ FR [57] [] σ u ∧ S = goF (ri (σ.1 9)) (σ.1 10) h (laR σ b) ((laR σ b : Int) - j.toInt).toNat v3 ∧ DDM σ u b h v3 j.toInt) ?_ ⟨by rw [e4]; omega, by rw [e4]; omega, FR.rf, ?_, ?_⟩
    · intro ag S j u I ih
      obtain ⟨j0, j1, j2, j3, j4⟩ := I
      have fu : ∀ {k : Nat}, k ≠ 57 → u.1 k = σ.1 k := fun {k} hk => j2.1 k (by simp [hk])
      refine pc_ix (fun _ => ?_)
      rw [fu (show (22 : Nat) ≠ 57 by decide)]
      refine pc_lt fun v6 e6 => ?_
      refine pc_ite (fun c2 => ?_) (fun c2 => ?_)
      · rw [fa_lt, e6] at c2
        have ej : j.toInt = (fiR σ b : Int) - 1 := by omega
        rw [ej] at j4
        have G : S = goF (ri (σ.1 9)) (σ.1 10) h (laR σ b) (laR σ b + 1 - fiR σ b) v3 := by
          rw [j3, show ((laR σ b : Int) - j.toInt).toNat = laR σ b + 1 - fiR σ b by omega]
        refine pc_ret ⟨?_, j2, fun i h1 h2 h3 => ?_, fun i hi => (j4 i).2 (fun y => hi ⟨by have := y.1; omega, y.2⟩)⟩
        · show S ||| h = _
          rw [G, e3, eh]
          rfl
        · have y := (j4 i).1 ⟨by omega, h2, h3⟩
          rw [y, e3, eh]
          exact ⟨fun z => ⟨h3, z⟩, fun z => z.2⟩
      · rw [fa_lt, e6] at c2
        have cj := clamp_I (x := j) (by omega)
        have lm : laR σ b - ((laR σ b : Int) - j.toInt).toNat = j.toNatClampNeg := by omega
        have lm2 : laR σ b - j.toNatClampNeg = ((laR σ b : Int) - j.toInt).toNat := by omega
        refine pc_ix (fun ij => ?_)
        rw [fu (show (9 : Nat) ≠ 57 by decide)]
        refine pc_lt fun v8 e8 => ?_
        have es : (σ.1 9 j.toNatClampNeg).toInt = sG σ j.toNatClampNeg := rfl
        refine pc_jnI2 (fun T w => FR [57] [] σ w ∧ DDM σ w b h v3 (j.toInt - 1) ∧ (sG σ j.toNatClampNeg ≠ 108 → T = stF (sG σ j.toNatClampNeg) (σ.1 10 j.toNatClampNeg) h S) ∧ (sG σ j.toNatClampNeg = 108 → T = S)) (fun T w J => ?_) (fun k2 hk2 => ?_)
        · obtain ⟨w1, w2, w3, w4⟩ := J
          have fw : ∀ {k : Nat}, k ≠ 57 → w.1 k = σ.1 k := fun {k} hk => w1.1 k (by simp [hk])
          refine pc_ix (fun _ => ?_)
          rw [fw (show (9 : Nat) ≠ 57 by decide)]
          refine pc_lt fun v10 e10 => ?_
          refine pc_jnI1 (fun T2 => T2 = stF (sG σ j.toNatClampNeg) (σ.1 10 j.toNatClampNeg) h S) (fun T2 h2 => ?_) (fun k3 hk3 => ?_)
          · refine pc_lt fun x12 e12 => ?_
            have ex : x12.toInt = j.toInt - 1 := by rw [e12]; exact i_m1 (by omega) (by omega)
            refine ih T2 x12 w ⟨by omega, by omega, w1, ?_, by rw [ex]; exact w2⟩
            rw [h2, ex, show ((laR σ b : Int) - (j.toInt - 1)).toNat = ((laR σ b : Int) - j.toInt).toNat + 1 by omega, goF_s, lm, ← j3]
          · refine pc_ite (fun c3 => ?_) (fun c3 => ?_)
            · rw [fa_eq, k_108, e10, es] at c3
              refine pc_ix (fun _ => ?_)
              rw [fw (show (10 : Nat) ≠ 57 by decide)]
              refine pc_lt fun v14 e14 => ?_
              refine pc_lt fun x15 e15 => ?_
              refine hk3 x15 ?_
              unfold stF
              rw [if_neg (by omega), if_pos c3, e15, w4 c3, e14]
              rfl
            · rw [fa_eq, k_108, e10, es] at c3
              exact hk3 T (w3 c3)
        · refine pc_ite (fun c3 => ?_) (fun c3 => ?_)
          · rw [fa_eq, k_115, e8, es] at c3
            refine pc_ix (fun _ => ?_)
            rw [fu (show (10 : Nat) ≠ 57 by decide)]
            refine pc_lt fun v17 e17 => ?_
            have G : goF (ri (σ.1 9)) (σ.1 10) h (laR σ b) (laR σ b - j.toNatClampNeg) v3 &&& mkI (σ.1 10 j.toNatClampNeg) = 0 ↔ (S >>> (v17 &&& 31)) &&& 1 = 0 := by
              rw [lm2, ← j3, e17]
              exact shI.symm
            refine pc_jnI1 (fun t => t.toInt ≠ 0 ↔ (S >>> (v17 &&& 31)) &&& 1 = 0) (fun t ht => ?_) (fun k4 hk4 => ?_)
            · refine pc_bz (fun _ => ?_)
              refine pc_ix (fun _ => ?_)
              refine pc_lt fun s19 e19 => ?_
              have f19 : s19.1 10 = σ.1 10 := by rw [e19, sti_o (by decide)]; exact fu (by decide)
              refine pc_ix (fun _ => ?_)
              rw [f19]
              refine pc_lt fun v21 e21 => ?_
              refine pc_lt fun x22 e22 => ?_
              refine hk2 x22 s19 ⟨by rw [e19]; exact FR.st j2 (by decide), j4.wr rfl cj (by omega) c3 (by rw [e19]) (ht.trans G.symm), fun _ => ?_, fun z => by omega⟩
              unfold stF
              rw [if_pos c3, e22, e21]
              rfl
            · exact pc_ite (fun c4 => hk4 1 ⟨fun _ => c4, fun _ => by rw [k_1]; decide⟩) (fun c4 => hk4 0 ⟨fun z => absurd k_0 z, fun z => absurd z c4⟩)
          · rw [fa_eq, k_115, e8, es] at c3
            refine hk2 S u ⟨j2, j4.no rfl cj c3, fun z => ?_, fun _ => rfl⟩
            unfold stF
            rw [if_neg c3, if_neg z]
    · rw [e4, show ((laR σ b : Int) - (σ.1 23 b).toInt).toNat = 0 by omega]; rfl
    · intro i
      rw [e4]
      exact ⟨fun z => by have := z.1; have := z.2.1; omega, fun _ => rfl⟩
  · refine pc_ite (fun c2 => ?_) (fun c2 => ?_)
    · rw [fa_eq, k_m1, e1] at c2
      refine hk 0 ?_
      unfold hdF ri
      rw [if_pos c2]
    · rw [fa_eq, k_m1, e1] at c2
      refine pc_ix (fun _ => ?_)
      refine pc_lt fun v25 e25 => ?_
      refine pc_ix (fun _ => ?_)
      refine pc_lt fun v26 e26 => ?_
      refine hk v26 ?_
      unfold hdF ri
      rw [if_neg c2, e26, e25]
      rfl
abbrev LINm (σ u : Sto) : Prop := LIN (EVm σ) (ri (σ.1 9)) (σ.1 10) (fiR σ) (laR σ) (ri (σ.1 25)) (nB σ) (u.1 55)
abbrev LFXm (σ u : Sto) : Prop := LFX (EVm σ) (ri (σ.1 9)) (σ.1 10) (fiR σ) (laR σ) (ri (σ.1 25)) (nB σ) (u.1 55)
theorem FLV.cg {σ s : Sto} (f : FR FLV [] σ s) : EVm s = EVm σ ∧ s.1 9 = σ.1 9 ∧ s.1 10 = σ.1 10 ∧ fiR s = fiR σ ∧ laR s = laR σ ∧ s.1 25 = σ.1 25 := ⟨EVw.cg (f.1 32 (by decide)) (f.1 27 (by decide)) (f.1 28 (by decide)) (f.1 29 (by decide)), f.1 9 (by decide), f.1 10 (by decide), funext fun b => by unfold fiR; rw [f.1 22 (by decide)], funext fun b => by unfold laR; rw [f.1 23 (by decide)], f.1 25 (by decide)⟩
/-- a block on the way, told of the start -/
def LAY (σ s t : Sto) (b : Nat) (v : Int32) : Prop := v = lvM σ (s.1 55) b ∧ FR [57] [] s t ∧ (∀ i, fiR σ b ≤ i → i ≤ laR σ b → sG σ i = 115 → ((t.1 57 i).toInt ≠ 0 ↔ LDM σ (s.1 55) b i)) ∧ ∀ i, ¬ (fiR σ b ≤ i ∧ i ≤ laR σ b ∧ sG σ i = 115) → t.1 57 i = s.1 57 i
def FIM (σ : Sto) (b : Nat) : Prop := 0 ≤ (σ.1 22 b).toInt ∧ (σ.1 22 b).toInt ≤ (σ.1 23 b).toInt
theorem t_liveA {σ s : Sto} {x1 : Int32} {b : Nat} (f : FR FLV [] σ s) (hx : 0 ≤ x1.toInt) (hb : x1.toNatClampNeg = b) (hE : 0 ≤ (σ.1 32 0).toInt) (hF : FIM σ b) : PC (f_X12_liveAhead x1 s) (fun r => LAY σ s r.2 b r.1) := by
  obtain ⟨g1, g2, g3, g4, g5, g6⟩ := FLV.cg f
  have h22 := f.1 22 (by decide)
  have h23 := f.1 23 (by decide)
  have h32 := f.1 32 (by decide)
  refine pc_imp (t_liveAheadM hx hb (by rw [h32]; exact hE) (by rw [h22]; exact hF.1) (by rw [h22, h23]; exact hF.2)) (fun r q => ?_)
  obtain ⟨q1, q2, q3, q4⟩ := q
  have sg : sG s = sG σ := by unfold sG; rw [g2]
  unfold lvM at q1
  unfold LDM at q3
  rw [g1, g2, g3, g4, g5, g6] at q1
  rw [g1, g2, g3, g4, g5, g6, sg] at q3
  rw [g4, g5, sg] at q4
  exact ⟨q1, q2, q3, q4⟩
def OUTm (σ t : Sto) : Prop := ∀ i, i < 40 → (t.1 57 i).toInt ≠ 0 → ∃ c, c < nB σ ∧ fiR σ c ≤ i ∧ i ≤ laR σ c ∧ sG σ i = 115
def FINm (σ t : Sto) (j : Int) : Prop := ∀ c : Nat, j < (c : Int) → c < nB σ → lvM σ (t.1 55) c = t.1 55 c ∧ ∀ i, fiR σ c ≤ i → i ≤ laR σ c → sG σ i = 115 → ((t.1 57 i).toInt ≠ 0 ↔ LDM σ (t.1 55) c i)
def DSJ (σ : Sto) : Prop := ∀ b c i, b < nB σ → c < nB σ → fiR σ b ≤ i → i ≤ laR σ b → fiR σ c ≤ i → i ≤ laR σ c → b = c
/-- what laysLive lays -/
def FLM (σ s : Sto) : Prop := LFXm σ s ∧ (∀ c, c < nB σ → s.1 56 c = bhF (EVm σ) (s.1 55) c (EVm σ).1) ∧ ∀ i, i < 40 → ((s.1 57 i).toInt ≠ 0 ↔ ∃ c, c < nB σ ∧ fiR σ c ≤ i ∧ i ≤ laR σ c ∧ LDM σ (s.1 55) c i)
theorem t_laysLiveM {σ : Sto} (hn0 : 0 ≤ (σ.1 26 0).toInt) (hn : (σ.1 26 0).toInt ≤ 40) (hE : 0 ≤ (σ.1 32 0).toInt) (hF : ∀ b, b < nB σ → FIM σ b) (hR : RGL (EVm σ) (ri (σ.1 25)) (nB σ)) (hD : DSJ σ) : PC (f_X12_laysLive σ) (fun s => FR FLV [] σ s ∧ FLM σ s) := by
  have k_0 : (0 : Int32).toInt = 0 := by decide +kernel
  have k_40 : (40 : Int32).toInt = 40 := by decide +kernel
  have n1 : (1 : Int32) ≠ 0 := by decide
  have hN : (nB σ : Int) = (σ.1 26 0).toInt := Int.toNat_of_nonneg hn0
  unfold f_X12_laysLive
  refine pc_itr2 (fun x s => 0 ≤ x.toInt ∧ FR FLV [] σ s ∧ ∀ c : Nat, (c : Int) < x.toInt → s.1 55 c = 0) ?_ ⟨by omega, FR.rf, fun c hc => by omega⟩
  intro ag x s I ih
  obtain ⟨x0, f, z⟩ := I
  have cx := clamp_I x0
  refine pc_ite (fun c => ?_) (fun c => ?_)
  · rw [fa_le, f.1 26 (by decide)] at c
    have z0 : ∀ b, b < nB σ → s.1 55 b = 0 := fun b hb => z b (by omega)
    refine pc_itr2 (fun i t => 0 ≤ i.toInt ∧ FR FLV [] σ t ∧ (∀ b, b < nB σ → t.1 55 b = 0) ∧ ∀ c : Nat, (c : Int) < i.toInt → t.1 57 c = 0) ?_ ⟨by omega, f, z0, fun c hc => by omega⟩
    intro ag2 i t I2 ih2
    obtain ⟨i0, f2, z2, z3⟩ := I2
    have ci := clamp_I i0
    refine pc_ite (fun c2 => ?_) (fun c2 => ?_)
    · rw [fa_le, k_40] at c2
      refine pc_itr2 (fun g t => FR FLV [] σ t ∧ LINm σ t ∧ OUTm σ t ∧ (g = 0 → FINm σ t (-1))) ?_ ⟨f2, LIN.z z2, fun j hj h => absurd (by rw [z3 j (by omega)]; exact k_0) h, fun h => absurd h n1⟩
      intro ag3 g t I3 ih3
      obtain ⟨f3, hL, hO, hg⟩ := I3
      refine pc_ite (fun c3 => ?_) (fun c3 => ?_)
      · have fin := hg c3
        refine pc_itr2 (fun d w => 0 ≤ d.toInt ∧ FR FLV [] σ w ∧ w.1 55 = t.1 55 ∧ w.1 57 = t.1 57 ∧ ∀ c : Nat, (c : Int) < d.toInt → w.1 56 c = bhF (EVm σ) (t.1 55) c (EVm σ).1) ?_ ⟨by omega, f3, rfl, rfl, fun c hc => by omega⟩
        intro ag4 d w I4 ih4
        obtain ⟨d0, f4, w1, w2, w3⟩ := I4
        have cd := clamp_I d0
        refine pc_ite (fun c4 => ?_) (fun c4 => ?_)
        · rw [fa_le, f4.1 26 (by decide)] at c4
          refine pc_ret ⟨f4, ?_, fun c hc => ?_, fun i hi => ?_⟩
          · unfold LFXm
            rw [w1]
            exact ⟨fun b hb => (fin b (by omega) hb).1, hL.2⟩
          · rw [w1]; exact w3 c (by omega)
          · rw [w1, w2]
            constructor
            · intro h
              obtain ⟨c, h1, h2, h3, h4⟩ := hO i hi h
              exact ⟨c, h1, h2, h3, ((fin c (by omega) h1).2 i h2 h3 h4).mp h⟩
            · rintro ⟨c, h1, h2, h3, h4⟩
              exact ((fin c (by omega) h1).2 i h2 h3 h4.1).mpr h4
        · rw [fa_le, f4.1 26 (by decide)] at c4
          have ex : (d + 1).toInt = d.toInt + 1 := i1 (by omega)
          have g4 := FLV.cg f4
          refine pc_calp (t_behindM (x1 := d) (b := d.toNatClampNeg) d0 rfl (by rw [f4.1 32 (by decide)]; exact hE)) (fun v9 e9 => ?_)
          refine pc_ix (fun _ => ?_)
          refine pc_lt fun s10 e10 => ?_
          refine pc_lt fun x11 e11 => ?_
          subst e11
          refine ih4 (d + 1) s10 ⟨by omega, by rw [e10]; exact FR.st f4 (by decide), by rw [e10, sti_o (by decide)]; exact w1, by rw [e10, sti_o (by decide)]; exact w2, fun c hc => ?_⟩
          rw [e10, sti_if]
          by_cases q : c = d.toNatClampNeg
          · rw [if_pos q, e9, g4.1, w1, q]
          · rw [if_neg q]; exact w3 c (by omega)
      · refine pc_lt fun x12 e12 => ?_
        have v12 : x12.toInt = (nB σ : Int) - 1 := by
          rw [e12, f3.1 26 (by decide)]
          have := i_sub (x := σ.1 26 0) (k := 1) (by decide) (by omega)
          rw [show (nI 1) = (1 : Int32) by decide +kernel] at this
          omega
        refine pc_itr3 (fun g2 j w => -1 ≤ j.toInt ∧ j.toInt < (nB σ : Int) ∧ FR FLV [] σ w ∧ LINm σ w ∧ OUTm σ w ∧ (g2 = 0 → FINm σ w j.toInt)) ?_ ⟨by omega, by omega, f3, hL, hO, fun _ c h1 h2 => by omega⟩
        intro ag4 g2 j w I4 ih4
        obtain ⟨j0, j1, f4, hL4, hO4, hg4⟩ := I4
        refine pc_ite (fun c4 => ?_) (fun c4 => ?_)
        · rw [fa_lt, k_0] at c4
          refine ih3 g2 w ⟨f4, hL4, hO4, fun h => ?_⟩
          have := hg4 h
          rw [show j.toInt = -1 by omega] at this
          exact this
        · rw [fa_lt, k_0] at c4
          have cj := clamp_I (x := j) (by omega)
          have hj : j.toNatClampNeg < nB σ := by omega
          refine pc_calv (t_liveA (b := j.toNatClampNeg) f4 (by omega) rfl hE (hF _ hj)) (fun v15 s15 q => ?_)
          obtain ⟨q1, q2, q3, q4⟩ := q
          (try dsimp only at q1 q2 q3 q4)
          have F15 : FR FLV [] σ s15 := FR.cal f4 q2 rfl rfl
          have e55 : s15.1 55 = w.1 55 := q2.1 55 (by decide)
          refine pc_jnI1 (fun g5 => g5 = 0 → g2 = 0 ∧ v15 = w.1 55 j.toNatClampNeg) (fun g5 J => ?_) (fun k hk => ?_)
          · refine pc_ix (fun _ => ?_)
            refine pc_lt fun s17 e17 => ?_
            refine pc_lt fun x18 e18 => ?_
            have v18 : x18.toInt = j.toInt - 1 := by rw [e18]; exact i_m1 (by omega) (by omega)
            have p1 : s17.1 55 j.toNatClampNeg = lvM σ (w.1 55) j.toNatClampNeg := by rw [e17, sti_s]; exact q1
            have p2 : ∀ c, c ≠ j.toNatClampNeg → s17.1 55 c = w.1 55 c := fun c hc => by rw [e17, sti_j hc, e55]
            have p57 : s17.1 57 = s15.1 57 := by rw [e17, sti_o (by decide)]
            refine ih4 g5 x18 s17 ⟨by omega, by omega, by rw [e17]; exact FR.st F15 (by decide), hL4.st hR hj p1 p2, fun i hi h => ?_, fun h => ?_⟩
            · rw [p57] at h
              by_cases y : fiR σ j.toNatClampNeg ≤ i ∧ i ≤ laR σ j.toNatClampNeg ∧ sG σ i = 115
              · exact ⟨_, hj, y⟩
              · rw [q4 i y] at h
                exact hO4 i hi h
            · obtain ⟨h1, h2⟩ := J h
              have e66 : s17.1 55 = w.1 55 := funext fun c => by
                by_cases y : c = j.toNatClampNeg
                · rw [y, p1, ← q1]; exact h2
                · exact p2 c y
              intro c hc1 hc2
              rw [e66, p57]
              by_cases y : c = j.toNatClampNeg
              · subst y
                exact ⟨q1.symm.trans h2, q3⟩
              · have y2 := hg4 h1 c (by omega) hc2
                refine ⟨y2.1, fun i i1_ i2_ i3_ => ?_⟩
                rw [q4 i (fun y3 => y (hD _ _ i hc2 hj i1_ i2_ y3.1 y3.2.1))]
                exact y2.2 i i1_ i2_ i3_
          · refine pc_jnI0 True (fun _ => hk 1 (fun h => absurd h n1)) (fun k2 hk2 => ?_)
            refine pc_ite (fun c5 => ?_) (fun c5 => hk2 trivial)
            refine pc_ix (fun _ => ?_)
            refine pc_lt fun v21 e21 => ?_
            rw [e55] at e21
            refine pc_ite (fun c6 => hk 0 (fun _ => ⟨c5, c6.trans e21⟩)) (fun _ => hk2 trivial)
    · rw [fa_le, k_40] at c2
      have ex : (i + 1).toInt = i.toInt + 1 := i1 (by omega)
      refine pc_ix (fun _ => ?_)
      refine pc_lt fun s23 e23 => ?_
      refine pc_lt fun x24 e24 => ?_
      subst e24
      refine ih2 (i + 1) s23 ⟨by omega, by rw [e23]; exact FR.st f2 (by decide), fun b hb => by rw [e23, sti_o (by decide)]; exact z2 b hb, fun c hc => ?_⟩
      rw [e23, sti_if]
      by_cases q : c = i.toNatClampNeg
      · rw [if_pos q]
      · rw [if_neg q]; exact z3 c (by omega)
  · rw [fa_le, f.1 26 (by decide)] at c
    have ex : (x + 1).toInt = x.toInt + 1 := i1 (by omega)
    refine pc_ix (fun _ => ?_)
    refine pc_lt fun s25 e25 => ?_
    refine pc_lt fun x26 e26 => ?_
    subst e26
    refine ih (x + 1) s25 ⟨by omega, by rw [e25]; exact FR.st f (by decide), fun c hc => ?_⟩
    rw [e25, sti_if]
    by_cases q : c = x.toNatClampNeg
    · rw [if_pos q]
    · rw [if_neg q]; exact z c (by omega)
