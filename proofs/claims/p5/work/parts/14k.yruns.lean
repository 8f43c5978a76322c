abbrev BGN : List Nat := [69, 71, 72, 73, 74, 75, 76, 77]
theorem s_begins {s : Sto} {a b c m : Int32} (hB : BM s) (hm : 1 ≤ m.toInt ∧ m.toInt ≤ 200) : OK (f_X12_begins a b c m s) (fun t => BM t ∧ FR BGN [] s t ∧ (t.1 71 0).toInt = 0 ∧ (t.1 73 0).toInt = 0 ∧ (t.1 77 0).toInt = m.toInt) := by
  have k_0 : (0 : Int32).toInt = 0 := by decide +kernel
  have k_6 : (6 : Int32).toInt = 6 := by decide +kernel
  have k_m1 : ((-1) : Int32).toInt = -1 := by decide +kernel
  unfold f_X12_begins
  refine ok_itr2 (fun n x u => n = (7 - x.toInt).toNat ∧ 0 ≤ x.toInt ∧ x.toInt ≤ 6 ∧ BM u ∧ FR BGN [] s u) ?_ (n := (7 - (0 : Int32).toInt).toNat) ⟨rfl, by omega, by omega, hB, FR.rf⟩ (by rw [k_0]; decide)
  intro ag n x u I ih
  obtain ⟨hn, x0, x6, u1, u2⟩ := I
  refine ok_ite (fun _ => ?_) (fun c1 => ?_)
  · refine ok_lt fun s3 e3 => ?_
    have b3 : BM s3 := by rw [e3]; exact pM_71 u1 (by omega)
    refine ok_lt fun s4 e4 => ?_
    have b4 : BM s4 := by rw [e4]; exact pM_72 b3 (tI_rng _)
    refine ok_lt fun s5 e5 => ?_
    have b5 : BM s5 := by rw [e5]; exact pM_73 b4 (by omega)
    refine ok_lt fun s6 e6 => ?_
    have b6 : BM s6 := by rw [e6]; exact pM_74 b5 (by omega)
    refine ok_lt fun s7 e7 => ?_
    have b7 : BM s7 := by rw [e7]; exact pM_75 b6 (tI_rng _)
    refine ok_lt fun s8 e8 => ?_
    have b8 : BM s8 := by rw [e8]; exact pM_76 b7 (tI_rng _)
    refine ok_lt fun s9 e9 => ?_
    refine ok_ret ⟨by rw [e9]; exact pM_77 b8 (by omega), ?_, ?_, ?_, ?_⟩
    · rw [e9]; refine FR.st ?_ (by decide)
      rw [e8]; refine FR.st ?_ (by decide)
      rw [e7]; refine FR.st ?_ (by decide)
      rw [e6]; refine FR.st ?_ (by decide)
      rw [e5]; refine FR.st ?_ (by decide)
      rw [e4]; refine FR.st ?_ (by decide)
      rw [e3]; exact FR.st u2 (by decide)
    · rw [e9, sti_o (by decide), e8, sti_o (by decide), e7, sti_o (by decide), e6, sti_o (by decide), e5, sti_o (by decide), e4, sti_o (by decide), e3, sti_if, if_pos rfl]; exact k_0
    · rw [e9, sti_o (by decide), e8, sti_o (by decide), e7, sti_o (by decide), e6, sti_o (by decide), e5, sti_if, if_pos rfl]; exact k_0
    · rw [e9, sti_if, if_pos rfl]
  · rw [fa_le, k_6] at c1
    refine ok_jnI1 (fun _ => True) (fun t _ => ?_) (fun k hk => ok_ite (fun _ => hk _ trivial) (fun _ => ok_ite (fun _ => hk _ trivial) (fun _ => hk _ trivial)))
    refine ok_ix (by omega) ?_
    refine ok_lt fun s11 e11 => ?_
    refine ok_lt fun x12 e12 => ?_
    have ex : x12.toInt = x.toInt + 1 := by rw [e12]; exact i1 (by omega)
    exact ih (7 - x12.toInt).toNat x12 s11 (by omega) ⟨rfl, by omega, by omega, by rw [e11]; exact pM_69 u1 (tI_rng _), by rw [e11]; exact FR.st u2 (by decide)⟩
theorem s_runsLines {σ s : Sto} (L : LAID σ) (hR : RUNL σ) (hB : BM s) (hF : FR RLX [] σ s) (h71 : (s.1 71 0).toInt = 0) (h73 : (s.1 73 0).toInt = 0) : OK (f_X12_runsLines s) (fun t => BM t ∧ FR RLX [] σ t) := by
  have k_0 : (0 : Int32).toInt = 0 := by decide +kernel
  have k_8 : (8 : Int32).toInt = 8 := by decide +kernel
  have k_m1 : ((-1) : Int32).toInt = -1 := by decide +kernel
  have z0 : (0 : Int32).toNatClampNeg = 0 := by have := clamp_I (x := 0) (by omega); omega
  have g77 := gM_77 hB 0
  unfold f_X12_runsLines
  refine ok_lt fun s1 e1 => ?_
  have b1 : BM s1 := by rw [e1]; exact pM_78 hB (by omega)
  have F1 : FR [78, 82, 83] [] s s1 := by rw [e1]; exact FR.st FR.rf (by decide)
  refine ok_itr2 (fun n x u => n = (9 - x.toInt).toNat ∧ 0 ≤ x.toInt ∧ x.toInt ≤ 8 ∧ BM u ∧ FR [78, 82, 83] [] s u) ?_ (n := (9 - (0 : Int32).toInt).toNat) ⟨rfl, by omega, by omega, b1, F1⟩ (by rw [k_0]; decide)
  intro ag n x u I ih
  obtain ⟨hn, x0, x8, u1, u2⟩ := I
  refine ok_ite (fun _ => ?_) (fun c1 => ?_)
  · have g48 := gM_48 u1 0
    refine ok_itr2 (fun n x w => n = (401 - x.toInt).toNat ∧ 0 ≤ x.toInt ∧ x.toInt ≤ 400 ∧ BM w ∧ FR [78, 82, 83] [] s w) ?_ (n := (401 - (0 : Int32).toInt).toNat) ⟨rfl, by omega, by omega, u1, u2⟩ (by rw [k_0]; decide)
    intro ag n x w I ih
    obtain ⟨hn, x0, x8, w1, w2⟩ := I
    have g48 := gM_48 w1 0
    refine ok_ite (fun _ => ?_) (fun c2 => ?_)
    · have e71 : w.1 71 = s.1 71 := w2.1 71 (by decide)
      have e73 : w.1 73 = s.1 73 := w2.1 73 (by decide)
      have e77 : w.1 77 = s.1 77 := w2.1 77 (by decide)
      -- the run
      refine ok_itr2 (fun n x v => BM v ∧ FR RLX [] σ v ∧ (v.1 73 0).toInt ≤ (v.1 77 0).toInt ∧ (((v.1 74 0).toInt ≠ -1 ∧ n = 0) ∨ (0 ≤ x.toInt ∧ ∃ m o, GO σ m o x.toNatClampNeg ∧ (v.1 71 0).toInt + o ≤ 40 * (v.1 73 0).toInt ∧ n = (201 - (v.1 73 0).toInt).toNat * 3000 + m))) ?_ (n := 201 * 3000 + 2000) ⟨w1, FR.cal hF w2 rfl rfl, by rw [e73, e77, h73]; omega, Or.inr ⟨by omega, 2000, 0, by rw [z0]; exact hR.1, by rw [e71, e73, h71, h73]; decide, by rw [e73, h73]; rfl⟩⟩ (by unfold LF; omega)
      intro ag n x v I ih
      obtain ⟨v1, v2, v3, v4⟩ := I
      refine ok_ite (fun c => ?_) (fun _ => ok_ret ⟨v1, v2⟩)
      rw [fa_eq, k_m1] at c
      rcases v4 with ⟨z, _⟩ | ⟨x0, m, o, g, ho, hn⟩
      · exact absurd c z
      · cases m with
        | zero => exact g.elim
        | succ m =>
          have v77 := gM_77 v1 0
          have v73 := gM_73 v1 0
          refine ok_calv (s_nextLine L hR v1 v2 v3 ho x0 g) (fun v8 s8 q => ?_)
          obtain ⟨q1, q2, q3, q4⟩ := q
          (try dsimp only at q1 q2 q3 q4)
          have e77 : s8.1 77 = v.1 77 := q2.1 77 (by decide)
          have F8 : FR RLX [] σ s8 := FR.cal v2 q2 rfl rfl
          rcases q4 with z | ⟨z1, m2, p, z2, z3, z4⟩
          · exact ih 0 v8 s8 (by omega) ⟨q1, F8, q3, Or.inl ⟨z, rfl⟩⟩
          · refine ih ((201 - (s8.1 73 0).toInt).toNat * 3000 + m2) v8 s8 ?_ ⟨q1, F8, q3, Or.inr ⟨z1, m2, p, z2, z3, rfl⟩⟩
            rw [e77] at q3
            rcases z4 with ⟨y1, y2⟩ | ⟨y1, y2⟩
            · rw [y1, y2]; omega
            · rw [y1] at q3
              rw [y1, y2]; omega
    · rw [fa_le] at c2
      refine ok_ix (by omega) ?_
      refine ok_lt fun s9 e9 => ?_
      refine ok_lt fun x10 e10 => ?_
      have ex : x10.toInt = x.toInt + 1 := by rw [e10]; exact i1 (by omega)
      exact ih (401 - x10.toInt).toNat x10 s9 (by omega) ⟨rfl, by omega, by omega, by rw [e9]; exact pM_83 w1 (tI_rng _), by rw [e9]; exact FR.st w2 (by decide)⟩
  · rw [fa_le, k_8] at c1
    refine ok_ix (by omega) ?_
    refine ok_lt fun s11 e11 => ?_
    refine ok_lt fun x12 e12 => ?_
    have ex : x12.toInt = x.toInt + 1 := by rw [e12]; exact i1 (by omega)
    exact ih (9 - x12.toInt).toNat x12 s11 (by omega) ⟨rfl, by omega, by omega, by rw [e11]; exact pM_82 u1 (tI_rng _), by rw [e11]; exact FR.st u2 (by decide)⟩
theorem i64_1 : (1 : Int64).toInt = 1 := by decide +kernel
theorem i64_200 : (200 : Int64).toInt = 200 := by decide +kernel
theorem s_hasRun {σ τ : Sto} {x1 x2 x3 x4 x5 : Int32} (h : GR τ σ) : OK (f_X12_hasRun x1 x2 x3 x4 x5 σ) (fun r => GR τ r.2) := by
  have k_0 : (0 : Int32).toInt = 0 := by decide +kernel
  have k_1 : (1 : Int32).toInt = 1 := by decide +kernel
  have k_m1 : ((-1) : Int32).toInt = -1 := by decide +kernel
  unfold f_X12_hasRun
  refine ok_ite (fun _ => ok_ret h) (fun c1 => ?_)
  rw [fa_eq, k_0] at c1
  have L := h.2.1.resolve_left c1
  refine ok_calp s_isIn (fun v2 q => ?_)
  rw [Int32.toInt_toInt64, i64_0, i64_1] at q
  refine ok_ite (fun _ => ok_ret h) (fun c2 => ?_)
  rw [fa_eq, k_0] at c2
  have xb := q.2.mp c2
  refine ok_jnI0 (x1.toInt = 0 ∨ (σ.1 36 0).toInt ≠ -1) (fun hj => ?_) (fun k hk => ?_)
  · refine ok_calp s_isIn (fun v5 r => ?_)
    rw [Int32.toInt_toInt64, i64_200, i64_1] at r
    refine ok_ite (fun _ => ok_ret h) (fun c3 => ?_)
    rw [fa_eq, k_0] at c3
    have mb := r.2.mp c3
    refine ok_cals (s_begins h.1 mb) (fun s7 t => ?_)
    obtain ⟨t1, t2, t3, t4, t5⟩ := t
    refine ok_ite (fun _ => ?_) (fun c4 => ?_)
    · refine ok_cals (s_runsCode t1 (FR.cal FR.rf t2 rfl rfl) t3 t4 L) (fun s9 u => ?_)
      have t6 : FR RLX [] σ s7 := FR.cal FR.rf t2 rfl rfl
      exact ok_ret (h.fr (ms := RLX) (ml := []) u.1 (FR.cal t6 u.2 rfl rfl) rfl rfl)
    · rw [fa_eq, k_0] at c4
      have hj2 := hj.resolve_left c4
      refine ok_cals (s_runsLines L (L.runl hj2) t1 (FR.cal FR.rf t2 rfl rfl) t3 t4) (fun s10 u => ?_)
      exact ok_ret (h.fr u.1 u.2 rfl rfl)
  · refine ok_ite (fun c4 => ?_) (fun c4 => hk (Or.inl ?_))
    · exact ok_ite (fun _ => ok_ret h) (fun c5 => hk (Or.inr (by rw [fa_eq, k_m1] at c5; exact c5)))
    · rw [fa_eq, k_1] at c4; omega
theorem s_folded {σ : Sto} (hB : BM σ) : OK (f_X12_folded σ) (fun _ => True) := by
  have k_0 : (0 : Int32).toInt = 0 := by decide +kernel
  have g := gM_71 hB 0
  unfold f_X12_folded
  refine ok_itr2 (fun n _ x => n = (8001 - x.toInt).toNat ∧ 0 ≤ x.toInt ∧ x.toInt ≤ 8000) ?_ (n := (8001 - (0 : Int32).toInt).toNat) ⟨rfl, by omega, by omega⟩ (by rw [k_0]; decide)
  intro ag n c x I ih
  obtain ⟨hn, x0, x4⟩ := I
  refine ok_ite (fun _ => ok_ret trivial) (fun c1 => ?_)
  rw [fa_le] at c1
  refine ok_ix (by omega) ?_
  refine ok_lt fun v3 _ => ?_
  refine ok_lt fun x4 _ => ?_
  refine ok_lt fun x6 e6 => ?_
  have ex : x6.toInt = x.toInt + 1 := by rw [e6]; exact i1 (by omega)
  exact ih (8001 - x6.toInt).toNat x4 x6 (by omega) ⟨rfl, by omega, by omega⟩
theorem i64_11 : (11 : Int64).toInt = 11 := by decide +kernel
theorem s_run {σ τ : Sto} {x1 x2 x3 x4 x5 x6 : Int32} (h : GR τ σ) : OK (f_X12_run x1 x2 x3 x4 x5 x6 σ) (fun r => GR τ r.2) := by
  have k_0 : (0 : Int32).toInt = 0 := by decide +kernel
  have k_5 : (5 : Int32).toInt = 5 := by decide +kernel
  have n5 : nI 5 = (5 : Int32) := by decide +kernel
  unfold f_X12_run
  refine ok_lt fun s1 e1 => ?_
  have f1 : FR [0] [] σ s1 := by rw [e1]; exact FR.st FR.rf (by decide)
  have B1 : BM s1 := by rw [e1]; exact pM_0 h.1 (by omega)
  have G1 : GR τ s1 := h.fr B1 f1 rfl rfl
  refine ok_calp s_isIn (fun v2 q => ?_)
  rw [Int32.toInt_toInt64, i64_0, i64_11] at q
  refine ok_ite (fun _ => ok_ret G1) (fun c1 => ?_)
  rw [fa_eq, k_0] at c1
  have xb := q.2.mp c1
  refine ok_calv (s_hasRun G1) (fun v4 s4 G4 => ?_)
  (try dsimp only at G4)
  refine ok_ite (fun _ => ok_ret G4) (fun _ => ?_)
  refine ok_ite (fun _ => ok_ret G4) (fun c0 => ?_)
  refine ok_ite (fun _ => ok_ret G4) (fun c1 => ?_)
  refine ok_ite (fun _ => ok_ret G4) (fun c2 => ?_)
  refine ok_ite (fun _ => ok_ret G4) (fun c3 => ?_)
  refine ok_ite (fun _ => ok_ret G4) (fun c4 => ?_)
  refine ok_ite (fun _ => ok_calp (s_folded G4.1) (fun v _ => ok_ret G4)) (fun c11 => ?_)
  have em := i_sub (x := x6) (k := 5) (by decide) (by omega)
  rw [n5] at em
  exact ok_ix (by omega) (ok_lt fun v8 _ => ok_ret G4)
theorem s_output {σ τ : Sto} {x1 x2 x3 x4 x5 x6 : Int32} (h : GR τ σ) : OK (f_X12_output x1 x2 x3 x4 x5 x6 σ) (fun r => GR τ r.2) := by
  have k_0 : (0 : Int32).toInt = 0 := by decide +kernel
  unfold f_X12_output
  refine ok_lt fun s1 e1 => ?_
  have f1 : FR [0] [] σ s1 := by rw [e1]; exact FR.st FR.rf (by decide)
  have B1 : BM s1 := by rw [e1]; exact pM_0 h.1 (by omega)
  have G1 : GR τ s1 := h.fr B1 f1 rfl rfl
  refine ok_jnI1 (fun t => GR τ t) (fun t ht => ok_ret ht) (fun k hk => ?_)
  refine ok_ite (fun _ => hk s1 G1) (fun c => ?_)
  rw [fa_lt, k_0] at c
  refine ok_calv (s_hasRun G1) (fun v4 s4 G4 => ?_)
  (try dsimp only at G4)
  have g := gM_71 G4.1 0
  refine ok_ite (fun _ => hk s4 G4) (fun _ => ?_)
  refine ok_ite (fun _ => hk s4 G4) (fun c2 => ?_)
  rw [fa_le] at c2
  exact ok_ix (by omega) (ok_lt fun v7 _ => ok_ret G4)
