theorem s_input {s : Sto} (hB : BM s) : OK (f_X12_input s) (fun r => BM r.2 ∧ FR [72, 76] [] s r.2) := by
  unfold f_X12_input
  refine ok_lt fun s1 e1 => ?_
  have b1 : BM s1 := by rw [e1]; exact pM_76 hB (tI_rng _)
  have f1 : FR [72, 76] [] s s1 := by rw [e1]; exact FR.st FR.rf (by decide)
  refine ok_lt fun s2 e2 => ?_
  exact ok_ret ⟨by rw [e2]; exact pM_72 b1 (tI_rng _), by rw [e2]; exact FR.st f1 (by decide)⟩
theorem s_outputs {s : Sto} {x : Int32} (hB : BM s) (h : (s.1 71 0).toInt < 8000) : OK (f_X12_outputs x s) (fun t => BM t ∧ FR [70, 71] [] s t ∧ (t.1 71 0).toInt = (s.1 71 0).toInt + 1) := by
  have g := gM_71 hB 0
  have ex : ((s.1 71 0) + 1).toInt = (s.1 71 0).toInt + 1 := i1 (by omega)
  unfold f_X12_outputs
  refine ok_ix (by omega) ?_
  refine ok_lt fun s1 e1 => ?_
  have b1 : BM s1 := by rw [e1]; exact pM_70 hB (tI_rng _)
  have f1 : FR [70, 71] [] s s1 := by rw [e1]; exact FR.st FR.rf (by decide)
  have q1 : s1.1 71 = s.1 71 := by rw [e1, sti_o (by decide)]
  refine ok_lt fun s2 e2 => ?_
  rw [q1] at e2
  refine ok_ret ⟨by rw [e2]; exact pM_71 b1 (by omega), by rw [e2]; exact FR.st f1 (by decide), ?_⟩
  rw [e2, sti_if, if_pos rfl]; exact ex
theorem s_throwsIt {s : Sto} {x : Int32} (hB : BM s) : OK (f_X12_throwsIt x s) (fun t => BM t ∧ FR [78, 79] [] s t ∧ (t.1 78 0).toInt = 1) := by
  have k_1 : (1 : Int32).toInt = 1 := by decide +kernel
  unfold f_X12_throwsIt
  refine ok_lt fun s1 e1 => ?_
  have b1 : BM s1 := by rw [e1]; exact pM_78 hB (by omega)
  have f1 : FR [78, 79] [] s s1 := by rw [e1]; exact FR.st FR.rf (by decide)
  refine ok_lt fun s2 e2 => ?_
  refine ok_ret ⟨by rw [e2]; exact pM_79 b1 (tI_rng _), by rw [e2]; exact FR.st f1 (by decide), ?_⟩
  rw [e2, sti_o (by decide), e1, sti_if, if_pos rfl]; exact k_1
theorem s_result {s : Sto} {a b c : Int32} (hB : BM s) : OK (f_X12_result a b c s) (fun r => BM r.2 ∧ FR [78, 79] [] s r.2 ∧ ((r.2.1 78 0).toInt = (s.1 78 0).toInt ∨ ((r.2.1 78 0).toInt = 1 ∧ a.toInt ≠ 42 ∧ a.toInt ≠ 43 ∧ a.toInt ≠ 45 ∧ a.toInt ≠ 60 ∧ a.toInt ≠ 61))) := by
  have k_0 : (0 : Int32).toInt = 0 := by decide +kernel
  unfold f_X12_result
  have D : ∀ v : Int32, OK (some (v, s)) (fun r => BM r.2 ∧ FR [78, 79] [] s r.2 ∧ ((r.2.1 78 0).toInt = (s.1 78 0).toInt ∨ ((r.2.1 78 0).toInt = 1 ∧ a.toInt ≠ 42 ∧ a.toInt ≠ 43 ∧ a.toInt ≠ 45 ∧ a.toInt ≠ 60 ∧ a.toInt ≠ 61))) := fun v => ok_ret ⟨hB, FR.rf, Or.inl rfl⟩
  refine ok_ite (fun _ => D _) (fun c1 => ?_)
  refine ok_ite (fun _ => D _) (fun c2 => ?_)
  refine ok_ite (fun _ => D _) (fun c3 => ?_)
  refine ok_ite (fun _ => ok_ite (fun _ => D _) (fun _ => D _)) (fun c4 => ?_)
  refine ok_ite (fun _ => ok_ite (fun _ => D _) (fun _ => D _)) (fun c5 => ?_)
  refine ok_jnI1 (fun t => BM t ∧ FR [78, 79] [] s t ∧ ((t.1 78 0).toInt = (s.1 78 0).toInt ∨ ((t.1 78 0).toInt = 1 ∧ a.toInt ≠ 42 ∧ a.toInt ≠ 43 ∧ a.toInt ≠ 45 ∧ a.toInt ≠ 60 ∧ a.toInt ≠ 61))) (fun t ht => ?_) (fun k hk => ?_)
  · refine ok_ite (fun _ => ok_ret ht) (fun c6 => ?_)
    exact ok_ite (fun _ => ok_nz c6 (ok_ret ht)) (fun _ => ok_nz c6 (ok_ret ht))
  · refine ok_ite (fun _ => ?_) (fun _ => hk s ⟨hB, FR.rf, Or.inl rfl⟩)
    exact ok_cals (s_throwsIt hB) (fun s10 q => hk s10 ⟨q.1, q.2.1, Or.inr ⟨q.2.2, c1, c2, c3, c4, c5⟩⟩)
theorem s_enters {s : Sto} (hB : BM s) (h : (s.1 73 0).toInt ≤ (s.1 77 0).toInt) : OK (f_X12_enters s) (fun t => BM t ∧ FR [73, 74] [] s t ∧ (((t.1 74 0).toInt = 2 ∧ (t.1 73 0).toInt = (s.1 73 0).toInt) ∨ (t.1 74 = s.1 74 ∧ (t.1 73 0).toInt = (s.1 73 0).toInt + 1 ∧ (t.1 73 0).toInt ≤ (s.1 77 0).toInt))) := by
  have k_2 : (2 : Int32).toInt = 2 := by decide +kernel
  have g := gM_73 hB 0
  have g7 := gM_77 hB 0
  unfold f_X12_enters
  refine ok_ite (fun _ => ?_) (fun c => ?_)
  · refine ok_lt fun s2 e2 => ?_
    exact ok_ret ⟨by rw [e2]; exact pM_74 hB (by omega), by rw [e2]; exact FR.st FR.rf (by decide), Or.inl ⟨by rw [e2, sti_if, if_pos rfl]; exact k_2, by rw [e2, sti_o (by decide)]⟩⟩
  · rw [fa_eq] at c
    have ex : ((s.1 73 0) + 1).toInt = (s.1 73 0).toInt + 1 := i1 (by omega)
    refine ok_lt fun s2 e2 => ?_
    have e73 : (s2.1 73 0).toInt = (s.1 73 0).toInt + 1 := by rw [e2, sti_if, if_pos rfl]; exact ex
    exact ok_ret ⟨by rw [e2]; exact pM_73 hB (by omega), by rw [e2]; exact FR.st FR.rf (by decide), Or.inr ⟨by rw [e2, sti_o (by decide)], e73, by omega⟩⟩
/-- where an instruction stands in its block -/
theorem of_bg {σ : Sto} (hB : BM σ) (hQ : QL σ) (hK : BK σ) {i : Nat} (hi : i < nC σ) (hd : dP σ i ≠ -1) : ∃ b : Nat, b < nB σ ∧ (σ.1 24 i).toInt = b ∧ fiR σ b ≤ i ∧ (bgP (dP σ) (cT σ) i = true ↔ (σ.1 22 b).toInt = i) := by
  obtain ⟨o1, o2⟩ := BK.of_ hB hQ hK hi hd
  have h2 : ri (σ.1 24) i = if dP σ i ≠ -1 then (cbP (dP σ) (cT σ) (i + 1) : Int) - 1 else -1 := hK.2.2.1 i hi
  rw [if_pos hd] at h2
  have e : ri (σ.1 24) i = (σ.1 24 i).toInt := rfl
  refine ⟨(σ.1 24 i).toInt.toNat, by omega, by omega, ?_, ?_⟩
  · have at_ := hK.at_ hB hQ (b := (σ.1 24 i).toInt.toNat) (by omega)
    by_cases q : fiR σ (σ.1 24 i).toInt.toNat ≤ i
    · exact q
    · have l := cbP_le (d := dP σ) (ct := cT σ) (show i + 1 ≤ fiR σ (σ.1 24 i).toInt.toNat by omega)
      have := at_.2.2.2.2.2.1
      omega
  · constructor
    · intro hb
      have f := hK.2.1 i hi hb
      have t := cbP_t hb
      have : (σ.1 24 i).toInt.toNat = cbP (dP σ) (cT σ) i := by omega
      rw [this]
      exact f
    · intro hf
      have at_ := hK.at_ hB hQ (b := (σ.1 24 i).toInt.toNat) (by omega)
      have : fiR σ (σ.1 24 i).toInt.toNat = i := by unfold fiR; omega
      rw [← this]
      exact at_.2.2.2.2.1
theorem of_nx {σ : Sto} (hK : BK σ) {i : Nat} (hi : i + 1 < nC σ) (hd : dP σ i ≠ -1) (hd2 : dP σ (i + 1) ≠ -1) (hb : bgP (dP σ) (cT σ) (i + 1) = false) : (σ.1 24 (i + 1)).toInt = (σ.1 24 i).toInt := by
  have h1 : ri (σ.1 24) i = if dP σ i ≠ -1 then (cbP (dP σ) (cT σ) (i + 1) : Int) - 1 else -1 := hK.2.2.1 i (by omega)
  have h2 : ri (σ.1 24) (i + 1) = if dP σ (i + 1) ≠ -1 then (cbP (dP σ) (cT σ) (i + 1 + 1) : Int) - 1 else -1 := hK.2.2.1 (i + 1) hi
  rw [if_pos hd] at h1
  rw [if_pos hd2, cbP_f hb] at h2
  have e1 : ri (σ.1 24) i = (σ.1 24 i).toInt := rfl
  have e2 : ri (σ.1 24) (i + 1) = (σ.1 24 (i + 1)).toInt := rfl
  omega
abbrev RCN : List Nat := [69, 70, 71, 72, 74, 75, 76, 78, 79, 80, 81]
/-- where one may go on in the code, with so many on the stack -/
def TGT (σ : Sto) (i : Nat) (v : Int32) (h : Int) : Prop := 0 ≤ v.toInt ∧ v.toNatClampNeg < nC σ ∧ dP σ v.toNatClampNeg = h ∧ (cT σ v.toNatClampNeg ∨ v.toNatClampNeg = i + 1)
theorem ht_hi {h : Int} (h0 : 0 ≤ h) : h ≠ -1 := by omega
theorem s_caught {σ s : Sto} {x : Int32} (hB : BM s) (hF : FR (73 :: 77 :: RCN) [] σ s) (hs : BM σ) (hQ : QL σ) (x0 : 0 ≤ x.toInt) (xn : x.toNatClampNeg < nC σ) (hd : dP σ x.toNatClampNeg ≠ -1) (ct : cThI (sG σ x.toNatClampNeg)) : OK (f_X12_caught x s) (fun r => BM r.2 ∧ FR RCN [] s r.2 ∧ r.2.1 71 = s.1 71 ∧ ((r.2.1 74 0).toInt ≠ -1 ∨ (r.2.1 74 = s.1 74 ∧ (r.2.1 78 0).toInt = 0 ∧ (r.2.1 81 0).toInt = 1 ∧ TGT σ x.toNatClampNeg r.1 1))) := by
  have k_0 : (0 : Int32).toInt = 0 := by decide +kernel
  have k_1 : (1 : Int32).toInt = 1 := by decide +kernel
  have k_2 : (2 : Int32).toInt = 2 := by decide +kernel
  have k_3 : (3 : Int32).toInt = 3 := by decide +kernel
  have k_m1 : ((-1) : Int32).toInt = -1 := by decide +kernel
  have cx := clamp_I x0
  have nc := nC_le hs
  have nh := nH_le hs
  unfold f_X12_caught
  refine ok_lt fun s1 e1 => ?_
  have b1 : BM s1 := by rw [e1]; exact pM_78 hB (by omega)
  have f1 : FR RCN [] s s1 := by rw [e1]; exact FR.st FR.rf (by decide)
  have F1 : FR (73 :: 77 :: RCN) [] σ s1 := FR.cal hF f1 rfl rfl
  have g16 := gM_16 b1 0
  refine ok_calp (s_X12_handlerOf_handler (x2 := s1.1 16 0) (x3 := x) b1 g16 (by omega)) (fun v2 q => ?_)
  rw [F1.1 16 (by decide), F1.1 11 (by decide)] at q
  refine ok_ite (fun _ => ?_) (fun c => ?_)
  · refine ok_lt fun s4 e4 => ?_
    have b4 : BM s4 := by rw [e4]; exact pM_74 b1 (by omega)
    refine ok_lt fun s5 e5 => ?_
    refine ok_ret ⟨by rw [e5]; exact pM_75 b4 (tI_rng _), ?_, ?_, Or.inl ?_⟩
    · rw [e5]; refine FR.st ?_ (by decide)
      rw [e4]; exact FR.st f1 (by decide)
    · rw [e5, sti_o (by decide), e4, sti_o (by decide), e1, sti_o (by decide)]
    · rw [e5, sti_o (by decide), e4, sti_if, if_pos rfl, k_1]; decide
  · rw [fa_eq, k_m1] at c
    obtain ⟨q1, q2⟩ := q.2.2 c
    have qv := q.1
    have hq : (hoP (nH σ) (fR σ) (uP σ) x.toNatClampNeg : Int) = v2.toInt := q1
    have hh : hoP (nH σ) (fR σ) (uP σ) x.toNatClampNeg < nH σ := by omega
    have ok := hQ.ok hs xn hd
    have d1 := ok.2.2.2.2 ct hh
    have lg := hQ.2.2.1.2 _ hh
    refine ok_ix (by rw [k_0]; decide) ?_
    refine ok_lt fun s6 e6 => ?_
    have b6 : BM s6 := by rw [e6]; exact pM_80 b1 (tI_rng _)
    refine ok_lt fun s7 e7 => ?_
    have b7 : BM s7 := by rw [e7]; exact pM_81 b6 (by omega)
    have f7 : FR RCN [] s s7 := by
      rw [e7]; refine FR.st ?_ (by decide)
      rw [e6]; exact FR.st f1 (by decide)
    have F7 : FR (73 :: 77 :: RCN) [] σ s7 := FR.cal hF f7 rfl rfl
    have m3 : ((3 : Int32) * v2).toInt = 3 * v2.toInt := by rw [fb_mulI (by rw [k_3]; omega) (by rw [k_3]; omega), k_3]
    have m2 : ((3 : Int32) * v2 + 2).toInt = 3 * v2.toInt + 2 := by rw [fb_addI (by rw [m3, k_2]; omega) (by rw [m3, k_2]; omega), m3, k_2]
    have cm := clamp_I (x := (3 : Int32) * v2 + 2) (by omega)
    refine ok_ix (by omega) ?_
    rw [F7.1 11 (by decide)]
    refine ok_lt fun v8 e8 => ?_
    have go : v8.toInt = gO σ (hoP (nH σ) (fR σ) (uP σ) x.toNatClampNeg) := by
      rw [e8]
      show _ = (σ.1 11 (3 * hoP (nH σ) (fR σ) (uP σ) x.toNatClampNeg + 2)).toInt
      rw [show ((3 : Int32) * v2 + 2).toNatClampNeg = 3 * hoP (nH σ) (fR σ) (uP σ) x.toNatClampNeg + 2 by omega]
    have g11 := gM_11 hs ((3 : Int32) * v2 + 2).toNatClampNeg
    rw [← e8] at g11
    have c8 := clamp_I g11.1
    have n8 : v8.toNatClampNeg = (gO σ (hoP (nH σ) (fR σ) (uP σ) x.toNatClampNeg)).toNat := by omega
    refine ok_ret ⟨b7, f7, ?_, Or.inr ⟨?_, ?_, ?_, g11.1, ?_, ?_, Or.inl ?_⟩⟩
    · rw [e7, sti_o (by decide), e6, sti_o (by decide), e1, sti_o (by decide)]
    · rw [e7, sti_o (by decide), e6, sti_o (by decide), e1, sti_o (by decide)]
    · rw [e7, sti_o (by decide), e6, sti_o (by decide), e1, sti_if, if_pos rfl]; exact k_0
    · rw [e7, sti_if, if_pos rfl]; exact k_1
    · show v8.toNatClampNeg < nC σ
      omega
    · show dP σ v8.toNatClampNeg = 1
      rw [n8]; exact d1
    · show cT σ v8.toNatClampNeg
      rw [n8]; exact Or.inr ⟨_, hh, Or.inr (Or.inr rfl)⟩
/-- what is known where an instruction's own work is done -/
def NJ (σ s : Sto) (i : Nat) (v : Int32) (w : Sto) : Prop := BM w ∧ FR RCN [] s w ∧ (w.1 71 0).toInt ≤ (s.1 71 0).toInt + 1 ∧ (w.1 81 0).toInt = dP σ i - ndI (sG σ i) ∧ (((w.1 74 0).toInt = -1 ∧ (w.1 78 0).toInt = 0 ∧ TGT σ i v (dP σ i - ndI (sG σ i) + gvI (sG σ i))) ∨ ((w.1 74 0).toInt ≠ -1 ∧ (w.1 78 0).toInt = 0) ∨ ((w.1 74 0).toInt = -1 ∧ (w.1 78 0).toInt = 1 ∧ cThI (sG σ i)))
theorem s_next {σ s : Sto} {x : Int32} (hB : BM s) (hF : FR (73 :: 77 :: RCN) [] σ s) (hs : BM σ) (hQ : QL σ) (x0 : 0 ≤ x.toInt) (xn : x.toNatClampNeg < nC σ) (hd : dP σ x.toNatClampNeg ≠ -1) (hp : (s.1 81 0).toInt = dP σ x.toNatClampNeg) (h78 : (s.1 78 0).toInt = 0) (h74 : (s.1 74 0).toInt = -1) (ho : (s.1 71 0).toInt < 8000) : OK (f_X12_next x s) (fun r => BM r.2 ∧ FR RCN [] s r.2 ∧ (r.2.1 71 0).toInt ≤ (s.1 71 0).toInt + 1 ∧ ((r.2.1 74 0).toInt ≠ -1 ∨ ((r.2.1 74 0).toInt = -1 ∧ (r.2.1 78 0).toInt = 0 ∧ TGT σ x.toNatClampNeg r.1 (r.2.1 81 0).toInt ∧ 0 ≤ (r.2.1 81 0).toInt))) := by
  have k_0 : (0 : Int32).toInt = 0 := by decide +kernel
  have k_1 : (1 : Int32).toInt = 1 := by decide +kernel
  have k_2 : (2 : Int32).toInt = 2 := by decide +kernel
  have k_6 : (6 : Int32).toInt = 6 := by decide +kernel
  have k_100 : (100 : Int32).toInt = 100 := by decide +kernel
  have n2 : nI 2 = (2 : Int32) := by decide +kernel
  have cx := clamp_I x0
  have nc := nC_le hs
  have xi : 0 ≤ x.toInt ∧ x.toInt < 40 := by omega
  have ok := hQ.ok hs xn hd
  have vg := hQ.2.1 _ xn
  have g81 := gM_81 hB 0
  have g9 := gM_9 hs x.toNatClampNeg
  have g10 := gM_10 hs x.toNatClampNeg
  have nd0 := nd_0 (sG σ x.toNatClampNeg)
  have gv0 := gv_0 (sG σ x.toNatClampNeg)
  have dle := hQ.2.2.2.2.2.2.1 x.toNatClampNeg
  obtain ⟨o1, o2, o3, o4, o5⟩ := ok
  have e9 : s.1 9 = σ.1 9 := hF.1 9 (by decide)
  have e10 : s.1 10 = σ.1 10 := hF.1 10 (by decide)
  have nmE : nM σ x.toNatClampNeg = (σ.1 10 x.toNatClampNeg).toInt := rfl
  generalize hg : sG σ x.toNatClampNeg = g at *
  have sgE : (σ.1 9 x.toNatClampNeg).toInt = g := hg
  unfold f_X12_next
  refine ok_ix xi ?_
  rw [e9]
  refine ok_lt fun v1 e1 => ?_
  have v1g : v1.toInt = g := by rw [e1]; exact sgE
  have v1r : 0 ≤ v1.toInt ∧ v1.toInt ≤ 255 := by rw [e1]; exact g9
  refine ok_calp (s_X12_pops v1r) (fun v2 q2 => ?_)
  rw [v1g] at q2
  refine ok_jnI1 (fun _ => True) (fun t3 _ => ?_) (fun k29 h29 => ok_ite (fun _ => h29 _ trivial) (fun c => ?_))
  rotate_left
  · rw [fa_le, k_0] at c
    have m1 := i32_m1 (x := s.1 81 0) g81.1
    exact ok_ix (by omega) (ok_lt fun v43 _ => h29 _ trivial)
  refine ok_calp (s_X12_pops v1r) (fun v4 q4 => ?_)
  rw [v1g] at q4
  refine ok_jnI1 (fun _ => True) (fun t5 _ => ?_) (fun k53 h53 => ok_ite (fun _ => h53 _ trivial) (fun c => ?_))
  rotate_left
  · rw [fa_le, k_1] at c
    have m2 := i_sub (x := s.1 81 0) (k := 2) (by decide) (by omega)
    rw [n2] at m2
    exact ok_ix (by omega) (ok_lt fun v41 _ => h53 _ trivial)
  refine ok_calp (s_X12_pops v1r) (fun v6 q6 => ?_)
  rw [v1g] at q6
  have p7 : ((s.1 81 0) - v6).toInt = dP σ x.toNatClampNeg - ndI g := by rw [fb_subI (by omega) (by omega)]; omega
  refine ok_lt fun s7 e7 => ?_
  have b7 : BM s7 := by rw [e7]; exact pM_81 hB (by omega)
  have f7 : FR RCN [] s s7 := by rw [e7]; exact FR.st FR.rf (by decide)
  have s81 : (s7.1 81 0).toInt = dP σ x.toNatClampNeg - ndI g := by rw [e7, sti_if, if_pos rfl]; exact p7
  have s71 : s7.1 71 = s.1 71 := by rw [e7, sti_o (by decide)]
  have s74 : (s7.1 74 0).toInt = -1 := by rw [e7, sti_o (by decide)]; exact h74
  have s78 : (s7.1 78 0).toInt = 0 := by rw [e7, sti_o (by decide)]; exact h78
  refine ok_lt fun x8 e8 => ?_
  have ex8 : x8.toInt = x.toInt + 1 := by rw [e8]; exact i1 (by omega)
  have c8 := clamp_I (x := x8) (by omega)
  have n8 : x8.toNatClampNeg = x.toNatClampNeg + 1 := by omega
  -- the next one
  have nx : gOnI g → TGT σ x.toNatClampNeg x8 (dP σ x.toNatClampNeg - ndI g + gvI g) := fun h => by
    obtain ⟨z1, z2⟩ := o3 h
    exact ⟨by omega, by omega, by rw [n8]; exact z2, Or.inr n8⟩
  have to : ∀ v : Int32, v = σ.1 10 x.toNatClampNeg → gElI g → TGT σ x.toNatClampNeg v (dP σ x.toNatClampNeg - ndI g + gvI g) := fun v ev h => by
    have c10 := clamp_I g10.1
    have n10 : v.toNatClampNeg = (nM σ x.toNatClampNeg).toNat := by rw [ev]; omega
    have lt := hQ.2.2.1.1 _ xn (by rw [hg]; exact h)
    refine ⟨by rw [ev]; exact g10.1, by omega, by rw [n10]; exact o4 h, Or.inl ?_⟩
    rw [n10]
    exact Or.inl ⟨x.toNatClampNeg, xn, hd, Or.inl ⟨by rw [hg]; exact h, Or.inl rfl⟩⟩
  refine ok_jnI3 (fun v _ w => NJ σ s x.toNatClampNeg v w) (fun v y w hw => ?_) (fun k hk => ?_)
  · obtain ⟨w1, w2, w3, w4, w5⟩ := hw
    rw [hg] at w4 w5
    refine ok_calp (s_X12_pushes v1r) (fun v10 q10 => ?_)
    rw [v1g] at q10
    have h81 := gM_81 w1 0
    refine ok_jnI1 (fun u => BM u ∧ FR RCN [] s u ∧ u.1 71 = w.1 71 ∧ u.1 81 = w.1 81 ∧ u.1 74 = w.1 74 ∧ u.1 78 = w.1 78) (fun u hu => ?_) (fun k hk => ?_)
    · obtain ⟨u1, u2, u3, u4, u5, u6⟩ := hu
      refine ok_calp (s_X12_pushes v1r) (fun v12 q12 => ?_)
      rw [v1g] at q12
      have pp : ((u.1 81 0) + v12).toInt = dP σ x.toNatClampNeg - ndI g + gvI g := by rw [u4, fb_addI (by omega) (by omega)]; omega
      refine ok_lt fun s13 e13 => ?_
      have b13 : BM s13 := by rw [e13]; exact pM_81 u1 (by omega)
      have f13 : FR RCN [] s s13 := by rw [e13]; exact FR.st u2 (by decide)
      have t71 : s13.1 71 = w.1 71 := by rw [e13, sti_o (by decide), u3]
      have t74 : s13.1 74 = w.1 74 := by rw [e13, sti_o (by decide), u5]
      have t78 : s13.1 78 = w.1 78 := by rw [e13, sti_o (by decide), u6]
      have t81 : (s13.1 81 0).toInt = dP σ x.toNatClampNeg - ndI g + gvI g := by rw [e13, sti_if, if_pos rfl]; exact pp
      refine ok_ite (fun c => ?_) (fun c => ?_)
      · rw [fa_eq, k_0, t78] at c
        refine ok_ret ⟨b13, f13, by rw [t71]; exact w3, ?_⟩
        (try dsimp only)
        rw [t74, t78, t81]
        rcases w5 with z | z | z
        · exact Or.inr ⟨z.1, z.2.1, z.2.2, by omega⟩
        · exact Or.inl z.1
        · omega
      · rw [fa_eq, k_0, t78] at c
        by_cases en : (w.1 74 0).toInt = -1
        · have ct : cThI g := by
            rcases w5 with z | z | z
            · exact absurd z.2.1 c
            · exact absurd en z.1
            · exact z.2.2
          refine ok_calv (s_caught b13 (FR.cal hF f13 rfl rfl) hs hQ x0 xn hd (by rw [hg]; exact ct)) (fun v15 s15 q => ?_)
          obtain ⟨q1, q2, q3, q4⟩ := q
          (try dsimp only at q1 q2 q3 q4)
          refine ok_ret ⟨q1, FR.cal f13 q2 rfl rfl, by (try dsimp only); rw [q3, t71]; exact w3, ?_⟩
          (try dsimp only)
          rcases q4 with z | ⟨z1, z2, z3, z4⟩
          · exact Or.inl z
          · refine Or.inr ⟨by rw [z1, t74]; exact en, z2, by rw [z3]; exact z4, by omega⟩
        · exfalso
          rcases w5 with z | z | z
          · exact en z.1
          · exact c z.2
          · exact en z.1
    · refine ok_ite (fun c => ?_) (fun _ => hk w ⟨w1, w2, rfl, rfl, rfl, rfl⟩)
      refine ok_ix (by omega) ?_
      refine ok_lt fun s17 e17 => ?_
      exact hk s17 ⟨by rw [e17]; exact pM_80 w1 (tI_rng _), by rw [e17]; exact FR.st w2 (by decide), by rw [e17, sti_o (by decide)], by rw [e17, sti_o (by decide)], by rw [e17, sti_o (by decide)], by rw [e17, sti_o (by decide)]⟩
  · -- what an instruction does that goes on to the next one
    have on : ∀ (y : Int32) (w : Sto) (ms : List Nat), gOnI g → BM w → FR ms [] s7 w → ms.all (fun k => ([69, 70, 71, 72, 76, 80] : List Nat).contains k) = true → (w.1 71 0).toInt ≤ (s7.1 71 0).toInt + 1 → OK (k x8 y w) _ := fun y w ms h bw fw hm hw => by
      have nm : ∀ q, q ∉ ([69, 70, 71, 72, 76, 80] : List Nat) → q ∉ ms := fun q h1 h2 => h1 (by simpa using List.all_eq_true.mp hm q h2)
      refine hk x8 y w ⟨bw, FR.cal f7 fw ?_ rfl, by rw [← s71]; exact hw, by rw [fw.1 81 (nm 81 (by decide)), hg]; exact s81, Or.inl ⟨by rw [fw.1 74 (nm 74 (by decide))]; exact s74, by rw [fw.1 78 (nm 78 (by decide))]; exact s78, by rw [hg]; exact nx h⟩⟩
      rw [List.all_eq_true]
      intro q hq
      have := List.all_eq_true.mp hm q hq
      simp at this ⊢
      omega
    have same : ∀ y : Int32, gOnI g → OK (k x8 y s7) _ := fun y h => on y s7 [] h b7 FR.rf rfl (by omega)
    refine ok_ite (fun c => ?_) (fun c33 => ?_)
    · have og : gOnI g := ⟨by omega, by omega, by omega⟩
      refine ok_jnI1 (fun _ => True) (fun t _ => same t og) (fun k2 h2 => ?_)
      exact ok_ite (fun _ => h2 _ trivial) (fun _ => h2 _ trivial)
    refine ok_ite (fun c => ?_) (fun c100 => ?_)
    · have og : gOnI g := ⟨by omega, by omega, by omega⟩
      have h81 := gM_81 b7 0
      have pe : ((s7.1 81 0) + 1).toInt = (s7.1 81 0).toInt + 1 := i1 (by omega)
      refine ok_ix (by omega) ?_
      refine ok_lt fun s21 e21 => ?_
      have b21 : BM s21 := by rw [e21]; exact pM_80 b7 (tI_rng _)
      have q81 : s21.1 81 = s7.1 81 := by rw [e21, sti_o (by decide)]
      refine ok_jnI1 (fun _ => True) (fun t _ => ?_) (fun k2 h2 => ?_)
      · refine ok_ix (by rw [q81]; omega) ?_
        refine ok_lt fun s23 e23 => ?_
        refine on 0 s23 [80] og (by rw [e23]; exact pM_80 b21 (tI_rng _)) ?_ rfl ?_
        · rw [e23]; refine FR.st ?_ (by decide)
          rw [e21]; exact FR.st FR.rf (by decide)
        · rw [e23, sti_o (by decide), e21, sti_o (by decide)]; omega
      · exact ok_ite (fun _ => h2 _ trivial) (fun _ => h2 _ trivial)
    have e710 : s7.1 10 = σ.1 10 := by rw [e7, sti_o (by decide)]; exact e10
    have hw0 : ∀ v : Int32, TGT σ x.toNatClampNeg v (dP σ x.toNatClampNeg - ndI g + gvI g) → NJ σ s x.toNatClampNeg v s7 := fun v h => ⟨b7, f7, by rw [s71]; omega, by rw [hg]; exact s81, Or.inl ⟨s74, s78, by rw [hg]; exact h⟩⟩
    refine ok_ite (fun c => ?_) (fun c103 => ?_)
    · refine ok_ix xi ?_
      rw [e710]
      refine ok_lt fun v25 e25 => ?_
      exact hk v25 0 s7 (hw0 v25 (to v25 e25 (Or.inl (by omega))))
    refine ok_ite (fun c => ?_) (fun c105 => ?_)
    · have og : gOnI g := ⟨by omega, by omega, by omega⟩
      refine ok_calv (s_input b7) (fun v26 s26 q => ?_)
      refine on v26 s26 [72, 76] og q.1 q.2 rfl ?_
      rw [q.2.1 71 (by decide)]; omega
    refine ok_ite (fun c => ?_) (fun c107 => ?_)
    · have og : gOnI g := ⟨by omega, by omega, by omega⟩
      exact ok_ix xi (ok_lt fun v27 _ => same v27 og)
    refine ok_ite (fun c => ?_) (fun c108 => ?_)
    · have og : gOnI g := ⟨by omega, by omega, by omega⟩
      have l5 := vg.1 (Or.inl (by omega))
      refine ok_ix xi ?_
      rw [e710]
      refine ok_lt fun v28 e28 => ?_
      refine ok_ix (by rw [e28]; omega) ?_
      exact ok_lt fun v29 _ => same v29 og
    refine ok_ite (fun c => ?_) (fun c110 => ?_)
    · have og : gOnI g := ⟨by omega, by omega, by omega⟩
      exact ok_lt fun x30 _ => same x30 og
    refine ok_ite (fun c => ?_) (fun c111 => ?_)
    · have og : gOnI g := ⟨by omega, by omega, by omega⟩
      refine ok_cals (s_outputs b7 (by rw [s71]; exact ho)) (fun s31 q => ?_)
      exact on 0 s31 [70, 71] og q.1 q.2.1 rfl (by omega)
    refine ok_ite (fun c => ?_) (fun c112 => ?_)
    · exact same 0 ⟨by omega, by omega, by omega⟩
    refine ok_ite (fun c => ?_) (fun c114 => ?_)
    · refine ok_lt fun s32 e32 => ?_
      refine hk x8 0 s32 ⟨by rw [e32]; exact pM_74 b7 (by omega), by rw [e32]; exact FR.st f7 (by decide), by rw [e32, sti_o (by decide), s71]; omega, by rw [e32, sti_o (by decide), hg]; exact s81, Or.inr (Or.inl ⟨?_, by rw [e32, sti_o (by decide)]; exact s78⟩)⟩
      rw [e32, sti_if, if_pos rfl, k_0]; decide
    refine ok_ite (fun c => ?_) (fun c115 => ?_)
    · have og : gOnI g := ⟨by omega, by omega, by omega⟩
      have l5 := vg.1 (Or.inr (by omega))
      refine ok_ix xi ?_
      rw [e710]
      refine ok_lt fun v33 e33 => ?_
      refine ok_ix (by rw [e33]; omega) ?_
      refine ok_lt fun s34 e34 => ?_
      refine on 0 s34 [69] og (by rw [e34]; exact pM_69 b7 (tI_rng _)) (by rw [e34]; exact FR.st FR.rf (by decide)) rfl ?_
      rw [e34, sti_o (by decide)]; omega
    refine ok_ite (fun c => ?_) (fun c116 => ?_)
    · refine ok_cals (s_throwsIt b7) (fun s35 q => ?_)
      exact hk x8 0 s35 ⟨q.1, FR.cal f7 q.2.1 rfl rfl, by rw [q.2.1.1 71 (by decide), s71]; omega, by rw [q.2.1.1 81 (by decide), hg]; exact s81, Or.inr (Or.inr ⟨by rw [q.2.1.1 74 (by decide)]; exact s74, q.2.2, by rw [hg]; exact Or.inr (Or.inr (by omega))⟩)⟩
    refine ok_ite (fun c => ?_) (fun c122 => ?_)
    · refine ok_jnI1 (fun v => TGT σ x.toNatClampNeg v (dP σ x.toNatClampNeg - ndI g + gvI g)) (fun v hv => hk v 0 s7 (hw0 v hv)) (fun k2 h2 => ?_)
      refine ok_ite (fun _ => ?_) (fun _ => h2 x8 (nx ⟨by omega, by omega, by omega⟩))
      refine ok_ix xi ?_
      rw [e710]
      exact ok_lt fun v38 e38 => h2 v38 (to v38 e38 (Or.inr (by omega)))
    · have og : gOnI g := ⟨by omega, by omega, by omega⟩
      refine ok_calv (s_result (a := v1) (b := t5) (c := t3) b7) (fun v39 s39 q => ?_)
      obtain ⟨q1, q2, q3⟩ := q
      (try dsimp only at q1 q2 q3)
      have f39 := FR.cal (ms := RCN) f7 q2 rfl rfl
      have a71 : s39.1 71 = s7.1 71 := q2.1 71 (by decide)
      have a74 : s39.1 74 = s7.1 74 := q2.1 74 (by decide)
      have a81 : s39.1 81 = s7.1 81 := q2.1 81 (by decide)
      refine hk x8 v39 s39 ⟨q1, f39, by rw [a71, s71]; omega, by rw [a81, hg]; exact s81, ?_⟩
      rcases q3 with z | ⟨z1, z2, z3, z4, z5, z6⟩
      · exact Or.inl ⟨by rw [a74]; exact s74, by rw [z]; exact s78, by rw [hg]; exact nx og⟩
      · refine Or.inr (Or.inr ⟨by rw [a74]; exact s74, z1, ?_⟩)
        rw [hg]
        have := vg.2.2
        unfold bareI at this
        have : g = 47 ∨ g = 37 := by omega
        rcases this with z | z
        · exact Or.inl z
        · exact Or.inr (Or.inl z)
