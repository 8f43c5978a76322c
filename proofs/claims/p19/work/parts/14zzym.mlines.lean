/-- how deep a line lies: what stands open ahead of it -/
def stp (h : Int32) (k : Int) : Int32 := if opK k then h + 1 else if clK k then h - 1 else h
def ntD (K : Nat → Int) : Nat → Int32
  | 0 => 0
  | i + 1 => stp (ntD K i) (K i)
def dpk (h : Int32) (k : Int) : Int32 := if clK k ∨ k = 4 then h - 1 else h
def dpD (K : Nat → Int) (i : Nat) : Int32 := dpk (ntD K i) (K i)
theorem ntD_cg {K K2 : Nat → Int} : ∀ n, (∀ i, i < n → K2 i = K i) → ntD K2 n = ntD K n
  | 0, _ => rfl
  | n + 1, h => by
    show stp (ntD K2 n) (K2 n) = stp (ntD K n) (K n)
    rw [ntD_cg n (fun i hi => h i (by omega)), h n (by omega)]
theorem dpD_cg {K K2 : Nat → Int} {n : Nat} (h : ∀ i, i ≤ n → K2 i = K i) : dpD K2 n = dpD K n := by
  unfold dpD
  rw [ntD_cg n (fun i hi => h i (by omega)), h n (Nat.le_refl _)]
theorem stp_o {h : Int32} {k : Int} (o : opK k) : stp h k = h + 1 := if_pos o
theorem stp_c {h : Int32} {k : Int} (o : clK k) : stp h k = h - 1 := by
  unfold stp
  rw [if_neg (by unfold opK; unfold clK at o; omega), if_pos o]
theorem stp_p {h : Int32} {k : Int} (o1 : ¬ opK k) (o2 : ¬ clK k) : stp h k = h := by
  unfold stp
  rw [if_neg o1, if_neg o2]
theorem dpk_p {h : Int32} {k : Int} (o1 : ¬ clK k) (o2 : k ≠ 4) : dpk h k = h := if_neg (fun z => z.elim o1 o2)
theorem dpk_c {h : Int32} {k : Int} (o : clK k ∨ k = 4) : dpk h k = h - 1 := if_pos o
theorem i32_back (h : Int32) : h - 1 + 1 = h := by
  rw [Int32.sub_add_cancel]
/-- the reference's depths -/
def DPM (s : Sto) : Prop := s.1 63 0 = ntD (kA s) (nL s) ∧ ∀ i, i < nL s → s.1 60 i = dpD (kA s) i
theorem DPM.nx {s t : Sto} {k : Int} (h : DPM s) (hn : nL t = nL s + 1) (hk : ∀ i, i < nL s → kA t i = kA s i ∧ t.1 60 i = s.1 60 i) (hkk : kA t (nL s) = k) (hd : t.1 60 (nL s) = dpk (s.1 63 0) k) (h63 : t.1 63 0 = stp (s.1 63 0) k) : DPM t := by
  have e := ntD_cg (K := kA s) (K2 := kA t) (nL s) (fun i hi => (hk i hi).1)
  refine ⟨?_, fun i hi => ?_⟩
  · rw [hn, h63, h.1]
    show _ = stp (ntD (kA t) (nL s)) (kA t (nL s))
    rw [hkk, e]
  · rw [hn] at hi
    by_cases q : i = nL s
    · rw [q, hd, h.1]
      unfold dpD
      rw [hkk, e]
    · have il : i < nL s := by omega
      rw [(hk i il).2, h.2 i il]
      exact (dpD_cg (fun j hj => (hk j (by omega)).1)).symm
theorem m_line {x1 x2 x3 : Int32} {s : Sto} : PC (f_X12_line x1 x2 x3 s) (fun t => nL t = nL s + 1 ∧ (∀ i, i < nL s → kA t i = kA s i ∧ t.1 60 i = s.1 60 i) ∧ kA t (nL s) = x1.toInt ∧ t.1 60 (nL s) = s.1 63 0 ∧ t.1 63 = s.1 63) := by
  unfold f_X12_line
  refine pc_ix (fun ib => ?_)
  have cb := clamp_I ib.1
  have nl_ : nL s = (s.1 62 0).toInt.toNat := rfl
  have jn_ : (s.1 62 0).toNatClampNeg = nL s := by omega
  refine pc_lt fun s1 e1 => ?_
  have a1 : s1.1 62 = s.1 62 := by rw [e1, sti_o (by decide)]
  rw [a1]
  refine pc_ix (fun _ => ?_)
  refine pc_lt fun s2 e2 => ?_
  have a2 : s2.1 62 = s.1 62 := by rw [e2, sti_o (by decide), a1]
  rw [a2]
  refine pc_ix (fun _ => ?_)
  refine pc_lt fun s3 e3 => ?_
  have a3 : s3.1 62 = s.1 62 := by rw [e3, sti_o (by decide), a2]
  rw [a3]
  refine pc_ix (fun _ => ?_)
  refine pc_lt fun s4 e4 => ?_
  have a4 : s4.1 62 = s.1 62 := by rw [e4, sti_o (by decide), a3]
  rw [a4]
  refine pc_lt fun s5 e5 => ?_
  rw [jn_] at e1 e2 e3 e4
  have r58 : ∀ i, s5.1 58 i = if i = nL s then x1 else s.1 58 i := fun i => by
    rw [e5, sti_o (by decide), e4, sti_o (by decide), e3, sti_o (by decide), e2, sti_o (by decide), e1, sti_if]
  have r63 : s3.1 63 = s.1 63 := by rw [e3, sti_o (by decide), e2, sti_o (by decide), e1, sti_o (by decide)]
  have r60 : ∀ i, s5.1 60 i = if i = nL s then s.1 63 0 else s.1 60 i := fun i => by
    rw [e5, sti_o (by decide), e4, sti_if, r63, e3, sti_o (by decide), e2, sti_o (by decide), e1, sti_o (by decide)]
  refine pc_ret ⟨?_, fun i hi => ⟨?_, ?_⟩, ?_, ?_, ?_⟩
  · show (s5.1 62 0).toInt.toNat = _
    rw [e5, sti_s, i1 (by omega)]
    show ((s.1 62 0).toInt + 1).toNat = (s.1 62 0).toInt.toNat + 1
    omega
  · show (s5.1 58 i).toInt = _
    rw [r58, if_neg (by omega)]
  · rw [r60, if_neg (by omega)]
  · show (s5.1 58 (nL s)).toInt = _
    rw [r58, if_pos rfl]
  · rw [r60, if_pos rfl]
  · rw [e5, sti_o (by decide), e4, sti_o (by decide), r63]
section
variable {x1 x2 x3 : Int32} {s t : Sto}
theorem d_line (h : DPM s) (hp : plK x1.toInt) : PC (f_X12_line x1 x2 x3 s) DPM := pc_imp m_line (fun t q => by
  obtain ⟨q1, q2, q3, q4, q5⟩ := q
  exact h.nx q1 q2 q3 (by rw [q4, dpk_p hp.2.2 hp.2.1]) (by rw [q5, stp_p hp.1 hp.2.2]))
theorem d_opens (h : DPM s) (hp : opK x1.toInt) : PC (f_X12_opens x1 x2 s) DPM := by
  unfold f_X12_opens
  refine pc_cals m_line (fun t q => ?_)
  obtain ⟨q1, q2, q3, q4, q5⟩ := q
  refine pc_lt fun s2 e2 => ?_
  have o : ∀ {k : Nat}, k ≠ 63 → s2.1 k = t.1 k := fun {k} hk => by rw [e2, sti_o hk]
  have n2 : nL s2 = nL t := by unfold nL; rw [o (by decide)]
  have k2 : ∀ i, kA s2 i = kA t i := fun i => by unfold kA; rw [o (by decide)]
  have np : ¬ (clK x1.toInt ∨ x1.toInt = 4) := by unfold opK at hp; unfold clK; omega
  refine pc_ret (h.nx (k := x1.toInt) (by rw [n2]; exact q1) (fun i hi => ⟨by rw [k2]; exact (q2 i hi).1, by rw [o (by decide)]; exact (q2 i hi).2⟩) (by rw [k2]; exact q3) (by rw [o (by decide), q4]; exact (if_neg np).symm) ?_)
  rw [e2, sti_s, q5, stp_o hp]
theorem d_closes (h : DPM s) : PC (f_X12_closes x1 x2 s) DPM := by
  have k_5 : (5 : Int32).toInt = 5 := by decide +kernel
  unfold f_X12_closes
  refine pc_lt fun s1 e1 => ?_
  refine pc_cals m_line (fun t q => ?_)
  obtain ⟨q1, q2, q3, q4, q5⟩ := q
  have o : ∀ {k : Nat}, k ≠ 63 → s1.1 k = s.1 k := fun {k} hk => by rw [e1, sti_o hk]
  have n2 : nL s1 = nL s := by unfold nL; rw [o (by decide)]
  have k2 : ∀ i, kA s1 i = kA s i := fun i => by unfold kA; rw [o (by decide)]
  have c5 : clK 5 := Or.inl rfl
  rw [n2] at q1 q2 q3 q4
  refine pc_ret (h.nx (k := 5) q1 (fun i hi => ⟨by rw [← k2]; exact (q2 i hi).1, by rw [(q2 i hi).2, o (by decide)]⟩) (by rw [q3]; exact k_5) ?_ ?_)
  · rw [q4, dpk_c (Or.inl c5), e1, sti_s]
  · rw [q5, stp_c c5, e1, sti_s]
theorem d_else (h : DPM s) (e1 : t = sti s 63 0 ((s.1 63 0) - 1)) : PC (f_X12_opens 4 x2 t) DPM := by
  have k_4 : (4 : Int32).toInt = 4 := by decide +kernel
  unfold f_X12_opens
  refine pc_cals m_line (fun u q => ?_)
  obtain ⟨q1, q2, q3, q4, q5⟩ := q
  have o : ∀ {k : Nat}, k ≠ 63 → t.1 k = s.1 k := fun {k} hk => by rw [e1, sti_o hk]
  have n2 : nL t = nL s := by unfold nL; rw [o (by decide)]
  have k2 : ∀ i, kA t i = kA s i := fun i => by unfold kA; rw [o (by decide)]
  have t63 : t.1 63 0 = s.1 63 0 - 1 := by rw [e1, sti_s]
  rw [n2] at q1 q2 q3 q4
  refine pc_lt fun s2 e2 => ?_
  have p : ∀ {k : Nat}, k ≠ 63 → s2.1 k = u.1 k := fun {k} hk => by rw [e2, sti_o hk]
  have n3 : nL s2 = nL u := by unfold nL; rw [p (by decide)]
  have k3 : ∀ i, kA s2 i = kA u i := fun i => by unfold kA; rw [p (by decide)]
  refine pc_ret (h.nx (k := 4) (by rw [n3]; exact q1) (fun i hi => ⟨by rw [k3, ← k2]; exact (q2 i hi).1, by rw [p (by decide), (q2 i hi).2, o (by decide)]⟩) (by rw [k3, q3]; exact k_4) ?_ ?_)
  · rw [p (by decide), q4, dpk_c (Or.inr rfl), t63]
  · rw [e2, sti_s, q5, t63, i32_back, stp_p (by unfold opK; decide) (by unfold clK; decide)]
theorem d_catch (h : DPM s) (e1 : t = sti s 63 0 ((s.1 63 0) - 1)) : PC (f_X12_line 10 x2 x3 t) DPM := pc_imp m_line (fun u q => by
  have k_10 : (10 : Int32).toInt = 10 := by decide +kernel
  obtain ⟨q1, q2, q3, q4, q5⟩ := q
  have o : ∀ {k : Nat}, k ≠ 63 → t.1 k = s.1 k := fun {k} hk => by rw [e1, sti_o hk]
  have n2 : nL t = nL s := by unfold nL; rw [o (by decide)]
  have k2 : ∀ i, kA t i = kA s i := fun i => by unfold kA; rw [o (by decide)]
  have t63 : t.1 63 0 = s.1 63 0 - 1 := by rw [e1, sti_s]
  have c10 : clK 10 := Or.inr rfl
  rw [n2] at q1 q2 q3 q4
  exact h.nx (k := 10) q1 (fun i hi => ⟨by rw [← k2]; exact (q2 i hi).1, by rw [(q2 i hi).2, o (by decide)]⟩) (by rw [q3]; exact k_10) (by rw [q4, dpk_c (Or.inl c10), t63]) (by rw [q5, stp_c c10, t63]))
end
def WDP (d : Nat) : Prop := (∀ x s, DPM s → PC (f_X12_tells_ d x s) DPM) ∧ (∀ x k s, DPM s → PC (f_X12_merges d x k s) DPM) ∧ (∀ x s, DPM s → PC (f_X12_inner d x s) DPM) ∧ ∀ x y s, DPM s → PC (f_X12_goes d x y s) DPM
theorem pl_dec {k : Int} (h : k = 0 ∨ k = 6 ∨ k = 7 ∨ k = 8 ∨ k = 11) : plK k := ⟨by unfold opK; omega, by omega, by unfold clK; omega⟩
theorem wd_all : ∀ d, WDP d
  | 0 => ⟨fun _ _ _ => pc_no, fun _ _ _ _ => pc_no, fun _ _ _ => pc_no, fun _ _ _ _ => pc_no⟩
  | d + 1 => by
    have k_0 : (0 : Int32).toInt = 0 := by decide +kernel
    have k_1 : (1 : Int32).toInt = 1 := by decide +kernel
    have k_2 : (2 : Int32).toInt = 2 := by decide +kernel
    have k_3 : (3 : Int32).toInt = 3 := by decide +kernel
    have k_6 : (6 : Int32).toInt = 6 := by decide +kernel
    have k_7 : (7 : Int32).toInt = 7 := by decide +kernel
    have k_8 : (8 : Int32).toInt = 8 := by decide +kernel
    have k_9 : (9 : Int32).toInt = 9 := by decide +kernel
    have k_11 : (11 : Int32).toInt = 11 := by decide +kernel
    obtain ⟨hT, hM, hI, hG⟩ := wd_all d
    refine ⟨fun x s h => ?_, fun x k s h => ?_, fun x s h => ?_, fun x y s h => ?_⟩
    · show PC (b_X12_tells_ (f_X12_goes d) (f_X12_inner d) (f_X12_merges d) (f_X12_tells_ d) x s) DPM
      unfold b_X12_tells_
      refine pc_ix (fun _ => ?_)
      refine pc_lt fun v1 _ => ?_
      refine pc_jnI1 DPM (fun u hu => ?_) (fun k hk => ?_)
      · refine pc_cals (hM _ _ _ hu) (fun u3 h3 => ?_)
        refine pc_ix (fun _ => ?_)
        refine pc_lt fun v4 _ => ?_
        refine pc_ite (fun _ => pc_ret h3) (fun _ => ?_)
        exact pc_cals (d_closes h3) (fun u6 h6 => pc_ret h6)
      · refine pc_ite (fun _ => hk s h) (fun _ => ?_)
        exact pc_cals (d_opens h (Or.inl k_1)) (fun u8 h8 => hk u8 h8)
    · show PC (b_X12_merges (f_X12_goes d) (f_X12_inner d) (f_X12_merges d) (f_X12_tells_ d) x k s) DPM
      unfold b_X12_merges
      refine pc_itr2 (fun _ _ => True) ?_ trivial
      intro ag m z _ ih
      refine pc_ite (fun _ => ?_) (fun _ => ?_)
      · refine pc_ite (fun _ => ?_) (fun _ => ?_)
        · exact pc_cals (hI _ _ h) (fun u hu => pc_ret hu)
        · refine pc_cals (d_opens h (Or.inr (Or.inl k_2))) (fun u5 h5 => ?_)
          refine pc_ix (fun _ => ?_)
          refine pc_lt fun v6 _ => ?_
          refine pc_cals (hM _ _ _ h5) (fun u7 h7 => ?_)
          refine pc_cals (d_closes h7) (fun u8 h8 => ?_)
          exact pc_cals (hT _ _ h8) (fun u9 h9 => pc_ret h9)
      · refine pc_ix (fun _ => ?_)
        refine pc_lt fun v10 _ => ?_
        refine pc_jnI1 (fun _ => True) (fun x3 _ => ?_) (fun k69 hk => ?_)
        · exact pc_lt fun x4 _ => ih x3 x4 trivial
        · refine pc_ite (fun _ => ?_) (fun _ => hk _ trivial)
          refine pc_calp (Q := fun _ => True) (fun _ _ => trivial) (fun v14 _ => ?_)
          refine pc_ite (fun _ => hk _ trivial) (fun _ => ?_)
          refine pc_ix (fun _ => ?_)
          refine pc_lt fun v16 _ => ?_
          refine pc_ite (fun _ => hk _ trivial) (fun _ => ?_)
          refine pc_jnI0 True (fun _ => hk _ trivial) (fun k66 hk66 => ?_)
          refine pc_ite (fun _ => hk66 trivial) (fun _ => ?_)
          refine pc_ix (fun _ => ?_)
          refine pc_lt fun v20 _ => ?_
          refine pc_ix (fun _ => ?_)
          refine pc_lt fun v21 _ => ?_
          exact pc_ite (fun _ => hk _ trivial) (fun _ => hk66 trivial)
    · show PC (b_X12_inner (f_X12_goes d) (f_X12_inner d) (f_X12_merges d) (f_X12_tells_ d) x s) DPM
      unfold b_X12_inner
      refine pc_cals (d_line h (pl_dec (by omega))) (fun s1 h1 => ?_)
      refine pc_ix (fun _ => ?_)
      refine pc_lt fun v2 _ => ?_
      refine pc_jnI1 (fun _ => True) (fun t0 _ => ?_) (fun k23 hk23 => ?_)
      · refine pc_jnI1 DPM (fun s4 h4 => ?_) (fun k35 hk35 => ?_)
        · refine pc_ix (fun _ => ?_)
          refine pc_lt fun v5 _ => ?_
          refine pc_itr2 (fun _ u => DPM u) ?_ h4
          intro ag j u hu ih
          refine pc_ix (fun _ => ?_)
          refine pc_lt fun v7 _ => ?_
          refine pc_ite (fun _ => ?_) (fun _ => ?_)
          · refine pc_jnI1 DPM (fun s9 h9 => ?_) (fun k94 hk94 => ?_)
            · refine pc_ix (fun _ => ?_)
              refine pc_lt fun v10 _ => ?_
              refine pc_ix (fun _ => ?_)
              refine pc_lt fun v11 _ => ?_
              refine pc_calp (Q := fun _ => True) (fun _ _ => trivial) (fun v12 _ => ?_)
              refine pc_ite (fun _ => ?_) (fun _ => ?_)
              · refine pc_ite (fun _ => ?_) (fun _ => ?_)
                · refine pc_ix (fun _ => ?_)
                  refine pc_lt fun v15 _ => ?_
                  refine pc_ix (fun _ => ?_)
                  refine pc_lt fun v16 _ => ?_
                  refine pc_ix (fun _ => ?_)
                  refine pc_lt fun v17 _ => ?_
                  exact pc_cals (hG _ _ _ h9) (fun u hu => pc_ret hu)
                · refine pc_calp (Q := fun _ => True) (fun _ _ => trivial) (fun v19 _ => ?_)
                  refine pc_ite (fun _ => pc_ret h9) (fun _ => ?_)
                  refine pc_ix (fun _ => ?_)
                  refine pc_lt fun v21 _ => ?_
                  refine pc_ix (fun _ => ?_)
                  refine pc_lt fun v22 _ => ?_
                  exact pc_cals (hG _ _ _ h9) (fun u hu => pc_ret hu)
              · refine pc_cals (d_opens h9 (Or.inr (Or.inr (Or.inl k_3)))) (fun s24 h24 => ?_)
                refine pc_ix (fun _ => ?_)
                refine pc_lt fun v25 _ => ?_
                refine pc_ix (fun _ => ?_)
                refine pc_lt fun v26 _ => ?_
                refine pc_cals (hG _ _ _ h24) (fun s27 h27 => ?_)
                refine pc_lt fun s28 e28 => ?_
                refine pc_cals (d_else h27 e28) (fun s29 h29 => ?_)
                refine pc_ix (fun _ => ?_)
                refine pc_lt fun v30 _ => ?_
                refine pc_ix (fun _ => ?_)
                refine pc_lt fun v31 _ => ?_
                refine pc_ix (fun _ => ?_)
                refine pc_lt fun v32 _ => ?_
                refine pc_cals (hG _ _ _ h29) (fun s33 h33 => ?_)
                exact pc_cals (d_closes h33) (fun u hu => pc_ret hu)
            · refine pc_ite (fun _ => hk94 _ hu) (fun _ => ?_)
              refine pc_lt fun s36 e36 => ?_
              refine pc_ix (fun _ => ?_)
              refine pc_lt fun v37 _ => ?_
              exact pc_cals (d_catch hu e36) (fun w hw => hk94 w hw)
          · refine pc_cals (d_line hu (pl_dec (by omega))) (fun s39 h39 => ?_)
            exact pc_lt fun x40 _ => ih x40 s39 h39
        · refine pc_ite (fun _ => hk35 _ h1) (fun _ => ?_)
          exact pc_cals (d_opens h1 (Or.inr (Or.inr (Or.inr k_9)))) (fun w hw => hk35 w hw)
      · exact pc_ite (fun _ => hk23 _ trivial) (fun _ => hk23 _ trivial)
    · show PC (b_X12_goes (f_X12_goes d) (f_X12_inner d) (f_X12_merges d) (f_X12_tells_ d) x y s) DPM
      unfold b_X12_goes
      refine pc_calp (Q := fun _ => True) (fun _ _ => trivial) (fun v1 _ => ?_)
      refine pc_ix (fun _ => ?_)
      refine pc_lt fun v2 _ => ?_
      refine pc_ite (fun _ => ?_) (fun _ => ?_)
      · refine pc_ix (fun _ => ?_)
        refine pc_lt fun v4 _ => ?_
        refine pc_ite (fun _ => ?_) (fun _ => ?_)
        · refine pc_calp (Q := fun _ => True) (fun _ _ => trivial) (fun v6 _ => ?_)
          refine pc_ite (fun _ => ?_) (fun _ => ?_)
          · exact pc_cals (hT _ _ h) (fun u hu => pc_ret hu)
          · exact pc_cals (d_line h (pl_dec (by omega))) (fun u hu => pc_ret hu)
        · exact pc_cals (d_line h (pl_dec (by omega))) (fun u hu => pc_ret hu)
      · exact pc_cals (d_line h (pl_dec (by omega))) (fun u hu => pc_ret hu)
/-- the depths go with their lines -/
theorem m_thins60 {s : Sto} : PC (f_X12_thins s) (fun t => ∀ i, i < nL s → (s.1 64 i).toInt = 0 → t.1 60 (kpt s i) = s.1 60 i) := by
  have k_0 : (0 : Int32).toInt = 0 := by decide +kernel
  have c0 : (0 : Int32).toNatClampNeg = 0 := by have := clamp_I (x := 0) (by omega); omega
  unfold f_X12_thins
  refine pc_itr3 (fun a b u => 0 ≤ b.toInt ∧ a.toInt = (kpt s b.toNatClampNeg : Int) ∧ u.1 62 = s.1 62 ∧ u.1 64 = s.1 64 ∧ (∀ i, b.toNatClampNeg ≤ i → u.1 60 i = s.1 60 i) ∧ ∀ i, i < b.toNatClampNeg → (s.1 64 i).toInt = 0 → u.1 60 (kpt s i) = s.1 60 i) ?_ ⟨by omega, by rw [c0, kpt_0]; exact k_0, rfl, rfl, fun _ _ => rfl, fun i hi => by omega⟩
  intro ag a b u I ih
  obtain ⟨b0, ha, e62, e64, u3, u4⟩ := I
  have cb := clamp_I b0
  have le2 : kpt s b.toNatClampNeg ≤ b.toNatClampNeg := kpt_le s _
  have ca : (a.toNatClampNeg : Int) = a.toInt := clamp_I (by omega)
  refine pc_ite (fun c1 => ?_) (fun c1 => ?_)
  · rw [fa_le, e62] at c1
    refine pc_lt fun s3 e3 => ?_
    have nl_ : nL s = (s.1 62 0).toInt.toNat := rfl
    refine pc_ret (fun i hi hm => ?_)
    rw [e3, sti_o (by decide)]
    exact u4 i (by omega) hm
  · rw [fa_le, e62] at c1
    refine pc_ix (fun ib => ?_)
    have nb : (b + 1).toInt = b.toInt + 1 ∧ (b + 1).toNatClampNeg = b.toNatClampNeg + 1 := by
      have h1 : (b + 1).toInt = b.toInt + 1 := i1 (by omega)
      have h2 := clamp_I (x := b + 1) (by omega)
      exact ⟨h1, by omega⟩
    rw [e64]
    refine pc_lt fun v4 e4 => ?_
    refine pc_jn ?_
    refine pc_ite (fun c2 => ?_) (fun c2 => ?_)
    · rw [fa_eq, k_0, e4] at c2
      have ks := kpt_y c2
      refine pc_ix (fun _ => ?_)
      refine pc_lt fun v8 e8 => ?_
      refine pc_ix (fun _ => ?_)
      refine pc_lt fun s9 e9 => ?_
      refine pc_ix (fun _ => ?_)
      refine pc_lt fun v10 e10 => ?_
      refine pc_ix (fun _ => ?_)
      refine pc_lt fun s11 e11 => ?_
      refine pc_ix (fun _ => ?_)
      refine pc_lt fun v12 e12 => ?_
      refine pc_ix (fun _ => ?_)
      refine pc_lt fun s13 e13 => ?_
      refine pc_ix (fun _ => ?_)
      refine pc_lt fun v14 e14 => ?_
      refine pc_ix (fun _ => ?_)
      refine pc_lt fun s15 e15 => ?_
      refine pc_lt fun x16 e16 => ?_
      have ex : x16.toInt = a.toInt + 1 := by rw [e16]; exact i1 (by omega)
      refine pc_lt fun x6 e6 => ?_
      subst e6
      have q13 : ∀ {k : Nat}, k = 60 ∨ k = 62 ∨ k = 64 → s13.1 k = u.1 k := fun {k} hk => by
        rw [e13, sti_o (by omega), e11, sti_o (by omega), e9, sti_o (by omega)]
      have r60 : ∀ j, s15.1 60 j = if j = a.toNatClampNeg then u.1 60 b.toNatClampNeg else u.1 60 j := fun j => by
        rw [e15, sti_if, e14, q13 (Or.inl rfl)]
      refine ih x16 (b + 1) s15 ⟨by omega, by rw [nb.2]; omega, by rw [e15, sti_o (by decide), q13 (by omega), e62], by rw [e15, sti_o (by decide), q13 (by omega), e64], fun i hi => ?_, fun i hi hm => ?_⟩
      · rw [nb.2] at hi
        rw [r60, if_neg (by omega)]
        exact u3 i (by omega)
      · rw [nb.2] at hi
        by_cases q : i = b.toNatClampNeg
        · rw [q, r60, if_pos (by omega)]
          exact u3 _ (Nat.le_refl _)
        · have il : i < b.toNatClampNeg := by omega
          have lt1 := kpt_y hm
          have lt2 := kpt_mono s (m := i + 1) (n := b.toNatClampNeg) (by omega)
          rw [r60, if_neg (by omega)]
          exact u4 i il hm
    · rw [fa_eq, k_0, e4] at c2
      have ks := kpt_n c2
      refine pc_lt fun x6 e6 => ?_
      subst e6
      refine ih a (b + 1) u ⟨by omega, by rw [nb.2]; omega, e62, e64, fun i hi => u3 i (by rw [nb.2] at hi; omega), fun i hi hm => ?_⟩
      rw [nb.2] at hi
      by_cases q : i = b.toNatClampNeg
      · rw [q] at hm; exact absurd hm c2
      · exact u4 i (by omega) hm
