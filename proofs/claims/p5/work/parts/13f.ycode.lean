theorem s_wrongQ {σ : Sto} (hB : BM σ) (h1 : 1 ≤ (σ.1 17 0).toInt) (hV : ∀ i, i < (σ.1 17 0).toInt.toNat → VG (ri (σ.1 12) i) (ri (σ.1 13) i)) : OK (f_X12_wrong σ) (fun r => (-6 ≤ r.1.toInt ∧ r.1.toInt ≤ 0) ∧ BM r.2 ∧ FR [19] [] σ r.2 ∧ (0 ≤ r.1.toInt → QLc r.2)) := by
  refine ok_imp (s_X12_wrong hB h1) (fun r q => ?_)
  obtain ⟨q1, q2, q3, q4, q5⟩ := q
  refine ⟨q1, q2, q3, fun h0 => ?_⟩
  have hL : LDP (σ.1 17 0).toInt.toNat (σ.1 18 0).toInt.toNat (ri (σ.1 12)) (ri (σ.1 13)) (ri (h3 (σ.1 14) 0)) (ri (h3 (σ.1 14) 1)) (ri (h3 (σ.1 14) 2)) := Classical.byContradiction fun z => by
    have := q5 z; omega
  have e := q4 hL
  have e1 : r.1.toInt = (JUP (σ.1 17 0).toInt.toNat (σ.1 18 0).toInt.toNat (ri (σ.1 12)) (ri (σ.1 13)) (ri (h3 (σ.1 14) 0)) (ri (h3 (σ.1 14) 1)) (ri (h3 (σ.1 14) 2))).1 := congrArg Prod.fst e
  have e2 : mk (σ.1 17 0).toInt.toNat (r.2.1 19) = (JUP (σ.1 17 0).toInt.toNat (σ.1 18 0).toInt.toNat (ri (σ.1 12)) (ri (σ.1 13)) (ri (h3 (σ.1 14) 0)) (ri (h3 (σ.1 14) 1)) (ri (h3 (σ.1 14) 2))).2 := congrArg Prod.snd e
  have R := JUP_ok (n := (σ.1 17 0).toInt.toNat) (hs := (σ.1 18 0).toInt.toNat) (sg := ri (σ.1 12)) (nm := ri (σ.1 13)) (fr := ri (h3 (σ.1 14) 0)) (up := ri (h3 (σ.1 14) 1)) (go := ri (h3 (σ.1 14) 2)) (by omega) (fun i hi g => ⟨(gM_13 hB i).1, hL.1 i hi g⟩) (fun h hl => ⟨(gM_14 hB _).1, (hL.2 h hl).2.2⟩) (by rw [← e1]; omega)
  rw [← e2] at R
  unfold QLc
  rw [q3.1 12 (by decide), q3.1 13 (by decide), q3.1 14 (by decide), q3.1 17 (by decide), q3.1 18 (by decide)]
  exact ⟨h1, hV, hL, R⟩
theorem s_isIn {a b c : Int64} : OK (f_X12_isIn a b c) (fun v => (v.toInt = 0 ∨ v.toInt = 1) ∧ (v.toInt ≠ 0 ↔ b.toInt ≤ a.toInt ∧ a.toInt ≤ c.toInt)) := by
  have k_0 : (0 : Int32).toInt = 0 := by decide +kernel
  have k_1 : (1 : Int32).toInt = 1 := by decide +kernel
  unfold f_X12_isIn
  refine ok_jnI0 (¬ (b.toInt ≤ a.toInt ∧ a.toInt ≤ c.toInt)) (fun h => ok_ret ⟨Or.inl k_0, fun z => absurd k_0 z, fun z => absurd z h⟩) (fun k hk => ?_)
  refine ok_ite (fun c1 => ?_) (fun c1 => ?_)
  · rw [lg_cmp_lt, Int64.lt_iff_toInt_lt] at c1
    exact hk (fun z => by omega)
  · rw [lg_cmp_lt, Int64.lt_iff_toInt_lt] at c1
    refine ok_ite (fun c2 => ?_) (fun c2 => ?_)
    · rw [lg_cmp_gt, Int64.lt_iff_toInt_lt] at c2
      exact hk (fun z => by omega)
    · rw [lg_cmp_gt, Int64.lt_iff_toInt_lt] at c2
      exact ok_ret ⟨Or.inr k_1, fun _ => ⟨by omega, by omega⟩, fun _ => by rw [k_1]; decide⟩
theorem i64_0 : (0 : Int64).toInt = 0 := by decide +kernel
theorem s_isCode {x y : Int32} : OK (f_X12_isCode x y) (fun v => (v.toInt = 0 ∨ v.toInt = 1) ∧ (v.toInt ≠ 0 → (0 ≤ x.toInt ∧ x.toInt ≤ 255) ∧ (0 ≤ y.toInt ∧ y.toInt ≤ 999) ∧ VG x.toInt y.toInt)) := by
  have k_0 : (0 : Int32).toInt = 0 := by decide +kernel
  have k_1 : (1 : Int32).toInt = 1 := by decide +kernel
  have k_5 : (5 : Int32).toInt = 5 := by decide +kernel
  have k_39 : (39 : Int32).toInt = 39 := by decide +kernel
  have k_999 : (999 : Int32).toInt = 999 := by decide +kernel
  have k_m1 : ((-1) : Int32).toInt = -1 := by decide +kernel
  have k_107 : (107 : Int32).toInt = 107 := by decide +kernel
  have k_108 : (108 : Int32).toInt = 108 := by decide +kernel
  have k_115 : (115 : Int32).toInt = 115 := by decide +kernel
  have k_103 : (103 : Int32).toInt = 103 := by decide +kernel
  have k_122 : (122 : Int32).toInt = 122 := by decide +kernel
  unfold f_X12_isCode
  refine ok_calp s_X12_isPlain (fun v1 q => ?_)
  refine ok_ite (fun c1 => ?_) (fun c1 => ?_)
  · refine ok_jnI1 (fun t => (t.toInt = 999 ∧ x.toInt = 107) ∨ (t.toInt = 5 ∧ (x.toInt = 108 ∨ x.toInt = 115)) ∨ (t.toInt = 39 ∧ (x.toInt = 103 ∨ x.toInt = 122)) ∨ t.toInt = -1) (fun t ht => ?_) (fun k hk => ?_)
    · refine ok_calp s_isIn (fun v4 r => ?_)
      rw [Int32.toInt_toInt64, Int32.toInt_toInt64, i64_0] at r
      refine ok_bz (by rw [fa_eq, fa_eq, k_0, k_1]; exact r.1) ?_
      refine ok_ret ⟨r.1, fun z => ?_⟩
      have w := r.2.mp z
      unfold VG
      rcases ht with ⟨t1, t2⟩ | ⟨t1, t2⟩ | ⟨t1, t2⟩ | t1
      · exact ⟨by omega, by omega, fun z => by omega, fun z => by omega, by omega⟩
      · exact ⟨by omega, by omega, fun z => by omega, fun z => by omega, by omega⟩
      · exact ⟨by omega, by omega, fun z => by omega, fun z => by omega, by omega⟩
      · omega
    · refine ok_ite (fun c2 => ?_) (fun c2 => ?_)
      · rw [fa_eq, k_107] at c2; exact hk 999 (Or.inl ⟨k_999, c2⟩)
      · refine ok_jnI0 (x.toInt = 108 ∨ x.toInt = 115) (fun h => hk 5 (Or.inr (Or.inl ⟨k_5, h⟩))) (fun k2 hk2 => ?_)
        refine ok_ite (fun c3 => ?_) (fun c3 => ?_)
        · rw [fa_eq, k_108] at c3; exact hk2 (Or.inl c3)
        · refine ok_ite (fun c4 => ?_) (fun c4 => ?_)
          · rw [fa_eq, k_115] at c4; exact hk2 (Or.inr c4)
          · refine ok_jnI0 (x.toInt = 103 ∨ x.toInt = 122) (fun h => hk 39 (Or.inr (Or.inr (Or.inl ⟨k_39, h⟩)))) (fun k3 hk3 => ?_)
            refine ok_ite (fun c5 => ?_) (fun c5 => ?_)
            · rw [fa_eq, k_103] at c5; exact hk3 (Or.inl c5)
            · refine ok_ite (fun c6 => ?_) (fun c6 => ?_)
              · rw [fa_eq, k_122] at c6; exact hk3 (Or.inr c6)
              · exact hk (-1) (Or.inr (Or.inr (Or.inr k_m1)))
  · rw [fa_eq, k_0] at c1
    have hb : bareI x.toInt := q.2.mp (by omega)
    refine ok_ite (fun c2 => ?_) (fun c2 => ok_ret ⟨Or.inl k_0, fun z => absurd k_0 z⟩)
    rw [fa_eq, k_0] at c2
    refine ok_ret ⟨Or.inr k_1, fun _ => ⟨?_, by omega, ?_⟩⟩
    · unfold bareI at hb; omega
    · unfold VG
      exact ⟨fun _ => by omega, fun _ => by omega, Or.inl hb⟩
