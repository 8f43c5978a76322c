theorem ok_pc {α : Type} {o : Option α} {P Q : α → Prop} (h : OK o P) (k : ∀ a, o = some a → Q a) : OK o Q := by
  obtain ⟨a, e, _⟩ := h
  exact ⟨a, e, k a e⟩
theorem ad_1 {σ s : Sto} (hf : f_X11_adoptDraft σ = some s) : s.1 0 0 = 1 := by
  unfold f_X11_adoptDraft at hf
  obtain ⟨s1, -, hf⟩ := cals_inv hf
  obtain ⟨s2, -, hf⟩ := cals_inv hf
  obtain ⟨s3, -, hf⟩ := cals_inv hf
  obtain ⟨s4, -, hf⟩ := cals_inv hf
  obtain ⟨s5, -, hf⟩ := cals_inv hf
  obtain ⟨s6, -, hf⟩ := cals_inv hf
  obtain ⟨s7, -, hf⟩ := lt_inv hf
  obtain ⟨k, hk, hf⟩ := jn_inv1 hf
  have fin : ∀ s8, k s8 = some s → s.1 0 0 = 1 := fun s8 h => by
    obtain ⟨s9, e9, h⟩ := lt_inv (hk s8 h)
    have h := Option.some.inj h
    rw [← h, e9, sti_if, if_pos rfl]
  by_cases c : s7.1 34 0 = 0
  · obtain ⟨s11, -, hf⟩ := cals_inv (it_t c hf)
    exact fin _ hf
  · exact fin _ (it_f c hf)
/-- a listing is what a tape says: the class's rows -/
def LXa (n : Nat) (c : Nat → Int) (s : Sto) : Prop := (s.1 0 0).toInt ≠ 0 ∧ (s.1 4 0).toInt.toNat = (paQ n c).2.2.1 ∧ (s.1 5 0).toInt.toNat = (paR n c).2.2.1 ∧ (∀ i, i < (paQ n c).2.2.1 → ri (s.1 6) i = (paQ n c).2.2.2.1 i ∧ ri (s.1 7) i = (paQ n c).2.2.2.2 i) ∧ (∀ h, h < (paR n c).2.2.1 → ri (s.1 9) h = (paR n c).2.2.2.1 h ∧ ri (s.1 10) h = (paR n c).2.2.2.2.1 h ∧ ri (s.1 11) h = (paR n c).2.2.2.2.2 h) ∧ mk (paQ n c).2.2.1 (s.1 8) = (JUP (paQ n c).2.2.1 (paR n c).2.2.1 (paQ n c).2.2.2.1 (paQ n c).2.2.2.2 (paR n c).2.2.2.1 (paR n c).2.2.2.2.1 (paR n c).2.2.2.2.2).2
/-- the reference's -/
def LMa (n : Nat) (c : Nat → Int) (s : Sto) : Prop := (s.1 21 0).toInt ≠ 0 ∧ (s.1 15 0).toInt.toNat = (paQ n c).2.2.1 ∧ (s.1 16 0).toInt.toNat = (paR n c).2.2.1 ∧ (∀ i, i < (paQ n c).2.2.1 → ri (s.1 9) i = (paQ n c).2.2.2.1 i ∧ ri (s.1 10) i = (paQ n c).2.2.2.2 i) ∧ (∀ h, h < (paR n c).2.2.1 → ri (h3 (s.1 11) 0) h = (paR n c).2.2.2.1 h ∧ ri (h3 (s.1 11) 1) h = (paR n c).2.2.2.2.1 h ∧ ri (h3 (s.1 11) 2) h = (paR n c).2.2.2.2.2 h) ∧ mk (paQ n c).2.2.1 (s.1 20) = (JUP (paQ n c).2.2.1 (paR n c).2.2.1 (paQ n c).2.2.2.1 (paQ n c).2.2.2.2 (paR n c).2.2.2.1 (paR n c).2.2.2.2.1 (paR n c).2.2.2.2.2).2
theorem LSA.of {n : Nat} {c : Nat → Int} {σ s : Sto} (hB : BX σ) (hM : BM s) (a : LXa n c σ) (b : LMa n c s) (k : BKX σ) : LSA σ s := by
  obtain ⟨a1, a2, a3, a4, a5, a6⟩ := a
  obtain ⟨b1, b2, b3, b4, b5, b6⟩ := b
  have g4 := gX_4 hB 0
  have g5 := gX_5 hB 0
  have g15 := gM_15 hM 0
  have g16 := gM_16 hM 0
  refine Or.inr ⟨a1, b1, by omega, by omega, fun i hi => ?_, fun h hh => ?_, ?_, k⟩
  · rw [b2] at hi
    exact ⟨Int32.toInt_inj.mp ((a4 i hi).1.trans (b4 i hi).1.symm), Int32.toInt_inj.mp ((a4 i hi).2.trans (b4 i hi).2.symm)⟩
  · rw [b3] at hh
    exact ⟨Int32.toInt_inj.mp ((a5 h hh).1.trans (b5 h hh).1.symm), Int32.toInt_inj.mp ((a5 h hh).2.1.trans (b5 h hh).2.1.symm), Int32.toInt_inj.mp ((a5 h hh).2.2.trans (b5 h hh).2.2.symm)⟩
  · rw [b2, a6, b6]
/-- rows that say what was read, and their depths -/
theorem LT.of {n : Nat} {c : Nat → Int} {z w : Nat} {r1 r2 r3 r4 r5 q1 q2 q3 q4 q5 d : Nat → Int32} {v : Int} {e : Nat → Int} (hq : EqQ n c z (mk0 z r1) (mk0 z r2)) (hr : EqR n c w (mk0 w r3) (mk0 w r4) (mk0 w r5)) (h1 : ∀ i, i < z → q1 i = r1 i ∧ q2 i = r2 i) (h2 : ∀ h, h < w → q3 h = r3 h ∧ q4 h = r4 h ∧ q5 h = r5 h) (j1 : (v, e) = JUP z w (ri r1) (ri r2) (ri r3) (ri r4) (ri r5)) (hd : mk z d = e) : z = (paQ n c).2.2.1 ∧ w = (paR n c).2.2.1 ∧ (∀ i, i < (paQ n c).2.2.1 → ri q1 i = (paQ n c).2.2.2.1 i ∧ ri q2 i = (paQ n c).2.2.2.2 i) ∧ (∀ h, h < (paR n c).2.2.1 → ri q3 h = (paR n c).2.2.2.1 h ∧ ri q4 h = (paR n c).2.2.2.2.1 h ∧ ri q5 h = (paR n c).2.2.2.2.2 h) ∧ mk (paQ n c).2.2.1 d = (JUP (paQ n c).2.2.1 (paR n c).2.2.1 (paQ n c).2.2.2.1 (paQ n c).2.2.2.2 (paR n c).2.2.2.1 (paR n c).2.2.2.2.1 (paR n c).2.2.2.2.2).2 := by
  obtain ⟨a1, a2, a3⟩ := hq
  obtain ⟨b1, b2, b3, b4⟩ := hr
  rw [← a1, ← b1]
  have ca : ∀ i, i < z → ri q1 i = (paQ n c).2.2.2.1 i ∧ ri q2 i = (paQ n c).2.2.2.2 i := fun i hi => by
    rw [← a2, ← a3, mk0_lt hi, mk0_lt hi]
    unfold ri
    rw [(h1 i hi).1, (h1 i hi).2]
    exact ⟨rfl, rfl⟩
  have cb_ : ∀ h, h < w → ri q3 h = (paR n c).2.2.2.1 h ∧ ri q4 h = (paR n c).2.2.2.2.1 h ∧ ri q5 h = (paR n c).2.2.2.2.2 h := fun h hh => by
    rw [← b2, ← b3, ← b4, mk0_lt hh, mk0_lt hh, mk0_lt hh]
    unfold ri
    rw [(h2 h hh).1, (h2 h hh).2.1, (h2 h hh).2.2]
    exact ⟨rfl, rfl, rfl⟩
  have da : ∀ i, i < z → (paQ n c).2.2.2.1 i = ri r1 i ∧ (paQ n c).2.2.2.2 i = ri r2 i := fun i hi => by
    rw [← a2, ← a3, mk0_lt hi, mk0_lt hi]
    exact ⟨rfl, rfl⟩
  have db : ∀ h, h < w → (paR n c).2.2.2.1 h = ri r3 h ∧ (paR n c).2.2.2.2.1 h = ri r4 h ∧ (paR n c).2.2.2.2.2 h = ri r5 h := fun h hh => by
    rw [← b2, ← b3, ← b4, mk0_lt hh, mk0_lt hh, mk0_lt hh]
    exact ⟨rfl, rfl, rfl⟩
  refine ⟨rfl, rfl, ca, cb_, ?_⟩
  rw [JUP_cp da db, ← j1]
  exact hd
