theorem edP_ca {sg nm ob : Nat → Int} {la : Nat → Nat} {ca ca2 : Nat → Int} {V : EVt} : ∀ k, (∀ b, b < k → ca2 b = ca b) → edP sg nm ob la ca2 k V = edP sg nm ob la ca k V
  | 0, _ => rfl
  | k + 1, h => by
    unfold edP
    rw [edP_ca k (fun b hb => h b (by omega)), h k (by omega)]
/-- the class's edges of the first x blocks, begun with V -/
def EVL (s : Sto) (x : Nat) (V : EVt) : Prop :=
  EVw s 27 29 30 31 = edP (ri (s.1 6)) (ri (s.1 7)) (ri (s.1 23)) (laN s) (ri (s.1 26)) x V ∧
  (∀ e : Nat, (e : Int) < (s.1 27 0).toInt → 0 ≤ (s.1 29 e).toInt ∧ (s.1 29 e).toInt < x) ∧
  (∀ b : Nat, b < x → (0 ≤ (s.1 28 b).toInt ∧ (s.1 28 b).toInt ≤ (s.1 27 0).toInt) ∧ ∀ e : Nat, (e : Int) < (s.1 27 0).toInt → ((s.1 28 b).toInt ≤ e ↔ (b : Int) ≤ (s.1 29 e).toInt)) ∧
  (∀ b : Nat, b < x → ∀ g : Nat, g < 64 → (bL (s.2 0 b) g = true ↔ ∃ e : Nat, (e : Int) < (s.1 27 0).toInt ∧ (s.1 29 e).toInt = b ∧ (s.1 30 e).toInt = g)) ∧
  (∀ e d : Nat, (e : Int) < (s.1 27 0).toInt → (d : Int) < (s.1 27 0).toInt → (s.1 29 e).toInt = (s.1 29 d).toInt → (s.1 30 e).toInt = (s.1 30 d).toInt → e = d) ∧
  (∀ b : Nat, b < x → caX s b (s.1 26 b).toInt ∧ onX s b (s.1 24 b).toInt (s.1 25 b).toInt)
abbrev EVK : List Nat := [5, 6, 7, 9, 10, 11, 21, 22, 23]
theorem laN_cg {σ s : Sto} (e : s.1 22 = σ.1 22) : laN s = laN σ := by
  funext b
  unfold laN
  rw [e]
theorem caX_cg {σ s : Sto} (e : ∀ k, k ∈ EVK → s.1 k = σ.1 k) (b : Nat) (v : Int) : caX s b v = caX σ b v := by
  unfold caX fiN laN
  rw [e 5 (by decide), e 6 (by decide), e 9 (by decide), e 10 (by decide), e 11 (by decide), e 21 (by decide), e 22 (by decide), e 23 (by decide)]
theorem onX_cg {σ s : Sto} (e : ∀ k, k ∈ EVK → s.1 k = σ.1 k) (b : Nat) (v w : Int) : onX s b v w = onX σ b v w := by
  unfold onX laN
  rw [e 6 (by decide), e 7 (by decide), e 22 (by decide), e 23 (by decide)]
theorem EVL.cg {σ s : Sto} {x : Nat} {V : EVt} (h : EVL σ x V) (e : ∀ k, k ∈ EVK → s.1 k = σ.1 k) (e2 : ∀ k, k = 24 ∨ k = 25 ∨ k = 26 ∨ k = 27 ∨ k = 29 ∨ k = 30 ∨ k = 31 → s.1 k = σ.1 k) (e28 : ∀ b, b < x → s.1 28 b = σ.1 28 b) (l : s.2 0 = σ.2 0) : EVL s x V := by
  obtain ⟨h1, h2, h3, h4, h5, h6⟩ := h
  have f := fun k hk => e2 k hk
  refine ⟨?_, ?_, fun b hb => ?_, fun b hb g hg => ?_, ?_, fun b hb => ?_⟩
  · rw [EVw.cg (f 27 (by decide)) (f 29 (by decide)) (f 30 (by decide)) (f 31 (by decide)), h1, laN_cg (e 22 (by decide)), e 6 (by decide), e 7 (by decide), e 23 (by decide), f 26 (by decide)]
  · rw [f 27 (by decide), f 29 (by decide)]; exact h2
  · rw [f 27 (by decide), f 29 (by decide), e28 b hb]; exact h3 b hb
  · rw [f 27 (by decide), f 29 (by decide), f 30 (by decide), l]; exact h4 b hb g hg
  · rw [f 27 (by decide), f 29 (by decide), f 30 (by decide)]; exact h5
  · rw [caX_cg e, onX_cg e, f 24 (by decide), f 25 (by decide), f 26 (by decide)]; exact h6 b hb
theorem EVL.z {s : Sto} (h : (s.1 27 0).toInt = 0) : EVL s 0 (EVw s 27 29 30 31) :=
  ⟨rfl, fun e he => by omega, fun b hb => absurd hb (Nat.not_lt_zero _), fun b hb => absurd hb (Nat.not_lt_zero _), fun e d he => by omega, fun b hb => absurd hb (Nat.not_lt_zero _)⟩
theorem EVL.nx {σ s : Sto} {x : Nat} {V : EVt} (h : EVL σ x V) (g27 : 0 ≤ (σ.1 27 0).toInt) (j : JN0 σ s x (eb3 (s.1 26 x).toInt x (v2X σ x))) (c : caX σ x (s.1 26 x).toInt) (o : onX σ x (s.1 24 x).toInt (s.1 25 x).toInt) : EVL s (x + 1) V := by
  obtain ⟨h1, h2, h3, h4, h5, h6⟩ := h
  obtain ⟨f, v, ⟨n1, n2, n3, n4, n5⟩, l, p, t⟩ := j
  have e : ∀ k, k ∈ EVK → s.1 k = σ.1 k := fun k hk => f.1 k (by revert hk; revert k; decide)
  have FF : ∀ d : Nat, (d : Int) < (s.1 27 0).toInt → ¬ (d : Int) < (σ.1 27 0).toInt → (s.1 29 d).toInt = x := fun d hd hn => (n3 d hd).mp (by rw [p]; omega)
  have FO : ∀ d : Nat, (d : Int) < (σ.1 27 0).toInt → s.1 29 d = σ.1 29 d ∧ s.1 30 d = σ.1 30 d := l.2
  refine ⟨?_, fun d hd => ?_, fun b hb => ?_, fun b hb g hg => ?_, fun d d2 hd hd2 z1 z2 => ?_, fun b hb => ?_⟩
  · have key : edP (ri (s.1 6)) (ri (s.1 7)) (ri (s.1 23)) (laN s) (ri (s.1 26)) x V = EVw σ 27 29 30 31 := by
      rw [h1, laN_cg (e 22 (by decide)), e 6 (by decide), e 7 (by decide), e 23 (by decide)]
      exact edP_ca x (fun b hb => by unfold ri; rw [(t b (by omega)).2.2.2.2])
    show _ = ebP _ _ _ _ _ _ (edP _ _ _ _ _ x V)
    rw [key, v, laN_cg (e 22 (by decide)), e 6 (by decide), e 7 (by decide), e 23 (by decide)]
    rfl
  · by_cases q : (d : Int) < (σ.1 27 0).toInt
    · rw [(FO d q).1]
      have := h2 d q
      omega
    · rw [FF d hd q]; omega
  · by_cases q : b = x
    · subst q
      rw [p]
      refine ⟨⟨g27, l.1⟩, fun d hd => ?_⟩
      by_cases r : (d : Int) < (σ.1 27 0).toInt
      · rw [(FO d r).1]
        have := h2 d r
        omega
      · rw [FF d hd r]; omega
    · have h3b := h3 b (by omega)
      have l1 := l.1
      rw [(t b q).2.1]
      refine ⟨by omega, fun d hd => ?_⟩
      by_cases r : (d : Int) < (σ.1 27 0).toInt
      · rw [(FO d r).1]; exact h3b.2 d r
      · rw [FF d hd r]; omega
  · by_cases q : b = x
    · subst q; exact n4 g hg
    · rw [(t b q).1, h4 b (by omega) g hg]
      constructor
      · rintro ⟨d, z1, z2, z3⟩
        have l1 := l.1
        exact ⟨d, by omega, by rw [(FO d z1).1]; exact z2, by rw [(FO d z1).2]; exact z3⟩
      · rintro ⟨d, z1, z2, z3⟩
        by_cases r : (d : Int) < (σ.1 27 0).toInt
        · rw [(FO d r).1] at z2
          rw [(FO d r).2] at z3
          exact ⟨d, r, z2, z3⟩
        · rw [FF d z1 r] at z2; omega
  · by_cases q : (d : Int) < (σ.1 27 0).toInt
    · by_cases r : (d2 : Int) < (σ.1 27 0).toInt
      · rw [(FO d q).1, (FO d2 r).1] at z1
        rw [(FO d q).2, (FO d2 r).2] at z2
        exact h5 d d2 q r z1 z2
      · rw [(FO d q).1, FF d2 hd2 r] at z1
        have := h2 d q
        omega
    · by_cases r : (d2 : Int) < (σ.1 27 0).toInt
      · rw [FF d hd q, (FO d2 r).1] at z1
        have := h2 d2 r
        omega
      · exact n5 d d2 hd hd2 (FF d hd q) (FF d2 hd2 r) z2
  · rw [caX_cg e, onX_cg e]
    by_cases q : b = x
    · subst q; exact ⟨c, o⟩
    · rw [(t b q).2.2.1, (t b q).2.2.2.1, (t b q).2.2.2.2]
      exact h6 b (by omega)
/-- the class's edges -/
def EDX (s : Sto) : Prop := (∃ V : EVt, V.1 = 0 ∧ EVL s (s.1 20 0).toInt.toNat V) ∧ (s.1 28 (s.1 20 0).toInt.toNat).toInt = (s.1 27 0).toInt
theorem EDX.cg {σ s : Sto} (h : EDX σ) (e : ∀ k, 5 ≤ k → k ≤ 31 → (k < 12 ∨ 20 ≤ k) → s.1 k = σ.1 k) (l : s.2 0 = σ.2 0) : EDX s := by
  obtain ⟨⟨V, h1, h2⟩, h3⟩ := h
  unfold EDX
  rw [e 20 (by decide) (by decide) (by decide), e 28 (by decide) (by decide) (by decide), e 27 (by decide) (by decide) (by decide)]
  refine ⟨⟨V, h1, h2.cg (fun k hk => e k (by revert hk; revert k; decide) (by revert hk; revert k; decide) (by revert hk; revert k; decide)) (fun k hk => e k (by omega) (by omega) (by omega)) (fun b _ => by rw [e 28 (by decide) (by decide) (by decide)]) l⟩, h3⟩
theorem BKI.of_ge {n : Nat} {d : Nat → Int} {ct : Nat → Prop} {fi la ob : Nat → Int} {nb : Nat} (h : BKI d ct n fi la ob nb) (h0 : d 0 ≠ -1) {j : Nat} (hj : j < n) (hd : d j ≠ -1) : 0 ≤ ob j := by
  rw [h.2.2.1 j hj, if_pos hd]
  have := cb_pos (dd := d) (ct := ct) (i := j + 1) h0 (by omega)
  omega
theorem cut_of {n hs : Nat} {sg nm fr up go d fi la ob : Nat → Int} {nb b : Nat} (hR : RIG n hs sg nm fr up go d) (hL : LDP n hs sg nm fr up go) (hK : BKI d (CUTC n hs sg nm fr up go d) n fi la ob nb) (hb : b < nb) : (gOnI (sg (la b).toNat) → 0 ≤ ob ((la b).toNat + 1)) ∧ (gElI (sg (la b).toNat) → 0 ≤ ob (nm (la b).toNat).toNat) := by
  have h0 : d 0 ≠ -1 := by have := hR.2.2.1; omega
  obtain ⟨f, l, r1, r2, r3, r4, r5, r6, r7, r8, r9⟩ := hK.blk hR.nx hb
  rw [r2, Int.toNat_natCast]
  have hd := (r8 l r3 (Nat.le_refl _)).1
  have o := hR.1 l r4 hd
  have g0 := gv_0 (sg l)
  refine ⟨fun z => ?_, fun z => ?_⟩
  · have q := o.2.2.1 z
    have o1 := o.1
    exact hK.of_ge h0 q.1 (by omega)
  · have q := o.2.2.2.1 z
    have ld := hL.1 l r4 z
    have o1 := o.1
    exact hK.of_ge h0 (by omega) (by omega)
