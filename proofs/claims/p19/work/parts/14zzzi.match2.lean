/-- what matching says of a line, of choices too -/
def MTd (l : List Ln) (lk : Nat → Int) (i : Nat) (x : Ln) : Prop := MTc l lk i x ∧ (x.1 = 3 → ∃ j : Nat, i < j ∧ lk i = (j : Int) ∧ ((∃ o, l[j]? = some (4, x.2.1, o)) ∨ (l[j]? = some (5, x.2.1, 3) ∧ ∀ (m : Nat) (v : Ln), l[m]? = some v → v.1 = 4 → v.2.1 ≠ x.2.1)))
theorem MTd.cg {l : List Ln} {lk lk2 : Nat → Int} {i : Nat} {x : Ln} (h : MTd l lk i x) (e : lk2 i = lk i) : MTd l lk2 i x := ⟨h.1.cg e, fun z => by rw [e]; exact h.2 z⟩
def SEGT (l : List Ln) (s t : MSt) (a n : Nat) : Prop := t.1 = s.1 ∧ (∀ j, j < s.1 → t.2.1 j = s.2.1 j) ∧ (∀ j, j < a ∨ a + n ≤ j → t.2.2 j = s.2.2 j) ∧ ∀ i x, a ≤ i → i < a + n → l[i]? = some x → MTd l t.2.2 i x ∧ (plK x.1 → t.2.2 i = s.2.2 i)
theorem SEGT.app {l : List Ln} {s t u : MSt} {a n m : Nat} (h : SEGT l s t a n) (g : SEGT l t u (a + n) m) : SEGT l s u a (n + m) := by
  obtain ⟨h1, h2, h3_, h4⟩ := h
  obtain ⟨g1, g2, g3, g4⟩ := g
  refine ⟨g1.trans h1, fun j hj => by rw [g2 j (by omega)]; exact h2 j hj, fun j hj => by rw [g3 j (by omega), h3_ j (by omega)], fun i x i1 i2 hx => ?_⟩
  by_cases z : i < a + n
  · obtain ⟨q1, q2⟩ := h4 i x i1 z hx
    have e := g3 i (Or.inl z)
    exact ⟨q1.cg e, fun p => by rw [e]; exact q2 p⟩
  · obtain ⟨q1, q2⟩ := g4 i x (by omega) (by omega) hx
    exact ⟨q1, fun p => by rw [q2 p]; exact h3_ i (Or.inr (by omega))⟩
/-- a piece of the lines is matched in itself -/
def SGM (l : List Ln) (k0 : Nat → Int) (a n : Nat) : Prop := SEGT l (mrun l k0 a) (mrun l k0 (a + n)) a n
section
variable {l : List Ln} {k0 : Nat → Int} {a n m : Nat} {x y z : Ln}
theorem SGM.app (h : SGM l k0 a n) (g : SGM l k0 (a + n) m) : SGM l k0 a (n + m) := by
  unfold SGM at *
  rw [← Nat.add_assoc]
  exact h.app g
theorem sgm_nil : SGM l k0 a 0 := ⟨rfl, fun _ _ => rfl, fun _ _ => rfl, fun i x i1 i2 _ => by omega⟩
theorem pl_n3 {k : Int} (p : plK k) : k ≠ 3 := fun z => p.1 (Or.inr (Or.inr (Or.inl z)))
theorem sgm_pl (h : l[a]? = some x) (p : plK x.1) : SGM l k0 a 1 := by
  unfold SGM
  rw [mrun_s h, mst_p p]
  refine ⟨rfl, fun _ _ => rfl, fun _ _ => rfl, fun i y i1 i2 hy => ?_⟩
  have e : i = a := by omega
  subst e
  rw [h] at hy
  have e2 := Option.some.inj hy
  subst e2
  exact ⟨⟨⟨fun q => absurd (Or.inl q) p.2.2, fun q => absurd q p.2.1⟩, fun q => absurd q (pl_n3 p)⟩, fun _ => rfl⟩
/-- from a { to its } -/
theorem sgm_br (hx : l[a]? = some x) (ox : opK x.1) (hy : l[a + 1 + n]? = some y) (oy : clK y.1) (ho : y.1 = 5 → y.2.2 = x.1) (h3 : x.1 = 3 → y = (5, x.2.1, 3) ∧ ∀ (m : Nat) (v : Ln), l[m]? = some v → v.1 = 4 → v.2.1 ≠ x.2.1) (hl : (mrun l k0 a).1 < 120) (g : SGM l k0 (a + 1) n) : SGM l k0 a (n + 2) := by
  have e1 := mrun_s (k0 := k0) hx
  rw [mst_o ox hl] at e1
  have e2 : mrun l k0 (a + (n + 2)) = mst1 l (mrun l k0 (a + 1 + n)) (a + 1 + n) y.1 := by
    rw [show a + (n + 2) = (a + 1 + n) + 1 by omega]
    exact mrun_s hy
  unfold SGM at g ⊢
  rw [e1] at g
  rw [e2]
  generalize mrun l k0 (a + 1 + n) = t at g ⊢
  generalize mrun l k0 a = s at g ⊢
  obtain ⟨g1, g2, g3, g4⟩ := g
  dsimp only at g1 g2 g3 g4
  have tp : t.2.1 s.1 = a := by rw [g2 _ (Nat.lt_succ_self _)]; exact upN_s
  have e3 : mst1 l t (a + 1 + n) y.1 = (s.1, t.2.1, upN (upN t.2.2 a ((a + 1 + n : Nat) : Int)) (a + 1 + n) x.1) := by
    rw [mst_c oy (by omega), show t.1 - 1 = s.1 by omega, tp, kdL_s hx]
  rw [e3]
  have a5 : ∀ {k : Int}, opK k → ¬ k = 5 ∧ ¬ k = 4 := fun {k} o => by unfold opK at o; exact ⟨by omega, by omega⟩
  have a6 : ∀ {k : Int}, clK k → ¬ k = 4 ∧ ¬ k = 3 := fun {k} o => by unfold clK at o; exact ⟨by omega, by omega⟩
  refine ⟨rfl, fun j hj => ?_, fun j hj => ?_, fun i z i1 i2 hz => ?_⟩
  · show t.2.1 j = _
    rw [g2 j (by omega)]
    exact upN_o (by omega)
  · show upN (upN t.2.2 a _) (a + 1 + n) _ j = _
    rw [upN_o (by omega), upN_o (by omega)]
    exact g3 j (by omega)
  · by_cases za : i = a
    · subst za
      rw [hx] at hz
      have e := Option.some.inj hz
      subst e
      refine ⟨⟨⟨fun q => absurd q (a5 ox).1, fun q => absurd q (a5 ox).2⟩, fun q => ⟨i + 1 + n, by omega, ?_, Or.inr ⟨?_, (h3 q).2⟩⟩⟩, fun p => absurd ox p.1⟩
      · show upN (upN t.2.2 i _) (i + 1 + n) _ i = _
        rw [upN_o (by omega), upN_s]
      · rw [hy, (h3 q).1]
    · by_cases zc : i = a + 1 + n
      · subst zc
        rw [hy] at hz
        have e := Option.some.inj hz
        subst e
        refine ⟨⟨⟨fun q => Or.inl ?_, fun q => absurd q (a6 oy).1⟩, fun q => absurd q (a6 oy).2⟩, fun p => absurd oy p.2.2⟩
        show upN (upN t.2.2 a _) (a + 1 + n) _ (a + 1 + n) = _
        rw [upN_s]
        exact (ho q).symm
      · have e : upN (upN t.2.2 a ((a + 1 + n : Nat) : Int)) (a + 1 + n) x.1 i = t.2.2 i := by rw [upN_o zc, upN_o za]
        obtain ⟨q1, q2⟩ := g4 i z (by omega) (by omega) hz
        exact ⟨q1.cg e, fun p => e.trans (q2 p)⟩
/-- a choice -/
theorem sgm_if (hx : l[a]? = some x) (ox : x.1 = 3) (hy : l[a + 1 + n]? = some y) (oy : y.1 = 4) (ob : y.2.1 = x.2.1) (hz : l[a + 1 + n + 1 + m]? = some z) (oz : z = (5, y.2.1, 3)) (hl : (mrun l k0 a).1 < 120) (g : SGM l k0 (a + 1) n) (w : SGM l k0 (a + 1 + n + 1) m) : SGM l k0 a (n + m + 3) := by
  have ox3 : opK x.1 := Or.inr (Or.inr (Or.inl ox))
  have oz5 : z.1 = 5 := by rw [oz]
  have e1 := mrun_s (k0 := k0) hx
  rw [mst_o ox3 hl] at e1
  have e2 : mrun l k0 (a + 1 + n + 1) = mst1 l (mrun l k0 (a + 1 + n)) (a + 1 + n) y.1 := mrun_s hy
  have e3 : mrun l k0 (a + (n + m + 3)) = mst1 l (mrun l k0 (a + 1 + n + 1 + m)) (a + 1 + n + 1 + m) z.1 := by
    rw [show a + (n + m + 3) = (a + 1 + n + 1 + m) + 1 by omega]
    exact mrun_s hz
  unfold SGM at g w ⊢
  rw [e1] at g
  rw [e2] at w
  rw [e3]
  generalize mrun l k0 (a + 1 + n + 1 + m) = u at w ⊢
  generalize mrun l k0 (a + 1 + n) = t at g w
  generalize mrun l k0 a = s at g ⊢
  obtain ⟨g1, g2, g3, g4⟩ := g
  dsimp only at g1 g2 g3 g4
  have tp : t.2.1 s.1 = a := by rw [g2 _ (Nat.lt_succ_self _)]; exact upN_s
  rw [mst_e oy (by omega), show t.1 - 1 = s.1 by omega, tp] at w
  obtain ⟨w1, w2, w3, w4⟩ := w
  dsimp only at w1 w2 w3 w4
  have up : u.2.1 s.1 = a + 1 + n := by rw [w2 _ (by omega)]; exact upN_s
  have e4 : mst1 l u (a + 1 + n + 1 + m) z.1 = (s.1, u.2.1, upN (upN u.2.2 (a + 1 + n) ((a + 1 + n + 1 + m : Nat) : Int)) (a + 1 + n + 1 + m) 4) := by
    rw [mst_c (Or.inl oz5) (by omega), show u.1 - 1 = s.1 by omega, up, kdL_s hy, oy]
  rw [e4]
  refine ⟨rfl, fun j hj => ?_, fun j hj => ?_, fun i v i1 i2 hv => ?_⟩
  · show u.2.1 j = _
    rw [w2 j (by omega), upN_o (by omega), g2 j (by omega)]
    exact upN_o (by omega)
  · show upN (upN u.2.2 (a + 1 + n) _) (a + 1 + n + 1 + m) _ j = _
    rw [upN_o (by omega), upN_o (by omega), w3 j (by omega), upN_o (by omega)]
    exact g3 j (by omega)
  · show MTd l (upN (upN u.2.2 (a + 1 + n) ((a + 1 + n + 1 + m : Nat) : Int)) (a + 1 + n + 1 + m) 4) i v ∧ (plK v.1 → upN (upN u.2.2 (a + 1 + n) ((a + 1 + n + 1 + m : Nat) : Int)) (a + 1 + n + 1 + m) 4 i = s.2.2 i)
    by_cases za : i = a
    · subst za
      rw [hx] at hv
      have e := Option.some.inj hv
      subst e
      refine ⟨⟨⟨fun q => by omega, fun q => by omega⟩, fun _ => ⟨i + 1 + n, by omega, ?_, Or.inl ⟨y.2.2, ?_⟩⟩⟩, fun p => absurd ox3 p.1⟩
      · rw [upN_o (by omega), upN_o (by omega), w3 i (by omega), upN_s]
      · rw [hy, ← ob, ← oy]
    · by_cases zc : i = a + 1 + n
      · subst zc
        rw [hy] at hv
        have e := Option.some.inj hv
        subst e
        refine ⟨⟨⟨fun q => by omega, fun q => ⟨a + 1 + n + 1 + m, by omega, ?_, by rw [hz, oz]⟩⟩, fun q => by omega⟩, fun p => absurd oy p.2.1⟩
        rw [upN_o (by omega), upN_s]
      · by_cases ze : i = a + 1 + n + 1 + m
        · subst ze
          rw [hz] at hv
          have e := Option.some.inj hv
          subst e
          refine ⟨⟨⟨fun q => Or.inr ⟨by rw [oz], upN_s⟩, fun q => by omega⟩, fun q => by omega⟩, fun p => absurd (Or.inl oz5) p.2.2⟩
        · have e : upN (upN u.2.2 (a + 1 + n) ((a + 1 + n + 1 + m : Nat) : Int)) (a + 1 + n + 1 + m) 4 i = u.2.2 i := by rw [upN_o ze, upN_o zc]
          by_cases zl : i < a + 1 + n
          · obtain ⟨q1, q2⟩ := g4 i v (by omega) zl hv
            have e5 : u.2.2 i = t.2.2 i := by rw [w3 i (by omega), upN_o za]
            exact ⟨q1.cg (e.trans e5), fun p => (e.trans e5).trans (q2 p)⟩
          · obtain ⟨q1, q2⟩ := w4 i v (by omega) (by omega) hv
            refine ⟨q1.cg e, fun p => ?_⟩
            rw [e, q2 p, upN_o za]
            exact g3 i (by omega)
end
/-- the lines that stay -/
noncomputable abbrev ppl (l : List Ln) (i : Nat) : Nat := fb_ct (kpl l) i
def KLS (l f : List Ln) : Prop := f.length = ppl l l.length ∧ ∀ i x, l[i]? = some x → kpl l i = true → f[ppl l i]? = some x
theorem kls_at (l : List Ln) : ∀ n, n ≤ l.length → ∃ f : List Ln, f.length = ppl l n ∧ ∀ i x, i < n → l[i]? = some x → kpl l i = true → f[ppl l i]? = some x
  | 0, _ => ⟨[], rfl, fun i x hi => absurd hi (Nat.not_lt_zero i)⟩
  | n + 1, hn => by
    obtain ⟨f, f1, f2⟩ := kls_at l n (by omega)
    by_cases k : kpl l n = true
    · refine ⟨f ++ [l[n]], ?_, fun i x hi hx hk => ?_⟩
      · rw [List.length_append, f1]
        show _ = fb_ct (kpl l) (n + 1)
        rw [kpl_y (kpl_t.mp k)]; rfl
      · by_cases q : i = n
        · subst q
          have e : l[i] = x := by
            rw [List.getElem?_eq_getElem (by omega)] at hx
            exact Option.some.inj hx
          rw [← f1, List.getElem?_append_right (Nat.le_refl _), Nat.sub_self, e]
          rfl
        · have := f2 i x (by omega) hx hk
          rw [List.getElem?_append_left (lt_len this)]
          exact this
    · refine ⟨f, ?_, fun i x hi hx hk => ?_⟩
      · rw [f1]
        show _ = fb_ct (kpl l) (n + 1)
        rw [kpl_n (fun z => k (kpl_t.mpr z))]
      · by_cases q : i = n
        · rw [q] at hk; exact absurd hk k
        · exact f2 i x (by omega) hx hk
theorem kls_ex (l : List Ln) : ∃ f, KLS l f := by
  obtain ⟨f, f1, f2⟩ := kls_at l l.length (Nat.le_refl _)
  exact ⟨f, f1, fun i x hx hk => f2 i x (lt_len hx) hx hk⟩
theorem kpl_o {l : List Ln} {i : Nat} {x : Ln} (h : l[i]? = some x) (h4 : x.1 ≠ 4) (h6 : x.1 ≠ 6) : kpl l i = true := kpl_t.mpr ⟨fun ⟨y, y1, y2, _⟩ => by
  rw [h] at y1
  have := Option.some.inj y1
  rw [← this] at y2
  exact h6 y2, fun ⟨⟨y, y1, y2⟩, _⟩ => by
  rw [h] at y1
  have := Option.some.inj y1
  rw [← this] at y2
  exact h4 y2⟩
section
variable {l f : List Ln} {k0 : Nat → Int} {a n m : Nat} {x y z : Ln}
theorem ppl_y (h : kpl l a = true) : ppl l (a + 1) = ppl l a + 1 := kpl_y (kpl_t.mp h)
theorem ppl_n (h : ¬ kpl l a = true) : ppl l (a + 1) = ppl l a := kpl_n (fun z => h (kpl_t.mpr z))
theorem ppl_le (h : a ≤ n) : ppl l a ≤ ppl l n := fb_ct_mono _ h
/-- a piece of the lines told, of those that stay -/
def SG2 (l f : List Ln) (k0 : Nat → Int) (a n : Nat) : Prop := SGM f k0 (ppl l a) (ppl l (a + n) - ppl l a)
theorem SG2.app (h : SG2 l f k0 a n) (g : SG2 l f k0 (a + n) m) : SG2 l f k0 a (n + m) := by
  unfold SG2 at *
  have e1 := ppl_le (l := l) (a := a) (n := a + n) (by omega)
  have e2 := ppl_le (l := l) (a := a + n) (n := a + n + m) (by omega)
  rw [show ppl l (a + (n + m)) - ppl l a = (ppl l (a + n) - ppl l a) + (ppl l (a + n + m) - ppl l (a + n)) by rw [← Nat.add_assoc]; omega]
  refine h.app ?_
  rw [show ppl l a + (ppl l (a + n) - ppl l a) = ppl l (a + n) by omega]
  exact g
theorem sg2_nil : SG2 l f k0 a 0 := by
  unfold SG2
  rw [Nat.add_zero, Nat.sub_self]
  exact sgm_nil
theorem sg2_pl (K : KLS l f) (h : l[a]? = some x) (p : plK x.1) : SG2 l f k0 a 1 := by
  unfold SG2
  by_cases k : kpl l a = true
  · rw [ppl_y k, show ppl l a + 1 - ppl l a = 1 by omega]
    exact sgm_pl (K.2 a x h k) p
  · rw [ppl_n k, Nat.sub_self]
    exact sgm_nil
theorem mrun_o2 (K : KLS l f) (h : l[a]? = some x) (o : opK x.1) (b : (mrun f k0 (ppl l a)).1 < 120) : (mrun f k0 (ppl l (a + 1))).1 = (mrun f k0 (ppl l a)).1 + 1 := by
  have k := kpl_o h (by unfold opK at o; omega) (by unfold opK at o; omega)
  rw [ppl_y k]
  exact mrun_o (K.2 a x h k) o b
theorem sg2_br (K : KLS l f) (hx : l[a]? = some x) (ox : opK x.1) (ox3 : x.1 ≠ 3) (hy : l[a + 1 + n]? = some y) (oy : clK y.1) (ho : y.1 = 5 → y.2.2 = x.1) (hl : (mrun f k0 (ppl l a)).1 < 120) (g : SG2 l f k0 (a + 1) n) : SG2 l f k0 a (n + 2) := by
  have kx := kpl_o hx (by unfold opK at ox; omega) (by unfold opK at ox; omega)
  have ky := kpl_o hy (by unfold clK at oy; omega) (by unfold clK at oy; omega)
  have e1 := ppl_y kx
  have e2 := ppl_y ky
  have e3 := ppl_le (l := l) (a := a + 1) (n := a + 1 + n) (by omega)
  have fx := K.2 _ _ hx kx
  have fy := K.2 _ _ hy ky
  unfold SG2 at *
  rw [e1] at g e3
  rw [show a + (n + 2) = a + 1 + n + 1 by omega, e2, show ppl l (a + 1 + n) + 1 - ppl l a = (ppl l (a + 1 + n) - (ppl l a + 1)) + 2 by omega]
  refine sgm_br fx ox ?_ oy ho (fun z => absurd z ox3) hl g
  rw [show ppl l a + 1 + (ppl l (a + 1 + n) - (ppl l a + 1)) = ppl l (a + 1 + n) by omega]
  exact fy
theorem sg2_st (K : KLS l f) {b q : Int} : ∀ (n a : Nat), OC l a (stLs b q n) → SG2 l f k0 a n
  | 0, _, _ => sg2_nil
  | n + 1, a, o => by
    have o2 := o.to (stLs_s b q n)
    have t := o2.r.one
    rw [stLs_len] at t
    exact (sg2_st K n a o2.l).app (sg2_pl K t ⟨by unfold opK; show ¬ ((0 : Int) = 1 ∨ (0 : Int) = 2 ∨ (0 : Int) = 3 ∨ (0 : Int) = 9); decide, by show (0 : Int) ≠ 4; decide, by unfold clK; show ¬ ((0 : Int) = 5 ∨ (0 : Int) = 10); decide⟩)
/-- a choice, whether its ELSE stays or goes -/
theorem sg2_if (K : KLS l f) (hS : STR l) (hO : ONC l) {b : Nat} {o1 o2 : Int} (hx : l[a]? = some (3, (b : Int), o1)) (hy : l[a + 1 + n]? = some (4, (b : Int), o2)) (hz : l[a + 1 + n + 1 + m]? = some (5, (b : Int), 3)) (h6 : ∀ v, l[a + 1 + n + 1]? = some v → v.1 = 6 → m = 1) (hl : (mrun f k0 (ppl l a)).1 < 120) (g : SG2 l f k0 (a + 1) n) (w : SG2 l f k0 (a + 1 + n + 1) m) : SG2 l f k0 a (n + m + 3) := by
  have kx := kpl_o hx (by simp) (by simp)
  have kz := kpl_o hz (by simp) (by simp)
  have e1 := ppl_y kx
  have e5 := ppl_y kz
  have e2 := ppl_le (l := l) (a := a + 1) (n := a + 1 + n) (by omega)
  have e4 := ppl_le (l := l) (a := a + 1 + n + 1) (n := a + 1 + n + 1 + m) (by omega)
  have fx := K.2 _ _ hx kx
  have fz := K.2 _ _ hz kz
  unfold SG2 at *
  rw [show a + (n + m + 3) = a + 1 + n + 1 + m + 1 by omega, e5]
  rw [e1] at g e2
  by_cases ky : kpl l (a + 1 + n) = true
  · have e3 := ppl_y ky
    have fy := K.2 _ _ hy ky
    rw [e3] at w e4
    rw [show ppl l (a + 1 + n + 1 + m) + 1 - ppl l a = (ppl l (a + 1 + n) - (ppl l a + 1)) + (ppl l (a + 1 + n + 1 + m) - (ppl l (a + 1 + n) + 1)) + 3 by omega]
    have p1 : ppl l a + 1 + (ppl l (a + 1 + n) - (ppl l a + 1)) = ppl l (a + 1 + n) := by omega
    refine sgm_if fx rfl (y := (4, (b : Int), o2)) ?_ rfl rfl (z := (5, (b : Int), 3)) ?_ rfl hl g ?_
    · rw [p1]; exact fy
    · rw [p1, show ppl l (a + 1 + n) + 1 + (ppl l (a + 1 + n + 1 + m) - (ppl l (a + 1 + n) + 1)) = ppl l (a + 1 + n + 1 + m) by omega]
      exact fz
    · rw [p1]; exact w
  · have e3 := ppl_n ky
    -- its ELSE goes: what stood in it, a break, went
    have ou : OU1 l (a + 1 + n + 1) := Classical.byContradiction fun q => by
      refine ky (kpl_t.mpr ⟨fun ⟨u, u1, u2, _⟩ => ?_, fun z => q z.2⟩)
      rw [hy] at u1
      have := Option.some.inj u1
      rw [← this] at u2
      exact absurd (show (4 : Int) = 6 from u2) (by decide)
    obtain ⟨v, v1, v2, v3⟩ := id ou
    have m1 := h6 v v1 v2
    subst m1
    have kv : ¬ kpl l (a + 1 + n + 1) = true := fun q => (kpl_t.mp q).1 ou
    have e6 := ppl_n kv
    rw [show ppl l (a + 1 + n + 1 + 1) + 1 - ppl l a = (ppl l (a + 1 + n) - (ppl l a + 1)) + 2 by omega]
    refine sgm_br fx (Or.inr (Or.inr (Or.inl rfl))) (y := (5, (b : Int), 3)) ?_ (Or.inl rfl) (fun _ => rfl) (fun _ => ⟨rfl, fun j u hu u4 => ?_⟩) hl g
    · rw [show ppl l a + 1 + (ppl l (a + 1 + n) - (ppl l a + 1)) = ppl l (a + 1 + n + 1 + 1) by omega]
      exact fz
    · -- no other ELSE of it
      intro ub
      have ub : u.2.1 = (b : Int) := ub
      have jl := lt_len hu
      rw [K.1] at jl
      obtain ⟨i, i1, i2, i3⟩ := fb_ct_kth jl
      have hi : l[i]? = some l[i] := List.getElem?_eq_getElem i1
      have fi := K.2 i _ hi i2
      have i3 : ppl l i = j := i3
      rw [i3, hu] at fi
      have e := Option.some.inj fi
      have : i = a + 1 + n := hO 4 b i (a + 1 + n) l[i] (4, (b : Int), o2) hi hy (by rw [← e]; unfold KY; simp [u4, ub]) (by unfold KY; simp)
      rw [this] at i2
      exact ky i2
end
theorem TEL.sg2 {σ : Sto} (h : LNW σ) {l f : List Ln} {k0 : Nat → Int} (K : KLS l f) (hS : STR l) (hO : ONC l) : ∀ (d w b : Nat) (k : Int) (x : List Ln), b < nB σ → TEL σ d w b k x → ∀ a, OC l a x → ((mrun f k0 (ppl l a)).1 : Int) + nsB σ w b k ≤ 120 → SG2 l f k0 a x.length
  | 0, _, _, _, _, _, t => t.elim
  | d + 1, w, b, k, x, hb, t => by
    intro a o hn
    have nn := th0 (σ := σ)
    have b0 : ∀ b k, nsB σ 0 b k = wS σ th_ (SUBT σ b) := fun _ _ => rfl
    have b1 : ∀ b k, nsB σ 1 b k = wS σ th_ (SMk σ b k) - 2 := fun _ _ => rfl
    have b2 : ∀ b k, nsB σ 2 b k = wS σ th_ (SIn σ b) - 2 := fun _ _ => rfl
    have b3 : ∀ b k, nsB σ 3 b k = wS σ th_ (SGo σ b k) := fun _ _ => rfl
    have t3 : th_ b = 3 := rfl
    have pt := w_pt h nn hb
    have po := w_one h nn hb k
    have pg := wS_nn (σ := σ) (S := SGo σ b k) nn
    have pl : ∀ {k b o : Int} {a : Nat}, l[a]? = some (k, b, o) → (k = 0 ∨ k = 6 ∨ k = 7 ∨ k = 8 ∨ k = 11) → SG2 l f k0 a 1 := fun {k b o a} e q => sg2_pl K e ⟨by unfold opK; show ¬ (k = 1 ∨ k = 2 ∨ k = 3 ∨ k = 9); omega, by show k ≠ 4; omega, by unfold clK; show ¬ (k = 5 ∨ k = 10); omega⟩
    -- how many are open behind a piece
    have op : ∀ {a n : Nat}, SG2 l f k0 a n → (mrun f k0 (ppl l (a + n))).1 = (mrun f k0 (ppl l a)).1 := fun {a n} s => by
      have q := s.1
      have e1 := ppl_le (l := l) (a := a) (n := a + n) (by omega)
      rw [show ppl l a + (ppl l (a + n) - ppl l a) = ppl l (a + n) by omega] at q
      exact q
    rcases t with ⟨w0, ⟨_, t⟩ | ⟨_, l1, t, e⟩⟩ | ⟨w1, ⟨_, t⟩ | ⟨m, l1, l2, hm, hk, _, t1, t2, e⟩⟩ | ⟨w2, tl, e, t⟩ | ⟨w3, e, _, e2, e3, ⟨_, t⟩ | ⟨_, _, t⟩ | ⟨_, _, t⟩ | ⟨fw, nm, t⟩⟩
    · subst w0
      have q2 := w_mk nn b (nB σ)
      rw [b0] at hn
      exact TEL.sg2 h K hS hO d _ _ _ _ hb t a o (by rw [b1]; omega)
    · subst w0
      have q2 := w_mk nn b (nB σ)
      rw [b0] at hn
      have oe := o.to e
      have hl : (mrun f k0 (ppl l a)).1 < 120 := by omega
      have g := TEL.sg2 h K hS hO d _ _ _ _ hb t (a + 1) oe.t.l (by rw [mrun_o2 K oe.h (Or.inl rfl) hl, b1]; omega)
      have s := sg2_br K oe.h (Or.inl rfl) (show (1 : Int) ≠ 3 by decide) oe.t.r.one (Or.inl rfl) (fun _ => rfl) hl g
      rw [e]
      simp only [List.length_append, List.length_cons, List.length_nil]
      rw [show 0 + 1 + (l1.length + (0 + 1)) = l1.length + 2 by omega]
      exact s
    · subst w1
      have q2 := w_in nn b k
      rw [b1] at hn
      exact TEL.sg2 h K hS hO d _ _ _ _ hb t a o (by rw [b2]; omega)
    · subst w1
      have a3 := w_mo h nn hm hk
      have a4 := w_in nn b (oR σ m)
      have a5 := w_pt h nn hm.1.1
      have a6 : th_ m = 3 := rfl
      rw [b1] at hn
      have oe := o.to e
      have hl : (mrun f k0 (ppl l a)).1 < 120 := by omega
      have g := TEL.sg2 h K hS hO d _ _ _ _ hb t1 (a + 1) oe.t.l (by rw [mrun_o2 K oe.h (Or.inr (Or.inl rfl)) hl, b1]; omega)
      have s := sg2_br K oe.h (Or.inr (Or.inl rfl)) (show (2 : Int) ≠ 3 by decide) oe.t.r.h (Or.inl rfl) (fun _ => rfl) hl g
      have o2 := oe.t.r.t
      rw [show a + 1 + l1.length + 1 = a + (l1.length + 2) by omega] at o2
      have s2 := TEL.sg2 h K hS hO d _ _ _ _ hm.1.1 t2 (a + (l1.length + 2)) o2 (by rw [op s, b0]; omega)
      have s3 := s.app s2
      rw [e]
      simp only [List.length_append, List.length_cons, List.length_nil]
      rw [show 0 + 1 + (l1.length + (0 + 1 + l2.length)) = l1.length + 2 + l2.length by omega]
      exact s3
    · subst w2
      rw [b2] at hn
      have oe := o.to e
      have hl : (mrun f k0 (ppl l a)).1 < 120 := by omega
      have s1 : SG2 l f k0 a 1 := pl oe.h (by omega)
      have o1 := oe.t
      have ts : SG2 l f k0 (a + 1) ((tyL σ b).length + ((sB σ (b + 1) - sB σ b).toNat + (caL σ b).length)) := by
        have oy := o1.l
        have os := o1.r.l
        have oc := o1.r.r.l
        rw [stLs_len] at oc
        by_cases z : (σ.1 25 b).toInt = -1
        · have ey : tyL σ b = [] := by unfold tyL; rw [if_pos z]
          have ec : caL σ b = [] := by unfold caL; rw [if_pos z]
          rw [ey] at os ⊢
          rw [ec]
          simp only [List.length_nil, Nat.zero_add, Nat.add_zero] at os ⊢
          exact sg2_st K _ _ os
        · have ey : tyL σ b = [(9, (b : Int), -1)] := by unfold tyL; rw [if_neg z]
          have ec : caL σ b = [(10, (σ.1 25 b).toInt, (b : Int))] := by unfold caL; rw [if_neg z]
          rw [ey] at oy os oc ⊢
          rw [ec] at oc ⊢
          simp only [List.length_nil, List.length_cons, Nat.zero_add] at os oc ⊢
          have hl1 : (mrun f k0 (ppl l (a + 1))).1 < 120 := by rw [op s1]; exact hl
          have s := sg2_br K oy.one (Or.inr (Or.inr (Or.inr rfl))) (show (9 : Int) ≠ 3 by decide) oc.one (Or.inr rfl) (fun q => absurd (show (10 : Int) = 5 from q) (by decide)) hl1 (sg2_st K _ _ os)
          rw [show 1 + ((sB σ (b + 1) - sB σ b).toNat + 1) = (sB σ (b + 1) - sB σ b).toNat + 2 by omega]
          exact s
      have s2 := s1.app ts
      have ot := o1.r.r.r
      rw [stLs_len] at ot
      have en : x.length = 1 + ((tyL σ b).length + ((sB σ (b + 1) - sB σ b).toNat + (caL σ b).length)) + tl.length := by
        rw [e]
        simp only [List.length_append, List.length_cons, List.length_nil]
        rw [stLs_len]
        omega
      have et : a + 1 + (tyL σ b).length + (sB σ (b + 1) - sB σ b).toNat + (caL σ b).length = a + (1 + ((tyL σ b).length + ((sB σ (b + 1) - sB σ b).toNat + (caL σ b).length))) := by omega
      rw [et] at ot
      rw [en]
      refine s2.app ?_
      have h2 := op s2
      generalize a + (1 + ((tyL σ b).length + ((sB σ (b + 1) - sB σ b).toNat + (caL σ b).length))) = c at ot h2 ⊢
      rcases t with ⟨fk, l1, l2, t1, t2, e2⟩ | ⟨_, _, t⟩ | ⟨_, _, _, t⟩ | ⟨_, _, t⟩
      · have a3 : th_ b + wS σ th_ (SGo σ b (fallT σ b)) + wS σ th_ (SGo σ b (jmpT σ b)) ≤ wS σ th_ (SIn σ b) := w_two h nn hb fk.2
        have n1 := wS_nn (σ := σ) (S := SGo σ b (fallT σ b)) nn
        have n2 := wS_nn (σ := σ) (S := SGo σ b (jmpT σ b)) nn
        have oq := ot.to e2
        have hc : (mrun f k0 (ppl l c)).1 < 120 := by rw [h2]; exact hl
        have r1 := mrun_o2 (k0 := k0) K oq.h (Or.inr (Or.inr (Or.inl rfl))) hc
        have g := TEL.sg2 h K hS hO d _ _ _ _ hb t1 (c + 1) oq.t.l (by rw [r1, h2, b3]; omega)
        have hx := oq.h
        have hy := oq.t.r.h
        have r3 : (mrun f k0 (ppl l (c + 1 + l1.length + 1))).1 = (mrun f k0 (ppl l (c + 1 + l1.length))).1 := by
          by_cases ky : kpl l (c + 1 + l1.length) = true
          · rw [ppl_y ky, mrun_s (K.2 _ _ hy ky), mst_e rfl (by rw [op g, r1]; omega)]
          · rw [ppl_n ky]
        have w := TEL.sg2 h K hS hO d _ _ _ _ hb t2 (c + 1 + l1.length + 1) oq.t.r.t.l (by rw [r3, op g, r1, h2, b3]; omega)
        have hz := oq.t.r.t.r.one
        have s := sg2_if K hS hO hx hy hz (fun v v1 v6 => by
          obtain ⟨y, z, f1, f2, f3⟩ := TEL.f3 t2
          have oy := (oq.t.r.t.l.to f1).h
          rw [v1] at oy
          have ev := Option.some.inj oy
          rw [f1, f3 (by rw [← ev]; exact v6)]
          rfl) hc g w
        rw [e2]
        simp only [List.length_append, List.length_cons, List.length_nil]
        rw [show 0 + 1 + (l1.length + (0 + 1 + (l2.length + (0 + 1)))) = l1.length + l2.length + 3 by omega]
        exact s
      · have a3 := w_one h nn hb (jmpT σ b)
        exact TEL.sg2 h K hS hO d _ _ _ _ hb t c ot (by rw [h2, b3]; omega)
      · have a3 := w_one h nn hb (fallT σ b)
        exact TEL.sg2 h K hS hO d _ _ _ _ hb t c ot (by rw [h2, b3]; omega)
      · rw [t]
        exact sg2_nil
    · rw [t] at o ⊢
      exact pl o.one (by omega)
    · rw [t] at o ⊢
      exact pl o.one (by omega)
    · rw [t] at o ⊢
      exact pl o.one (by omega)
    · subst w3
      obtain ⟨ea, eb⟩ := go_ab h.1 e2 e3
      have q2 := w_go nn fw ea eb nm
      rw [b3] at hn
      exact TEL.sg2 h K hS hO d _ _ _ _ (h.lt_b fw) t a o (by rw [b0]; omega)
/-- what stays of the whole is matched -/
theorem TEL.mt2 {σ : Sto} (h : LNW σ) {d : Nat} {l f : List Ln} {k0 : Nat → Int} (K : KLS l f) (t : TEL σ d 0 0 0 l) : SGM f k0 0 f.length := by
  have b1 := h.2.2.2.2.2.2.2.2
  have nb := nB_le h.1
  have a1 := wS_all (S := SUBT σ 0) (th0 (σ := σ))
  have t2 : ∀ n, fb_si th_ n = 3 * (n : Int) := fun n => by
    induction n with
    | zero => rfl
    | succ n ih => rw [fb_si_succ, ih]; show 3 * (n : Int) + 3 = _; omega
  rw [t2] at a1
  have p0 : ppl l 0 = 0 := rfl
  have s := TEL.sg2 h (k0 := k0) K (TEL.str _ _ _ _ _ t) (TEL.onc h (by omega) t) d 0 0 0 l (by omega) t 0 OC.self (by
    show ((0 : Nat) : Int) + wS σ th_ (SUBT σ 0) ≤ 120
    omega)
  unfold SG2 at s
  rw [Nat.zero_add, p0, Nat.sub_zero, ← K.1] at s
  exact s
