/-- the machine of matching: how many are open, which, where lines lead -/
abbrev MSt := Nat × (Nat → Nat) × (Nat → Int)
def upN {α : Type} (f : Nat → α) (i : Nat) (v : α) : Nat → α := fun j => if j = i then v else f j
theorem upN_s {α : Type} {f : Nat → α} {i : Nat} {v : α} : upN f i v i = v := if_pos rfl
theorem upN_o {α : Type} {f : Nat → α} {i j : Nat} {v : α} (h : j ≠ i) : upN f i v j = f j := if_neg h
abbrev opK (k : Int) : Prop := k = 1 ∨ k = 2 ∨ k = 3 ∨ k = 9
abbrev clK (k : Int) : Prop := k = 5 ∨ k = 10
def plK (k : Int) : Prop := ¬ opK k ∧ k ≠ 4 ∧ ¬ clK k
def kdL (l : List Ln) (i : Nat) : Int := match l[i]? with
  | none => 0
  | some x => x.1
theorem kdL_s {l : List Ln} {i : Nat} {x : Ln} (h : l[i]? = some x) : kdL l i = x.1 := by
  unfold kdL
  simp only [h]
def mst1 (l : List Ln) (s : MSt) (i : Nat) (k : Int) : MSt :=
  if opK k then (if s.1 < 120 then (s.1 + 1, upN s.2.1 s.1 i, s.2.2) else s)
  else if k = 4 then (if 0 < s.1 then (s.1, upN s.2.1 (s.1 - 1) i, upN s.2.2 (s.2.1 (s.1 - 1)) (i : Int)) else s)
  else if clK k then (if 0 < s.1 then (s.1 - 1, s.2.1, upN (upN s.2.2 (s.2.1 (s.1 - 1)) (i : Int)) i (kdL l (s.2.1 (s.1 - 1)))) else s)
  else s
def mrun (l : List Ln) (k0 : Nat → Int) : Nat → MSt
  | 0 => (0, fun _ => 0, k0)
  | i + 1 => mst1 l (mrun l k0 i) i (kdL l i)
section
variable {l : List Ln} {s : MSt} {i : Nat} {k : Int}
theorem mst_o (h : opK k) (b : s.1 < 120) : mst1 l s i k = (s.1 + 1, upN s.2.1 s.1 i, s.2.2) := by
  unfold mst1
  rw [if_pos h, if_pos b]
theorem mst_e (h : k = 4) (b : 0 < s.1) : mst1 l s i k = (s.1, upN s.2.1 (s.1 - 1) i, upN s.2.2 (s.2.1 (s.1 - 1)) (i : Int)) := by
  unfold mst1
  rw [if_neg (by unfold opK; omega), if_pos h, if_pos b]
theorem mst_c (h : clK k) (b : 0 < s.1) : mst1 l s i k = (s.1 - 1, s.2.1, upN (upN s.2.2 (s.2.1 (s.1 - 1)) (i : Int)) i (kdL l (s.2.1 (s.1 - 1)))) := by
  unfold mst1
  rw [if_neg (by unfold opK; unfold clK at h; omega), if_neg (by unfold clK at h; omega), if_pos h, if_pos b]
theorem mst_p (h : plK k) : mst1 l s i k = s := by
  unfold mst1
  rw [if_neg h.1, if_neg h.2.1, if_neg h.2.2]
end
/-- what matching says of a line -/
def MTc (l : List Ln) (lk : Nat → Int) (i : Nat) (x : Ln) : Prop := (x.1 = 5 → lk i = x.2.2 ∨ (x.2.2 = 3 ∧ lk i = 4)) ∧ (x.1 = 4 → ∃ j : Nat, i < j ∧ lk i = (j : Int) ∧ l[j]? = some (5, x.2.1, 3))
theorem MTc.cg {l : List Ln} {lk lk2 : Nat → Int} {i : Nat} {x : Ln} (h : MTc l lk i x) (e : lk2 i = lk i) : MTc l lk2 i x := ⟨fun z => by rw [e]; exact h.1 z, fun z => by rw [e]; exact h.2 z⟩
def SEGS (l : List Ln) (s t : MSt) (a n : Nat) : Prop := t.1 = s.1 ∧ (∀ j, j < s.1 → t.2.1 j = s.2.1 j) ∧ (∀ j, j < a ∨ a + n ≤ j → t.2.2 j = s.2.2 j) ∧ ∀ i x, a ≤ i → i < a + n → l[i]? = some x → MTc l t.2.2 i x ∧ (plK x.1 → t.2.2 i = s.2.2 i)
theorem SEGS.app {l : List Ln} {s t u : MSt} {a n m : Nat} (h : SEGS l s t a n) (g : SEGS l t u (a + n) m) : SEGS l s u a (n + m) := by
  obtain ⟨h1, h2, h3, h4⟩ := h
  obtain ⟨g1, g2, g3, g4⟩ := g
  refine ⟨g1.trans h1, fun j hj => by rw [g2 j (by omega)]; exact h2 j hj, fun j hj => by rw [g3 j (by omega), h3 j (by omega)], fun i x i1 i2 hx => ?_⟩
  by_cases z : i < a + n
  · obtain ⟨q1, q2⟩ := h4 i x i1 z hx
    have e := g3 i (Or.inl z)
    exact ⟨q1.cg e, fun p => by rw [e]; exact q2 p⟩
  · obtain ⟨q1, q2⟩ := g4 i x (by omega) (by omega) hx
    exact ⟨q1, fun p => by rw [q2 p]; exact h3 i (Or.inr (by omega))⟩
/-- a piece of the lines is matched in itself -/
def SEG (l : List Ln) (k0 : Nat → Int) (a n : Nat) : Prop := SEGS l (mrun l k0 a) (mrun l k0 (a + n)) a n
section
variable {l : List Ln} {k0 : Nat → Int} {a n m : Nat} {x y z : Ln}
theorem SEG.app (h : SEG l k0 a n) (g : SEG l k0 (a + n) m) : SEG l k0 a (n + m) := by
  unfold SEG at *
  rw [← Nat.add_assoc]
  exact h.app g
theorem seg_nil : SEG l k0 a 0 := ⟨rfl, fun _ _ => rfl, fun _ _ => rfl, fun i x i1 i2 _ => by omega⟩
theorem mrun_s (h : l[a]? = some x) : mrun l k0 (a + 1) = mst1 l (mrun l k0 a) a x.1 := by
  show mst1 l (mrun l k0 a) a (kdL l a) = _
  rw [kdL_s h]
theorem seg_pl (h : l[a]? = some x) (p : plK x.1) : SEG l k0 a 1 := by
  unfold SEG
  rw [mrun_s h, mst_p p]
  refine ⟨rfl, fun _ _ => rfl, fun _ _ => rfl, fun i y i1 i2 hy => ?_⟩
  have e : i = a := by omega
  subst e
  rw [h] at hy
  have e2 := Option.some.inj hy
  subst e2
  exact ⟨⟨fun q => absurd (Or.inl q) p.2.2, fun q => absurd q p.2.1⟩, fun _ => rfl⟩
theorem mrun_o (h : l[a]? = some x) (o : opK x.1) (b : (mrun l k0 a).1 < 120) : (mrun l k0 (a + 1)).1 = (mrun l k0 a).1 + 1 := by
  rw [mrun_s h, mst_o o b]
/-- from a { to its } -/
theorem seg_br (hx : l[a]? = some x) (ox : opK x.1) (hy : l[a + 1 + n]? = some y) (oy : clK y.1) (ho : y.1 = 5 → y.2.2 = x.1) (hl : (mrun l k0 a).1 < 120) (g : SEG l k0 (a + 1) n) : SEG l k0 a (n + 2) := by
  have e1 := mrun_s (k0 := k0) hx
  rw [mst_o ox hl] at e1
  have e2 : mrun l k0 (a + (n + 2)) = mst1 l (mrun l k0 (a + 1 + n)) (a + 1 + n) y.1 := by
    rw [show a + (n + 2) = (a + 1 + n) + 1 by omega]
    exact mrun_s hy
  unfold SEG at g ⊢
  rw [e1] at g
  rw [e2]
  generalize mrun l k0 (a + 1 + n) = t at g ⊢
  generalize mrun l k0 a = s at g ⊢
  obtain ⟨g1, g2, g3, g4⟩ := g
  dsimp only at g1 g2 g3 g4
  have tp : t.2.1 s.1 = a := by rw [g2 _ (Nat.lt_succ_self _)]; exact upN_s
  have e3 : mst1 l t (a + 1 + n) y.1 = (s.1, t.2.1, upN (upN t.2.2 a ((a + 1 + n : Nat) : Int)) (a + 1 + n) x.1) := by
    rw [mst_c oy (by omega), show t.1 - 1 = s.1 by omega, tp, kdL_s hx]
  rw [e3]
  have a5 : ∀ {k : Int}, opK k → ¬ k = 5 ∧ ¬ k = 4 := fun {k} o => by unfold opK at o; exact ⟨by omega, by omega⟩
  have a6 : ∀ {k : Int}, clK k → ¬ k = 4 := fun {k} o => by unfold clK at o; omega
  refine ⟨rfl, fun j hj => ?_, fun j hj => ?_, fun i z i1 i2 hz => ?_⟩
  · show t.2.1 j = _
    rw [g2 j (by omega)]
    exact upN_o (by omega)
  · show upN (upN t.2.2 a _) (a + 1 + n) _ j = _
    rw [upN_o (by omega), upN_o (by omega)]
    exact g3 j (by omega)
  · by_cases za : i = a
    · subst za
      rw [hx] at hz
      have e := Option.some.inj hz
      subst e
      exact ⟨⟨fun q => absurd q (a5 ox).1, fun q => absurd q (a5 ox).2⟩, fun p => absurd ox p.1⟩
    · by_cases zc : i = a + 1 + n
      · subst zc
        rw [hy] at hz
        have e := Option.some.inj hz
        subst e
        refine ⟨⟨fun q => Or.inl ?_, fun q => absurd q (a6 oy)⟩, fun p => absurd oy p.2.2⟩
        show upN (upN t.2.2 a _) (a + 1 + n) _ (a + 1 + n) = _
        rw [upN_s]
        exact (ho q).symm
      · have e : upN (upN t.2.2 a ((a + 1 + n : Nat) : Int)) (a + 1 + n) x.1 i = t.2.2 i := by rw [upN_o zc, upN_o za]
        obtain ⟨q1, q2⟩ := g4 i z (by omega) (by omega) hz
        exact ⟨q1.cg e, fun p => e.trans (q2 p)⟩
/-- a choice -/
theorem seg_if (hx : l[a]? = some x) (ox : x.1 = 3) (hy : l[a + 1 + n]? = some y) (oy : y.1 = 4) (hz : l[a + 1 + n + 1 + m]? = some z) (oz : z = (5, y.2.1, 3)) (hl : (mrun l k0 a).1 < 120) (g : SEG l k0 (a + 1) n) (w : SEG l k0 (a + 1 + n + 1) m) : SEG l k0 a (n + m + 3) := by
  have ox3 : opK x.1 := Or.inr (Or.inr (Or.inl ox))
  have oz5 : z.1 = 5 := by rw [oz]
  have e1 := mrun_s (k0 := k0) hx
  rw [mst_o ox3 hl] at e1
  have e2 : mrun l k0 (a + 1 + n + 1) = mst1 l (mrun l k0 (a + 1 + n)) (a + 1 + n) y.1 := mrun_s hy
  have e3 : mrun l k0 (a + (n + m + 3)) = mst1 l (mrun l k0 (a + 1 + n + 1 + m)) (a + 1 + n + 1 + m) z.1 := by
    rw [show a + (n + m + 3) = (a + 1 + n + 1 + m) + 1 by omega]
    exact mrun_s hz
  unfold SEG at g w ⊢
  rw [e1] at g
  rw [e2] at w
  rw [e3]
  generalize mrun l k0 (a + 1 + n + 1 + m) = u at w ⊢
  generalize mrun l k0 (a + 1 + n) = t at g w
  generalize mrun l k0 a = s at g ⊢
  obtain ⟨g1, g2, g3, g4⟩ := g
  dsimp only at g1 g2 g3 g4
  have tp : t.2.1 s.1 = a := by rw [g2 _ (Nat.lt_succ_self _)]; exact upN_s
  rw [mst_e oy (by omega), show t.1 - 1 = s.1 by omega, tp] at w
  obtain ⟨w1, w2, w3, w4⟩ := w
  dsimp only at w1 w2 w3 w4
  have up : u.2.1 s.1 = a + 1 + n := by rw [w2 _ (by omega)]; exact upN_s
  have e4 : mst1 l u (a + 1 + n + 1 + m) z.1 = (s.1, u.2.1, upN (upN u.2.2 (a + 1 + n) ((a + 1 + n + 1 + m : Nat) : Int)) (a + 1 + n + 1 + m) 4) := by
    rw [mst_c (Or.inl oz5) (by omega), show u.1 - 1 = s.1 by omega, up, kdL_s hy, oy]
  rw [e4]
  refine ⟨rfl, fun j hj => ?_, fun j hj => ?_, fun i v i1 i2 hv => ?_⟩
  · show u.2.1 j = _
    rw [w2 j (by omega), upN_o (by omega), g2 j (by omega)]
    exact upN_o (by omega)
  · show upN (upN u.2.2 (a + 1 + n) _) (a + 1 + n + 1 + m) _ j = _
    rw [upN_o (by omega), upN_o (by omega), w3 j (by omega), upN_o (by omega)]
    exact g3 j (by omega)
  · show MTc l (upN (upN u.2.2 (a + 1 + n) ((a + 1 + n + 1 + m : Nat) : Int)) (a + 1 + n + 1 + m) 4) i v ∧ (plK v.1 → upN (upN u.2.2 (a + 1 + n) ((a + 1 + n + 1 + m : Nat) : Int)) (a + 1 + n + 1 + m) 4 i = s.2.2 i)
    by_cases za : i = a
    · subst za
      rw [hx] at hv
      have e := Option.some.inj hv
      subst e
      exact ⟨⟨fun q => by omega, fun q => by omega⟩, fun p => absurd ox3 p.1⟩
    · by_cases zc : i = a + 1 + n
      · subst zc
        rw [hy] at hv
        have e := Option.some.inj hv
        subst e
        refine ⟨⟨fun q => by omega, fun q => ⟨a + 1 + n + 1 + m, by omega, ?_, by rw [hz, oz]⟩⟩, fun p => absurd oy p.2.1⟩
        rw [upN_o (by omega), upN_s]
      · by_cases ze : i = a + 1 + n + 1 + m
        · subst ze
          rw [hz] at hv
          have e := Option.some.inj hv
          subst e
          refine ⟨⟨fun q => Or.inr ⟨by rw [oz], upN_s⟩, fun q => by omega⟩, fun p => absurd (Or.inl oz5) p.2.2⟩
        · have e : upN (upN u.2.2 (a + 1 + n) ((a + 1 + n + 1 + m : Nat) : Int)) (a + 1 + n + 1 + m) 4 i = u.2.2 i := by rw [upN_o ze, upN_o zc]
          by_cases zl : i < a + 1 + n
          · obtain ⟨q1, q2⟩ := g4 i v (by omega) zl hv
            have e5 : u.2.2 i = t.2.2 i := by rw [w3 i (by omega), upN_o za]
            exact ⟨q1.cg (e.trans e5), fun p => (e.trans e5).trans (q2 p)⟩
          · obtain ⟨q1, q2⟩ := w4 i v (by omega) (by omega) hv
            refine ⟨q1.cg e, fun p => ?_⟩
            rw [e, q2 p, upN_o za]
            exact g3 i (by omega)
theorem seg_st {b q : Int} : ∀ (n a : Nat), OC l a (stLs b q n) → SEG l k0 a n
  | 0, _, _ => seg_nil
  | n + 1, a, o => by
    have o2 := o.to (stLs_s b q n)
    have t := o2.r.one
    rw [stLs_len] at t
    exact (seg_st n a o2.l).app (seg_pl t ⟨by unfold opK; show ¬ ((0 : Int) = 1 ∨ (0 : Int) = 2 ∨ (0 : Int) = 3 ∨ (0 : Int) = 9); decide, by show (0 : Int) ≠ 4; decide, by unfold clK; show ¬ ((0 : Int) = 5 ∨ (0 : Int) = 10); decide⟩)
end
abbrev th_ : Nat → Int := fun _ => 3
theorem th0 {σ : Sto} : ∀ c, c < nB σ → 0 ≤ th_ c := fun c _ => by show (0 : Int) ≤ 3; omega
/-- how deep they may lie in one another -/
noncomputable def nsB (σ : Sto) (w b : Nat) (k : Int) : Int := if w = 0 then wS σ th_ (SUBT σ b) else if w = 1 then wS σ th_ (SMk σ b k) - 2 else if w = 2 then wS σ th_ (SIn σ b) - 2 else wS σ th_ (SGo σ b k)
theorem TEL.seg {σ : Sto} (h : LNW σ) {l : List Ln} {k0 : Nat → Int} : ∀ (d w b : Nat) (k : Int) (x : List Ln), b < nB σ → TEL σ d w b k x → ∀ a, OC l a x → ((mrun l k0 a).1 : Int) + nsB σ w b k ≤ 120 → SEG l k0 a x.length
  | 0, _, _, _, _, _, t => t.elim
  | d + 1, w, b, k, x, hb, t => by
    intro a o hn
    have nn := th0 (σ := σ)
    have b0 : ∀ b k, nsB σ 0 b k = wS σ th_ (SUBT σ b) := fun _ _ => rfl
    have b1 : ∀ b k, nsB σ 1 b k = wS σ th_ (SMk σ b k) - 2 := fun _ _ => rfl
    have b2 : ∀ b k, nsB σ 2 b k = wS σ th_ (SIn σ b) - 2 := fun _ _ => rfl
    have b3 : ∀ b k, nsB σ 3 b k = wS σ th_ (SGo σ b k) := fun _ _ => rfl
    have t3 : th_ b = 3 := rfl
    have pt := w_pt h nn hb
    have po := w_one h nn hb k
    have pg := wS_nn (σ := σ) (S := SGo σ b k) nn
    have pl : ∀ {k b o : Int} {a : Nat}, l[a]? = some (k, b, o) → (k = 0 ∨ k = 6 ∨ k = 7 ∨ k = 8 ∨ k = 11) → SEG l k0 a 1 := fun {k b o a} e q => seg_pl e ⟨by unfold opK; show ¬ (k = 1 ∨ k = 2 ∨ k = 3 ∨ k = 9); omega, by show k ≠ 4; omega, by unfold clK; show ¬ (k = 5 ∨ k = 10); omega⟩
    rcases t with ⟨w0, ⟨_, t⟩ | ⟨_, l1, t, e⟩⟩ | ⟨w1, ⟨_, t⟩ | ⟨m, l1, l2, hm, hk, _, t1, t2, e⟩⟩ | ⟨w2, tl, e, t⟩ | ⟨w3, e, _, e2, e3, ⟨_, t⟩ | ⟨_, _, t⟩ | ⟨_, _, t⟩ | ⟨fw, nm, t⟩⟩
    · subst w0
      have q2 := w_mk nn b (nB σ)
      rw [b0] at hn
      exact TEL.seg h d _ _ _ _ hb t a o (by rw [b1]; omega)
    · subst w0
      have q2 := w_mk nn b (nB σ)
      rw [b0] at hn
      have oe := o.to e
      have hl : (mrun l k0 a).1 < 120 := by omega
      have g := TEL.seg h d _ _ _ _ hb t (a + 1) oe.t.l (by rw [mrun_o oe.h (Or.inl rfl) hl, b1]; omega)
      have s := seg_br oe.h (Or.inl rfl) oe.t.r.one (Or.inl rfl) (fun _ => rfl) hl g
      rw [e]
      simp only [List.length_append, List.length_cons, List.length_nil]
      rw [show 0 + 1 + (l1.length + (0 + 1)) = l1.length + 2 by omega]
      exact s
    · subst w1
      have q2 := w_in nn b k
      rw [b1] at hn
      exact TEL.seg h d _ _ _ _ hb t a o (by rw [b2]; omega)
    · subst w1
      have a3 := w_mo h nn hm hk
      have a4 := w_in nn b (oR σ m)
      have a5 := w_pt h nn hm.1.1
      have a6 : th_ m = 3 := rfl
      rw [b1] at hn
      have oe := o.to e
      have hl : (mrun l k0 a).1 < 120 := by omega
      have g := TEL.seg h d _ _ _ _ hb t1 (a + 1) oe.t.l (by rw [mrun_o oe.h (Or.inr (Or.inl rfl)) hl, b1]; omega)
      have s := seg_br oe.h (Or.inr (Or.inl rfl)) oe.t.r.h (Or.inl rfl) (fun _ => rfl) hl g
      have o2 := oe.t.r.t
      rw [show a + 1 + l1.length + 1 = a + (l1.length + 2) by omega] at o2
      have s2 := TEL.seg h d _ _ _ _ hm.1.1 t2 (a + (l1.length + 2)) o2 (by rw [s.1, b0]; omega)
      have s3 := s.app s2
      rw [e]
      simp only [List.length_append, List.length_cons, List.length_nil]
      rw [show 0 + 1 + (l1.length + (0 + 1 + l2.length)) = l1.length + 2 + l2.length by omega]
      exact s3
    · subst w2
      rw [b2] at hn
      have oe := o.to e
      have hl : (mrun l k0 a).1 < 120 := by omega
      have s1 : SEG l k0 a 1 := pl oe.h (by omega)
      have o1 := oe.t
      have ts : SEG l k0 (a + 1) ((tyL σ b).length + ((sB σ (b + 1) - sB σ b).toNat + (caL σ b).length)) := by
        have oy := o1.l
        have os := o1.r.l
        have oc := o1.r.r.l
        rw [stLs_len] at oc
        by_cases z : (σ.1 25 b).toInt = -1
        · have ey : tyL σ b = [] := by unfold tyL; rw [if_pos z]
          have ec : caL σ b = [] := by unfold caL; rw [if_pos z]
          rw [ey] at os ⊢
          rw [ec]
          simp only [List.length_nil, Nat.zero_add, Nat.add_zero] at os ⊢
          exact seg_st _ _ os
        · have ey : tyL σ b = [(9, (b : Int), -1)] := by unfold tyL; rw [if_neg z]
          have ec : caL σ b = [(10, (σ.1 25 b).toInt, (b : Int))] := by unfold caL; rw [if_neg z]
          rw [ey] at oy os oc ⊢
          rw [ec] at oc ⊢
          simp only [List.length_nil, List.length_cons, Nat.zero_add] at os oc ⊢
          have hl1 : (mrun l k0 (a + 1)).1 < 120 := by rw [s1.1]; exact hl
          have s := seg_br oy.one (Or.inr (Or.inr (Or.inr rfl))) oc.one (Or.inr rfl) (fun q => absurd (show (10 : Int) = 5 from q) (by decide)) hl1 (seg_st _ _ os)
          rw [show 1 + ((sB σ (b + 1) - sB σ b).toNat + 1) = (sB σ (b + 1) - sB σ b).toNat + 2 by omega]
          exact s
      have s2 := s1.app ts
      have ot := o1.r.r.r
      rw [stLs_len] at ot
      have en : x.length = 1 + ((tyL σ b).length + ((sB σ (b + 1) - sB σ b).toNat + (caL σ b).length)) + tl.length := by
        rw [e]
        simp only [List.length_append, List.length_cons, List.length_nil]
        rw [stLs_len]
        omega
      have et : a + 1 + (tyL σ b).length + (sB σ (b + 1) - sB σ b).toNat + (caL σ b).length = a + (1 + ((tyL σ b).length + ((sB σ (b + 1) - sB σ b).toNat + (caL σ b).length))) := by omega
      rw [et] at ot
      rw [en]
      refine s2.app ?_
      have h2 := s2.1
      generalize a + (1 + ((tyL σ b).length + ((sB σ (b + 1) - sB σ b).toNat + (caL σ b).length))) = c at ot h2 ⊢
      rcases t with ⟨fk, l1, l2, t1, t2, e2⟩ | ⟨_, _, t⟩ | ⟨_, _, _, t⟩ | ⟨_, _, t⟩
      · have a3 : th_ b + wS σ th_ (SGo σ b (fallT σ b)) + wS σ th_ (SGo σ b (jmpT σ b)) ≤ wS σ th_ (SIn σ b) := w_two h nn hb fk.2
        have n1 := wS_nn (σ := σ) (S := SGo σ b (fallT σ b)) nn
        have n2 := wS_nn (σ := σ) (S := SGo σ b (jmpT σ b)) nn
        have oq := ot.to e2
        have hc : (mrun l k0 c).1 < 120 := by rw [h2]; exact hl
        have r1 := mrun_o (k0 := k0) oq.h (Or.inr (Or.inr (Or.inl rfl))) hc
        have g := TEL.seg h d _ _ _ _ hb t1 (c + 1) oq.t.l (by rw [r1, h2, b3]; omega)
        have hx := oq.h
        have hy := oq.t.r.h
        have r3 : (mrun l k0 (c + 1 + l1.length + 1)).1 = (mrun l k0 (c + 1 + l1.length)).1 := by
          rw [mrun_s hy, mst_e rfl (by rw [g.1, r1]; omega)]
        have w := TEL.seg h d _ _ _ _ hb t2 (c + 1 + l1.length + 1) oq.t.r.t.l (by rw [r3, g.1, r1, h2, b3]; omega)
        have hz := oq.t.r.t.r.one
        have s := seg_if hx rfl hy rfl hz rfl hc g w
        rw [e2]
        simp only [List.length_append, List.length_cons, List.length_nil]
        rw [show 0 + 1 + (l1.length + (0 + 1 + (l2.length + (0 + 1)))) = l1.length + l2.length + 3 by omega]
        exact s
      · have a3 := w_one h nn hb (jmpT σ b)
        exact TEL.seg h d _ _ _ _ hb t c ot (by rw [h2, b3]; omega)
      · have a3 := w_one h nn hb (fallT σ b)
        exact TEL.seg h d _ _ _ _ hb t c ot (by rw [h2, b3]; omega)
      · rw [t]
        exact seg_nil
    · rw [t] at o ⊢
      exact pl o.one (by omega)
    · rw [t] at o ⊢
      exact pl o.one (by omega)
    · rw [t] at o ⊢
      exact pl o.one (by omega)
    · subst w3
      obtain ⟨ea, eb⟩ := go_ab h.1 e2 e3
      have q2 := w_go nn fw ea eb nm
      rw [b3] at hn
      exact TEL.seg h d _ _ _ _ (h.lt_b fw) t a o (by rw [b0]; omega)
/-- the whole is matched -/
theorem TEL.mt {σ : Sto} (h : LNW σ) {d : Nat} {l : List Ln} {k0 : Nat → Int} (t : TEL σ d 0 0 0 l) : SEG l k0 0 l.length := by
  have b1 := h.2.2.2.2.2.2.2.2
  have nb := nB_le h.1
  have a1 := wS_all (S := SUBT σ 0) (th0 (σ := σ))
  have t2 : ∀ n, fb_si th_ n = 3 * (n : Int) := fun n => by
    induction n with
    | zero => rfl
    | succ n ih => rw [fb_si_succ, ih]; show 3 * (n : Int) + 3 = _; omega
  rw [t2] at a1
  refine TEL.seg h d 0 0 0 l (by omega) t 0 OC.self ?_
  show ((0 : Nat) : Int) + wS σ th_ (SUBT σ 0) ≤ 120
  omega
