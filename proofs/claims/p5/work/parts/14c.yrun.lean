theorem fw_n0 {σ : Sto} (h : LNW σ) {e : Nat} (he : FW σ e) : eB σ e ≠ 0 := fun q => by
  have f := h.efi e he.1.1
  have d0 := (h.2.2.2.2.1.2.1 (eA σ e) f.1 0 (by omega)).mpr (Or.inl rfl)
  exact ((h.2.2.2.2.1.2.2.1 e he.1.1).mpr ⟨he.1, by rw [q]; exact d0⟩) he.2
def LWj (t : Sto) (kd c : Int) (j : Nat) : Prop := j < nL t ∧ kA t j = kd ∧ mA t j = c
def EN (t : Sto) (o c : Int) (j : Nat) : Prop := j < nL t ∧ kA t j = 5 ∧ oA t j = o ∧ mA t j = c
/-- where one goes on with what is thrown in a block -/
def WY (t : Sto) (Q : Int → Nat → Prop) (b : Nat) : Prop := (∃ e, e < nE t ∧ eF t e = b ∧ eT t e = (t.1 25 b).toInt) ∧ ∀ e, e < nE t → eF t e = b → eT t e = (t.1 25 b).toInt → ((t.1 31 e).toInt ≠ 0 ∧ (∃ j, LWj t 1 (t.1 25 b).toInt j) ∧ ∀ j, LWj t 1 (t.1 25 b).toInt j → Q 0 j) ∨ ((t.1 31 e).toInt = 0 ∧ (∃ j, EN t 2 (t.1 25 b).toInt j) ∧ ∀ j, EN t 2 (t.1 25 b).toInt j → Q 0 (j + 1))
/-- a line, and where one goes on behind it -/
def GOb (t : Sto) (Q : Int → Nat → Prop) (o : Int) (k : Nat) : Prop := (0 ≤ o ∧ k < nL t) ∧ (
  kA t k = 11 ∨
  (kA t k = 0 ∧ ∃ s b : Nat, oA t k = s ∧ (s : Int) < (t.1 47 0).toInt ∧ mA t k = b ∧ b < nB t ∧ ((t.1 42 s).toInt ≠ 6 → ((t.1 42 s).toInt ≠ 5 → ∃ p, p + (if (t.1 42 s).toInt = 3 then 1 else 0) ≤ o ∧ Q p (k + 1)) ∧ ((t.1 25 b).toInt ≠ -1 → WY t Q b))) ∨
  (kA t k = 3 ∧ ∃ b : Nat, mA t k = b ∧ b < nB t ∧ (t.1 46 b).toInt ≠ -1 ∧ Q o (k + 1) ∧ (∃ q, LWj t 3 b q) ∧ ∃ j, (∀ q, LWj t 3 b q → q < j ∧ ∀ i, q < i → i < j → ¬ (LWj t 4 b i ∨ EN t 3 b i)) ∧ (LWj t 4 b j ∨ EN t 3 b j) ∧ Q o (j + 1)) ∨
  (kA t k = 4 ∧ (∃ j, EN t 3 (mA t k) j) ∧ ∀ j, EN t 3 (mA t k) j → Q o (j + 1)) ∨
  (kA t k = 6 ∧ (∃ j, EN t 2 (mA t k) j) ∧ ∀ j, EN t 2 (mA t k) j → Q o (j + 1)) ∨
  (kA t k = 7 ∧ (∃ j, LWj t 1 (mA t k) j) ∧ ∀ j, LWj t 1 (mA t k) j → Q o j) ∨
  (kA t k = 8 ∧ (∃ j, LWj t 11 (mA t k) j) ∧ ∀ j, LWj t 11 (mA t k) j → Q o j) ∨
  ((kA t k = 1 ∨ kA t k = 2 ∨ kA t k = 5 ∨ kA t k = 9 ∨ kA t k = 10) ∧ Q o (k + 1)))
def GO (t : Sto) : Nat → Int → Nat → Prop
  | 0 => fun _ _ => False
  | n + 1 => GOb t (GO t n)
theorem GO.s {t : Sto} {n : Nat} {o : Int} {k : Nat} : GO t (n + 1) o k = GOb t (GO t n) o k := rfl
theorem GOb.mono {t : Sto} {Q R : Int → Nat → Prop} (hQ : ∀ o p k, o ≤ p → Q o k → R p k) {o p : Int} {k : Nat} (ho : o ≤ p) (h : GOb t Q o k) : GOb t R p k := by
  obtain ⟨⟨h1, h2⟩, h⟩ := h
  refine ⟨⟨Int.le_trans h1 ho, h2⟩, ?_⟩
  rcases h with h | ⟨a, s, b, a1, a2, a3, a4, a5⟩ | ⟨a, b, a1, a2, a3, a4, a5, j, a6, a7, a8⟩ | ⟨a, a1, a2⟩ | ⟨a, a1, a2⟩ | ⟨a, a1, a2⟩ | ⟨a, a1, a2⟩ | ⟨a, a1⟩
  · exact Or.inl h
  · refine Or.inr (Or.inl ⟨a, s, b, a1, a2, a3, a4, fun z => ⟨fun y => ?_, fun y => ?_⟩⟩)
    · obtain ⟨q, q1, q2⟩ := (a5 z).1 y
      exact ⟨q, Int.le_trans q1 ho, hQ _ _ _ (Int.le_refl _) q2⟩
    · obtain ⟨w1, w2⟩ := (a5 z).2 y
      refine ⟨w1, fun e e1 e2 e3 => ?_⟩
      rcases w2 e e1 e2 e3 with ⟨v1, v2, v3⟩ | ⟨v1, v2, v3⟩
      · exact Or.inl ⟨v1, v2, fun j hj => hQ _ _ _ (Int.le_refl _) (v3 j hj)⟩
      · exact Or.inr ⟨v1, v2, fun j hj => hQ _ _ _ (Int.le_refl _) (v3 j hj)⟩
  · exact Or.inr (Or.inr (Or.inl ⟨a, b, a1, a2, a3, hQ _ _ _ ho a4, a5, j, a6, a7, hQ _ _ _ ho a8⟩))
  · exact Or.inr (Or.inr (Or.inr (Or.inl ⟨a, a1, fun j hj => hQ _ _ _ ho (a2 j hj)⟩)))
  · exact Or.inr (Or.inr (Or.inr (Or.inr (Or.inl ⟨a, a1, fun j hj => hQ _ _ _ ho (a2 j hj)⟩))))
  · exact Or.inr (Or.inr (Or.inr (Or.inr (Or.inr (Or.inl ⟨a, a1, fun j hj => hQ _ _ _ ho (a2 j hj)⟩)))))
  · exact Or.inr (Or.inr (Or.inr (Or.inr (Or.inr (Or.inr (Or.inl ⟨a, a1, fun j hj => hQ _ _ _ ho (a2 j hj)⟩))))))
  · exact Or.inr (Or.inr (Or.inr (Or.inr (Or.inr (Or.inr (Or.inr ⟨a, hQ _ _ _ ho a1⟩))))))
theorem GO.mono {t : Sto} : ∀ {n m : Nat} {o p : Int} {k : Nat}, n ≤ m → o ≤ p → GO t n o k → GO t m p k
  | 0, _, _, _, _, _, _, h => h.elim
  | n + 1, 0, _, _, _, hn, _, _ => absurd hn (by omega)
  | n + 1, m + 1, _, _, _, hn, ho, h => GOb.mono (Q := GO t n) (R := GO t m) (fun _ _ _ q r => GO.mono (Nat.le_of_succ_le_succ hn) q r) ho (GO.s ▸ h)
def ph (s1 s3 : Sto) (i : Nat) : Nat := kpt s3 (kpt s1 i)
def KE (s1 s3 : Sto) (i : Nat) : Prop := (s1.1 64 i).toInt = 0 ∧ (s3.1 64 (kpt s1 i)).toInt = 0
/-- lines as told, marked, thinned, marked, thinned -/
def THIN (l : List Ln) (s1 s2 s3 t : Sto) : Prop := ATL s1 l ∧ IDM s1 ∧ THN s1 s2 ∧ SAM s2 s3 ∧ ELM s3 ∧ THN s3 t
section
variable {l : List Ln} {s1 s2 s3 t : Sto}
theorem lt_len {l : List Ln} {i : Nat} {x : Ln} (h : l[i]? = some x) : i < l.length := (List.getElem?_eq_some_iff.mp h).1
theorem THIN.a (h : THIN l s1 s2 s3 t) {i : Nat} {x : Ln} (hx : l[i]? = some x) : i < nL s1 ∧ lnA s1 i = x := by
  have := lt_len hx
  exact ⟨by rw [h.1.1]; exact this, h.1.2 i x hx⟩
theorem THIN.sv (h : THIN l s1 s2 s3 t) {i : Nat} {x : Ln} (hx : l[i]? = some x) (k : (s1.1 64 i).toInt = 0) : kpt s1 i < nL s3 ∧ lnA s3 (kpt s1 i) = x := by
  obtain ⟨a1, a2⟩ := h.a hx
  have b1 := kpt_y k
  have b2 := kpt_mono s1 (m := i + 1) (n := nL s1) (by omega)
  have b3 := h.2.2.1.1
  have b4 := h.2.2.2.1.1
  refine ⟨by omega, ?_⟩
  rw [h.2.2.2.1.2, h.2.2.1.2 i a1 k, a2]
theorem THIN.k (h : THIN l s1 s2 s3 t) {i : Nat} {x : Ln} (hx : l[i]? = some x) (k : KE s1 s3 i) : lnA t (ph s1 s3 i) = x ∧ ph s1 s3 (i + 1) = ph s1 s3 i + 1 := by
  obtain ⟨a1, a2⟩ := h.sv hx k.1
  refine ⟨?_, ?_⟩
  · unfold ph; rw [h.2.2.2.2.2.2 _ a1 k.2, a2]
  · unfold ph; rw [kpt_y k.1, kpt_y k.2]
theorem THIN.n {i : Nat} (k : ¬ KE s1 s3 i) : ph s1 s3 (i + 1) = ph s1 s3 i := by
  unfold ph
  by_cases q : (s1.1 64 i).toInt = 0
  · have q3 : (s3.1 64 (kpt s1 i)).toInt ≠ 0 := fun z => k ⟨q, z⟩
    rw [kpt_y q, kpt_n q3]
  · rw [kpt_n q]
theorem THIN.mono {i j : Nat} (h : i ≤ j) : ph s1 s3 i ≤ ph s1 s3 j := kpt_mono s3 (kpt_mono s1 h)
theorem THIN.len (h : THIN l s1 s2 s3 t) : nL t = ph s1 s3 l.length := by
  unfold ph
  rw [h.2.2.2.2.2.1, h.2.2.2.1.1, h.2.2.1.1, h.1.1]
theorem THIN.le {i : Nat} : ph s1 s3 i ≤ i := Nat.le_trans (kpt_le s3 _) (kpt_le s1 _)
theorem THIN.lt (h : THIN l s1 s2 s3 t) {i : Nat} {x : Ln} (hx : l[i]? = some x) (k : KE s1 s3 i) : ph s1 s3 i < nL t := by
  have a := (h.k hx k).2
  have b := lt_len hx
  have c := THIN.mono (s1 := s1) (s3 := s3) (i := i + 1) (j := l.length) (by omega)
  rw [h.len]; omega
theorem THIN.sur (h : THIN l s1 s2 s3 t) {k : Nat} (hk : k < nL t) : ∃ i x, l[i]? = some x ∧ KE s1 s3 i ∧ ph s1 s3 i = k := by
  have go : ∀ n, n ≤ l.length → k < ph s1 s3 n → ∃ i, i < l.length ∧ KE s1 s3 i ∧ ph s1 s3 i = k := fun n => by
    induction n with
    | zero => intro _ z; have := THIN.le (s1 := s1) (s3 := s3) (i := 0); omega
    | succ n ih =>
      intro hn z
      by_cases q : k < ph s1 s3 n
      · exact ih (by omega) q
      · by_cases e : KE s1 s3 n
        · have hx : l[n]? = some l[n] := List.getElem?_eq_getElem (by omega)
          have a := (h.k hx e).2
          exact ⟨n, by omega, e, by omega⟩
        · have a := THIN.n e; omega
  obtain ⟨i, i1, i2, i3⟩ := go l.length (Nat.le_refl _) (by rw [← h.len]; exact hk)
  exact ⟨i, l[i], List.getElem?_eq_getElem i1, i2, i3⟩
theorem THIN.m1 (h : THIN l s1 s2 s3 t) {i : Nat} {x : Ln} (hx : l[i]? = some x) (k : (s1.1 64 i).toInt ≠ 0) : x.1 = 6 ∧ ∃ n, IDR s1 x.2.1 n (i + 1) := by
  obtain ⟨a1, a2⟩ := h.a hx
  obtain ⟨b1, b2⟩ := h.2.1 i a1 k
  rw [← a2]
  exact ⟨b1, b2⟩
theorem THIN.ke (h : THIN l s1 s2 s3 t) {i : Nat} {x : Ln} (hx : l[i]? = some x) (k6 : x.1 ≠ 6) (k4 : x.1 ≠ 4) : KE s1 s3 i := by
  have m : (s1.1 64 i).toInt = 0 := Classical.byContradiction fun z => k6 (h.m1 hx z).1
  refine ⟨m, Classical.byContradiction fun z => ?_⟩
  obtain ⟨a1, a2⟩ := h.sv hx m
  have b := ((h.2.2.2.2.1 _ a1).mp z).1
  have : kA s3 (kpt s1 i) = x.1 := by rw [← a2]; rfl
  exact k4 (by rw [← this]; exact b)
theorem THIN.k6 (h : THIN l s1 s2 s3 t) {i : Nat} {x : Ln} (hx : l[i]? = some x) (k6 : x.1 ≠ 4) (k : ¬ KE s1 s3 i) : (s1.1 64 i).toInt ≠ 0 := fun m => by
  refine k ⟨m, Classical.byContradiction fun z => ?_⟩
  obtain ⟨a1, a2⟩ := h.sv hx m
  have b := ((h.2.2.2.2.1 _ a1).mp z).1
  have : kA s3 (kpt s1 i) = x.1 := by rw [← a2]; rfl
  exact k6 (by rw [← this]; exact b)
theorem THIN.el (h : THIN l s1 s2 s3 t) {i : Nat} {x y : Ln} (hx : l[i]? = some x) (hy : l[i + 1]? = some y) (k4 : x.1 = 4) (y5 : y.1 ≠ 5) (k : ¬ KE s1 s3 i) : (s1.1 64 (i + 1)).toInt ≠ 0 := fun m2 => by
  have m : (s1.1 64 i).toInt = 0 := Classical.byContradiction fun z => by have := (h.m1 hx z).1; omega
  have z : (s3.1 64 (kpt s1 i)).toInt ≠ 0 := fun z => k ⟨m, z⟩
  obtain ⟨a1, a2⟩ := h.sv hx m
  have b := ((h.2.2.2.2.1 _ a1).mp z).2
  obtain ⟨c1, c2⟩ := h.sv hy m2
  rw [kpt_y m] at c2
  have : kA s3 (kpt s1 i + 1) = y.1 := by rw [← c2]; rfl
  exact y5 (by rw [← this]; exact b)
theorem THIN.lw (h : THIN l s1 s2 s3 t) {i : Nat} {kd c o : Int} (hx : l[i]? = some (kd, c, o)) (k : KE s1 s3 i) : LWj t kd c (ph s1 s3 i) := by
  have a := (h.k hx k).1
  exact ⟨h.lt hx k, congrArg Prod.fst a, congrArg (fun z => z.2.1) a⟩
theorem THIN.en (h : THIN l s1 s2 s3 t) {i : Nat} {c o : Int} (hx : l[i]? = some (5, c, o)) : EN t o c (ph s1 s3 i) := by
  have k := h.ke hx (by simp) (by simp)
  have a := (h.k hx k).1
  exact ⟨h.lt hx k, congrArg Prod.fst a, congrArg (fun z => z.2.2) a, congrArg (fun z => z.2.1) a⟩
theorem THIN.lwu (h : THIN l s1 s2 s3 t) {j : Nat} {kd c : Int} (q : LWj t kd c j) : ∃ i o, l[i]? = some (kd, c, o) ∧ KE s1 s3 i ∧ ph s1 s3 i = j := by
  obtain ⟨i, x, i1, i2, i3⟩ := h.sur q.1
  have a := (h.k i1 i2).1
  rw [i3] at a
  have e1 : x.1 = kd := by rw [← a]; exact q.2.1
  have e2 : x.2.1 = c := by rw [← a]; exact q.2.2
  refine ⟨i, x.2.2, ?_, i2, i3⟩
  rw [i1, ← e1, ← e2]
theorem THIN.enu (h : THIN l s1 s2 s3 t) {j : Nat} {o c : Int} (q : EN t o c j) : ∃ i, l[i]? = some (5, c, o) ∧ KE s1 s3 i ∧ ph s1 s3 i = j := by
  obtain ⟨i, x, i1, i2, i3⟩ := h.sur q.1
  have a := (h.k i1 i2).1
  rw [i3] at a
  have e1 : x.1 = 5 := by rw [← a]; exact q.2.1
  have e2 : x.2.2 = o := by rw [← a]; exact q.2.2.1
  have e3 : x.2.1 = c := by rw [← a]; exact q.2.2.2
  refine ⟨i, ?_, i2, i3⟩
  rw [i1, ← e1, ← e2, ← e3]
def HDG (s1 s3 t : Sto) (i : Nat) : Prop := GO t (1000 - ph s1 s3 i) 0 (ph s1 s3 i)
def BDG (s1 s3 t : Sto) (i : Nat) : Prop := GO t (2000 - ph s1 s3 i) 0 (ph s1 s3 i)
theorem HDG.bd {i : Nat} (h : HDG s1 s3 t i) : BDG s1 s3 t i := GO.mono (by omega) (Int.le_refl _) h
/-- a line that only goes on -/
theorem THIN.st (h : THIN l s1 s2 s3 t) {i n : Nat} {o : Int} {x : Ln} (hx : l[i]? = some x) (hk : x.1 = 1 ∨ x.1 = 2 ∨ x.1 = 5 ∨ x.1 = 9 ∨ x.1 = 10) (g : GO t n o (ph s1 s3 (i + 1))) (ho : 0 ≤ o) : GO t (n + 1) o (ph s1 s3 i) := by
  have k := h.ke hx (by omega) (by omega)
  obtain ⟨a1, a2⟩ := h.k hx k
  rw [a2] at g
  have e : kA t (ph s1 s3 i) = x.1 := by rw [← a1]; rfl
  rw [GO.s]
  refine ⟨⟨ho, h.lt hx k⟩, ?_⟩
  rw [e]
  exact Or.inr (Or.inr (Or.inr (Or.inr (Or.inr (Or.inr (Or.inr ⟨hk, g⟩))))))
theorem THIN.fu (h : THIN l s1 s2 s3 t) (hl : l.length ≤ 900) {i : Nat} {x : Ln} (hx : l[i]? = some x) (k : KE s1 s3 i) : ph s1 s3 i < 900 ∧ ph s1 s3 (i + 1) = ph s1 s3 i + 1 ∧ ph s1 s3 (i + 1) ≤ 900 := by
  have a := (h.k hx k).2
  have b := lt_len hx
  have c := THIN.le (s1 := s1) (s3 := s3) (i := i + 1)
  omega
theorem HDG.st (h : THIN l s1 s2 s3 t) (hl : l.length ≤ 900) {i : Nat} {x : Ln} (hx : l[i]? = some x) (hk : x.1 = 1 ∨ x.1 = 2 ∨ x.1 = 5 ∨ x.1 = 9 ∨ x.1 = 10) (g : HDG s1 s3 t (i + 1)) : HDG s1 s3 t i := by
  have k := h.ke hx (by omega) (by omega)
  have f := h.fu hl hx k
  have := h.st hx hk g (by decide)
  unfold HDG
  rw [show 1000 - ph s1 s3 i = (1000 - ph s1 s3 (i + 1)) + 1 by omega]
  exact this
theorem BDG.st (h : THIN l s1 s2 s3 t) (hl : l.length ≤ 900) {i : Nat} {x : Ln} (hx : l[i]? = some x) (hk : x.1 = 1 ∨ x.1 = 2 ∨ x.1 = 5 ∨ x.1 = 9 ∨ x.1 = 10) (g : BDG s1 s3 t (i + 1)) : BDG s1 s3 t i := by
  have k := h.ke hx (by omega) (by omega)
  have f := h.fu hl hx k
  have := h.st hx hk g (by decide)
  unfold BDG
  rw [show 2000 - ph s1 s3 i = (2000 - ph s1 s3 (i + 1)) + 1 by omega]
  exact this
theorem HDG.lb (h : THIN l s1 s2 s3 t) (hl : l.length ≤ 900) {i : Nat} {x : Ln} (hx : l[i]? = some x) (hk : x.1 = 11) : HDG s1 s3 t i := by
  have k := h.ke hx (by omega) (by omega)
  have f := h.fu hl hx k
  have e : kA t (ph s1 s3 i) = x.1 := by rw [← (h.k hx k).1]; rfl
  unfold HDG
  rw [show 1000 - ph s1 s3 i = (999 - ph s1 s3 i) + 1 by omega, GO.s]
  exact ⟨⟨by decide, h.lt hx k⟩, Or.inl (by rw [e]; exact hk)⟩
/-- what each line of the whole says of what stands behind it -/
def P1 (l : List Ln) (s1 s3 t : Sto) (i : Nat) : Prop := (∀ c o, l[i]? = some (1, c, o) → HDG s1 s3 t i) ∧ (∀ m, l[i]? = some (5, m, 2) → HDG s1 s3 t (i + 1)) ∧ ∀ b o, l[i]? = some (4, b, o) → ∃ (c : Nat) (e : Nat) (y : Ln), b = (c : Int) ∧ l[e]? = some (5, b, 3) ∧ i < e ∧ l[i + 1]? = some y ∧ y.1 ≠ 5 ∧ (y.1 = 6 → e = i + 2)
def C1 (l : List Ln) (s1 s3 t : Sto) (a n : Nat) : Prop := ∀ i, a ≤ i → i < a + n → P1 l s1 s3 t i
theorem C1.app {a n m : Nat} (h : C1 l s1 s3 t a n) (g : C1 l s1 s3 t (a + n) m) : C1 l s1 s3 t a (n + m) := fun i h1 h2 => by
  by_cases q : i < a + n
  · exact h i h1 q
  · exact g i (by omega) (by omega)
theorem C1.pl {a : Nat} {x : List Ln} (o : OC l a x) (h : ∀ y, y ∈ x → y.1 ≠ 1 ∧ (y.1 = 5 → y.2.2 ≠ 2) ∧ y.1 ≠ 4) : C1 l s1 s3 t a x.length := fun i h1 h2 => by
  have hx : x[i - a]? = some x[i - a] := List.getElem?_eq_getElem (by omega)
  have hl := o _ _ hx
  rw [show a + (i - a) = i by omega] at hl
  obtain ⟨a1, a2, a3⟩ := h _ (List.mem_of_getElem? hx)
  refine ⟨fun c o z => ?_, fun m z => ?_, fun b o z => ?_⟩
  · rw [hl] at z; injection z with z; rw [z] at a1; exact absurd rfl a1
  · rw [hl] at z; injection z with z; rw [z] at a2; exact absurd rfl (a2 rfl)
  · rw [hl] at z; injection z with z; rw [z] at a3; exact absurd rfl a3
theorem C1.one {a : Nat} {k b o : Int} (h : l[a]? = some (k, b, o)) (h1 : k ≠ 1) (h5 : k ≠ 5 ∨ o ≠ 2) (h4 : k ≠ 4) : C1 l s1 s3 t a 1 :=
  C1.pl (x := [(k, b, o)]) (fun i y hy => by
    cases i with
    | zero =>
      simp at hy
      rw [Nat.add_zero, h, hy]
    | succ i => simp at hy) (fun y hy => by
    rw [List.mem_singleton.mp hy]
    exact ⟨h1, fun z w => h5.elim (fun q => q z) (fun q => q w), h4⟩)
theorem mem_st {b a : Int} {y : Ln} : ∀ {n : Nat}, y ∈ stLs b a n → y.1 = 0
  | 0, h => by simp [stLs] at h
  | n + 1, h => by
    unfold stLs at h
    rcases List.mem_append.mp h with z | z
    · exact mem_st z
    · rw [List.mem_singleton.mp z]
theorem mem_ty {σ : Sto} {b : Nat} {y : Ln} (h : y ∈ tyL σ b) : y.1 = 9 := by
  unfold tyL at h
  by_cases q : (σ.1 25 b).toInt = -1
  · rw [if_pos q] at h; simp at h
  · rw [if_neg q] at h; rw [List.mem_singleton.mp h]
theorem mem_ca {σ : Sto} {b : Nat} {y : Ln} (h : y ∈ caL σ b) : y.1 = 10 := by
  unfold caL at h
  by_cases q : (σ.1 25 b).toInt = -1
  · rw [if_pos q] at h; simp at h
  · rw [if_neg q] at h; rw [List.mem_singleton.mp h]
/-- the first line of what is told -/
theorem TEL.f1 {σ : Sto} : ∀ {d w b : Nat} {k : Int} {x : List Ln}, TEL σ d w b k x → w ≤ 2 → ∃ y z, x = [y] ++ z ∧ (y.1 = 1 ∨ y.1 = 2 ∨ y.1 = 11)
  | 0, _, _, _, _, t, _ => t.elim
  | d + 1, w, b, k, x, t, hw => by
    rcases t with ⟨_, ⟨_, t⟩ | ⟨_, l1, t, e⟩⟩ | ⟨_, ⟨_, t⟩ | ⟨m, l1, l2, _, _, _, _, _, e⟩⟩ | ⟨_, tl, e, _⟩ | ⟨z, _⟩
    · exact TEL.f1 t (by decide)
    · exact ⟨_, _, e, Or.inl rfl⟩
    · exact TEL.f1 t (by decide)
    · exact ⟨_, _, e, Or.inr (Or.inl rfl)⟩
    · exact ⟨_, _, e, Or.inr (Or.inr rfl)⟩
    · omega
theorem TEL.f3 {σ : Sto} {d b : Nat} {k : Int} {x : List Ln} (t : TEL σ d 3 b k x) : ∃ y z, x = [y] ++ z ∧ y.1 ≠ 5 ∧ (y.1 = 6 → z = []) := by
  cases d with
  | zero => exact t.elim
  | succ d =>
    rcases t with ⟨z, _⟩ | ⟨z, _⟩ | ⟨z, _⟩ | ⟨_, e, _, _, _, ⟨_, q⟩ | ⟨_, _, q⟩ | ⟨_, _, q⟩ | ⟨_, _, q⟩⟩
    · exact absurd z (by decide)
    · exact absurd z (by decide)
    · exact absurd z (by decide)
    · exact ⟨_, [], by rw [q]; rfl, by simp, fun _ => rfl⟩
    · exact ⟨_, [], by rw [q]; rfl, by simp, fun _ => rfl⟩
    · exact ⟨_, [], by rw [q]; rfl, by simp, fun _ => rfl⟩
    · obtain ⟨y, z, q1, q2⟩ := TEL.f1 q (by decide)
      exact ⟨y, z, q1, by omega, fun w => by omega⟩
theorem hd_all {σ : Sto} (h : THIN l s1 s2 s3 t) (hl : l.length ≤ 900) : ∀ (d w b : Nat) (k : Int) (x : List Ln) (a : Nat), TEL σ d w b k x → OC l a x → (w ≤ 2 → HDG s1 s3 t a) ∧ C1 l s1 s3 t a x.length
  | 0, _, _, _, _, _, q, _ => q.elim
  | d + 1, w, b, k, x, a, q, o => by
    rcases q with ⟨w0, ⟨_, q⟩ | ⟨_, l1, q, e⟩⟩ | ⟨w1, ⟨_, q⟩ | ⟨m, l1, l2, _, _, _, q1, q2, e⟩⟩ | ⟨w2, tl, e, q⟩ | ⟨w3, e, _, _, _, ⟨_, q⟩ | ⟨_, _, q⟩ | ⟨_, _, q⟩ | ⟨_, _, q⟩⟩
    · have := hd_all h hl d _ _ _ _ a q o
      exact ⟨fun _ => this.1 (by decide), this.2⟩
    · rw [e] at o ⊢
      obtain ⟨h1, h2⟩ := hd_all h hl d _ _ _ _ _ q o.t.l
      have hd := HDG.st h hl o.h (Or.inl rfl) (h1 (by decide))
      refine ⟨fun _ => hd, ?_⟩
      rw [List.length_append, List.length_append]
      refine C1.app (n := 1) (fun i i1 i2 => ?_) (h2.app (C1.one o.t.r.one (by decide) (Or.inr (by decide)) (by decide)))
      have ia : i = a := by omega
      subst ia
      have oh := o.h
      exact ⟨fun _ _ _ => hd, fun m z => by rw [oh] at z; simp at z, fun b o z => by rw [oh] at z; simp at z⟩
    · have := hd_all h hl d _ _ _ _ a q o
      exact ⟨fun _ => this.1 (by decide), this.2⟩
    · rw [e] at o ⊢
      obtain ⟨h1, h2⟩ := hd_all h hl d _ _ _ _ _ q1 o.t.l
      obtain ⟨h3, h4⟩ := hd_all h hl d _ _ _ _ _ q2 o.t.r.t
      have hd := HDG.st h hl o.h (Or.inr (Or.inl rfl)) (h1 (by decide))
      refine ⟨fun _ => hd, ?_⟩
      rw [List.length_append, List.length_append, List.length_append]
      have om := o.t.r.h
      refine C1.app (n := 1) (C1.one o.h (by decide) (Or.inl (by decide)) (by decide)) (h2.app (C1.app (n := 1) (fun i i1 i2 => ?_) h4))
      have ia : i = a + 1 + l1.length := by omega
      subst ia
      exact ⟨fun c o z => by rw [om] at z; simp at z, fun m _ => h3 (by decide), fun b o z => by rw [om] at z; simp at z⟩
    · rw [e] at o ⊢
      have ot := o.t.r.r.r
      have ht : C1 l s1 s3 t (a + 1 + (tyL σ b).length + (stLs b (sB σ b) (sB σ (b + 1) - sB σ b).toNat).length + (caL σ b).length) tl.length := by
        rcases q with ⟨_, l1, l2, q1, q2, e2⟩ | ⟨_, _, q⟩ | ⟨_, _, _, q⟩ | ⟨_, _, q⟩
        · rw [e2] at ot ⊢
          obtain ⟨_, h2⟩ := hd_all h hl d _ _ _ _ _ q1 ot.t.l
          obtain ⟨_, h4⟩ := hd_all h hl d _ _ _ _ _ q2 ot.t.r.t.l
          rw [List.length_append, List.length_append, List.length_append, List.length_append]
          refine C1.app (n := 1) (C1.one ot.h (by decide) (Or.inl (by decide)) (by decide)) (h2.app (C1.app (n := 1) (fun i i1 i2 => ?_) (h4.app (C1.one ot.t.r.t.r.one (by decide) (Or.inr (by decide)) (by decide)))))
          have ia : i = a + 1 + (tyL σ b).length + (stLs b (sB σ b) (sB σ (b + 1) - sB σ b).toNat).length + (caL σ b).length + 1 + l1.length := by omega
          subst ia
          have oh := ot.t.r.h
          have oe := ot.t.r.t.r.one
          obtain ⟨y, z, f1, f2, f3⟩ := TEL.f3 q2
          have oy := (ot.t.r.t.l.to f1).h
          refine ⟨fun c o z => by rw [oh] at z; simp at z, fun m z => by rw [oh] at z; simp at z, fun b2 o2 z2 => ?_⟩
          rw [oh] at z2
          simp at z2
          rw [← z2.1]
          refine ⟨b, _, y, rfl, oe, by omega, oy, f2, fun w => ?_⟩
          rw [f1, f3 w]
          rfl
        · exact (hd_all h hl d _ _ _ _ _ q ot).2
        · exact (hd_all h hl d _ _ _ _ _ q ot).2
        · rw [q]; exact fun i i1 i2 => by simp only [List.length_nil] at i2; omega
      refine ⟨fun _ => HDG.lb h hl o.h rfl, ?_⟩
      rw [List.length_append, List.length_append, List.length_append, List.length_append]
      refine C1.app (n := 1) (C1.one o.h (by decide) (Or.inl (by decide)) (by decide)) ((C1.pl o.t.l (fun y hy => by have := mem_ty hy; exact ⟨by omega, fun z => by omega, by omega⟩)).app ((C1.pl o.t.r.l (fun y hy => by have := mem_st hy; exact ⟨by omega, fun z => by omega, by omega⟩)).app ((C1.pl o.t.r.r.l (fun y hy => by have := mem_ca hy; exact ⟨by omega, fun z => by omega, by omega⟩)).app ht)))
    · rw [q] at o ⊢
      exact ⟨fun z => absurd w3 (by omega), C1.one o.one (by decide) (Or.inl (by decide)) (by decide)⟩
    · rw [q] at o ⊢
      exact ⟨fun z => absurd w3 (by omega), C1.one o.one (by decide) (Or.inl (by decide)) (by decide)⟩
    · rw [q] at o ⊢
      exact ⟨fun z => absurd w3 (by omega), C1.one o.one (by decide) (Or.inl (by decide)) (by decide)⟩
    · exact ⟨fun z => absurd w3 (by omega), (hd_all h hl d _ _ _ _ a q o).2⟩
end
