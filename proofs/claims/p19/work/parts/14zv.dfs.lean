/-- going through: what stands on the way -/
def FP (V : EVt) (J : Nat → Bool) (x y : Nat) : Prop := ∀ P : Nat → Prop, P x → (∀ e, FG V J e → P (gA V e) → P (gB V e)) → P y
theorem FP.rf {V : EVt} {J : Nat → Bool} {x : Nat} : FP V J x x := fun _ p _ => p
theorem FP.st {V : EVt} {J : Nat → Bool} {x e : Nat} (h : FP V J x (gA V e)) (he : FG V J e) : FP V J x (gB V e) := fun P p1 p2 => p2 e he (h P p1 p2)
/-- edges stand block by block -/
def PFE (V : EVt) (n : Nat) (fE : Nat → Nat) : Prop := (∀ b, b < n → fE b ≤ V.1 ∧ fE (b + 1) ≤ V.1 ∧ ∀ e, e < V.1 → ((fE b ≤ e ↔ b ≤ gA V e) ∧ (fE (b + 1) ≤ e ↔ b + 1 ≤ gA V e))) ∧ ∀ e, e < V.1 → gA V e < n ∧ gB V e < n
/-- going through, as a machine: the stack, what was come to, how many are left behind, their places -/
abbrev DSt : Type := (Nat → Bool) × Nat × (Nat → Option Nat)
abbrev DCf : Type := List (Nat × Nat) × DSt
def dmk (b : Nat) (S : Nat → Bool) : Nat → Bool := fun i => S i || decide (i = b)
def dpl (b r : Nat) (R : Nat → Option Nat) : Nat → Option Nat := fun x => if x = b then some r else R x
def dstp (V : EVt) (J : Nat → Bool) (fE : Nat → Nat) (n : Nat) : DCf → DCf
  | ([], st) => ([], st)
  | ((b, c) :: K, S, L, R) => if c = fE (b + 1) then (K, S, L + 1, dpl b (n - (L + 1)) R) else if J c = false ∧ S (gB V c) = false then ((gB V c, fE (gB V c)) :: (b, c + 1) :: K, dmk (gB V c) S, L, R) else ((b, c + 1) :: K, S, L, R)
def dgo (V : EVt) (J : Nat → Bool) (fE : Nat → Nat) (n : Nat) : Nat → DCf → DCf
  | 0, x => x
  | k + 1, x => dgo V J fE n k (dstp V J fE n x)
section
variable {V : EVt} {J : Nat → Bool} {n : Nat} {fE : Nat → Nat}
theorem dgo_add (a b : Nat) : ∀ x, dgo V J fE n (a + b) x = dgo V J fE n b (dgo V J fE n a x) := by
  induction a with
  | zero => intro x; rw [Nat.zero_add]; rfl
  | succ a ih => intro x; rw [Nat.succ_add]; exact ih _
theorem dgo_one (k : Nat) (x : DCf) : dgo V J fE n (k + 1) x = dstp V J fE n (dgo V J fE n k x) := dgo_add k 1 x
theorem dgo_end (k : Nat) (st : DSt) : dgo V J fE n k ([], st) = ([], st) := by
  induction k with
  | zero => rfl
  | succ k ih => exact ih
theorem dgo_uq {a b : Nat} {x : DCf} {s t : DSt} (h : dgo V J fE n a x = ([], s)) (g : dgo V J fE n b x = ([], t)) : s = t := by
  have p := dgo_add (V := V) (J := J) (fE := fE) (n := n) a b x
  have q := dgo_add (V := V) (J := J) (fE := fE) (n := n) b a x
  rw [h, dgo_end] at p
  rw [g, dgo_end] at q
  rw [Nat.add_comm] at p
  rw [p] at q
  exact (Prod.mk.inj q).2
theorem dstp_pop {b c : Nat} {K : List (Nat × Nat)} {S : Nat → Bool} {L : Nat} {R : Nat → Option Nat} (h : c = fE (b + 1)) : dstp V J fE n ((b, c) :: K, S, L, R) = (K, S, L + 1, dpl b (n - (L + 1)) R) := if_pos h
theorem dstp_new {b c : Nat} {K : List (Nat × Nat)} {S : Nat → Bool} {L : Nat} {R : Nat → Option Nat} (h : ¬ c = fE (b + 1)) (g : J c = false ∧ S (gB V c) = false) : dstp V J fE n ((b, c) :: K, S, L, R) = ((gB V c, fE (gB V c)) :: (b, c + 1) :: K, dmk (gB V c) S, L, R) := (if_neg h).trans (if_pos g)
theorem dstp_old {b c : Nat} {K : List (Nat × Nat)} {S : Nat → Bool} {L : Nat} {R : Nat → Option Nat} (h : ¬ c = fE (b + 1)) (g : ¬ (J c = false ∧ S (gB V c) = false)) : dstp V J fE n ((b, c) :: K, S, L, R) = ((b, c + 1) :: K, S, L, R) := (if_neg h).trans (if_neg g)
/-- what was come to has its place, or stands on the stack -/
def DSN (x : DCf) : Prop := ∀ b, x.2.2.2 b = none → x.2.1 b = true → ∃ p, p ∈ x.1 ∧ p.1 = b
theorem DSN.st {x : DCf} (h : DSN x) : DSN (dstp V J fE n x) := by
  obtain ⟨K, S, L, R⟩ := x
  cases K with
  | nil => exact h
  | cons p K =>
    obtain ⟨b, c⟩ := p
    by_cases q : c = fE (b + 1)
    · rw [dstp_pop q]
      intro y h1 h2
      have h1 : dpl b (n - (L + 1)) R y = none := h1
      unfold dpl at h1
      by_cases z : y = b
      · rw [if_pos z] at h1; exact absurd h1 (by simp)
      · rw [if_neg z] at h1
        obtain ⟨p, p1, p2⟩ := h y h1 h2
        rcases List.mem_cons.mp p1 with w | w
        · rw [w] at p2; exact absurd p2.symm z
        · exact ⟨p, w, p2⟩
    · by_cases g : J c = false ∧ S (gB V c) = false
      · rw [dstp_new q g]
        intro y h1 h2
        have h2 : (S y || decide (y = gB V c)) = true := h2
        rw [Bool.or_eq_true, decide_eq_true_eq] at h2
        rcases h2 with z | z
        · obtain ⟨p, p1, p2⟩ := h y h1 z
          rcases List.mem_cons.mp p1 with w | w
          · rw [w] at p2
            exact ⟨(b, c + 1), List.mem_cons_of_mem _ List.mem_cons_self, p2⟩
          · exact ⟨p, List.mem_cons_of_mem _ (List.mem_cons_of_mem _ w), p2⟩
        · exact ⟨(gB V c, fE (gB V c)), List.mem_cons_self, z.symm⟩
      · rw [dstp_old q g]
        intro y h1 h2
        obtain ⟨p, p1, p2⟩ := h y h1 h2
        rcases List.mem_cons.mp p1 with w | w
        · rw [w] at p2
          exact ⟨(b, c + 1), List.mem_cons_self, p2⟩
        · exact ⟨p, List.mem_cons_of_mem _ w, p2⟩
theorem DSN.go {x : DCf} (h : DSN x) : ∀ k, DSN (dgo V J fE n k x)
  | 0 => h
  | k + 1 => by rw [dgo_one]; exact (DSN.go h k).st
/-- at the begin -/
def dbeg (fE : Nat → Nat) : DCf := ([(0, fE 0)], dmk 0 (fun _ => false), 0, fun _ => none)
theorem DSN.beg : DSN (dbeg fE) := fun b _ h2 => by
  have h2 : (false || decide (b = 0)) = true := h2
  rw [Bool.false_or, decide_eq_true_eq] at h2
  exact ⟨(0, fE 0), List.mem_cons_self, h2.symm⟩
/-- the places -/
def ORDm (V : EVt) (J : Nat → Bool) (n : Nat) (r40 : Nat → Int) : Prop := ∃ fE k S L R, PFE V n fE ∧ dgo V J fE n k (dbeg fE) = ([], S, L, R) ∧ ∀ b, b < n → ∃ r : Nat, R b = some r ∧ r40 b = r
/-- the stack as rows tell it -/
def stkO (fE : Nat → Nat) (O c : Nat → Nat) : Nat → List (Nat × Nat)
  | 0 => []
  | H + 1 => (O H, fE (O H) + c (O H)) :: stkO fE O c H
theorem stkO_cg {O c O2 c2 : Nat → Nat} : ∀ H, (∀ i, i < H → O2 i = O i ∧ c2 (O i) = c (O i)) → stkO fE O2 c2 H = stkO fE O c H
  | 0, _ => rfl
  | H + 1, h => by
    obtain ⟨h1, h2⟩ := h H (by omega)
    show (O2 H, fE (O2 H) + c2 (O2 H)) :: stkO fE O2 c2 H = (O H, fE (O H) + c (O H)) :: stkO fE O c H
    rw [h1, h2, stkO_cg H (fun i hi => h i (by omega))]
end
def FNs (S : Nat → Bool) (H : Nat) (O : Nat → Nat) (b : Nat) : Prop := S b = true ∧ ∀ i, i < H → O i ≠ b
def DFI (V : EVt) (J : Nat → Bool) (n : Nat) (fE : Nat → Nat) (r42 r43 r39 r40 : Nat → Int) (S : Nat → Bool) (L H T : Nat) (O c : Nat → Nat) : Prop :=
  (H ≤ n ∧ (∀ i, i < H → r42 i = O i ∧ r43 i = fE (O i) + c (O i) ∧ O i < n ∧ S (O i) = true) ∧ (∀ i j, i < H → j < H → O i = O j → i = j)) ∧
  ((∀ b, S b = true → b < n) ∧ (∀ b, b < n → c b ≤ fE (b + 1) - fE b) ∧ (∀ b, FNs S H O b → c b = fE (b + 1) - fE b) ∧ (∀ b, S b = false → c b = 0)) ∧
  (L + H = fb_ct S n ∧ T = sF c n + L ∧ S 0 = true ∧ (∀ b, S b = true → AG V J b)) ∧
  (∀ e, KG V J e → S (gA V e) = true → e < fE (gA V e) + c (gA V e) → S (gB V e) = true) ∧
  ((∀ i, i + 1 < H → ∃ e, FG V J e ∧ gA V e = O i ∧ gB V e = O (i + 1)) ∧ (0 < H → O 0 = 0) ∧ (H = 0 → r40 0 = (n : Int) - L)) ∧
  ((∀ b, FNs S H O b → ∃ p : Nat, r40 b = p ∧ n ≤ p + L ∧ p < n ∧ r39 p = b) ∧ (∀ p : Nat, n ≤ p + L → p < n → ∃ b, FNs S H O b ∧ r39 p = b ∧ r40 b = p)) ∧
  ∀ e, KG V J e → FNs S H O (gA V e) → (FNs S H O (gB V e) ∧ r40 (gA V e) < r40 (gB V e)) ∨ FP V J (gB V e) (gA V e)
section
variable {V : EVt} {J : Nat → Bool} {n : Nat} {fE : Nat → Nat}
theorem PFE.mono (h : PFE V n fE) {b : Nat} (hb : b < n) : fE b ≤ fE (b + 1) := Classical.byContradiction fun z => by
  obtain ⟨h1, h2, h3⟩ := h.1 b hb
  have q := h3 (fE (b + 1)) (by omega)
  omega
theorem PFE.src (h : PFE V n fE) {b e : Nat} (hb : b < n) (h1 : fE b ≤ e) (h2 : e < fE (b + 1)) : e < V.1 ∧ gA V e = b := by
  obtain ⟨q1, q2, q3⟩ := h.1 b hb
  have he : e < V.1 := by omega
  have q := q3 e he
  exact ⟨he, by omega⟩
theorem PFE.in_ (h : PFE V n fE) {e : Nat} (he : e < V.1) : fE (gA V e) ≤ e ∧ e < fE (gA V e + 1) := by
  obtain ⟨q1, q2, q3⟩ := h.1 (gA V e) (h.2 e he).1
  have q := q3 e he
  omega
theorem PFE.tel (h : PFE V n fE) : ∀ k, k ≤ n → sF (fun b => fE (b + 1) - fE b) k ≤ fE k
  | 0, _ => Nat.zero_le _
  | k + 1, hk => by
    have a := PFE.tel h k (by omega)
    have b := h.mono (b := k) (by omega)
    show sF (fun b => fE (b + 1) - fE b) k + (fE (k + 1) - fE k) ≤ fE (k + 1)
    omega
variable {r42 r43 r39 r40 : Nat → Int} {S : Nat → Bool} {L H T : Nat} {O c : Nat → Nat}
theorem DFI.bd (hE : PFE V n fE) (h0 : 0 < n) (h : DFI V J n fE r42 r43 r39 r40 S L H T O c) : T ≤ V.1 + n := by
  obtain ⟨_, ⟨_, b2, _, _⟩, ⟨c1, c2, _, _⟩, _⟩ := h
  have a := sF_le (f := c) (g := fun b => fE (b + 1) - fE b) n b2
  have b := hE.tel n (Nat.le_refl _)
  have d := fb_ct_le S n
  obtain ⟨q1, q2, _⟩ := hE.1 (n - 1) (by omega)
  rw [show n - 1 + 1 = n by omega] at q2
  omega
/-- along the stack, kept edges that aren't back -/
theorem DFI.fp (h : DFI V J n fE r42 r43 r39 r40 S L H T O c) {i : Nat} : ∀ k, i + k < H → FP V J (O i) (O (i + k))
  | 0, _ => FP.rf
  | k + 1, hk => by
    obtain ⟨_, _, _, _, ⟨e1, _, _⟩, _⟩ := id h
    obtain ⟨e, x1, x2, x3⟩ := e1 (i + k) (by omega)
    have a := DFI.fp h (i := i) k (by omega)
    rw [← x2] at a
    have b := a.st x1
    rw [x3] at b
    exact b
theorem DFI.rg (h : DFI V J n fE r42 r43 r39 r40 S L H T O c) {y : Nat} (hy : S y = false) : ∀ i, i < H → RG V J y (O i)
  | 0, hi => by
    obtain ⟨_, _, _, _, ⟨_, e2, _⟩, _⟩ := h
    rw [e2 hi]; exact RG.zero
  | i + 1, hi => by
    obtain ⟨⟨_, a2, _⟩, _, _, _, ⟨e1, _, _⟩, _⟩ := id h
    obtain ⟨e, x1, x2, x3⟩ := e1 i hi
    have a := DFI.rg h hy i (by omega)
    rw [← x2] at a
    have s := (a2 (i + 1) hi).2.2.2
    have b := a.st x1.1 (fun z => by rw [← x3, z, hy] at s; exact absurd s (by decide))
    rw [x3] at b
    exact b
theorem DFI.ini {r42 r43 r39 r40 : Nat → Int} (hE : PFE V n fE) (hn : 0 < n) (h42 : r42 0 = 0) (h43 : r43 0 = fE 0) {S : Nat → Bool} (hS : ∀ i, S i = decide (i = 0)) (hct : fb_ct S n = 1) : DFI V J n fE r42 r43 r39 r40 S 0 1 0 (fun _ => 0) (fun _ => 0) := by
  have s0 : ∀ b, S b = true → b = 0 := fun b hb => by rw [hS] at hb; exact of_decide_eq_true hb
  have nf : ∀ b, ¬ FNs S 1 (fun _ => 0) b := fun b hb => hb.2 0 (by omega) (s0 b hb.1).symm
  have zs : ∀ k, sF (fun _ => 0) k = 0 := fun k => by
    induction k with
    | zero => rfl
    | succ k ih => show sF (fun _ => 0) k + 0 = 0; rw [ih]
  refine ⟨⟨hn, fun i hi => ?_, fun i j hi hj _ => by omega⟩, ⟨fun b hb => by rw [s0 b hb]; exact hn, fun b _ => Nat.zero_le _, fun b hb => absurd hb (nf b), fun _ _ => rfl⟩, ⟨by rw [hct], by rw [zs], by rw [hS]; exact decide_eq_true rfl, fun b hb => by rw [s0 b hb]; exact AG.zero⟩, fun e he hs h => ?_, ⟨fun i hi => by omega, fun _ => rfl, fun z => by omega⟩, ⟨fun b hb => absurd hb (nf b), fun p h1 h2 => by omega⟩, fun e _ hf => absurd hf (nf _)⟩
  · have : i = 0 := by omega
    subst this
    refine ⟨h42, ?_, hn, by rw [hS]; exact decide_eq_true rfl⟩
    rw [h43]
    show (fE 0 : Int) = fE 0 + ((0 : Nat) : Int)
    omega
  · have h2 : e < fE (gA V e) + 0 := h
    have := (hE.in_ he.1).1
    omega
theorem sF_up {c c2 : Nat → Nat} {b : Nat} (ec : ∀ x, c2 x = if x = b then c b + 1 else c x) : ∀ n, sF c2 n = sF c n + (if b < n then 1 else 0)
  | 0 => rfl
  | n + 1 => by
    show sF c2 n + c2 n = sF c n + c n + _
    rw [sF_up ec n, ec n]
    by_cases q : n = b
    · subst q
      rw [if_neg (Nat.lt_irrefl _), if_pos rfl, if_pos (by omega)]
      omega
    · rw [if_neg q]
      by_cases r : b < n
      · rw [if_pos r, if_pos (by omega)]; omega
      · rw [if_neg r, if_neg (by omega)]; omega
/-- one is left -/
theorem DFI.pop {r39' r40' : Nat → Int} {b : Nat} (hE : PFE V n fE) (h : DFI V J n fE r42 r43 r39 r40 S L H T O c) (hH : 0 < H) (hb : O (H - 1) = b) (hc : c b = fE (b + 1) - fE b) (e39 : ∀ p : Nat, r39' p = if p = n - (L + 1) then (b : Int) else r39 p) (e40 : ∀ x : Nat, r40' x = if x = b then ((n - (L + 1) : Nat) : Int) else r40 x) : DFI V J n fE r42 r43 r39' r40' S (L + 1) (H - 1) (T + 1) O c := by
  obtain ⟨⟨a1, a2, a3⟩, ⟨b1, b2, b3, b4⟩, ⟨c1, c2, c3, c4⟩, d, ⟨e1, e2, e3⟩, ⟨f1, f2⟩, g⟩ := id h
  have ct := fb_ct_le S n
  have q := a2 (H - 1) (by omega)
  rw [hb] at q
  obtain ⟨_, _, nb, sb⟩ := q
  have fin : ∀ x, FNs S (H - 1) O x ↔ FNs S H O x ∨ x = b := fun x => by
    constructor
    · rintro ⟨x1, x2⟩
      by_cases q : x = b
      · exact Or.inr q
      · refine Or.inl ⟨x1, fun i hi z => ?_⟩
        by_cases r : i = H - 1
        · rw [r, hb] at z; exact q z.symm
        · exact x2 i (by omega) z
    · rintro (⟨x1, x2⟩ | z)
      · exact ⟨x1, fun i hi => x2 i (by omega)⟩
      · subst z
        exact ⟨sb, fun i hi z => by have := a3 i (H - 1) (by omega) (by omega) (by rw [z, hb]); omega⟩
  have nfb : ¬ FNs S H O b := fun z => z.2 (H - 1) (by omega) hb
  refine ⟨⟨by omega, fun i hi => a2 i (by omega), fun i j hi hj => a3 i j (by omega) (by omega)⟩, ⟨b1, b2, fun x hx => ?_, b4⟩, ⟨by omega, by omega, c3, c4⟩, d, ⟨fun i hi => e1 i (by omega), fun z => e2 (by omega), fun z => ?_⟩, ⟨fun x hx => ?_, fun p p1 p2 => ?_⟩, fun e he hf => ?_⟩
  · rcases (fin x).mp hx with y | y
    · exact b3 x y
    · rw [y]; exact hc
  · have b0 : (0 : Nat) = b := by rw [← hb, show H - 1 = 0 by omega]; exact (e2 hH).symm
    rw [e40, if_pos b0]
    omega
  · rcases (fin x).mp hx with y | y
    · obtain ⟨p, p1, p2, p3, p4⟩ := f1 x y
      have xb : x ≠ b := fun z => nfb (z ▸ y)
      exact ⟨p, by rw [e40, if_neg xb]; exact p1, by omega, p3, by rw [e39, if_neg (by omega)]; exact p4⟩
    · exact ⟨n - (L + 1), by rw [e40, if_pos y], by omega, by omega, by rw [e39, if_pos rfl, y]⟩
  · by_cases q : p = n - (L + 1)
    · exact ⟨b, (fin b).mpr (Or.inr rfl), by rw [e39, if_pos q], by rw [e40, if_pos rfl, q]⟩
    · obtain ⟨x, x1, x2, x3⟩ := f2 p (by omega) p2
      have xb : x ≠ b := fun z => nfb (z ▸ x1)
      exact ⟨x, (fin x).mpr (Or.inl x1), by rw [e39, if_neg q]; exact x2, by rw [e40, if_neg xb]; exact x3⟩
  · rcases (fin _).mp hf with y | y
    · have ya : gA V e ≠ b := fun z => nfb (z ▸ y)
      rcases g e he y with ⟨g1, g2⟩ | g2
      · have yb : gB V e ≠ b := fun z => nfb (z ▸ g1)
        exact Or.inl ⟨(fin _).mpr (Or.inl g1), by rw [e40, e40, if_neg ya, if_neg yb]; exact g2⟩
      · exact Or.inr g2
    · have ei := hE.in_ he.1
      have mo := hE.mono nb
      have sT : S (gB V e) = true := d e he (by rw [y]; exact sb) (by rw [y] at ei ⊢; rw [hc]; omega)
      by_cases q : gB V e = b
      · right
        rw [q, y]; exact FP.rf
      by_cases r : FNs S H O (gB V e)
      · left
        obtain ⟨p, p1, p2, _⟩ := f1 _ r
        refine ⟨(fin _).mpr (Or.inl r), ?_⟩
        rw [e40, if_pos y, e40, if_neg q, p1]
        omega
      · obtain ⟨i, hi, hq⟩ : ∃ i, i < H ∧ O i = gB V e := Classical.byContradiction fun z => r ⟨sT, fun i hi hq => z ⟨i, hi, hq⟩⟩
        have i1_ : i ≠ H - 1 := fun z => q (by rw [← hq, z, hb])
        have w := h.fp (i := i) (H - 1 - i) (by omega)
        rw [show i + (H - 1 - i) = H - 1 by omega, hb, hq] at w
        right
        rw [y]; exact w
/-- an edge that leads nowhere new -/
theorem DFI.old {r43' : Nat → Int} {c' : Nat → Nat} {b : Nat} (h : DFI V J n fE r42 r43 r39 r40 S L H T O c) (hH : 0 < H) (hb : O (H - 1) = b) (hc : c b < fE (b + 1) - fE b) (hx : J (fE b + c b) = false → S (gB V (fE b + c b)) = true) (e43 : ∀ i : Nat, r43' i = if i = H - 1 then ((fE b + c b + 1 : Nat) : Int) else r43 i) (ec : ∀ x, c' x = if x = b then c b + 1 else c x) : DFI V J n fE r42 r43' r39 r40 S L H (T + 1) O c' := by
  obtain ⟨⟨a1, a2, a3⟩, ⟨b1, b2, b3, b4⟩, ⟨c1, c2, c3, c4⟩, d, E, F, g⟩ := h
  have q := a2 (H - 1) (by omega)
  rw [hb] at q
  obtain ⟨_, _, nb, sb⟩ := q
  refine ⟨⟨a1, fun i hi => ?_, a3⟩, ⟨b1, fun x hx => ?_, fun x hx => ?_, fun x hx => ?_⟩, ⟨c1, ?_, c3, c4⟩, fun e he hs hl => ?_, E, F, g⟩
  · obtain ⟨x1, x2, x3, x4⟩ := a2 i hi
    refine ⟨x1, ?_, x3, x4⟩
    rw [e43, ec]
    by_cases r : i = H - 1
    · have ob : O i = b := by rw [r, hb]
      rw [if_pos r, if_pos ob, ob]; omega
    · have ob : O i ≠ b := fun z => r (a3 i (H - 1) hi (by omega) (by rw [z, hb]))
      rw [if_neg r, if_neg ob]; exact x2
  · rw [ec]
    by_cases r : x = b
    · rw [if_pos r, r]; omega
    · rw [if_neg r]; exact b2 x hx
  · have r : x ≠ b := fun z => hx.2 (H - 1) (by omega) (by rw [z]; exact hb)
    rw [ec, if_neg r]; exact b3 x hx
  · have r : x ≠ b := fun z => by rw [z, sb] at hx; exact absurd hx (by decide)
    rw [ec, if_neg r]; exact b4 x hx
  · rw [sF_up ec n, if_pos nb]; omega
  · rw [ec] at hl
    by_cases r : gA V e = b
    · rw [if_pos r, r] at hl
      by_cases w : e < fE b + c b
      · exact d e he hs (by rw [r]; exact w)
      · have ee : e = fE b + c b := by omega
        have j := he.2
        rw [ee] at j ⊢
        exact hx j
    · rw [if_neg r] at hl; exact d e he hs hl
/-- a new one -/
theorem DFI.new {r42' r43' : Nat → Int} {S' : Nat → Bool} {O' c' : Nat → Nat} {b y : Nat} (hE : PFE V n fE) (h : DFI V J n fE r42 r43 r39 r40 S L H T O c) (hH : 0 < H) (hb : O (H - 1) = b) (hc : c b < fE (b + 1) - fE b) (hj : J (fE b + c b) = false) (hy : gB V (fE b + c b) = y) (hs : S y = false) (eS : ∀ x, S' x = (S x || decide (x = y))) (hct : fb_ct S' n = fb_ct S n + 1) (e42 : ∀ i : Nat, r42' i = if i = H then (y : Int) else r42 i) (e43 : ∀ i : Nat, r43' i = if i = H then (fE y : Int) else if i = H - 1 then ((fE b + c b + 1 : Nat) : Int) else r43 i) (eO : ∀ i, O' i = if i = H then y else O i) (ec : ∀ x, c' x = if x = b then c b + 1 else c x) : DFI V J n fE r42' r43' r39 r40 S' L (H + 1) (T + 1) O' c' := by
  obtain ⟨⟨a1, a2, a3⟩, ⟨b1, b2, b3, b4⟩, ⟨c1, c2, c3, c4⟩, d, ⟨e1, e2, e3⟩, ⟨f1, f2⟩, g⟩ := id h
  have ct := fb_ct_le S' n
  have q := a2 (H - 1) (by omega)
  rw [hb] at q
  obtain ⟨_, _, nb, sb⟩ := q
  have ed := hE.src nb (e := fE b + c b) (by omega) (by omega)
  have hk : KG V J (fE b + c b) := ⟨ed.1, hj⟩
  have yn : y < n := by rw [← hy]; exact (hE.2 _ ed.1).2
  have yb : y ≠ b := fun z => by rw [z, sb] at hs; exact absurd hs (by decide)
  have y0 : y ≠ 0 := fun z => by rw [z, c3] at hs; exact absurd hs (by decide)
  have up : ∀ x, S x = true → S' x = true := fun x hx => by rw [eS, hx]; rfl
  have dn : ∀ x, S' x = true → x ≠ y → S x = true := fun x hx hn => by
    rw [eS, Bool.or_eq_true, decide_eq_true_eq] at hx
    exact hx.resolve_right hn
  have Oy : ∀ i, i < H → O i ≠ y := fun i hi z => by
    have := (a2 i hi).2.2.2
    rw [z, hs] at this; exact absurd this (by decide)
  have fin : ∀ x, FNs S' (H + 1) O' x ↔ FNs S H O x := fun x => by
    constructor
    · rintro ⟨x1, x2⟩
      have xy : x ≠ y := fun z => x2 H (by omega) (by rw [eO, if_pos rfl, z])
      refine ⟨dn x x1 xy, fun i hi z => x2 i (by omega) ?_⟩
      rw [eO, if_neg (by omega)]; exact z
    · rintro ⟨x1, x2⟩
      refine ⟨up x x1, fun i hi z => ?_⟩
      rw [eO] at z
      by_cases r : i = H
      · rw [if_pos r] at z
        rw [← z, hs] at x1; exact absurd x1 (by decide)
      · rw [if_neg r] at z
        exact x2 i (by omega) z
  have F0 : FG V J (fE b + c b) := by
    refine ⟨hk, fun z => ?_⟩
    rw [hy, ed.2] at z
    rcases z with z | z
    · exact y0 z
    · have := h.rg hs (H - 1) (by omega)
      rw [hb] at this
      exact z this
  refine ⟨⟨by omega, fun i hi => ?_, fun i j hi hj z => ?_⟩, ⟨fun x hx => ?_, fun x hx => ?_, fun x hx => ?_, fun x hx => ?_⟩, ⟨by omega, ?_, up 0 c3, fun x hx => ?_⟩, fun e he hs2 hl => ?_, ⟨fun i hi => ?_, fun _ => by rw [eO, if_neg (by omega)]; exact e2 hH, fun z => by omega⟩, ⟨fun x hx => ?_, fun p p1 p2 => ?_⟩, fun e he hf => ?_⟩
  · rw [e42, e43, eO, ec]
    by_cases r : i = H
    · rw [if_pos r, if_pos r, if_pos r, if_neg yb, b4 y hs]
      refine ⟨rfl, by omega, yn, ?_⟩
      rw [eS, decide_eq_true rfl, Bool.or_true]
    · rw [if_neg r, if_neg r, if_neg r]
      obtain ⟨x1, x2, x3, x4⟩ := a2 i (by omega)
      refine ⟨x1, ?_, x3, up _ x4⟩
      by_cases w : i = H - 1
      · have ob : O i = b := by rw [w, hb]
        rw [if_pos w, if_pos ob, ob]; omega
      · have ob : O i ≠ b := fun z => w (a3 i (H - 1) (by omega) (by omega) (by rw [z, hb]))
        rw [if_neg w, if_neg ob]; exact x2
  · rw [eO, eO] at z
    by_cases r : i = H
    · by_cases w : j = H
      · omega
      · rw [if_pos r, if_neg w] at z
        exact absurd z.symm (Oy j (by omega))
    · by_cases w : j = H
      · rw [if_neg r, if_pos w] at z
        exact absurd z (Oy i (by omega))
      · rw [if_neg r, if_neg w] at z
        exact a3 i j (by omega) (by omega) z
  · by_cases r : x = y
    · rw [r]; exact yn
    · exact b1 x (dn x hx r)
  · rw [ec]
    by_cases r : x = b
    · rw [if_pos r, r]; omega
    · rw [if_neg r]; exact b2 x hx
  · have hx2 := (fin x).mp hx
    have r : x ≠ b := fun z => hx2.2 (H - 1) (by omega) (by rw [z]; exact hb)
    rw [ec, if_neg r]; exact b3 x hx2
  · have r : x ≠ b := fun z => by rw [z, up b sb] at hx; exact absurd hx (by decide)
    have hx2 : S x = false := by
      cases w : S x with
      | false => rfl
      | true => rw [up x w] at hx; exact absurd hx (by decide)
    rw [ec, if_neg r]; exact b4 x hx2
  · rw [sF_up ec n, if_pos nb]; omega
  · by_cases r : x = y
    · have A := c4 b sb
      rw [← ed.2] at A
      have B := A.st hk
      rw [hy] at B
      rw [r]; exact B
    · exact c4 x (dn x hx r)
  · rw [ec] at hl
    by_cases r : gA V e = b
    · rw [if_pos r, r] at hl
      by_cases w : e < fE b + c b
      · exact up _ (d e he (by rw [r]; exact sb) (by rw [r]; exact w))
      · have ee : e = fE b + c b := by omega
        rw [ee, hy, eS, decide_eq_true rfl, Bool.or_true]
    · rw [if_neg r] at hl
      by_cases w : gA V e = y
      · rw [w, b4 y hs] at hl
        have := (hE.in_ he.1).1
        rw [w] at this
        omega
      · exact up _ (d e he (dn _ hs2 w) hl)
  · by_cases r : i + 1 = H
    · have w : i = H - 1 := by omega
      refine ⟨fE b + c b, F0, ?_, ?_⟩
      · rw [ed.2, eO, if_neg (by omega), w, hb]
      · rw [hy, eO, if_pos r]
    · obtain ⟨e, x1, x2, x3⟩ := e1 i (by omega)
      exact ⟨e, x1, by rw [x2, eO, if_neg (by omega)], by rw [x3, eO, if_neg (by omega)]⟩
  · exact f1 x ((fin x).mp hx)
  · obtain ⟨x, x1, x2⟩ := f2 p p1 p2
    exact ⟨x, (fin x).mpr x1, x2⟩
  · rcases g e he ((fin _).mp hf) with ⟨g1, g2⟩ | g2
    · exact Or.inl ⟨(fin _).mpr g1, g2⟩
    · exact Or.inr g2
/-- order and place, where all is come to -/
def PRM (V : EVt) (J : Nat → Bool) (n : Nat) (r39 r40 : Nat → Int) : Prop := (∀ b, b < n → ∃ p : Nat, r40 b = p ∧ p < n ∧ r39 p = b) ∧ (∀ p : Nat, p < n → ∃ b : Nat, b < n ∧ r39 p = b ∧ r40 b = p) ∧ (r40 0 = 0 ∧ ORDm V J n r40) ∧ ∀ e, KG V J e → r40 (gA V e) < r40 (gB V e) ∨ FP V J (gB V e) (gA V e)
theorem DFI.fin (hE : PFE V n fE) (h : DFI V J n fE r42 r43 r39 r40 S L 0 T O c) (hO : (∀ b, b < n → S b = true) → ORDm V J n r40) : (L = n ↔ ∀ b, b < n → AG V J b) ∧ (L = n → PRM V J n r39 r40) := by
  obtain ⟨⟨a1, a2, a3⟩, ⟨b1, b2, b3, b4⟩, ⟨c1, c2, c3, c4⟩, d, ⟨e1, e2, e3⟩, ⟨f1, f2⟩, g⟩ := h
  have fs : ∀ b, S b = true → FNs S 0 O b := fun b hb => ⟨hb, fun i hi => absurd hi (Nat.not_lt_zero _)⟩
  have cl : ∀ e, KG V J e → S (gA V e) = true → S (gB V e) = true := fun e he hs => d e he hs (by
    have q := hE.in_ he.1
    have w := b3 _ (fs _ hs)
    omega)
  have all : L = n ↔ ∀ b, b < n → S b = true := by
    constructor
    · intro h
      intro b hb
      refine Classical.byContradiction fun z => ?_
      have zf : S b = false := bf z
      have lt : fb_ct S n + 1 ≤ fb_ct (fun _ => true) n := fb_ct_lt (fun _ _ _ => rfl) ⟨b, hb, rfl, zf⟩
      have := fb_ct_le (fun _ => true) n
      omega
    · intro h
      have : fb_ct (fun _ => true) n ≤ fb_ct S n := fb_ct_sub (fun k hk _ => h k hk)
      have t : ∀ k, fb_ct (fun _ => true) k = k := fun k => by
        induction k with
        | zero => rfl
        | succ k ih => rw [fb_ct_succ, ih]; rfl
      rw [t] at this
      have := fb_ct_le S n
      omega
  refine ⟨⟨fun h b hb => c4 b (all.mp h b hb), fun h => all.mpr (fun b hb => h b hb (fun x => S x = true) c3 (fun e he ha => cl e he ha))⟩, fun h => ?_⟩
  have A := all.mp h
  refine ⟨fun b hb => ?_, fun p hp => ?_, ?_, fun e he => ?_⟩
  · obtain ⟨p, p1, _, p3, p4⟩ := f1 b (fs b (A b hb))
    exact ⟨p, p1, p3, p4⟩
  · obtain ⟨b, x1, x2, x3⟩ := f2 p (by omega) hp
    exact ⟨b, b1 b x1.1, x2, x3⟩
  · exact ⟨by rw [e3 rfl]; omega, hO A⟩
  · exact (g e he (fs _ (A _ (hE.2 e he.1).1))).imp_left (fun z => z.2)
end
