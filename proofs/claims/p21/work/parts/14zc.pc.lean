/-- if it answers, then so -/
def PC {α : Type} (o : Option α) (P : α → Prop) : Prop := ∀ a, o = some a → P a
theorem pc_ret {α : Type} {a : α} {P : α → Prop} (h : P a) : PC (some a) P := fun _ e => Option.some.inj e ▸ h
theorem pc_no {α : Type} {P : α → Prop} : PC (none : Option α) P := fun _ e => by cases e
theorem pc_lt {α β : Type} {x : α} {K : α → Option β} {P : β → Prop} (h : ∀ v, v = x → PC (K v) P) : PC (lt x K) P := h x rfl
theorem pc_ix {β : Type} {n : Nat} {i : Int32} {K : Option β} {P : β → Prop} (h : 0 ≤ i.toInt ∧ i.toInt < (n : Int) → PC K P) : PC (ix n i K) P := by
  unfold ix
  by_cases c : 0 ≤ i.toInt ∧ i.toInt < (n : Int)
  · rw [if_pos c]; exact h c
  · rw [if_neg c]; exact pc_no
theorem pc_nz {β : Type} {y : Int32} {K : Option β} {P : β → Prop} (h : ¬ y = 0 → PC K P) : PC (nz y K) P := by
  unfold nz
  by_cases c : y = 0
  · rw [if_pos c]; exact pc_no
  · rw [if_neg c]; exact h c
theorem pc_bz {β : Type} {y : Int32} {K : Option β} {P : β → Prop} (h : y = 0 ∨ y = 1 → PC K P) : PC (bz y K) P := by
  unfold bz
  by_cases c : y = 0 ∨ y = 1
  · rw [if_pos c]; exact h c
  · rw [if_neg c]; exact pc_no
theorem pc_calv {α β : Type} {o : Option (α × Sto)} {K : α → Sto → Option β} {Q : α × Sto → Prop} {P : β → Prop} (ho : PC o Q) (h : ∀ a s, Q (a, s) → PC (K a s) P) : PC (calv o K) P := fun r e => by
  obtain ⟨a, s, e1, e2⟩ := calv_inv e
  exact h a s (ho _ e1) r e2
theorem pc_cals {β : Type} {o : Option Sto} {K : Sto → Option β} {Q : Sto → Prop} {P : β → Prop} (ho : PC o Q) (h : ∀ s, Q s → PC (K s) P) : PC (cals o K) P := fun r e => by
  obtain ⟨s, e1, e2⟩ := cals_inv e
  exact h s (ho _ e1) r e2
theorem pc_calp {α β : Type} {o : Option α} {K : α → Option β} {Q : α → Prop} {P : β → Prop} (ho : PC o Q) (h : ∀ a, Q a → PC (K a) P) : PC (calp o K) P := fun r e => by
  obtain ⟨a, e1, e2⟩ := calp_inv e
  exact h a (ho _ e1) r e2
theorem pc_ite {β : Type} {c : Prop} {d : Decidable c} {a b : Option β} {P : β → Prop} (h1 : c → PC a P) (h2 : ¬ c → PC b P) : PC (if c then a else b) P := by
  by_cases hc : c
  · rw [if_pos hc]; exact h1 hc
  · rw [if_neg hc]; exact h2 hc
theorem pc_jn {κ β : Type} {F : κ} {B : κ → Option β} {P : β → Prop} (h : PC (B F) P) : PC (jn F B) P := h
theorem pc_imp {α : Type} {o : Option α} {P Q : α → Prop} (h : PC o P) (hi : ∀ a, P a → Q a) : PC o Q := fun a e => hi a (h a e)
theorem pc_and {α : Type} {o : Option α} {P Q : α → Prop} (h : PC o P) (g : PC o Q) : PC o (fun a => P a ∧ Q a) := fun a e => ⟨h a e, g a e⟩
theorem pc_eq {α : Type} {o : Option α} : PC o (fun a => o = some a) := fun _ e => e
theorem pc_ok {α : Type} {o : Option α} {P : α → Prop} (h : OK o P) : PC o P := fun _ e => ok_get h e
theorem ok_pc2 {α : Type} {o : Option α} {P Q : α → Prop} (h : OK o P) (g : PC o Q) : OK o (fun a => P a ∧ Q a) := by
  obtain ⟨a, e, p⟩ := h
  exact ⟨a, e, p, g a e⟩
theorem ok_tr {α : Type} {o : Option α} {P Q : α → Prop} (h : OK o P) (g : PC o Q) : OK o Q := by
  obtain ⟨a, e, _⟩ := h
  exact ⟨a, e, g a e⟩
theorem pc_jnI0 {β : Type} {F : Option β} {B : (Option β) → Option β} {P : β → Prop} (I : Prop) (hF : I → PC (F) P) (hB : ∀ k : (Option β), (I → PC (k) P) → PC (B k) P) : PC (jn F B) P := hB F hF
theorem pc_itr0 {β : Type} {F : (Option β) → (Option β)} {P : β → Prop} (I : Prop) (step : ∀ (ag : Option β), I → (I → PC (ag) P) → PC (F ag) P) (h : I) {N : Nat} : PC (itr (none) F N) P := by
  induction N with
  | zero => exact (pc_no : PC (none : Option β) P)
  | succ N ih => exact step _ h (fun _ => ih)
theorem pc_jnI1 {S0 β : Type} {F : S0 → Option β} {B : (S0 → Option β) → Option β} {P : β → Prop} (I : S0 → Prop) (hF : ∀ (x0 : S0), I x0 → PC (F x0) P) (hB : ∀ k : (S0 → Option β), (∀ (x0 : S0), I x0 → PC (k x0) P) → PC (B k) P) : PC (jn F B) P := hB F hF
theorem pc_itr1 {S0 β : Type} {F : (S0 → Option β) → (S0 → Option β)} {P : β → Prop} {x0 : S0} (I : S0 → Prop) (step : ∀ (ag : S0 → Option β) (x0 : S0), I x0 → (∀ (y0 : S0), I y0 → PC (ag y0) P) → PC (F ag x0) P) (h : I x0) {N : Nat} : PC (itr (fun _ => none) F N x0) P := by
  induction N generalizing x0 with
  | zero => exact (pc_no : PC (none : Option β) P)
  | succ N ih => exact step _ x0 h (fun y0 h2 => ih h2)
theorem pc_jnI2 {S0 S1 β : Type} {F : S0 → S1 → Option β} {B : (S0 → S1 → Option β) → Option β} {P : β → Prop} (I : S0 → S1 → Prop) (hF : ∀ (x0 : S0) (x1 : S1), I x0 x1 → PC (F x0 x1) P) (hB : ∀ k : (S0 → S1 → Option β), (∀ (x0 : S0) (x1 : S1), I x0 x1 → PC (k x0 x1) P) → PC (B k) P) : PC (jn F B) P := hB F hF
theorem pc_itr2 {S0 S1 β : Type} {F : (S0 → S1 → Option β) → (S0 → S1 → Option β)} {P : β → Prop} {x0 : S0} {x1 : S1} (I : S0 → S1 → Prop) (step : ∀ (ag : S0 → S1 → Option β) (x0 : S0) (x1 : S1), I x0 x1 → (∀ (y0 : S0) (y1 : S1), I y0 y1 → PC (ag y0 y1) P) → PC (F ag x0 x1) P) (h : I x0 x1) {N : Nat} : PC (itr (fun _ _ => none) F N x0 x1) P := by
  induction N generalizing x0 x1 with
  | zero => exact (pc_no : PC (none : Option β) P)
  | succ N ih => exact step _ x0 x1 h (fun y0 y1 h2 => ih h2)
theorem pc_jnI3 {S0 S1 S2 β : Type} {F : S0 → S1 → S2 → Option β} {B : (S0 → S1 → S2 → Option β) → Option β} {P : β → Prop} (I : S0 → S1 → S2 → Prop) (hF : ∀ (x0 : S0) (x1 : S1) (x2 : S2), I x0 x1 x2 → PC (F x0 x1 x2) P) (hB : ∀ k : (S0 → S1 → S2 → Option β), (∀ (x0 : S0) (x1 : S1) (x2 : S2), I x0 x1 x2 → PC (k x0 x1 x2) P) → PC (B k) P) : PC (jn F B) P := hB F hF
theorem pc_itr3 {S0 S1 S2 β : Type} {F : (S0 → S1 → S2 → Option β) → (S0 → S1 → S2 → Option β)} {P : β → Prop} {x0 : S0} {x1 : S1} {x2 : S2} (I : S0 → S1 → S2 → Prop) (step : ∀ (ag : S0 → S1 → S2 → Option β) (x0 : S0) (x1 : S1) (x2 : S2), I x0 x1 x2 → (∀ (y0 : S0) (y1 : S1) (y2 : S2), I y0 y1 y2 → PC (ag y0 y1 y2) P) → PC (F ag x0 x1 x2) P) (h : I x0 x1 x2) {N : Nat} : PC (itr (fun _ _ _ => none) F N x0 x1 x2) P := by
  induction N generalizing x0 x1 x2 with
  | zero => exact (pc_no : PC (none : Option β) P)
  | succ N ih => exact step _ x0 x1 x2 h (fun y0 y1 y2 h2 => ih h2)
theorem pc_jnI4 {S0 S1 S2 S3 β : Type} {F : S0 → S1 → S2 → S3 → Option β} {B : (S0 → S1 → S2 → S3 → Option β) → Option β} {P : β → Prop} (I : S0 → S1 → S2 → S3 → Prop) (hF : ∀ (x0 : S0) (x1 : S1) (x2 : S2) (x3 : S3), I x0 x1 x2 x3 → PC (F x0 x1 x2 x3) P) (hB : ∀ k : (S0 → S1 → S2 → S3 → Option β), (∀ (x0 : S0) (x1 : S1) (x2 : S2) (x3 : S3), I x0 x1 x2 x3 → PC (k x0 x1 x2 x3) P) → PC (B k) P) : PC (jn F B) P := hB F hF
theorem pc_itr4 {S0 S1 S2 S3 β : Type} {F : (S0 → S1 → S2 → S3 → Option β) → (S0 → S1 → S2 → S3 → Option β)} {P : β → Prop} {x0 : S0} {x1 : S1} {x2 : S2} {x3 : S3} (I : S0 → S1 → S2 → S3 → Prop) (step : ∀ (ag : S0 → S1 → S2 → S3 → Option β) (x0 : S0) (x1 : S1) (x2 : S2) (x3 : S3), I x0 x1 x2 x3 → (∀ (y0 : S0) (y1 : S1) (y2 : S2) (y3 : S3), I y0 y1 y2 y3 → PC (ag y0 y1 y2 y3) P) → PC (F ag x0 x1 x2 x3) P) (h : I x0 x1 x2 x3) {N : Nat} : PC (itr (fun _ _ _ _ => none) F N x0 x1 x2 x3) P := by
  induction N generalizing x0 x1 x2 x3 with
  | zero => exact (pc_no : PC (none : Option β) P)
  | succ N ih => exact step _ x0 x1 x2 x3 h (fun y0 y1 y2 y3 h2 => ih h2)
theorem pc_jnI5 {S0 S1 S2 S3 S4 β : Type} {F : S0 → S1 → S2 → S3 → S4 → Option β} {B : (S0 → S1 → S2 → S3 → S4 → Option β) → Option β} {P : β → Prop} (I : S0 → S1 → S2 → S3 → S4 → Prop) (hF : ∀ (x0 : S0) (x1 : S1) (x2 : S2) (x3 : S3) (x4 : S4), I x0 x1 x2 x3 x4 → PC (F x0 x1 x2 x3 x4) P) (hB : ∀ k : (S0 → S1 → S2 → S3 → S4 → Option β), (∀ (x0 : S0) (x1 : S1) (x2 : S2) (x3 : S3) (x4 : S4), I x0 x1 x2 x3 x4 → PC (k x0 x1 x2 x3 x4) P) → PC (B k) P) : PC (jn F B) P := hB F hF
theorem pc_itr5 {S0 S1 S2 S3 S4 β : Type} {F : (S0 → S1 → S2 → S3 → S4 → Option β) → (S0 → S1 → S2 → S3 → S4 → Option β)} {P : β → Prop} {x0 : S0} {x1 : S1} {x2 : S2} {x3 : S3} {x4 : S4} (I : S0 → S1 → S2 → S3 → S4 → Prop) (step : ∀ (ag : S0 → S1 → S2 → S3 → S4 → Option β) (x0 : S0) (x1 : S1) (x2 : S2) (x3 : S3) (x4 : S4), I x0 x1 x2 x3 x4 → (∀ (y0 : S0) (y1 : S1) (y2 : S2) (y3 : S3) (y4 : S4), I y0 y1 y2 y3 y4 → PC (ag y0 y1 y2 y3 y4) P) → PC (F ag x0 x1 x2 x3 x4) P) (h : I x0 x1 x2 x3 x4) {N : Nat} : PC (itr (fun _ _ _ _ _ => none) F N x0 x1 x2 x3 x4) P := by
  induction N generalizing x0 x1 x2 x3 x4 with
  | zero => exact (pc_no : PC (none : Option β) P)
  | succ N ih => exact step _ x0 x1 x2 x3 x4 h (fun y0 y1 y2 y3 y4 h2 => ih h2)
theorem pc_jnI6 {S0 S1 S2 S3 S4 S5 β : Type} {F : S0 → S1 → S2 → S3 → S4 → S5 → Option β} {B : (S0 → S1 → S2 → S3 → S4 → S5 → Option β) → Option β} {P : β → Prop} (I : S0 → S1 → S2 → S3 → S4 → S5 → Prop) (hF : ∀ (x0 : S0) (x1 : S1) (x2 : S2) (x3 : S3) (x4 : S4) (x5 : S5), I x0 x1 x2 x3 x4 x5 → PC (F x0 x1 x2 x3 x4 x5) P) (hB : ∀ k : (S0 → S1 → S2 → S3 → S4 → S5 → Option β), (∀ (x0 : S0) (x1 : S1) (x2 : S2) (x3 : S3) (x4 : S4) (x5 : S5), I x0 x1 x2 x3 x4 x5 → PC (k x0 x1 x2 x3 x4 x5) P) → PC (B k) P) : PC (jn F B) P := hB F hF
theorem pc_itr6 {S0 S1 S2 S3 S4 S5 β : Type} {F : (S0 → S1 → S2 → S3 → S4 → S5 → Option β) → (S0 → S1 → S2 → S3 → S4 → S5 → Option β)} {P : β → Prop} {x0 : S0} {x1 : S1} {x2 : S2} {x3 : S3} {x4 : S4} {x5 : S5} (I : S0 → S1 → S2 → S3 → S4 → S5 → Prop) (step : ∀ (ag : S0 → S1 → S2 → S3 → S4 → S5 → Option β) (x0 : S0) (x1 : S1) (x2 : S2) (x3 : S3) (x4 : S4) (x5 : S5), I x0 x1 x2 x3 x4 x5 → (∀ (y0 : S0) (y1 : S1) (y2 : S2) (y3 : S3) (y4 : S4) (y5 : S5), I y0 y1 y2 y3 y4 y5 → PC (ag y0 y1 y2 y3 y4 y5) P) → PC (F ag x0 x1 x2 x3 x4 x5) P) (h : I x0 x1 x2 x3 x4 x5) {N : Nat} : PC (itr (fun _ _ _ _ _ _ => none) F N x0 x1 x2 x3 x4 x5) P := by
  induction N generalizing x0 x1 x2 x3 x4 x5 with
  | zero => exact (pc_no : PC (none : Option β) P)
  | succ N ih => exact step _ x0 x1 x2 x3 x4 x5 h (fun y0 y1 y2 y3 y4 y5 h2 => ih h2)
theorem pc_jnI7 {S0 S1 S2 S3 S4 S5 S6 β : Type} {F : S0 → S1 → S2 → S3 → S4 → S5 → S6 → Option β} {B : (S0 → S1 → S2 → S3 → S4 → S5 → S6 → Option β) → Option β} {P : β → Prop} (I : S0 → S1 → S2 → S3 → S4 → S5 → S6 → Prop) (hF : ∀ (x0 : S0) (x1 : S1) (x2 : S2) (x3 : S3) (x4 : S4) (x5 : S5) (x6 : S6), I x0 x1 x2 x3 x4 x5 x6 → PC (F x0 x1 x2 x3 x4 x5 x6) P) (hB : ∀ k : (S0 → S1 → S2 → S3 → S4 → S5 → S6 → Option β), (∀ (x0 : S0) (x1 : S1) (x2 : S2) (x3 : S3) (x4 : S4) (x5 : S5) (x6 : S6), I x0 x1 x2 x3 x4 x5 x6 → PC (k x0 x1 x2 x3 x4 x5 x6) P) → PC (B k) P) : PC (jn F B) P := hB F hF
theorem pc_itr7 {S0 S1 S2 S3 S4 S5 S6 β : Type} {F : (S0 → S1 → S2 → S3 → S4 → S5 → S6 → Option β) → (S0 → S1 → S2 → S3 → S4 → S5 → S6 → Option β)} {P : β → Prop} {x0 : S0} {x1 : S1} {x2 : S2} {x3 : S3} {x4 : S4} {x5 : S5} {x6 : S6} (I : S0 → S1 → S2 → S3 → S4 → S5 → S6 → Prop) (step : ∀ (ag : S0 → S1 → S2 → S3 → S4 → S5 → S6 → Option β) (x0 : S0) (x1 : S1) (x2 : S2) (x3 : S3) (x4 : S4) (x5 : S5) (x6 : S6), I x0 x1 x2 x3 x4 x5 x6 → (∀ (y0 : S0) (y1 : S1) (y2 : S2) (y3 : S3) (y4 : S4) (y5 : S5) (y6 : S6), I y0 y1 y2 y3 y4 y5 y6 → PC (ag y0 y1 y2 y3 y4 y5 y6) P) → PC (F ag x0 x1 x2 x3 x4 x5 x6) P) (h : I x0 x1 x2 x3 x4 x5 x6) {N : Nat} : PC (itr (fun _ _ _ _ _ _ _ => none) F N x0 x1 x2 x3 x4 x5 x6) P := by
  induction N generalizing x0 x1 x2 x3 x4 x5 x6 with
  | zero => exact (pc_no : PC (none : Option β) P)
  | succ N ih => exact step _ x0 x1 x2 x3 x4 x5 x6 h (fun y0 y1 y2 y3 y4 y5 y6 h2 => ih h2)
theorem t_isInB {x : Int64} {i : Int32} (h0 : 0 ≤ i.toInt) (h1 : i.toInt < 64) : PC (f_X11_isIn x i) (fun v => v = 0 ↔ ¬ bL x i.toNatClampNeg = true) := by
  have k_0 : (0 : Int32).toInt = 0 := by decide +kernel
  refine pc_imp (pc_ok (s_X11_isIn (x1 := x) (x2 := i))) (fun v q => ?_)
  have q1 := q.1
  have q2 := q.2 h0 h1
  rw [fa_eq, k_0, ← q2]
  omega
