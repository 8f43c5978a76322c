/-- a store: rows of ints, rows of longs; a scalar is the first of its row -/
abbrev Sto : Type := (Nat → Nat → Int32) × (Nat → Nat → Int64)
def sti (σ : Sto) (k i : Nat) (v : Int32) : Sto := (fun q => if q = k then upd (σ.1 k) i v else σ.1 q, σ.2)
def stl (σ : Sto) (k i : Nat) (v : Int64) : Sto := (σ.1, fun q => if q = k then vp_updL (σ.2 k) i v else σ.2 q)
def stc (σ : Sto) (k : Nat) (f : Nat → Int32) : Sto := (fun q => if q = k then f else σ.1 q, σ.2)
/-- what methods are told by: a name for a value, a place inside its row, a divisor, a truth, calls, joins, loops -/
def lt {α β : Type} (x : α) (K : α → β) : β := K x
def ix {β : Type} (n : Nat) (i : Int32) (K : Option β) : Option β := if 0 ≤ i.toInt ∧ i.toInt < n then K else none
def nz {β : Type} (y : Int32) (K : Option β) : Option β := if y = 0 then none else K
def bz {β : Type} (y : Int32) (K : Option β) : Option β := if y = 0 ∨ y = 1 then K else none
def calv {α β : Type} (o : Option (α × Sto)) (K : α → Sto → Option β) : Option β := match o with
  | some (a, s) => K a s
  | none => none
def cals {β : Type} (o : Option Sto) (K : Sto → Option β) : Option β := match o with
  | some s => K s
  | none => none
def calp {α β : Type} (o : Option α) (K : α → Option β) : Option β := match o with
  | some a => K a
  | none => none
def jn {κ β : Type} (F : κ) (B : κ → β) : β := B F
def itr {κ : Type} (z : κ) (F : κ → κ) : Nat → κ
  | 0 => z
  | n + 1 => F (itr z F n)
def LF : Nat := 10000000
theorem lt_inv {α β : Type} {x : α} {K : α → Option β} {r : β} (h : lt x K = some r) : ∃ v, v = x ∧ K v = some r := ⟨x, rfl, h⟩
theorem ix_inv {β : Type} {n : Nat} {i : Int32} {K : Option β} {r : β} (h : ix n i K = some r) : vp_in i n ∧ K = some r := by
  unfold ix at h
  by_cases c : 0 ≤ i.toInt ∧ i.toInt < n
  · rw [if_pos c] at h
    exact ⟨vp_in_iff.mpr c, h⟩
  · rw [if_neg c] at h
    cases h
theorem nz_inv {β : Type} {y : Int32} {K : Option β} {r : β} (h : nz y K = some r) : ¬ y = 0 ∧ K = some r := by
  unfold nz at h
  by_cases c : y = 0
  · rw [if_pos c] at h
    cases h
  · rw [if_neg c] at h
    exact ⟨c, h⟩
theorem bz_inv {β : Type} {y : Int32} {K : Option β} {r : β} (h : bz y K = some r) : (y = 0 ∨ y = 1) ∧ K = some r := by
  unfold bz at h
  by_cases c : y = 0 ∨ y = 1
  · rw [if_pos c] at h
    exact ⟨c, h⟩
  · rw [if_neg c] at h
    cases h
theorem calv_inv {α β : Type} {o : Option (α × Sto)} {K : α → Sto → Option β} {r : β} (h : calv o K = some r) : ∃ a s, o = some (a, s) ∧ K a s = some r := by
  cases o with
  | none => cases h
  | some q => exact ⟨q.1, q.2, rfl, h⟩
theorem cals_inv {β : Type} {o : Option Sto} {K : Sto → Option β} {r : β} (h : cals o K = some r) : ∃ s, o = some s ∧ K s = some r := by
  cases o with
  | none => cases h
  | some q => exact ⟨q, rfl, h⟩
theorem calp_inv {α β : Type} {o : Option α} {K : α → Option β} {r : β} (h : calp o K = some r) : ∃ a, o = some a ∧ K a = some r := by
  cases o with
  | none => cases h
  | some q => exact ⟨q, rfl, h⟩
theorem it_t {β : Type} {c : Prop} {d : Decidable c} {a b : Option β} {r : β} (hc : c) (h : (if c then a else b) = some r) : a = some r := by rwa [if_pos hc] at h
theorem it_f {β : Type} {c : Prop} {d : Decidable c} {a b : Option β} {r : β} (hc : ¬ c) (h : (if c then a else b) = some r) : b = some r := by rwa [if_neg hc] at h
theorem bz_nar {y : Int32} (h : y = 0 ∨ y = 1) : narrow .boolean (.int y) = .int y := by
  rcases h with h | h <;> (subst h; rfl)
theorem bz_vp {y : Int32} (h : y = 0 ∨ y = 1) : vp_nar .boolean y = y := by
  rcases h with h | h <;> (subst h; rfl)
theorem bz_fits {y : Int32} (h : y = 0 ∨ y = 1) : fits .boolean (.int y) = true := by
  rcases h with h | h <;> (subst h; rfl)
theorem lk_none {d x : Int} : ∀ {ps : List (Int × Int)}, (∀ a, a ∈ ps → x ≠ a.1) → Op.lookupswitch.offset ps d x = d := by
  intro ps
  induction ps with
  | nil => intro _; rfl
  | cons a r ih =>
    intro h
    have h1 := h a List.mem_cons_self
    obtain ⟨a1, a2⟩ := a
    rw [Op.lookupswitch.offset_cons, if_neg (fun e => h1 (by first | exact e | exact e.symm))]
    exact ih (fun b hb => h b (List.mem_cons_of_mem _ hb))
theorem jn_inv0 {β : Type} {F : Option β} {B : (Option β) → Option β} {r : β} (h : jn F B = some r) : ∃ k : Option β, (k  = some r → F  = some r) ∧ B k = some r := ⟨F, fun h => h, h⟩
theorem itr_inv0 {β : Type} {F : (Option β) → (Option β)} {n : Nat} {r : β} {P : Prop} (h : itr (none) F n  = some r) (step : ∀ (ag : Option β) , (ag  = some r → P ) → F ag  = some r → P ) : P  := by
  induction n with
  | zero => cases h
  | succ n ih => exact step _  (fun h2 => ih h2) h
theorem jn_inv1 {S0 β : Type} {F : S0 → Option β} {B : (S0 → Option β) → Option β} {r : β} (h : jn F B = some r) : ∃ k : S0 → Option β, (∀ (x0 : S0), k x0 = some r → F x0 = some r) ∧ B k = some r := ⟨F, fun _ => fun h => h, h⟩
theorem itr_inv1 {S0 β : Type} {F : (S0 → Option β) → (S0 → Option β)} {n : Nat} {r : β} {P : S0 → Prop} {x0 : S0} (h : itr (fun _ => none) F n x0 = some r) (step : ∀ (ag : S0 → Option β) (x0 : S0), (∀ (x0 : S0), ag x0 = some r → P x0) → F ag x0 = some r → P x0) : P x0 := by
  induction n generalizing x0 with
  | zero => cases h
  | succ n ih => exact step _ _ (fun _ h2 => ih h2) h
theorem jn_inv2 {S0 S1 β : Type} {F : S0 → S1 → Option β} {B : (S0 → S1 → Option β) → Option β} {r : β} (h : jn F B = some r) : ∃ k : S0 → S1 → Option β, (∀ (x0 : S0) (x1 : S1), k x0 x1 = some r → F x0 x1 = some r) ∧ B k = some r := ⟨F, fun _ _ => fun h => h, h⟩
theorem itr_inv2 {S0 S1 β : Type} {F : (S0 → S1 → Option β) → (S0 → S1 → Option β)} {n : Nat} {r : β} {P : S0 → S1 → Prop} {x0 : S0} {x1 : S1} (h : itr (fun _ _ => none) F n x0 x1 = some r) (step : ∀ (ag : S0 → S1 → Option β) (x0 : S0) (x1 : S1), (∀ (x0 : S0) (x1 : S1), ag x0 x1 = some r → P x0 x1) → F ag x0 x1 = some r → P x0 x1) : P x0 x1 := by
  induction n generalizing x0 x1 with
  | zero => cases h
  | succ n ih => exact step _ _ _ (fun _ _ h2 => ih h2) h
theorem jn_inv3 {S0 S1 S2 β : Type} {F : S0 → S1 → S2 → Option β} {B : (S0 → S1 → S2 → Option β) → Option β} {r : β} (h : jn F B = some r) : ∃ k : S0 → S1 → S2 → Option β, (∀ (x0 : S0) (x1 : S1) (x2 : S2), k x0 x1 x2 = some r → F x0 x1 x2 = some r) ∧ B k = some r := ⟨F, fun _ _ _ => fun h => h, h⟩
theorem itr_inv3 {S0 S1 S2 β : Type} {F : (S0 → S1 → S2 → Option β) → (S0 → S1 → S2 → Option β)} {n : Nat} {r : β} {P : S0 → S1 → S2 → Prop} {x0 : S0} {x1 : S1} {x2 : S2} (h : itr (fun _ _ _ => none) F n x0 x1 x2 = some r) (step : ∀ (ag : S0 → S1 → S2 → Option β) (x0 : S0) (x1 : S1) (x2 : S2), (∀ (x0 : S0) (x1 : S1) (x2 : S2), ag x0 x1 x2 = some r → P x0 x1 x2) → F ag x0 x1 x2 = some r → P x0 x1 x2) : P x0 x1 x2 := by
  induction n generalizing x0 x1 x2 with
  | zero => cases h
  | succ n ih => exact step _ _ _ _ (fun _ _ _ h2 => ih h2) h
theorem jn_inv4 {S0 S1 S2 S3 β : Type} {F : S0 → S1 → S2 → S3 → Option β} {B : (S0 → S1 → S2 → S3 → Option β) → Option β} {r : β} (h : jn F B = some r) : ∃ k : S0 → S1 → S2 → S3 → Option β, (∀ (x0 : S0) (x1 : S1) (x2 : S2) (x3 : S3), k x0 x1 x2 x3 = some r → F x0 x1 x2 x3 = some r) ∧ B k = some r := ⟨F, fun _ _ _ _ => fun h => h, h⟩
theorem itr_inv4 {S0 S1 S2 S3 β : Type} {F : (S0 → S1 → S2 → S3 → Option β) → (S0 → S1 → S2 → S3 → Option β)} {n : Nat} {r : β} {P : S0 → S1 → S2 → S3 → Prop} {x0 : S0} {x1 : S1} {x2 : S2} {x3 : S3} (h : itr (fun _ _ _ _ => none) F n x0 x1 x2 x3 = some r) (step : ∀ (ag : S0 → S1 → S2 → S3 → Option β) (x0 : S0) (x1 : S1) (x2 : S2) (x3 : S3), (∀ (x0 : S0) (x1 : S1) (x2 : S2) (x3 : S3), ag x0 x1 x2 x3 = some r → P x0 x1 x2 x3) → F ag x0 x1 x2 x3 = some r → P x0 x1 x2 x3) : P x0 x1 x2 x3 := by
  induction n generalizing x0 x1 x2 x3 with
  | zero => cases h
  | succ n ih => exact step _ _ _ _ _ (fun _ _ _ _ h2 => ih h2) h
theorem jn_inv5 {S0 S1 S2 S3 S4 β : Type} {F : S0 → S1 → S2 → S3 → S4 → Option β} {B : (S0 → S1 → S2 → S3 → S4 → Option β) → Option β} {r : β} (h : jn F B = some r) : ∃ k : S0 → S1 → S2 → S3 → S4 → Option β, (∀ (x0 : S0) (x1 : S1) (x2 : S2) (x3 : S3) (x4 : S4), k x0 x1 x2 x3 x4 = some r → F x0 x1 x2 x3 x4 = some r) ∧ B k = some r := ⟨F, fun _ _ _ _ _ => fun h => h, h⟩
theorem itr_inv5 {S0 S1 S2 S3 S4 β : Type} {F : (S0 → S1 → S2 → S3 → S4 → Option β) → (S0 → S1 → S2 → S3 → S4 → Option β)} {n : Nat} {r : β} {P : S0 → S1 → S2 → S3 → S4 → Prop} {x0 : S0} {x1 : S1} {x2 : S2} {x3 : S3} {x4 : S4} (h : itr (fun _ _ _ _ _ => none) F n x0 x1 x2 x3 x4 = some r) (step : ∀ (ag : S0 → S1 → S2 → S3 → S4 → Option β) (x0 : S0) (x1 : S1) (x2 : S2) (x3 : S3) (x4 : S4), (∀ (x0 : S0) (x1 : S1) (x2 : S2) (x3 : S3) (x4 : S4), ag x0 x1 x2 x3 x4 = some r → P x0 x1 x2 x3 x4) → F ag x0 x1 x2 x3 x4 = some r → P x0 x1 x2 x3 x4) : P x0 x1 x2 x3 x4 := by
  induction n generalizing x0 x1 x2 x3 x4 with
  | zero => cases h
  | succ n ih => exact step _ _ _ _ _ _ (fun _ _ _ _ _ h2 => ih h2) h
theorem jn_inv6 {S0 S1 S2 S3 S4 S5 β : Type} {F : S0 → S1 → S2 → S3 → S4 → S5 → Option β} {B : (S0 → S1 → S2 → S3 → S4 → S5 → Option β) → Option β} {r : β} (h : jn F B = some r) : ∃ k : S0 → S1 → S2 → S3 → S4 → S5 → Option β, (∀ (x0 : S0) (x1 : S1) (x2 : S2) (x3 : S3) (x4 : S4) (x5 : S5), k x0 x1 x2 x3 x4 x5 = some r → F x0 x1 x2 x3 x4 x5 = some r) ∧ B k = some r := ⟨F, fun _ _ _ _ _ _ => fun h => h, h⟩
theorem itr_inv6 {S0 S1 S2 S3 S4 S5 β : Type} {F : (S0 → S1 → S2 → S3 → S4 → S5 → Option β) → (S0 → S1 → S2 → S3 → S4 → S5 → Option β)} {n : Nat} {r : β} {P : S0 → S1 → S2 → S3 → S4 → S5 → Prop} {x0 : S0} {x1 : S1} {x2 : S2} {x3 : S3} {x4 : S4} {x5 : S5} (h : itr (fun _ _ _ _ _ _ => none) F n x0 x1 x2 x3 x4 x5 = some r) (step : ∀ (ag : S0 → S1 → S2 → S3 → S4 → S5 → Option β) (x0 : S0) (x1 : S1) (x2 : S2) (x3 : S3) (x4 : S4) (x5 : S5), (∀ (x0 : S0) (x1 : S1) (x2 : S2) (x3 : S3) (x4 : S4) (x5 : S5), ag x0 x1 x2 x3 x4 x5 = some r → P x0 x1 x2 x3 x4 x5) → F ag x0 x1 x2 x3 x4 x5 = some r → P x0 x1 x2 x3 x4 x5) : P x0 x1 x2 x3 x4 x5 := by
  induction n generalizing x0 x1 x2 x3 x4 x5 with
  | zero => cases h
  | succ n ih => exact step _ _ _ _ _ _ _ (fun _ _ _ _ _ _ h2 => ih h2) h
theorem jn_inv7 {S0 S1 S2 S3 S4 S5 S6 β : Type} {F : S0 → S1 → S2 → S3 → S4 → S5 → S6 → Option β} {B : (S0 → S1 → S2 → S3 → S4 → S5 → S6 → Option β) → Option β} {r : β} (h : jn F B = some r) : ∃ k : S0 → S1 → S2 → S3 → S4 → S5 → S6 → Option β, (∀ (x0 : S0) (x1 : S1) (x2 : S2) (x3 : S3) (x4 : S4) (x5 : S5) (x6 : S6), k x0 x1 x2 x3 x4 x5 x6 = some r → F x0 x1 x2 x3 x4 x5 x6 = some r) ∧ B k = some r := ⟨F, fun _ _ _ _ _ _ _ => fun h => h, h⟩
theorem itr_inv7 {S0 S1 S2 S3 S4 S5 S6 β : Type} {F : (S0 → S1 → S2 → S3 → S4 → S5 → S6 → Option β) → (S0 → S1 → S2 → S3 → S4 → S5 → S6 → Option β)} {n : Nat} {r : β} {P : S0 → S1 → S2 → S3 → S4 → S5 → S6 → Prop} {x0 : S0} {x1 : S1} {x2 : S2} {x3 : S3} {x4 : S4} {x5 : S5} {x6 : S6} (h : itr (fun _ _ _ _ _ _ _ => none) F n x0 x1 x2 x3 x4 x5 x6 = some r) (step : ∀ (ag : S0 → S1 → S2 → S3 → S4 → S5 → S6 → Option β) (x0 : S0) (x1 : S1) (x2 : S2) (x3 : S3) (x4 : S4) (x5 : S5) (x6 : S6), (∀ (x0 : S0) (x1 : S1) (x2 : S2) (x3 : S3) (x4 : S4) (x5 : S5) (x6 : S6), ag x0 x1 x2 x3 x4 x5 x6 = some r → P x0 x1 x2 x3 x4 x5 x6) → F ag x0 x1 x2 x3 x4 x5 x6 = some r → P x0 x1 x2 x3 x4 x5 x6) : P x0 x1 x2 x3 x4 x5 x6 := by
  induction n generalizing x0 x1 x2 x3 x4 x5 x6 with
  | zero => cases h
  | succ n ih => exact step _ _ _ _ _ _ _ _ (fun _ _ _ _ _ _ _ h2 => ih h2) h
theorem jn_inv8 {S0 S1 S2 S3 S4 S5 S6 S7 β : Type} {F : S0 → S1 → S2 → S3 → S4 → S5 → S6 → S7 → Option β} {B : (S0 → S1 → S2 → S3 → S4 → S5 → S6 → S7 → Option β) → Option β} {r : β} (h : jn F B = some r) : ∃ k : S0 → S1 → S2 → S3 → S4 → S5 → S6 → S7 → Option β, (∀ (x0 : S0) (x1 : S1) (x2 : S2) (x3 : S3) (x4 : S4) (x5 : S5) (x6 : S6) (x7 : S7), k x0 x1 x2 x3 x4 x5 x6 x7 = some r → F x0 x1 x2 x3 x4 x5 x6 x7 = some r) ∧ B k = some r := ⟨F, fun _ _ _ _ _ _ _ _ => fun h => h, h⟩
theorem itr_inv8 {S0 S1 S2 S3 S4 S5 S6 S7 β : Type} {F : (S0 → S1 → S2 → S3 → S4 → S5 → S6 → S7 → Option β) → (S0 → S1 → S2 → S3 → S4 → S5 → S6 → S7 → Option β)} {n : Nat} {r : β} {P : S0 → S1 → S2 → S3 → S4 → S5 → S6 → S7 → Prop} {x0 : S0} {x1 : S1} {x2 : S2} {x3 : S3} {x4 : S4} {x5 : S5} {x6 : S6} {x7 : S7} (h : itr (fun _ _ _ _ _ _ _ _ => none) F n x0 x1 x2 x3 x4 x5 x6 x7 = some r) (step : ∀ (ag : S0 → S1 → S2 → S3 → S4 → S5 → S6 → S7 → Option β) (x0 : S0) (x1 : S1) (x2 : S2) (x3 : S3) (x4 : S4) (x5 : S5) (x6 : S6) (x7 : S7), (∀ (x0 : S0) (x1 : S1) (x2 : S2) (x3 : S3) (x4 : S4) (x5 : S5) (x6 : S6) (x7 : S7), ag x0 x1 x2 x3 x4 x5 x6 x7 = some r → P x0 x1 x2 x3 x4 x5 x6 x7) → F ag x0 x1 x2 x3 x4 x5 x6 x7 = some r → P x0 x1 x2 x3 x4 x5 x6 x7) : P x0 x1 x2 x3 x4 x5 x6 x7 := by
  induction n generalizing x0 x1 x2 x3 x4 x5 x6 x7 with
  | zero => cases h
  | succ n ih => exact step _ _ _ _ _ _ _ _ _ (fun _ _ _ _ _ _ _ _ h2 => ih h2) h
theorem jn_inv9 {S0 S1 S2 S3 S4 S5 S6 S7 S8 β : Type} {F : S0 → S1 → S2 → S3 → S4 → S5 → S6 → S7 → S8 → Option β} {B : (S0 → S1 → S2 → S3 → S4 → S5 → S6 → S7 → S8 → Option β) → Option β} {r : β} (h : jn F B = some r) : ∃ k : S0 → S1 → S2 → S3 → S4 → S5 → S6 → S7 → S8 → Option β, (∀ (x0 : S0) (x1 : S1) (x2 : S2) (x3 : S3) (x4 : S4) (x5 : S5) (x6 : S6) (x7 : S7) (x8 : S8), k x0 x1 x2 x3 x4 x5 x6 x7 x8 = some r → F x0 x1 x2 x3 x4 x5 x6 x7 x8 = some r) ∧ B k = some r := ⟨F, fun _ _ _ _ _ _ _ _ _ => fun h => h, h⟩
theorem itr_inv9 {S0 S1 S2 S3 S4 S5 S6 S7 S8 β : Type} {F : (S0 → S1 → S2 → S3 → S4 → S5 → S6 → S7 → S8 → Option β) → (S0 → S1 → S2 → S3 → S4 → S5 → S6 → S7 → S8 → Option β)} {n : Nat} {r : β} {P : S0 → S1 → S2 → S3 → S4 → S5 → S6 → S7 → S8 → Prop} {x0 : S0} {x1 : S1} {x2 : S2} {x3 : S3} {x4 : S4} {x5 : S5} {x6 : S6} {x7 : S7} {x8 : S8} (h : itr (fun _ _ _ _ _ _ _ _ _ => none) F n x0 x1 x2 x3 x4 x5 x6 x7 x8 = some r) (step : ∀ (ag : S0 → S1 → S2 → S3 → S4 → S5 → S6 → S7 → S8 → Option β) (x0 : S0) (x1 : S1) (x2 : S2) (x3 : S3) (x4 : S4) (x5 : S5) (x6 : S6) (x7 : S7) (x8 : S8), (∀ (x0 : S0) (x1 : S1) (x2 : S2) (x3 : S3) (x4 : S4) (x5 : S5) (x6 : S6) (x7 : S7) (x8 : S8), ag x0 x1 x2 x3 x4 x5 x6 x7 x8 = some r → P x0 x1 x2 x3 x4 x5 x6 x7 x8) → F ag x0 x1 x2 x3 x4 x5 x6 x7 x8 = some r → P x0 x1 x2 x3 x4 x5 x6 x7 x8) : P x0 x1 x2 x3 x4 x5 x6 x7 x8 := by
  induction n generalizing x0 x1 x2 x3 x4 x5 x6 x7 x8 with
  | zero => cases h
  | succ n ih => exact step _ _ _ _ _ _ _ _ _ _ (fun _ _ _ _ _ _ _ _ _ h2 => ih h2) h
def alw_0 : List Cond := [.fieldLink RX0 9 "CodeLifter$Blocks" "first" "[I", .fieldLink RX0 15 "CodeLifter$Blocks" "last" "[I", .fieldLink RX0 18 "CodeLifter$Blocks" "of" "[I", .fieldLink RX0 21 "CodeLifter$Blocks" "onward" "[I", .fieldLink RX0 24 "CodeLifter$Blocks" "otherwise" "[I", .fieldLink RX0 27 "CodeLifter$Blocks" "catcher" "[I", .fieldLink RX0 30 "CodeLifter$Blocks" "nexts" "[J", .fieldLink RX0 34 "CodeLifter$Blocks" "firstEdge" "[I", .fieldLink RX0 37 "CodeLifter$Blocks" "source" "[I", .fieldLink RX0 40 "CodeLifter$Blocks" "target" "[I", .fieldLink RX0 43 "CodeLifter$Blocks" "throwing" "[Z", .fieldLink RX0 47 "CodeLifter$Blocks" "isCut" "[Z", .fieldLink RX0 50 "CodeLifter$Blocks" "listing" "LCodeLifter$Listing;", .code yX3_goesElsewhere cX3_goesElsewhere 2 (some .boolean), .fieldLink RX3 9 "CodeLifter$Listing" "sign" "[I", .code yX3_ends cX3_ends 2 (some .boolean), .code yX0_markCuts cX0_markCuts 2 none, .fieldLink RX0 64 "CodeLifter$Listing" "size" "I", .fieldLink RX0 67 "CodeLifter$Listing" "depth" "[I", .fieldLink RX0 91 "CodeLifter$Listing" "number" "[I", .fieldLink RX0 97 "CodeLifter$Listing" "handlers" "I", .fieldLink RX0 100 "CodeLifter$Listing" "from" "[I", .fieldLink RX0 103 "CodeLifter$Listing" "to" "[I", .fieldLink RX0 106 "CodeLifter$Listing" "goal" "[I", .methodLink RX0 87 yX3_goesElsewhere, .instanceMethod yX3_goesElsewhere, .selects RX3 yX3_goesElsewhere yX3_goesElsewhere, .initialized RX3, .methodLink RX0 94 yX3_ends, .instanceMethod yX3_ends, .selects RX3 yX3_ends yX3_ends, .code yX3_goesOn cX3_goesOn 2 (some .boolean), .methodLink RX3 85 yX3_ends, .code yX11_isIn cX11_isIn 3 (some .boolean), .code yX0_edgeTo cX0_edgeTo 5 (some .int), .fieldLink RX0 70 "CodeLifter$Blocks" "edges" "I", .code yX0_lead cX0_lead 5 none, .static yX11_isIn, .initialized RX11, .methodLink RX0 129 yX0_edgeTo, .instanceMethod yX0_edgeTo, .selects RX0 yX0_edgeTo yX0_edgeTo, .initialized RX0, .code yX3_canThrow cX3_canThrow 2 (some .boolean), .code yX3_handlerOf cX3_handlerOf 3 (some .int), .fieldLink RX3 34 "CodeLifter$Listing" "handlers" "I", .fieldLink RX3 21 "CodeLifter$Listing" "from" "[I", .fieldLink RX3 24 "CodeLifter$Listing" "to" "[I", .code yX0_catcherOf cX0_catcherOf 4 (some .int), .methodLink RX0 119 yX3_canThrow]
def alw_1 : List Cond := [.instanceMethod yX3_canThrow, .selects RX3 yX3_canThrow yX3_canThrow, .methodLink RX0 122 yX3_handlerOf, .instanceMethod yX3_handlerOf, .selects RX3 yX3_handlerOf yX3_handlerOf, .methodLink RX0 109 yX3_goesOn, .instanceMethod yX3_goesOn, .selects RX3 yX3_goesOn yX3_goesOn, .methodLink RX0 112 yX0_lead, .instanceMethod yX0_lead, .selects RX0 yX0_lead yX0_lead, .methodLink RX0 116 yX0_catcherOf, .instanceMethod yX0_catcherOf, .selects RX0 yX0_catcherOf yX0_catcherOf, .code yX0_join cX0_join 4 none, .code yX11_isBinary cX11_isBinary 1 (some .boolean), .code yX3_needs cX3_needs 1 (some .int), .static yX11_isBinary, .code yX3_gives cX3_gives 1 (some .int), .code yX3_depthBehind cX3_depthBehind 2 (some .int), .fieldLink RX3 18 "CodeLifter$Listing" "depth" "[I", .methodLink RX3 63 yX3_needs, .static yX3_needs, .methodLink RX3 82 yX3_gives, .static yX3_gives, .fieldLink RX0 57 "CodeLifter$Blocks" "size" "I", .fieldLink RX0 61 "CodeLifter$Blocks" "names" "I", .methodLink RX0 81 Lib.Math.max.name, .static Lib.Math.max.name, .initialized "java/lang/Math", .code Lib.Math.max.name Lib.Math.max.code 2 (some .int), .methodLink RX0 54 yX0_markCuts, .instanceMethod yX0_markCuts, .selects RX0 yX0_markCuts yX0_markCuts, .methodLink RX0 73 yX0_join, .instanceMethod yX0_join, .selects RX0 yX0_join yX0_join, .methodLink RX0 77 yX3_depthBehind, .instanceMethod yX3_depthBehind, .selects RX3 yX3_depthBehind yX3_depthBehind, .code yX0_cut cX0_cut 3 none, .code yX0_leadingTo cX0_leadingTo 8 (some .long), .code yX0_way cX0_way 9 (some .int), .fieldLink RX1 9 "CodeLifter$Lifted" "kind" "[I", .fieldLink RX1 15 "CodeLifter$Lifted" "which" "[I", .fieldLink RX1 18 "CodeLifter$Lifted" "expression" "[I", .fieldLink RX1 21 "CodeLifter$Lifted" "first" "[I", .fieldLink RX1 24 "CodeLifter$Lifted" "test" "[I", .fieldLink RX1 27 "CodeLifter$Lifted" "stack" "[I", .fieldLink RX1 30 "CodeLifter$Lifted" "isTold" "[Z"]
def alw_2 : List Cond := [.fieldLink RX1 34 "CodeLifter$Lifted" "listing" "LCodeLifter$Listing;", .fieldLink RX1 38 "CodeLifter$Lifted" "blocks" "LCodeLifter$Blocks;", .fieldLink RX1 42 "CodeLifter$Lifted" "pool" "LCodeLifter$Pool;", .code yX7_make cX7_make 5 (some .int), .fieldLink RX7 27 "CodeLifter$Pool" "size" "I", .fieldLink RX7 9 "CodeLifter$Pool" "sign" "[I", .fieldLink RX7 15 "CodeLifter$Pool" "left" "[I", .fieldLink RX7 18 "CodeLifter$Pool" "right" "[I", .fieldLink RX7 21 "CodeLifter$Pool" "parts" "[I", .fieldLink RX7 24 "CodeLifter$Pool" "traits" "[I", .code yX1_push cX1_push 2 none, .fieldLink RX1 59 "CodeLifter$Lifted" "height" "I", .code yX1_pop cX1_pop 1 (some .int), .code yX1_add cX1_add 4 none, .fieldLink RX1 46 "CodeLifter$Lifted" "size" "I", .code yX1_putAside cX1_putAside 3 (some .int), .fieldLink RX1 50 "CodeLifter$Lifted" "fresh" "I", .methodLink RX1 128 yX1_add, .instanceMethod yX1_add, .selects RX1 yX1_add yX1_add, .initialized RX1, .methodLink RX1 68 yX7_make, .instanceMethod yX7_make, .selects RX7 yX7_make yX7_make, .initialized RX7, .fieldLink RX1 131 "CodeLifter$Pool" "traits" "[I", .methodLink RX1 134 yX1_putAside, .instanceMethod yX1_putAside, .selects RX1 yX1_putAside yX1_putAside, .code yX1_spill cX1_spill 3 none, .methodLink RX1 125 yX1_spill, .instanceMethod yX1_spill, .selects RX1 yX1_spill yX1_spill, .code yX1_state cX1_state 5 none, .code yX7_hasEffects cX7_hasEffects 2 (some .boolean), .methodLink RX1 138 yX7_hasEffects, .instanceMethod yX7_hasEffects, .selects RX7 yX7_hasEffects yX7_hasEffects, .code yX1_drop cX1_drop 2 none, .code yX7_isName cX7_isName 2 (some .boolean), .fieldLink RX1 141 "CodeLifter$Pool" "sign" "[I", .methodLink RX1 99 yX1_pop, .instanceMethod yX1_pop, .selects RX1 yX1_pop yX1_pop, .methodLink RX1 142 yX7_isName, .instanceMethod yX7_isName, .selects RX7 yX7_isName yX7_isName, .methodLink RX1 72 yX1_push, .instanceMethod yX1_push, .selects RX1 yX1_push yX1_push]
def alw_3 : List Cond := [.code yX1_twice cX1_twice 2 none, .code yX1_exchange cX1_exchange 3 none, .code yX3_chooses cX3_chooses 2 (some .boolean), .fieldLink RX3 15 "CodeLifter$Listing" "number" "[I", .code yX1_operate cX1_operate 4 none, .fieldLink RX1 93 "CodeLifter$Listing" "sign" "[I", .fieldLink RX1 96 "CodeLifter$Listing" "number" "[I", .methodLink RX1 103 yX1_state, .instanceMethod yX1_state, .selects RX1 yX1_state yX1_state, .methodLink RX1 107 yX1_drop, .instanceMethod yX1_drop, .selects RX1 yX1_drop yX1_drop, .methodLink RX1 110 yX1_twice, .instanceMethod yX1_twice, .selects RX1 yX1_twice yX1_twice, .methodLink RX1 113 yX1_exchange, .instanceMethod yX1_exchange, .selects RX1 yX1_exchange yX1_exchange, .methodLink RX1 116 yX3_chooses, .instanceMethod yX3_chooses, .selects RX3 yX3_chooses yX3_chooses, .methodLink RX1 119 yX1_operate, .instanceMethod yX1_operate, .selects RX1 yX1_operate yX1_operate, .code yX1_step cX1_step 5 none, .code yX7_slotBit cX7_slotBit 1 (some .int), .code yX1_isNeededAbove cX1_isNeededAbove 5 (some .boolean), .methodLink RX1 152 yX7_slotBit, .static yX7_slotBit, .code yX11_isUnary cX11_isUnary 1 (some .boolean), .code yX7_replace cX7_replace 7 (some .int), .methodLink RX7 31 yX7_slotBit, .methodLink RX7 39 yX7_replace, .instanceMethod yX7_replace, .selects RX7 yX7_replace yX7_replace, .methodLink RX7 43 yX7_make, .static yX11_isUnary, .code yX1_replaceAbove cX1_replaceAbove 5 none, .methodLink RX1 145 yX1_isNeededAbove, .instanceMethod yX1_isNeededAbove, .selects RX1 yX1_isNeededAbove yX1_isNeededAbove, .methodLink RX1 149 yX1_replaceAbove, .instanceMethod yX1_replaceAbove, .selects RX1 yX1_replaceAbove yX1_replaceAbove, .code yX1_handOver cX1_handOver 4 none, .code yX1_tellWithin cX1_tellWithin 3 none, .fieldLink RX1 168 "CodeLifter$Pool" "left" "[I", .fieldLink RX1 171 "CodeLifter$Pool" "right" "[I", .fieldLink RX1 53 "CodeLifter$Pool" "size" "I"]
def alw_4 : List Cond := [.fieldLink RX1 56 "CodeLifter$Blocks" "size" "I", .fieldLink RX1 159 "CodeLifter$Lifted" "unlike" "I", .methodLink RX1 162 yX1_tellWithin, .instanceMethod yX1_tellWithin, .selects RX1 yX1_tellWithin yX1_tellWithin, .code yX1_countUnlike cX1_countUnlike 2 none, .fieldLink RX1 62 "CodeLifter$Listing" "depth" "[I", .fieldLink RX1 67 "CodeLifter$Blocks" "first" "[I", .fieldLink RX1 76 "CodeLifter$Blocks" "last" "[I", .methodLink RX1 79 yX1_step, .instanceMethod yX1_step, .selects RX1 yX1_step yX1_step, .methodLink RX1 83 yX3_ends, .methodLink RX1 87 yX1_handOver, .instanceMethod yX1_handOver, .selects RX1 yX1_handOver yX1_handOver, .methodLink RX1 90 yX1_countUnlike, .instanceMethod yX1_countUnlike, .selects RX1 yX1_countUnlike yX1_countUnlike, .code yX1_lift cX1_lift 3 none, .code yX1_mostParts cX1_mostParts 3 (some .int), .fieldLink RX1 174 "CodeLifter$Pool" "parts" "[I", .methodLink RX1 177 Lib.Math.max.name, .code yX1_fullest cX1_fullest 3 (some .int), .fieldLink RX2 9 "CodeLifter$Lines" "kind" "[I", .fieldLink RX2 15 "CodeLifter$Lines" "block" "[I", .fieldLink RX2 18 "CodeLifter$Lines" "depth" "[I", .fieldLink RX2 21 "CodeLifter$Lines" "link" "[I", .fieldLink RX2 24 "CodeLifter$Lines" "label" "[I", .fieldLink RX2 27 "CodeLifter$Lines" "loopStart" "[I", .fieldLink RX2 30 "CodeLifter$Lines" "blockEnd" "[I", .fieldLink RX2 33 "CodeLifter$Lines" "openers" "[I", .fieldLink RX2 36 "CodeLifter$Lines" "blocks" "LCodeLifter$Blocks;", .fieldLink RX2 40 "CodeLifter$Lines" "shape" "LCodeLifter$Shape;", .fieldLink RX2 44 "CodeLifter$Lines" "lifted" "LCodeLifter$Lifted;", .code yX2_add cX2_add 4 none, .fieldLink RX2 48 "CodeLifter$Lines" "size" "I", .fieldLink RX2 52 "CodeLifter$Lines" "nest" "I", .code yX2_openLine cX2_openLine 3 none, .methodLink RX2 107 yX2_add, .instanceMethod yX2_add, .selects RX2 yX2_add yX2_add, .initialized RX2, .code yX2_isMergeUnder cX2_isMergeUnder 3 (some .boolean), .fieldLink RX2 101 "CodeLifter$Shape" "merges" "J", .fieldLink RX2 104 "CodeLifter$Shape" "above" "[I", .code yX2_tellStatements cX2_tellStatements 4 none, .fieldLink RX2 111 "CodeLifter$Blocks" "catcher" "[I", .fieldLink RX2 114 "CodeLifter$Lifted" "first" "[I", .methodLink RX2 78 yX2_openLine]
def alw_5 : List Cond := [.instanceMethod yX2_openLine, .selects RX2 yX2_openLine yX2_openLine, .code yX2_closeLine cX2_closeLine 2 none, .fieldLink RX2 132 "CodeLifter$Shape" "jump" "[Z", .fieldLink RX2 136 "CodeLifter$Shape" "back" "[Z", .methodLink RX2 128 yX0_edgeTo, .methodLink RX2 55 yX2_tell, .instanceMethod yX2_tell, .selects RX2 yX2_tell yX2_tell, .code yX2_tell cX2_tell 5 none, .fieldLink RX2 68 "CodeLifter$Shape" "loops" "J", .fieldLink RX2 81 "CodeLifter$Blocks" "size" "I", .fieldLink RX2 84 "CodeLifter$Shape" "order" "[I", .methodLink RX2 87 yX2_isMergeUnder, .instanceMethod yX2_isMergeUnder, .selects RX2 yX2_isMergeUnder yX2_isMergeUnder, .methodLink RX2 91 yX2_tellStatements, .instanceMethod yX2_tellStatements, .selects RX2 yX2_tellStatements yX2_tellStatements, .methodLink RX2 95 yX2_tellEnd, .instanceMethod yX2_tellEnd, .selects RX2 yX2_tellEnd yX2_tellEnd, .methodLink RX2 98 yX2_closeLine, .instanceMethod yX2_closeLine, .selects RX2 yX2_closeLine yX2_closeLine, .code yX2_tellEnd cX2_tellEnd 4 none, .fieldLink RX2 119 "CodeLifter$Blocks" "otherwise" "[I", .fieldLink RX2 122 "CodeLifter$Blocks" "onward" "[I", .methodLink RX2 125 yX2_goOn, .instanceMethod yX2_goOn, .selects RX2 yX2_goOn yX2_goOn, .code yX2_goOn cX2_goOn 5 none, .code yX2_mark cX2_mark 2 none, .code yX2_match cX2_match 3 none, .methodLink RX2 139 yX2_mark, .instanceMethod yX2_mark, .selects RX2 yX2_mark yX2_mark, .code yX2_endsAnyway cX2_endsAnyway 4 (some .boolean), .code yX2_leaveOut cX2_leaveOut 2 none, .methodLink RX2 142 yX2_endsAnyway, .instanceMethod yX2_endsAnyway, .selects RX2 yX2_endsAnyway yX2_endsAnyway, .code yX2_close cX2_close 3 none, .methodLink RX2 59 yX2_match, .instanceMethod yX2_match, .selects RX2 yX2_match yX2_match, .methodLink RX2 62 yX2_leaveOut, .instanceMethod yX2_leaveOut, .selects RX2 yX2_leaveOut yX2_leaveOut, .methodLink RX2 65 yX2_close]
def alw_6 : List Cond := [.instanceMethod yX2_close, .selects RX2 yX2_close yX2_close, .code yX2_tellAll cX2_tellAll 1 none, .code yX2_whereCaught cX2_whereCaught 4 (some .int), .code yX2_deepest cX2_deepest 3 (some .int), .methodLink RX2 146 Lib.Math.max.name, .code yX2_ofKind cX2_ofKind 4 (some .int), .fieldLink RX3 27 "CodeLifter$Listing" "goal" "[I", .code yX3_copy cX3_copy 2 none, .fieldLink RX3 30 "CodeLifter$Listing" "size" "I", .methodLink RX3 37 arraycopyName, .native arraycopyName, .static arraycopyName, .initialized "java/lang/System", .code yX3_leadsInside cX3_leadsInside 2 (some .boolean), .methodLink RX3 55 yX3_goesElsewhere, .code yX3_lowestOpen cX3_lowestOpen 4 (some .int), .code yX3_arrive cX3_arrive 3 (some .boolean), .methodLink RX3 66 yX3_depthBehind, .methodLink RX3 69 yX3_goesOn, .methodLink RX3 72 yX3_arrive, .instanceMethod yX3_arrive, .selects RX3 yX3_arrive yX3_arrive, .methodLink RX3 76 yX3_canThrow, .methodLink RX3 79 yX3_handlerOf, .code yX3_goOver cX3_goOver 4 (some .int), .methodLink RX3 43 yX3_leadsInside, .instanceMethod yX3_leadsInside, .selects RX3 yX3_leadsInside yX3_leadsInside, .methodLink RX3 47 yX3_lowestOpen, .instanceMethod yX3_lowestOpen, .selects RX3 yX3_lowestOpen yX3_lowestOpen, .methodLink RX3 51 yX3_goOver, .instanceMethod yX3_goOver, .selects RX3 yX3_goOver yX3_goOver, .code yX3_judge cX3_judge 6 (some .int), .code yX3_highest cX3_highest 3 (some .int), .methodLink RX3 88 Lib.Math.max.name, .fieldLink RX4 9 "CodeLifter$Liveness" "begin" "[I", .fieldLink RX4 15 "CodeLifter$Liveness" "behind" "[I", .fieldLink RX4 18 "CodeLifter$Liveness" "listing" "LCodeLifter$Listing;", .fieldLink RX4 22 "CodeLifter$Liveness" "blocks" "LCodeLifter$Blocks;", .code yX4_flowThrough cX4_flowThrough 6 none, .fieldLink RX4 41 "CodeLifter$Blocks" "firstEdge" "[I", .fieldLink RX4 44 "CodeLifter$Blocks" "target" "[I", .fieldLink RX4 47 "CodeLifter$Blocks" "catcher" "[I", .fieldLink RX4 50 "CodeLifter$Blocks" "last" "[I", .fieldLink RX4 53 "CodeLifter$Blocks" "first" "[I", .fieldLink RX4 56 "CodeLifter$Listing" "number" "[I", .fieldLink RX4 61 "CodeLifter$Listing" "sign" "[I"]
def alw_7 : List Cond := [.fieldLink RX4 33 "CodeLifter$Liveness" "dead" "J", .code yX4_flow cX4_flow 5 none, .fieldLink RX4 26 "CodeLifter$Blocks" "size" "I", .constant RX4 32 (1000000), .methodLink RX4 37 yX4_flowThrough, .instanceMethod yX4_flowThrough, .selects RX4 yX4_flowThrough yX4_flowThrough, .initialized RX4, .fieldLink RX5 9 "CodeLifter$Machine" "variable" "[I", .fieldLink RX5 15 "CodeLifter$Machine" "slot" "[I", .fieldLink RX5 18 "CodeLifter$Machine" "fresh" "[I", .fieldLink RX5 21 "CodeLifter$Machine" "listing" "LCodeLifter$Listing;", .fieldLink RX5 25 "CodeLifter$Machine" "blocks" "LCodeLifter$Blocks;", .fieldLink RX5 29 "CodeLifter$Machine" "pool" "LCodeLifter$Pool;", .fieldLink RX5 33 "CodeLifter$Machine" "lifted" "LCodeLifter$Lifted;", .fieldLink RX5 37 "CodeLifter$Machine" "lines" "LCodeLifter$Lines;", .code yX5_begin cX5_begin 7 none, .fieldLink RX5 41 "CodeLifter$Machine" "seed" "I", .fieldLink RX5 45 "CodeLifter$Machine" "limit" "I", .fieldLink RX5 48 "CodeLifter$Machine" "asked" "I", .fieldLink RX5 51 "CodeLifter$Machine" "height" "I", .fieldLink RX5 54 "CodeLifter$Machine" "isThrown" "Z", .fieldLink RX5 58 "CodeLifter$Machine" "thrown" "I", .fieldLink RX5 61 "CodeLifter$Machine" "ending" "I", .fieldLink RX5 64 "CodeLifter$Machine" "entered" "I", .fieldLink RX5 67 "CodeLifter$Machine" "inputs" "I", .fieldLink RX5 70 "CodeLifter$Machine" "outputs" "I", .fieldLink RX5 73 "CodeLifter$Machine" "told" "I", .fieldLink RX5 76 "CodeLifter$Machine" "wanted" "I", .code yX5_enter cX5_enter 1 (some .boolean), .code yX5_push cX5_push 2 none, .code yX5_pop cX5_pop 1 (some .int), .code yX5_draw cX5_draw 1 (some .int), .constant RX5 212 (1103515245), .code yX5_tellOut cX5_tellOut 2 none, .code yX5_shuffle cX5_shuffle 4 none, .methodLink RX5 108 yX5_pop, .instanceMethod yX5_pop, .selects RX5 yX5_pop yX5_pop, .initialized RX5, .methodLink RX5 104 yX5_push, .instanceMethod yX5_push, .selects RX5 yX5_push yX5_push, .code yX5_throwOut cX5_throwOut 2 none, .code yX5_throwFrom cX5_throwFrom 4 (some .int), .fieldLink RX5 149 "CodeLifter$Listing" "goal" "[I", .methodLink RX5 143 yX3_handlerOf, .methodLink RX5 146 yX5_throwOut, .instanceMethod yX5_throwOut, .selects RX5 yX5_throwOut yX5_throwOut]
def alw_8 : List Cond := [.code yX11_dividesByZero cX11_dividesByZero 2 (some .boolean), .code yX11_outcome cX11_outcome 3 (some .int), .code yX5_operate cX5_operate 4 none, .static yX11_dividesByZero, .static yX11_outcome, .fieldLink RX5 96 "CodeLifter$Listing" "sign" "[I", .fieldLink RX5 101 "CodeLifter$Listing" "number" "[I", .fieldLink RX5 128 "CodeLifter$Listing" "size" "I", .methodLink RX5 112 yX5_draw, .instanceMethod yX5_draw, .selects RX5 yX5_draw yX5_draw, .methodLink RX5 115 yX5_tellOut, .instanceMethod yX5_tellOut, .selects RX5 yX5_tellOut yX5_tellOut, .methodLink RX5 118 yX5_shuffle, .instanceMethod yX5_shuffle, .selects RX5 yX5_shuffle yX5_shuffle, .methodLink RX5 121 yX5_throwFrom, .instanceMethod yX5_throwFrom, .selects RX5 yX5_throwFrom yX5_throwFrom, .methodLink RX5 125 yX5_operate, .instanceMethod yX5_operate, .selects RX5 yX5_operate yX5_operate, .code yX5_obey cX5_obey 4 (some .int), .constant RX5 79 (1000000), .fieldLink RX5 80 "CodeLifter$Blocks" "of" "[I", .fieldLink RX5 85 "CodeLifter$Blocks" "first" "[I", .methodLink RX5 88 yX5_enter, .instanceMethod yX5_enter, .selects RX5 yX5_enter yX5_enter, .methodLink RX5 92 yX5_obey, .instanceMethod yX5_obey, .selects RX5 yX5_obey yX5_obey, .code yX5_goThroughCode cX5_goThroughCode 5 none, .fieldLink RX5 203 "CodeLifter$Pool" "sign" "[I", .fieldLink RX5 206 "CodeLifter$Pool" "left" "[I", .fieldLink RX5 209 "CodeLifter$Pool" "right" "[I", .methodLink RX5 175 yX5_value, .instanceMethod yX5_value, .selects RX5 yX5_value yX5_value, .code yX5_value cX5_value 7 (some .int), .fieldLink RX5 197 "CodeLifter$Blocks" "catcher" "[I", .methodLink RX5 200 yX2_whereCaught, .instanceMethod yX2_whereCaught, .selects RX2 yX2_whereCaught yX2_whereCaught, .code yX5_catchIn cX5_catchIn 3 (some .int), .fieldLink RX5 187 "CodeLifter$Lifted" "kind" "[I", .fieldLink RX5 188 "CodeLifter$Lifted" "expression" "[I", .fieldLink RX5 194 "CodeLifter$Lifted" "which" "[I", .methodLink RX5 191 yX5_catchIn]
def alw_9 : List Cond := [.instanceMethod yX5_catchIn, .selects RX5 yX5_catchIn yX5_catchIn, .code yX5_perform cX5_perform 7 (some .int), .fieldLink RX5 161 "CodeLifter$Lines" "block" "[I", .fieldLink RX5 155 "CodeLifter$Lines" "kind" "[I", .fieldLink RX5 164 "CodeLifter$Lines" "link" "[I", .fieldLink RX5 170 "CodeLifter$Lifted" "test" "[I", .fieldLink RX5 178 "CodeLifter$Lines" "blockEnd" "[I", .fieldLink RX5 181 "CodeLifter$Lines" "loopStart" "[I", .fieldLink RX5 184 "CodeLifter$Lines" "label" "[I", .methodLink RX5 167 yX5_perform, .instanceMethod yX5_perform, .selects RX5 yX5_perform yX5_perform, .code yX5_follow cX5_follow 3 (some .int), .fieldLink RX5 152 "CodeLifter$Lines" "size" "I", .methodLink RX5 158 yX5_follow, .instanceMethod yX5_follow, .selects RX5 yX5_follow yX5_follow, .code yX5_goThroughLines cX5_goThroughLines 3 none, .fieldLink RX6 9 "CodeLifter$Pen" "signs" "[I", .fieldLink RX6 15 "CodeLifter$Pen" "pool" "LCodeLifter$Pool;", .fieldLink RX6 19 "CodeLifter$Pen" "lifted" "LCodeLifter$Lifted;", .fieldLink RX6 23 "CodeLifter$Pen" "lines" "LCodeLifter$Lines;", .code yX6_signAt cX6_signAt 2 (some .int), .fieldLink RX6 27 "CodeLifter$Pen" "width" "I", .code yX6_writeSign cX6_writeSign 2 none, .code yX6_writeNumber cX6_writeNumber 2 none, .methodLink RX6 98 yX6_writeSign, .instanceMethod yX6_writeSign, .selects RX6 yX6_writeSign yX6_writeSign, .initialized RX6, .code yX6_writeName cX6_writeName 3 none, .methodLink RX6 91 yX6_writeNumber, .instanceMethod yX6_writeNumber, .selects RX6 yX6_writeNumber yX6_writeNumber, .code yJ0_coder_7d493 cJ0_coder_7d493 1 (some .byte), .fieldLink RJ0 38 "java/lang/String" "COMPACT_STRINGS" "Z", .fieldLink RJ0 15 "java/lang/String" "coder" "B", .code yJ0_length_8abf5 cJ0_length_8abf5 1 (some .int), .fieldLink RJ0 9 "java/lang/String" "value" "[B", .methodLink RJ0 335 yJ0_coder_7d493, .instanceMethod yJ0_coder_7d493, .selects RJ0 yJ0_coder_7d493 yJ0_coder_7d493, .initialized RJ0, .code yJ0_isLatin1_aae02 cJ0_isLatin1_aae02 1 (some .boolean), .code yJ3_checkIndex_8e157 cJ3_checkIndex_8e157 3 (some .int), .code yJ0_checkIndex_df160 cJ0_checkIndex_df160 2 none, .fieldLink RJ0 1053 "jdk/internal/util/Preconditions" "SIOOBE_FORMATTER" "Ljava/util/function/BiFunction;", .methodLink RJ0 1059 yJ3_checkIndex_8e157, .static yJ3_checkIndex_8e157]
def alw_10 : List Cond := [.initialized RJ3, .code yJ1_charAt_3b067 cJ1_charAt_3b067 2 (some .char), .methodLink RJ1 9 yJ0_checkIndex_df160, .static yJ0_checkIndex_df160, .code yJ2_length_9d52b cJ2_length_9d52b 1 (some .int), .code yJ2_checkIndex_2214a cJ2_checkIndex_2214a 2 none, .methodLink RJ2 48 yJ2_length_9d52b, .static yJ2_length_9d52b, .initialized RJ2, .methodLink RJ2 414 yJ0_checkIndex_df160, .code yJ2_getChar_3b067 cJ2_getChar_3b067 2 (some .char), .fieldLink RJ2 44 "java/lang/StringUTF16" "$assertionsDisabled" "Z", .fieldLink RJ2 59 "java/lang/StringUTF16" "HI_BYTE_SHIFT" "I", .fieldLink RJ2 63 "java/lang/StringUTF16" "LO_BYTE_SHIFT" "I", .code yJ2_charAt_3b067 cJ2_charAt_3b067 2 (some .char), .methodLink RJ2 67 yJ2_checkIndex_2214a, .static yJ2_checkIndex_2214a, .methodLink RJ2 71 yJ2_getChar_3b067, .static yJ2_getChar_3b067, .methodLink RJ0 492 yJ0_isLatin1_aae02, .instanceMethod yJ0_isLatin1_aae02, .selects RJ0 yJ0_isLatin1_aae02 yJ0_isLatin1_aae02, .methodLink RJ0 495 yJ1_charAt_3b067, .static yJ1_charAt_3b067, .initialized RJ1, .methodLink RJ0 498 yJ2_charAt_3b067, .static yJ2_charAt_3b067, .code yJ0_charAt_5068e cJ0_charAt_5068e 2 (some .char), .methodLink RX6 136 yJ0_length_8abf5, .instanceMethod yJ0_length_8abf5, .selects RJ0 yJ0_length_8abf5 yJ0_length_8abf5, .methodLink RX6 142 yJ0_charAt_5068e, .instanceMethod yJ0_charAt_5068e, .selects RJ0 yJ0_charAt_5068e yJ0_charAt_5068e, .code yX6_write cX6_write 3 none, .fieldLink RX6 115 "CodeLifter$Pool" "sign" "[I", .fieldLink RX6 120 "CodeLifter$Pool" "left" "[I", .fieldLink RX6 131 "CodeLifter$Pool" "right" "[I", .methodLink RX6 103 yX6_writeName, .instanceMethod yX6_writeName, .selects RX6 yX6_writeName yX6_writeName, .methodLink RX6 62 yX6_write, .instanceMethod yX6_write, .selects RX6 yX6_write yX6_write, .methodLink RX6 31 yX6_writeExpression, .instanceMethod yX6_writeExpression, .selects RX6 yX6_writeExpression yX6_writeExpression, .code yX6_writeExpression cX6_writeExpression 5 none, .code yX6_widthOf cX6_widthOf 2 (some .int), .fieldLink RX6 94 "CodeLifter$Lifted" "which" "[I"]
def alw_11 : List Cond := [.fieldLink RX6 97 "CodeLifter$Lifted" "kind" "[I", .fieldLink RX6 112 "CodeLifter$Lifted" "expression" "[I", .code yX6_writeStatement cX6_writeStatement 3 none, .code yX6_writeBlock cX6_writeBlock 4 none, .fieldLink RX6 35 "CodeLifter$Lines" "block" "[I", .fieldLink RX6 40 "CodeLifter$Lines" "kind" "[I", .fieldLink RX6 43 "CodeLifter$Lines" "link" "[I", .fieldLink RX6 66 "CodeLifter$Lifted" "test" "[I", .methodLink RX6 46 yX6_writeStatement, .instanceMethod yX6_writeStatement, .selects RX6 yX6_writeStatement yX6_writeStatement, .methodLink RX6 54 yX6_writeBlock, .instanceMethod yX6_writeBlock, .selects RX6 yX6_writeBlock yX6_writeBlock, .code yX6_widthOfLine cX6_widthOfLine 3 (some .int), .fieldLink RX8 9 "CodeLifter$Shape" "jump" "[Z", .fieldLink RX8 15 "CodeLifter$Shape" "back" "[Z", .fieldLink RX8 18 "CodeLifter$Shape" "order" "[I", .fieldLink RX8 22 "CodeLifter$Shape" "place" "[I", .fieldLink RX8 25 "CodeLifter$Shape" "dominators" "[J", .fieldLink RX8 29 "CodeLifter$Shape" "above" "[I", .fieldLink RX8 32 "CodeLifter$Shape" "members" "[J", .fieldLink RX8 35 "CodeLifter$Shape" "before" "[J", .fieldLink RX8 38 "CodeLifter$Shape" "open" "[I", .fieldLink RX8 41 "CodeLifter$Shape" "nextEdge" "[I", .fieldLink RX8 44 "CodeLifter$Shape" "candidate" "[I", .fieldLink RX8 47 "CodeLifter$Shape" "blocks" "LCodeLifter$Blocks;", .code yX8_allAreComeTo cX8_allAreComeTo 9 (some .boolean), .fieldLink RX8 105 "CodeLifter$Blocks" "firstEdge" "[I", .constant RX8 108 (1000000), .fieldLink RX8 109 "CodeLifter$Blocks" "size" "I", .fieldLink RX8 99 "CodeLifter$Blocks" "target" "[I", .code yJ13_bitCount_95d88 cJ13_bitCount_95d88 2 (some .int), .constantLong RJ13 314 (6148914691236517205), .constantLong RJ13 316 (3689348814741910323), .constantLong RJ13 318 (1085102592571150095), .code yJ6_numberOfTrailingZeros_0f7a4 cJ6_numberOfTrailingZeros_0f7a4 2 (some .int), .constant RJ6 264 (65536), .code yJ13_numberOfTrailingZeros_95d88 cJ13_numberOfTrailingZeros_95d88 3 (some .int), .methodLink RJ13 311 yJ6_numberOfTrailingZeros_0f7a4, .static yJ6_numberOfTrailingZeros_0f7a4, .initialized RJ6, .code yX8_sharedBefore cX8_sharedBefore 7 (some .long), .methodLink RX8 120 yJ13_bitCount_95d88, .static yJ13_bitCount_95d88, .initialized RJ13, .methodLink RX8 126 yJ13_numberOfTrailingZeros_95d88, .static yJ13_numberOfTrailingZeros_95d88, .fieldLink RX8 75 "CodeLifter$Blocks" "edges" "I", .fieldLink RX8 102 "CodeLifter$Blocks" "source" "[I"]
def alw_12 : List Cond := [.methodLink RX8 116 yX8_sharedBefore, .instanceMethod yX8_sharedBefore, .selects RX8 yX8_sharedBefore yX8_sharedBefore, .initialized RX8, .code yX8_findDominators cX8_findDominators 7 none, .code yX8_isBack cX8_isBack 2 (some .boolean), .methodLink RX8 93 yX8_allAreComeTo, .instanceMethod yX8_allAreComeTo, .selects RX8 yX8_allAreComeTo yX8_allAreComeTo, .methodLink RX8 96 yX8_findDominators, .instanceMethod yX8_findDominators, .selects RX8 yX8_findDominators yX8_findDominators, .methodLink RX8 80 yX8_isBack, .instanceMethod yX8_isBack, .selects RX8 yX8_isBack yX8_isBack, .code yX8_isReducedNow cX8_isReducedNow 3 (some .boolean), .code yX8_findCandidates cX8_findCandidates 3 none, .fieldLink RX8 129 "CodeLifter$Shape" "candidates" "I", .fieldLink RX8 132 "CodeLifter$Blocks" "throwing" "[Z", .fieldLink RX8 51 "CodeLifter$Shape" "jumps" "I", .methodLink RX8 55 yX8_isReducedNow, .instanceMethod yX8_isReducedNow, .selects RX8 yX8_isReducedNow yX8_isReducedNow, .code yX8_oneJumpIsEnough cX8_oneJumpIsEnough 2 (some .boolean), .code yX8_twoJumpsAreEnough cX8_twoJumpsAreEnough 3 (some .boolean), .code yX8_findAbove cX8_findAbove 4 none, .code yX8_comingBack cX8_comingBack 9 (some .long), .code yX8_findLoops cX8_findLoops 3 none, .fieldLink RX8 135 "CodeLifter$Shape" "loops" "J", .methodLink RX8 139 yX8_comingBack, .instanceMethod yX8_comingBack, .selects RX8 yX8_comingBack yX8_comingBack, .code yX8_findMerges cX8_findMerges 6 none, .fieldLink RX8 143 "CodeLifter$Shape" "merges" "J", .fieldLink RX8 59 "CodeLifter$Shape" "reduced" "Z", .fieldLink RX8 63 "CodeLifter$Shape" "tangled" "Z", .methodLink RX8 66 yX8_findCandidates, .instanceMethod yX8_findCandidates, .selects RX8 yX8_findCandidates yX8_findCandidates, .methodLink RX8 69 yX8_oneJumpIsEnough, .instanceMethod yX8_oneJumpIsEnough, .selects RX8 yX8_oneJumpIsEnough yX8_oneJumpIsEnough, .methodLink RX8 72 yX8_twoJumpsAreEnough, .instanceMethod yX8_twoJumpsAreEnough, .selects RX8 yX8_twoJumpsAreEnough yX8_twoJumpsAreEnough, .methodLink RX8 84 yX8_findAbove, .instanceMethod yX8_findAbove, .selects RX8 yX8_findAbove yX8_findAbove, .methodLink RX8 87 yX8_findLoops, .instanceMethod yX8_findLoops]
def alw_13 : List Cond := [.selects RX8 yX8_findLoops yX8_findLoops, .methodLink RX8 90 yX8_findMerges, .instanceMethod yX8_findMerges, .selects RX8 yX8_findMerges yX8_findMerges, .code yX8_form cX8_form 2 none, .code yX8_innermost cX8_innermost 5 (some .int), .code yX8_loopsRound cX8_loopsRound 4 (some .int), .code yX8_mostLoops cX8_mostLoops 3 (some .int), .methodLink RX8 150 Lib.Math.max.name, .methodLink RX8 146 yX8_loopsRound, .instanceMethod yX8_loopsRound, .selects RX8 yX8_loopsRound yX8_loopsRound, .fieldLink RX9 9 "CodeLifter$Tape" "bytes" "[B", .code yX9_append cX9_append 4 none, .fieldLink RX9 15 "CodeLifter$Tape" "length" "I", .code yX9_current cX9_current 1 (some .int), .fieldLink RX9 19 "CodeLifter$Tape" "at" "I", .code yX9_skipBlanks cX9_skipBlanks 1 none, .methodLink RX9 33 yX9_current, .instanceMethod yX9_current, .selects RX9 yX9_current yX9_current, .initialized RX9, .code yX11_isBare cX11_isBare 1 (some .boolean), .methodLink RX11 409 yX11_isBinary, .code yX9_readNumber cX9_readNumber 4 (some .int), .methodLink RX9 75 Lib.Math.max.name, .methodLink RX9 30 yX9_skipBlanks, .instanceMethod yX9_skipBlanks, .selects RX9 yX9_skipBlanks yX9_skipBlanks, .code yX9_readLetter cX9_readLetter 1 (some .int), .fieldLink RX9 22 "CodeLifter$Listing" "size" "I", .fieldLink RX9 55 "CodeLifter$Listing" "sign" "[I", .fieldLink RX9 59 "CodeLifter$Listing" "number" "[I", .static yX11_isBare, .methodLink RX9 48 yX9_readNumber, .instanceMethod yX9_readNumber, .selects RX9 yX9_readNumber yX9_readNumber, .methodLink RX9 52 yX9_readLetter, .instanceMethod yX9_readLetter, .selects RX9 yX9_readLetter yX9_readLetter, .code yX9_readInstruction cX9_readInstruction 4 (some .boolean), .code yX9_isAtComma cX9_isAtComma 1 (some .boolean), .fieldLink RX9 27 "CodeLifter$Listing" "handlers" "I", .fieldLink RX9 66 "CodeLifter$Listing" "from" "[I", .fieldLink RX9 69 "CodeLifter$Listing" "to" "[I", .fieldLink RX9 72 "CodeLifter$Listing" "goal" "[I", .methodLink RX9 62 yX9_isAtComma, .instanceMethod yX9_isAtComma, .selects RX9 yX9_isAtComma yX9_isAtComma, .code yX9_readHandler cX9_readHandler 5 (some .boolean)]
def alw_14 : List Cond := [.methodLink RX9 37 yX9_readInstruction, .instanceMethod yX9_readInstruction, .selects RX9 yX9_readInstruction yX9_readInstruction, .methodLink RX9 41 yX9_readHandler, .instanceMethod yX9_readHandler, .selects RX9 yX9_readHandler yX9_readHandler, .code yX9_read cX9_read 3 (some .boolean), .fieldLink RX10 9 "CodeLifter$Truths" "variable" "[Z", .fieldLink RX10 15 "CodeLifter$Truths" "slot" "[Z", .fieldLink RX10 18 "CodeLifter$Truths" "fresh" "[Z", .fieldLink RX10 21 "CodeLifter$Truths" "blocks" "LCodeLifter$Blocks;", .fieldLink RX10 25 "CodeLifter$Truths" "pool" "LCodeLifter$Pool;", .fieldLink RX10 29 "CodeLifter$Truths" "lifted" "LCodeLifter$Lifted;", .code yX10_assumeAll cX10_assumeAll 2 none, .fieldLink RX10 61 "CodeLifter$Blocks" "edges" "I", .fieldLink RX10 66 "CodeLifter$Blocks" "throwing" "[Z", .code yX10_holds cX10_holds 3 (some .boolean), .fieldLink RX10 69 "CodeLifter$Pool" "left" "[I", .fieldLink RX10 74 "CodeLifter$Pool" "sign" "[I", .code yX10_isTaken cX10_isTaken 3 (some .boolean), .fieldLink RX10 77 "CodeLifter$Lifted" "which" "[I", .fieldLink RX10 43 "CodeLifter$Lifted" "kind" "[I", .code yX10_deny cX10_deny 3 none, .constant RX10 36 (1000000), .fieldLink RX10 37 "CodeLifter$Lifted" "size" "I", .fieldLink RX10 47 "CodeLifter$Lifted" "expression" "[I", .methodLink RX10 33 yX10_assumeAll, .instanceMethod yX10_assumeAll, .selects RX10 yX10_assumeAll yX10_assumeAll, .initialized RX10, .methodLink RX10 50 yX10_holds, .instanceMethod yX10_holds, .selects RX10 yX10_holds yX10_holds, .methodLink RX10 54 yX10_isTaken, .instanceMethod yX10_isTaken, .selects RX10 yX10_isTaken yX10_isTaken, .methodLink RX10 57 yX10_deny, .instanceMethod yX10_deny, .selects RX10 yX10_deny yX10_deny, .code yX10_judge cX10_judge 5 none, .code yX11_oneIf cX11_oneIf 1 (some .int), .code yX10_howMany cX10_howMany 3 (some .int), .fieldLink RX10 84 "CodeLifter$Blocks" "names" "I", .fieldLink RX10 87 "CodeLifter$Lifted" "fresh" "I", .static yX11_oneIf, .fieldLink RX11 10 "CodeLifter" "tape" "LCodeLifter$Tape;", .fieldLink RX11 19 "CodeLifter" "listing" "LCodeLifter$Listing;", .fieldLink RX11 23 "CodeLifter" "draft" "LCodeLifter$Listing;", .fieldLink RX11 31 "CodeLifter" "blocks" "LCodeLifter$Blocks;", .fieldLink RX11 40 "CodeLifter" "shape" "LCodeLifter$Shape;"]
def alw_15 : List Cond := [.fieldLink RX11 47 "CodeLifter" "pool" "LCodeLifter$Pool;", .fieldLink RX11 56 "CodeLifter" "lifted" "LCodeLifter$Lifted;", .fieldLink RX11 65 "CodeLifter" "truths" "LCodeLifter$Truths;", .fieldLink RX11 74 "CodeLifter" "liveness" "LCodeLifter$Liveness;", .fieldLink RX11 83 "CodeLifter" "lines" "LCodeLifter$Lines;", .fieldLink RX11 92 "CodeLifter" "machine" "LCodeLifter$Machine;", .fieldLink RX11 101 "CodeLifter" "pen" "LCodeLifter$Pen;", .fieldLink RX11 105 "CodeLifter" "loaded" "Z", .methodLink RX11 28 yX0_init, .methodLink RX11 37 yX8_init, .methodLink RX11 53 yX1_init, .methodLink RX11 62 yX10_init, .methodLink RX11 71 yX4_init, .methodLink RX11 80 yX2_init, .methodLink RX11 89 yX5_init, .methodLink RX11 98 yX6_init, .code yX11_bytesIn cX11_bytesIn 3 (some .int), .code yX11_feed cX11_feed 7 (some .int), .fieldLink RX11 113 "CodeLifter$Tape" "length" "I", .methodLink RX11 109 yX11_bytesIn, .static yX11_bytesIn, .methodLink RX11 117 yX9_append, .instanceMethod yX9_append, .selects RX9 yX9_append yX9_append, .code yX11_end cX11_end 2 (some .boolean), .fieldLink RX11 125 "CodeLifter$Tape" "at" "I", .methodLink RX11 121 yX9_read, .instanceMethod yX9_read, .selects RX9 yX9_read yX9_read, .code yX11_fault cX11_fault 1 (some .int), .fieldLink RX11 182 "CodeLifter$Lines" "size" "I", .fieldLink RX11 173 "CodeLifter$Shape" "tangled" "Z", .methodLink RX11 143 yX3_copy, .instanceMethod yX3_copy, .selects RX3 yX3_copy yX3_copy, .methodLink RX11 383 yX0_cut, .instanceMethod yX0_cut, .selects RX0 yX0_cut yX0_cut, .methodLink RX11 386 yX8_form, .instanceMethod yX8_form, .selects RX8 yX8_form yX8_form, .methodLink RX11 389 yX1_lift, .instanceMethod yX1_lift, .selects RX1 yX1_lift yX1_lift, .methodLink RX11 392 yX10_judge, .instanceMethod yX10_judge, .selects RX10 yX10_judge yX10_judge, .methodLink RX11 394 yX4_flow, .instanceMethod yX4_flow, .selects RX4 yX4_flow yX4_flow]
def alw_16 : List Cond := [.methodLink RX11 397 yX2_tellAll, .instanceMethod yX2_tellAll, .selects RX2 yX2_tellAll yX2_tellAll, .code yX11_adoptDraft cX11_adoptDraft 1 none, .fieldLink RX11 135 "CodeLifter$Blocks" "size" "I", .methodLink RX11 128 yX3_judge, .instanceMethod yX3_judge, .selects RX3 yX3_judge yX3_judge, .methodLink RX11 132 yX11_adoptDraft, .instanceMethod yX11_adoptDraft, .selects RX11 yX11_adoptDraft yX11_adoptDraft, .code yX11_code cX11_code 2 (some .int), .code yX11_isInstruction cX11_isInstruction 2 (some .boolean), .methodLink RX11 406 yX11_isBare, .fieldLink RX11 138 "CodeLifter$Listing" "size" "I", .fieldLink RX11 146 "CodeLifter$Listing" "sign" "[I", .fieldLink RX11 150 "CodeLifter$Listing" "number" "[I", .methodLink RX11 139 yX11_isInstruction, .static yX11_isInstruction, .code yX11_put cX11_put 5 (some .int), .constant RX11 153 (-1000000), .fieldLink RX11 154 "CodeLifter$Blocks" "edges" "I", .fieldLink RX11 157 "CodeLifter$Listing" "handlers" "I", .fieldLink RX11 160 "CodeLifter$Shape" "loops" "J", .fieldLink RX11 170 "CodeLifter$Shape" "merges" "J", .fieldLink RX11 176 "CodeLifter$Shape" "jumps" "I", .fieldLink RX11 179 "CodeLifter$Shape" "reduced" "Z", .fieldLink RX11 183 "CodeLifter$Lifted" "size" "I", .fieldLink RX11 184 "CodeLifter$Lifted" "fresh" "I", .fieldLink RX11 187 "CodeLifter$Blocks" "names" "I", .fieldLink RX11 190 "CodeLifter$Lifted" "unlike" "I", .fieldLink RX11 193 "CodeLifter$Liveness" "dead" "J", .methodLink RX11 164 yJ13_bitCount_95d88, .code yX11_count cX11_count 2 (some .int), .code yX11_instruction cX11_instruction 3 (some .int), .fieldLink RX11 203 "CodeLifter$Listing" "depth" "[I", .fieldLink RX11 206 "CodeLifter$Blocks" "of" "[I", .methodLink RX11 209 yX3_handlerOf, .methodLink RX11 212 yX11_isIn, .code yX11_isBlock cX11_isBlock 2 (some .boolean), .fieldLink RX11 222 "CodeLifter$Blocks" "first" "[I", .fieldLink RX11 225 "CodeLifter$Blocks" "last" "[I", .fieldLink RX11 228 "CodeLifter$Shape" "place" "[I", .fieldLink RX11 231 "CodeLifter$Shape" "above" "[I", .fieldLink RX11 240 "CodeLifter$Lifted" "first" "[I", .fieldLink RX11 241 "CodeLifter$Liveness" "begin" "[I", .fieldLink RX11 244 "CodeLifter$Liveness" "behind" "[I", .fieldLink RX11 247 "CodeLifter$Blocks" "catcher" "[I", .methodLink RX11 216 yX11_isBlock, .instanceMethod yX11_isBlock]
def alw_17 : List Cond := [.selects RX11 yX11_isBlock yX11_isBlock, .methodLink RX11 234 yX8_innermost, .instanceMethod yX8_innermost, .selects RX8 yX8_innermost yX8_innermost, .methodLink RX11 237 yX8_loopsRound, .code yX11_block cX11_block 3 (some .int), .code yX11_edge cX11_edge 3 (some .int), .fieldLink RX11 250 "CodeLifter$Blocks" "source" "[I", .fieldLink RX11 253 "CodeLifter$Blocks" "target" "[I", .fieldLink RX11 256 "CodeLifter$Shape" "back" "[Z", .fieldLink RX11 260 "CodeLifter$Shape" "jump" "[Z", .fieldLink RX11 263 "CodeLifter$Blocks" "throwing" "[Z", .code yX11_dominates cX11_dominates 3 (some .boolean), .fieldLink RX11 266 "CodeLifter$Shape" "dominators" "[J", .code yX11_loop cX11_loop 2 (some .long), .fieldLink RX11 270 "CodeLifter$Shape" "members" "[J", .constantLong RX11 273 (-1), .fieldLink RX11 275 "CodeLifter$Lifted" "expression" "[I", .fieldLink RX11 278 "CodeLifter$Lifted" "kind" "[I", .fieldLink RX11 281 "CodeLifter$Lifted" "which" "[I", .fieldLink RX11 290 "CodeLifter$Pool" "parts" "[I", .methodLink RX11 284 yX6_widthOf, .instanceMethod yX6_widthOf, .selects RX6 yX6_widthOf yX6_widthOf, .methodLink RX11 287 yX7_hasEffects, .code yX11_statement cX11_statement 6 (some .int), .fieldLink RX11 293 "CodeLifter$Lifted" "test" "[I", .methodLink RX11 296 yX6_signAt, .instanceMethod yX6_signAt, .selects RX6 yX6_signAt yX6_signAt, .code yX11_condition cX11_condition 4 (some .int), .code yX11_isLine cX11_isLine 2 (some .boolean), .code yX11_line cX11_line 3 (some .int), .fieldLink RX11 302 "CodeLifter$Lines" "kind" "[I", .fieldLink RX11 303 "CodeLifter$Lines" "block" "[I", .fieldLink RX11 306 "CodeLifter$Lines" "depth" "[I", .methodLink RX11 299 yX11_isLine, .instanceMethod yX11_isLine, .selects RX11 yX11_isLine yX11_isLine, .methodLink RX11 307 yX6_widthOfLine, .instanceMethod yX6_widthOfLine, .selects RX6 yX6_widthOfLine yX6_widthOfLine, .code yX11_spell cX11_spell 4 (some .int), .code yX11_type cX11_type 3 (some .int), .fieldLink RX11 310 "CodeLifter$Truths" "variable" "[Z", .fieldLink RX11 317 "CodeLifter$Truths" "slot" "[Z", .fieldLink RX11 320 "CodeLifter$Truths" "fresh" "[Z", .methodLink RX11 313 yX11_oneIf, .code yX11_canRun cX11_canRun 3 (some .boolean), .methodLink RX11 400 yX5_goThroughCode]
def alw_18 : List Cond := [.instanceMethod yX5_goThroughCode, .selects RX5 yX5_goThroughCode yX5_goThroughCode, .methodLink RX11 403 yX5_goThroughLines, .instanceMethod yX5_goThroughLines, .selects RX5 yX5_goThroughLines yX5_goThroughLines, .code yX11_goThrough cX11_goThrough 2 none, .fieldLink RX11 331 "CodeLifter$Machine" "outputs" "I", .fieldLink RX11 334 "CodeLifter$Machine" "ending" "I", .fieldLink RX11 337 "CodeLifter$Machine" "thrown" "I", .fieldLink RX11 340 "CodeLifter$Machine" "inputs" "I", .fieldLink RX11 343 "CodeLifter$Machine" "entered" "I", .fieldLink RX11 346 "CodeLifter$Machine" "told" "I", .fieldLink RX11 349 "CodeLifter$Machine" "variable" "[I", .methodLink RX11 322 yX11_canRun, .instanceMethod yX11_canRun, .selects RX11 yX11_canRun yX11_canRun, .methodLink RX11 325 yX5_begin, .instanceMethod yX5_begin, .selects RX5 yX5_begin yX5_begin, .methodLink RX11 328 yX11_goThrough, .instanceMethod yX11_goThrough, .selects RX11 yX11_goThrough yX11_goThrough, .code yX11_run cX11_run 7 (some .int), .fieldLink RX11 351 "CodeLifter$Machine" "wanted" "I", .code yX11_output cX11_output 7 (some .int), .code yX11_comesTo cX11_comesTo 2 (some .long), .methodLink RX11 354 yX0_leadingTo, .instanceMethod yX0_leadingTo, .selects RX0 yX0_leadingTo yX0_leadingTo, .code yX11_far cX11_far 3 (some .int), .methodLink RX11 358 yX0_way, .instanceMethod yX0_way, .selects RX0 yX0_way yX0_way, .methodLink RX11 362 yX8_mostLoops, .instanceMethod yX8_mostLoops, .selects RX8 yX8_mostLoops yX8_mostLoops, .methodLink RX11 365 yX2_deepest, .instanceMethod yX2_deepest, .selects RX2 yX2_deepest yX2_deepest, .methodLink RX11 368 yX2_ofKind, .instanceMethod yX2_ofKind, .selects RX2 yX2_ofKind yX2_ofKind, .methodLink RX11 371 yX1_mostParts, .instanceMethod yX1_mostParts, .selects RX1 yX1_mostParts yX1_mostParts, .methodLink RX11 374 yX3_highest, .instanceMethod yX3_highest, .selects RX3 yX3_highest yX3_highest, .methodLink RX11 377 yX1_fullest, .instanceMethod yX1_fullest]
def alw_19 : List Cond := [.selects RX1 yX1_fullest yX1_fullest, .methodLink RX11 380 yX10_howMany, .instanceMethod yX10_howMany, .selects RX10 yX10_howMany yX10_howMany, .code yX11_most cX11_most 2 (some .int), .fieldLink RX12 9 "CodeLifterModel" "tape" "[B", .fieldLink RX12 13 "CodeLifterModel" "signRead" "[I", .fieldLink RX12 17 "CodeLifterModel" "numberRead" "[I", .fieldLink RX12 20 "CodeLifterModel" "handlerRead" "[I", .fieldLink RX12 23 "CodeLifterModel" "sign" "[I", .fieldLink RX12 26 "CodeLifterModel" "number" "[I", .fieldLink RX12 29 "CodeLifterModel" "handler" "[I", .fieldLink RX12 32 "CodeLifterModel" "trySign" "[I", .fieldLink RX12 35 "CodeLifterModel" "tryNumber" "[I", .fieldLink RX12 38 "CodeLifterModel" "tryHandler" "[I", .fieldLink RX12 41 "CodeLifterModel" "tryStack" "[I", .fieldLink RX12 44 "CodeLifterModel" "stack" "[I", .fieldLink RX12 47 "CodeLifterModel" "first" "[I", .fieldLink RX12 50 "CodeLifterModel" "last" "[I", .fieldLink RX12 53 "CodeLifterModel" "blockOf" "[I", .fieldLink RX12 56 "CodeLifterModel" "throwsTo" "[I", .fieldLink RX12 59 "CodeLifterModel" "edgeFrom" "[I", .fieldLink RX12 62 "CodeLifterModel" "edgeTo" "[I", .fieldLink RX12 65 "CodeLifterModel" "edgeThrows" "[Z", .fieldLink RX12 69 "CodeLifterModel" "isJump" "[Z", .fieldLink RX12 72 "CodeLifterModel" "isBack" "[Z", .fieldLink RX12 75 "CodeLifterModel" "dominators" "[J", .fieldLink RX12 79 "CodeLifterModel" "loops" "[J", .fieldLink RX12 82 "CodeLifterModel" "order" "[I", .fieldLink RX12 85 "CodeLifterModel" "above" "[I", .fieldLink RX12 88 "CodeLifterModel" "kind" "[I", .fieldLink RX12 91 "CodeLifterModel" "left" "[I", .fieldLink RX12 94 "CodeLifterModel" "right" "[I", .fieldLink RX12 97 "CodeLifterModel" "stateKind" "[I", .fieldLink RX12 100 "CodeLifterModel" "stateWhich" "[I", .fieldLink RX12 103 "CodeLifterModel" "stateOf" "[I", .fieldLink RX12 106 "CodeLifterModel" "stateFrom" "[I", .fieldLink RX12 109 "CodeLifterModel" "condition" "[I", .fieldLink RX12 112 "CodeLifterModel" "lies" "[I", .fieldLink RX12 115 "CodeLifterModel" "isTruthVariable" "[Z", .fieldLink RX12 118 "CodeLifterModel" "isTruthT" "[Z", .fieldLink RX12 121 "CodeLifterModel" "isTruthX" "[Z", .fieldLink RX12 124 "CodeLifterModel" "liveIn" "[I", .fieldLink RX12 127 "CodeLifterModel" "liveOut" "[I", .fieldLink RX12 130 "CodeLifterModel" "isDead" "[Z", .fieldLink RX12 133 "CodeLifterModel" "lineKind" "[I", .fieldLink RX12 136 "CodeLifterModel" "lineBlock" "[I", .fieldLink RX12 139 "CodeLifterModel" "lineDeep" "[I", .fieldLink RX12 142 "CodeLifterModel" "lineOf" "[I", .fieldLink RX12 145 "CodeLifterModel" "isOut" "[Z"]
def alw_20 : List Cond := [.fieldLink RX12 148 "CodeLifterModel" "spelled" "[I", .fieldLink RX12 151 "CodeLifterModel" "met" "[I", .fieldLink RX12 154 "CodeLifterModel" "variable" "[I", .fieldLink RX12 157 "CodeLifterModel" "outputs" "[I", .fieldLink RX12 160 "CodeLifterModel" "pile" "[I", .fieldLink RX12 163 "CodeLifterModel" "nameT" "[I", .fieldLink RX12 166 "CodeLifterModel" "nameX" "[I", .code yX12_isIn cX12_isIn 6 (some .boolean), .code yX12_has cX12_has 3 (some .boolean), .code yX12_ones cX12_ones 4 (some .int), .methodLink RX12 173 yX12_has, .static yX12_has, .initialized RX12, .code yX12_bytesOf cX12_bytesOf 3 (some .int), .code yX12_brings cX12_brings 4 none, .fieldLink RX12 177 "CodeLifterModel" "length" "I", .code yX12_feed cX12_feed 6 (some .int), .fieldLink RX12 169 "CodeLifterModel" "thrown" "I", .methodLink RX12 180 yX12_bytesOf, .static yX12_bytesOf, .methodLink RX12 184 yX12_brings, .instanceMethod yX12_brings, .selects RX12 yX12_brings yX12_brings, .code yX12_end cX12_end 2 (some .boolean), .code yX12_here cX12_here 1 (some .int), .fieldLink RX12 188 "CodeLifterModel" "at" "I", .code yX12_look cX12_look 1 (some .int), .methodLink RX12 191 yX12_here, .instanceMethod yX12_here, .selects RX12 yX12_here yX12_here, .code yX12_isDigit cX12_isDigit 1 (some .boolean), .code yX12_reads cX12_reads 2 (some .boolean), .methodLink RX12 195 yX12_look, .instanceMethod yX12_look, .selects RX12 yX12_look yX12_look, .code yX12_number cX12_number 4 (some .int), .methodLink RX12 198 yX12_isDigit, .instanceMethod yX12_isDigit, .selects RX12 yX12_isDigit yX12_isDigit, .methodLink RX12 208 yJ0_length_8abf5, .methodLink RX12 212 yJ0_charAt_5068e, .code yX12_isOneOf cX12_isOneOf 3 (some .boolean), .methodLink RX12 204 yX12_isOneOf, .static yX12_isOneOf, .code yX12_isPlain cX12_isPlain 1 (some .boolean), .code yX12_letter cX12_letter 2 (some .int), .fieldLink RX12 216 "CodeLifterModel" "codesRead" "I", .methodLink RX12 219 yX12_isPlain, .static yX12_isPlain, .methodLink RX12 225 yX12_number]
def alw_21 : List Cond := [.instanceMethod yX12_number, .selects RX12 yX12_number yX12_number, .methodLink RX12 227 yX12_letter, .instanceMethod yX12_letter, .selects RX12 yX12_letter yX12_letter, .code yX12_instruction cX12_instruction 4 (some .boolean), .fieldLink RX12 230 "CodeLifterModel" "handlersRead" "I", .methodLink RX12 233 yX12_reads, .instanceMethod yX12_reads, .selects RX12 yX12_reads yX12_reads, .code yX12_handler cX12_handler 3 (some .boolean), .methodLink RX12 236 yX12_instruction, .instanceMethod yX12_instruction, .selects RX12 yX12_instruction yX12_instruction, .methodLink RX12 239 yX12_handler, .instanceMethod yX12_handler, .selects RX12 yX12_handler yX12_handler, .code yX12_isText cX12_isText 2 (some .boolean), .methodLink RX12 241 yX12_isText, .instanceMethod yX12_isText, .selects RX12 yX12_isText yX12_isText, .code yX12_fault cX12_fault 1 (some .int), .code yX12_pops cX12_pops 1 (some .int), .code yX12_pushes cX12_pushes 1 (some .int), .code yX12_canThrow cX12_canThrow 1 (some .boolean), .code yX12_goesOn cX12_goesOn 1 (some .boolean), .code yX12_goesTo cX12_goesTo 1 (some .boolean), .code yX12_handlerOf cX12_handlerOf 4 (some .int), .code yX12_comes cX12_comes 3 (some .boolean), .fieldLink RX12 254 "CodeLifterModel" "tryCodes" "I", .fieldLink RX12 260 "CodeLifterModel" "tryHandlers" "I", .methodLink RX12 266 yX12_pops, .static yX12_pops, .methodLink RX12 269 yX12_pushes, .static yX12_pushes, .methodLink RX12 272 yX12_goesOn, .static yX12_goesOn, .methodLink RX12 275 yX12_comes, .instanceMethod yX12_comes, .selects RX12 yX12_comes yX12_comes, .methodLink RX12 257 yX12_goesTo, .static yX12_goesTo, .methodLink RX12 279 yX12_handlerOf, .static yX12_handlerOf, .methodLink RX12 283 yX12_canThrow, .static yX12_canThrow, .code yX12_goesThrough cX12_goesThrough 5 (some .int), .methodLink RX12 263 yX12_goesThrough, .instanceMethod yX12_goesThrough, .selects RX12 yX12_goesThrough yX12_goesThrough]
def alw_22 : List Cond := [.code yX12_wrong cX12_wrong 5 (some .int), .code yX12_tries cX12_tries 7 none, .code yX12_isCome cX12_isCome 2 (some .boolean), .fieldLink RX12 286 "CodeLifterModel" "codes" "I", .fieldLink RX12 289 "CodeLifterModel" "handlers" "I", .methodLink RX12 321 yX12_isCome, .instanceMethod yX12_isCome, .selects RX12 yX12_isCome yX12_isCome, .code yX12_isCutAhead cX12_isCutAhead 3 (some .boolean), .fieldLink RX12 299 "CodeLifterModel" "blocks" "I", .methodLink RX12 324 yX12_isCutAhead, .instanceMethod yX12_isCutAhead, .selects RX12 yX12_isCutAhead yX12_isCutAhead, .code yX12_laysBlocks cX12_laysBlocks 2 none, .code yX12_laysEdge cX12_laysEdge 5 none, .fieldLink RX12 327 "CodeLifterModel" "edges" "I", .methodLink RX12 330 yX12_laysEdge, .instanceMethod yX12_laysEdge, .selects RX12 yX12_laysEdge yX12_laysEdge, .code yX12_laysEdges cX12_laysEdges 5 none, .code yX12_reached cX12_reached 8 (some .long), .code yX12_all cX12_all 1 (some .long), .code yX12_laysDominators cX12_laysDominators 5 none, .methodLink RX12 334 yX12_reached, .instanceMethod yX12_reached, .selects RX12 yX12_reached yX12_reached, .code yX12_isEntry cX12_isEntry 5 (some .boolean), .code yX12_isReduced cX12_isReduced 5 (some .boolean), .methodLink RX12 338 yX12_isEntry, .instanceMethod yX12_isEntry, .selects RX12 yX12_isEntry yX12_isEntry, .methodLink RX12 342 yX12_all, .instanceMethod yX12_all, .selects RX12 yX12_all yX12_all, .methodLink RX12 346 yX12_laysDominators, .instanceMethod yX12_laysDominators, .selects RX12 yX12_laysDominators yX12_laysDominators, .methodLink RX12 349 yX12_isReduced, .instanceMethod yX12_isReduced, .selects RX12 yX12_isReduced yX12_isReduced, .code yX12_isGoodSo cX12_isGoodSo 1 (some .boolean), .methodLink RX12 352 yX12_isGoodSo, .instanceMethod yX12_isGoodSo, .selects RX12 yX12_isGoodSo yX12_isGoodSo, .code yX12_hasSecond cX12_hasSecond 3 (some .boolean), .fieldLink RX12 355 "CodeLifterModel" "isPlainly" "Z", .fieldLink RX12 358 "CodeLifterModel" "jumps" "I", .methodLink RX12 361 yX12_hasSecond, .instanceMethod yX12_hasSecond, .selects RX12 yX12_hasSecond yX12_hasSecond]
def alw_23 : List Cond := [.code yX12_laysJumps cX12_laysJumps 2 none, .code yX12_leaves cX12_leaves 3 none, .fieldLink RX12 364 "CodeLifterModel" "seen" "J", .fieldLink RX12 368 "CodeLifterModel" "ordered" "I", .methodLink RX12 371 yX12_leaves, .instanceMethod yX12_leaves, .selects RX12 yX12_leaves yX12_leaves, .code yX12_laysOrder cX12_laysOrder 1 none, .code yX12_laysAbove cX12_laysAbove 3 none, .code yX12_comeTo cX12_comeTo 7 (some .long), .code yX12_laysLoops cX12_laysLoops 3 none, .methodLink RX12 374 yX12_comeTo, .instanceMethod yX12_comeTo, .selects RX12 yX12_comeTo yX12_comeTo, .code yX12_makes cX12_makes 4 (some .int), .fieldLink RX12 378 "CodeLifterModel" "nodes" "I", .code yX12_lays cX12_lays 2 none, .fieldLink RX12 419 "CodeLifterModel" "lying" "I", .code yX12_isForked cX12_isForked 2 (some .boolean), .code yX12_pops_ cX12_pops_ 1 (some .int), .code yX12_isName cX12_isName 2 (some .boolean), .code yX12_isOne cX12_isOne 2 (some .boolean), .code yX12_isBoth cX12_isBoth 2 (some .boolean), .code yX12_hasEffects cX12_hasEffects 2 (some .boolean), .methodLink RX12 381 yX12_isOne, .instanceMethod yX12_isOne, .selects RX12 yX12_isOne yX12_isOne, .methodLink RX12 384 yX12_hasEffects, .instanceMethod yX12_hasEffects, .selects RX12 yX12_hasEffects yX12_hasEffects, .methodLink RX12 387 yX12_isBoth, .instanceMethod yX12_isBoth, .selects RX12 yX12_isBoth yX12_isBoth, .code yX12_hasName cX12_hasName 4 (some .boolean), .methodLink RX12 390 yX12_hasName, .instanceMethod yX12_hasName, .selects RX12 yX12_hasName yX12_hasName, .code yX12_states cX12_states 4 none, .fieldLink RX12 407 "CodeLifterModel" "states" "I", .code yX12_freshX cX12_freshX 2 (some .int), .fieldLink RX12 410 "CodeLifterModel" "xs" "I", .methodLink RX12 413 yX12_states, .instanceMethod yX12_states, .selects RX12 yX12_states yX12_states, .methodLink RX12 398 yX12_makes, .instanceMethod yX12_makes, .selects RX12 yX12_makes yX12_makes, .methodLink RX12 416 yX12_freshX, .instanceMethod yX12_freshX, .selects RX12 yX12_freshX yX12_freshX]
def alw_24 : List Cond := [.code yX12_settles cX12_settles 4 none, .methodLink RX12 426 yX12_pops_, .instanceMethod yX12_pops_, .selects RX12 yX12_pops_ yX12_pops_, .methodLink RX12 428 yX12_isName, .instanceMethod yX12_isName, .selects RX12 yX12_isName yX12_isName, .methodLink RX12 422 yX12_settles, .instanceMethod yX12_settles, .selects RX12 yX12_settles yX12_settles, .methodLink RX12 431 yX12_lays, .instanceMethod yX12_lays, .selects RX12 yX12_lays yX12_lays, .code yX12_doubles cX12_doubles 2 none, .code yX12_changes cX12_changes 3 none, .code yX12_alone cX12_alone 2 none, .code yX12_tells cX12_tells 4 none, .methodLink RX12 433 yX12_doubles, .instanceMethod yX12_doubles, .selects RX12 yX12_doubles yX12_doubles, .methodLink RX12 436 yX12_changes, .instanceMethod yX12_changes, .selects RX12 yX12_changes yX12_changes, .methodLink RX12 439 yX12_alone, .instanceMethod yX12_alone, .selects RX12 yX12_alone yX12_alone, .methodLink RX12 444 yX12_tells, .instanceMethod yX12_tells, .selects RX12 yX12_tells yX12_tells, .code yX12_lifts cX12_lifts 4 none, .code yX12_with cX12_with 5 (some .int), .methodLink RX12 394 yX12_with, .instanceMethod yX12_with, .selects RX12 yX12_with yX12_with, .code yX12_endsBlock cX12_endsBlock 7 none, .fieldLink RX12 447 "CodeLifterModel" "mostNames" "I", .methodLink RX12 450 Lib.Math.max.name, .methodLink RX12 456 yX12_isForked, .instanceMethod yX12_isForked, .selects RX12 yX12_isForked yX12_isForked, .methodLink RX12 459 yX12_lifts, .instanceMethod yX12_lifts, .selects RX12 yX12_lifts yX12_lifts, .methodLink RX12 464 yX12_endsBlock, .instanceMethod yX12_endsBlock, .selects RX12 yX12_endsBlock yX12_endsBlock, .code yX12_laysStatements cX12_laysStatements 3 none, .code yX12_isTruth cX12_isTruth 2 (some .boolean), .code yX12_isLess cX12_isLess 4 (some .boolean), .methodLink RX12 470 yX12_isTruth]
def alw_25 : List Cond := [.instanceMethod yX12_isTruth, .selects RX12 yX12_isTruth yX12_isTruth, .code yX12_laysTypes cX12_laysTypes 3 none, .methodLink RX12 467 yX12_isLess, .instanceMethod yX12_isLess, .selects RX12 yX12_isLess yX12_isLess, .code yX12_behind cX12_behind 4 (some .int), .code yX12_liveAhead cX12_liveAhead 5 (some .int), .methodLink RX12 473 yX12_behind, .instanceMethod yX12_behind, .selects RX12 yX12_behind yX12_behind, .code yX12_laysLive cX12_laysLive 4 none, .methodLink RX12 476 yX12_liveAhead, .instanceMethod yX12_liveAhead, .selects RX12 yX12_liveAhead yX12_liveAhead, .code yX12_edgeOf cX12_edgeOf 4 (some .int), .code yX12_line cX12_line 4 none, .fieldLink RX12 479 "CodeLifterModel" "lines" "I", .fieldLink RX12 482 "CodeLifterModel" "deepNow" "I", .code yX12_isMerge cX12_isMerge 4 (some .boolean), .code yX12_opens cX12_opens 3 none, .methodLink RX12 485 yX12_line, .instanceMethod yX12_line, .selects RX12 yX12_line yX12_line, .code yX12_closes cX12_closes 3 none, .methodLink RX12 508 yX12_edgeOf, .instanceMethod yX12_edgeOf, .selects RX12 yX12_edgeOf yX12_edgeOf, .methodLink RX12 497 yX12_isMerge, .instanceMethod yX12_isMerge, .selects RX12 yX12_isMerge yX12_isMerge, .methodLink RX12 503 yX12_tells_, .instanceMethod yX12_tells_, .selects RX12 yX12_tells_ yX12_tells_, .code yX12_inner cX12_inner 4 none, .methodLink RX12 488 yX12_opens, .instanceMethod yX12_opens, .selects RX12 yX12_opens yX12_opens, .methodLink RX12 505 yX12_goes, .instanceMethod yX12_goes, .selects RX12 yX12_goes yX12_goes, .methodLink RX12 494 yX12_closes, .instanceMethod yX12_closes, .selects RX12 yX12_closes yX12_closes, .code yX12_merges cX12_merges 5 none, .methodLink RX12 500 yX12_inner, .instanceMethod yX12_inner, .selects RX12 yX12_inner yX12_inner, .methodLink RX12 491 yX12_merges, .instanceMethod yX12_merges]
def alw_26 : List Cond := [.selects RX12 yX12_merges yX12_merges, .code yX12_tells_ cX12_tells_ 2 none, .code yX12_goes cX12_goes 4 none, .code yX12_endOfIf cX12_endOfIf 3 (some .int), .code yX12_isIdle cX12_isIdle 3 (some .boolean), .methodLink RX12 511 yX12_endOfIf, .instanceMethod yX12_endOfIf, .selects RX12 yX12_endOfIf yX12_endOfIf, .code yX12_thins cX12_thins 3 none, .methodLink RX12 514 yX12_isIdle, .instanceMethod yX12_isIdle, .selects RX12 yX12_isIdle yX12_isIdle, .methodLink RX12 517 yX12_thins, .instanceMethod yX12_thins, .selects RX12 yX12_thins yX12_thins, .code yX12_laysLines cX12_laysLines 2 none, .methodLink RX12 520 yX12_laysBlocks, .instanceMethod yX12_laysBlocks, .selects RX12 yX12_laysBlocks yX12_laysBlocks, .methodLink RX12 523 yX12_laysEdges, .instanceMethod yX12_laysEdges, .selects RX12 yX12_laysEdges yX12_laysEdges, .methodLink RX12 526 yX12_laysJumps, .instanceMethod yX12_laysJumps, .selects RX12 yX12_laysJumps yX12_laysJumps, .methodLink RX12 529 yX12_laysOrder, .instanceMethod yX12_laysOrder, .selects RX12 yX12_laysOrder yX12_laysOrder, .methodLink RX12 532 yX12_laysAbove, .instanceMethod yX12_laysAbove, .selects RX12 yX12_laysAbove yX12_laysAbove, .methodLink RX12 535 yX12_laysLoops, .instanceMethod yX12_laysLoops, .selects RX12 yX12_laysLoops yX12_laysLoops, .methodLink RX12 538 yX12_laysStatements, .instanceMethod yX12_laysStatements, .selects RX12 yX12_laysStatements yX12_laysStatements, .methodLink RX12 541 yX12_laysTypes, .instanceMethod yX12_laysTypes, .selects RX12 yX12_laysTypes yX12_laysTypes, .methodLink RX12 544 yX12_laysLive, .instanceMethod yX12_laysLive, .selects RX12 yX12_laysLive yX12_laysLive, .methodLink RX12 547 yX12_laysLines, .instanceMethod yX12_laysLines, .selects RX12 yX12_laysLines yX12_laysLines, .code yX12_lays_ cX12_lays_ 1 none, .fieldLink RX12 292 "CodeLifterModel" "isThere" "Z", .methodLink RX12 296 yX12_lays_, .instanceMethod yX12_lays_]
def alw_27 : List Cond := [.selects RX12 yX12_lays_ yX12_lays_, .code yX12_takes cX12_takes 2 (some .int), .methodLink RX12 302 yX12_tries, .instanceMethod yX12_tries, .selects RX12 yX12_tries yX12_tries, .methodLink RX12 306 yX12_wrong, .instanceMethod yX12_wrong, .selects RX12 yX12_wrong yX12_wrong, .methodLink RX12 309 yX12_takes, .instanceMethod yX12_takes, .selects RX12 yX12_takes yX12_takes, .code yX12_code cX12_code 2 (some .int), .methodLink RX12 312 yX12_isIn, .static yX12_isIn, .code yX12_isCode cX12_isCode 3 (some .boolean), .methodLink RX12 316 yX12_isCode, .static yX12_isCode, .code yX12_put cX12_put 5 (some .int), .code yX12_within cX12_within 2 (some .int), .methodLink RX12 401 yX12_within, .instanceMethod yX12_within, .selects RX12 yX12_within yX12_within, .code yX12_areAlike cX12_areAlike 3 (some .boolean), .methodLink RX12 404 yX12_areAlike, .instanceMethod yX12_areAlike, .selects RX12 yX12_areAlike yX12_areAlike, .code yX12_writes cX12_writes 2 none, .fieldLink RX12 550 "CodeLifterModel" "spells" "I", .methodLink RX12 553 yX12_writes, .instanceMethod yX12_writes, .selects RX12 yX12_writes yX12_writes, .code yX12_writesWord cX12_writesWord 3 none, .code yX12_writesNumber cX12_writesNumber 2 none, .methodLink RX12 556 yX12_writesNumber, .instanceMethod yX12_writesNumber, .selects RX12 yX12_writesNumber yX12_writesNumber, .code yX12_writesName cX12_writesName 3 none, .methodLink RX12 559 yX12_writesName, .instanceMethod yX12_writesName, .selects RX12 yX12_writesName yX12_writesName, .methodLink RX12 564 yX12_writesWord, .instanceMethod yX12_writesWord, .selects RX12 yX12_writesWord yX12_writesWord, .methodLink RX12 568 yX12_spells, .instanceMethod yX12_spells, .selects RX12 yX12_spells yX12_spells, .code yX12_spells cX12_spells 2 none, .code yX12_spellsStatement cX12_spellsStatement 2 none, .code yX12_spellsBlock cX12_spellsBlock 4 none, .methodLink RX12 576 yX12_spellsStatement]
def alw_28 : List Cond := [.instanceMethod yX12_spellsStatement, .selects RX12 yX12_spellsStatement yX12_spellsStatement, .methodLink RX12 581 yX12_spellsBlock, .instanceMethod yX12_spellsBlock, .selects RX12 yX12_spellsBlock yX12_spellsBlock, .code yX12_spellsLine cX12_spellsLine 3 none, .code yX12_told cX12_told 2 (some .int), .code yX12_isLine cX12_isLine 2 (some .boolean), .methodLink RX12 603 yX12_isLine, .instanceMethod yX12_isLine, .selects RX12 yX12_isLine yX12_isLine, .methodLink RX12 606 yX12_spellsLine, .instanceMethod yX12_spellsLine, .selects RX12 yX12_spellsLine yX12_spellsLine, .methodLink RX12 609 yX12_told, .instanceMethod yX12_told, .selects RX12 yX12_told yX12_told, .code yX12_spell cX12_spell 3 (some .int), .code yX12_line_ cX12_line_ 3 (some .int), .constantLong RX12 612 (2), .constant RX12 614 (-1000000), .code yX12_isBlock cX12_isBlock 2 (some .boolean), .methodLink RX12 615 yX12_isBlock, .instanceMethod yX12_isBlock, .selects RX12 yX12_isBlock yX12_isBlock, .code yX12_condition cX12_condition 3 (some .int), .constantLong RX12 618 (4), .code yX12_statement cX12_statement 6 (some .int), .code yX12_countLoops cX12_countLoops 3 (some .int), .code yX12_countMerges cX12_countMerges 3 (some .int), .code yX12_countDead cX12_countDead 3 (some .int), .fieldLink RX12 623 "CodeLifterModel" "metMany" "I", .methodLink RX12 620 yX12_meets, .instanceMethod yX12_meets, .selects RX12 yX12_meets yX12_meets, .code yX12_meets cX12_meets 3 none, .code yX12_unlike cX12_unlike 2 (some .int), .methodLink RX12 626 yX12_countLoops, .instanceMethod yX12_countLoops, .selects RX12 yX12_countLoops yX12_countLoops, .methodLink RX12 629 yX12_countMerges, .instanceMethod yX12_countMerges, .selects RX12 yX12_countMerges yX12_countMerges, .methodLink RX12 632 yX12_unlike, .instanceMethod yX12_unlike, .selects RX12 yX12_unlike yX12_unlike, .methodLink RX12 635 yX12_countDead, .instanceMethod yX12_countDead, .selects RX12 yX12_countDead yX12_countDead, .code yX12_count cX12_count 2 (some .int)]
def alw_29 : List Cond := [.code yX12_instruction_ cX12_instruction_ 3 (some .int), .constantLong RX12 638 (5), .code yX12_loopsOf cX12_loopsOf 4 (some .int), .code yX12_innermost cX12_innermost 4 (some .int), .methodLink RX12 640 yX12_ones, .static yX12_ones, .constantLong RX12 644 (12), .methodLink RX12 646 yX12_innermost, .instanceMethod yX12_innermost, .selects RX12 yX12_innermost yX12_innermost, .methodLink RX12 649 yX12_loopsOf, .instanceMethod yX12_loopsOf, .selects RX12 yX12_loopsOf yX12_loopsOf, .code yX12_block cX12_block 3 (some .int), .code yX12_edge cX12_edge 3 (some .int), .code yX12_dominates cX12_dominates 3 (some .boolean), .code yX12_loop cX12_loop 2 (some .long), .constantLong RX12 652 (-1), .code yX12_type cX12_type 3 (some .int), .code yX12_comesTo cX12_comesTo 6 (some .long), .code yX12_far cX12_far 9 (some .int), .code yX12_mostLines cX12_mostLines 4 (some .int), .code yX12_deepest cX12_deepest 3 (some .int), .code yX12_mostLoops cX12_mostLoops 3 (some .int), .code yX12_mostWithin cX12_mostWithin 3 (some .int), .code yX12_mostOnStack cX12_mostOnStack 3 (some .int), .code yX12_longestBlock cX12_longestBlock 3 (some .int), .code yX12_truths cX12_truths 3 (some .int), .methodLink RX12 654 yX12_mostLoops, .instanceMethod yX12_mostLoops, .selects RX12 yX12_mostLoops yX12_mostLoops, .methodLink RX12 657 yX12_deepest, .instanceMethod yX12_deepest, .selects RX12 yX12_deepest yX12_deepest, .methodLink RX12 660 yX12_mostLines, .instanceMethod yX12_mostLines, .selects RX12 yX12_mostLines yX12_mostLines, .methodLink RX12 663 yX12_mostWithin, .instanceMethod yX12_mostWithin, .selects RX12 yX12_mostWithin yX12_mostWithin, .methodLink RX12 666 yX12_mostOnStack, .instanceMethod yX12_mostOnStack, .selects RX12 yX12_mostOnStack yX12_mostOnStack, .methodLink RX12 669 yX12_longestBlock, .instanceMethod yX12_longestBlock, .selects RX12 yX12_longestBlock yX12_longestBlock, .methodLink RX12 672 yX12_truths, .instanceMethod yX12_truths, .selects RX12 yX12_truths yX12_truths, .code yX12_most cX12_most 2 (some .int)]
def alw_30 : List Cond := [.code yX12_begins cX12_begins 6 none, .fieldLink RX12 675 "CodeLifterModel" "outputMany" "I", .fieldLink RX12 678 "CodeLifterModel" "inputs" "I", .fieldLink RX12 681 "CodeLifterModel" "entered" "I", .fieldLink RX12 684 "CodeLifterModel" "ended" "I", .fieldLink RX12 687 "CodeLifterModel" "thrownOut" "I", .fieldLink RX12 690 "CodeLifterModel" "seed" "I", .fieldLink RX12 693 "CodeLifterModel" "mostBlocks" "I", .code yX12_input cX12_input 1 (some .int), .constant RX12 696 (1103515245), .code yX12_outputs cX12_outputs 2 none, .code yX12_enters cX12_enters 1 none, .code yX12_throwsIt cX12_throwsIt 2 none, .fieldLink RX12 697 "CodeLifterModel" "isThrown" "Z", .fieldLink RX12 700 "CodeLifterModel" "thrownValue" "I", .code yX12_result cX12_result 4 (some .int), .methodLink RX12 703 yX12_throwsIt, .instanceMethod yX12_throwsIt, .selects RX12 yX12_throwsIt yX12_throwsIt, .code yX12_caught cX12_caught 3 (some .int), .fieldLink RX12 706 "CodeLifterModel" "piled" "I", .methodLink RX12 709 yX12_input, .instanceMethod yX12_input, .selects RX12 yX12_input yX12_input, .methodLink RX12 712 yX12_outputs, .instanceMethod yX12_outputs, .selects RX12 yX12_outputs yX12_outputs, .methodLink RX12 714 yX12_result, .instanceMethod yX12_result, .selects RX12 yX12_result yX12_result, .methodLink RX12 717 yX12_caught, .instanceMethod yX12_caught, .selects RX12 yX12_caught yX12_caught, .code yX12_next cX12_next 7 (some .int), .methodLink RX12 720 yX12_enters, .instanceMethod yX12_enters, .selects RX12 yX12_enters yX12_enters, .methodLink RX12 723 yX12_next, .instanceMethod yX12_next, .selects RX12 yX12_next yX12_next, .code yX12_runsCode cX12_runsCode 2 none, .methodLink RX12 726 yX12_valueOf, .instanceMethod yX12_valueOf, .selects RX12 yX12_valueOf yX12_valueOf, .code yX12_valueOf cX12_valueOf 4 (some .int), .code yX12_endOf cX12_endOf 4 (some .int), .code yX12_lineWith cX12_lineWith 4 (some .int), .code yX12_otherwiseOf cX12_otherwiseOf 3 (some .int), .methodLink RX12 729 yX12_lineWith, .instanceMethod yX12_lineWith]
def alw_31 : List Cond := [.selects RX12 yX12_lineWith yX12_lineWith, .code yX12_puts cX12_puts 3 none, .code yX12_wayTo cX12_wayTo 3 (some .int), .methodLink RX12 741 yX12_endOf, .instanceMethod yX12_endOf, .selects RX12 yX12_endOf yX12_endOf, .methodLink RX12 738 yX12_wayTo, .instanceMethod yX12_wayTo, .selects RX12 yX12_wayTo yX12_wayTo, .code yX12_caughtLine cX12_caughtLine 3 (some .int), .methodLink RX12 732 yX12_puts, .instanceMethod yX12_puts, .selects RX12 yX12_puts yX12_puts, .methodLink RX12 735 yX12_caughtLine, .instanceMethod yX12_caughtLine, .selects RX12 yX12_caughtLine yX12_caughtLine, .code yX12_states_ cX12_states_ 5 (some .int), .methodLink RX12 744 yX12_states_, .instanceMethod yX12_states_, .selects RX12 yX12_states_ yX12_states_, .methodLink RX12 746 yX12_otherwiseOf, .instanceMethod yX12_otherwiseOf, .selects RX12 yX12_otherwiseOf yX12_otherwiseOf, .code yX12_nextLine cX12_nextLine 3 (some .int), .methodLink RX12 749 yX12_nextLine, .instanceMethod yX12_nextLine, .selects RX12 yX12_nextLine yX12_nextLine, .code yX12_runsLines cX12_runsLines 2 none, .constantLong RX12 752 (200), .methodLink RX12 754 yX12_begins, .instanceMethod yX12_begins, .selects RX12 yX12_begins yX12_begins, .methodLink RX12 758 yX12_runsCode, .instanceMethod yX12_runsCode, .selects RX12 yX12_runsCode yX12_runsCode, .methodLink RX12 761 yX12_runsLines, .instanceMethod yX12_runsLines, .selects RX12 yX12_runsLines yX12_runsLines, .code yX12_hasRun cX12_hasRun 6 (some .boolean), .code yX12_folded cX12_folded 3 (some .int), .constantLong RX12 764 (11), .methodLink RX12 766 yX12_hasRun, .instanceMethod yX12_hasRun, .selects RX12 yX12_hasRun yX12_hasRun, .methodLink RX12 770 yX12_folded, .instanceMethod yX12_folded, .selects RX12 yX12_folded yX12_folded, .code yX12_run cX12_run 7 (some .int), .code yX12_output cX12_output 7 (some .int), .code yJ9_max_7cf53 cJ9_max_7cf53 2 (some .int)]
def ALW : List Cond := alw_0 ++ (alw_1 ++ (alw_2 ++ (alw_3 ++ (alw_4 ++ (alw_5 ++ (alw_6 ++ (alw_7 ++ (alw_8 ++ (alw_9 ++ (alw_10 ++ (alw_11 ++ (alw_12 ++ (alw_13 ++ (alw_14 ++ (alw_15 ++ (alw_16 ++ (alw_17 ++ (alw_18 ++ (alw_19 ++ (alw_20 ++ (alw_21 ++ (alw_22 ++ (alw_23 ++ (alw_24 ++ (alw_25 ++ (alw_26 ++ (alw_27 ++ (alw_28 ++ (alw_29 ++ (alw_30 ++ (alw_31 ++ (wsX00 ++ (wsX10 ++ (wsX20 ++ (wsX30 ++ (wsX40 ++ (wsX50 ++ (wsX60 ++ (wsX70 ++ (wsX80 ++ (wsX90 ++ (wsX100 ++ (wsX110 ++ (wsX120 ++ (wsJ00)))))))))))))))))))))))))))))))))))))))))))))
theorem in_0 : ∀ w ∈ alw_0, w ∈ ALW := fun _ h => List.mem_append_left _ h
theorem in_1 : ∀ w ∈ alw_1, w ∈ ALW := fun _ h => List.mem_append_right _ (List.mem_append_left _ h)
theorem in_2 : ∀ w ∈ alw_2, w ∈ ALW := fun _ h => List.mem_append_right _ (List.mem_append_right _ (List.mem_append_left _ h))
theorem in_3 : ∀ w ∈ alw_3, w ∈ ALW := fun _ h => List.mem_append_right _ (List.mem_append_right _ (List.mem_append_right _ (List.mem_append_left _ h)))
theorem in_4 : ∀ w ∈ alw_4, w ∈ ALW := fun _ h => List.mem_append_right _ (List.mem_append_right _ (List.mem_append_right _ (List.mem_append_right _ (List.mem_append_left _ h))))
theorem in_5 : ∀ w ∈ alw_5, w ∈ ALW := fun _ h => List.mem_append_right _ (List.mem_append_right _ (List.mem_append_right _ (List.mem_append_right _ (List.mem_append_right _ (List.mem_append_left _ h)))))
theorem in_6 : ∀ w ∈ alw_6, w ∈ ALW := fun _ h => List.mem_append_right _ (List.mem_append_right _ (List.mem_append_right _ (List.mem_append_right _ (List.mem_append_right _ (List.mem_append_right _ (List.mem_append_left _ h))))))
theorem in_7 : ∀ w ∈ alw_7, w ∈ ALW := fun _ h => List.mem_append_right _ (List.mem_append_right _ (List.mem_append_right _ (List.mem_append_right _ (List.mem_append_right _ (List.mem_append_right _ (List.mem_append_right _ (List.mem_append_left _ h)))))))
theorem in_8 : ∀ w ∈ alw_8, w ∈ ALW := fun _ h => List.mem_append_right _ (List.mem_append_right _ (List.mem_append_right _ (List.mem_append_right _ (List.mem_append_right _ (List.mem_append_right _ (List.mem_append_right _ (List.mem_append_right _ (List.mem_append_left _ h))))))))
theorem in_9 : ∀ w ∈ alw_9, w ∈ ALW := fun _ h => List.mem_append_right _ (List.mem_append_right _ (List.mem_append_right _ (List.mem_append_right _ (List.mem_append_right _ (List.mem_append_right _ (List.mem_append_right _ (List.mem_append_right _ (List.mem_append_right _ (List.mem_append_left _ h)))))))))
theorem in_10 : ∀ w ∈ alw_10, w ∈ ALW := fun _ h => List.mem_append_right _ (List.mem_append_right _ (List.mem_append_right _ (List.mem_append_right _ (List.mem_append_right _ (List.mem_append_right _ (List.mem_append_right _ (List.mem_append_right _ (List.mem_append_right _ (List.mem_append_right _ (List.mem_append_left _ h))))))))))
theorem in_11 : ∀ w ∈ alw_11, w ∈ ALW := fun _ h => List.mem_append_right _ (List.mem_append_right _ (List.mem_append_right _ (List.mem_append_right _ (List.mem_append_right _ (List.mem_append_right _ (List.mem_append_right _ (List.mem_append_right _ (List.mem_append_right _ (List.mem_append_right _ (List.mem_append_right _ (List.mem_append_left _ h)))))))))))
theorem in_12 : ∀ w ∈ alw_12, w ∈ ALW := fun _ h => List.mem_append_right _ (List.mem_append_right _ (List.mem_append_right _ (List.mem_append_right _ (List.mem_append_right _ (List.mem_append_right _ (List.mem_append_right _ (List.mem_append_right _ (List.mem_append_right _ (List.mem_append_right _ (List.mem_append_right _ (List.mem_append_right _ (List.mem_append_left _ h))))))))))))
theorem in_13 : ∀ w ∈ alw_13, w ∈ ALW := fun _ h => List.mem_append_right _ (List.mem_append_right _ (List.mem_append_right _ (List.mem_append_right _ (List.mem_append_right _ (List.mem_append_right _ (List.mem_append_right _ (List.mem_append_right _ (List.mem_append_right _ (List.mem_append_right _ (List.mem_append_right _ (List.mem_append_right _ (List.mem_append_right _ (List.mem_append_left _ h)))))))))))))
theorem in_14 : ∀ w ∈ alw_14, w ∈ ALW := fun _ h => List.mem_append_right _ (List.mem_append_right _ (List.mem_append_right _ (List.mem_append_right _ (List.mem_append_right _ (List.mem_append_right _ (List.mem_append_right _ (List.mem_append_right _ (List.mem_append_right _ (List.mem_append_right _ (List.mem_append_right _ (List.mem_append_right _ (List.mem_append_right _ (List.mem_append_right _ (List.mem_append_left _ h))))))))))))))
theorem in_15 : ∀ w ∈ alw_15, w ∈ ALW := fun _ h => List.mem_append_right _ (List.mem_append_right _ (List.mem_append_right _ (List.mem_append_right _ (List.mem_append_right _ (List.mem_append_right _ (List.mem_append_right _ (List.mem_append_right _ (List.mem_append_right _ (List.mem_append_right _ (List.mem_append_right _ (List.mem_append_right _ (List.mem_append_right _ (List.mem_append_right _ (List.mem_append_right _ (List.mem_append_left _ h)))))))))))))))
theorem in_16 : ∀ w ∈ alw_16, w ∈ ALW := fun _ h => List.mem_append_right _ (List.mem_append_right _ (List.mem_append_right _ (List.mem_append_right _ (List.mem_append_right _ (List.mem_append_right _ (List.mem_append_right _ (List.mem_append_right _ (List.mem_append_right _ (List.mem_append_right _ (List.mem_append_right _ (List.mem_append_right _ (List.mem_append_right _ (List.mem_append_right _ (List.mem_append_right _ (List.mem_append_right _ (List.mem_append_left _ h))))))))))))))))
theorem in_17 : ∀ w ∈ alw_17, w ∈ ALW := fun _ h => List.mem_append_right _ (List.mem_append_right _ (List.mem_append_right _ (List.mem_append_right _ (List.mem_append_right _ (List.mem_append_right _ (List.mem_append_right _ (List.mem_append_right _ (List.mem_append_right _ (List.mem_append_right _ (List.mem_append_right _ (List.mem_append_right _ (List.mem_append_right _ (List.mem_append_right _ (List.mem_append_right _ (List.mem_append_right _ (List.mem_append_right _ (List.mem_append_left _ h)))))))))))))))))
theorem in_18 : ∀ w ∈ alw_18, w ∈ ALW := fun _ h => List.mem_append_right _ (List.mem_append_right _ (List.mem_append_right _ (List.mem_append_right _ (List.mem_append_right _ (List.mem_append_right _ (List.mem_append_right _ (List.mem_append_right _ (List.mem_append_right _ (List.mem_append_right _ (List.mem_append_right _ (List.mem_append_right _ (List.mem_append_right _ (List.mem_append_right _ (List.mem_append_right _ (List.mem_append_right _ (List.mem_append_right _ (List.mem_append_right _ (List.mem_append_left _ h))))))))))))))))))
theorem in_19 : ∀ w ∈ alw_19, w ∈ ALW := fun _ h => List.mem_append_right _ (List.mem_append_right _ (List.mem_append_right _ (List.mem_append_right _ (List.mem_append_right _ (List.mem_append_right _ (List.mem_append_right _ (List.mem_append_right _ (List.mem_append_right _ (List.mem_append_right _ (List.mem_append_right _ (List.mem_append_right _ (List.mem_append_right _ (List.mem_append_right _ (List.mem_append_right _ (List.mem_append_right _ (List.mem_append_right _ (List.mem_append_right _ (List.mem_append_right _ (List.mem_append_left _ h)))))))))))))))))))
theorem in_20 : ∀ w ∈ alw_20, w ∈ ALW := fun _ h => List.mem_append_right _ (List.mem_append_right _ (List.mem_append_right _ (List.mem_append_right _ (List.mem_append_right _ (List.mem_append_right _ (List.mem_append_right _ (List.mem_append_right _ (List.mem_append_right _ (List.mem_append_right _ (List.mem_append_right _ (List.mem_append_right _ (List.mem_append_right _ (List.mem_append_right _ (List.mem_append_right _ (List.mem_append_right _ (List.mem_append_right _ (List.mem_append_right _ (List.mem_append_right _ (List.mem_append_right _ (List.mem_append_left _ h))))))))))))))))))))
theorem in_21 : ∀ w ∈ alw_21, w ∈ ALW := fun _ h => List.mem_append_right _ (List.mem_append_right _ (List.mem_append_right _ (List.mem_append_right _ (List.mem_append_right _ (List.mem_append_right _ (List.mem_append_right _ (List.mem_append_right _ (List.mem_append_right _ (List.mem_append_right _ (List.mem_append_right _ (List.mem_append_right _ (List.mem_append_right _ (List.mem_append_right _ (List.mem_append_right _ (List.mem_append_right _ (List.mem_append_right _ (List.mem_append_right _ (List.mem_append_right _ (List.mem_append_right _ (List.mem_append_right _ (List.mem_append_left _ h)))))))))))))))))))))
theorem in_22 : ∀ w ∈ alw_22, w ∈ ALW := fun _ h => List.mem_append_right _ (List.mem_append_right _ (List.mem_append_right _ (List.mem_append_right _ (List.mem_append_right _ (List.mem_append_right _ (List.mem_append_right _ (List.mem_append_right _ (List.mem_append_right _ (List.mem_append_right _ (List.mem_append_right _ (List.mem_append_right _ (List.mem_append_right _ (List.mem_append_right _ (List.mem_append_right _ (List.mem_append_right _ (List.mem_append_right _ (List.mem_append_right _ (List.mem_append_right _ (List.mem_append_right _ (List.mem_append_right _ (List.mem_append_right _ (List.mem_append_left _ h))))))))))))))))))))))
theorem in_23 : ∀ w ∈ alw_23, w ∈ ALW := fun _ h => List.mem_append_right _ (List.mem_append_right _ (List.mem_append_right _ (List.mem_append_right _ (List.mem_append_right _ (List.mem_append_right _ (List.mem_append_right _ (List.mem_append_right _ (List.mem_append_right _ (List.mem_append_right _ (List.mem_append_right _ (List.mem_append_right _ (List.mem_append_right _ (List.mem_append_right _ (List.mem_append_right _ (List.mem_append_right _ (List.mem_append_right _ (List.mem_append_right _ (List.mem_append_right _ (List.mem_append_right _ (List.mem_append_right _ (List.mem_append_right _ (List.mem_append_right _ (List.mem_append_left _ h)))))))))))))))))))))))
theorem in_24 : ∀ w ∈ alw_24, w ∈ ALW := fun _ h => List.mem_append_right _ (List.mem_append_right _ (List.mem_append_right _ (List.mem_append_right _ (List.mem_append_right _ (List.mem_append_right _ (List.mem_append_right _ (List.mem_append_right _ (List.mem_append_right _ (List.mem_append_right _ (List.mem_append_right _ (List.mem_append_right _ (List.mem_append_right _ (List.mem_append_right _ (List.mem_append_right _ (List.mem_append_right _ (List.mem_append_right _ (List.mem_append_right _ (List.mem_append_right _ (List.mem_append_right _ (List.mem_append_right _ (List.mem_append_right _ (List.mem_append_right _ (List.mem_append_right _ (List.mem_append_left _ h))))))))))))))))))))))))
theorem in_25 : ∀ w ∈ alw_25, w ∈ ALW := fun _ h => List.mem_append_right _ (List.mem_append_right _ (List.mem_append_right _ (List.mem_append_right _ (List.mem_append_right _ (List.mem_append_right _ (List.mem_append_right _ (List.mem_append_right _ (List.mem_append_right _ (List.mem_append_right _ (List.mem_append_right _ (List.mem_append_right _ (List.mem_append_right _ (List.mem_append_right _ (List.mem_append_right _ (List.mem_append_right _ (List.mem_append_right _ (List.mem_append_right _ (List.mem_append_right _ (List.mem_append_right _ (List.mem_append_right _ (List.mem_append_right _ (List.mem_append_right _ (List.mem_append_right _ (List.mem_append_right _ (List.mem_append_left _ h)))))))))))))))))))))))))
theorem in_26 : ∀ w ∈ alw_26, w ∈ ALW := fun _ h => List.mem_append_right _ (List.mem_append_right _ (List.mem_append_right _ (List.mem_append_right _ (List.mem_append_right _ (List.mem_append_right _ (List.mem_append_right _ (List.mem_append_right _ (List.mem_append_right _ (List.mem_append_right _ (List.mem_append_right _ (List.mem_append_right _ (List.mem_append_right _ (List.mem_append_right _ (List.mem_append_right _ (List.mem_append_right _ (List.mem_append_right _ (List.mem_append_right _ (List.mem_append_right _ (List.mem_append_right _ (List.mem_append_right _ (List.mem_append_right _ (List.mem_append_right _ (List.mem_append_right _ (List.mem_append_right _ (List.mem_append_right _ (List.mem_append_left _ h))))))))))))))))))))))))))
theorem in_27 : ∀ w ∈ alw_27, w ∈ ALW := fun _ h => List.mem_append_right _ (List.mem_append_right _ (List.mem_append_right _ (List.mem_append_right _ (List.mem_append_right _ (List.mem_append_right _ (List.mem_append_right _ (List.mem_append_right _ (List.mem_append_right _ (List.mem_append_right _ (List.mem_append_right _ (List.mem_append_right _ (List.mem_append_right _ (List.mem_append_right _ (List.mem_append_right _ (List.mem_append_right _ (List.mem_append_right _ (List.mem_append_right _ (List.mem_append_right _ (List.mem_append_right _ (List.mem_append_right _ (List.mem_append_right _ (List.mem_append_right _ (List.mem_append_right _ (List.mem_append_right _ (List.mem_append_right _ (List.mem_append_right _ (List.mem_append_left _ h)))))))))))))))))))))))))))
theorem in_28 : ∀ w ∈ alw_28, w ∈ ALW := fun _ h => List.mem_append_right _ (List.mem_append_right _ (List.mem_append_right _ (List.mem_append_right _ (List.mem_append_right _ (List.mem_append_right _ (List.mem_append_right _ (List.mem_append_right _ (List.mem_append_right _ (List.mem_append_right _ (List.mem_append_right _ (List.mem_append_right _ (List.mem_append_right _ (List.mem_append_right _ (List.mem_append_right _ (List.mem_append_right _ (List.mem_append_right _ (List.mem_append_right _ (List.mem_append_right _ (List.mem_append_right _ (List.mem_append_right _ (List.mem_append_right _ (List.mem_append_right _ (List.mem_append_right _ (List.mem_append_right _ (List.mem_append_right _ (List.mem_append_right _ (List.mem_append_right _ (List.mem_append_left _ h))))))))))))))))))))))))))))
theorem in_29 : ∀ w ∈ alw_29, w ∈ ALW := fun _ h => List.mem_append_right _ (List.mem_append_right _ (List.mem_append_right _ (List.mem_append_right _ (List.mem_append_right _ (List.mem_append_right _ (List.mem_append_right _ (List.mem_append_right _ (List.mem_append_right _ (List.mem_append_right _ (List.mem_append_right _ (List.mem_append_right _ (List.mem_append_right _ (List.mem_append_right _ (List.mem_append_right _ (List.mem_append_right _ (List.mem_append_right _ (List.mem_append_right _ (List.mem_append_right _ (List.mem_append_right _ (List.mem_append_right _ (List.mem_append_right _ (List.mem_append_right _ (List.mem_append_right _ (List.mem_append_right _ (List.mem_append_right _ (List.mem_append_right _ (List.mem_append_right _ (List.mem_append_right _ (List.mem_append_left _ h)))))))))))))))))))))))))))))
theorem in_30 : ∀ w ∈ alw_30, w ∈ ALW := fun _ h => List.mem_append_right _ (List.mem_append_right _ (List.mem_append_right _ (List.mem_append_right _ (List.mem_append_right _ (List.mem_append_right _ (List.mem_append_right _ (List.mem_append_right _ (List.mem_append_right _ (List.mem_append_right _ (List.mem_append_right _ (List.mem_append_right _ (List.mem_append_right _ (List.mem_append_right _ (List.mem_append_right _ (List.mem_append_right _ (List.mem_append_right _ (List.mem_append_right _ (List.mem_append_right _ (List.mem_append_right _ (List.mem_append_right _ (List.mem_append_right _ (List.mem_append_right _ (List.mem_append_right _ (List.mem_append_right _ (List.mem_append_right _ (List.mem_append_right _ (List.mem_append_right _ (List.mem_append_right _ (List.mem_append_right _ (List.mem_append_left _ h))))))))))))))))))))))))))))))
theorem in_31 : ∀ w ∈ alw_31, w ∈ ALW := fun _ h => List.mem_append_right _ (List.mem_append_right _ (List.mem_append_right _ (List.mem_append_right _ (List.mem_append_right _ (List.mem_append_right _ (List.mem_append_right _ (List.mem_append_right _ (List.mem_append_right _ (List.mem_append_right _ (List.mem_append_right _ (List.mem_append_right _ (List.mem_append_right _ (List.mem_append_right _ (List.mem_append_right _ (List.mem_append_right _ (List.mem_append_right _ (List.mem_append_right _ (List.mem_append_right _ (List.mem_append_right _ (List.mem_append_right _ (List.mem_append_right _ (List.mem_append_right _ (List.mem_append_right _ (List.mem_append_right _ (List.mem_append_right _ (List.mem_append_right _ (List.mem_append_right _ (List.mem_append_right _ (List.mem_append_right _ (List.mem_append_right _ (List.mem_append_left _ h)))))))))))))))))))))))))))))))
theorem ui_X0 : ∀ w ∈ wsX00, w ∈ ALW := fun _ h => List.mem_append_right _ (List.mem_append_right _ (List.mem_append_right _ (List.mem_append_right _ (List.mem_append_right _ (List.mem_append_right _ (List.mem_append_right _ (List.mem_append_right _ (List.mem_append_right _ (List.mem_append_right _ (List.mem_append_right _ (List.mem_append_right _ (List.mem_append_right _ (List.mem_append_right _ (List.mem_append_right _ (List.mem_append_right _ (List.mem_append_right _ (List.mem_append_right _ (List.mem_append_right _ (List.mem_append_right _ (List.mem_append_right _ (List.mem_append_right _ (List.mem_append_right _ (List.mem_append_right _ (List.mem_append_right _ (List.mem_append_right _ (List.mem_append_right _ (List.mem_append_right _ (List.mem_append_right _ (List.mem_append_right _ (List.mem_append_right _ (List.mem_append_right _ (List.mem_append_left _ h))))))))))))))))))))))))))))))))
theorem ui_X1 : ∀ w ∈ wsX10, w ∈ ALW := fun _ h => List.mem_append_right _ (List.mem_append_right _ (List.mem_append_right _ (List.mem_append_right _ (List.mem_append_right _ (List.mem_append_right _ (List.mem_append_right _ (List.mem_append_right _ (List.mem_append_right _ (List.mem_append_right _ (List.mem_append_right _ (List.mem_append_right _ (List.mem_append_right _ (List.mem_append_right _ (List.mem_append_right _ (List.mem_append_right _ (List.mem_append_right _ (List.mem_append_right _ (List.mem_append_right _ (List.mem_append_right _ (List.mem_append_right _ (List.mem_append_right _ (List.mem_append_right _ (List.mem_append_right _ (List.mem_append_right _ (List.mem_append_right _ (List.mem_append_right _ (List.mem_append_right _ (List.mem_append_right _ (List.mem_append_right _ (List.mem_append_right _ (List.mem_append_right _ (List.mem_append_right _ (List.mem_append_left _ h)))))))))))))))))))))))))))))))))
theorem ui_X2 : ∀ w ∈ wsX20, w ∈ ALW := fun _ h => List.mem_append_right _ (List.mem_append_right _ (List.mem_append_right _ (List.mem_append_right _ (List.mem_append_right _ (List.mem_append_right _ (List.mem_append_right _ (List.mem_append_right _ (List.mem_append_right _ (List.mem_append_right _ (List.mem_append_right _ (List.mem_append_right _ (List.mem_append_right _ (List.mem_append_right _ (List.mem_append_right _ (List.mem_append_right _ (List.mem_append_right _ (List.mem_append_right _ (List.mem_append_right _ (List.mem_append_right _ (List.mem_append_right _ (List.mem_append_right _ (List.mem_append_right _ (List.mem_append_right _ (List.mem_append_right _ (List.mem_append_right _ (List.mem_append_right _ (List.mem_append_right _ (List.mem_append_right _ (List.mem_append_right _ (List.mem_append_right _ (List.mem_append_right _ (List.mem_append_right _ (List.mem_append_right _ (List.mem_append_left _ h))))))))))))))))))))))))))))))))))
theorem ui_X3 : ∀ w ∈ wsX30, w ∈ ALW := fun _ h => List.mem_append_right _ (List.mem_append_right _ (List.mem_append_right _ (List.mem_append_right _ (List.mem_append_right _ (List.mem_append_right _ (List.mem_append_right _ (List.mem_append_right _ (List.mem_append_right _ (List.mem_append_right _ (List.mem_append_right _ (List.mem_append_right _ (List.mem_append_right _ (List.mem_append_right _ (List.mem_append_right _ (List.mem_append_right _ (List.mem_append_right _ (List.mem_append_right _ (List.mem_append_right _ (List.mem_append_right _ (List.mem_append_right _ (List.mem_append_right _ (List.mem_append_right _ (List.mem_append_right _ (List.mem_append_right _ (List.mem_append_right _ (List.mem_append_right _ (List.mem_append_right _ (List.mem_append_right _ (List.mem_append_right _ (List.mem_append_right _ (List.mem_append_right _ (List.mem_append_right _ (List.mem_append_right _ (List.mem_append_right _ (List.mem_append_left _ h)))))))))))))))))))))))))))))))))))
theorem ui_X4 : ∀ w ∈ wsX40, w ∈ ALW := fun _ h => List.mem_append_right _ (List.mem_append_right _ (List.mem_append_right _ (List.mem_append_right _ (List.mem_append_right _ (List.mem_append_right _ (List.mem_append_right _ (List.mem_append_right _ (List.mem_append_right _ (List.mem_append_right _ (List.mem_append_right _ (List.mem_append_right _ (List.mem_append_right _ (List.mem_append_right _ (List.mem_append_right _ (List.mem_append_right _ (List.mem_append_right _ (List.mem_append_right _ (List.mem_append_right _ (List.mem_append_right _ (List.mem_append_right _ (List.mem_append_right _ (List.mem_append_right _ (List.mem_append_right _ (List.mem_append_right _ (List.mem_append_right _ (List.mem_append_right _ (List.mem_append_right _ (List.mem_append_right _ (List.mem_append_right _ (List.mem_append_right _ (List.mem_append_right _ (List.mem_append_right _ (List.mem_append_right _ (List.mem_append_right _ (List.mem_append_right _ (List.mem_append_left _ h))))))))))))))))))))))))))))))))))))
theorem ui_X5 : ∀ w ∈ wsX50, w ∈ ALW := fun _ h => List.mem_append_right _ (List.mem_append_right _ (List.mem_append_right _ (List.mem_append_right _ (List.mem_append_right _ (List.mem_append_right _ (List.mem_append_right _ (List.mem_append_right _ (List.mem_append_right _ (List.mem_append_right _ (List.mem_append_right _ (List.mem_append_right _ (List.mem_append_right _ (List.mem_append_right _ (List.mem_append_right _ (List.mem_append_right _ (List.mem_append_right _ (List.mem_append_right _ (List.mem_append_right _ (List.mem_append_right _ (List.mem_append_right _ (List.mem_append_right _ (List.mem_append_right _ (List.mem_append_right _ (List.mem_append_right _ (List.mem_append_right _ (List.mem_append_right _ (List.mem_append_right _ (List.mem_append_right _ (List.mem_append_right _ (List.mem_append_right _ (List.mem_append_right _ (List.mem_append_right _ (List.mem_append_right _ (List.mem_append_right _ (List.mem_append_right _ (List.mem_append_right _ (List.mem_append_left _ h)))))))))))))))))))))))))))))))))))))
theorem ui_X6 : ∀ w ∈ wsX60, w ∈ ALW := fun _ h => List.mem_append_right _ (List.mem_append_right _ (List.mem_append_right _ (List.mem_append_right _ (List.mem_append_right _ (List.mem_append_right _ (List.mem_append_right _ (List.mem_append_right _ (List.mem_append_right _ (List.mem_append_right _ (List.mem_append_right _ (List.mem_append_right _ (List.mem_append_right _ (List.mem_append_right _ (List.mem_append_right _ (List.mem_append_right _ (List.mem_append_right _ (List.mem_append_right _ (List.mem_append_right _ (List.mem_append_right _ (List.mem_append_right _ (List.mem_append_right _ (List.mem_append_right _ (List.mem_append_right _ (List.mem_append_right _ (List.mem_append_right _ (List.mem_append_right _ (List.mem_append_right _ (List.mem_append_right _ (List.mem_append_right _ (List.mem_append_right _ (List.mem_append_right _ (List.mem_append_right _ (List.mem_append_right _ (List.mem_append_right _ (List.mem_append_right _ (List.mem_append_right _ (List.mem_append_right _ (List.mem_append_left _ h))))))))))))))))))))))))))))))))))))))
theorem ui_X7 : ∀ w ∈ wsX70, w ∈ ALW := fun _ h => List.mem_append_right _ (List.mem_append_right _ (List.mem_append_right _ (List.mem_append_right _ (List.mem_append_right _ (List.mem_append_right _ (List.mem_append_right _ (List.mem_append_right _ (List.mem_append_right _ (List.mem_append_right _ (List.mem_append_right _ (List.mem_append_right _ (List.mem_append_right _ (List.mem_append_right _ (List.mem_append_right _ (List.mem_append_right _ (List.mem_append_right _ (List.mem_append_right _ (List.mem_append_right _ (List.mem_append_right _ (List.mem_append_right _ (List.mem_append_right _ (List.mem_append_right _ (List.mem_append_right _ (List.mem_append_right _ (List.mem_append_right _ (List.mem_append_right _ (List.mem_append_right _ (List.mem_append_right _ (List.mem_append_right _ (List.mem_append_right _ (List.mem_append_right _ (List.mem_append_right _ (List.mem_append_right _ (List.mem_append_right _ (List.mem_append_right _ (List.mem_append_right _ (List.mem_append_right _ (List.mem_append_right _ (List.mem_append_left _ h)))))))))))))))))))))))))))))))))))))))
theorem ui_X8 : ∀ w ∈ wsX80, w ∈ ALW := fun _ h => List.mem_append_right _ (List.mem_append_right _ (List.mem_append_right _ (List.mem_append_right _ (List.mem_append_right _ (List.mem_append_right _ (List.mem_append_right _ (List.mem_append_right _ (List.mem_append_right _ (List.mem_append_right _ (List.mem_append_right _ (List.mem_append_right _ (List.mem_append_right _ (List.mem_append_right _ (List.mem_append_right _ (List.mem_append_right _ (List.mem_append_right _ (List.mem_append_right _ (List.mem_append_right _ (List.mem_append_right _ (List.mem_append_right _ (List.mem_append_right _ (List.mem_append_right _ (List.mem_append_right _ (List.mem_append_right _ (List.mem_append_right _ (List.mem_append_right _ (List.mem_append_right _ (List.mem_append_right _ (List.mem_append_right _ (List.mem_append_right _ (List.mem_append_right _ (List.mem_append_right _ (List.mem_append_right _ (List.mem_append_right _ (List.mem_append_right _ (List.mem_append_right _ (List.mem_append_right _ (List.mem_append_right _ (List.mem_append_right _ (List.mem_append_left _ h))))))))))))))))))))))))))))))))))))))))
theorem ui_X9 : ∀ w ∈ wsX90, w ∈ ALW := fun _ h => List.mem_append_right _ (List.mem_append_right _ (List.mem_append_right _ (List.mem_append_right _ (List.mem_append_right _ (List.mem_append_right _ (List.mem_append_right _ (List.mem_append_right _ (List.mem_append_right _ (List.mem_append_right _ (List.mem_append_right _ (List.mem_append_right _ (List.mem_append_right _ (List.mem_append_right _ (List.mem_append_right _ (List.mem_append_right _ (List.mem_append_right _ (List.mem_append_right _ (List.mem_append_right _ (List.mem_append_right _ (List.mem_append_right _ (List.mem_append_right _ (List.mem_append_right _ (List.mem_append_right _ (List.mem_append_right _ (List.mem_append_right _ (List.mem_append_right _ (List.mem_append_right _ (List.mem_append_right _ (List.mem_append_right _ (List.mem_append_right _ (List.mem_append_right _ (List.mem_append_right _ (List.mem_append_right _ (List.mem_append_right _ (List.mem_append_right _ (List.mem_append_right _ (List.mem_append_right _ (List.mem_append_right _ (List.mem_append_right _ (List.mem_append_right _ (List.mem_append_left _ h)))))))))))))))))))))))))))))))))))))))))
theorem ui_X10 : ∀ w ∈ wsX100, w ∈ ALW := fun _ h => List.mem_append_right _ (List.mem_append_right _ (List.mem_append_right _ (List.mem_append_right _ (List.mem_append_right _ (List.mem_append_right _ (List.mem_append_right _ (List.mem_append_right _ (List.mem_append_right _ (List.mem_append_right _ (List.mem_append_right _ (List.mem_append_right _ (List.mem_append_right _ (List.mem_append_right _ (List.mem_append_right _ (List.mem_append_right _ (List.mem_append_right _ (List.mem_append_right _ (List.mem_append_right _ (List.mem_append_right _ (List.mem_append_right _ (List.mem_append_right _ (List.mem_append_right _ (List.mem_append_right _ (List.mem_append_right _ (List.mem_append_right _ (List.mem_append_right _ (List.mem_append_right _ (List.mem_append_right _ (List.mem_append_right _ (List.mem_append_right _ (List.mem_append_right _ (List.mem_append_right _ (List.mem_append_right _ (List.mem_append_right _ (List.mem_append_right _ (List.mem_append_right _ (List.mem_append_right _ (List.mem_append_right _ (List.mem_append_right _ (List.mem_append_right _ (List.mem_append_right _ (List.mem_append_left _ h))))))))))))))))))))))))))))))))))))))))))
theorem ui_X11 : ∀ w ∈ wsX110, w ∈ ALW := fun _ h => List.mem_append_right _ (List.mem_append_right _ (List.mem_append_right _ (List.mem_append_right _ (List.mem_append_right _ (List.mem_append_right _ (List.mem_append_right _ (List.mem_append_right _ (List.mem_append_right _ (List.mem_append_right _ (List.mem_append_right _ (List.mem_append_right _ (List.mem_append_right _ (List.mem_append_right _ (List.mem_append_right _ (List.mem_append_right _ (List.mem_append_right _ (List.mem_append_right _ (List.mem_append_right _ (List.mem_append_right _ (List.mem_append_right _ (List.mem_append_right _ (List.mem_append_right _ (List.mem_append_right _ (List.mem_append_right _ (List.mem_append_right _ (List.mem_append_right _ (List.mem_append_right _ (List.mem_append_right _ (List.mem_append_right _ (List.mem_append_right _ (List.mem_append_right _ (List.mem_append_right _ (List.mem_append_right _ (List.mem_append_right _ (List.mem_append_right _ (List.mem_append_right _ (List.mem_append_right _ (List.mem_append_right _ (List.mem_append_right _ (List.mem_append_right _ (List.mem_append_right _ (List.mem_append_right _ (List.mem_append_left _ h)))))))))))))))))))))))))))))))))))))))))))
theorem ui_X12 : ∀ w ∈ wsX120, w ∈ ALW := fun _ h => List.mem_append_right _ (List.mem_append_right _ (List.mem_append_right _ (List.mem_append_right _ (List.mem_append_right _ (List.mem_append_right _ (List.mem_append_right _ (List.mem_append_right _ (List.mem_append_right _ (List.mem_append_right _ (List.mem_append_right _ (List.mem_append_right _ (List.mem_append_right _ (List.mem_append_right _ (List.mem_append_right _ (List.mem_append_right _ (List.mem_append_right _ (List.mem_append_right _ (List.mem_append_right _ (List.mem_append_right _ (List.mem_append_right _ (List.mem_append_right _ (List.mem_append_right _ (List.mem_append_right _ (List.mem_append_right _ (List.mem_append_right _ (List.mem_append_right _ (List.mem_append_right _ (List.mem_append_right _ (List.mem_append_right _ (List.mem_append_right _ (List.mem_append_right _ (List.mem_append_right _ (List.mem_append_right _ (List.mem_append_right _ (List.mem_append_right _ (List.mem_append_right _ (List.mem_append_right _ (List.mem_append_right _ (List.mem_append_right _ (List.mem_append_right _ (List.mem_append_right _ (List.mem_append_right _ (List.mem_append_right _ (List.mem_append_left _ h))))))))))))))))))))))))))))))))))))))))))))
theorem ui_J0 : ∀ w ∈ wsJ00, w ∈ ALW := fun _ h => List.mem_append_right _ (List.mem_append_right _ (List.mem_append_right _ (List.mem_append_right _ (List.mem_append_right _ (List.mem_append_right _ (List.mem_append_right _ (List.mem_append_right _ (List.mem_append_right _ (List.mem_append_right _ (List.mem_append_right _ (List.mem_append_right _ (List.mem_append_right _ (List.mem_append_right _ (List.mem_append_right _ (List.mem_append_right _ (List.mem_append_right _ (List.mem_append_right _ (List.mem_append_right _ (List.mem_append_right _ (List.mem_append_right _ (List.mem_append_right _ (List.mem_append_right _ (List.mem_append_right _ (List.mem_append_right _ (List.mem_append_right _ (List.mem_append_right _ (List.mem_append_right _ (List.mem_append_right _ (List.mem_append_right _ (List.mem_append_right _ (List.mem_append_right _ (List.mem_append_right _ (List.mem_append_right _ (List.mem_append_right _ (List.mem_append_right _ (List.mem_append_right _ (List.mem_append_right _ (List.mem_append_right _ (List.mem_append_right _ (List.mem_append_right _ (List.mem_append_right _ (List.mem_append_right _ (List.mem_append_right _ (List.mem_append_right _ (h)))))))))))))))))))))))))))))))))))))))))))))
theorem alw_good : ∀ w ∈ ALW, ((w.onTables && w.keeps) = true ∨ ∃ ty, w = .arrayClass ty) := by
  intro w hw
  have h : ALW.all goodWord = true := by decide +kernel
  exact good_of_word (List.all_eq_true.mp h w hw)
theorem wq_0 : (Cond.fieldLink RX0 9 "CodeLifter$Blocks" "first" "[I" : Cond) ∈ ALW := in_0 _ (List.mem_of_getElem? (i := 0) rfl)
theorem wq_1 : (Cond.fieldLink RX0 15 "CodeLifter$Blocks" "last" "[I" : Cond) ∈ ALW := in_0 _ (List.mem_of_getElem? (i := 1) rfl)
theorem wq_2 : (Cond.fieldLink RX0 18 "CodeLifter$Blocks" "of" "[I" : Cond) ∈ ALW := in_0 _ (List.mem_of_getElem? (i := 2) rfl)
theorem wq_3 : (Cond.fieldLink RX0 21 "CodeLifter$Blocks" "onward" "[I" : Cond) ∈ ALW := in_0 _ (List.mem_of_getElem? (i := 3) rfl)
theorem wq_4 : (Cond.fieldLink RX0 24 "CodeLifter$Blocks" "otherwise" "[I" : Cond) ∈ ALW := in_0 _ (List.mem_of_getElem? (i := 4) rfl)
theorem wq_5 : (Cond.fieldLink RX0 27 "CodeLifter$Blocks" "catcher" "[I" : Cond) ∈ ALW := in_0 _ (List.mem_of_getElem? (i := 5) rfl)
theorem wq_6 : (Cond.fieldLink RX0 30 "CodeLifter$Blocks" "nexts" "[J" : Cond) ∈ ALW := in_0 _ (List.mem_of_getElem? (i := 6) rfl)
theorem wq_7 : (Cond.fieldLink RX0 34 "CodeLifter$Blocks" "firstEdge" "[I" : Cond) ∈ ALW := in_0 _ (List.mem_of_getElem? (i := 7) rfl)
theorem wq_8 : (Cond.fieldLink RX0 37 "CodeLifter$Blocks" "source" "[I" : Cond) ∈ ALW := in_0 _ (List.mem_of_getElem? (i := 8) rfl)
theorem wq_9 : (Cond.fieldLink RX0 40 "CodeLifter$Blocks" "target" "[I" : Cond) ∈ ALW := in_0 _ (List.mem_of_getElem? (i := 9) rfl)
theorem wq_10 : (Cond.fieldLink RX0 43 "CodeLifter$Blocks" "throwing" "[Z" : Cond) ∈ ALW := in_0 _ (List.mem_of_getElem? (i := 10) rfl)
theorem wq_11 : (Cond.fieldLink RX0 47 "CodeLifter$Blocks" "isCut" "[Z" : Cond) ∈ ALW := in_0 _ (List.mem_of_getElem? (i := 11) rfl)
theorem wq_12 : (Cond.fieldLink RX0 50 "CodeLifter$Blocks" "listing" "LCodeLifter$Listing;" : Cond) ∈ ALW := in_0 _ (List.mem_of_getElem? (i := 12) rfl)
theorem wq_13 : (Cond.code yX3_goesElsewhere cX3_goesElsewhere 2 (some .boolean) : Cond) ∈ ALW := in_0 _ (List.mem_of_getElem? (i := 13) rfl)
theorem wq_14 : (Cond.fieldLink RX3 9 "CodeLifter$Listing" "sign" "[I" : Cond) ∈ ALW := in_0 _ (List.mem_of_getElem? (i := 14) rfl)
theorem wq_15 : (Cond.code yX3_ends cX3_ends 2 (some .boolean) : Cond) ∈ ALW := in_0 _ (List.mem_of_getElem? (i := 15) rfl)
theorem wq_16 : (Cond.code yX0_markCuts cX0_markCuts 2 none : Cond) ∈ ALW := in_0 _ (List.mem_of_getElem? (i := 16) rfl)
theorem wq_17 : (Cond.fieldLink RX0 64 "CodeLifter$Listing" "size" "I" : Cond) ∈ ALW := in_0 _ (List.mem_of_getElem? (i := 17) rfl)
theorem wq_18 : (Cond.fieldLink RX0 67 "CodeLifter$Listing" "depth" "[I" : Cond) ∈ ALW := in_0 _ (List.mem_of_getElem? (i := 18) rfl)
theorem wq_19 : (Cond.fieldLink RX0 91 "CodeLifter$Listing" "number" "[I" : Cond) ∈ ALW := in_0 _ (List.mem_of_getElem? (i := 19) rfl)
theorem wq_20 : (Cond.fieldLink RX0 97 "CodeLifter$Listing" "handlers" "I" : Cond) ∈ ALW := in_0 _ (List.mem_of_getElem? (i := 20) rfl)
theorem wq_21 : (Cond.fieldLink RX0 100 "CodeLifter$Listing" "from" "[I" : Cond) ∈ ALW := in_0 _ (List.mem_of_getElem? (i := 21) rfl)
theorem wq_22 : (Cond.fieldLink RX0 103 "CodeLifter$Listing" "to" "[I" : Cond) ∈ ALW := in_0 _ (List.mem_of_getElem? (i := 22) rfl)
theorem wq_23 : (Cond.fieldLink RX0 106 "CodeLifter$Listing" "goal" "[I" : Cond) ∈ ALW := in_0 _ (List.mem_of_getElem? (i := 23) rfl)
theorem wq_24 : (Cond.methodLink RX0 87 yX3_goesElsewhere : Cond) ∈ ALW := in_0 _ (List.mem_of_getElem? (i := 24) rfl)
theorem wq_25 : (Cond.instanceMethod yX3_goesElsewhere : Cond) ∈ ALW := in_0 _ (List.mem_of_getElem? (i := 25) rfl)
theorem wq_26 : (Cond.selects RX3 yX3_goesElsewhere yX3_goesElsewhere : Cond) ∈ ALW := in_0 _ (List.mem_of_getElem? (i := 26) rfl)
theorem wq_27 : (Cond.initialized RX3 : Cond) ∈ ALW := in_0 _ (List.mem_of_getElem? (i := 27) rfl)
theorem wq_28 : (Cond.methodLink RX0 94 yX3_ends : Cond) ∈ ALW := in_0 _ (List.mem_of_getElem? (i := 28) rfl)
theorem wq_29 : (Cond.instanceMethod yX3_ends : Cond) ∈ ALW := in_0 _ (List.mem_of_getElem? (i := 29) rfl)
theorem wq_30 : (Cond.selects RX3 yX3_ends yX3_ends : Cond) ∈ ALW := in_0 _ (List.mem_of_getElem? (i := 30) rfl)
theorem wq_31 : (Cond.code yX3_goesOn cX3_goesOn 2 (some .boolean) : Cond) ∈ ALW := in_0 _ (List.mem_of_getElem? (i := 31) rfl)
theorem wq_32 : (Cond.methodLink RX3 85 yX3_ends : Cond) ∈ ALW := in_0 _ (List.mem_of_getElem? (i := 32) rfl)
theorem wq_33 : (Cond.code yX11_isIn cX11_isIn 3 (some .boolean) : Cond) ∈ ALW := in_0 _ (List.mem_of_getElem? (i := 33) rfl)
theorem wq_34 : (Cond.code yX0_edgeTo cX0_edgeTo 5 (some .int) : Cond) ∈ ALW := in_0 _ (List.mem_of_getElem? (i := 34) rfl)
theorem wq_35 : (Cond.fieldLink RX0 70 "CodeLifter$Blocks" "edges" "I" : Cond) ∈ ALW := in_0 _ (List.mem_of_getElem? (i := 35) rfl)
theorem wq_36 : (Cond.code yX0_lead cX0_lead 5 none : Cond) ∈ ALW := in_0 _ (List.mem_of_getElem? (i := 36) rfl)
theorem wq_37 : (Cond.static yX11_isIn : Cond) ∈ ALW := in_0 _ (List.mem_of_getElem? (i := 37) rfl)
theorem wq_38 : (Cond.initialized RX11 : Cond) ∈ ALW := in_0 _ (List.mem_of_getElem? (i := 38) rfl)
theorem wq_39 : (Cond.methodLink RX0 129 yX0_edgeTo : Cond) ∈ ALW := in_0 _ (List.mem_of_getElem? (i := 39) rfl)
theorem wq_40 : (Cond.instanceMethod yX0_edgeTo : Cond) ∈ ALW := in_0 _ (List.mem_of_getElem? (i := 40) rfl)
theorem wq_41 : (Cond.selects RX0 yX0_edgeTo yX0_edgeTo : Cond) ∈ ALW := in_0 _ (List.mem_of_getElem? (i := 41) rfl)
theorem wq_42 : (Cond.initialized RX0 : Cond) ∈ ALW := in_0 _ (List.mem_of_getElem? (i := 42) rfl)
theorem wq_43 : (Cond.code yX3_canThrow cX3_canThrow 2 (some .boolean) : Cond) ∈ ALW := in_0 _ (List.mem_of_getElem? (i := 43) rfl)
theorem wq_44 : (Cond.code yX3_handlerOf cX3_handlerOf 3 (some .int) : Cond) ∈ ALW := in_0 _ (List.mem_of_getElem? (i := 44) rfl)
theorem wq_45 : (Cond.fieldLink RX3 34 "CodeLifter$Listing" "handlers" "I" : Cond) ∈ ALW := in_0 _ (List.mem_of_getElem? (i := 45) rfl)
theorem wq_46 : (Cond.fieldLink RX3 21 "CodeLifter$Listing" "from" "[I" : Cond) ∈ ALW := in_0 _ (List.mem_of_getElem? (i := 46) rfl)
theorem wq_47 : (Cond.fieldLink RX3 24 "CodeLifter$Listing" "to" "[I" : Cond) ∈ ALW := in_0 _ (List.mem_of_getElem? (i := 47) rfl)
theorem wq_48 : (Cond.code yX0_catcherOf cX0_catcherOf 4 (some .int) : Cond) ∈ ALW := in_0 _ (List.mem_of_getElem? (i := 48) rfl)
theorem wq_49 : (Cond.methodLink RX0 119 yX3_canThrow : Cond) ∈ ALW := in_0 _ (List.mem_of_getElem? (i := 49) rfl)
theorem wq_50 : (Cond.instanceMethod yX3_canThrow : Cond) ∈ ALW := in_1 _ (List.mem_of_getElem? (i := 0) rfl)
theorem wq_51 : (Cond.selects RX3 yX3_canThrow yX3_canThrow : Cond) ∈ ALW := in_1 _ (List.mem_of_getElem? (i := 1) rfl)
theorem wq_52 : (Cond.methodLink RX0 122 yX3_handlerOf : Cond) ∈ ALW := in_1 _ (List.mem_of_getElem? (i := 2) rfl)
theorem wq_53 : (Cond.instanceMethod yX3_handlerOf : Cond) ∈ ALW := in_1 _ (List.mem_of_getElem? (i := 3) rfl)
theorem wq_54 : (Cond.selects RX3 yX3_handlerOf yX3_handlerOf : Cond) ∈ ALW := in_1 _ (List.mem_of_getElem? (i := 4) rfl)
theorem wq_55 : (Cond.methodLink RX0 109 yX3_goesOn : Cond) ∈ ALW := in_1 _ (List.mem_of_getElem? (i := 5) rfl)
theorem wq_56 : (Cond.instanceMethod yX3_goesOn : Cond) ∈ ALW := in_1 _ (List.mem_of_getElem? (i := 6) rfl)
theorem wq_57 : (Cond.selects RX3 yX3_goesOn yX3_goesOn : Cond) ∈ ALW := in_1 _ (List.mem_of_getElem? (i := 7) rfl)
theorem wq_58 : (Cond.methodLink RX0 112 yX0_lead : Cond) ∈ ALW := in_1 _ (List.mem_of_getElem? (i := 8) rfl)
theorem wq_59 : (Cond.instanceMethod yX0_lead : Cond) ∈ ALW := in_1 _ (List.mem_of_getElem? (i := 9) rfl)
theorem wq_60 : (Cond.selects RX0 yX0_lead yX0_lead : Cond) ∈ ALW := in_1 _ (List.mem_of_getElem? (i := 10) rfl)
theorem wq_61 : (Cond.methodLink RX0 116 yX0_catcherOf : Cond) ∈ ALW := in_1 _ (List.mem_of_getElem? (i := 11) rfl)
theorem wq_62 : (Cond.instanceMethod yX0_catcherOf : Cond) ∈ ALW := in_1 _ (List.mem_of_getElem? (i := 12) rfl)
theorem wq_63 : (Cond.selects RX0 yX0_catcherOf yX0_catcherOf : Cond) ∈ ALW := in_1 _ (List.mem_of_getElem? (i := 13) rfl)
theorem wq_64 : (Cond.code yX0_join cX0_join 4 none : Cond) ∈ ALW := in_1 _ (List.mem_of_getElem? (i := 14) rfl)
theorem wq_65 : (Cond.code yX11_isBinary cX11_isBinary 1 (some .boolean) : Cond) ∈ ALW := in_1 _ (List.mem_of_getElem? (i := 15) rfl)
theorem wq_66 : (Cond.code yX3_needs cX3_needs 1 (some .int) : Cond) ∈ ALW := in_1 _ (List.mem_of_getElem? (i := 16) rfl)
theorem wq_67 : (Cond.static yX11_isBinary : Cond) ∈ ALW := in_1 _ (List.mem_of_getElem? (i := 17) rfl)
theorem wq_68 : (Cond.code yX3_gives cX3_gives 1 (some .int) : Cond) ∈ ALW := in_1 _ (List.mem_of_getElem? (i := 18) rfl)
theorem wq_69 : (Cond.code yX3_depthBehind cX3_depthBehind 2 (some .int) : Cond) ∈ ALW := in_1 _ (List.mem_of_getElem? (i := 19) rfl)
theorem wq_70 : (Cond.fieldLink RX3 18 "CodeLifter$Listing" "depth" "[I" : Cond) ∈ ALW := in_1 _ (List.mem_of_getElem? (i := 20) rfl)
theorem wq_71 : (Cond.methodLink RX3 63 yX3_needs : Cond) ∈ ALW := in_1 _ (List.mem_of_getElem? (i := 21) rfl)
theorem wq_72 : (Cond.static yX3_needs : Cond) ∈ ALW := in_1 _ (List.mem_of_getElem? (i := 22) rfl)
theorem wq_73 : (Cond.methodLink RX3 82 yX3_gives : Cond) ∈ ALW := in_1 _ (List.mem_of_getElem? (i := 23) rfl)
theorem wq_74 : (Cond.static yX3_gives : Cond) ∈ ALW := in_1 _ (List.mem_of_getElem? (i := 24) rfl)
theorem wq_75 : (Cond.fieldLink RX0 57 "CodeLifter$Blocks" "size" "I" : Cond) ∈ ALW := in_1 _ (List.mem_of_getElem? (i := 25) rfl)
theorem wq_76 : (Cond.fieldLink RX0 61 "CodeLifter$Blocks" "names" "I" : Cond) ∈ ALW := in_1 _ (List.mem_of_getElem? (i := 26) rfl)
theorem wq_77 : (Cond.methodLink RX0 81 Lib.Math.max.name : Cond) ∈ ALW := in_1 _ (List.mem_of_getElem? (i := 27) rfl)
theorem wq_78 : (Cond.static Lib.Math.max.name : Cond) ∈ ALW := in_1 _ (List.mem_of_getElem? (i := 28) rfl)
theorem wq_79 : (Cond.initialized "java/lang/Math" : Cond) ∈ ALW := in_1 _ (List.mem_of_getElem? (i := 29) rfl)
theorem wq_80 : (Cond.code Lib.Math.max.name Lib.Math.max.code 2 (some .int) : Cond) ∈ ALW := in_1 _ (List.mem_of_getElem? (i := 30) rfl)
theorem wq_81 : (Cond.methodLink RX0 54 yX0_markCuts : Cond) ∈ ALW := in_1 _ (List.mem_of_getElem? (i := 31) rfl)
theorem wq_82 : (Cond.instanceMethod yX0_markCuts : Cond) ∈ ALW := in_1 _ (List.mem_of_getElem? (i := 32) rfl)
theorem wq_83 : (Cond.selects RX0 yX0_markCuts yX0_markCuts : Cond) ∈ ALW := in_1 _ (List.mem_of_getElem? (i := 33) rfl)
theorem wq_84 : (Cond.methodLink RX0 73 yX0_join : Cond) ∈ ALW := in_1 _ (List.mem_of_getElem? (i := 34) rfl)
theorem wq_85 : (Cond.instanceMethod yX0_join : Cond) ∈ ALW := in_1 _ (List.mem_of_getElem? (i := 35) rfl)
theorem wq_86 : (Cond.selects RX0 yX0_join yX0_join : Cond) ∈ ALW := in_1 _ (List.mem_of_getElem? (i := 36) rfl)
theorem wq_87 : (Cond.methodLink RX0 77 yX3_depthBehind : Cond) ∈ ALW := in_1 _ (List.mem_of_getElem? (i := 37) rfl)
theorem wq_88 : (Cond.instanceMethod yX3_depthBehind : Cond) ∈ ALW := in_1 _ (List.mem_of_getElem? (i := 38) rfl)
theorem wq_89 : (Cond.selects RX3 yX3_depthBehind yX3_depthBehind : Cond) ∈ ALW := in_1 _ (List.mem_of_getElem? (i := 39) rfl)
theorem wq_90 : (Cond.code yX0_cut cX0_cut 3 none : Cond) ∈ ALW := in_1 _ (List.mem_of_getElem? (i := 40) rfl)
theorem wq_91 : (Cond.code yX0_leadingTo cX0_leadingTo 8 (some .long) : Cond) ∈ ALW := in_1 _ (List.mem_of_getElem? (i := 41) rfl)
theorem wq_92 : (Cond.code yX0_way cX0_way 9 (some .int) : Cond) ∈ ALW := in_1 _ (List.mem_of_getElem? (i := 42) rfl)
theorem wq_93 : (Cond.fieldLink RX1 9 "CodeLifter$Lifted" "kind" "[I" : Cond) ∈ ALW := in_1 _ (List.mem_of_getElem? (i := 43) rfl)
theorem wq_94 : (Cond.fieldLink RX1 15 "CodeLifter$Lifted" "which" "[I" : Cond) ∈ ALW := in_1 _ (List.mem_of_getElem? (i := 44) rfl)
theorem wq_95 : (Cond.fieldLink RX1 18 "CodeLifter$Lifted" "expression" "[I" : Cond) ∈ ALW := in_1 _ (List.mem_of_getElem? (i := 45) rfl)
theorem wq_96 : (Cond.fieldLink RX1 21 "CodeLifter$Lifted" "first" "[I" : Cond) ∈ ALW := in_1 _ (List.mem_of_getElem? (i := 46) rfl)
theorem wq_97 : (Cond.fieldLink RX1 24 "CodeLifter$Lifted" "test" "[I" : Cond) ∈ ALW := in_1 _ (List.mem_of_getElem? (i := 47) rfl)
theorem wq_98 : (Cond.fieldLink RX1 27 "CodeLifter$Lifted" "stack" "[I" : Cond) ∈ ALW := in_1 _ (List.mem_of_getElem? (i := 48) rfl)
theorem wq_99 : (Cond.fieldLink RX1 30 "CodeLifter$Lifted" "isTold" "[Z" : Cond) ∈ ALW := in_1 _ (List.mem_of_getElem? (i := 49) rfl)
theorem wq_100 : (Cond.fieldLink RX1 34 "CodeLifter$Lifted" "listing" "LCodeLifter$Listing;" : Cond) ∈ ALW := in_2 _ (List.mem_of_getElem? (i := 0) rfl)
theorem wq_101 : (Cond.fieldLink RX1 38 "CodeLifter$Lifted" "blocks" "LCodeLifter$Blocks;" : Cond) ∈ ALW := in_2 _ (List.mem_of_getElem? (i := 1) rfl)
theorem wq_102 : (Cond.fieldLink RX1 42 "CodeLifter$Lifted" "pool" "LCodeLifter$Pool;" : Cond) ∈ ALW := in_2 _ (List.mem_of_getElem? (i := 2) rfl)
theorem wq_103 : (Cond.code yX7_make cX7_make 5 (some .int) : Cond) ∈ ALW := in_2 _ (List.mem_of_getElem? (i := 3) rfl)
theorem wq_104 : (Cond.fieldLink RX7 27 "CodeLifter$Pool" "size" "I" : Cond) ∈ ALW := in_2 _ (List.mem_of_getElem? (i := 4) rfl)
theorem wq_105 : (Cond.fieldLink RX7 9 "CodeLifter$Pool" "sign" "[I" : Cond) ∈ ALW := in_2 _ (List.mem_of_getElem? (i := 5) rfl)
theorem wq_106 : (Cond.fieldLink RX7 15 "CodeLifter$Pool" "left" "[I" : Cond) ∈ ALW := in_2 _ (List.mem_of_getElem? (i := 6) rfl)
theorem wq_107 : (Cond.fieldLink RX7 18 "CodeLifter$Pool" "right" "[I" : Cond) ∈ ALW := in_2 _ (List.mem_of_getElem? (i := 7) rfl)
theorem wq_108 : (Cond.fieldLink RX7 21 "CodeLifter$Pool" "parts" "[I" : Cond) ∈ ALW := in_2 _ (List.mem_of_getElem? (i := 8) rfl)
theorem wq_109 : (Cond.fieldLink RX7 24 "CodeLifter$Pool" "traits" "[I" : Cond) ∈ ALW := in_2 _ (List.mem_of_getElem? (i := 9) rfl)
theorem wq_110 : (Cond.code yX1_push cX1_push 2 none : Cond) ∈ ALW := in_2 _ (List.mem_of_getElem? (i := 10) rfl)
theorem wq_111 : (Cond.fieldLink RX1 59 "CodeLifter$Lifted" "height" "I" : Cond) ∈ ALW := in_2 _ (List.mem_of_getElem? (i := 11) rfl)
theorem wq_112 : (Cond.code yX1_pop cX1_pop 1 (some .int) : Cond) ∈ ALW := in_2 _ (List.mem_of_getElem? (i := 12) rfl)
theorem wq_113 : (Cond.code yX1_add cX1_add 4 none : Cond) ∈ ALW := in_2 _ (List.mem_of_getElem? (i := 13) rfl)
theorem wq_114 : (Cond.fieldLink RX1 46 "CodeLifter$Lifted" "size" "I" : Cond) ∈ ALW := in_2 _ (List.mem_of_getElem? (i := 14) rfl)
theorem wq_115 : (Cond.code yX1_putAside cX1_putAside 3 (some .int) : Cond) ∈ ALW := in_2 _ (List.mem_of_getElem? (i := 15) rfl)
theorem wq_116 : (Cond.fieldLink RX1 50 "CodeLifter$Lifted" "fresh" "I" : Cond) ∈ ALW := in_2 _ (List.mem_of_getElem? (i := 16) rfl)
theorem wq_117 : (Cond.methodLink RX1 128 yX1_add : Cond) ∈ ALW := in_2 _ (List.mem_of_getElem? (i := 17) rfl)
theorem wq_118 : (Cond.instanceMethod yX1_add : Cond) ∈ ALW := in_2 _ (List.mem_of_getElem? (i := 18) rfl)
theorem wq_119 : (Cond.selects RX1 yX1_add yX1_add : Cond) ∈ ALW := in_2 _ (List.mem_of_getElem? (i := 19) rfl)
theorem wq_120 : (Cond.initialized RX1 : Cond) ∈ ALW := in_2 _ (List.mem_of_getElem? (i := 20) rfl)
theorem wq_121 : (Cond.methodLink RX1 68 yX7_make : Cond) ∈ ALW := in_2 _ (List.mem_of_getElem? (i := 21) rfl)
theorem wq_122 : (Cond.instanceMethod yX7_make : Cond) ∈ ALW := in_2 _ (List.mem_of_getElem? (i := 22) rfl)
theorem wq_123 : (Cond.selects RX7 yX7_make yX7_make : Cond) ∈ ALW := in_2 _ (List.mem_of_getElem? (i := 23) rfl)
theorem wq_124 : (Cond.initialized RX7 : Cond) ∈ ALW := in_2 _ (List.mem_of_getElem? (i := 24) rfl)
theorem wq_125 : (Cond.fieldLink RX1 131 "CodeLifter$Pool" "traits" "[I" : Cond) ∈ ALW := in_2 _ (List.mem_of_getElem? (i := 25) rfl)
theorem wq_126 : (Cond.methodLink RX1 134 yX1_putAside : Cond) ∈ ALW := in_2 _ (List.mem_of_getElem? (i := 26) rfl)
theorem wq_127 : (Cond.instanceMethod yX1_putAside : Cond) ∈ ALW := in_2 _ (List.mem_of_getElem? (i := 27) rfl)
theorem wq_128 : (Cond.selects RX1 yX1_putAside yX1_putAside : Cond) ∈ ALW := in_2 _ (List.mem_of_getElem? (i := 28) rfl)
theorem wq_129 : (Cond.code yX1_spill cX1_spill 3 none : Cond) ∈ ALW := in_2 _ (List.mem_of_getElem? (i := 29) rfl)
theorem wq_130 : (Cond.methodLink RX1 125 yX1_spill : Cond) ∈ ALW := in_2 _ (List.mem_of_getElem? (i := 30) rfl)
theorem wq_131 : (Cond.instanceMethod yX1_spill : Cond) ∈ ALW := in_2 _ (List.mem_of_getElem? (i := 31) rfl)
theorem wq_132 : (Cond.selects RX1 yX1_spill yX1_spill : Cond) ∈ ALW := in_2 _ (List.mem_of_getElem? (i := 32) rfl)
theorem wq_133 : (Cond.code yX1_state cX1_state 5 none : Cond) ∈ ALW := in_2 _ (List.mem_of_getElem? (i := 33) rfl)
theorem wq_134 : (Cond.code yX7_hasEffects cX7_hasEffects 2 (some .boolean) : Cond) ∈ ALW := in_2 _ (List.mem_of_getElem? (i := 34) rfl)
theorem wq_135 : (Cond.methodLink RX1 138 yX7_hasEffects : Cond) ∈ ALW := in_2 _ (List.mem_of_getElem? (i := 35) rfl)
theorem wq_136 : (Cond.instanceMethod yX7_hasEffects : Cond) ∈ ALW := in_2 _ (List.mem_of_getElem? (i := 36) rfl)
theorem wq_137 : (Cond.selects RX7 yX7_hasEffects yX7_hasEffects : Cond) ∈ ALW := in_2 _ (List.mem_of_getElem? (i := 37) rfl)
theorem wq_138 : (Cond.code yX1_drop cX1_drop 2 none : Cond) ∈ ALW := in_2 _ (List.mem_of_getElem? (i := 38) rfl)
theorem wq_139 : (Cond.code yX7_isName cX7_isName 2 (some .boolean) : Cond) ∈ ALW := in_2 _ (List.mem_of_getElem? (i := 39) rfl)
theorem wq_140 : (Cond.fieldLink RX1 141 "CodeLifter$Pool" "sign" "[I" : Cond) ∈ ALW := in_2 _ (List.mem_of_getElem? (i := 40) rfl)
theorem wq_141 : (Cond.methodLink RX1 99 yX1_pop : Cond) ∈ ALW := in_2 _ (List.mem_of_getElem? (i := 41) rfl)
theorem wq_142 : (Cond.instanceMethod yX1_pop : Cond) ∈ ALW := in_2 _ (List.mem_of_getElem? (i := 42) rfl)
theorem wq_143 : (Cond.selects RX1 yX1_pop yX1_pop : Cond) ∈ ALW := in_2 _ (List.mem_of_getElem? (i := 43) rfl)
theorem wq_144 : (Cond.methodLink RX1 142 yX7_isName : Cond) ∈ ALW := in_2 _ (List.mem_of_getElem? (i := 44) rfl)
theorem wq_145 : (Cond.instanceMethod yX7_isName : Cond) ∈ ALW := in_2 _ (List.mem_of_getElem? (i := 45) rfl)
theorem wq_146 : (Cond.selects RX7 yX7_isName yX7_isName : Cond) ∈ ALW := in_2 _ (List.mem_of_getElem? (i := 46) rfl)
theorem wq_147 : (Cond.methodLink RX1 72 yX1_push : Cond) ∈ ALW := in_2 _ (List.mem_of_getElem? (i := 47) rfl)
theorem wq_148 : (Cond.instanceMethod yX1_push : Cond) ∈ ALW := in_2 _ (List.mem_of_getElem? (i := 48) rfl)
theorem wq_149 : (Cond.selects RX1 yX1_push yX1_push : Cond) ∈ ALW := in_2 _ (List.mem_of_getElem? (i := 49) rfl)
theorem wq_150 : (Cond.code yX1_twice cX1_twice 2 none : Cond) ∈ ALW := in_3 _ (List.mem_of_getElem? (i := 0) rfl)
theorem wq_151 : (Cond.code yX1_exchange cX1_exchange 3 none : Cond) ∈ ALW := in_3 _ (List.mem_of_getElem? (i := 1) rfl)
theorem wq_152 : (Cond.code yX3_chooses cX3_chooses 2 (some .boolean) : Cond) ∈ ALW := in_3 _ (List.mem_of_getElem? (i := 2) rfl)
theorem wq_153 : (Cond.fieldLink RX3 15 "CodeLifter$Listing" "number" "[I" : Cond) ∈ ALW := in_3 _ (List.mem_of_getElem? (i := 3) rfl)
theorem wq_154 : (Cond.code yX1_operate cX1_operate 4 none : Cond) ∈ ALW := in_3 _ (List.mem_of_getElem? (i := 4) rfl)
theorem wq_155 : (Cond.fieldLink RX1 93 "CodeLifter$Listing" "sign" "[I" : Cond) ∈ ALW := in_3 _ (List.mem_of_getElem? (i := 5) rfl)
theorem wq_156 : (Cond.fieldLink RX1 96 "CodeLifter$Listing" "number" "[I" : Cond) ∈ ALW := in_3 _ (List.mem_of_getElem? (i := 6) rfl)
theorem wq_157 : (Cond.methodLink RX1 103 yX1_state : Cond) ∈ ALW := in_3 _ (List.mem_of_getElem? (i := 7) rfl)
theorem wq_158 : (Cond.instanceMethod yX1_state : Cond) ∈ ALW := in_3 _ (List.mem_of_getElem? (i := 8) rfl)
theorem wq_159 : (Cond.selects RX1 yX1_state yX1_state : Cond) ∈ ALW := in_3 _ (List.mem_of_getElem? (i := 9) rfl)
theorem wq_160 : (Cond.methodLink RX1 107 yX1_drop : Cond) ∈ ALW := in_3 _ (List.mem_of_getElem? (i := 10) rfl)
theorem wq_161 : (Cond.instanceMethod yX1_drop : Cond) ∈ ALW := in_3 _ (List.mem_of_getElem? (i := 11) rfl)
theorem wq_162 : (Cond.selects RX1 yX1_drop yX1_drop : Cond) ∈ ALW := in_3 _ (List.mem_of_getElem? (i := 12) rfl)
theorem wq_163 : (Cond.methodLink RX1 110 yX1_twice : Cond) ∈ ALW := in_3 _ (List.mem_of_getElem? (i := 13) rfl)
theorem wq_164 : (Cond.instanceMethod yX1_twice : Cond) ∈ ALW := in_3 _ (List.mem_of_getElem? (i := 14) rfl)
theorem wq_165 : (Cond.selects RX1 yX1_twice yX1_twice : Cond) ∈ ALW := in_3 _ (List.mem_of_getElem? (i := 15) rfl)
theorem wq_166 : (Cond.methodLink RX1 113 yX1_exchange : Cond) ∈ ALW := in_3 _ (List.mem_of_getElem? (i := 16) rfl)
theorem wq_167 : (Cond.instanceMethod yX1_exchange : Cond) ∈ ALW := in_3 _ (List.mem_of_getElem? (i := 17) rfl)
theorem wq_168 : (Cond.selects RX1 yX1_exchange yX1_exchange : Cond) ∈ ALW := in_3 _ (List.mem_of_getElem? (i := 18) rfl)
theorem wq_169 : (Cond.methodLink RX1 116 yX3_chooses : Cond) ∈ ALW := in_3 _ (List.mem_of_getElem? (i := 19) rfl)
theorem wq_170 : (Cond.instanceMethod yX3_chooses : Cond) ∈ ALW := in_3 _ (List.mem_of_getElem? (i := 20) rfl)
theorem wq_171 : (Cond.selects RX3 yX3_chooses yX3_chooses : Cond) ∈ ALW := in_3 _ (List.mem_of_getElem? (i := 21) rfl)
theorem wq_172 : (Cond.methodLink RX1 119 yX1_operate : Cond) ∈ ALW := in_3 _ (List.mem_of_getElem? (i := 22) rfl)
theorem wq_173 : (Cond.instanceMethod yX1_operate : Cond) ∈ ALW := in_3 _ (List.mem_of_getElem? (i := 23) rfl)
theorem wq_174 : (Cond.selects RX1 yX1_operate yX1_operate : Cond) ∈ ALW := in_3 _ (List.mem_of_getElem? (i := 24) rfl)
theorem wq_175 : (Cond.code yX1_step cX1_step 5 none : Cond) ∈ ALW := in_3 _ (List.mem_of_getElem? (i := 25) rfl)
theorem wq_176 : (Cond.code yX7_slotBit cX7_slotBit 1 (some .int) : Cond) ∈ ALW := in_3 _ (List.mem_of_getElem? (i := 26) rfl)
theorem wq_177 : (Cond.code yX1_isNeededAbove cX1_isNeededAbove 5 (some .boolean) : Cond) ∈ ALW := in_3 _ (List.mem_of_getElem? (i := 27) rfl)
theorem wq_178 : (Cond.methodLink RX1 152 yX7_slotBit : Cond) ∈ ALW := in_3 _ (List.mem_of_getElem? (i := 28) rfl)
theorem wq_179 : (Cond.static yX7_slotBit : Cond) ∈ ALW := in_3 _ (List.mem_of_getElem? (i := 29) rfl)
theorem wq_180 : (Cond.code yX11_isUnary cX11_isUnary 1 (some .boolean) : Cond) ∈ ALW := in_3 _ (List.mem_of_getElem? (i := 30) rfl)
theorem wq_181 : (Cond.code yX7_replace cX7_replace 7 (some .int) : Cond) ∈ ALW := in_3 _ (List.mem_of_getElem? (i := 31) rfl)
theorem wq_182 : (Cond.methodLink RX7 31 yX7_slotBit : Cond) ∈ ALW := in_3 _ (List.mem_of_getElem? (i := 32) rfl)
theorem wq_183 : (Cond.methodLink RX7 39 yX7_replace : Cond) ∈ ALW := in_3 _ (List.mem_of_getElem? (i := 33) rfl)
theorem wq_184 : (Cond.instanceMethod yX7_replace : Cond) ∈ ALW := in_3 _ (List.mem_of_getElem? (i := 34) rfl)
theorem wq_185 : (Cond.selects RX7 yX7_replace yX7_replace : Cond) ∈ ALW := in_3 _ (List.mem_of_getElem? (i := 35) rfl)
theorem wq_186 : (Cond.methodLink RX7 43 yX7_make : Cond) ∈ ALW := in_3 _ (List.mem_of_getElem? (i := 36) rfl)
theorem wq_187 : (Cond.static yX11_isUnary : Cond) ∈ ALW := in_3 _ (List.mem_of_getElem? (i := 37) rfl)
theorem wq_188 : (Cond.code yX1_replaceAbove cX1_replaceAbove 5 none : Cond) ∈ ALW := in_3 _ (List.mem_of_getElem? (i := 38) rfl)
theorem wq_189 : (Cond.methodLink RX1 145 yX1_isNeededAbove : Cond) ∈ ALW := in_3 _ (List.mem_of_getElem? (i := 39) rfl)
theorem wq_190 : (Cond.instanceMethod yX1_isNeededAbove : Cond) ∈ ALW := in_3 _ (List.mem_of_getElem? (i := 40) rfl)
theorem wq_191 : (Cond.selects RX1 yX1_isNeededAbove yX1_isNeededAbove : Cond) ∈ ALW := in_3 _ (List.mem_of_getElem? (i := 41) rfl)
theorem wq_192 : (Cond.methodLink RX1 149 yX1_replaceAbove : Cond) ∈ ALW := in_3 _ (List.mem_of_getElem? (i := 42) rfl)
theorem wq_193 : (Cond.instanceMethod yX1_replaceAbove : Cond) ∈ ALW := in_3 _ (List.mem_of_getElem? (i := 43) rfl)
theorem wq_194 : (Cond.selects RX1 yX1_replaceAbove yX1_replaceAbove : Cond) ∈ ALW := in_3 _ (List.mem_of_getElem? (i := 44) rfl)
theorem wq_195 : (Cond.code yX1_handOver cX1_handOver 4 none : Cond) ∈ ALW := in_3 _ (List.mem_of_getElem? (i := 45) rfl)
theorem wq_196 : (Cond.code yX1_tellWithin cX1_tellWithin 3 none : Cond) ∈ ALW := in_3 _ (List.mem_of_getElem? (i := 46) rfl)
theorem wq_197 : (Cond.fieldLink RX1 168 "CodeLifter$Pool" "left" "[I" : Cond) ∈ ALW := in_3 _ (List.mem_of_getElem? (i := 47) rfl)
theorem wq_198 : (Cond.fieldLink RX1 171 "CodeLifter$Pool" "right" "[I" : Cond) ∈ ALW := in_3 _ (List.mem_of_getElem? (i := 48) rfl)
theorem wq_199 : (Cond.fieldLink RX1 53 "CodeLifter$Pool" "size" "I" : Cond) ∈ ALW := in_3 _ (List.mem_of_getElem? (i := 49) rfl)
theorem wq_200 : (Cond.fieldLink RX1 56 "CodeLifter$Blocks" "size" "I" : Cond) ∈ ALW := in_4 _ (List.mem_of_getElem? (i := 0) rfl)
theorem wq_201 : (Cond.fieldLink RX1 159 "CodeLifter$Lifted" "unlike" "I" : Cond) ∈ ALW := in_4 _ (List.mem_of_getElem? (i := 1) rfl)
theorem wq_202 : (Cond.methodLink RX1 162 yX1_tellWithin : Cond) ∈ ALW := in_4 _ (List.mem_of_getElem? (i := 2) rfl)
theorem wq_203 : (Cond.instanceMethod yX1_tellWithin : Cond) ∈ ALW := in_4 _ (List.mem_of_getElem? (i := 3) rfl)
theorem wq_204 : (Cond.selects RX1 yX1_tellWithin yX1_tellWithin : Cond) ∈ ALW := in_4 _ (List.mem_of_getElem? (i := 4) rfl)
theorem wq_205 : (Cond.code yX1_countUnlike cX1_countUnlike 2 none : Cond) ∈ ALW := in_4 _ (List.mem_of_getElem? (i := 5) rfl)
theorem wq_206 : (Cond.fieldLink RX1 62 "CodeLifter$Listing" "depth" "[I" : Cond) ∈ ALW := in_4 _ (List.mem_of_getElem? (i := 6) rfl)
theorem wq_207 : (Cond.fieldLink RX1 67 "CodeLifter$Blocks" "first" "[I" : Cond) ∈ ALW := in_4 _ (List.mem_of_getElem? (i := 7) rfl)
theorem wq_208 : (Cond.fieldLink RX1 76 "CodeLifter$Blocks" "last" "[I" : Cond) ∈ ALW := in_4 _ (List.mem_of_getElem? (i := 8) rfl)
theorem wq_209 : (Cond.methodLink RX1 79 yX1_step : Cond) ∈ ALW := in_4 _ (List.mem_of_getElem? (i := 9) rfl)
theorem wq_210 : (Cond.instanceMethod yX1_step : Cond) ∈ ALW := in_4 _ (List.mem_of_getElem? (i := 10) rfl)
theorem wq_211 : (Cond.selects RX1 yX1_step yX1_step : Cond) ∈ ALW := in_4 _ (List.mem_of_getElem? (i := 11) rfl)
theorem wq_212 : (Cond.methodLink RX1 83 yX3_ends : Cond) ∈ ALW := in_4 _ (List.mem_of_getElem? (i := 12) rfl)
theorem wq_213 : (Cond.methodLink RX1 87 yX1_handOver : Cond) ∈ ALW := in_4 _ (List.mem_of_getElem? (i := 13) rfl)
theorem wq_214 : (Cond.instanceMethod yX1_handOver : Cond) ∈ ALW := in_4 _ (List.mem_of_getElem? (i := 14) rfl)
theorem wq_215 : (Cond.selects RX1 yX1_handOver yX1_handOver : Cond) ∈ ALW := in_4 _ (List.mem_of_getElem? (i := 15) rfl)
theorem wq_216 : (Cond.methodLink RX1 90 yX1_countUnlike : Cond) ∈ ALW := in_4 _ (List.mem_of_getElem? (i := 16) rfl)
theorem wq_217 : (Cond.instanceMethod yX1_countUnlike : Cond) ∈ ALW := in_4 _ (List.mem_of_getElem? (i := 17) rfl)
theorem wq_218 : (Cond.selects RX1 yX1_countUnlike yX1_countUnlike : Cond) ∈ ALW := in_4 _ (List.mem_of_getElem? (i := 18) rfl)
theorem wq_219 : (Cond.code yX1_lift cX1_lift 3 none : Cond) ∈ ALW := in_4 _ (List.mem_of_getElem? (i := 19) rfl)
theorem wq_220 : (Cond.code yX1_mostParts cX1_mostParts 3 (some .int) : Cond) ∈ ALW := in_4 _ (List.mem_of_getElem? (i := 20) rfl)
theorem wq_221 : (Cond.fieldLink RX1 174 "CodeLifter$Pool" "parts" "[I" : Cond) ∈ ALW := in_4 _ (List.mem_of_getElem? (i := 21) rfl)
theorem wq_222 : (Cond.methodLink RX1 177 Lib.Math.max.name : Cond) ∈ ALW := in_4 _ (List.mem_of_getElem? (i := 22) rfl)
theorem wq_223 : (Cond.code yX1_fullest cX1_fullest 3 (some .int) : Cond) ∈ ALW := in_4 _ (List.mem_of_getElem? (i := 23) rfl)
theorem wq_224 : (Cond.fieldLink RX2 9 "CodeLifter$Lines" "kind" "[I" : Cond) ∈ ALW := in_4 _ (List.mem_of_getElem? (i := 24) rfl)
theorem wq_225 : (Cond.fieldLink RX2 15 "CodeLifter$Lines" "block" "[I" : Cond) ∈ ALW := in_4 _ (List.mem_of_getElem? (i := 25) rfl)
theorem wq_226 : (Cond.fieldLink RX2 18 "CodeLifter$Lines" "depth" "[I" : Cond) ∈ ALW := in_4 _ (List.mem_of_getElem? (i := 26) rfl)
theorem wq_227 : (Cond.fieldLink RX2 21 "CodeLifter$Lines" "link" "[I" : Cond) ∈ ALW := in_4 _ (List.mem_of_getElem? (i := 27) rfl)
theorem wq_228 : (Cond.fieldLink RX2 24 "CodeLifter$Lines" "label" "[I" : Cond) ∈ ALW := in_4 _ (List.mem_of_getElem? (i := 28) rfl)
theorem wq_229 : (Cond.fieldLink RX2 27 "CodeLifter$Lines" "loopStart" "[I" : Cond) ∈ ALW := in_4 _ (List.mem_of_getElem? (i := 29) rfl)
theorem wq_230 : (Cond.fieldLink RX2 30 "CodeLifter$Lines" "blockEnd" "[I" : Cond) ∈ ALW := in_4 _ (List.mem_of_getElem? (i := 30) rfl)
theorem wq_231 : (Cond.fieldLink RX2 33 "CodeLifter$Lines" "openers" "[I" : Cond) ∈ ALW := in_4 _ (List.mem_of_getElem? (i := 31) rfl)
theorem wq_232 : (Cond.fieldLink RX2 36 "CodeLifter$Lines" "blocks" "LCodeLifter$Blocks;" : Cond) ∈ ALW := in_4 _ (List.mem_of_getElem? (i := 32) rfl)
theorem wq_233 : (Cond.fieldLink RX2 40 "CodeLifter$Lines" "shape" "LCodeLifter$Shape;" : Cond) ∈ ALW := in_4 _ (List.mem_of_getElem? (i := 33) rfl)
theorem wq_234 : (Cond.fieldLink RX2 44 "CodeLifter$Lines" "lifted" "LCodeLifter$Lifted;" : Cond) ∈ ALW := in_4 _ (List.mem_of_getElem? (i := 34) rfl)
theorem wq_235 : (Cond.code yX2_add cX2_add 4 none : Cond) ∈ ALW := in_4 _ (List.mem_of_getElem? (i := 35) rfl)
theorem wq_236 : (Cond.fieldLink RX2 48 "CodeLifter$Lines" "size" "I" : Cond) ∈ ALW := in_4 _ (List.mem_of_getElem? (i := 36) rfl)
theorem wq_237 : (Cond.fieldLink RX2 52 "CodeLifter$Lines" "nest" "I" : Cond) ∈ ALW := in_4 _ (List.mem_of_getElem? (i := 37) rfl)
theorem wq_238 : (Cond.code yX2_openLine cX2_openLine 3 none : Cond) ∈ ALW := in_4 _ (List.mem_of_getElem? (i := 38) rfl)
theorem wq_239 : (Cond.methodLink RX2 107 yX2_add : Cond) ∈ ALW := in_4 _ (List.mem_of_getElem? (i := 39) rfl)
theorem wq_240 : (Cond.instanceMethod yX2_add : Cond) ∈ ALW := in_4 _ (List.mem_of_getElem? (i := 40) rfl)
theorem wq_241 : (Cond.selects RX2 yX2_add yX2_add : Cond) ∈ ALW := in_4 _ (List.mem_of_getElem? (i := 41) rfl)
theorem wq_242 : (Cond.initialized RX2 : Cond) ∈ ALW := in_4 _ (List.mem_of_getElem? (i := 42) rfl)
theorem wq_243 : (Cond.code yX2_isMergeUnder cX2_isMergeUnder 3 (some .boolean) : Cond) ∈ ALW := in_4 _ (List.mem_of_getElem? (i := 43) rfl)
theorem wq_244 : (Cond.fieldLink RX2 101 "CodeLifter$Shape" "merges" "J" : Cond) ∈ ALW := in_4 _ (List.mem_of_getElem? (i := 44) rfl)
theorem wq_245 : (Cond.fieldLink RX2 104 "CodeLifter$Shape" "above" "[I" : Cond) ∈ ALW := in_4 _ (List.mem_of_getElem? (i := 45) rfl)
theorem wq_246 : (Cond.code yX2_tellStatements cX2_tellStatements 4 none : Cond) ∈ ALW := in_4 _ (List.mem_of_getElem? (i := 46) rfl)
theorem wq_247 : (Cond.fieldLink RX2 111 "CodeLifter$Blocks" "catcher" "[I" : Cond) ∈ ALW := in_4 _ (List.mem_of_getElem? (i := 47) rfl)
theorem wq_248 : (Cond.fieldLink RX2 114 "CodeLifter$Lifted" "first" "[I" : Cond) ∈ ALW := in_4 _ (List.mem_of_getElem? (i := 48) rfl)
theorem wq_249 : (Cond.methodLink RX2 78 yX2_openLine : Cond) ∈ ALW := in_4 _ (List.mem_of_getElem? (i := 49) rfl)
theorem wq_250 : (Cond.instanceMethod yX2_openLine : Cond) ∈ ALW := in_5 _ (List.mem_of_getElem? (i := 0) rfl)
theorem wq_251 : (Cond.selects RX2 yX2_openLine yX2_openLine : Cond) ∈ ALW := in_5 _ (List.mem_of_getElem? (i := 1) rfl)
theorem wq_252 : (Cond.code yX2_closeLine cX2_closeLine 2 none : Cond) ∈ ALW := in_5 _ (List.mem_of_getElem? (i := 2) rfl)
theorem wq_253 : (Cond.fieldLink RX2 132 "CodeLifter$Shape" "jump" "[Z" : Cond) ∈ ALW := in_5 _ (List.mem_of_getElem? (i := 3) rfl)
theorem wq_254 : (Cond.fieldLink RX2 136 "CodeLifter$Shape" "back" "[Z" : Cond) ∈ ALW := in_5 _ (List.mem_of_getElem? (i := 4) rfl)
theorem wq_255 : (Cond.methodLink RX2 128 yX0_edgeTo : Cond) ∈ ALW := in_5 _ (List.mem_of_getElem? (i := 5) rfl)
theorem wq_256 : (Cond.methodLink RX2 55 yX2_tell : Cond) ∈ ALW := in_5 _ (List.mem_of_getElem? (i := 6) rfl)
theorem wq_257 : (Cond.instanceMethod yX2_tell : Cond) ∈ ALW := in_5 _ (List.mem_of_getElem? (i := 7) rfl)
theorem wq_258 : (Cond.selects RX2 yX2_tell yX2_tell : Cond) ∈ ALW := in_5 _ (List.mem_of_getElem? (i := 8) rfl)
theorem wq_259 : (Cond.code yX2_tell cX2_tell 5 none : Cond) ∈ ALW := in_5 _ (List.mem_of_getElem? (i := 9) rfl)
theorem wq_260 : (Cond.fieldLink RX2 68 "CodeLifter$Shape" "loops" "J" : Cond) ∈ ALW := in_5 _ (List.mem_of_getElem? (i := 10) rfl)
theorem wq_261 : (Cond.fieldLink RX2 81 "CodeLifter$Blocks" "size" "I" : Cond) ∈ ALW := in_5 _ (List.mem_of_getElem? (i := 11) rfl)
theorem wq_262 : (Cond.fieldLink RX2 84 "CodeLifter$Shape" "order" "[I" : Cond) ∈ ALW := in_5 _ (List.mem_of_getElem? (i := 12) rfl)
theorem wq_263 : (Cond.methodLink RX2 87 yX2_isMergeUnder : Cond) ∈ ALW := in_5 _ (List.mem_of_getElem? (i := 13) rfl)
theorem wq_264 : (Cond.instanceMethod yX2_isMergeUnder : Cond) ∈ ALW := in_5 _ (List.mem_of_getElem? (i := 14) rfl)
theorem wq_265 : (Cond.selects RX2 yX2_isMergeUnder yX2_isMergeUnder : Cond) ∈ ALW := in_5 _ (List.mem_of_getElem? (i := 15) rfl)
theorem wq_266 : (Cond.methodLink RX2 91 yX2_tellStatements : Cond) ∈ ALW := in_5 _ (List.mem_of_getElem? (i := 16) rfl)
theorem wq_267 : (Cond.instanceMethod yX2_tellStatements : Cond) ∈ ALW := in_5 _ (List.mem_of_getElem? (i := 17) rfl)
theorem wq_268 : (Cond.selects RX2 yX2_tellStatements yX2_tellStatements : Cond) ∈ ALW := in_5 _ (List.mem_of_getElem? (i := 18) rfl)
theorem wq_269 : (Cond.methodLink RX2 95 yX2_tellEnd : Cond) ∈ ALW := in_5 _ (List.mem_of_getElem? (i := 19) rfl)
theorem wq_270 : (Cond.instanceMethod yX2_tellEnd : Cond) ∈ ALW := in_5 _ (List.mem_of_getElem? (i := 20) rfl)
theorem wq_271 : (Cond.selects RX2 yX2_tellEnd yX2_tellEnd : Cond) ∈ ALW := in_5 _ (List.mem_of_getElem? (i := 21) rfl)
theorem wq_272 : (Cond.methodLink RX2 98 yX2_closeLine : Cond) ∈ ALW := in_5 _ (List.mem_of_getElem? (i := 22) rfl)
theorem wq_273 : (Cond.instanceMethod yX2_closeLine : Cond) ∈ ALW := in_5 _ (List.mem_of_getElem? (i := 23) rfl)
theorem wq_274 : (Cond.selects RX2 yX2_closeLine yX2_closeLine : Cond) ∈ ALW := in_5 _ (List.mem_of_getElem? (i := 24) rfl)
theorem wq_275 : (Cond.code yX2_tellEnd cX2_tellEnd 4 none : Cond) ∈ ALW := in_5 _ (List.mem_of_getElem? (i := 25) rfl)
theorem wq_276 : (Cond.fieldLink RX2 119 "CodeLifter$Blocks" "otherwise" "[I" : Cond) ∈ ALW := in_5 _ (List.mem_of_getElem? (i := 26) rfl)
theorem wq_277 : (Cond.fieldLink RX2 122 "CodeLifter$Blocks" "onward" "[I" : Cond) ∈ ALW := in_5 _ (List.mem_of_getElem? (i := 27) rfl)
theorem wq_278 : (Cond.methodLink RX2 125 yX2_goOn : Cond) ∈ ALW := in_5 _ (List.mem_of_getElem? (i := 28) rfl)
theorem wq_279 : (Cond.instanceMethod yX2_goOn : Cond) ∈ ALW := in_5 _ (List.mem_of_getElem? (i := 29) rfl)
theorem wq_280 : (Cond.selects RX2 yX2_goOn yX2_goOn : Cond) ∈ ALW := in_5 _ (List.mem_of_getElem? (i := 30) rfl)
theorem wq_281 : (Cond.code yX2_goOn cX2_goOn 5 none : Cond) ∈ ALW := in_5 _ (List.mem_of_getElem? (i := 31) rfl)
theorem wq_282 : (Cond.code yX2_mark cX2_mark 2 none : Cond) ∈ ALW := in_5 _ (List.mem_of_getElem? (i := 32) rfl)
theorem wq_283 : (Cond.code yX2_match cX2_match 3 none : Cond) ∈ ALW := in_5 _ (List.mem_of_getElem? (i := 33) rfl)
theorem wq_284 : (Cond.methodLink RX2 139 yX2_mark : Cond) ∈ ALW := in_5 _ (List.mem_of_getElem? (i := 34) rfl)
theorem wq_285 : (Cond.instanceMethod yX2_mark : Cond) ∈ ALW := in_5 _ (List.mem_of_getElem? (i := 35) rfl)
theorem wq_286 : (Cond.selects RX2 yX2_mark yX2_mark : Cond) ∈ ALW := in_5 _ (List.mem_of_getElem? (i := 36) rfl)
theorem wq_287 : (Cond.code yX2_endsAnyway cX2_endsAnyway 4 (some .boolean) : Cond) ∈ ALW := in_5 _ (List.mem_of_getElem? (i := 37) rfl)
theorem wq_288 : (Cond.code yX2_leaveOut cX2_leaveOut 2 none : Cond) ∈ ALW := in_5 _ (List.mem_of_getElem? (i := 38) rfl)
theorem wq_289 : (Cond.methodLink RX2 142 yX2_endsAnyway : Cond) ∈ ALW := in_5 _ (List.mem_of_getElem? (i := 39) rfl)
theorem wq_290 : (Cond.instanceMethod yX2_endsAnyway : Cond) ∈ ALW := in_5 _ (List.mem_of_getElem? (i := 40) rfl)
theorem wq_291 : (Cond.selects RX2 yX2_endsAnyway yX2_endsAnyway : Cond) ∈ ALW := in_5 _ (List.mem_of_getElem? (i := 41) rfl)
theorem wq_292 : (Cond.code yX2_close cX2_close 3 none : Cond) ∈ ALW := in_5 _ (List.mem_of_getElem? (i := 42) rfl)
theorem wq_293 : (Cond.methodLink RX2 59 yX2_match : Cond) ∈ ALW := in_5 _ (List.mem_of_getElem? (i := 43) rfl)
theorem wq_294 : (Cond.instanceMethod yX2_match : Cond) ∈ ALW := in_5 _ (List.mem_of_getElem? (i := 44) rfl)
theorem wq_295 : (Cond.selects RX2 yX2_match yX2_match : Cond) ∈ ALW := in_5 _ (List.mem_of_getElem? (i := 45) rfl)
theorem wq_296 : (Cond.methodLink RX2 62 yX2_leaveOut : Cond) ∈ ALW := in_5 _ (List.mem_of_getElem? (i := 46) rfl)
theorem wq_297 : (Cond.instanceMethod yX2_leaveOut : Cond) ∈ ALW := in_5 _ (List.mem_of_getElem? (i := 47) rfl)
theorem wq_298 : (Cond.selects RX2 yX2_leaveOut yX2_leaveOut : Cond) ∈ ALW := in_5 _ (List.mem_of_getElem? (i := 48) rfl)
theorem wq_299 : (Cond.methodLink RX2 65 yX2_close : Cond) ∈ ALW := in_5 _ (List.mem_of_getElem? (i := 49) rfl)
theorem wq_300 : (Cond.instanceMethod yX2_close : Cond) ∈ ALW := in_6 _ (List.mem_of_getElem? (i := 0) rfl)
theorem wq_301 : (Cond.selects RX2 yX2_close yX2_close : Cond) ∈ ALW := in_6 _ (List.mem_of_getElem? (i := 1) rfl)
theorem wq_302 : (Cond.code yX2_tellAll cX2_tellAll 1 none : Cond) ∈ ALW := in_6 _ (List.mem_of_getElem? (i := 2) rfl)
theorem wq_303 : (Cond.code yX2_whereCaught cX2_whereCaught 4 (some .int) : Cond) ∈ ALW := in_6 _ (List.mem_of_getElem? (i := 3) rfl)
theorem wq_304 : (Cond.code yX2_deepest cX2_deepest 3 (some .int) : Cond) ∈ ALW := in_6 _ (List.mem_of_getElem? (i := 4) rfl)
theorem wq_305 : (Cond.methodLink RX2 146 Lib.Math.max.name : Cond) ∈ ALW := in_6 _ (List.mem_of_getElem? (i := 5) rfl)
theorem wq_306 : (Cond.code yX2_ofKind cX2_ofKind 4 (some .int) : Cond) ∈ ALW := in_6 _ (List.mem_of_getElem? (i := 6) rfl)
theorem wq_307 : (Cond.fieldLink RX3 27 "CodeLifter$Listing" "goal" "[I" : Cond) ∈ ALW := in_6 _ (List.mem_of_getElem? (i := 7) rfl)
theorem wq_308 : (Cond.code yX3_copy cX3_copy 2 none : Cond) ∈ ALW := in_6 _ (List.mem_of_getElem? (i := 8) rfl)
theorem wq_309 : (Cond.fieldLink RX3 30 "CodeLifter$Listing" "size" "I" : Cond) ∈ ALW := in_6 _ (List.mem_of_getElem? (i := 9) rfl)
theorem wq_310 : (Cond.methodLink RX3 37 arraycopyName : Cond) ∈ ALW := in_6 _ (List.mem_of_getElem? (i := 10) rfl)
theorem wq_311 : (Cond.native arraycopyName : Cond) ∈ ALW := in_6 _ (List.mem_of_getElem? (i := 11) rfl)
theorem wq_312 : (Cond.static arraycopyName : Cond) ∈ ALW := in_6 _ (List.mem_of_getElem? (i := 12) rfl)
theorem wq_313 : (Cond.initialized "java/lang/System" : Cond) ∈ ALW := in_6 _ (List.mem_of_getElem? (i := 13) rfl)
theorem wq_314 : (Cond.code yX3_leadsInside cX3_leadsInside 2 (some .boolean) : Cond) ∈ ALW := in_6 _ (List.mem_of_getElem? (i := 14) rfl)
theorem wq_315 : (Cond.methodLink RX3 55 yX3_goesElsewhere : Cond) ∈ ALW := in_6 _ (List.mem_of_getElem? (i := 15) rfl)
theorem wq_316 : (Cond.code yX3_lowestOpen cX3_lowestOpen 4 (some .int) : Cond) ∈ ALW := in_6 _ (List.mem_of_getElem? (i := 16) rfl)
theorem wq_317 : (Cond.code yX3_arrive cX3_arrive 3 (some .boolean) : Cond) ∈ ALW := in_6 _ (List.mem_of_getElem? (i := 17) rfl)
theorem wq_318 : (Cond.methodLink RX3 66 yX3_depthBehind : Cond) ∈ ALW := in_6 _ (List.mem_of_getElem? (i := 18) rfl)
theorem wq_319 : (Cond.methodLink RX3 69 yX3_goesOn : Cond) ∈ ALW := in_6 _ (List.mem_of_getElem? (i := 19) rfl)
theorem wq_320 : (Cond.methodLink RX3 72 yX3_arrive : Cond) ∈ ALW := in_6 _ (List.mem_of_getElem? (i := 20) rfl)
theorem wq_321 : (Cond.instanceMethod yX3_arrive : Cond) ∈ ALW := in_6 _ (List.mem_of_getElem? (i := 21) rfl)
theorem wq_322 : (Cond.selects RX3 yX3_arrive yX3_arrive : Cond) ∈ ALW := in_6 _ (List.mem_of_getElem? (i := 22) rfl)
theorem wq_323 : (Cond.methodLink RX3 76 yX3_canThrow : Cond) ∈ ALW := in_6 _ (List.mem_of_getElem? (i := 23) rfl)
theorem wq_324 : (Cond.methodLink RX3 79 yX3_handlerOf : Cond) ∈ ALW := in_6 _ (List.mem_of_getElem? (i := 24) rfl)
theorem wq_325 : (Cond.code yX3_goOver cX3_goOver 4 (some .int) : Cond) ∈ ALW := in_6 _ (List.mem_of_getElem? (i := 25) rfl)
theorem wq_326 : (Cond.methodLink RX3 43 yX3_leadsInside : Cond) ∈ ALW := in_6 _ (List.mem_of_getElem? (i := 26) rfl)
theorem wq_327 : (Cond.instanceMethod yX3_leadsInside : Cond) ∈ ALW := in_6 _ (List.mem_of_getElem? (i := 27) rfl)
theorem wq_328 : (Cond.selects RX3 yX3_leadsInside yX3_leadsInside : Cond) ∈ ALW := in_6 _ (List.mem_of_getElem? (i := 28) rfl)
theorem wq_329 : (Cond.methodLink RX3 47 yX3_lowestOpen : Cond) ∈ ALW := in_6 _ (List.mem_of_getElem? (i := 29) rfl)
theorem wq_330 : (Cond.instanceMethod yX3_lowestOpen : Cond) ∈ ALW := in_6 _ (List.mem_of_getElem? (i := 30) rfl)
theorem wq_331 : (Cond.selects RX3 yX3_lowestOpen yX3_lowestOpen : Cond) ∈ ALW := in_6 _ (List.mem_of_getElem? (i := 31) rfl)
theorem wq_332 : (Cond.methodLink RX3 51 yX3_goOver : Cond) ∈ ALW := in_6 _ (List.mem_of_getElem? (i := 32) rfl)
theorem wq_333 : (Cond.instanceMethod yX3_goOver : Cond) ∈ ALW := in_6 _ (List.mem_of_getElem? (i := 33) rfl)
theorem wq_334 : (Cond.selects RX3 yX3_goOver yX3_goOver : Cond) ∈ ALW := in_6 _ (List.mem_of_getElem? (i := 34) rfl)
theorem wq_335 : (Cond.code yX3_judge cX3_judge 6 (some .int) : Cond) ∈ ALW := in_6 _ (List.mem_of_getElem? (i := 35) rfl)
theorem wq_336 : (Cond.code yX3_highest cX3_highest 3 (some .int) : Cond) ∈ ALW := in_6 _ (List.mem_of_getElem? (i := 36) rfl)
theorem wq_337 : (Cond.methodLink RX3 88 Lib.Math.max.name : Cond) ∈ ALW := in_6 _ (List.mem_of_getElem? (i := 37) rfl)
theorem wq_338 : (Cond.fieldLink RX4 9 "CodeLifter$Liveness" "begin" "[I" : Cond) ∈ ALW := in_6 _ (List.mem_of_getElem? (i := 38) rfl)
theorem wq_339 : (Cond.fieldLink RX4 15 "CodeLifter$Liveness" "behind" "[I" : Cond) ∈ ALW := in_6 _ (List.mem_of_getElem? (i := 39) rfl)
theorem wq_340 : (Cond.fieldLink RX4 18 "CodeLifter$Liveness" "listing" "LCodeLifter$Listing;" : Cond) ∈ ALW := in_6 _ (List.mem_of_getElem? (i := 40) rfl)
theorem wq_341 : (Cond.fieldLink RX4 22 "CodeLifter$Liveness" "blocks" "LCodeLifter$Blocks;" : Cond) ∈ ALW := in_6 _ (List.mem_of_getElem? (i := 41) rfl)
theorem wq_342 : (Cond.code yX4_flowThrough cX4_flowThrough 6 none : Cond) ∈ ALW := in_6 _ (List.mem_of_getElem? (i := 42) rfl)
theorem wq_343 : (Cond.fieldLink RX4 41 "CodeLifter$Blocks" "firstEdge" "[I" : Cond) ∈ ALW := in_6 _ (List.mem_of_getElem? (i := 43) rfl)
theorem wq_344 : (Cond.fieldLink RX4 44 "CodeLifter$Blocks" "target" "[I" : Cond) ∈ ALW := in_6 _ (List.mem_of_getElem? (i := 44) rfl)
theorem wq_345 : (Cond.fieldLink RX4 47 "CodeLifter$Blocks" "catcher" "[I" : Cond) ∈ ALW := in_6 _ (List.mem_of_getElem? (i := 45) rfl)
theorem wq_346 : (Cond.fieldLink RX4 50 "CodeLifter$Blocks" "last" "[I" : Cond) ∈ ALW := in_6 _ (List.mem_of_getElem? (i := 46) rfl)
theorem wq_347 : (Cond.fieldLink RX4 53 "CodeLifter$Blocks" "first" "[I" : Cond) ∈ ALW := in_6 _ (List.mem_of_getElem? (i := 47) rfl)
theorem wq_348 : (Cond.fieldLink RX4 56 "CodeLifter$Listing" "number" "[I" : Cond) ∈ ALW := in_6 _ (List.mem_of_getElem? (i := 48) rfl)
theorem wq_349 : (Cond.fieldLink RX4 61 "CodeLifter$Listing" "sign" "[I" : Cond) ∈ ALW := in_6 _ (List.mem_of_getElem? (i := 49) rfl)
theorem wq_350 : (Cond.fieldLink RX4 33 "CodeLifter$Liveness" "dead" "J" : Cond) ∈ ALW := in_7 _ (List.mem_of_getElem? (i := 0) rfl)
theorem wq_351 : (Cond.code yX4_flow cX4_flow 5 none : Cond) ∈ ALW := in_7 _ (List.mem_of_getElem? (i := 1) rfl)
theorem wq_352 : (Cond.fieldLink RX4 26 "CodeLifter$Blocks" "size" "I" : Cond) ∈ ALW := in_7 _ (List.mem_of_getElem? (i := 2) rfl)
theorem wq_353 : (Cond.constant RX4 32 (1000000) : Cond) ∈ ALW := in_7 _ (List.mem_of_getElem? (i := 3) rfl)
theorem wq_354 : (Cond.methodLink RX4 37 yX4_flowThrough : Cond) ∈ ALW := in_7 _ (List.mem_of_getElem? (i := 4) rfl)
theorem wq_355 : (Cond.instanceMethod yX4_flowThrough : Cond) ∈ ALW := in_7 _ (List.mem_of_getElem? (i := 5) rfl)
theorem wq_356 : (Cond.selects RX4 yX4_flowThrough yX4_flowThrough : Cond) ∈ ALW := in_7 _ (List.mem_of_getElem? (i := 6) rfl)
theorem wq_357 : (Cond.initialized RX4 : Cond) ∈ ALW := in_7 _ (List.mem_of_getElem? (i := 7) rfl)
theorem wq_358 : (Cond.fieldLink RX5 9 "CodeLifter$Machine" "variable" "[I" : Cond) ∈ ALW := in_7 _ (List.mem_of_getElem? (i := 8) rfl)
theorem wq_359 : (Cond.fieldLink RX5 15 "CodeLifter$Machine" "slot" "[I" : Cond) ∈ ALW := in_7 _ (List.mem_of_getElem? (i := 9) rfl)
theorem wq_360 : (Cond.fieldLink RX5 18 "CodeLifter$Machine" "fresh" "[I" : Cond) ∈ ALW := in_7 _ (List.mem_of_getElem? (i := 10) rfl)
theorem wq_361 : (Cond.fieldLink RX5 21 "CodeLifter$Machine" "listing" "LCodeLifter$Listing;" : Cond) ∈ ALW := in_7 _ (List.mem_of_getElem? (i := 11) rfl)
theorem wq_362 : (Cond.fieldLink RX5 25 "CodeLifter$Machine" "blocks" "LCodeLifter$Blocks;" : Cond) ∈ ALW := in_7 _ (List.mem_of_getElem? (i := 12) rfl)
theorem wq_363 : (Cond.fieldLink RX5 29 "CodeLifter$Machine" "pool" "LCodeLifter$Pool;" : Cond) ∈ ALW := in_7 _ (List.mem_of_getElem? (i := 13) rfl)
theorem wq_364 : (Cond.fieldLink RX5 33 "CodeLifter$Machine" "lifted" "LCodeLifter$Lifted;" : Cond) ∈ ALW := in_7 _ (List.mem_of_getElem? (i := 14) rfl)
theorem wq_365 : (Cond.fieldLink RX5 37 "CodeLifter$Machine" "lines" "LCodeLifter$Lines;" : Cond) ∈ ALW := in_7 _ (List.mem_of_getElem? (i := 15) rfl)
theorem wq_366 : (Cond.code yX5_begin cX5_begin 7 none : Cond) ∈ ALW := in_7 _ (List.mem_of_getElem? (i := 16) rfl)
theorem wq_367 : (Cond.fieldLink RX5 41 "CodeLifter$Machine" "seed" "I" : Cond) ∈ ALW := in_7 _ (List.mem_of_getElem? (i := 17) rfl)
theorem wq_368 : (Cond.fieldLink RX5 45 "CodeLifter$Machine" "limit" "I" : Cond) ∈ ALW := in_7 _ (List.mem_of_getElem? (i := 18) rfl)
theorem wq_369 : (Cond.fieldLink RX5 48 "CodeLifter$Machine" "asked" "I" : Cond) ∈ ALW := in_7 _ (List.mem_of_getElem? (i := 19) rfl)
theorem wq_370 : (Cond.fieldLink RX5 51 "CodeLifter$Machine" "height" "I" : Cond) ∈ ALW := in_7 _ (List.mem_of_getElem? (i := 20) rfl)
theorem wq_371 : (Cond.fieldLink RX5 54 "CodeLifter$Machine" "isThrown" "Z" : Cond) ∈ ALW := in_7 _ (List.mem_of_getElem? (i := 21) rfl)
theorem wq_372 : (Cond.fieldLink RX5 58 "CodeLifter$Machine" "thrown" "I" : Cond) ∈ ALW := in_7 _ (List.mem_of_getElem? (i := 22) rfl)
theorem wq_373 : (Cond.fieldLink RX5 61 "CodeLifter$Machine" "ending" "I" : Cond) ∈ ALW := in_7 _ (List.mem_of_getElem? (i := 23) rfl)
theorem wq_374 : (Cond.fieldLink RX5 64 "CodeLifter$Machine" "entered" "I" : Cond) ∈ ALW := in_7 _ (List.mem_of_getElem? (i := 24) rfl)
theorem wq_375 : (Cond.fieldLink RX5 67 "CodeLifter$Machine" "inputs" "I" : Cond) ∈ ALW := in_7 _ (List.mem_of_getElem? (i := 25) rfl)
theorem wq_376 : (Cond.fieldLink RX5 70 "CodeLifter$Machine" "outputs" "I" : Cond) ∈ ALW := in_7 _ (List.mem_of_getElem? (i := 26) rfl)
theorem wq_377 : (Cond.fieldLink RX5 73 "CodeLifter$Machine" "told" "I" : Cond) ∈ ALW := in_7 _ (List.mem_of_getElem? (i := 27) rfl)
theorem wq_378 : (Cond.fieldLink RX5 76 "CodeLifter$Machine" "wanted" "I" : Cond) ∈ ALW := in_7 _ (List.mem_of_getElem? (i := 28) rfl)
theorem wq_379 : (Cond.code yX5_enter cX5_enter 1 (some .boolean) : Cond) ∈ ALW := in_7 _ (List.mem_of_getElem? (i := 29) rfl)
theorem wq_380 : (Cond.code yX5_push cX5_push 2 none : Cond) ∈ ALW := in_7 _ (List.mem_of_getElem? (i := 30) rfl)
theorem wq_381 : (Cond.code yX5_pop cX5_pop 1 (some .int) : Cond) ∈ ALW := in_7 _ (List.mem_of_getElem? (i := 31) rfl)
theorem wq_382 : (Cond.code yX5_draw cX5_draw 1 (some .int) : Cond) ∈ ALW := in_7 _ (List.mem_of_getElem? (i := 32) rfl)
theorem wq_383 : (Cond.constant RX5 212 (1103515245) : Cond) ∈ ALW := in_7 _ (List.mem_of_getElem? (i := 33) rfl)
theorem wq_384 : (Cond.code yX5_tellOut cX5_tellOut 2 none : Cond) ∈ ALW := in_7 _ (List.mem_of_getElem? (i := 34) rfl)
theorem wq_385 : (Cond.code yX5_shuffle cX5_shuffle 4 none : Cond) ∈ ALW := in_7 _ (List.mem_of_getElem? (i := 35) rfl)
theorem wq_386 : (Cond.methodLink RX5 108 yX5_pop : Cond) ∈ ALW := in_7 _ (List.mem_of_getElem? (i := 36) rfl)
theorem wq_387 : (Cond.instanceMethod yX5_pop : Cond) ∈ ALW := in_7 _ (List.mem_of_getElem? (i := 37) rfl)
theorem wq_388 : (Cond.selects RX5 yX5_pop yX5_pop : Cond) ∈ ALW := in_7 _ (List.mem_of_getElem? (i := 38) rfl)
theorem wq_389 : (Cond.initialized RX5 : Cond) ∈ ALW := in_7 _ (List.mem_of_getElem? (i := 39) rfl)
theorem wq_390 : (Cond.methodLink RX5 104 yX5_push : Cond) ∈ ALW := in_7 _ (List.mem_of_getElem? (i := 40) rfl)
theorem wq_391 : (Cond.instanceMethod yX5_push : Cond) ∈ ALW := in_7 _ (List.mem_of_getElem? (i := 41) rfl)
theorem wq_392 : (Cond.selects RX5 yX5_push yX5_push : Cond) ∈ ALW := in_7 _ (List.mem_of_getElem? (i := 42) rfl)
theorem wq_393 : (Cond.code yX5_throwOut cX5_throwOut 2 none : Cond) ∈ ALW := in_7 _ (List.mem_of_getElem? (i := 43) rfl)
theorem wq_394 : (Cond.code yX5_throwFrom cX5_throwFrom 4 (some .int) : Cond) ∈ ALW := in_7 _ (List.mem_of_getElem? (i := 44) rfl)
theorem wq_395 : (Cond.fieldLink RX5 149 "CodeLifter$Listing" "goal" "[I" : Cond) ∈ ALW := in_7 _ (List.mem_of_getElem? (i := 45) rfl)
theorem wq_396 : (Cond.methodLink RX5 143 yX3_handlerOf : Cond) ∈ ALW := in_7 _ (List.mem_of_getElem? (i := 46) rfl)
theorem wq_397 : (Cond.methodLink RX5 146 yX5_throwOut : Cond) ∈ ALW := in_7 _ (List.mem_of_getElem? (i := 47) rfl)
theorem wq_398 : (Cond.instanceMethod yX5_throwOut : Cond) ∈ ALW := in_7 _ (List.mem_of_getElem? (i := 48) rfl)
theorem wq_399 : (Cond.selects RX5 yX5_throwOut yX5_throwOut : Cond) ∈ ALW := in_7 _ (List.mem_of_getElem? (i := 49) rfl)
theorem wq_400 : (Cond.code yX11_dividesByZero cX11_dividesByZero 2 (some .boolean) : Cond) ∈ ALW := in_8 _ (List.mem_of_getElem? (i := 0) rfl)
theorem wq_401 : (Cond.code yX11_outcome cX11_outcome 3 (some .int) : Cond) ∈ ALW := in_8 _ (List.mem_of_getElem? (i := 1) rfl)
theorem wq_402 : (Cond.code yX5_operate cX5_operate 4 none : Cond) ∈ ALW := in_8 _ (List.mem_of_getElem? (i := 2) rfl)
theorem wq_403 : (Cond.static yX11_dividesByZero : Cond) ∈ ALW := in_8 _ (List.mem_of_getElem? (i := 3) rfl)
theorem wq_404 : (Cond.static yX11_outcome : Cond) ∈ ALW := in_8 _ (List.mem_of_getElem? (i := 4) rfl)
theorem wq_405 : (Cond.fieldLink RX5 96 "CodeLifter$Listing" "sign" "[I" : Cond) ∈ ALW := in_8 _ (List.mem_of_getElem? (i := 5) rfl)
theorem wq_406 : (Cond.fieldLink RX5 101 "CodeLifter$Listing" "number" "[I" : Cond) ∈ ALW := in_8 _ (List.mem_of_getElem? (i := 6) rfl)
theorem wq_407 : (Cond.fieldLink RX5 128 "CodeLifter$Listing" "size" "I" : Cond) ∈ ALW := in_8 _ (List.mem_of_getElem? (i := 7) rfl)
theorem wq_408 : (Cond.methodLink RX5 112 yX5_draw : Cond) ∈ ALW := in_8 _ (List.mem_of_getElem? (i := 8) rfl)
theorem wq_409 : (Cond.instanceMethod yX5_draw : Cond) ∈ ALW := in_8 _ (List.mem_of_getElem? (i := 9) rfl)
theorem wq_410 : (Cond.selects RX5 yX5_draw yX5_draw : Cond) ∈ ALW := in_8 _ (List.mem_of_getElem? (i := 10) rfl)
theorem wq_411 : (Cond.methodLink RX5 115 yX5_tellOut : Cond) ∈ ALW := in_8 _ (List.mem_of_getElem? (i := 11) rfl)
theorem wq_412 : (Cond.instanceMethod yX5_tellOut : Cond) ∈ ALW := in_8 _ (List.mem_of_getElem? (i := 12) rfl)
theorem wq_413 : (Cond.selects RX5 yX5_tellOut yX5_tellOut : Cond) ∈ ALW := in_8 _ (List.mem_of_getElem? (i := 13) rfl)
theorem wq_414 : (Cond.methodLink RX5 118 yX5_shuffle : Cond) ∈ ALW := in_8 _ (List.mem_of_getElem? (i := 14) rfl)
theorem wq_415 : (Cond.instanceMethod yX5_shuffle : Cond) ∈ ALW := in_8 _ (List.mem_of_getElem? (i := 15) rfl)
theorem wq_416 : (Cond.selects RX5 yX5_shuffle yX5_shuffle : Cond) ∈ ALW := in_8 _ (List.mem_of_getElem? (i := 16) rfl)
theorem wq_417 : (Cond.methodLink RX5 121 yX5_throwFrom : Cond) ∈ ALW := in_8 _ (List.mem_of_getElem? (i := 17) rfl)
theorem wq_418 : (Cond.instanceMethod yX5_throwFrom : Cond) ∈ ALW := in_8 _ (List.mem_of_getElem? (i := 18) rfl)
theorem wq_419 : (Cond.selects RX5 yX5_throwFrom yX5_throwFrom : Cond) ∈ ALW := in_8 _ (List.mem_of_getElem? (i := 19) rfl)
theorem wq_420 : (Cond.methodLink RX5 125 yX5_operate : Cond) ∈ ALW := in_8 _ (List.mem_of_getElem? (i := 20) rfl)
theorem wq_421 : (Cond.instanceMethod yX5_operate : Cond) ∈ ALW := in_8 _ (List.mem_of_getElem? (i := 21) rfl)
theorem wq_422 : (Cond.selects RX5 yX5_operate yX5_operate : Cond) ∈ ALW := in_8 _ (List.mem_of_getElem? (i := 22) rfl)
theorem wq_423 : (Cond.code yX5_obey cX5_obey 4 (some .int) : Cond) ∈ ALW := in_8 _ (List.mem_of_getElem? (i := 23) rfl)
theorem wq_424 : (Cond.constant RX5 79 (1000000) : Cond) ∈ ALW := in_8 _ (List.mem_of_getElem? (i := 24) rfl)
theorem wq_425 : (Cond.fieldLink RX5 80 "CodeLifter$Blocks" "of" "[I" : Cond) ∈ ALW := in_8 _ (List.mem_of_getElem? (i := 25) rfl)
theorem wq_426 : (Cond.fieldLink RX5 85 "CodeLifter$Blocks" "first" "[I" : Cond) ∈ ALW := in_8 _ (List.mem_of_getElem? (i := 26) rfl)
theorem wq_427 : (Cond.methodLink RX5 88 yX5_enter : Cond) ∈ ALW := in_8 _ (List.mem_of_getElem? (i := 27) rfl)
theorem wq_428 : (Cond.instanceMethod yX5_enter : Cond) ∈ ALW := in_8 _ (List.mem_of_getElem? (i := 28) rfl)
theorem wq_429 : (Cond.selects RX5 yX5_enter yX5_enter : Cond) ∈ ALW := in_8 _ (List.mem_of_getElem? (i := 29) rfl)
theorem wq_430 : (Cond.methodLink RX5 92 yX5_obey : Cond) ∈ ALW := in_8 _ (List.mem_of_getElem? (i := 30) rfl)
theorem wq_431 : (Cond.instanceMethod yX5_obey : Cond) ∈ ALW := in_8 _ (List.mem_of_getElem? (i := 31) rfl)
theorem wq_432 : (Cond.selects RX5 yX5_obey yX5_obey : Cond) ∈ ALW := in_8 _ (List.mem_of_getElem? (i := 32) rfl)
theorem wq_433 : (Cond.code yX5_goThroughCode cX5_goThroughCode 5 none : Cond) ∈ ALW := in_8 _ (List.mem_of_getElem? (i := 33) rfl)
theorem wq_434 : (Cond.fieldLink RX5 203 "CodeLifter$Pool" "sign" "[I" : Cond) ∈ ALW := in_8 _ (List.mem_of_getElem? (i := 34) rfl)
theorem wq_435 : (Cond.fieldLink RX5 206 "CodeLifter$Pool" "left" "[I" : Cond) ∈ ALW := in_8 _ (List.mem_of_getElem? (i := 35) rfl)
theorem wq_436 : (Cond.fieldLink RX5 209 "CodeLifter$Pool" "right" "[I" : Cond) ∈ ALW := in_8 _ (List.mem_of_getElem? (i := 36) rfl)
theorem wq_437 : (Cond.methodLink RX5 175 yX5_value : Cond) ∈ ALW := in_8 _ (List.mem_of_getElem? (i := 37) rfl)
theorem wq_438 : (Cond.instanceMethod yX5_value : Cond) ∈ ALW := in_8 _ (List.mem_of_getElem? (i := 38) rfl)
theorem wq_439 : (Cond.selects RX5 yX5_value yX5_value : Cond) ∈ ALW := in_8 _ (List.mem_of_getElem? (i := 39) rfl)
theorem wq_440 : (Cond.code yX5_value cX5_value 7 (some .int) : Cond) ∈ ALW := in_8 _ (List.mem_of_getElem? (i := 40) rfl)
theorem wq_441 : (Cond.fieldLink RX5 197 "CodeLifter$Blocks" "catcher" "[I" : Cond) ∈ ALW := in_8 _ (List.mem_of_getElem? (i := 41) rfl)
theorem wq_442 : (Cond.methodLink RX5 200 yX2_whereCaught : Cond) ∈ ALW := in_8 _ (List.mem_of_getElem? (i := 42) rfl)
theorem wq_443 : (Cond.instanceMethod yX2_whereCaught : Cond) ∈ ALW := in_8 _ (List.mem_of_getElem? (i := 43) rfl)
theorem wq_444 : (Cond.selects RX2 yX2_whereCaught yX2_whereCaught : Cond) ∈ ALW := in_8 _ (List.mem_of_getElem? (i := 44) rfl)
theorem wq_445 : (Cond.code yX5_catchIn cX5_catchIn 3 (some .int) : Cond) ∈ ALW := in_8 _ (List.mem_of_getElem? (i := 45) rfl)
theorem wq_446 : (Cond.fieldLink RX5 187 "CodeLifter$Lifted" "kind" "[I" : Cond) ∈ ALW := in_8 _ (List.mem_of_getElem? (i := 46) rfl)
theorem wq_447 : (Cond.fieldLink RX5 188 "CodeLifter$Lifted" "expression" "[I" : Cond) ∈ ALW := in_8 _ (List.mem_of_getElem? (i := 47) rfl)
theorem wq_448 : (Cond.fieldLink RX5 194 "CodeLifter$Lifted" "which" "[I" : Cond) ∈ ALW := in_8 _ (List.mem_of_getElem? (i := 48) rfl)
theorem wq_449 : (Cond.methodLink RX5 191 yX5_catchIn : Cond) ∈ ALW := in_8 _ (List.mem_of_getElem? (i := 49) rfl)
theorem wq_450 : (Cond.instanceMethod yX5_catchIn : Cond) ∈ ALW := in_9 _ (List.mem_of_getElem? (i := 0) rfl)
theorem wq_451 : (Cond.selects RX5 yX5_catchIn yX5_catchIn : Cond) ∈ ALW := in_9 _ (List.mem_of_getElem? (i := 1) rfl)
theorem wq_452 : (Cond.code yX5_perform cX5_perform 7 (some .int) : Cond) ∈ ALW := in_9 _ (List.mem_of_getElem? (i := 2) rfl)
theorem wq_453 : (Cond.fieldLink RX5 161 "CodeLifter$Lines" "block" "[I" : Cond) ∈ ALW := in_9 _ (List.mem_of_getElem? (i := 3) rfl)
theorem wq_454 : (Cond.fieldLink RX5 155 "CodeLifter$Lines" "kind" "[I" : Cond) ∈ ALW := in_9 _ (List.mem_of_getElem? (i := 4) rfl)
theorem wq_455 : (Cond.fieldLink RX5 164 "CodeLifter$Lines" "link" "[I" : Cond) ∈ ALW := in_9 _ (List.mem_of_getElem? (i := 5) rfl)
theorem wq_456 : (Cond.fieldLink RX5 170 "CodeLifter$Lifted" "test" "[I" : Cond) ∈ ALW := in_9 _ (List.mem_of_getElem? (i := 6) rfl)
theorem wq_457 : (Cond.fieldLink RX5 178 "CodeLifter$Lines" "blockEnd" "[I" : Cond) ∈ ALW := in_9 _ (List.mem_of_getElem? (i := 7) rfl)
theorem wq_458 : (Cond.fieldLink RX5 181 "CodeLifter$Lines" "loopStart" "[I" : Cond) ∈ ALW := in_9 _ (List.mem_of_getElem? (i := 8) rfl)
theorem wq_459 : (Cond.fieldLink RX5 184 "CodeLifter$Lines" "label" "[I" : Cond) ∈ ALW := in_9 _ (List.mem_of_getElem? (i := 9) rfl)
theorem wq_460 : (Cond.methodLink RX5 167 yX5_perform : Cond) ∈ ALW := in_9 _ (List.mem_of_getElem? (i := 10) rfl)
theorem wq_461 : (Cond.instanceMethod yX5_perform : Cond) ∈ ALW := in_9 _ (List.mem_of_getElem? (i := 11) rfl)
theorem wq_462 : (Cond.selects RX5 yX5_perform yX5_perform : Cond) ∈ ALW := in_9 _ (List.mem_of_getElem? (i := 12) rfl)
theorem wq_463 : (Cond.code yX5_follow cX5_follow 3 (some .int) : Cond) ∈ ALW := in_9 _ (List.mem_of_getElem? (i := 13) rfl)
theorem wq_464 : (Cond.fieldLink RX5 152 "CodeLifter$Lines" "size" "I" : Cond) ∈ ALW := in_9 _ (List.mem_of_getElem? (i := 14) rfl)
theorem wq_465 : (Cond.methodLink RX5 158 yX5_follow : Cond) ∈ ALW := in_9 _ (List.mem_of_getElem? (i := 15) rfl)
theorem wq_466 : (Cond.instanceMethod yX5_follow : Cond) ∈ ALW := in_9 _ (List.mem_of_getElem? (i := 16) rfl)
theorem wq_467 : (Cond.selects RX5 yX5_follow yX5_follow : Cond) ∈ ALW := in_9 _ (List.mem_of_getElem? (i := 17) rfl)
theorem wq_468 : (Cond.code yX5_goThroughLines cX5_goThroughLines 3 none : Cond) ∈ ALW := in_9 _ (List.mem_of_getElem? (i := 18) rfl)
theorem wq_469 : (Cond.fieldLink RX6 9 "CodeLifter$Pen" "signs" "[I" : Cond) ∈ ALW := in_9 _ (List.mem_of_getElem? (i := 19) rfl)
theorem wq_470 : (Cond.fieldLink RX6 15 "CodeLifter$Pen" "pool" "LCodeLifter$Pool;" : Cond) ∈ ALW := in_9 _ (List.mem_of_getElem? (i := 20) rfl)
theorem wq_471 : (Cond.fieldLink RX6 19 "CodeLifter$Pen" "lifted" "LCodeLifter$Lifted;" : Cond) ∈ ALW := in_9 _ (List.mem_of_getElem? (i := 21) rfl)
theorem wq_472 : (Cond.fieldLink RX6 23 "CodeLifter$Pen" "lines" "LCodeLifter$Lines;" : Cond) ∈ ALW := in_9 _ (List.mem_of_getElem? (i := 22) rfl)
theorem wq_473 : (Cond.code yX6_signAt cX6_signAt 2 (some .int) : Cond) ∈ ALW := in_9 _ (List.mem_of_getElem? (i := 23) rfl)
theorem wq_474 : (Cond.fieldLink RX6 27 "CodeLifter$Pen" "width" "I" : Cond) ∈ ALW := in_9 _ (List.mem_of_getElem? (i := 24) rfl)
theorem wq_475 : (Cond.code yX6_writeSign cX6_writeSign 2 none : Cond) ∈ ALW := in_9 _ (List.mem_of_getElem? (i := 25) rfl)
theorem wq_476 : (Cond.code yX6_writeNumber cX6_writeNumber 2 none : Cond) ∈ ALW := in_9 _ (List.mem_of_getElem? (i := 26) rfl)
theorem wq_477 : (Cond.methodLink RX6 98 yX6_writeSign : Cond) ∈ ALW := in_9 _ (List.mem_of_getElem? (i := 27) rfl)
theorem wq_478 : (Cond.instanceMethod yX6_writeSign : Cond) ∈ ALW := in_9 _ (List.mem_of_getElem? (i := 28) rfl)
theorem wq_479 : (Cond.selects RX6 yX6_writeSign yX6_writeSign : Cond) ∈ ALW := in_9 _ (List.mem_of_getElem? (i := 29) rfl)
theorem wq_480 : (Cond.initialized RX6 : Cond) ∈ ALW := in_9 _ (List.mem_of_getElem? (i := 30) rfl)
theorem wq_481 : (Cond.code yX6_writeName cX6_writeName 3 none : Cond) ∈ ALW := in_9 _ (List.mem_of_getElem? (i := 31) rfl)
theorem wq_482 : (Cond.methodLink RX6 91 yX6_writeNumber : Cond) ∈ ALW := in_9 _ (List.mem_of_getElem? (i := 32) rfl)
theorem wq_483 : (Cond.instanceMethod yX6_writeNumber : Cond) ∈ ALW := in_9 _ (List.mem_of_getElem? (i := 33) rfl)
theorem wq_484 : (Cond.selects RX6 yX6_writeNumber yX6_writeNumber : Cond) ∈ ALW := in_9 _ (List.mem_of_getElem? (i := 34) rfl)
theorem wq_485 : (Cond.code yJ0_coder_7d493 cJ0_coder_7d493 1 (some .byte) : Cond) ∈ ALW := in_9 _ (List.mem_of_getElem? (i := 35) rfl)
theorem wq_486 : (Cond.fieldLink RJ0 38 "java/lang/String" "COMPACT_STRINGS" "Z" : Cond) ∈ ALW := in_9 _ (List.mem_of_getElem? (i := 36) rfl)
theorem wq_487 : (Cond.fieldLink RJ0 15 "java/lang/String" "coder" "B" : Cond) ∈ ALW := in_9 _ (List.mem_of_getElem? (i := 37) rfl)
theorem wq_488 : (Cond.code yJ0_length_8abf5 cJ0_length_8abf5 1 (some .int) : Cond) ∈ ALW := in_9 _ (List.mem_of_getElem? (i := 38) rfl)
theorem wq_489 : (Cond.fieldLink RJ0 9 "java/lang/String" "value" "[B" : Cond) ∈ ALW := in_9 _ (List.mem_of_getElem? (i := 39) rfl)
theorem wq_490 : (Cond.methodLink RJ0 335 yJ0_coder_7d493 : Cond) ∈ ALW := in_9 _ (List.mem_of_getElem? (i := 40) rfl)
theorem wq_491 : (Cond.instanceMethod yJ0_coder_7d493 : Cond) ∈ ALW := in_9 _ (List.mem_of_getElem? (i := 41) rfl)
theorem wq_492 : (Cond.selects RJ0 yJ0_coder_7d493 yJ0_coder_7d493 : Cond) ∈ ALW := in_9 _ (List.mem_of_getElem? (i := 42) rfl)
theorem wq_493 : (Cond.initialized RJ0 : Cond) ∈ ALW := in_9 _ (List.mem_of_getElem? (i := 43) rfl)
theorem wq_494 : (Cond.code yJ0_isLatin1_aae02 cJ0_isLatin1_aae02 1 (some .boolean) : Cond) ∈ ALW := in_9 _ (List.mem_of_getElem? (i := 44) rfl)
theorem wq_495 : (Cond.code yJ3_checkIndex_8e157 cJ3_checkIndex_8e157 3 (some .int) : Cond) ∈ ALW := in_9 _ (List.mem_of_getElem? (i := 45) rfl)
theorem wq_496 : (Cond.code yJ0_checkIndex_df160 cJ0_checkIndex_df160 2 none : Cond) ∈ ALW := in_9 _ (List.mem_of_getElem? (i := 46) rfl)
theorem wq_497 : (Cond.fieldLink RJ0 1053 "jdk/internal/util/Preconditions" "SIOOBE_FORMATTER" "Ljava/util/function/BiFunction;" : Cond) ∈ ALW := in_9 _ (List.mem_of_getElem? (i := 47) rfl)
theorem wq_498 : (Cond.methodLink RJ0 1059 yJ3_checkIndex_8e157 : Cond) ∈ ALW := in_9 _ (List.mem_of_getElem? (i := 48) rfl)
theorem wq_499 : (Cond.static yJ3_checkIndex_8e157 : Cond) ∈ ALW := in_9 _ (List.mem_of_getElem? (i := 49) rfl)
theorem wq_500 : (Cond.initialized RJ3 : Cond) ∈ ALW := in_10 _ (List.mem_of_getElem? (i := 0) rfl)
theorem wq_501 : (Cond.code yJ1_charAt_3b067 cJ1_charAt_3b067 2 (some .char) : Cond) ∈ ALW := in_10 _ (List.mem_of_getElem? (i := 1) rfl)
theorem wq_502 : (Cond.methodLink RJ1 9 yJ0_checkIndex_df160 : Cond) ∈ ALW := in_10 _ (List.mem_of_getElem? (i := 2) rfl)
theorem wq_503 : (Cond.static yJ0_checkIndex_df160 : Cond) ∈ ALW := in_10 _ (List.mem_of_getElem? (i := 3) rfl)
theorem wq_504 : (Cond.code yJ2_length_9d52b cJ2_length_9d52b 1 (some .int) : Cond) ∈ ALW := in_10 _ (List.mem_of_getElem? (i := 4) rfl)
theorem wq_505 : (Cond.code yJ2_checkIndex_2214a cJ2_checkIndex_2214a 2 none : Cond) ∈ ALW := in_10 _ (List.mem_of_getElem? (i := 5) rfl)
theorem wq_506 : (Cond.methodLink RJ2 48 yJ2_length_9d52b : Cond) ∈ ALW := in_10 _ (List.mem_of_getElem? (i := 6) rfl)
theorem wq_507 : (Cond.static yJ2_length_9d52b : Cond) ∈ ALW := in_10 _ (List.mem_of_getElem? (i := 7) rfl)
theorem wq_508 : (Cond.initialized RJ2 : Cond) ∈ ALW := in_10 _ (List.mem_of_getElem? (i := 8) rfl)
theorem wq_509 : (Cond.methodLink RJ2 414 yJ0_checkIndex_df160 : Cond) ∈ ALW := in_10 _ (List.mem_of_getElem? (i := 9) rfl)
theorem wq_510 : (Cond.code yJ2_getChar_3b067 cJ2_getChar_3b067 2 (some .char) : Cond) ∈ ALW := in_10 _ (List.mem_of_getElem? (i := 10) rfl)
theorem wq_511 : (Cond.fieldLink RJ2 44 "java/lang/StringUTF16" "$assertionsDisabled" "Z" : Cond) ∈ ALW := in_10 _ (List.mem_of_getElem? (i := 11) rfl)
theorem wq_512 : (Cond.fieldLink RJ2 59 "java/lang/StringUTF16" "HI_BYTE_SHIFT" "I" : Cond) ∈ ALW := in_10 _ (List.mem_of_getElem? (i := 12) rfl)
theorem wq_513 : (Cond.fieldLink RJ2 63 "java/lang/StringUTF16" "LO_BYTE_SHIFT" "I" : Cond) ∈ ALW := in_10 _ (List.mem_of_getElem? (i := 13) rfl)
theorem wq_514 : (Cond.code yJ2_charAt_3b067 cJ2_charAt_3b067 2 (some .char) : Cond) ∈ ALW := in_10 _ (List.mem_of_getElem? (i := 14) rfl)
theorem wq_515 : (Cond.methodLink RJ2 67 yJ2_checkIndex_2214a : Cond) ∈ ALW := in_10 _ (List.mem_of_getElem? (i := 15) rfl)
theorem wq_516 : (Cond.static yJ2_checkIndex_2214a : Cond) ∈ ALW := in_10 _ (List.mem_of_getElem? (i := 16) rfl)
theorem wq_517 : (Cond.methodLink RJ2 71 yJ2_getChar_3b067 : Cond) ∈ ALW := in_10 _ (List.mem_of_getElem? (i := 17) rfl)
theorem wq_518 : (Cond.static yJ2_getChar_3b067 : Cond) ∈ ALW := in_10 _ (List.mem_of_getElem? (i := 18) rfl)
theorem wq_519 : (Cond.methodLink RJ0 492 yJ0_isLatin1_aae02 : Cond) ∈ ALW := in_10 _ (List.mem_of_getElem? (i := 19) rfl)
theorem wq_520 : (Cond.instanceMethod yJ0_isLatin1_aae02 : Cond) ∈ ALW := in_10 _ (List.mem_of_getElem? (i := 20) rfl)
theorem wq_521 : (Cond.selects RJ0 yJ0_isLatin1_aae02 yJ0_isLatin1_aae02 : Cond) ∈ ALW := in_10 _ (List.mem_of_getElem? (i := 21) rfl)
theorem wq_522 : (Cond.methodLink RJ0 495 yJ1_charAt_3b067 : Cond) ∈ ALW := in_10 _ (List.mem_of_getElem? (i := 22) rfl)
theorem wq_523 : (Cond.static yJ1_charAt_3b067 : Cond) ∈ ALW := in_10 _ (List.mem_of_getElem? (i := 23) rfl)
theorem wq_524 : (Cond.initialized RJ1 : Cond) ∈ ALW := in_10 _ (List.mem_of_getElem? (i := 24) rfl)
theorem wq_525 : (Cond.methodLink RJ0 498 yJ2_charAt_3b067 : Cond) ∈ ALW := in_10 _ (List.mem_of_getElem? (i := 25) rfl)
theorem wq_526 : (Cond.static yJ2_charAt_3b067 : Cond) ∈ ALW := in_10 _ (List.mem_of_getElem? (i := 26) rfl)
theorem wq_527 : (Cond.code yJ0_charAt_5068e cJ0_charAt_5068e 2 (some .char) : Cond) ∈ ALW := in_10 _ (List.mem_of_getElem? (i := 27) rfl)
theorem wq_528 : (Cond.methodLink RX6 136 yJ0_length_8abf5 : Cond) ∈ ALW := in_10 _ (List.mem_of_getElem? (i := 28) rfl)
theorem wq_529 : (Cond.instanceMethod yJ0_length_8abf5 : Cond) ∈ ALW := in_10 _ (List.mem_of_getElem? (i := 29) rfl)
theorem wq_530 : (Cond.selects RJ0 yJ0_length_8abf5 yJ0_length_8abf5 : Cond) ∈ ALW := in_10 _ (List.mem_of_getElem? (i := 30) rfl)
theorem wq_531 : (Cond.methodLink RX6 142 yJ0_charAt_5068e : Cond) ∈ ALW := in_10 _ (List.mem_of_getElem? (i := 31) rfl)
theorem wq_532 : (Cond.instanceMethod yJ0_charAt_5068e : Cond) ∈ ALW := in_10 _ (List.mem_of_getElem? (i := 32) rfl)
theorem wq_533 : (Cond.selects RJ0 yJ0_charAt_5068e yJ0_charAt_5068e : Cond) ∈ ALW := in_10 _ (List.mem_of_getElem? (i := 33) rfl)
theorem wq_534 : (Cond.code yX6_write cX6_write 3 none : Cond) ∈ ALW := in_10 _ (List.mem_of_getElem? (i := 34) rfl)
theorem wq_535 : (Cond.fieldLink RX6 115 "CodeLifter$Pool" "sign" "[I" : Cond) ∈ ALW := in_10 _ (List.mem_of_getElem? (i := 35) rfl)
theorem wq_536 : (Cond.fieldLink RX6 120 "CodeLifter$Pool" "left" "[I" : Cond) ∈ ALW := in_10 _ (List.mem_of_getElem? (i := 36) rfl)
theorem wq_537 : (Cond.fieldLink RX6 131 "CodeLifter$Pool" "right" "[I" : Cond) ∈ ALW := in_10 _ (List.mem_of_getElem? (i := 37) rfl)
theorem wq_538 : (Cond.methodLink RX6 103 yX6_writeName : Cond) ∈ ALW := in_10 _ (List.mem_of_getElem? (i := 38) rfl)
theorem wq_539 : (Cond.instanceMethod yX6_writeName : Cond) ∈ ALW := in_10 _ (List.mem_of_getElem? (i := 39) rfl)
theorem wq_540 : (Cond.selects RX6 yX6_writeName yX6_writeName : Cond) ∈ ALW := in_10 _ (List.mem_of_getElem? (i := 40) rfl)
theorem wq_541 : (Cond.methodLink RX6 62 yX6_write : Cond) ∈ ALW := in_10 _ (List.mem_of_getElem? (i := 41) rfl)
theorem wq_542 : (Cond.instanceMethod yX6_write : Cond) ∈ ALW := in_10 _ (List.mem_of_getElem? (i := 42) rfl)
theorem wq_543 : (Cond.selects RX6 yX6_write yX6_write : Cond) ∈ ALW := in_10 _ (List.mem_of_getElem? (i := 43) rfl)
theorem wq_544 : (Cond.methodLink RX6 31 yX6_writeExpression : Cond) ∈ ALW := in_10 _ (List.mem_of_getElem? (i := 44) rfl)
theorem wq_545 : (Cond.instanceMethod yX6_writeExpression : Cond) ∈ ALW := in_10 _ (List.mem_of_getElem? (i := 45) rfl)
theorem wq_546 : (Cond.selects RX6 yX6_writeExpression yX6_writeExpression : Cond) ∈ ALW := in_10 _ (List.mem_of_getElem? (i := 46) rfl)
theorem wq_547 : (Cond.code yX6_writeExpression cX6_writeExpression 5 none : Cond) ∈ ALW := in_10 _ (List.mem_of_getElem? (i := 47) rfl)
theorem wq_548 : (Cond.code yX6_widthOf cX6_widthOf 2 (some .int) : Cond) ∈ ALW := in_10 _ (List.mem_of_getElem? (i := 48) rfl)
theorem wq_549 : (Cond.fieldLink RX6 94 "CodeLifter$Lifted" "which" "[I" : Cond) ∈ ALW := in_10 _ (List.mem_of_getElem? (i := 49) rfl)
theorem wq_550 : (Cond.fieldLink RX6 97 "CodeLifter$Lifted" "kind" "[I" : Cond) ∈ ALW := in_11 _ (List.mem_of_getElem? (i := 0) rfl)
theorem wq_551 : (Cond.fieldLink RX6 112 "CodeLifter$Lifted" "expression" "[I" : Cond) ∈ ALW := in_11 _ (List.mem_of_getElem? (i := 1) rfl)
theorem wq_552 : (Cond.code yX6_writeStatement cX6_writeStatement 3 none : Cond) ∈ ALW := in_11 _ (List.mem_of_getElem? (i := 2) rfl)
theorem wq_553 : (Cond.code yX6_writeBlock cX6_writeBlock 4 none : Cond) ∈ ALW := in_11 _ (List.mem_of_getElem? (i := 3) rfl)
theorem wq_554 : (Cond.fieldLink RX6 35 "CodeLifter$Lines" "block" "[I" : Cond) ∈ ALW := in_11 _ (List.mem_of_getElem? (i := 4) rfl)
theorem wq_555 : (Cond.fieldLink RX6 40 "CodeLifter$Lines" "kind" "[I" : Cond) ∈ ALW := in_11 _ (List.mem_of_getElem? (i := 5) rfl)
theorem wq_556 : (Cond.fieldLink RX6 43 "CodeLifter$Lines" "link" "[I" : Cond) ∈ ALW := in_11 _ (List.mem_of_getElem? (i := 6) rfl)
theorem wq_557 : (Cond.fieldLink RX6 66 "CodeLifter$Lifted" "test" "[I" : Cond) ∈ ALW := in_11 _ (List.mem_of_getElem? (i := 7) rfl)
theorem wq_558 : (Cond.methodLink RX6 46 yX6_writeStatement : Cond) ∈ ALW := in_11 _ (List.mem_of_getElem? (i := 8) rfl)
theorem wq_559 : (Cond.instanceMethod yX6_writeStatement : Cond) ∈ ALW := in_11 _ (List.mem_of_getElem? (i := 9) rfl)
theorem wq_560 : (Cond.selects RX6 yX6_writeStatement yX6_writeStatement : Cond) ∈ ALW := in_11 _ (List.mem_of_getElem? (i := 10) rfl)
theorem wq_561 : (Cond.methodLink RX6 54 yX6_writeBlock : Cond) ∈ ALW := in_11 _ (List.mem_of_getElem? (i := 11) rfl)
theorem wq_562 : (Cond.instanceMethod yX6_writeBlock : Cond) ∈ ALW := in_11 _ (List.mem_of_getElem? (i := 12) rfl)
theorem wq_563 : (Cond.selects RX6 yX6_writeBlock yX6_writeBlock : Cond) ∈ ALW := in_11 _ (List.mem_of_getElem? (i := 13) rfl)
theorem wq_564 : (Cond.code yX6_widthOfLine cX6_widthOfLine 3 (some .int) : Cond) ∈ ALW := in_11 _ (List.mem_of_getElem? (i := 14) rfl)
theorem wq_565 : (Cond.fieldLink RX8 9 "CodeLifter$Shape" "jump" "[Z" : Cond) ∈ ALW := in_11 _ (List.mem_of_getElem? (i := 15) rfl)
theorem wq_566 : (Cond.fieldLink RX8 15 "CodeLifter$Shape" "back" "[Z" : Cond) ∈ ALW := in_11 _ (List.mem_of_getElem? (i := 16) rfl)
theorem wq_567 : (Cond.fieldLink RX8 18 "CodeLifter$Shape" "order" "[I" : Cond) ∈ ALW := in_11 _ (List.mem_of_getElem? (i := 17) rfl)
theorem wq_568 : (Cond.fieldLink RX8 22 "CodeLifter$Shape" "place" "[I" : Cond) ∈ ALW := in_11 _ (List.mem_of_getElem? (i := 18) rfl)
theorem wq_569 : (Cond.fieldLink RX8 25 "CodeLifter$Shape" "dominators" "[J" : Cond) ∈ ALW := in_11 _ (List.mem_of_getElem? (i := 19) rfl)
theorem wq_570 : (Cond.fieldLink RX8 29 "CodeLifter$Shape" "above" "[I" : Cond) ∈ ALW := in_11 _ (List.mem_of_getElem? (i := 20) rfl)
theorem wq_571 : (Cond.fieldLink RX8 32 "CodeLifter$Shape" "members" "[J" : Cond) ∈ ALW := in_11 _ (List.mem_of_getElem? (i := 21) rfl)
theorem wq_572 : (Cond.fieldLink RX8 35 "CodeLifter$Shape" "before" "[J" : Cond) ∈ ALW := in_11 _ (List.mem_of_getElem? (i := 22) rfl)
theorem wq_573 : (Cond.fieldLink RX8 38 "CodeLifter$Shape" "open" "[I" : Cond) ∈ ALW := in_11 _ (List.mem_of_getElem? (i := 23) rfl)
theorem wq_574 : (Cond.fieldLink RX8 41 "CodeLifter$Shape" "nextEdge" "[I" : Cond) ∈ ALW := in_11 _ (List.mem_of_getElem? (i := 24) rfl)
theorem wq_575 : (Cond.fieldLink RX8 44 "CodeLifter$Shape" "candidate" "[I" : Cond) ∈ ALW := in_11 _ (List.mem_of_getElem? (i := 25) rfl)
theorem wq_576 : (Cond.fieldLink RX8 47 "CodeLifter$Shape" "blocks" "LCodeLifter$Blocks;" : Cond) ∈ ALW := in_11 _ (List.mem_of_getElem? (i := 26) rfl)
theorem wq_577 : (Cond.code yX8_allAreComeTo cX8_allAreComeTo 9 (some .boolean) : Cond) ∈ ALW := in_11 _ (List.mem_of_getElem? (i := 27) rfl)
theorem wq_578 : (Cond.fieldLink RX8 105 "CodeLifter$Blocks" "firstEdge" "[I" : Cond) ∈ ALW := in_11 _ (List.mem_of_getElem? (i := 28) rfl)
theorem wq_579 : (Cond.constant RX8 108 (1000000) : Cond) ∈ ALW := in_11 _ (List.mem_of_getElem? (i := 29) rfl)
theorem wq_580 : (Cond.fieldLink RX8 109 "CodeLifter$Blocks" "size" "I" : Cond) ∈ ALW := in_11 _ (List.mem_of_getElem? (i := 30) rfl)
theorem wq_581 : (Cond.fieldLink RX8 99 "CodeLifter$Blocks" "target" "[I" : Cond) ∈ ALW := in_11 _ (List.mem_of_getElem? (i := 31) rfl)
theorem wq_582 : (Cond.code yJ13_bitCount_95d88 cJ13_bitCount_95d88 2 (some .int) : Cond) ∈ ALW := in_11 _ (List.mem_of_getElem? (i := 32) rfl)
theorem wq_583 : (Cond.constantLong RJ13 314 (6148914691236517205) : Cond) ∈ ALW := in_11 _ (List.mem_of_getElem? (i := 33) rfl)
theorem wq_584 : (Cond.constantLong RJ13 316 (3689348814741910323) : Cond) ∈ ALW := in_11 _ (List.mem_of_getElem? (i := 34) rfl)
theorem wq_585 : (Cond.constantLong RJ13 318 (1085102592571150095) : Cond) ∈ ALW := in_11 _ (List.mem_of_getElem? (i := 35) rfl)
theorem wq_586 : (Cond.code yJ6_numberOfTrailingZeros_0f7a4 cJ6_numberOfTrailingZeros_0f7a4 2 (some .int) : Cond) ∈ ALW := in_11 _ (List.mem_of_getElem? (i := 36) rfl)
theorem wq_587 : (Cond.constant RJ6 264 (65536) : Cond) ∈ ALW := in_11 _ (List.mem_of_getElem? (i := 37) rfl)
theorem wq_588 : (Cond.code yJ13_numberOfTrailingZeros_95d88 cJ13_numberOfTrailingZeros_95d88 3 (some .int) : Cond) ∈ ALW := in_11 _ (List.mem_of_getElem? (i := 38) rfl)
theorem wq_589 : (Cond.methodLink RJ13 311 yJ6_numberOfTrailingZeros_0f7a4 : Cond) ∈ ALW := in_11 _ (List.mem_of_getElem? (i := 39) rfl)
theorem wq_590 : (Cond.static yJ6_numberOfTrailingZeros_0f7a4 : Cond) ∈ ALW := in_11 _ (List.mem_of_getElem? (i := 40) rfl)
theorem wq_591 : (Cond.initialized RJ6 : Cond) ∈ ALW := in_11 _ (List.mem_of_getElem? (i := 41) rfl)
theorem wq_592 : (Cond.code yX8_sharedBefore cX8_sharedBefore 7 (some .long) : Cond) ∈ ALW := in_11 _ (List.mem_of_getElem? (i := 42) rfl)
theorem wq_593 : (Cond.methodLink RX8 120 yJ13_bitCount_95d88 : Cond) ∈ ALW := in_11 _ (List.mem_of_getElem? (i := 43) rfl)
theorem wq_594 : (Cond.static yJ13_bitCount_95d88 : Cond) ∈ ALW := in_11 _ (List.mem_of_getElem? (i := 44) rfl)
theorem wq_595 : (Cond.initialized RJ13 : Cond) ∈ ALW := in_11 _ (List.mem_of_getElem? (i := 45) rfl)
theorem wq_596 : (Cond.methodLink RX8 126 yJ13_numberOfTrailingZeros_95d88 : Cond) ∈ ALW := in_11 _ (List.mem_of_getElem? (i := 46) rfl)
theorem wq_597 : (Cond.static yJ13_numberOfTrailingZeros_95d88 : Cond) ∈ ALW := in_11 _ (List.mem_of_getElem? (i := 47) rfl)
theorem wq_598 : (Cond.fieldLink RX8 75 "CodeLifter$Blocks" "edges" "I" : Cond) ∈ ALW := in_11 _ (List.mem_of_getElem? (i := 48) rfl)
theorem wq_599 : (Cond.fieldLink RX8 102 "CodeLifter$Blocks" "source" "[I" : Cond) ∈ ALW := in_11 _ (List.mem_of_getElem? (i := 49) rfl)
theorem wq_600 : (Cond.methodLink RX8 116 yX8_sharedBefore : Cond) ∈ ALW := in_12 _ (List.mem_of_getElem? (i := 0) rfl)
theorem wq_601 : (Cond.instanceMethod yX8_sharedBefore : Cond) ∈ ALW := in_12 _ (List.mem_of_getElem? (i := 1) rfl)
theorem wq_602 : (Cond.selects RX8 yX8_sharedBefore yX8_sharedBefore : Cond) ∈ ALW := in_12 _ (List.mem_of_getElem? (i := 2) rfl)
theorem wq_603 : (Cond.initialized RX8 : Cond) ∈ ALW := in_12 _ (List.mem_of_getElem? (i := 3) rfl)
theorem wq_604 : (Cond.code yX8_findDominators cX8_findDominators 7 none : Cond) ∈ ALW := in_12 _ (List.mem_of_getElem? (i := 4) rfl)
theorem wq_605 : (Cond.code yX8_isBack cX8_isBack 2 (some .boolean) : Cond) ∈ ALW := in_12 _ (List.mem_of_getElem? (i := 5) rfl)
theorem wq_606 : (Cond.methodLink RX8 93 yX8_allAreComeTo : Cond) ∈ ALW := in_12 _ (List.mem_of_getElem? (i := 6) rfl)
theorem wq_607 : (Cond.instanceMethod yX8_allAreComeTo : Cond) ∈ ALW := in_12 _ (List.mem_of_getElem? (i := 7) rfl)
theorem wq_608 : (Cond.selects RX8 yX8_allAreComeTo yX8_allAreComeTo : Cond) ∈ ALW := in_12 _ (List.mem_of_getElem? (i := 8) rfl)
theorem wq_609 : (Cond.methodLink RX8 96 yX8_findDominators : Cond) ∈ ALW := in_12 _ (List.mem_of_getElem? (i := 9) rfl)
theorem wq_610 : (Cond.instanceMethod yX8_findDominators : Cond) ∈ ALW := in_12 _ (List.mem_of_getElem? (i := 10) rfl)
theorem wq_611 : (Cond.selects RX8 yX8_findDominators yX8_findDominators : Cond) ∈ ALW := in_12 _ (List.mem_of_getElem? (i := 11) rfl)
theorem wq_612 : (Cond.methodLink RX8 80 yX8_isBack : Cond) ∈ ALW := in_12 _ (List.mem_of_getElem? (i := 12) rfl)
theorem wq_613 : (Cond.instanceMethod yX8_isBack : Cond) ∈ ALW := in_12 _ (List.mem_of_getElem? (i := 13) rfl)
theorem wq_614 : (Cond.selects RX8 yX8_isBack yX8_isBack : Cond) ∈ ALW := in_12 _ (List.mem_of_getElem? (i := 14) rfl)
theorem wq_615 : (Cond.code yX8_isReducedNow cX8_isReducedNow 3 (some .boolean) : Cond) ∈ ALW := in_12 _ (List.mem_of_getElem? (i := 15) rfl)
theorem wq_616 : (Cond.code yX8_findCandidates cX8_findCandidates 3 none : Cond) ∈ ALW := in_12 _ (List.mem_of_getElem? (i := 16) rfl)
theorem wq_617 : (Cond.fieldLink RX8 129 "CodeLifter$Shape" "candidates" "I" : Cond) ∈ ALW := in_12 _ (List.mem_of_getElem? (i := 17) rfl)
theorem wq_618 : (Cond.fieldLink RX8 132 "CodeLifter$Blocks" "throwing" "[Z" : Cond) ∈ ALW := in_12 _ (List.mem_of_getElem? (i := 18) rfl)
theorem wq_619 : (Cond.fieldLink RX8 51 "CodeLifter$Shape" "jumps" "I" : Cond) ∈ ALW := in_12 _ (List.mem_of_getElem? (i := 19) rfl)
theorem wq_620 : (Cond.methodLink RX8 55 yX8_isReducedNow : Cond) ∈ ALW := in_12 _ (List.mem_of_getElem? (i := 20) rfl)
theorem wq_621 : (Cond.instanceMethod yX8_isReducedNow : Cond) ∈ ALW := in_12 _ (List.mem_of_getElem? (i := 21) rfl)
theorem wq_622 : (Cond.selects RX8 yX8_isReducedNow yX8_isReducedNow : Cond) ∈ ALW := in_12 _ (List.mem_of_getElem? (i := 22) rfl)
theorem wq_623 : (Cond.code yX8_oneJumpIsEnough cX8_oneJumpIsEnough 2 (some .boolean) : Cond) ∈ ALW := in_12 _ (List.mem_of_getElem? (i := 23) rfl)
theorem wq_624 : (Cond.code yX8_twoJumpsAreEnough cX8_twoJumpsAreEnough 3 (some .boolean) : Cond) ∈ ALW := in_12 _ (List.mem_of_getElem? (i := 24) rfl)
theorem wq_625 : (Cond.code yX8_findAbove cX8_findAbove 4 none : Cond) ∈ ALW := in_12 _ (List.mem_of_getElem? (i := 25) rfl)
theorem wq_626 : (Cond.code yX8_comingBack cX8_comingBack 9 (some .long) : Cond) ∈ ALW := in_12 _ (List.mem_of_getElem? (i := 26) rfl)
theorem wq_627 : (Cond.code yX8_findLoops cX8_findLoops 3 none : Cond) ∈ ALW := in_12 _ (List.mem_of_getElem? (i := 27) rfl)
theorem wq_628 : (Cond.fieldLink RX8 135 "CodeLifter$Shape" "loops" "J" : Cond) ∈ ALW := in_12 _ (List.mem_of_getElem? (i := 28) rfl)
theorem wq_629 : (Cond.methodLink RX8 139 yX8_comingBack : Cond) ∈ ALW := in_12 _ (List.mem_of_getElem? (i := 29) rfl)
theorem wq_630 : (Cond.instanceMethod yX8_comingBack : Cond) ∈ ALW := in_12 _ (List.mem_of_getElem? (i := 30) rfl)
theorem wq_631 : (Cond.selects RX8 yX8_comingBack yX8_comingBack : Cond) ∈ ALW := in_12 _ (List.mem_of_getElem? (i := 31) rfl)
theorem wq_632 : (Cond.code yX8_findMerges cX8_findMerges 6 none : Cond) ∈ ALW := in_12 _ (List.mem_of_getElem? (i := 32) rfl)
theorem wq_633 : (Cond.fieldLink RX8 143 "CodeLifter$Shape" "merges" "J" : Cond) ∈ ALW := in_12 _ (List.mem_of_getElem? (i := 33) rfl)
theorem wq_634 : (Cond.fieldLink RX8 59 "CodeLifter$Shape" "reduced" "Z" : Cond) ∈ ALW := in_12 _ (List.mem_of_getElem? (i := 34) rfl)
theorem wq_635 : (Cond.fieldLink RX8 63 "CodeLifter$Shape" "tangled" "Z" : Cond) ∈ ALW := in_12 _ (List.mem_of_getElem? (i := 35) rfl)
theorem wq_636 : (Cond.methodLink RX8 66 yX8_findCandidates : Cond) ∈ ALW := in_12 _ (List.mem_of_getElem? (i := 36) rfl)
theorem wq_637 : (Cond.instanceMethod yX8_findCandidates : Cond) ∈ ALW := in_12 _ (List.mem_of_getElem? (i := 37) rfl)
theorem wq_638 : (Cond.selects RX8 yX8_findCandidates yX8_findCandidates : Cond) ∈ ALW := in_12 _ (List.mem_of_getElem? (i := 38) rfl)
theorem wq_639 : (Cond.methodLink RX8 69 yX8_oneJumpIsEnough : Cond) ∈ ALW := in_12 _ (List.mem_of_getElem? (i := 39) rfl)
theorem wq_640 : (Cond.instanceMethod yX8_oneJumpIsEnough : Cond) ∈ ALW := in_12 _ (List.mem_of_getElem? (i := 40) rfl)
theorem wq_641 : (Cond.selects RX8 yX8_oneJumpIsEnough yX8_oneJumpIsEnough : Cond) ∈ ALW := in_12 _ (List.mem_of_getElem? (i := 41) rfl)
theorem wq_642 : (Cond.methodLink RX8 72 yX8_twoJumpsAreEnough : Cond) ∈ ALW := in_12 _ (List.mem_of_getElem? (i := 42) rfl)
theorem wq_643 : (Cond.instanceMethod yX8_twoJumpsAreEnough : Cond) ∈ ALW := in_12 _ (List.mem_of_getElem? (i := 43) rfl)
theorem wq_644 : (Cond.selects RX8 yX8_twoJumpsAreEnough yX8_twoJumpsAreEnough : Cond) ∈ ALW := in_12 _ (List.mem_of_getElem? (i := 44) rfl)
theorem wq_645 : (Cond.methodLink RX8 84 yX8_findAbove : Cond) ∈ ALW := in_12 _ (List.mem_of_getElem? (i := 45) rfl)
theorem wq_646 : (Cond.instanceMethod yX8_findAbove : Cond) ∈ ALW := in_12 _ (List.mem_of_getElem? (i := 46) rfl)
theorem wq_647 : (Cond.selects RX8 yX8_findAbove yX8_findAbove : Cond) ∈ ALW := in_12 _ (List.mem_of_getElem? (i := 47) rfl)
theorem wq_648 : (Cond.methodLink RX8 87 yX8_findLoops : Cond) ∈ ALW := in_12 _ (List.mem_of_getElem? (i := 48) rfl)
theorem wq_649 : (Cond.instanceMethod yX8_findLoops : Cond) ∈ ALW := in_12 _ (List.mem_of_getElem? (i := 49) rfl)
theorem wq_650 : (Cond.selects RX8 yX8_findLoops yX8_findLoops : Cond) ∈ ALW := in_13 _ (List.mem_of_getElem? (i := 0) rfl)
theorem wq_651 : (Cond.methodLink RX8 90 yX8_findMerges : Cond) ∈ ALW := in_13 _ (List.mem_of_getElem? (i := 1) rfl)
theorem wq_652 : (Cond.instanceMethod yX8_findMerges : Cond) ∈ ALW := in_13 _ (List.mem_of_getElem? (i := 2) rfl)
theorem wq_653 : (Cond.selects RX8 yX8_findMerges yX8_findMerges : Cond) ∈ ALW := in_13 _ (List.mem_of_getElem? (i := 3) rfl)
theorem wq_654 : (Cond.code yX8_form cX8_form 2 none : Cond) ∈ ALW := in_13 _ (List.mem_of_getElem? (i := 4) rfl)
theorem wq_655 : (Cond.code yX8_innermost cX8_innermost 5 (some .int) : Cond) ∈ ALW := in_13 _ (List.mem_of_getElem? (i := 5) rfl)
theorem wq_656 : (Cond.code yX8_loopsRound cX8_loopsRound 4 (some .int) : Cond) ∈ ALW := in_13 _ (List.mem_of_getElem? (i := 6) rfl)
theorem wq_657 : (Cond.code yX8_mostLoops cX8_mostLoops 3 (some .int) : Cond) ∈ ALW := in_13 _ (List.mem_of_getElem? (i := 7) rfl)
theorem wq_658 : (Cond.methodLink RX8 150 Lib.Math.max.name : Cond) ∈ ALW := in_13 _ (List.mem_of_getElem? (i := 8) rfl)
theorem wq_659 : (Cond.methodLink RX8 146 yX8_loopsRound : Cond) ∈ ALW := in_13 _ (List.mem_of_getElem? (i := 9) rfl)
theorem wq_660 : (Cond.instanceMethod yX8_loopsRound : Cond) ∈ ALW := in_13 _ (List.mem_of_getElem? (i := 10) rfl)
theorem wq_661 : (Cond.selects RX8 yX8_loopsRound yX8_loopsRound : Cond) ∈ ALW := in_13 _ (List.mem_of_getElem? (i := 11) rfl)
theorem wq_662 : (Cond.fieldLink RX9 9 "CodeLifter$Tape" "bytes" "[B" : Cond) ∈ ALW := in_13 _ (List.mem_of_getElem? (i := 12) rfl)
theorem wq_663 : (Cond.code yX9_append cX9_append 4 none : Cond) ∈ ALW := in_13 _ (List.mem_of_getElem? (i := 13) rfl)
theorem wq_664 : (Cond.fieldLink RX9 15 "CodeLifter$Tape" "length" "I" : Cond) ∈ ALW := in_13 _ (List.mem_of_getElem? (i := 14) rfl)
theorem wq_665 : (Cond.code yX9_current cX9_current 1 (some .int) : Cond) ∈ ALW := in_13 _ (List.mem_of_getElem? (i := 15) rfl)
theorem wq_666 : (Cond.fieldLink RX9 19 "CodeLifter$Tape" "at" "I" : Cond) ∈ ALW := in_13 _ (List.mem_of_getElem? (i := 16) rfl)
theorem wq_667 : (Cond.code yX9_skipBlanks cX9_skipBlanks 1 none : Cond) ∈ ALW := in_13 _ (List.mem_of_getElem? (i := 17) rfl)
theorem wq_668 : (Cond.methodLink RX9 33 yX9_current : Cond) ∈ ALW := in_13 _ (List.mem_of_getElem? (i := 18) rfl)
theorem wq_669 : (Cond.instanceMethod yX9_current : Cond) ∈ ALW := in_13 _ (List.mem_of_getElem? (i := 19) rfl)
theorem wq_670 : (Cond.selects RX9 yX9_current yX9_current : Cond) ∈ ALW := in_13 _ (List.mem_of_getElem? (i := 20) rfl)
theorem wq_671 : (Cond.initialized RX9 : Cond) ∈ ALW := in_13 _ (List.mem_of_getElem? (i := 21) rfl)
theorem wq_672 : (Cond.code yX11_isBare cX11_isBare 1 (some .boolean) : Cond) ∈ ALW := in_13 _ (List.mem_of_getElem? (i := 22) rfl)
theorem wq_673 : (Cond.methodLink RX11 409 yX11_isBinary : Cond) ∈ ALW := in_13 _ (List.mem_of_getElem? (i := 23) rfl)
theorem wq_674 : (Cond.code yX9_readNumber cX9_readNumber 4 (some .int) : Cond) ∈ ALW := in_13 _ (List.mem_of_getElem? (i := 24) rfl)
theorem wq_675 : (Cond.methodLink RX9 75 Lib.Math.max.name : Cond) ∈ ALW := in_13 _ (List.mem_of_getElem? (i := 25) rfl)
theorem wq_676 : (Cond.methodLink RX9 30 yX9_skipBlanks : Cond) ∈ ALW := in_13 _ (List.mem_of_getElem? (i := 26) rfl)
theorem wq_677 : (Cond.instanceMethod yX9_skipBlanks : Cond) ∈ ALW := in_13 _ (List.mem_of_getElem? (i := 27) rfl)
theorem wq_678 : (Cond.selects RX9 yX9_skipBlanks yX9_skipBlanks : Cond) ∈ ALW := in_13 _ (List.mem_of_getElem? (i := 28) rfl)
theorem wq_679 : (Cond.code yX9_readLetter cX9_readLetter 1 (some .int) : Cond) ∈ ALW := in_13 _ (List.mem_of_getElem? (i := 29) rfl)
theorem wq_680 : (Cond.fieldLink RX9 22 "CodeLifter$Listing" "size" "I" : Cond) ∈ ALW := in_13 _ (List.mem_of_getElem? (i := 30) rfl)
theorem wq_681 : (Cond.fieldLink RX9 55 "CodeLifter$Listing" "sign" "[I" : Cond) ∈ ALW := in_13 _ (List.mem_of_getElem? (i := 31) rfl)
theorem wq_682 : (Cond.fieldLink RX9 59 "CodeLifter$Listing" "number" "[I" : Cond) ∈ ALW := in_13 _ (List.mem_of_getElem? (i := 32) rfl)
theorem wq_683 : (Cond.static yX11_isBare : Cond) ∈ ALW := in_13 _ (List.mem_of_getElem? (i := 33) rfl)
theorem wq_684 : (Cond.methodLink RX9 48 yX9_readNumber : Cond) ∈ ALW := in_13 _ (List.mem_of_getElem? (i := 34) rfl)
theorem wq_685 : (Cond.instanceMethod yX9_readNumber : Cond) ∈ ALW := in_13 _ (List.mem_of_getElem? (i := 35) rfl)
theorem wq_686 : (Cond.selects RX9 yX9_readNumber yX9_readNumber : Cond) ∈ ALW := in_13 _ (List.mem_of_getElem? (i := 36) rfl)
theorem wq_687 : (Cond.methodLink RX9 52 yX9_readLetter : Cond) ∈ ALW := in_13 _ (List.mem_of_getElem? (i := 37) rfl)
theorem wq_688 : (Cond.instanceMethod yX9_readLetter : Cond) ∈ ALW := in_13 _ (List.mem_of_getElem? (i := 38) rfl)
theorem wq_689 : (Cond.selects RX9 yX9_readLetter yX9_readLetter : Cond) ∈ ALW := in_13 _ (List.mem_of_getElem? (i := 39) rfl)
theorem wq_690 : (Cond.code yX9_readInstruction cX9_readInstruction 4 (some .boolean) : Cond) ∈ ALW := in_13 _ (List.mem_of_getElem? (i := 40) rfl)
theorem wq_691 : (Cond.code yX9_isAtComma cX9_isAtComma 1 (some .boolean) : Cond) ∈ ALW := in_13 _ (List.mem_of_getElem? (i := 41) rfl)
theorem wq_692 : (Cond.fieldLink RX9 27 "CodeLifter$Listing" "handlers" "I" : Cond) ∈ ALW := in_13 _ (List.mem_of_getElem? (i := 42) rfl)
theorem wq_693 : (Cond.fieldLink RX9 66 "CodeLifter$Listing" "from" "[I" : Cond) ∈ ALW := in_13 _ (List.mem_of_getElem? (i := 43) rfl)
theorem wq_694 : (Cond.fieldLink RX9 69 "CodeLifter$Listing" "to" "[I" : Cond) ∈ ALW := in_13 _ (List.mem_of_getElem? (i := 44) rfl)
theorem wq_695 : (Cond.fieldLink RX9 72 "CodeLifter$Listing" "goal" "[I" : Cond) ∈ ALW := in_13 _ (List.mem_of_getElem? (i := 45) rfl)
theorem wq_696 : (Cond.methodLink RX9 62 yX9_isAtComma : Cond) ∈ ALW := in_13 _ (List.mem_of_getElem? (i := 46) rfl)
theorem wq_697 : (Cond.instanceMethod yX9_isAtComma : Cond) ∈ ALW := in_13 _ (List.mem_of_getElem? (i := 47) rfl)
theorem wq_698 : (Cond.selects RX9 yX9_isAtComma yX9_isAtComma : Cond) ∈ ALW := in_13 _ (List.mem_of_getElem? (i := 48) rfl)
theorem wq_699 : (Cond.code yX9_readHandler cX9_readHandler 5 (some .boolean) : Cond) ∈ ALW := in_13 _ (List.mem_of_getElem? (i := 49) rfl)
theorem wq_700 : (Cond.methodLink RX9 37 yX9_readInstruction : Cond) ∈ ALW := in_14 _ (List.mem_of_getElem? (i := 0) rfl)
theorem wq_701 : (Cond.instanceMethod yX9_readInstruction : Cond) ∈ ALW := in_14 _ (List.mem_of_getElem? (i := 1) rfl)
theorem wq_702 : (Cond.selects RX9 yX9_readInstruction yX9_readInstruction : Cond) ∈ ALW := in_14 _ (List.mem_of_getElem? (i := 2) rfl)
theorem wq_703 : (Cond.methodLink RX9 41 yX9_readHandler : Cond) ∈ ALW := in_14 _ (List.mem_of_getElem? (i := 3) rfl)
theorem wq_704 : (Cond.instanceMethod yX9_readHandler : Cond) ∈ ALW := in_14 _ (List.mem_of_getElem? (i := 4) rfl)
theorem wq_705 : (Cond.selects RX9 yX9_readHandler yX9_readHandler : Cond) ∈ ALW := in_14 _ (List.mem_of_getElem? (i := 5) rfl)
theorem wq_706 : (Cond.code yX9_read cX9_read 3 (some .boolean) : Cond) ∈ ALW := in_14 _ (List.mem_of_getElem? (i := 6) rfl)
theorem wq_707 : (Cond.fieldLink RX10 9 "CodeLifter$Truths" "variable" "[Z" : Cond) ∈ ALW := in_14 _ (List.mem_of_getElem? (i := 7) rfl)
theorem wq_708 : (Cond.fieldLink RX10 15 "CodeLifter$Truths" "slot" "[Z" : Cond) ∈ ALW := in_14 _ (List.mem_of_getElem? (i := 8) rfl)
theorem wq_709 : (Cond.fieldLink RX10 18 "CodeLifter$Truths" "fresh" "[Z" : Cond) ∈ ALW := in_14 _ (List.mem_of_getElem? (i := 9) rfl)
theorem wq_710 : (Cond.fieldLink RX10 21 "CodeLifter$Truths" "blocks" "LCodeLifter$Blocks;" : Cond) ∈ ALW := in_14 _ (List.mem_of_getElem? (i := 10) rfl)
theorem wq_711 : (Cond.fieldLink RX10 25 "CodeLifter$Truths" "pool" "LCodeLifter$Pool;" : Cond) ∈ ALW := in_14 _ (List.mem_of_getElem? (i := 11) rfl)
theorem wq_712 : (Cond.fieldLink RX10 29 "CodeLifter$Truths" "lifted" "LCodeLifter$Lifted;" : Cond) ∈ ALW := in_14 _ (List.mem_of_getElem? (i := 12) rfl)
theorem wq_713 : (Cond.code yX10_assumeAll cX10_assumeAll 2 none : Cond) ∈ ALW := in_14 _ (List.mem_of_getElem? (i := 13) rfl)
theorem wq_714 : (Cond.fieldLink RX10 61 "CodeLifter$Blocks" "edges" "I" : Cond) ∈ ALW := in_14 _ (List.mem_of_getElem? (i := 14) rfl)
theorem wq_715 : (Cond.fieldLink RX10 66 "CodeLifter$Blocks" "throwing" "[Z" : Cond) ∈ ALW := in_14 _ (List.mem_of_getElem? (i := 15) rfl)
theorem wq_716 : (Cond.code yX10_holds cX10_holds 3 (some .boolean) : Cond) ∈ ALW := in_14 _ (List.mem_of_getElem? (i := 16) rfl)
theorem wq_717 : (Cond.fieldLink RX10 69 "CodeLifter$Pool" "left" "[I" : Cond) ∈ ALW := in_14 _ (List.mem_of_getElem? (i := 17) rfl)
theorem wq_718 : (Cond.fieldLink RX10 74 "CodeLifter$Pool" "sign" "[I" : Cond) ∈ ALW := in_14 _ (List.mem_of_getElem? (i := 18) rfl)
theorem wq_719 : (Cond.code yX10_isTaken cX10_isTaken 3 (some .boolean) : Cond) ∈ ALW := in_14 _ (List.mem_of_getElem? (i := 19) rfl)
theorem wq_720 : (Cond.fieldLink RX10 77 "CodeLifter$Lifted" "which" "[I" : Cond) ∈ ALW := in_14 _ (List.mem_of_getElem? (i := 20) rfl)
theorem wq_721 : (Cond.fieldLink RX10 43 "CodeLifter$Lifted" "kind" "[I" : Cond) ∈ ALW := in_14 _ (List.mem_of_getElem? (i := 21) rfl)
theorem wq_722 : (Cond.code yX10_deny cX10_deny 3 none : Cond) ∈ ALW := in_14 _ (List.mem_of_getElem? (i := 22) rfl)
theorem wq_723 : (Cond.constant RX10 36 (1000000) : Cond) ∈ ALW := in_14 _ (List.mem_of_getElem? (i := 23) rfl)
theorem wq_724 : (Cond.fieldLink RX10 37 "CodeLifter$Lifted" "size" "I" : Cond) ∈ ALW := in_14 _ (List.mem_of_getElem? (i := 24) rfl)
theorem wq_725 : (Cond.fieldLink RX10 47 "CodeLifter$Lifted" "expression" "[I" : Cond) ∈ ALW := in_14 _ (List.mem_of_getElem? (i := 25) rfl)
theorem wq_726 : (Cond.methodLink RX10 33 yX10_assumeAll : Cond) ∈ ALW := in_14 _ (List.mem_of_getElem? (i := 26) rfl)
theorem wq_727 : (Cond.instanceMethod yX10_assumeAll : Cond) ∈ ALW := in_14 _ (List.mem_of_getElem? (i := 27) rfl)
theorem wq_728 : (Cond.selects RX10 yX10_assumeAll yX10_assumeAll : Cond) ∈ ALW := in_14 _ (List.mem_of_getElem? (i := 28) rfl)
theorem wq_729 : (Cond.initialized RX10 : Cond) ∈ ALW := in_14 _ (List.mem_of_getElem? (i := 29) rfl)
theorem wq_730 : (Cond.methodLink RX10 50 yX10_holds : Cond) ∈ ALW := in_14 _ (List.mem_of_getElem? (i := 30) rfl)
theorem wq_731 : (Cond.instanceMethod yX10_holds : Cond) ∈ ALW := in_14 _ (List.mem_of_getElem? (i := 31) rfl)
theorem wq_732 : (Cond.selects RX10 yX10_holds yX10_holds : Cond) ∈ ALW := in_14 _ (List.mem_of_getElem? (i := 32) rfl)
theorem wq_733 : (Cond.methodLink RX10 54 yX10_isTaken : Cond) ∈ ALW := in_14 _ (List.mem_of_getElem? (i := 33) rfl)
theorem wq_734 : (Cond.instanceMethod yX10_isTaken : Cond) ∈ ALW := in_14 _ (List.mem_of_getElem? (i := 34) rfl)
theorem wq_735 : (Cond.selects RX10 yX10_isTaken yX10_isTaken : Cond) ∈ ALW := in_14 _ (List.mem_of_getElem? (i := 35) rfl)
theorem wq_736 : (Cond.methodLink RX10 57 yX10_deny : Cond) ∈ ALW := in_14 _ (List.mem_of_getElem? (i := 36) rfl)
theorem wq_737 : (Cond.instanceMethod yX10_deny : Cond) ∈ ALW := in_14 _ (List.mem_of_getElem? (i := 37) rfl)
theorem wq_738 : (Cond.selects RX10 yX10_deny yX10_deny : Cond) ∈ ALW := in_14 _ (List.mem_of_getElem? (i := 38) rfl)
theorem wq_739 : (Cond.code yX10_judge cX10_judge 5 none : Cond) ∈ ALW := in_14 _ (List.mem_of_getElem? (i := 39) rfl)
theorem wq_740 : (Cond.code yX11_oneIf cX11_oneIf 1 (some .int) : Cond) ∈ ALW := in_14 _ (List.mem_of_getElem? (i := 40) rfl)
theorem wq_741 : (Cond.code yX10_howMany cX10_howMany 3 (some .int) : Cond) ∈ ALW := in_14 _ (List.mem_of_getElem? (i := 41) rfl)
theorem wq_742 : (Cond.fieldLink RX10 84 "CodeLifter$Blocks" "names" "I" : Cond) ∈ ALW := in_14 _ (List.mem_of_getElem? (i := 42) rfl)
theorem wq_743 : (Cond.fieldLink RX10 87 "CodeLifter$Lifted" "fresh" "I" : Cond) ∈ ALW := in_14 _ (List.mem_of_getElem? (i := 43) rfl)
theorem wq_744 : (Cond.static yX11_oneIf : Cond) ∈ ALW := in_14 _ (List.mem_of_getElem? (i := 44) rfl)
theorem wq_745 : (Cond.fieldLink RX11 10 "CodeLifter" "tape" "LCodeLifter$Tape;" : Cond) ∈ ALW := in_14 _ (List.mem_of_getElem? (i := 45) rfl)
theorem wq_746 : (Cond.fieldLink RX11 19 "CodeLifter" "listing" "LCodeLifter$Listing;" : Cond) ∈ ALW := in_14 _ (List.mem_of_getElem? (i := 46) rfl)
theorem wq_747 : (Cond.fieldLink RX11 23 "CodeLifter" "draft" "LCodeLifter$Listing;" : Cond) ∈ ALW := in_14 _ (List.mem_of_getElem? (i := 47) rfl)
theorem wq_748 : (Cond.fieldLink RX11 31 "CodeLifter" "blocks" "LCodeLifter$Blocks;" : Cond) ∈ ALW := in_14 _ (List.mem_of_getElem? (i := 48) rfl)
theorem wq_749 : (Cond.fieldLink RX11 40 "CodeLifter" "shape" "LCodeLifter$Shape;" : Cond) ∈ ALW := in_14 _ (List.mem_of_getElem? (i := 49) rfl)
theorem wq_750 : (Cond.fieldLink RX11 47 "CodeLifter" "pool" "LCodeLifter$Pool;" : Cond) ∈ ALW := in_15 _ (List.mem_of_getElem? (i := 0) rfl)
theorem wq_751 : (Cond.fieldLink RX11 56 "CodeLifter" "lifted" "LCodeLifter$Lifted;" : Cond) ∈ ALW := in_15 _ (List.mem_of_getElem? (i := 1) rfl)
theorem wq_752 : (Cond.fieldLink RX11 65 "CodeLifter" "truths" "LCodeLifter$Truths;" : Cond) ∈ ALW := in_15 _ (List.mem_of_getElem? (i := 2) rfl)
theorem wq_753 : (Cond.fieldLink RX11 74 "CodeLifter" "liveness" "LCodeLifter$Liveness;" : Cond) ∈ ALW := in_15 _ (List.mem_of_getElem? (i := 3) rfl)
theorem wq_754 : (Cond.fieldLink RX11 83 "CodeLifter" "lines" "LCodeLifter$Lines;" : Cond) ∈ ALW := in_15 _ (List.mem_of_getElem? (i := 4) rfl)
theorem wq_755 : (Cond.fieldLink RX11 92 "CodeLifter" "machine" "LCodeLifter$Machine;" : Cond) ∈ ALW := in_15 _ (List.mem_of_getElem? (i := 5) rfl)
theorem wq_756 : (Cond.fieldLink RX11 101 "CodeLifter" "pen" "LCodeLifter$Pen;" : Cond) ∈ ALW := in_15 _ (List.mem_of_getElem? (i := 6) rfl)
theorem wq_757 : (Cond.fieldLink RX11 105 "CodeLifter" "loaded" "Z" : Cond) ∈ ALW := in_15 _ (List.mem_of_getElem? (i := 7) rfl)
theorem wq_758 : (Cond.methodLink RX11 28 yX0_init : Cond) ∈ ALW := in_15 _ (List.mem_of_getElem? (i := 8) rfl)
theorem wq_759 : (Cond.methodLink RX11 37 yX8_init : Cond) ∈ ALW := in_15 _ (List.mem_of_getElem? (i := 9) rfl)
theorem wq_760 : (Cond.methodLink RX11 53 yX1_init : Cond) ∈ ALW := in_15 _ (List.mem_of_getElem? (i := 10) rfl)
theorem wq_761 : (Cond.methodLink RX11 62 yX10_init : Cond) ∈ ALW := in_15 _ (List.mem_of_getElem? (i := 11) rfl)
theorem wq_762 : (Cond.methodLink RX11 71 yX4_init : Cond) ∈ ALW := in_15 _ (List.mem_of_getElem? (i := 12) rfl)
theorem wq_763 : (Cond.methodLink RX11 80 yX2_init : Cond) ∈ ALW := in_15 _ (List.mem_of_getElem? (i := 13) rfl)
theorem wq_764 : (Cond.methodLink RX11 89 yX5_init : Cond) ∈ ALW := in_15 _ (List.mem_of_getElem? (i := 14) rfl)
theorem wq_765 : (Cond.methodLink RX11 98 yX6_init : Cond) ∈ ALW := in_15 _ (List.mem_of_getElem? (i := 15) rfl)
theorem wq_766 : (Cond.code yX11_bytesIn cX11_bytesIn 3 (some .int) : Cond) ∈ ALW := in_15 _ (List.mem_of_getElem? (i := 16) rfl)
theorem wq_767 : (Cond.code yX11_feed cX11_feed 7 (some .int) : Cond) ∈ ALW := in_15 _ (List.mem_of_getElem? (i := 17) rfl)
theorem wq_768 : (Cond.fieldLink RX11 113 "CodeLifter$Tape" "length" "I" : Cond) ∈ ALW := in_15 _ (List.mem_of_getElem? (i := 18) rfl)
theorem wq_769 : (Cond.methodLink RX11 109 yX11_bytesIn : Cond) ∈ ALW := in_15 _ (List.mem_of_getElem? (i := 19) rfl)
theorem wq_770 : (Cond.static yX11_bytesIn : Cond) ∈ ALW := in_15 _ (List.mem_of_getElem? (i := 20) rfl)
theorem wq_771 : (Cond.methodLink RX11 117 yX9_append : Cond) ∈ ALW := in_15 _ (List.mem_of_getElem? (i := 21) rfl)
theorem wq_772 : (Cond.instanceMethod yX9_append : Cond) ∈ ALW := in_15 _ (List.mem_of_getElem? (i := 22) rfl)
theorem wq_773 : (Cond.selects RX9 yX9_append yX9_append : Cond) ∈ ALW := in_15 _ (List.mem_of_getElem? (i := 23) rfl)
theorem wq_774 : (Cond.code yX11_end cX11_end 2 (some .boolean) : Cond) ∈ ALW := in_15 _ (List.mem_of_getElem? (i := 24) rfl)
theorem wq_775 : (Cond.fieldLink RX11 125 "CodeLifter$Tape" "at" "I" : Cond) ∈ ALW := in_15 _ (List.mem_of_getElem? (i := 25) rfl)
theorem wq_776 : (Cond.methodLink RX11 121 yX9_read : Cond) ∈ ALW := in_15 _ (List.mem_of_getElem? (i := 26) rfl)
theorem wq_777 : (Cond.instanceMethod yX9_read : Cond) ∈ ALW := in_15 _ (List.mem_of_getElem? (i := 27) rfl)
theorem wq_778 : (Cond.selects RX9 yX9_read yX9_read : Cond) ∈ ALW := in_15 _ (List.mem_of_getElem? (i := 28) rfl)
theorem wq_779 : (Cond.code yX11_fault cX11_fault 1 (some .int) : Cond) ∈ ALW := in_15 _ (List.mem_of_getElem? (i := 29) rfl)
theorem wq_780 : (Cond.fieldLink RX11 182 "CodeLifter$Lines" "size" "I" : Cond) ∈ ALW := in_15 _ (List.mem_of_getElem? (i := 30) rfl)
theorem wq_781 : (Cond.fieldLink RX11 173 "CodeLifter$Shape" "tangled" "Z" : Cond) ∈ ALW := in_15 _ (List.mem_of_getElem? (i := 31) rfl)
theorem wq_782 : (Cond.methodLink RX11 143 yX3_copy : Cond) ∈ ALW := in_15 _ (List.mem_of_getElem? (i := 32) rfl)
theorem wq_783 : (Cond.instanceMethod yX3_copy : Cond) ∈ ALW := in_15 _ (List.mem_of_getElem? (i := 33) rfl)
theorem wq_784 : (Cond.selects RX3 yX3_copy yX3_copy : Cond) ∈ ALW := in_15 _ (List.mem_of_getElem? (i := 34) rfl)
theorem wq_785 : (Cond.methodLink RX11 383 yX0_cut : Cond) ∈ ALW := in_15 _ (List.mem_of_getElem? (i := 35) rfl)
theorem wq_786 : (Cond.instanceMethod yX0_cut : Cond) ∈ ALW := in_15 _ (List.mem_of_getElem? (i := 36) rfl)
theorem wq_787 : (Cond.selects RX0 yX0_cut yX0_cut : Cond) ∈ ALW := in_15 _ (List.mem_of_getElem? (i := 37) rfl)
theorem wq_788 : (Cond.methodLink RX11 386 yX8_form : Cond) ∈ ALW := in_15 _ (List.mem_of_getElem? (i := 38) rfl)
theorem wq_789 : (Cond.instanceMethod yX8_form : Cond) ∈ ALW := in_15 _ (List.mem_of_getElem? (i := 39) rfl)
theorem wq_790 : (Cond.selects RX8 yX8_form yX8_form : Cond) ∈ ALW := in_15 _ (List.mem_of_getElem? (i := 40) rfl)
theorem wq_791 : (Cond.methodLink RX11 389 yX1_lift : Cond) ∈ ALW := in_15 _ (List.mem_of_getElem? (i := 41) rfl)
theorem wq_792 : (Cond.instanceMethod yX1_lift : Cond) ∈ ALW := in_15 _ (List.mem_of_getElem? (i := 42) rfl)
theorem wq_793 : (Cond.selects RX1 yX1_lift yX1_lift : Cond) ∈ ALW := in_15 _ (List.mem_of_getElem? (i := 43) rfl)
theorem wq_794 : (Cond.methodLink RX11 392 yX10_judge : Cond) ∈ ALW := in_15 _ (List.mem_of_getElem? (i := 44) rfl)
theorem wq_795 : (Cond.instanceMethod yX10_judge : Cond) ∈ ALW := in_15 _ (List.mem_of_getElem? (i := 45) rfl)
theorem wq_796 : (Cond.selects RX10 yX10_judge yX10_judge : Cond) ∈ ALW := in_15 _ (List.mem_of_getElem? (i := 46) rfl)
theorem wq_797 : (Cond.methodLink RX11 394 yX4_flow : Cond) ∈ ALW := in_15 _ (List.mem_of_getElem? (i := 47) rfl)
theorem wq_798 : (Cond.instanceMethod yX4_flow : Cond) ∈ ALW := in_15 _ (List.mem_of_getElem? (i := 48) rfl)
theorem wq_799 : (Cond.selects RX4 yX4_flow yX4_flow : Cond) ∈ ALW := in_15 _ (List.mem_of_getElem? (i := 49) rfl)
theorem wq_800 : (Cond.methodLink RX11 397 yX2_tellAll : Cond) ∈ ALW := in_16 _ (List.mem_of_getElem? (i := 0) rfl)
theorem wq_801 : (Cond.instanceMethod yX2_tellAll : Cond) ∈ ALW := in_16 _ (List.mem_of_getElem? (i := 1) rfl)
theorem wq_802 : (Cond.selects RX2 yX2_tellAll yX2_tellAll : Cond) ∈ ALW := in_16 _ (List.mem_of_getElem? (i := 2) rfl)
theorem wq_803 : (Cond.code yX11_adoptDraft cX11_adoptDraft 1 none : Cond) ∈ ALW := in_16 _ (List.mem_of_getElem? (i := 3) rfl)
theorem wq_804 : (Cond.fieldLink RX11 135 "CodeLifter$Blocks" "size" "I" : Cond) ∈ ALW := in_16 _ (List.mem_of_getElem? (i := 4) rfl)
theorem wq_805 : (Cond.methodLink RX11 128 yX3_judge : Cond) ∈ ALW := in_16 _ (List.mem_of_getElem? (i := 5) rfl)
theorem wq_806 : (Cond.instanceMethod yX3_judge : Cond) ∈ ALW := in_16 _ (List.mem_of_getElem? (i := 6) rfl)
theorem wq_807 : (Cond.selects RX3 yX3_judge yX3_judge : Cond) ∈ ALW := in_16 _ (List.mem_of_getElem? (i := 7) rfl)
theorem wq_808 : (Cond.methodLink RX11 132 yX11_adoptDraft : Cond) ∈ ALW := in_16 _ (List.mem_of_getElem? (i := 8) rfl)
theorem wq_809 : (Cond.instanceMethod yX11_adoptDraft : Cond) ∈ ALW := in_16 _ (List.mem_of_getElem? (i := 9) rfl)
theorem wq_810 : (Cond.selects RX11 yX11_adoptDraft yX11_adoptDraft : Cond) ∈ ALW := in_16 _ (List.mem_of_getElem? (i := 10) rfl)
theorem wq_811 : (Cond.code yX11_code cX11_code 2 (some .int) : Cond) ∈ ALW := in_16 _ (List.mem_of_getElem? (i := 11) rfl)
theorem wq_812 : (Cond.code yX11_isInstruction cX11_isInstruction 2 (some .boolean) : Cond) ∈ ALW := in_16 _ (List.mem_of_getElem? (i := 12) rfl)
theorem wq_813 : (Cond.methodLink RX11 406 yX11_isBare : Cond) ∈ ALW := in_16 _ (List.mem_of_getElem? (i := 13) rfl)
theorem wq_814 : (Cond.fieldLink RX11 138 "CodeLifter$Listing" "size" "I" : Cond) ∈ ALW := in_16 _ (List.mem_of_getElem? (i := 14) rfl)
theorem wq_815 : (Cond.fieldLink RX11 146 "CodeLifter$Listing" "sign" "[I" : Cond) ∈ ALW := in_16 _ (List.mem_of_getElem? (i := 15) rfl)
theorem wq_816 : (Cond.fieldLink RX11 150 "CodeLifter$Listing" "number" "[I" : Cond) ∈ ALW := in_16 _ (List.mem_of_getElem? (i := 16) rfl)
theorem wq_817 : (Cond.methodLink RX11 139 yX11_isInstruction : Cond) ∈ ALW := in_16 _ (List.mem_of_getElem? (i := 17) rfl)
theorem wq_818 : (Cond.static yX11_isInstruction : Cond) ∈ ALW := in_16 _ (List.mem_of_getElem? (i := 18) rfl)
theorem wq_819 : (Cond.code yX11_put cX11_put 5 (some .int) : Cond) ∈ ALW := in_16 _ (List.mem_of_getElem? (i := 19) rfl)
theorem wq_820 : (Cond.constant RX11 153 (-1000000) : Cond) ∈ ALW := in_16 _ (List.mem_of_getElem? (i := 20) rfl)
theorem wq_821 : (Cond.fieldLink RX11 154 "CodeLifter$Blocks" "edges" "I" : Cond) ∈ ALW := in_16 _ (List.mem_of_getElem? (i := 21) rfl)
theorem wq_822 : (Cond.fieldLink RX11 157 "CodeLifter$Listing" "handlers" "I" : Cond) ∈ ALW := in_16 _ (List.mem_of_getElem? (i := 22) rfl)
theorem wq_823 : (Cond.fieldLink RX11 160 "CodeLifter$Shape" "loops" "J" : Cond) ∈ ALW := in_16 _ (List.mem_of_getElem? (i := 23) rfl)
theorem wq_824 : (Cond.fieldLink RX11 170 "CodeLifter$Shape" "merges" "J" : Cond) ∈ ALW := in_16 _ (List.mem_of_getElem? (i := 24) rfl)
theorem wq_825 : (Cond.fieldLink RX11 176 "CodeLifter$Shape" "jumps" "I" : Cond) ∈ ALW := in_16 _ (List.mem_of_getElem? (i := 25) rfl)
theorem wq_826 : (Cond.fieldLink RX11 179 "CodeLifter$Shape" "reduced" "Z" : Cond) ∈ ALW := in_16 _ (List.mem_of_getElem? (i := 26) rfl)
theorem wq_827 : (Cond.fieldLink RX11 183 "CodeLifter$Lifted" "size" "I" : Cond) ∈ ALW := in_16 _ (List.mem_of_getElem? (i := 27) rfl)
theorem wq_828 : (Cond.fieldLink RX11 184 "CodeLifter$Lifted" "fresh" "I" : Cond) ∈ ALW := in_16 _ (List.mem_of_getElem? (i := 28) rfl)
theorem wq_829 : (Cond.fieldLink RX11 187 "CodeLifter$Blocks" "names" "I" : Cond) ∈ ALW := in_16 _ (List.mem_of_getElem? (i := 29) rfl)
theorem wq_830 : (Cond.fieldLink RX11 190 "CodeLifter$Lifted" "unlike" "I" : Cond) ∈ ALW := in_16 _ (List.mem_of_getElem? (i := 30) rfl)
theorem wq_831 : (Cond.fieldLink RX11 193 "CodeLifter$Liveness" "dead" "J" : Cond) ∈ ALW := in_16 _ (List.mem_of_getElem? (i := 31) rfl)
theorem wq_832 : (Cond.methodLink RX11 164 yJ13_bitCount_95d88 : Cond) ∈ ALW := in_16 _ (List.mem_of_getElem? (i := 32) rfl)
theorem wq_833 : (Cond.code yX11_count cX11_count 2 (some .int) : Cond) ∈ ALW := in_16 _ (List.mem_of_getElem? (i := 33) rfl)
theorem wq_834 : (Cond.code yX11_instruction cX11_instruction 3 (some .int) : Cond) ∈ ALW := in_16 _ (List.mem_of_getElem? (i := 34) rfl)
theorem wq_835 : (Cond.fieldLink RX11 203 "CodeLifter$Listing" "depth" "[I" : Cond) ∈ ALW := in_16 _ (List.mem_of_getElem? (i := 35) rfl)
theorem wq_836 : (Cond.fieldLink RX11 206 "CodeLifter$Blocks" "of" "[I" : Cond) ∈ ALW := in_16 _ (List.mem_of_getElem? (i := 36) rfl)
theorem wq_837 : (Cond.methodLink RX11 209 yX3_handlerOf : Cond) ∈ ALW := in_16 _ (List.mem_of_getElem? (i := 37) rfl)
theorem wq_838 : (Cond.methodLink RX11 212 yX11_isIn : Cond) ∈ ALW := in_16 _ (List.mem_of_getElem? (i := 38) rfl)
theorem wq_839 : (Cond.code yX11_isBlock cX11_isBlock 2 (some .boolean) : Cond) ∈ ALW := in_16 _ (List.mem_of_getElem? (i := 39) rfl)
theorem wq_840 : (Cond.fieldLink RX11 222 "CodeLifter$Blocks" "first" "[I" : Cond) ∈ ALW := in_16 _ (List.mem_of_getElem? (i := 40) rfl)
theorem wq_841 : (Cond.fieldLink RX11 225 "CodeLifter$Blocks" "last" "[I" : Cond) ∈ ALW := in_16 _ (List.mem_of_getElem? (i := 41) rfl)
theorem wq_842 : (Cond.fieldLink RX11 228 "CodeLifter$Shape" "place" "[I" : Cond) ∈ ALW := in_16 _ (List.mem_of_getElem? (i := 42) rfl)
theorem wq_843 : (Cond.fieldLink RX11 231 "CodeLifter$Shape" "above" "[I" : Cond) ∈ ALW := in_16 _ (List.mem_of_getElem? (i := 43) rfl)
theorem wq_844 : (Cond.fieldLink RX11 240 "CodeLifter$Lifted" "first" "[I" : Cond) ∈ ALW := in_16 _ (List.mem_of_getElem? (i := 44) rfl)
theorem wq_845 : (Cond.fieldLink RX11 241 "CodeLifter$Liveness" "begin" "[I" : Cond) ∈ ALW := in_16 _ (List.mem_of_getElem? (i := 45) rfl)
theorem wq_846 : (Cond.fieldLink RX11 244 "CodeLifter$Liveness" "behind" "[I" : Cond) ∈ ALW := in_16 _ (List.mem_of_getElem? (i := 46) rfl)
theorem wq_847 : (Cond.fieldLink RX11 247 "CodeLifter$Blocks" "catcher" "[I" : Cond) ∈ ALW := in_16 _ (List.mem_of_getElem? (i := 47) rfl)
theorem wq_848 : (Cond.methodLink RX11 216 yX11_isBlock : Cond) ∈ ALW := in_16 _ (List.mem_of_getElem? (i := 48) rfl)
theorem wq_849 : (Cond.instanceMethod yX11_isBlock : Cond) ∈ ALW := in_16 _ (List.mem_of_getElem? (i := 49) rfl)
theorem wq_850 : (Cond.selects RX11 yX11_isBlock yX11_isBlock : Cond) ∈ ALW := in_17 _ (List.mem_of_getElem? (i := 0) rfl)
theorem wq_851 : (Cond.methodLink RX11 234 yX8_innermost : Cond) ∈ ALW := in_17 _ (List.mem_of_getElem? (i := 1) rfl)
theorem wq_852 : (Cond.instanceMethod yX8_innermost : Cond) ∈ ALW := in_17 _ (List.mem_of_getElem? (i := 2) rfl)
theorem wq_853 : (Cond.selects RX8 yX8_innermost yX8_innermost : Cond) ∈ ALW := in_17 _ (List.mem_of_getElem? (i := 3) rfl)
theorem wq_854 : (Cond.methodLink RX11 237 yX8_loopsRound : Cond) ∈ ALW := in_17 _ (List.mem_of_getElem? (i := 4) rfl)
theorem wq_855 : (Cond.code yX11_block cX11_block 3 (some .int) : Cond) ∈ ALW := in_17 _ (List.mem_of_getElem? (i := 5) rfl)
theorem wq_856 : (Cond.code yX11_edge cX11_edge 3 (some .int) : Cond) ∈ ALW := in_17 _ (List.mem_of_getElem? (i := 6) rfl)
theorem wq_857 : (Cond.fieldLink RX11 250 "CodeLifter$Blocks" "source" "[I" : Cond) ∈ ALW := in_17 _ (List.mem_of_getElem? (i := 7) rfl)
theorem wq_858 : (Cond.fieldLink RX11 253 "CodeLifter$Blocks" "target" "[I" : Cond) ∈ ALW := in_17 _ (List.mem_of_getElem? (i := 8) rfl)
theorem wq_859 : (Cond.fieldLink RX11 256 "CodeLifter$Shape" "back" "[Z" : Cond) ∈ ALW := in_17 _ (List.mem_of_getElem? (i := 9) rfl)
theorem wq_860 : (Cond.fieldLink RX11 260 "CodeLifter$Shape" "jump" "[Z" : Cond) ∈ ALW := in_17 _ (List.mem_of_getElem? (i := 10) rfl)
theorem wq_861 : (Cond.fieldLink RX11 263 "CodeLifter$Blocks" "throwing" "[Z" : Cond) ∈ ALW := in_17 _ (List.mem_of_getElem? (i := 11) rfl)
theorem wq_862 : (Cond.code yX11_dominates cX11_dominates 3 (some .boolean) : Cond) ∈ ALW := in_17 _ (List.mem_of_getElem? (i := 12) rfl)
theorem wq_863 : (Cond.fieldLink RX11 266 "CodeLifter$Shape" "dominators" "[J" : Cond) ∈ ALW := in_17 _ (List.mem_of_getElem? (i := 13) rfl)
theorem wq_864 : (Cond.code yX11_loop cX11_loop 2 (some .long) : Cond) ∈ ALW := in_17 _ (List.mem_of_getElem? (i := 14) rfl)
theorem wq_865 : (Cond.fieldLink RX11 270 "CodeLifter$Shape" "members" "[J" : Cond) ∈ ALW := in_17 _ (List.mem_of_getElem? (i := 15) rfl)
theorem wq_866 : (Cond.constantLong RX11 273 (-1) : Cond) ∈ ALW := in_17 _ (List.mem_of_getElem? (i := 16) rfl)
theorem wq_867 : (Cond.fieldLink RX11 275 "CodeLifter$Lifted" "expression" "[I" : Cond) ∈ ALW := in_17 _ (List.mem_of_getElem? (i := 17) rfl)
theorem wq_868 : (Cond.fieldLink RX11 278 "CodeLifter$Lifted" "kind" "[I" : Cond) ∈ ALW := in_17 _ (List.mem_of_getElem? (i := 18) rfl)
theorem wq_869 : (Cond.fieldLink RX11 281 "CodeLifter$Lifted" "which" "[I" : Cond) ∈ ALW := in_17 _ (List.mem_of_getElem? (i := 19) rfl)
theorem wq_870 : (Cond.fieldLink RX11 290 "CodeLifter$Pool" "parts" "[I" : Cond) ∈ ALW := in_17 _ (List.mem_of_getElem? (i := 20) rfl)
theorem wq_871 : (Cond.methodLink RX11 284 yX6_widthOf : Cond) ∈ ALW := in_17 _ (List.mem_of_getElem? (i := 21) rfl)
theorem wq_872 : (Cond.instanceMethod yX6_widthOf : Cond) ∈ ALW := in_17 _ (List.mem_of_getElem? (i := 22) rfl)
theorem wq_873 : (Cond.selects RX6 yX6_widthOf yX6_widthOf : Cond) ∈ ALW := in_17 _ (List.mem_of_getElem? (i := 23) rfl)
theorem wq_874 : (Cond.methodLink RX11 287 yX7_hasEffects : Cond) ∈ ALW := in_17 _ (List.mem_of_getElem? (i := 24) rfl)
theorem wq_875 : (Cond.code yX11_statement cX11_statement 6 (some .int) : Cond) ∈ ALW := in_17 _ (List.mem_of_getElem? (i := 25) rfl)
theorem wq_876 : (Cond.fieldLink RX11 293 "CodeLifter$Lifted" "test" "[I" : Cond) ∈ ALW := in_17 _ (List.mem_of_getElem? (i := 26) rfl)
theorem wq_877 : (Cond.methodLink RX11 296 yX6_signAt : Cond) ∈ ALW := in_17 _ (List.mem_of_getElem? (i := 27) rfl)
theorem wq_878 : (Cond.instanceMethod yX6_signAt : Cond) ∈ ALW := in_17 _ (List.mem_of_getElem? (i := 28) rfl)
theorem wq_879 : (Cond.selects RX6 yX6_signAt yX6_signAt : Cond) ∈ ALW := in_17 _ (List.mem_of_getElem? (i := 29) rfl)
theorem wq_880 : (Cond.code yX11_condition cX11_condition 4 (some .int) : Cond) ∈ ALW := in_17 _ (List.mem_of_getElem? (i := 30) rfl)
theorem wq_881 : (Cond.code yX11_isLine cX11_isLine 2 (some .boolean) : Cond) ∈ ALW := in_17 _ (List.mem_of_getElem? (i := 31) rfl)
theorem wq_882 : (Cond.code yX11_line cX11_line 3 (some .int) : Cond) ∈ ALW := in_17 _ (List.mem_of_getElem? (i := 32) rfl)
theorem wq_883 : (Cond.fieldLink RX11 302 "CodeLifter$Lines" "kind" "[I" : Cond) ∈ ALW := in_17 _ (List.mem_of_getElem? (i := 33) rfl)
theorem wq_884 : (Cond.fieldLink RX11 303 "CodeLifter$Lines" "block" "[I" : Cond) ∈ ALW := in_17 _ (List.mem_of_getElem? (i := 34) rfl)
theorem wq_885 : (Cond.fieldLink RX11 306 "CodeLifter$Lines" "depth" "[I" : Cond) ∈ ALW := in_17 _ (List.mem_of_getElem? (i := 35) rfl)
theorem wq_886 : (Cond.methodLink RX11 299 yX11_isLine : Cond) ∈ ALW := in_17 _ (List.mem_of_getElem? (i := 36) rfl)
theorem wq_887 : (Cond.instanceMethod yX11_isLine : Cond) ∈ ALW := in_17 _ (List.mem_of_getElem? (i := 37) rfl)
theorem wq_888 : (Cond.selects RX11 yX11_isLine yX11_isLine : Cond) ∈ ALW := in_17 _ (List.mem_of_getElem? (i := 38) rfl)
theorem wq_889 : (Cond.methodLink RX11 307 yX6_widthOfLine : Cond) ∈ ALW := in_17 _ (List.mem_of_getElem? (i := 39) rfl)
theorem wq_890 : (Cond.instanceMethod yX6_widthOfLine : Cond) ∈ ALW := in_17 _ (List.mem_of_getElem? (i := 40) rfl)
theorem wq_891 : (Cond.selects RX6 yX6_widthOfLine yX6_widthOfLine : Cond) ∈ ALW := in_17 _ (List.mem_of_getElem? (i := 41) rfl)
theorem wq_892 : (Cond.code yX11_spell cX11_spell 4 (some .int) : Cond) ∈ ALW := in_17 _ (List.mem_of_getElem? (i := 42) rfl)
theorem wq_893 : (Cond.code yX11_type cX11_type 3 (some .int) : Cond) ∈ ALW := in_17 _ (List.mem_of_getElem? (i := 43) rfl)
theorem wq_894 : (Cond.fieldLink RX11 310 "CodeLifter$Truths" "variable" "[Z" : Cond) ∈ ALW := in_17 _ (List.mem_of_getElem? (i := 44) rfl)
theorem wq_895 : (Cond.fieldLink RX11 317 "CodeLifter$Truths" "slot" "[Z" : Cond) ∈ ALW := in_17 _ (List.mem_of_getElem? (i := 45) rfl)
theorem wq_896 : (Cond.fieldLink RX11 320 "CodeLifter$Truths" "fresh" "[Z" : Cond) ∈ ALW := in_17 _ (List.mem_of_getElem? (i := 46) rfl)
theorem wq_897 : (Cond.methodLink RX11 313 yX11_oneIf : Cond) ∈ ALW := in_17 _ (List.mem_of_getElem? (i := 47) rfl)
theorem wq_898 : (Cond.code yX11_canRun cX11_canRun 3 (some .boolean) : Cond) ∈ ALW := in_17 _ (List.mem_of_getElem? (i := 48) rfl)
theorem wq_899 : (Cond.methodLink RX11 400 yX5_goThroughCode : Cond) ∈ ALW := in_17 _ (List.mem_of_getElem? (i := 49) rfl)
theorem wq_900 : (Cond.instanceMethod yX5_goThroughCode : Cond) ∈ ALW := in_18 _ (List.mem_of_getElem? (i := 0) rfl)
theorem wq_901 : (Cond.selects RX5 yX5_goThroughCode yX5_goThroughCode : Cond) ∈ ALW := in_18 _ (List.mem_of_getElem? (i := 1) rfl)
theorem wq_902 : (Cond.methodLink RX11 403 yX5_goThroughLines : Cond) ∈ ALW := in_18 _ (List.mem_of_getElem? (i := 2) rfl)
theorem wq_903 : (Cond.instanceMethod yX5_goThroughLines : Cond) ∈ ALW := in_18 _ (List.mem_of_getElem? (i := 3) rfl)
theorem wq_904 : (Cond.selects RX5 yX5_goThroughLines yX5_goThroughLines : Cond) ∈ ALW := in_18 _ (List.mem_of_getElem? (i := 4) rfl)
theorem wq_905 : (Cond.code yX11_goThrough cX11_goThrough 2 none : Cond) ∈ ALW := in_18 _ (List.mem_of_getElem? (i := 5) rfl)
theorem wq_906 : (Cond.fieldLink RX11 331 "CodeLifter$Machine" "outputs" "I" : Cond) ∈ ALW := in_18 _ (List.mem_of_getElem? (i := 6) rfl)
theorem wq_907 : (Cond.fieldLink RX11 334 "CodeLifter$Machine" "ending" "I" : Cond) ∈ ALW := in_18 _ (List.mem_of_getElem? (i := 7) rfl)
theorem wq_908 : (Cond.fieldLink RX11 337 "CodeLifter$Machine" "thrown" "I" : Cond) ∈ ALW := in_18 _ (List.mem_of_getElem? (i := 8) rfl)
theorem wq_909 : (Cond.fieldLink RX11 340 "CodeLifter$Machine" "inputs" "I" : Cond) ∈ ALW := in_18 _ (List.mem_of_getElem? (i := 9) rfl)
theorem wq_910 : (Cond.fieldLink RX11 343 "CodeLifter$Machine" "entered" "I" : Cond) ∈ ALW := in_18 _ (List.mem_of_getElem? (i := 10) rfl)
theorem wq_911 : (Cond.fieldLink RX11 346 "CodeLifter$Machine" "told" "I" : Cond) ∈ ALW := in_18 _ (List.mem_of_getElem? (i := 11) rfl)
theorem wq_912 : (Cond.fieldLink RX11 349 "CodeLifter$Machine" "variable" "[I" : Cond) ∈ ALW := in_18 _ (List.mem_of_getElem? (i := 12) rfl)
theorem wq_913 : (Cond.methodLink RX11 322 yX11_canRun : Cond) ∈ ALW := in_18 _ (List.mem_of_getElem? (i := 13) rfl)
theorem wq_914 : (Cond.instanceMethod yX11_canRun : Cond) ∈ ALW := in_18 _ (List.mem_of_getElem? (i := 14) rfl)
theorem wq_915 : (Cond.selects RX11 yX11_canRun yX11_canRun : Cond) ∈ ALW := in_18 _ (List.mem_of_getElem? (i := 15) rfl)
theorem wq_916 : (Cond.methodLink RX11 325 yX5_begin : Cond) ∈ ALW := in_18 _ (List.mem_of_getElem? (i := 16) rfl)
theorem wq_917 : (Cond.instanceMethod yX5_begin : Cond) ∈ ALW := in_18 _ (List.mem_of_getElem? (i := 17) rfl)
theorem wq_918 : (Cond.selects RX5 yX5_begin yX5_begin : Cond) ∈ ALW := in_18 _ (List.mem_of_getElem? (i := 18) rfl)
theorem wq_919 : (Cond.methodLink RX11 328 yX11_goThrough : Cond) ∈ ALW := in_18 _ (List.mem_of_getElem? (i := 19) rfl)
theorem wq_920 : (Cond.instanceMethod yX11_goThrough : Cond) ∈ ALW := in_18 _ (List.mem_of_getElem? (i := 20) rfl)
theorem wq_921 : (Cond.selects RX11 yX11_goThrough yX11_goThrough : Cond) ∈ ALW := in_18 _ (List.mem_of_getElem? (i := 21) rfl)
theorem wq_922 : (Cond.code yX11_run cX11_run 7 (some .int) : Cond) ∈ ALW := in_18 _ (List.mem_of_getElem? (i := 22) rfl)
theorem wq_923 : (Cond.fieldLink RX11 351 "CodeLifter$Machine" "wanted" "I" : Cond) ∈ ALW := in_18 _ (List.mem_of_getElem? (i := 23) rfl)
theorem wq_924 : (Cond.code yX11_output cX11_output 7 (some .int) : Cond) ∈ ALW := in_18 _ (List.mem_of_getElem? (i := 24) rfl)
theorem wq_925 : (Cond.code yX11_comesTo cX11_comesTo 2 (some .long) : Cond) ∈ ALW := in_18 _ (List.mem_of_getElem? (i := 25) rfl)
theorem wq_926 : (Cond.methodLink RX11 354 yX0_leadingTo : Cond) ∈ ALW := in_18 _ (List.mem_of_getElem? (i := 26) rfl)
theorem wq_927 : (Cond.instanceMethod yX0_leadingTo : Cond) ∈ ALW := in_18 _ (List.mem_of_getElem? (i := 27) rfl)
theorem wq_928 : (Cond.selects RX0 yX0_leadingTo yX0_leadingTo : Cond) ∈ ALW := in_18 _ (List.mem_of_getElem? (i := 28) rfl)
theorem wq_929 : (Cond.code yX11_far cX11_far 3 (some .int) : Cond) ∈ ALW := in_18 _ (List.mem_of_getElem? (i := 29) rfl)
theorem wq_930 : (Cond.methodLink RX11 358 yX0_way : Cond) ∈ ALW := in_18 _ (List.mem_of_getElem? (i := 30) rfl)
theorem wq_931 : (Cond.instanceMethod yX0_way : Cond) ∈ ALW := in_18 _ (List.mem_of_getElem? (i := 31) rfl)
theorem wq_932 : (Cond.selects RX0 yX0_way yX0_way : Cond) ∈ ALW := in_18 _ (List.mem_of_getElem? (i := 32) rfl)
theorem wq_933 : (Cond.methodLink RX11 362 yX8_mostLoops : Cond) ∈ ALW := in_18 _ (List.mem_of_getElem? (i := 33) rfl)
theorem wq_934 : (Cond.instanceMethod yX8_mostLoops : Cond) ∈ ALW := in_18 _ (List.mem_of_getElem? (i := 34) rfl)
theorem wq_935 : (Cond.selects RX8 yX8_mostLoops yX8_mostLoops : Cond) ∈ ALW := in_18 _ (List.mem_of_getElem? (i := 35) rfl)
theorem wq_936 : (Cond.methodLink RX11 365 yX2_deepest : Cond) ∈ ALW := in_18 _ (List.mem_of_getElem? (i := 36) rfl)
theorem wq_937 : (Cond.instanceMethod yX2_deepest : Cond) ∈ ALW := in_18 _ (List.mem_of_getElem? (i := 37) rfl)
theorem wq_938 : (Cond.selects RX2 yX2_deepest yX2_deepest : Cond) ∈ ALW := in_18 _ (List.mem_of_getElem? (i := 38) rfl)
theorem wq_939 : (Cond.methodLink RX11 368 yX2_ofKind : Cond) ∈ ALW := in_18 _ (List.mem_of_getElem? (i := 39) rfl)
theorem wq_940 : (Cond.instanceMethod yX2_ofKind : Cond) ∈ ALW := in_18 _ (List.mem_of_getElem? (i := 40) rfl)
theorem wq_941 : (Cond.selects RX2 yX2_ofKind yX2_ofKind : Cond) ∈ ALW := in_18 _ (List.mem_of_getElem? (i := 41) rfl)
theorem wq_942 : (Cond.methodLink RX11 371 yX1_mostParts : Cond) ∈ ALW := in_18 _ (List.mem_of_getElem? (i := 42) rfl)
theorem wq_943 : (Cond.instanceMethod yX1_mostParts : Cond) ∈ ALW := in_18 _ (List.mem_of_getElem? (i := 43) rfl)
theorem wq_944 : (Cond.selects RX1 yX1_mostParts yX1_mostParts : Cond) ∈ ALW := in_18 _ (List.mem_of_getElem? (i := 44) rfl)
theorem wq_945 : (Cond.methodLink RX11 374 yX3_highest : Cond) ∈ ALW := in_18 _ (List.mem_of_getElem? (i := 45) rfl)
theorem wq_946 : (Cond.instanceMethod yX3_highest : Cond) ∈ ALW := in_18 _ (List.mem_of_getElem? (i := 46) rfl)
theorem wq_947 : (Cond.selects RX3 yX3_highest yX3_highest : Cond) ∈ ALW := in_18 _ (List.mem_of_getElem? (i := 47) rfl)
theorem wq_948 : (Cond.methodLink RX11 377 yX1_fullest : Cond) ∈ ALW := in_18 _ (List.mem_of_getElem? (i := 48) rfl)
theorem wq_949 : (Cond.instanceMethod yX1_fullest : Cond) ∈ ALW := in_18 _ (List.mem_of_getElem? (i := 49) rfl)
theorem wq_950 : (Cond.selects RX1 yX1_fullest yX1_fullest : Cond) ∈ ALW := in_19 _ (List.mem_of_getElem? (i := 0) rfl)
theorem wq_951 : (Cond.methodLink RX11 380 yX10_howMany : Cond) ∈ ALW := in_19 _ (List.mem_of_getElem? (i := 1) rfl)
theorem wq_952 : (Cond.instanceMethod yX10_howMany : Cond) ∈ ALW := in_19 _ (List.mem_of_getElem? (i := 2) rfl)
theorem wq_953 : (Cond.selects RX10 yX10_howMany yX10_howMany : Cond) ∈ ALW := in_19 _ (List.mem_of_getElem? (i := 3) rfl)
theorem wq_954 : (Cond.code yX11_most cX11_most 2 (some .int) : Cond) ∈ ALW := in_19 _ (List.mem_of_getElem? (i := 4) rfl)
theorem wq_955 : (Cond.fieldLink RX12 9 "CodeLifterModel" "tape" "[B" : Cond) ∈ ALW := in_19 _ (List.mem_of_getElem? (i := 5) rfl)
theorem wq_956 : (Cond.fieldLink RX12 13 "CodeLifterModel" "signRead" "[I" : Cond) ∈ ALW := in_19 _ (List.mem_of_getElem? (i := 6) rfl)
theorem wq_957 : (Cond.fieldLink RX12 17 "CodeLifterModel" "numberRead" "[I" : Cond) ∈ ALW := in_19 _ (List.mem_of_getElem? (i := 7) rfl)
theorem wq_958 : (Cond.fieldLink RX12 20 "CodeLifterModel" "handlerRead" "[I" : Cond) ∈ ALW := in_19 _ (List.mem_of_getElem? (i := 8) rfl)
theorem wq_959 : (Cond.fieldLink RX12 23 "CodeLifterModel" "sign" "[I" : Cond) ∈ ALW := in_19 _ (List.mem_of_getElem? (i := 9) rfl)
theorem wq_960 : (Cond.fieldLink RX12 26 "CodeLifterModel" "number" "[I" : Cond) ∈ ALW := in_19 _ (List.mem_of_getElem? (i := 10) rfl)
theorem wq_961 : (Cond.fieldLink RX12 29 "CodeLifterModel" "handler" "[I" : Cond) ∈ ALW := in_19 _ (List.mem_of_getElem? (i := 11) rfl)
theorem wq_962 : (Cond.fieldLink RX12 32 "CodeLifterModel" "trySign" "[I" : Cond) ∈ ALW := in_19 _ (List.mem_of_getElem? (i := 12) rfl)
theorem wq_963 : (Cond.fieldLink RX12 35 "CodeLifterModel" "tryNumber" "[I" : Cond) ∈ ALW := in_19 _ (List.mem_of_getElem? (i := 13) rfl)
theorem wq_964 : (Cond.fieldLink RX12 38 "CodeLifterModel" "tryHandler" "[I" : Cond) ∈ ALW := in_19 _ (List.mem_of_getElem? (i := 14) rfl)
theorem wq_965 : (Cond.fieldLink RX12 41 "CodeLifterModel" "tryStack" "[I" : Cond) ∈ ALW := in_19 _ (List.mem_of_getElem? (i := 15) rfl)
theorem wq_966 : (Cond.fieldLink RX12 44 "CodeLifterModel" "stack" "[I" : Cond) ∈ ALW := in_19 _ (List.mem_of_getElem? (i := 16) rfl)
theorem wq_967 : (Cond.fieldLink RX12 47 "CodeLifterModel" "first" "[I" : Cond) ∈ ALW := in_19 _ (List.mem_of_getElem? (i := 17) rfl)
theorem wq_968 : (Cond.fieldLink RX12 50 "CodeLifterModel" "last" "[I" : Cond) ∈ ALW := in_19 _ (List.mem_of_getElem? (i := 18) rfl)
theorem wq_969 : (Cond.fieldLink RX12 53 "CodeLifterModel" "blockOf" "[I" : Cond) ∈ ALW := in_19 _ (List.mem_of_getElem? (i := 19) rfl)
theorem wq_970 : (Cond.fieldLink RX12 56 "CodeLifterModel" "throwsTo" "[I" : Cond) ∈ ALW := in_19 _ (List.mem_of_getElem? (i := 20) rfl)
theorem wq_971 : (Cond.fieldLink RX12 59 "CodeLifterModel" "edgeFrom" "[I" : Cond) ∈ ALW := in_19 _ (List.mem_of_getElem? (i := 21) rfl)
theorem wq_972 : (Cond.fieldLink RX12 62 "CodeLifterModel" "edgeTo" "[I" : Cond) ∈ ALW := in_19 _ (List.mem_of_getElem? (i := 22) rfl)
theorem wq_973 : (Cond.fieldLink RX12 65 "CodeLifterModel" "edgeThrows" "[Z" : Cond) ∈ ALW := in_19 _ (List.mem_of_getElem? (i := 23) rfl)
theorem wq_974 : (Cond.fieldLink RX12 69 "CodeLifterModel" "isJump" "[Z" : Cond) ∈ ALW := in_19 _ (List.mem_of_getElem? (i := 24) rfl)
theorem wq_975 : (Cond.fieldLink RX12 72 "CodeLifterModel" "isBack" "[Z" : Cond) ∈ ALW := in_19 _ (List.mem_of_getElem? (i := 25) rfl)
theorem wq_976 : (Cond.fieldLink RX12 75 "CodeLifterModel" "dominators" "[J" : Cond) ∈ ALW := in_19 _ (List.mem_of_getElem? (i := 26) rfl)
theorem wq_977 : (Cond.fieldLink RX12 79 "CodeLifterModel" "loops" "[J" : Cond) ∈ ALW := in_19 _ (List.mem_of_getElem? (i := 27) rfl)
theorem wq_978 : (Cond.fieldLink RX12 82 "CodeLifterModel" "order" "[I" : Cond) ∈ ALW := in_19 _ (List.mem_of_getElem? (i := 28) rfl)
theorem wq_979 : (Cond.fieldLink RX12 85 "CodeLifterModel" "above" "[I" : Cond) ∈ ALW := in_19 _ (List.mem_of_getElem? (i := 29) rfl)
theorem wq_980 : (Cond.fieldLink RX12 88 "CodeLifterModel" "kind" "[I" : Cond) ∈ ALW := in_19 _ (List.mem_of_getElem? (i := 30) rfl)
theorem wq_981 : (Cond.fieldLink RX12 91 "CodeLifterModel" "left" "[I" : Cond) ∈ ALW := in_19 _ (List.mem_of_getElem? (i := 31) rfl)
theorem wq_982 : (Cond.fieldLink RX12 94 "CodeLifterModel" "right" "[I" : Cond) ∈ ALW := in_19 _ (List.mem_of_getElem? (i := 32) rfl)
theorem wq_983 : (Cond.fieldLink RX12 97 "CodeLifterModel" "stateKind" "[I" : Cond) ∈ ALW := in_19 _ (List.mem_of_getElem? (i := 33) rfl)
theorem wq_984 : (Cond.fieldLink RX12 100 "CodeLifterModel" "stateWhich" "[I" : Cond) ∈ ALW := in_19 _ (List.mem_of_getElem? (i := 34) rfl)
theorem wq_985 : (Cond.fieldLink RX12 103 "CodeLifterModel" "stateOf" "[I" : Cond) ∈ ALW := in_19 _ (List.mem_of_getElem? (i := 35) rfl)
theorem wq_986 : (Cond.fieldLink RX12 106 "CodeLifterModel" "stateFrom" "[I" : Cond) ∈ ALW := in_19 _ (List.mem_of_getElem? (i := 36) rfl)
theorem wq_987 : (Cond.fieldLink RX12 109 "CodeLifterModel" "condition" "[I" : Cond) ∈ ALW := in_19 _ (List.mem_of_getElem? (i := 37) rfl)
theorem wq_988 : (Cond.fieldLink RX12 112 "CodeLifterModel" "lies" "[I" : Cond) ∈ ALW := in_19 _ (List.mem_of_getElem? (i := 38) rfl)
theorem wq_989 : (Cond.fieldLink RX12 115 "CodeLifterModel" "isTruthVariable" "[Z" : Cond) ∈ ALW := in_19 _ (List.mem_of_getElem? (i := 39) rfl)
theorem wq_990 : (Cond.fieldLink RX12 118 "CodeLifterModel" "isTruthT" "[Z" : Cond) ∈ ALW := in_19 _ (List.mem_of_getElem? (i := 40) rfl)
theorem wq_991 : (Cond.fieldLink RX12 121 "CodeLifterModel" "isTruthX" "[Z" : Cond) ∈ ALW := in_19 _ (List.mem_of_getElem? (i := 41) rfl)
theorem wq_992 : (Cond.fieldLink RX12 124 "CodeLifterModel" "liveIn" "[I" : Cond) ∈ ALW := in_19 _ (List.mem_of_getElem? (i := 42) rfl)
theorem wq_993 : (Cond.fieldLink RX12 127 "CodeLifterModel" "liveOut" "[I" : Cond) ∈ ALW := in_19 _ (List.mem_of_getElem? (i := 43) rfl)
theorem wq_994 : (Cond.fieldLink RX12 130 "CodeLifterModel" "isDead" "[Z" : Cond) ∈ ALW := in_19 _ (List.mem_of_getElem? (i := 44) rfl)
theorem wq_995 : (Cond.fieldLink RX12 133 "CodeLifterModel" "lineKind" "[I" : Cond) ∈ ALW := in_19 _ (List.mem_of_getElem? (i := 45) rfl)
theorem wq_996 : (Cond.fieldLink RX12 136 "CodeLifterModel" "lineBlock" "[I" : Cond) ∈ ALW := in_19 _ (List.mem_of_getElem? (i := 46) rfl)
theorem wq_997 : (Cond.fieldLink RX12 139 "CodeLifterModel" "lineDeep" "[I" : Cond) ∈ ALW := in_19 _ (List.mem_of_getElem? (i := 47) rfl)
theorem wq_998 : (Cond.fieldLink RX12 142 "CodeLifterModel" "lineOf" "[I" : Cond) ∈ ALW := in_19 _ (List.mem_of_getElem? (i := 48) rfl)
theorem wq_999 : (Cond.fieldLink RX12 145 "CodeLifterModel" "isOut" "[Z" : Cond) ∈ ALW := in_19 _ (List.mem_of_getElem? (i := 49) rfl)
theorem wq_1000 : (Cond.fieldLink RX12 148 "CodeLifterModel" "spelled" "[I" : Cond) ∈ ALW := in_20 _ (List.mem_of_getElem? (i := 0) rfl)
theorem wq_1001 : (Cond.fieldLink RX12 151 "CodeLifterModel" "met" "[I" : Cond) ∈ ALW := in_20 _ (List.mem_of_getElem? (i := 1) rfl)
theorem wq_1002 : (Cond.fieldLink RX12 154 "CodeLifterModel" "variable" "[I" : Cond) ∈ ALW := in_20 _ (List.mem_of_getElem? (i := 2) rfl)
theorem wq_1003 : (Cond.fieldLink RX12 157 "CodeLifterModel" "outputs" "[I" : Cond) ∈ ALW := in_20 _ (List.mem_of_getElem? (i := 3) rfl)
theorem wq_1004 : (Cond.fieldLink RX12 160 "CodeLifterModel" "pile" "[I" : Cond) ∈ ALW := in_20 _ (List.mem_of_getElem? (i := 4) rfl)
theorem wq_1005 : (Cond.fieldLink RX12 163 "CodeLifterModel" "nameT" "[I" : Cond) ∈ ALW := in_20 _ (List.mem_of_getElem? (i := 5) rfl)
theorem wq_1006 : (Cond.fieldLink RX12 166 "CodeLifterModel" "nameX" "[I" : Cond) ∈ ALW := in_20 _ (List.mem_of_getElem? (i := 6) rfl)
theorem wq_1007 : (Cond.code yX12_isIn cX12_isIn 6 (some .boolean) : Cond) ∈ ALW := in_20 _ (List.mem_of_getElem? (i := 7) rfl)
theorem wq_1008 : (Cond.code yX12_has cX12_has 3 (some .boolean) : Cond) ∈ ALW := in_20 _ (List.mem_of_getElem? (i := 8) rfl)
theorem wq_1009 : (Cond.code yX12_ones cX12_ones 4 (some .int) : Cond) ∈ ALW := in_20 _ (List.mem_of_getElem? (i := 9) rfl)
theorem wq_1010 : (Cond.methodLink RX12 173 yX12_has : Cond) ∈ ALW := in_20 _ (List.mem_of_getElem? (i := 10) rfl)
theorem wq_1011 : (Cond.static yX12_has : Cond) ∈ ALW := in_20 _ (List.mem_of_getElem? (i := 11) rfl)
theorem wq_1012 : (Cond.initialized RX12 : Cond) ∈ ALW := in_20 _ (List.mem_of_getElem? (i := 12) rfl)
theorem wq_1013 : (Cond.code yX12_bytesOf cX12_bytesOf 3 (some .int) : Cond) ∈ ALW := in_20 _ (List.mem_of_getElem? (i := 13) rfl)
theorem wq_1014 : (Cond.code yX12_brings cX12_brings 4 none : Cond) ∈ ALW := in_20 _ (List.mem_of_getElem? (i := 14) rfl)
theorem wq_1015 : (Cond.fieldLink RX12 177 "CodeLifterModel" "length" "I" : Cond) ∈ ALW := in_20 _ (List.mem_of_getElem? (i := 15) rfl)
theorem wq_1016 : (Cond.code yX12_feed cX12_feed 6 (some .int) : Cond) ∈ ALW := in_20 _ (List.mem_of_getElem? (i := 16) rfl)
theorem wq_1017 : (Cond.fieldLink RX12 169 "CodeLifterModel" "thrown" "I" : Cond) ∈ ALW := in_20 _ (List.mem_of_getElem? (i := 17) rfl)
theorem wq_1018 : (Cond.methodLink RX12 180 yX12_bytesOf : Cond) ∈ ALW := in_20 _ (List.mem_of_getElem? (i := 18) rfl)
theorem wq_1019 : (Cond.static yX12_bytesOf : Cond) ∈ ALW := in_20 _ (List.mem_of_getElem? (i := 19) rfl)
theorem wq_1020 : (Cond.methodLink RX12 184 yX12_brings : Cond) ∈ ALW := in_20 _ (List.mem_of_getElem? (i := 20) rfl)
theorem wq_1021 : (Cond.instanceMethod yX12_brings : Cond) ∈ ALW := in_20 _ (List.mem_of_getElem? (i := 21) rfl)
theorem wq_1022 : (Cond.selects RX12 yX12_brings yX12_brings : Cond) ∈ ALW := in_20 _ (List.mem_of_getElem? (i := 22) rfl)
theorem wq_1023 : (Cond.code yX12_end cX12_end 2 (some .boolean) : Cond) ∈ ALW := in_20 _ (List.mem_of_getElem? (i := 23) rfl)
theorem wq_1024 : (Cond.code yX12_here cX12_here 1 (some .int) : Cond) ∈ ALW := in_20 _ (List.mem_of_getElem? (i := 24) rfl)
theorem wq_1025 : (Cond.fieldLink RX12 188 "CodeLifterModel" "at" "I" : Cond) ∈ ALW := in_20 _ (List.mem_of_getElem? (i := 25) rfl)
theorem wq_1026 : (Cond.code yX12_look cX12_look 1 (some .int) : Cond) ∈ ALW := in_20 _ (List.mem_of_getElem? (i := 26) rfl)
theorem wq_1027 : (Cond.methodLink RX12 191 yX12_here : Cond) ∈ ALW := in_20 _ (List.mem_of_getElem? (i := 27) rfl)
theorem wq_1028 : (Cond.instanceMethod yX12_here : Cond) ∈ ALW := in_20 _ (List.mem_of_getElem? (i := 28) rfl)
theorem wq_1029 : (Cond.selects RX12 yX12_here yX12_here : Cond) ∈ ALW := in_20 _ (List.mem_of_getElem? (i := 29) rfl)
theorem wq_1030 : (Cond.code yX12_isDigit cX12_isDigit 1 (some .boolean) : Cond) ∈ ALW := in_20 _ (List.mem_of_getElem? (i := 30) rfl)
theorem wq_1031 : (Cond.code yX12_reads cX12_reads 2 (some .boolean) : Cond) ∈ ALW := in_20 _ (List.mem_of_getElem? (i := 31) rfl)
theorem wq_1032 : (Cond.methodLink RX12 195 yX12_look : Cond) ∈ ALW := in_20 _ (List.mem_of_getElem? (i := 32) rfl)
theorem wq_1033 : (Cond.instanceMethod yX12_look : Cond) ∈ ALW := in_20 _ (List.mem_of_getElem? (i := 33) rfl)
theorem wq_1034 : (Cond.selects RX12 yX12_look yX12_look : Cond) ∈ ALW := in_20 _ (List.mem_of_getElem? (i := 34) rfl)
theorem wq_1035 : (Cond.code yX12_number cX12_number 4 (some .int) : Cond) ∈ ALW := in_20 _ (List.mem_of_getElem? (i := 35) rfl)
theorem wq_1036 : (Cond.methodLink RX12 198 yX12_isDigit : Cond) ∈ ALW := in_20 _ (List.mem_of_getElem? (i := 36) rfl)
theorem wq_1037 : (Cond.instanceMethod yX12_isDigit : Cond) ∈ ALW := in_20 _ (List.mem_of_getElem? (i := 37) rfl)
theorem wq_1038 : (Cond.selects RX12 yX12_isDigit yX12_isDigit : Cond) ∈ ALW := in_20 _ (List.mem_of_getElem? (i := 38) rfl)
theorem wq_1039 : (Cond.methodLink RX12 208 yJ0_length_8abf5 : Cond) ∈ ALW := in_20 _ (List.mem_of_getElem? (i := 39) rfl)
theorem wq_1040 : (Cond.methodLink RX12 212 yJ0_charAt_5068e : Cond) ∈ ALW := in_20 _ (List.mem_of_getElem? (i := 40) rfl)
theorem wq_1041 : (Cond.code yX12_isOneOf cX12_isOneOf 3 (some .boolean) : Cond) ∈ ALW := in_20 _ (List.mem_of_getElem? (i := 41) rfl)
theorem wq_1042 : (Cond.methodLink RX12 204 yX12_isOneOf : Cond) ∈ ALW := in_20 _ (List.mem_of_getElem? (i := 42) rfl)
theorem wq_1043 : (Cond.static yX12_isOneOf : Cond) ∈ ALW := in_20 _ (List.mem_of_getElem? (i := 43) rfl)
theorem wq_1044 : (Cond.code yX12_isPlain cX12_isPlain 1 (some .boolean) : Cond) ∈ ALW := in_20 _ (List.mem_of_getElem? (i := 44) rfl)
theorem wq_1045 : (Cond.code yX12_letter cX12_letter 2 (some .int) : Cond) ∈ ALW := in_20 _ (List.mem_of_getElem? (i := 45) rfl)
theorem wq_1046 : (Cond.fieldLink RX12 216 "CodeLifterModel" "codesRead" "I" : Cond) ∈ ALW := in_20 _ (List.mem_of_getElem? (i := 46) rfl)
theorem wq_1047 : (Cond.methodLink RX12 219 yX12_isPlain : Cond) ∈ ALW := in_20 _ (List.mem_of_getElem? (i := 47) rfl)
theorem wq_1048 : (Cond.static yX12_isPlain : Cond) ∈ ALW := in_20 _ (List.mem_of_getElem? (i := 48) rfl)
theorem wq_1049 : (Cond.methodLink RX12 225 yX12_number : Cond) ∈ ALW := in_20 _ (List.mem_of_getElem? (i := 49) rfl)
theorem wq_1050 : (Cond.instanceMethod yX12_number : Cond) ∈ ALW := in_21 _ (List.mem_of_getElem? (i := 0) rfl)
theorem wq_1051 : (Cond.selects RX12 yX12_number yX12_number : Cond) ∈ ALW := in_21 _ (List.mem_of_getElem? (i := 1) rfl)
theorem wq_1052 : (Cond.methodLink RX12 227 yX12_letter : Cond) ∈ ALW := in_21 _ (List.mem_of_getElem? (i := 2) rfl)
theorem wq_1053 : (Cond.instanceMethod yX12_letter : Cond) ∈ ALW := in_21 _ (List.mem_of_getElem? (i := 3) rfl)
theorem wq_1054 : (Cond.selects RX12 yX12_letter yX12_letter : Cond) ∈ ALW := in_21 _ (List.mem_of_getElem? (i := 4) rfl)
theorem wq_1055 : (Cond.code yX12_instruction cX12_instruction 4 (some .boolean) : Cond) ∈ ALW := in_21 _ (List.mem_of_getElem? (i := 5) rfl)
theorem wq_1056 : (Cond.fieldLink RX12 230 "CodeLifterModel" "handlersRead" "I" : Cond) ∈ ALW := in_21 _ (List.mem_of_getElem? (i := 6) rfl)
theorem wq_1057 : (Cond.methodLink RX12 233 yX12_reads : Cond) ∈ ALW := in_21 _ (List.mem_of_getElem? (i := 7) rfl)
theorem wq_1058 : (Cond.instanceMethod yX12_reads : Cond) ∈ ALW := in_21 _ (List.mem_of_getElem? (i := 8) rfl)
theorem wq_1059 : (Cond.selects RX12 yX12_reads yX12_reads : Cond) ∈ ALW := in_21 _ (List.mem_of_getElem? (i := 9) rfl)
theorem wq_1060 : (Cond.code yX12_handler cX12_handler 3 (some .boolean) : Cond) ∈ ALW := in_21 _ (List.mem_of_getElem? (i := 10) rfl)
theorem wq_1061 : (Cond.methodLink RX12 236 yX12_instruction : Cond) ∈ ALW := in_21 _ (List.mem_of_getElem? (i := 11) rfl)
theorem wq_1062 : (Cond.instanceMethod yX12_instruction : Cond) ∈ ALW := in_21 _ (List.mem_of_getElem? (i := 12) rfl)
theorem wq_1063 : (Cond.selects RX12 yX12_instruction yX12_instruction : Cond) ∈ ALW := in_21 _ (List.mem_of_getElem? (i := 13) rfl)
theorem wq_1064 : (Cond.methodLink RX12 239 yX12_handler : Cond) ∈ ALW := in_21 _ (List.mem_of_getElem? (i := 14) rfl)
theorem wq_1065 : (Cond.instanceMethod yX12_handler : Cond) ∈ ALW := in_21 _ (List.mem_of_getElem? (i := 15) rfl)
theorem wq_1066 : (Cond.selects RX12 yX12_handler yX12_handler : Cond) ∈ ALW := in_21 _ (List.mem_of_getElem? (i := 16) rfl)
theorem wq_1067 : (Cond.code yX12_isText cX12_isText 2 (some .boolean) : Cond) ∈ ALW := in_21 _ (List.mem_of_getElem? (i := 17) rfl)
theorem wq_1068 : (Cond.methodLink RX12 241 yX12_isText : Cond) ∈ ALW := in_21 _ (List.mem_of_getElem? (i := 18) rfl)
theorem wq_1069 : (Cond.instanceMethod yX12_isText : Cond) ∈ ALW := in_21 _ (List.mem_of_getElem? (i := 19) rfl)
theorem wq_1070 : (Cond.selects RX12 yX12_isText yX12_isText : Cond) ∈ ALW := in_21 _ (List.mem_of_getElem? (i := 20) rfl)
theorem wq_1071 : (Cond.code yX12_fault cX12_fault 1 (some .int) : Cond) ∈ ALW := in_21 _ (List.mem_of_getElem? (i := 21) rfl)
theorem wq_1072 : (Cond.code yX12_pops cX12_pops 1 (some .int) : Cond) ∈ ALW := in_21 _ (List.mem_of_getElem? (i := 22) rfl)
theorem wq_1073 : (Cond.code yX12_pushes cX12_pushes 1 (some .int) : Cond) ∈ ALW := in_21 _ (List.mem_of_getElem? (i := 23) rfl)
theorem wq_1074 : (Cond.code yX12_canThrow cX12_canThrow 1 (some .boolean) : Cond) ∈ ALW := in_21 _ (List.mem_of_getElem? (i := 24) rfl)
theorem wq_1075 : (Cond.code yX12_goesOn cX12_goesOn 1 (some .boolean) : Cond) ∈ ALW := in_21 _ (List.mem_of_getElem? (i := 25) rfl)
theorem wq_1076 : (Cond.code yX12_goesTo cX12_goesTo 1 (some .boolean) : Cond) ∈ ALW := in_21 _ (List.mem_of_getElem? (i := 26) rfl)
theorem wq_1077 : (Cond.code yX12_handlerOf cX12_handlerOf 4 (some .int) : Cond) ∈ ALW := in_21 _ (List.mem_of_getElem? (i := 27) rfl)
theorem wq_1078 : (Cond.code yX12_comes cX12_comes 3 (some .boolean) : Cond) ∈ ALW := in_21 _ (List.mem_of_getElem? (i := 28) rfl)
theorem wq_1079 : (Cond.fieldLink RX12 254 "CodeLifterModel" "tryCodes" "I" : Cond) ∈ ALW := in_21 _ (List.mem_of_getElem? (i := 29) rfl)
theorem wq_1080 : (Cond.fieldLink RX12 260 "CodeLifterModel" "tryHandlers" "I" : Cond) ∈ ALW := in_21 _ (List.mem_of_getElem? (i := 30) rfl)
theorem wq_1081 : (Cond.methodLink RX12 266 yX12_pops : Cond) ∈ ALW := in_21 _ (List.mem_of_getElem? (i := 31) rfl)
theorem wq_1082 : (Cond.static yX12_pops : Cond) ∈ ALW := in_21 _ (List.mem_of_getElem? (i := 32) rfl)
theorem wq_1083 : (Cond.methodLink RX12 269 yX12_pushes : Cond) ∈ ALW := in_21 _ (List.mem_of_getElem? (i := 33) rfl)
theorem wq_1084 : (Cond.static yX12_pushes : Cond) ∈ ALW := in_21 _ (List.mem_of_getElem? (i := 34) rfl)
theorem wq_1085 : (Cond.methodLink RX12 272 yX12_goesOn : Cond) ∈ ALW := in_21 _ (List.mem_of_getElem? (i := 35) rfl)
theorem wq_1086 : (Cond.static yX12_goesOn : Cond) ∈ ALW := in_21 _ (List.mem_of_getElem? (i := 36) rfl)
theorem wq_1087 : (Cond.methodLink RX12 275 yX12_comes : Cond) ∈ ALW := in_21 _ (List.mem_of_getElem? (i := 37) rfl)
theorem wq_1088 : (Cond.instanceMethod yX12_comes : Cond) ∈ ALW := in_21 _ (List.mem_of_getElem? (i := 38) rfl)
theorem wq_1089 : (Cond.selects RX12 yX12_comes yX12_comes : Cond) ∈ ALW := in_21 _ (List.mem_of_getElem? (i := 39) rfl)
theorem wq_1090 : (Cond.methodLink RX12 257 yX12_goesTo : Cond) ∈ ALW := in_21 _ (List.mem_of_getElem? (i := 40) rfl)
theorem wq_1091 : (Cond.static yX12_goesTo : Cond) ∈ ALW := in_21 _ (List.mem_of_getElem? (i := 41) rfl)
theorem wq_1092 : (Cond.methodLink RX12 279 yX12_handlerOf : Cond) ∈ ALW := in_21 _ (List.mem_of_getElem? (i := 42) rfl)
theorem wq_1093 : (Cond.static yX12_handlerOf : Cond) ∈ ALW := in_21 _ (List.mem_of_getElem? (i := 43) rfl)
theorem wq_1094 : (Cond.methodLink RX12 283 yX12_canThrow : Cond) ∈ ALW := in_21 _ (List.mem_of_getElem? (i := 44) rfl)
theorem wq_1095 : (Cond.static yX12_canThrow : Cond) ∈ ALW := in_21 _ (List.mem_of_getElem? (i := 45) rfl)
theorem wq_1096 : (Cond.code yX12_goesThrough cX12_goesThrough 5 (some .int) : Cond) ∈ ALW := in_21 _ (List.mem_of_getElem? (i := 46) rfl)
theorem wq_1097 : (Cond.methodLink RX12 263 yX12_goesThrough : Cond) ∈ ALW := in_21 _ (List.mem_of_getElem? (i := 47) rfl)
theorem wq_1098 : (Cond.instanceMethod yX12_goesThrough : Cond) ∈ ALW := in_21 _ (List.mem_of_getElem? (i := 48) rfl)
theorem wq_1099 : (Cond.selects RX12 yX12_goesThrough yX12_goesThrough : Cond) ∈ ALW := in_21 _ (List.mem_of_getElem? (i := 49) rfl)
theorem wq_1100 : (Cond.code yX12_wrong cX12_wrong 5 (some .int) : Cond) ∈ ALW := in_22 _ (List.mem_of_getElem? (i := 0) rfl)
theorem wq_1101 : (Cond.code yX12_tries cX12_tries 7 none : Cond) ∈ ALW := in_22 _ (List.mem_of_getElem? (i := 1) rfl)
theorem wq_1102 : (Cond.code yX12_isCome cX12_isCome 2 (some .boolean) : Cond) ∈ ALW := in_22 _ (List.mem_of_getElem? (i := 2) rfl)
theorem wq_1103 : (Cond.fieldLink RX12 286 "CodeLifterModel" "codes" "I" : Cond) ∈ ALW := in_22 _ (List.mem_of_getElem? (i := 3) rfl)
theorem wq_1104 : (Cond.fieldLink RX12 289 "CodeLifterModel" "handlers" "I" : Cond) ∈ ALW := in_22 _ (List.mem_of_getElem? (i := 4) rfl)
theorem wq_1105 : (Cond.methodLink RX12 321 yX12_isCome : Cond) ∈ ALW := in_22 _ (List.mem_of_getElem? (i := 5) rfl)
theorem wq_1106 : (Cond.instanceMethod yX12_isCome : Cond) ∈ ALW := in_22 _ (List.mem_of_getElem? (i := 6) rfl)
theorem wq_1107 : (Cond.selects RX12 yX12_isCome yX12_isCome : Cond) ∈ ALW := in_22 _ (List.mem_of_getElem? (i := 7) rfl)
theorem wq_1108 : (Cond.code yX12_isCutAhead cX12_isCutAhead 3 (some .boolean) : Cond) ∈ ALW := in_22 _ (List.mem_of_getElem? (i := 8) rfl)
theorem wq_1109 : (Cond.fieldLink RX12 299 "CodeLifterModel" "blocks" "I" : Cond) ∈ ALW := in_22 _ (List.mem_of_getElem? (i := 9) rfl)
theorem wq_1110 : (Cond.methodLink RX12 324 yX12_isCutAhead : Cond) ∈ ALW := in_22 _ (List.mem_of_getElem? (i := 10) rfl)
theorem wq_1111 : (Cond.instanceMethod yX12_isCutAhead : Cond) ∈ ALW := in_22 _ (List.mem_of_getElem? (i := 11) rfl)
theorem wq_1112 : (Cond.selects RX12 yX12_isCutAhead yX12_isCutAhead : Cond) ∈ ALW := in_22 _ (List.mem_of_getElem? (i := 12) rfl)
theorem wq_1113 : (Cond.code yX12_laysBlocks cX12_laysBlocks 2 none : Cond) ∈ ALW := in_22 _ (List.mem_of_getElem? (i := 13) rfl)
theorem wq_1114 : (Cond.code yX12_laysEdge cX12_laysEdge 5 none : Cond) ∈ ALW := in_22 _ (List.mem_of_getElem? (i := 14) rfl)
theorem wq_1115 : (Cond.fieldLink RX12 327 "CodeLifterModel" "edges" "I" : Cond) ∈ ALW := in_22 _ (List.mem_of_getElem? (i := 15) rfl)
theorem wq_1116 : (Cond.methodLink RX12 330 yX12_laysEdge : Cond) ∈ ALW := in_22 _ (List.mem_of_getElem? (i := 16) rfl)
theorem wq_1117 : (Cond.instanceMethod yX12_laysEdge : Cond) ∈ ALW := in_22 _ (List.mem_of_getElem? (i := 17) rfl)
theorem wq_1118 : (Cond.selects RX12 yX12_laysEdge yX12_laysEdge : Cond) ∈ ALW := in_22 _ (List.mem_of_getElem? (i := 18) rfl)
theorem wq_1119 : (Cond.code yX12_laysEdges cX12_laysEdges 5 none : Cond) ∈ ALW := in_22 _ (List.mem_of_getElem? (i := 19) rfl)
theorem wq_1120 : (Cond.code yX12_reached cX12_reached 8 (some .long) : Cond) ∈ ALW := in_22 _ (List.mem_of_getElem? (i := 20) rfl)
theorem wq_1121 : (Cond.code yX12_all cX12_all 1 (some .long) : Cond) ∈ ALW := in_22 _ (List.mem_of_getElem? (i := 21) rfl)
theorem wq_1122 : (Cond.code yX12_laysDominators cX12_laysDominators 5 none : Cond) ∈ ALW := in_22 _ (List.mem_of_getElem? (i := 22) rfl)
theorem wq_1123 : (Cond.methodLink RX12 334 yX12_reached : Cond) ∈ ALW := in_22 _ (List.mem_of_getElem? (i := 23) rfl)
theorem wq_1124 : (Cond.instanceMethod yX12_reached : Cond) ∈ ALW := in_22 _ (List.mem_of_getElem? (i := 24) rfl)
theorem wq_1125 : (Cond.selects RX12 yX12_reached yX12_reached : Cond) ∈ ALW := in_22 _ (List.mem_of_getElem? (i := 25) rfl)
theorem wq_1126 : (Cond.code yX12_isEntry cX12_isEntry 5 (some .boolean) : Cond) ∈ ALW := in_22 _ (List.mem_of_getElem? (i := 26) rfl)
theorem wq_1127 : (Cond.code yX12_isReduced cX12_isReduced 5 (some .boolean) : Cond) ∈ ALW := in_22 _ (List.mem_of_getElem? (i := 27) rfl)
theorem wq_1128 : (Cond.methodLink RX12 338 yX12_isEntry : Cond) ∈ ALW := in_22 _ (List.mem_of_getElem? (i := 28) rfl)
theorem wq_1129 : (Cond.instanceMethod yX12_isEntry : Cond) ∈ ALW := in_22 _ (List.mem_of_getElem? (i := 29) rfl)
theorem wq_1130 : (Cond.selects RX12 yX12_isEntry yX12_isEntry : Cond) ∈ ALW := in_22 _ (List.mem_of_getElem? (i := 30) rfl)
theorem wq_1131 : (Cond.methodLink RX12 342 yX12_all : Cond) ∈ ALW := in_22 _ (List.mem_of_getElem? (i := 31) rfl)
theorem wq_1132 : (Cond.instanceMethod yX12_all : Cond) ∈ ALW := in_22 _ (List.mem_of_getElem? (i := 32) rfl)
theorem wq_1133 : (Cond.selects RX12 yX12_all yX12_all : Cond) ∈ ALW := in_22 _ (List.mem_of_getElem? (i := 33) rfl)
theorem wq_1134 : (Cond.methodLink RX12 346 yX12_laysDominators : Cond) ∈ ALW := in_22 _ (List.mem_of_getElem? (i := 34) rfl)
theorem wq_1135 : (Cond.instanceMethod yX12_laysDominators : Cond) ∈ ALW := in_22 _ (List.mem_of_getElem? (i := 35) rfl)
theorem wq_1136 : (Cond.selects RX12 yX12_laysDominators yX12_laysDominators : Cond) ∈ ALW := in_22 _ (List.mem_of_getElem? (i := 36) rfl)
theorem wq_1137 : (Cond.methodLink RX12 349 yX12_isReduced : Cond) ∈ ALW := in_22 _ (List.mem_of_getElem? (i := 37) rfl)
theorem wq_1138 : (Cond.instanceMethod yX12_isReduced : Cond) ∈ ALW := in_22 _ (List.mem_of_getElem? (i := 38) rfl)
theorem wq_1139 : (Cond.selects RX12 yX12_isReduced yX12_isReduced : Cond) ∈ ALW := in_22 _ (List.mem_of_getElem? (i := 39) rfl)
theorem wq_1140 : (Cond.code yX12_isGoodSo cX12_isGoodSo 1 (some .boolean) : Cond) ∈ ALW := in_22 _ (List.mem_of_getElem? (i := 40) rfl)
theorem wq_1141 : (Cond.methodLink RX12 352 yX12_isGoodSo : Cond) ∈ ALW := in_22 _ (List.mem_of_getElem? (i := 41) rfl)
theorem wq_1142 : (Cond.instanceMethod yX12_isGoodSo : Cond) ∈ ALW := in_22 _ (List.mem_of_getElem? (i := 42) rfl)
theorem wq_1143 : (Cond.selects RX12 yX12_isGoodSo yX12_isGoodSo : Cond) ∈ ALW := in_22 _ (List.mem_of_getElem? (i := 43) rfl)
theorem wq_1144 : (Cond.code yX12_hasSecond cX12_hasSecond 3 (some .boolean) : Cond) ∈ ALW := in_22 _ (List.mem_of_getElem? (i := 44) rfl)
theorem wq_1145 : (Cond.fieldLink RX12 355 "CodeLifterModel" "isPlainly" "Z" : Cond) ∈ ALW := in_22 _ (List.mem_of_getElem? (i := 45) rfl)
theorem wq_1146 : (Cond.fieldLink RX12 358 "CodeLifterModel" "jumps" "I" : Cond) ∈ ALW := in_22 _ (List.mem_of_getElem? (i := 46) rfl)
theorem wq_1147 : (Cond.methodLink RX12 361 yX12_hasSecond : Cond) ∈ ALW := in_22 _ (List.mem_of_getElem? (i := 47) rfl)
theorem wq_1148 : (Cond.instanceMethod yX12_hasSecond : Cond) ∈ ALW := in_22 _ (List.mem_of_getElem? (i := 48) rfl)
theorem wq_1149 : (Cond.selects RX12 yX12_hasSecond yX12_hasSecond : Cond) ∈ ALW := in_22 _ (List.mem_of_getElem? (i := 49) rfl)
theorem wq_1150 : (Cond.code yX12_laysJumps cX12_laysJumps 2 none : Cond) ∈ ALW := in_23 _ (List.mem_of_getElem? (i := 0) rfl)
theorem wq_1151 : (Cond.code yX12_leaves cX12_leaves 3 none : Cond) ∈ ALW := in_23 _ (List.mem_of_getElem? (i := 1) rfl)
theorem wq_1152 : (Cond.fieldLink RX12 364 "CodeLifterModel" "seen" "J" : Cond) ∈ ALW := in_23 _ (List.mem_of_getElem? (i := 2) rfl)
theorem wq_1153 : (Cond.fieldLink RX12 368 "CodeLifterModel" "ordered" "I" : Cond) ∈ ALW := in_23 _ (List.mem_of_getElem? (i := 3) rfl)
theorem wq_1154 : (Cond.methodLink RX12 371 yX12_leaves : Cond) ∈ ALW := in_23 _ (List.mem_of_getElem? (i := 4) rfl)
theorem wq_1155 : (Cond.instanceMethod yX12_leaves : Cond) ∈ ALW := in_23 _ (List.mem_of_getElem? (i := 5) rfl)
theorem wq_1156 : (Cond.selects RX12 yX12_leaves yX12_leaves : Cond) ∈ ALW := in_23 _ (List.mem_of_getElem? (i := 6) rfl)
theorem wq_1157 : (Cond.code yX12_laysOrder cX12_laysOrder 1 none : Cond) ∈ ALW := in_23 _ (List.mem_of_getElem? (i := 7) rfl)
theorem wq_1158 : (Cond.code yX12_laysAbove cX12_laysAbove 3 none : Cond) ∈ ALW := in_23 _ (List.mem_of_getElem? (i := 8) rfl)
theorem wq_1159 : (Cond.code yX12_comeTo cX12_comeTo 7 (some .long) : Cond) ∈ ALW := in_23 _ (List.mem_of_getElem? (i := 9) rfl)
theorem wq_1160 : (Cond.code yX12_laysLoops cX12_laysLoops 3 none : Cond) ∈ ALW := in_23 _ (List.mem_of_getElem? (i := 10) rfl)
theorem wq_1161 : (Cond.methodLink RX12 374 yX12_comeTo : Cond) ∈ ALW := in_23 _ (List.mem_of_getElem? (i := 11) rfl)
theorem wq_1162 : (Cond.instanceMethod yX12_comeTo : Cond) ∈ ALW := in_23 _ (List.mem_of_getElem? (i := 12) rfl)
theorem wq_1163 : (Cond.selects RX12 yX12_comeTo yX12_comeTo : Cond) ∈ ALW := in_23 _ (List.mem_of_getElem? (i := 13) rfl)
theorem wq_1164 : (Cond.code yX12_makes cX12_makes 4 (some .int) : Cond) ∈ ALW := in_23 _ (List.mem_of_getElem? (i := 14) rfl)
theorem wq_1165 : (Cond.fieldLink RX12 378 "CodeLifterModel" "nodes" "I" : Cond) ∈ ALW := in_23 _ (List.mem_of_getElem? (i := 15) rfl)
theorem wq_1166 : (Cond.code yX12_lays cX12_lays 2 none : Cond) ∈ ALW := in_23 _ (List.mem_of_getElem? (i := 16) rfl)
theorem wq_1167 : (Cond.fieldLink RX12 419 "CodeLifterModel" "lying" "I" : Cond) ∈ ALW := in_23 _ (List.mem_of_getElem? (i := 17) rfl)
theorem wq_1168 : (Cond.code yX12_isForked cX12_isForked 2 (some .boolean) : Cond) ∈ ALW := in_23 _ (List.mem_of_getElem? (i := 18) rfl)
theorem wq_1169 : (Cond.code yX12_pops_ cX12_pops_ 1 (some .int) : Cond) ∈ ALW := in_23 _ (List.mem_of_getElem? (i := 19) rfl)
theorem wq_1170 : (Cond.code yX12_isName cX12_isName 2 (some .boolean) : Cond) ∈ ALW := in_23 _ (List.mem_of_getElem? (i := 20) rfl)
theorem wq_1171 : (Cond.code yX12_isOne cX12_isOne 2 (some .boolean) : Cond) ∈ ALW := in_23 _ (List.mem_of_getElem? (i := 21) rfl)
theorem wq_1172 : (Cond.code yX12_isBoth cX12_isBoth 2 (some .boolean) : Cond) ∈ ALW := in_23 _ (List.mem_of_getElem? (i := 22) rfl)
theorem wq_1173 : (Cond.code yX12_hasEffects cX12_hasEffects 2 (some .boolean) : Cond) ∈ ALW := in_23 _ (List.mem_of_getElem? (i := 23) rfl)
theorem wq_1174 : (Cond.methodLink RX12 381 yX12_isOne : Cond) ∈ ALW := in_23 _ (List.mem_of_getElem? (i := 24) rfl)
theorem wq_1175 : (Cond.instanceMethod yX12_isOne : Cond) ∈ ALW := in_23 _ (List.mem_of_getElem? (i := 25) rfl)
theorem wq_1176 : (Cond.selects RX12 yX12_isOne yX12_isOne : Cond) ∈ ALW := in_23 _ (List.mem_of_getElem? (i := 26) rfl)
theorem wq_1177 : (Cond.methodLink RX12 384 yX12_hasEffects : Cond) ∈ ALW := in_23 _ (List.mem_of_getElem? (i := 27) rfl)
theorem wq_1178 : (Cond.instanceMethod yX12_hasEffects : Cond) ∈ ALW := in_23 _ (List.mem_of_getElem? (i := 28) rfl)
theorem wq_1179 : (Cond.selects RX12 yX12_hasEffects yX12_hasEffects : Cond) ∈ ALW := in_23 _ (List.mem_of_getElem? (i := 29) rfl)
theorem wq_1180 : (Cond.methodLink RX12 387 yX12_isBoth : Cond) ∈ ALW := in_23 _ (List.mem_of_getElem? (i := 30) rfl)
theorem wq_1181 : (Cond.instanceMethod yX12_isBoth : Cond) ∈ ALW := in_23 _ (List.mem_of_getElem? (i := 31) rfl)
theorem wq_1182 : (Cond.selects RX12 yX12_isBoth yX12_isBoth : Cond) ∈ ALW := in_23 _ (List.mem_of_getElem? (i := 32) rfl)
theorem wq_1183 : (Cond.code yX12_hasName cX12_hasName 4 (some .boolean) : Cond) ∈ ALW := in_23 _ (List.mem_of_getElem? (i := 33) rfl)
theorem wq_1184 : (Cond.methodLink RX12 390 yX12_hasName : Cond) ∈ ALW := in_23 _ (List.mem_of_getElem? (i := 34) rfl)
theorem wq_1185 : (Cond.instanceMethod yX12_hasName : Cond) ∈ ALW := in_23 _ (List.mem_of_getElem? (i := 35) rfl)
theorem wq_1186 : (Cond.selects RX12 yX12_hasName yX12_hasName : Cond) ∈ ALW := in_23 _ (List.mem_of_getElem? (i := 36) rfl)
theorem wq_1187 : (Cond.code yX12_states cX12_states 4 none : Cond) ∈ ALW := in_23 _ (List.mem_of_getElem? (i := 37) rfl)
theorem wq_1188 : (Cond.fieldLink RX12 407 "CodeLifterModel" "states" "I" : Cond) ∈ ALW := in_23 _ (List.mem_of_getElem? (i := 38) rfl)
theorem wq_1189 : (Cond.code yX12_freshX cX12_freshX 2 (some .int) : Cond) ∈ ALW := in_23 _ (List.mem_of_getElem? (i := 39) rfl)
theorem wq_1190 : (Cond.fieldLink RX12 410 "CodeLifterModel" "xs" "I" : Cond) ∈ ALW := in_23 _ (List.mem_of_getElem? (i := 40) rfl)
theorem wq_1191 : (Cond.methodLink RX12 413 yX12_states : Cond) ∈ ALW := in_23 _ (List.mem_of_getElem? (i := 41) rfl)
theorem wq_1192 : (Cond.instanceMethod yX12_states : Cond) ∈ ALW := in_23 _ (List.mem_of_getElem? (i := 42) rfl)
theorem wq_1193 : (Cond.selects RX12 yX12_states yX12_states : Cond) ∈ ALW := in_23 _ (List.mem_of_getElem? (i := 43) rfl)
theorem wq_1194 : (Cond.methodLink RX12 398 yX12_makes : Cond) ∈ ALW := in_23 _ (List.mem_of_getElem? (i := 44) rfl)
theorem wq_1195 : (Cond.instanceMethod yX12_makes : Cond) ∈ ALW := in_23 _ (List.mem_of_getElem? (i := 45) rfl)
theorem wq_1196 : (Cond.selects RX12 yX12_makes yX12_makes : Cond) ∈ ALW := in_23 _ (List.mem_of_getElem? (i := 46) rfl)
theorem wq_1197 : (Cond.methodLink RX12 416 yX12_freshX : Cond) ∈ ALW := in_23 _ (List.mem_of_getElem? (i := 47) rfl)
theorem wq_1198 : (Cond.instanceMethod yX12_freshX : Cond) ∈ ALW := in_23 _ (List.mem_of_getElem? (i := 48) rfl)
theorem wq_1199 : (Cond.selects RX12 yX12_freshX yX12_freshX : Cond) ∈ ALW := in_23 _ (List.mem_of_getElem? (i := 49) rfl)
theorem wq_1200 : (Cond.code yX12_settles cX12_settles 4 none : Cond) ∈ ALW := in_24 _ (List.mem_of_getElem? (i := 0) rfl)
theorem wq_1201 : (Cond.methodLink RX12 426 yX12_pops_ : Cond) ∈ ALW := in_24 _ (List.mem_of_getElem? (i := 1) rfl)
theorem wq_1202 : (Cond.instanceMethod yX12_pops_ : Cond) ∈ ALW := in_24 _ (List.mem_of_getElem? (i := 2) rfl)
theorem wq_1203 : (Cond.selects RX12 yX12_pops_ yX12_pops_ : Cond) ∈ ALW := in_24 _ (List.mem_of_getElem? (i := 3) rfl)
theorem wq_1204 : (Cond.methodLink RX12 428 yX12_isName : Cond) ∈ ALW := in_24 _ (List.mem_of_getElem? (i := 4) rfl)
theorem wq_1205 : (Cond.instanceMethod yX12_isName : Cond) ∈ ALW := in_24 _ (List.mem_of_getElem? (i := 5) rfl)
theorem wq_1206 : (Cond.selects RX12 yX12_isName yX12_isName : Cond) ∈ ALW := in_24 _ (List.mem_of_getElem? (i := 6) rfl)
theorem wq_1207 : (Cond.methodLink RX12 422 yX12_settles : Cond) ∈ ALW := in_24 _ (List.mem_of_getElem? (i := 7) rfl)
theorem wq_1208 : (Cond.instanceMethod yX12_settles : Cond) ∈ ALW := in_24 _ (List.mem_of_getElem? (i := 8) rfl)
theorem wq_1209 : (Cond.selects RX12 yX12_settles yX12_settles : Cond) ∈ ALW := in_24 _ (List.mem_of_getElem? (i := 9) rfl)
theorem wq_1210 : (Cond.methodLink RX12 431 yX12_lays : Cond) ∈ ALW := in_24 _ (List.mem_of_getElem? (i := 10) rfl)
theorem wq_1211 : (Cond.instanceMethod yX12_lays : Cond) ∈ ALW := in_24 _ (List.mem_of_getElem? (i := 11) rfl)
theorem wq_1212 : (Cond.selects RX12 yX12_lays yX12_lays : Cond) ∈ ALW := in_24 _ (List.mem_of_getElem? (i := 12) rfl)
theorem wq_1213 : (Cond.code yX12_doubles cX12_doubles 2 none : Cond) ∈ ALW := in_24 _ (List.mem_of_getElem? (i := 13) rfl)
theorem wq_1214 : (Cond.code yX12_changes cX12_changes 3 none : Cond) ∈ ALW := in_24 _ (List.mem_of_getElem? (i := 14) rfl)
theorem wq_1215 : (Cond.code yX12_alone cX12_alone 2 none : Cond) ∈ ALW := in_24 _ (List.mem_of_getElem? (i := 15) rfl)
theorem wq_1216 : (Cond.code yX12_tells cX12_tells 4 none : Cond) ∈ ALW := in_24 _ (List.mem_of_getElem? (i := 16) rfl)
theorem wq_1217 : (Cond.methodLink RX12 433 yX12_doubles : Cond) ∈ ALW := in_24 _ (List.mem_of_getElem? (i := 17) rfl)
theorem wq_1218 : (Cond.instanceMethod yX12_doubles : Cond) ∈ ALW := in_24 _ (List.mem_of_getElem? (i := 18) rfl)
theorem wq_1219 : (Cond.selects RX12 yX12_doubles yX12_doubles : Cond) ∈ ALW := in_24 _ (List.mem_of_getElem? (i := 19) rfl)
theorem wq_1220 : (Cond.methodLink RX12 436 yX12_changes : Cond) ∈ ALW := in_24 _ (List.mem_of_getElem? (i := 20) rfl)
theorem wq_1221 : (Cond.instanceMethod yX12_changes : Cond) ∈ ALW := in_24 _ (List.mem_of_getElem? (i := 21) rfl)
theorem wq_1222 : (Cond.selects RX12 yX12_changes yX12_changes : Cond) ∈ ALW := in_24 _ (List.mem_of_getElem? (i := 22) rfl)
theorem wq_1223 : (Cond.methodLink RX12 439 yX12_alone : Cond) ∈ ALW := in_24 _ (List.mem_of_getElem? (i := 23) rfl)
theorem wq_1224 : (Cond.instanceMethod yX12_alone : Cond) ∈ ALW := in_24 _ (List.mem_of_getElem? (i := 24) rfl)
theorem wq_1225 : (Cond.selects RX12 yX12_alone yX12_alone : Cond) ∈ ALW := in_24 _ (List.mem_of_getElem? (i := 25) rfl)
theorem wq_1226 : (Cond.methodLink RX12 444 yX12_tells : Cond) ∈ ALW := in_24 _ (List.mem_of_getElem? (i := 26) rfl)
theorem wq_1227 : (Cond.instanceMethod yX12_tells : Cond) ∈ ALW := in_24 _ (List.mem_of_getElem? (i := 27) rfl)
theorem wq_1228 : (Cond.selects RX12 yX12_tells yX12_tells : Cond) ∈ ALW := in_24 _ (List.mem_of_getElem? (i := 28) rfl)
theorem wq_1229 : (Cond.code yX12_lifts cX12_lifts 4 none : Cond) ∈ ALW := in_24 _ (List.mem_of_getElem? (i := 29) rfl)
theorem wq_1230 : (Cond.code yX12_with cX12_with 5 (some .int) : Cond) ∈ ALW := in_24 _ (List.mem_of_getElem? (i := 30) rfl)
theorem wq_1231 : (Cond.methodLink RX12 394 yX12_with : Cond) ∈ ALW := in_24 _ (List.mem_of_getElem? (i := 31) rfl)
theorem wq_1232 : (Cond.instanceMethod yX12_with : Cond) ∈ ALW := in_24 _ (List.mem_of_getElem? (i := 32) rfl)
theorem wq_1233 : (Cond.selects RX12 yX12_with yX12_with : Cond) ∈ ALW := in_24 _ (List.mem_of_getElem? (i := 33) rfl)
theorem wq_1234 : (Cond.code yX12_endsBlock cX12_endsBlock 7 none : Cond) ∈ ALW := in_24 _ (List.mem_of_getElem? (i := 34) rfl)
theorem wq_1235 : (Cond.fieldLink RX12 447 "CodeLifterModel" "mostNames" "I" : Cond) ∈ ALW := in_24 _ (List.mem_of_getElem? (i := 35) rfl)
theorem wq_1236 : (Cond.methodLink RX12 450 Lib.Math.max.name : Cond) ∈ ALW := in_24 _ (List.mem_of_getElem? (i := 36) rfl)
theorem wq_1237 : (Cond.methodLink RX12 456 yX12_isForked : Cond) ∈ ALW := in_24 _ (List.mem_of_getElem? (i := 37) rfl)
theorem wq_1238 : (Cond.instanceMethod yX12_isForked : Cond) ∈ ALW := in_24 _ (List.mem_of_getElem? (i := 38) rfl)
theorem wq_1239 : (Cond.selects RX12 yX12_isForked yX12_isForked : Cond) ∈ ALW := in_24 _ (List.mem_of_getElem? (i := 39) rfl)
theorem wq_1240 : (Cond.methodLink RX12 459 yX12_lifts : Cond) ∈ ALW := in_24 _ (List.mem_of_getElem? (i := 40) rfl)
theorem wq_1241 : (Cond.instanceMethod yX12_lifts : Cond) ∈ ALW := in_24 _ (List.mem_of_getElem? (i := 41) rfl)
theorem wq_1242 : (Cond.selects RX12 yX12_lifts yX12_lifts : Cond) ∈ ALW := in_24 _ (List.mem_of_getElem? (i := 42) rfl)
theorem wq_1243 : (Cond.methodLink RX12 464 yX12_endsBlock : Cond) ∈ ALW := in_24 _ (List.mem_of_getElem? (i := 43) rfl)
theorem wq_1244 : (Cond.instanceMethod yX12_endsBlock : Cond) ∈ ALW := in_24 _ (List.mem_of_getElem? (i := 44) rfl)
theorem wq_1245 : (Cond.selects RX12 yX12_endsBlock yX12_endsBlock : Cond) ∈ ALW := in_24 _ (List.mem_of_getElem? (i := 45) rfl)
theorem wq_1246 : (Cond.code yX12_laysStatements cX12_laysStatements 3 none : Cond) ∈ ALW := in_24 _ (List.mem_of_getElem? (i := 46) rfl)
theorem wq_1247 : (Cond.code yX12_isTruth cX12_isTruth 2 (some .boolean) : Cond) ∈ ALW := in_24 _ (List.mem_of_getElem? (i := 47) rfl)
theorem wq_1248 : (Cond.code yX12_isLess cX12_isLess 4 (some .boolean) : Cond) ∈ ALW := in_24 _ (List.mem_of_getElem? (i := 48) rfl)
theorem wq_1249 : (Cond.methodLink RX12 470 yX12_isTruth : Cond) ∈ ALW := in_24 _ (List.mem_of_getElem? (i := 49) rfl)
theorem wq_1250 : (Cond.instanceMethod yX12_isTruth : Cond) ∈ ALW := in_25 _ (List.mem_of_getElem? (i := 0) rfl)
theorem wq_1251 : (Cond.selects RX12 yX12_isTruth yX12_isTruth : Cond) ∈ ALW := in_25 _ (List.mem_of_getElem? (i := 1) rfl)
theorem wq_1252 : (Cond.code yX12_laysTypes cX12_laysTypes 3 none : Cond) ∈ ALW := in_25 _ (List.mem_of_getElem? (i := 2) rfl)
theorem wq_1253 : (Cond.methodLink RX12 467 yX12_isLess : Cond) ∈ ALW := in_25 _ (List.mem_of_getElem? (i := 3) rfl)
theorem wq_1254 : (Cond.instanceMethod yX12_isLess : Cond) ∈ ALW := in_25 _ (List.mem_of_getElem? (i := 4) rfl)
theorem wq_1255 : (Cond.selects RX12 yX12_isLess yX12_isLess : Cond) ∈ ALW := in_25 _ (List.mem_of_getElem? (i := 5) rfl)
theorem wq_1256 : (Cond.code yX12_behind cX12_behind 4 (some .int) : Cond) ∈ ALW := in_25 _ (List.mem_of_getElem? (i := 6) rfl)
theorem wq_1257 : (Cond.code yX12_liveAhead cX12_liveAhead 5 (some .int) : Cond) ∈ ALW := in_25 _ (List.mem_of_getElem? (i := 7) rfl)
theorem wq_1258 : (Cond.methodLink RX12 473 yX12_behind : Cond) ∈ ALW := in_25 _ (List.mem_of_getElem? (i := 8) rfl)
theorem wq_1259 : (Cond.instanceMethod yX12_behind : Cond) ∈ ALW := in_25 _ (List.mem_of_getElem? (i := 9) rfl)
theorem wq_1260 : (Cond.selects RX12 yX12_behind yX12_behind : Cond) ∈ ALW := in_25 _ (List.mem_of_getElem? (i := 10) rfl)
theorem wq_1261 : (Cond.code yX12_laysLive cX12_laysLive 4 none : Cond) ∈ ALW := in_25 _ (List.mem_of_getElem? (i := 11) rfl)
theorem wq_1262 : (Cond.methodLink RX12 476 yX12_liveAhead : Cond) ∈ ALW := in_25 _ (List.mem_of_getElem? (i := 12) rfl)
theorem wq_1263 : (Cond.instanceMethod yX12_liveAhead : Cond) ∈ ALW := in_25 _ (List.mem_of_getElem? (i := 13) rfl)
theorem wq_1264 : (Cond.selects RX12 yX12_liveAhead yX12_liveAhead : Cond) ∈ ALW := in_25 _ (List.mem_of_getElem? (i := 14) rfl)
theorem wq_1265 : (Cond.code yX12_edgeOf cX12_edgeOf 4 (some .int) : Cond) ∈ ALW := in_25 _ (List.mem_of_getElem? (i := 15) rfl)
theorem wq_1266 : (Cond.code yX12_line cX12_line 4 none : Cond) ∈ ALW := in_25 _ (List.mem_of_getElem? (i := 16) rfl)
theorem wq_1267 : (Cond.fieldLink RX12 479 "CodeLifterModel" "lines" "I" : Cond) ∈ ALW := in_25 _ (List.mem_of_getElem? (i := 17) rfl)
theorem wq_1268 : (Cond.fieldLink RX12 482 "CodeLifterModel" "deepNow" "I" : Cond) ∈ ALW := in_25 _ (List.mem_of_getElem? (i := 18) rfl)
theorem wq_1269 : (Cond.code yX12_isMerge cX12_isMerge 4 (some .boolean) : Cond) ∈ ALW := in_25 _ (List.mem_of_getElem? (i := 19) rfl)
theorem wq_1270 : (Cond.code yX12_opens cX12_opens 3 none : Cond) ∈ ALW := in_25 _ (List.mem_of_getElem? (i := 20) rfl)
theorem wq_1271 : (Cond.methodLink RX12 485 yX12_line : Cond) ∈ ALW := in_25 _ (List.mem_of_getElem? (i := 21) rfl)
theorem wq_1272 : (Cond.instanceMethod yX12_line : Cond) ∈ ALW := in_25 _ (List.mem_of_getElem? (i := 22) rfl)
theorem wq_1273 : (Cond.selects RX12 yX12_line yX12_line : Cond) ∈ ALW := in_25 _ (List.mem_of_getElem? (i := 23) rfl)
theorem wq_1274 : (Cond.code yX12_closes cX12_closes 3 none : Cond) ∈ ALW := in_25 _ (List.mem_of_getElem? (i := 24) rfl)
theorem wq_1275 : (Cond.methodLink RX12 508 yX12_edgeOf : Cond) ∈ ALW := in_25 _ (List.mem_of_getElem? (i := 25) rfl)
theorem wq_1276 : (Cond.instanceMethod yX12_edgeOf : Cond) ∈ ALW := in_25 _ (List.mem_of_getElem? (i := 26) rfl)
theorem wq_1277 : (Cond.selects RX12 yX12_edgeOf yX12_edgeOf : Cond) ∈ ALW := in_25 _ (List.mem_of_getElem? (i := 27) rfl)
theorem wq_1278 : (Cond.methodLink RX12 497 yX12_isMerge : Cond) ∈ ALW := in_25 _ (List.mem_of_getElem? (i := 28) rfl)
theorem wq_1279 : (Cond.instanceMethod yX12_isMerge : Cond) ∈ ALW := in_25 _ (List.mem_of_getElem? (i := 29) rfl)
theorem wq_1280 : (Cond.selects RX12 yX12_isMerge yX12_isMerge : Cond) ∈ ALW := in_25 _ (List.mem_of_getElem? (i := 30) rfl)
theorem wq_1281 : (Cond.methodLink RX12 503 yX12_tells_ : Cond) ∈ ALW := in_25 _ (List.mem_of_getElem? (i := 31) rfl)
theorem wq_1282 : (Cond.instanceMethod yX12_tells_ : Cond) ∈ ALW := in_25 _ (List.mem_of_getElem? (i := 32) rfl)
theorem wq_1283 : (Cond.selects RX12 yX12_tells_ yX12_tells_ : Cond) ∈ ALW := in_25 _ (List.mem_of_getElem? (i := 33) rfl)
theorem wq_1284 : (Cond.code yX12_inner cX12_inner 4 none : Cond) ∈ ALW := in_25 _ (List.mem_of_getElem? (i := 34) rfl)
theorem wq_1285 : (Cond.methodLink RX12 488 yX12_opens : Cond) ∈ ALW := in_25 _ (List.mem_of_getElem? (i := 35) rfl)
theorem wq_1286 : (Cond.instanceMethod yX12_opens : Cond) ∈ ALW := in_25 _ (List.mem_of_getElem? (i := 36) rfl)
theorem wq_1287 : (Cond.selects RX12 yX12_opens yX12_opens : Cond) ∈ ALW := in_25 _ (List.mem_of_getElem? (i := 37) rfl)
theorem wq_1288 : (Cond.methodLink RX12 505 yX12_goes : Cond) ∈ ALW := in_25 _ (List.mem_of_getElem? (i := 38) rfl)
theorem wq_1289 : (Cond.instanceMethod yX12_goes : Cond) ∈ ALW := in_25 _ (List.mem_of_getElem? (i := 39) rfl)
theorem wq_1290 : (Cond.selects RX12 yX12_goes yX12_goes : Cond) ∈ ALW := in_25 _ (List.mem_of_getElem? (i := 40) rfl)
theorem wq_1291 : (Cond.methodLink RX12 494 yX12_closes : Cond) ∈ ALW := in_25 _ (List.mem_of_getElem? (i := 41) rfl)
theorem wq_1292 : (Cond.instanceMethod yX12_closes : Cond) ∈ ALW := in_25 _ (List.mem_of_getElem? (i := 42) rfl)
theorem wq_1293 : (Cond.selects RX12 yX12_closes yX12_closes : Cond) ∈ ALW := in_25 _ (List.mem_of_getElem? (i := 43) rfl)
theorem wq_1294 : (Cond.code yX12_merges cX12_merges 5 none : Cond) ∈ ALW := in_25 _ (List.mem_of_getElem? (i := 44) rfl)
theorem wq_1295 : (Cond.methodLink RX12 500 yX12_inner : Cond) ∈ ALW := in_25 _ (List.mem_of_getElem? (i := 45) rfl)
theorem wq_1296 : (Cond.instanceMethod yX12_inner : Cond) ∈ ALW := in_25 _ (List.mem_of_getElem? (i := 46) rfl)
theorem wq_1297 : (Cond.selects RX12 yX12_inner yX12_inner : Cond) ∈ ALW := in_25 _ (List.mem_of_getElem? (i := 47) rfl)
theorem wq_1298 : (Cond.methodLink RX12 491 yX12_merges : Cond) ∈ ALW := in_25 _ (List.mem_of_getElem? (i := 48) rfl)
theorem wq_1299 : (Cond.instanceMethod yX12_merges : Cond) ∈ ALW := in_25 _ (List.mem_of_getElem? (i := 49) rfl)
theorem wq_1300 : (Cond.selects RX12 yX12_merges yX12_merges : Cond) ∈ ALW := in_26 _ (List.mem_of_getElem? (i := 0) rfl)
theorem wq_1301 : (Cond.code yX12_tells_ cX12_tells_ 2 none : Cond) ∈ ALW := in_26 _ (List.mem_of_getElem? (i := 1) rfl)
theorem wq_1302 : (Cond.code yX12_goes cX12_goes 4 none : Cond) ∈ ALW := in_26 _ (List.mem_of_getElem? (i := 2) rfl)
theorem wq_1303 : (Cond.code yX12_endOfIf cX12_endOfIf 3 (some .int) : Cond) ∈ ALW := in_26 _ (List.mem_of_getElem? (i := 3) rfl)
theorem wq_1304 : (Cond.code yX12_isIdle cX12_isIdle 3 (some .boolean) : Cond) ∈ ALW := in_26 _ (List.mem_of_getElem? (i := 4) rfl)
theorem wq_1305 : (Cond.methodLink RX12 511 yX12_endOfIf : Cond) ∈ ALW := in_26 _ (List.mem_of_getElem? (i := 5) rfl)
theorem wq_1306 : (Cond.instanceMethod yX12_endOfIf : Cond) ∈ ALW := in_26 _ (List.mem_of_getElem? (i := 6) rfl)
theorem wq_1307 : (Cond.selects RX12 yX12_endOfIf yX12_endOfIf : Cond) ∈ ALW := in_26 _ (List.mem_of_getElem? (i := 7) rfl)
theorem wq_1308 : (Cond.code yX12_thins cX12_thins 3 none : Cond) ∈ ALW := in_26 _ (List.mem_of_getElem? (i := 8) rfl)
theorem wq_1309 : (Cond.methodLink RX12 514 yX12_isIdle : Cond) ∈ ALW := in_26 _ (List.mem_of_getElem? (i := 9) rfl)
theorem wq_1310 : (Cond.instanceMethod yX12_isIdle : Cond) ∈ ALW := in_26 _ (List.mem_of_getElem? (i := 10) rfl)
theorem wq_1311 : (Cond.selects RX12 yX12_isIdle yX12_isIdle : Cond) ∈ ALW := in_26 _ (List.mem_of_getElem? (i := 11) rfl)
theorem wq_1312 : (Cond.methodLink RX12 517 yX12_thins : Cond) ∈ ALW := in_26 _ (List.mem_of_getElem? (i := 12) rfl)
theorem wq_1313 : (Cond.instanceMethod yX12_thins : Cond) ∈ ALW := in_26 _ (List.mem_of_getElem? (i := 13) rfl)
theorem wq_1314 : (Cond.selects RX12 yX12_thins yX12_thins : Cond) ∈ ALW := in_26 _ (List.mem_of_getElem? (i := 14) rfl)
theorem wq_1315 : (Cond.code yX12_laysLines cX12_laysLines 2 none : Cond) ∈ ALW := in_26 _ (List.mem_of_getElem? (i := 15) rfl)
theorem wq_1316 : (Cond.methodLink RX12 520 yX12_laysBlocks : Cond) ∈ ALW := in_26 _ (List.mem_of_getElem? (i := 16) rfl)
theorem wq_1317 : (Cond.instanceMethod yX12_laysBlocks : Cond) ∈ ALW := in_26 _ (List.mem_of_getElem? (i := 17) rfl)
theorem wq_1318 : (Cond.selects RX12 yX12_laysBlocks yX12_laysBlocks : Cond) ∈ ALW := in_26 _ (List.mem_of_getElem? (i := 18) rfl)
theorem wq_1319 : (Cond.methodLink RX12 523 yX12_laysEdges : Cond) ∈ ALW := in_26 _ (List.mem_of_getElem? (i := 19) rfl)
theorem wq_1320 : (Cond.instanceMethod yX12_laysEdges : Cond) ∈ ALW := in_26 _ (List.mem_of_getElem? (i := 20) rfl)
theorem wq_1321 : (Cond.selects RX12 yX12_laysEdges yX12_laysEdges : Cond) ∈ ALW := in_26 _ (List.mem_of_getElem? (i := 21) rfl)
theorem wq_1322 : (Cond.methodLink RX12 526 yX12_laysJumps : Cond) ∈ ALW := in_26 _ (List.mem_of_getElem? (i := 22) rfl)
theorem wq_1323 : (Cond.instanceMethod yX12_laysJumps : Cond) ∈ ALW := in_26 _ (List.mem_of_getElem? (i := 23) rfl)
theorem wq_1324 : (Cond.selects RX12 yX12_laysJumps yX12_laysJumps : Cond) ∈ ALW := in_26 _ (List.mem_of_getElem? (i := 24) rfl)
theorem wq_1325 : (Cond.methodLink RX12 529 yX12_laysOrder : Cond) ∈ ALW := in_26 _ (List.mem_of_getElem? (i := 25) rfl)
theorem wq_1326 : (Cond.instanceMethod yX12_laysOrder : Cond) ∈ ALW := in_26 _ (List.mem_of_getElem? (i := 26) rfl)
theorem wq_1327 : (Cond.selects RX12 yX12_laysOrder yX12_laysOrder : Cond) ∈ ALW := in_26 _ (List.mem_of_getElem? (i := 27) rfl)
theorem wq_1328 : (Cond.methodLink RX12 532 yX12_laysAbove : Cond) ∈ ALW := in_26 _ (List.mem_of_getElem? (i := 28) rfl)
theorem wq_1329 : (Cond.instanceMethod yX12_laysAbove : Cond) ∈ ALW := in_26 _ (List.mem_of_getElem? (i := 29) rfl)
theorem wq_1330 : (Cond.selects RX12 yX12_laysAbove yX12_laysAbove : Cond) ∈ ALW := in_26 _ (List.mem_of_getElem? (i := 30) rfl)
theorem wq_1331 : (Cond.methodLink RX12 535 yX12_laysLoops : Cond) ∈ ALW := in_26 _ (List.mem_of_getElem? (i := 31) rfl)
theorem wq_1332 : (Cond.instanceMethod yX12_laysLoops : Cond) ∈ ALW := in_26 _ (List.mem_of_getElem? (i := 32) rfl)
theorem wq_1333 : (Cond.selects RX12 yX12_laysLoops yX12_laysLoops : Cond) ∈ ALW := in_26 _ (List.mem_of_getElem? (i := 33) rfl)
theorem wq_1334 : (Cond.methodLink RX12 538 yX12_laysStatements : Cond) ∈ ALW := in_26 _ (List.mem_of_getElem? (i := 34) rfl)
theorem wq_1335 : (Cond.instanceMethod yX12_laysStatements : Cond) ∈ ALW := in_26 _ (List.mem_of_getElem? (i := 35) rfl)
theorem wq_1336 : (Cond.selects RX12 yX12_laysStatements yX12_laysStatements : Cond) ∈ ALW := in_26 _ (List.mem_of_getElem? (i := 36) rfl)
theorem wq_1337 : (Cond.methodLink RX12 541 yX12_laysTypes : Cond) ∈ ALW := in_26 _ (List.mem_of_getElem? (i := 37) rfl)
theorem wq_1338 : (Cond.instanceMethod yX12_laysTypes : Cond) ∈ ALW := in_26 _ (List.mem_of_getElem? (i := 38) rfl)
theorem wq_1339 : (Cond.selects RX12 yX12_laysTypes yX12_laysTypes : Cond) ∈ ALW := in_26 _ (List.mem_of_getElem? (i := 39) rfl)
theorem wq_1340 : (Cond.methodLink RX12 544 yX12_laysLive : Cond) ∈ ALW := in_26 _ (List.mem_of_getElem? (i := 40) rfl)
theorem wq_1341 : (Cond.instanceMethod yX12_laysLive : Cond) ∈ ALW := in_26 _ (List.mem_of_getElem? (i := 41) rfl)
theorem wq_1342 : (Cond.selects RX12 yX12_laysLive yX12_laysLive : Cond) ∈ ALW := in_26 _ (List.mem_of_getElem? (i := 42) rfl)
theorem wq_1343 : (Cond.methodLink RX12 547 yX12_laysLines : Cond) ∈ ALW := in_26 _ (List.mem_of_getElem? (i := 43) rfl)
theorem wq_1344 : (Cond.instanceMethod yX12_laysLines : Cond) ∈ ALW := in_26 _ (List.mem_of_getElem? (i := 44) rfl)
theorem wq_1345 : (Cond.selects RX12 yX12_laysLines yX12_laysLines : Cond) ∈ ALW := in_26 _ (List.mem_of_getElem? (i := 45) rfl)
theorem wq_1346 : (Cond.code yX12_lays_ cX12_lays_ 1 none : Cond) ∈ ALW := in_26 _ (List.mem_of_getElem? (i := 46) rfl)
theorem wq_1347 : (Cond.fieldLink RX12 292 "CodeLifterModel" "isThere" "Z" : Cond) ∈ ALW := in_26 _ (List.mem_of_getElem? (i := 47) rfl)
theorem wq_1348 : (Cond.methodLink RX12 296 yX12_lays_ : Cond) ∈ ALW := in_26 _ (List.mem_of_getElem? (i := 48) rfl)
theorem wq_1349 : (Cond.instanceMethod yX12_lays_ : Cond) ∈ ALW := in_26 _ (List.mem_of_getElem? (i := 49) rfl)
theorem wq_1350 : (Cond.selects RX12 yX12_lays_ yX12_lays_ : Cond) ∈ ALW := in_27 _ (List.mem_of_getElem? (i := 0) rfl)
theorem wq_1351 : (Cond.code yX12_takes cX12_takes 2 (some .int) : Cond) ∈ ALW := in_27 _ (List.mem_of_getElem? (i := 1) rfl)
theorem wq_1352 : (Cond.methodLink RX12 302 yX12_tries : Cond) ∈ ALW := in_27 _ (List.mem_of_getElem? (i := 2) rfl)
theorem wq_1353 : (Cond.instanceMethod yX12_tries : Cond) ∈ ALW := in_27 _ (List.mem_of_getElem? (i := 3) rfl)
theorem wq_1354 : (Cond.selects RX12 yX12_tries yX12_tries : Cond) ∈ ALW := in_27 _ (List.mem_of_getElem? (i := 4) rfl)
theorem wq_1355 : (Cond.methodLink RX12 306 yX12_wrong : Cond) ∈ ALW := in_27 _ (List.mem_of_getElem? (i := 5) rfl)
theorem wq_1356 : (Cond.instanceMethod yX12_wrong : Cond) ∈ ALW := in_27 _ (List.mem_of_getElem? (i := 6) rfl)
theorem wq_1357 : (Cond.selects RX12 yX12_wrong yX12_wrong : Cond) ∈ ALW := in_27 _ (List.mem_of_getElem? (i := 7) rfl)
theorem wq_1358 : (Cond.methodLink RX12 309 yX12_takes : Cond) ∈ ALW := in_27 _ (List.mem_of_getElem? (i := 8) rfl)
theorem wq_1359 : (Cond.instanceMethod yX12_takes : Cond) ∈ ALW := in_27 _ (List.mem_of_getElem? (i := 9) rfl)
theorem wq_1360 : (Cond.selects RX12 yX12_takes yX12_takes : Cond) ∈ ALW := in_27 _ (List.mem_of_getElem? (i := 10) rfl)
theorem wq_1361 : (Cond.code yX12_code cX12_code 2 (some .int) : Cond) ∈ ALW := in_27 _ (List.mem_of_getElem? (i := 11) rfl)
theorem wq_1362 : (Cond.methodLink RX12 312 yX12_isIn : Cond) ∈ ALW := in_27 _ (List.mem_of_getElem? (i := 12) rfl)
theorem wq_1363 : (Cond.static yX12_isIn : Cond) ∈ ALW := in_27 _ (List.mem_of_getElem? (i := 13) rfl)
theorem wq_1364 : (Cond.code yX12_isCode cX12_isCode 3 (some .boolean) : Cond) ∈ ALW := in_27 _ (List.mem_of_getElem? (i := 14) rfl)
theorem wq_1365 : (Cond.methodLink RX12 316 yX12_isCode : Cond) ∈ ALW := in_27 _ (List.mem_of_getElem? (i := 15) rfl)
theorem wq_1366 : (Cond.static yX12_isCode : Cond) ∈ ALW := in_27 _ (List.mem_of_getElem? (i := 16) rfl)
theorem wq_1367 : (Cond.code yX12_put cX12_put 5 (some .int) : Cond) ∈ ALW := in_27 _ (List.mem_of_getElem? (i := 17) rfl)
theorem wq_1368 : (Cond.code yX12_within cX12_within 2 (some .int) : Cond) ∈ ALW := in_27 _ (List.mem_of_getElem? (i := 18) rfl)
theorem wq_1369 : (Cond.methodLink RX12 401 yX12_within : Cond) ∈ ALW := in_27 _ (List.mem_of_getElem? (i := 19) rfl)
theorem wq_1370 : (Cond.instanceMethod yX12_within : Cond) ∈ ALW := in_27 _ (List.mem_of_getElem? (i := 20) rfl)
theorem wq_1371 : (Cond.selects RX12 yX12_within yX12_within : Cond) ∈ ALW := in_27 _ (List.mem_of_getElem? (i := 21) rfl)
theorem wq_1372 : (Cond.code yX12_areAlike cX12_areAlike 3 (some .boolean) : Cond) ∈ ALW := in_27 _ (List.mem_of_getElem? (i := 22) rfl)
theorem wq_1373 : (Cond.methodLink RX12 404 yX12_areAlike : Cond) ∈ ALW := in_27 _ (List.mem_of_getElem? (i := 23) rfl)
theorem wq_1374 : (Cond.instanceMethod yX12_areAlike : Cond) ∈ ALW := in_27 _ (List.mem_of_getElem? (i := 24) rfl)
theorem wq_1375 : (Cond.selects RX12 yX12_areAlike yX12_areAlike : Cond) ∈ ALW := in_27 _ (List.mem_of_getElem? (i := 25) rfl)
theorem wq_1376 : (Cond.code yX12_writes cX12_writes 2 none : Cond) ∈ ALW := in_27 _ (List.mem_of_getElem? (i := 26) rfl)
theorem wq_1377 : (Cond.fieldLink RX12 550 "CodeLifterModel" "spells" "I" : Cond) ∈ ALW := in_27 _ (List.mem_of_getElem? (i := 27) rfl)
theorem wq_1378 : (Cond.methodLink RX12 553 yX12_writes : Cond) ∈ ALW := in_27 _ (List.mem_of_getElem? (i := 28) rfl)
theorem wq_1379 : (Cond.instanceMethod yX12_writes : Cond) ∈ ALW := in_27 _ (List.mem_of_getElem? (i := 29) rfl)
theorem wq_1380 : (Cond.selects RX12 yX12_writes yX12_writes : Cond) ∈ ALW := in_27 _ (List.mem_of_getElem? (i := 30) rfl)
theorem wq_1381 : (Cond.code yX12_writesWord cX12_writesWord 3 none : Cond) ∈ ALW := in_27 _ (List.mem_of_getElem? (i := 31) rfl)
theorem wq_1382 : (Cond.code yX12_writesNumber cX12_writesNumber 2 none : Cond) ∈ ALW := in_27 _ (List.mem_of_getElem? (i := 32) rfl)
theorem wq_1383 : (Cond.methodLink RX12 556 yX12_writesNumber : Cond) ∈ ALW := in_27 _ (List.mem_of_getElem? (i := 33) rfl)
theorem wq_1384 : (Cond.instanceMethod yX12_writesNumber : Cond) ∈ ALW := in_27 _ (List.mem_of_getElem? (i := 34) rfl)
theorem wq_1385 : (Cond.selects RX12 yX12_writesNumber yX12_writesNumber : Cond) ∈ ALW := in_27 _ (List.mem_of_getElem? (i := 35) rfl)
theorem wq_1386 : (Cond.code yX12_writesName cX12_writesName 3 none : Cond) ∈ ALW := in_27 _ (List.mem_of_getElem? (i := 36) rfl)
theorem wq_1387 : (Cond.methodLink RX12 559 yX12_writesName : Cond) ∈ ALW := in_27 _ (List.mem_of_getElem? (i := 37) rfl)
theorem wq_1388 : (Cond.instanceMethod yX12_writesName : Cond) ∈ ALW := in_27 _ (List.mem_of_getElem? (i := 38) rfl)
theorem wq_1389 : (Cond.selects RX12 yX12_writesName yX12_writesName : Cond) ∈ ALW := in_27 _ (List.mem_of_getElem? (i := 39) rfl)
theorem wq_1390 : (Cond.methodLink RX12 564 yX12_writesWord : Cond) ∈ ALW := in_27 _ (List.mem_of_getElem? (i := 40) rfl)
theorem wq_1391 : (Cond.instanceMethod yX12_writesWord : Cond) ∈ ALW := in_27 _ (List.mem_of_getElem? (i := 41) rfl)
theorem wq_1392 : (Cond.selects RX12 yX12_writesWord yX12_writesWord : Cond) ∈ ALW := in_27 _ (List.mem_of_getElem? (i := 42) rfl)
theorem wq_1393 : (Cond.methodLink RX12 568 yX12_spells : Cond) ∈ ALW := in_27 _ (List.mem_of_getElem? (i := 43) rfl)
theorem wq_1394 : (Cond.instanceMethod yX12_spells : Cond) ∈ ALW := in_27 _ (List.mem_of_getElem? (i := 44) rfl)
theorem wq_1395 : (Cond.selects RX12 yX12_spells yX12_spells : Cond) ∈ ALW := in_27 _ (List.mem_of_getElem? (i := 45) rfl)
theorem wq_1396 : (Cond.code yX12_spells cX12_spells 2 none : Cond) ∈ ALW := in_27 _ (List.mem_of_getElem? (i := 46) rfl)
theorem wq_1397 : (Cond.code yX12_spellsStatement cX12_spellsStatement 2 none : Cond) ∈ ALW := in_27 _ (List.mem_of_getElem? (i := 47) rfl)
theorem wq_1398 : (Cond.code yX12_spellsBlock cX12_spellsBlock 4 none : Cond) ∈ ALW := in_27 _ (List.mem_of_getElem? (i := 48) rfl)
theorem wq_1399 : (Cond.methodLink RX12 576 yX12_spellsStatement : Cond) ∈ ALW := in_27 _ (List.mem_of_getElem? (i := 49) rfl)
theorem wq_1400 : (Cond.instanceMethod yX12_spellsStatement : Cond) ∈ ALW := in_28 _ (List.mem_of_getElem? (i := 0) rfl)
theorem wq_1401 : (Cond.selects RX12 yX12_spellsStatement yX12_spellsStatement : Cond) ∈ ALW := in_28 _ (List.mem_of_getElem? (i := 1) rfl)
theorem wq_1402 : (Cond.methodLink RX12 581 yX12_spellsBlock : Cond) ∈ ALW := in_28 _ (List.mem_of_getElem? (i := 2) rfl)
theorem wq_1403 : (Cond.instanceMethod yX12_spellsBlock : Cond) ∈ ALW := in_28 _ (List.mem_of_getElem? (i := 3) rfl)
theorem wq_1404 : (Cond.selects RX12 yX12_spellsBlock yX12_spellsBlock : Cond) ∈ ALW := in_28 _ (List.mem_of_getElem? (i := 4) rfl)
theorem wq_1405 : (Cond.code yX12_spellsLine cX12_spellsLine 3 none : Cond) ∈ ALW := in_28 _ (List.mem_of_getElem? (i := 5) rfl)
theorem wq_1406 : (Cond.code yX12_told cX12_told 2 (some .int) : Cond) ∈ ALW := in_28 _ (List.mem_of_getElem? (i := 6) rfl)
theorem wq_1407 : (Cond.code yX12_isLine cX12_isLine 2 (some .boolean) : Cond) ∈ ALW := in_28 _ (List.mem_of_getElem? (i := 7) rfl)
theorem wq_1408 : (Cond.methodLink RX12 603 yX12_isLine : Cond) ∈ ALW := in_28 _ (List.mem_of_getElem? (i := 8) rfl)
theorem wq_1409 : (Cond.instanceMethod yX12_isLine : Cond) ∈ ALW := in_28 _ (List.mem_of_getElem? (i := 9) rfl)
theorem wq_1410 : (Cond.selects RX12 yX12_isLine yX12_isLine : Cond) ∈ ALW := in_28 _ (List.mem_of_getElem? (i := 10) rfl)
theorem wq_1411 : (Cond.methodLink RX12 606 yX12_spellsLine : Cond) ∈ ALW := in_28 _ (List.mem_of_getElem? (i := 11) rfl)
theorem wq_1412 : (Cond.instanceMethod yX12_spellsLine : Cond) ∈ ALW := in_28 _ (List.mem_of_getElem? (i := 12) rfl)
theorem wq_1413 : (Cond.selects RX12 yX12_spellsLine yX12_spellsLine : Cond) ∈ ALW := in_28 _ (List.mem_of_getElem? (i := 13) rfl)
theorem wq_1414 : (Cond.methodLink RX12 609 yX12_told : Cond) ∈ ALW := in_28 _ (List.mem_of_getElem? (i := 14) rfl)
theorem wq_1415 : (Cond.instanceMethod yX12_told : Cond) ∈ ALW := in_28 _ (List.mem_of_getElem? (i := 15) rfl)
theorem wq_1416 : (Cond.selects RX12 yX12_told yX12_told : Cond) ∈ ALW := in_28 _ (List.mem_of_getElem? (i := 16) rfl)
theorem wq_1417 : (Cond.code yX12_spell cX12_spell 3 (some .int) : Cond) ∈ ALW := in_28 _ (List.mem_of_getElem? (i := 17) rfl)
theorem wq_1418 : (Cond.code yX12_line_ cX12_line_ 3 (some .int) : Cond) ∈ ALW := in_28 _ (List.mem_of_getElem? (i := 18) rfl)
theorem wq_1419 : (Cond.constantLong RX12 612 (2) : Cond) ∈ ALW := in_28 _ (List.mem_of_getElem? (i := 19) rfl)
theorem wq_1420 : (Cond.constant RX12 614 (-1000000) : Cond) ∈ ALW := in_28 _ (List.mem_of_getElem? (i := 20) rfl)
theorem wq_1421 : (Cond.code yX12_isBlock cX12_isBlock 2 (some .boolean) : Cond) ∈ ALW := in_28 _ (List.mem_of_getElem? (i := 21) rfl)
theorem wq_1422 : (Cond.methodLink RX12 615 yX12_isBlock : Cond) ∈ ALW := in_28 _ (List.mem_of_getElem? (i := 22) rfl)
theorem wq_1423 : (Cond.instanceMethod yX12_isBlock : Cond) ∈ ALW := in_28 _ (List.mem_of_getElem? (i := 23) rfl)
theorem wq_1424 : (Cond.selects RX12 yX12_isBlock yX12_isBlock : Cond) ∈ ALW := in_28 _ (List.mem_of_getElem? (i := 24) rfl)
theorem wq_1425 : (Cond.code yX12_condition cX12_condition 3 (some .int) : Cond) ∈ ALW := in_28 _ (List.mem_of_getElem? (i := 25) rfl)
theorem wq_1426 : (Cond.constantLong RX12 618 (4) : Cond) ∈ ALW := in_28 _ (List.mem_of_getElem? (i := 26) rfl)
theorem wq_1427 : (Cond.code yX12_statement cX12_statement 6 (some .int) : Cond) ∈ ALW := in_28 _ (List.mem_of_getElem? (i := 27) rfl)
theorem wq_1428 : (Cond.code yX12_countLoops cX12_countLoops 3 (some .int) : Cond) ∈ ALW := in_28 _ (List.mem_of_getElem? (i := 28) rfl)
theorem wq_1429 : (Cond.code yX12_countMerges cX12_countMerges 3 (some .int) : Cond) ∈ ALW := in_28 _ (List.mem_of_getElem? (i := 29) rfl)
theorem wq_1430 : (Cond.code yX12_countDead cX12_countDead 3 (some .int) : Cond) ∈ ALW := in_28 _ (List.mem_of_getElem? (i := 30) rfl)
theorem wq_1431 : (Cond.fieldLink RX12 623 "CodeLifterModel" "metMany" "I" : Cond) ∈ ALW := in_28 _ (List.mem_of_getElem? (i := 31) rfl)
theorem wq_1432 : (Cond.methodLink RX12 620 yX12_meets : Cond) ∈ ALW := in_28 _ (List.mem_of_getElem? (i := 32) rfl)
theorem wq_1433 : (Cond.instanceMethod yX12_meets : Cond) ∈ ALW := in_28 _ (List.mem_of_getElem? (i := 33) rfl)
theorem wq_1434 : (Cond.selects RX12 yX12_meets yX12_meets : Cond) ∈ ALW := in_28 _ (List.mem_of_getElem? (i := 34) rfl)
theorem wq_1435 : (Cond.code yX12_meets cX12_meets 3 none : Cond) ∈ ALW := in_28 _ (List.mem_of_getElem? (i := 35) rfl)
theorem wq_1436 : (Cond.code yX12_unlike cX12_unlike 2 (some .int) : Cond) ∈ ALW := in_28 _ (List.mem_of_getElem? (i := 36) rfl)
theorem wq_1437 : (Cond.methodLink RX12 626 yX12_countLoops : Cond) ∈ ALW := in_28 _ (List.mem_of_getElem? (i := 37) rfl)
theorem wq_1438 : (Cond.instanceMethod yX12_countLoops : Cond) ∈ ALW := in_28 _ (List.mem_of_getElem? (i := 38) rfl)
theorem wq_1439 : (Cond.selects RX12 yX12_countLoops yX12_countLoops : Cond) ∈ ALW := in_28 _ (List.mem_of_getElem? (i := 39) rfl)
theorem wq_1440 : (Cond.methodLink RX12 629 yX12_countMerges : Cond) ∈ ALW := in_28 _ (List.mem_of_getElem? (i := 40) rfl)
theorem wq_1441 : (Cond.instanceMethod yX12_countMerges : Cond) ∈ ALW := in_28 _ (List.mem_of_getElem? (i := 41) rfl)
theorem wq_1442 : (Cond.selects RX12 yX12_countMerges yX12_countMerges : Cond) ∈ ALW := in_28 _ (List.mem_of_getElem? (i := 42) rfl)
theorem wq_1443 : (Cond.methodLink RX12 632 yX12_unlike : Cond) ∈ ALW := in_28 _ (List.mem_of_getElem? (i := 43) rfl)
theorem wq_1444 : (Cond.instanceMethod yX12_unlike : Cond) ∈ ALW := in_28 _ (List.mem_of_getElem? (i := 44) rfl)
theorem wq_1445 : (Cond.selects RX12 yX12_unlike yX12_unlike : Cond) ∈ ALW := in_28 _ (List.mem_of_getElem? (i := 45) rfl)
theorem wq_1446 : (Cond.methodLink RX12 635 yX12_countDead : Cond) ∈ ALW := in_28 _ (List.mem_of_getElem? (i := 46) rfl)
theorem wq_1447 : (Cond.instanceMethod yX12_countDead : Cond) ∈ ALW := in_28 _ (List.mem_of_getElem? (i := 47) rfl)
theorem wq_1448 : (Cond.selects RX12 yX12_countDead yX12_countDead : Cond) ∈ ALW := in_28 _ (List.mem_of_getElem? (i := 48) rfl)
theorem wq_1449 : (Cond.code yX12_count cX12_count 2 (some .int) : Cond) ∈ ALW := in_28 _ (List.mem_of_getElem? (i := 49) rfl)
theorem wq_1450 : (Cond.code yX12_instruction_ cX12_instruction_ 3 (some .int) : Cond) ∈ ALW := in_29 _ (List.mem_of_getElem? (i := 0) rfl)
theorem wq_1451 : (Cond.constantLong RX12 638 (5) : Cond) ∈ ALW := in_29 _ (List.mem_of_getElem? (i := 1) rfl)
theorem wq_1452 : (Cond.code yX12_loopsOf cX12_loopsOf 4 (some .int) : Cond) ∈ ALW := in_29 _ (List.mem_of_getElem? (i := 2) rfl)
theorem wq_1453 : (Cond.code yX12_innermost cX12_innermost 4 (some .int) : Cond) ∈ ALW := in_29 _ (List.mem_of_getElem? (i := 3) rfl)
theorem wq_1454 : (Cond.methodLink RX12 640 yX12_ones : Cond) ∈ ALW := in_29 _ (List.mem_of_getElem? (i := 4) rfl)
theorem wq_1455 : (Cond.static yX12_ones : Cond) ∈ ALW := in_29 _ (List.mem_of_getElem? (i := 5) rfl)
theorem wq_1456 : (Cond.constantLong RX12 644 (12) : Cond) ∈ ALW := in_29 _ (List.mem_of_getElem? (i := 6) rfl)
theorem wq_1457 : (Cond.methodLink RX12 646 yX12_innermost : Cond) ∈ ALW := in_29 _ (List.mem_of_getElem? (i := 7) rfl)
theorem wq_1458 : (Cond.instanceMethod yX12_innermost : Cond) ∈ ALW := in_29 _ (List.mem_of_getElem? (i := 8) rfl)
theorem wq_1459 : (Cond.selects RX12 yX12_innermost yX12_innermost : Cond) ∈ ALW := in_29 _ (List.mem_of_getElem? (i := 9) rfl)
theorem wq_1460 : (Cond.methodLink RX12 649 yX12_loopsOf : Cond) ∈ ALW := in_29 _ (List.mem_of_getElem? (i := 10) rfl)
theorem wq_1461 : (Cond.instanceMethod yX12_loopsOf : Cond) ∈ ALW := in_29 _ (List.mem_of_getElem? (i := 11) rfl)
theorem wq_1462 : (Cond.selects RX12 yX12_loopsOf yX12_loopsOf : Cond) ∈ ALW := in_29 _ (List.mem_of_getElem? (i := 12) rfl)
theorem wq_1463 : (Cond.code yX12_block cX12_block 3 (some .int) : Cond) ∈ ALW := in_29 _ (List.mem_of_getElem? (i := 13) rfl)
theorem wq_1464 : (Cond.code yX12_edge cX12_edge 3 (some .int) : Cond) ∈ ALW := in_29 _ (List.mem_of_getElem? (i := 14) rfl)
theorem wq_1465 : (Cond.code yX12_dominates cX12_dominates 3 (some .boolean) : Cond) ∈ ALW := in_29 _ (List.mem_of_getElem? (i := 15) rfl)
theorem wq_1466 : (Cond.code yX12_loop cX12_loop 2 (some .long) : Cond) ∈ ALW := in_29 _ (List.mem_of_getElem? (i := 16) rfl)
theorem wq_1467 : (Cond.constantLong RX12 652 (-1) : Cond) ∈ ALW := in_29 _ (List.mem_of_getElem? (i := 17) rfl)
theorem wq_1468 : (Cond.code yX12_type cX12_type 3 (some .int) : Cond) ∈ ALW := in_29 _ (List.mem_of_getElem? (i := 18) rfl)
theorem wq_1469 : (Cond.code yX12_comesTo cX12_comesTo 6 (some .long) : Cond) ∈ ALW := in_29 _ (List.mem_of_getElem? (i := 19) rfl)
theorem wq_1470 : (Cond.code yX12_far cX12_far 9 (some .int) : Cond) ∈ ALW := in_29 _ (List.mem_of_getElem? (i := 20) rfl)
theorem wq_1471 : (Cond.code yX12_mostLines cX12_mostLines 4 (some .int) : Cond) ∈ ALW := in_29 _ (List.mem_of_getElem? (i := 21) rfl)
theorem wq_1472 : (Cond.code yX12_deepest cX12_deepest 3 (some .int) : Cond) ∈ ALW := in_29 _ (List.mem_of_getElem? (i := 22) rfl)
theorem wq_1473 : (Cond.code yX12_mostLoops cX12_mostLoops 3 (some .int) : Cond) ∈ ALW := in_29 _ (List.mem_of_getElem? (i := 23) rfl)
theorem wq_1474 : (Cond.code yX12_mostWithin cX12_mostWithin 3 (some .int) : Cond) ∈ ALW := in_29 _ (List.mem_of_getElem? (i := 24) rfl)
theorem wq_1475 : (Cond.code yX12_mostOnStack cX12_mostOnStack 3 (some .int) : Cond) ∈ ALW := in_29 _ (List.mem_of_getElem? (i := 25) rfl)
theorem wq_1476 : (Cond.code yX12_longestBlock cX12_longestBlock 3 (some .int) : Cond) ∈ ALW := in_29 _ (List.mem_of_getElem? (i := 26) rfl)
theorem wq_1477 : (Cond.code yX12_truths cX12_truths 3 (some .int) : Cond) ∈ ALW := in_29 _ (List.mem_of_getElem? (i := 27) rfl)
theorem wq_1478 : (Cond.methodLink RX12 654 yX12_mostLoops : Cond) ∈ ALW := in_29 _ (List.mem_of_getElem? (i := 28) rfl)
theorem wq_1479 : (Cond.instanceMethod yX12_mostLoops : Cond) ∈ ALW := in_29 _ (List.mem_of_getElem? (i := 29) rfl)
theorem wq_1480 : (Cond.selects RX12 yX12_mostLoops yX12_mostLoops : Cond) ∈ ALW := in_29 _ (List.mem_of_getElem? (i := 30) rfl)
theorem wq_1481 : (Cond.methodLink RX12 657 yX12_deepest : Cond) ∈ ALW := in_29 _ (List.mem_of_getElem? (i := 31) rfl)
theorem wq_1482 : (Cond.instanceMethod yX12_deepest : Cond) ∈ ALW := in_29 _ (List.mem_of_getElem? (i := 32) rfl)
theorem wq_1483 : (Cond.selects RX12 yX12_deepest yX12_deepest : Cond) ∈ ALW := in_29 _ (List.mem_of_getElem? (i := 33) rfl)
theorem wq_1484 : (Cond.methodLink RX12 660 yX12_mostLines : Cond) ∈ ALW := in_29 _ (List.mem_of_getElem? (i := 34) rfl)
theorem wq_1485 : (Cond.instanceMethod yX12_mostLines : Cond) ∈ ALW := in_29 _ (List.mem_of_getElem? (i := 35) rfl)
theorem wq_1486 : (Cond.selects RX12 yX12_mostLines yX12_mostLines : Cond) ∈ ALW := in_29 _ (List.mem_of_getElem? (i := 36) rfl)
theorem wq_1487 : (Cond.methodLink RX12 663 yX12_mostWithin : Cond) ∈ ALW := in_29 _ (List.mem_of_getElem? (i := 37) rfl)
theorem wq_1488 : (Cond.instanceMethod yX12_mostWithin : Cond) ∈ ALW := in_29 _ (List.mem_of_getElem? (i := 38) rfl)
theorem wq_1489 : (Cond.selects RX12 yX12_mostWithin yX12_mostWithin : Cond) ∈ ALW := in_29 _ (List.mem_of_getElem? (i := 39) rfl)
theorem wq_1490 : (Cond.methodLink RX12 666 yX12_mostOnStack : Cond) ∈ ALW := in_29 _ (List.mem_of_getElem? (i := 40) rfl)
theorem wq_1491 : (Cond.instanceMethod yX12_mostOnStack : Cond) ∈ ALW := in_29 _ (List.mem_of_getElem? (i := 41) rfl)
theorem wq_1492 : (Cond.selects RX12 yX12_mostOnStack yX12_mostOnStack : Cond) ∈ ALW := in_29 _ (List.mem_of_getElem? (i := 42) rfl)
theorem wq_1493 : (Cond.methodLink RX12 669 yX12_longestBlock : Cond) ∈ ALW := in_29 _ (List.mem_of_getElem? (i := 43) rfl)
theorem wq_1494 : (Cond.instanceMethod yX12_longestBlock : Cond) ∈ ALW := in_29 _ (List.mem_of_getElem? (i := 44) rfl)
theorem wq_1495 : (Cond.selects RX12 yX12_longestBlock yX12_longestBlock : Cond) ∈ ALW := in_29 _ (List.mem_of_getElem? (i := 45) rfl)
theorem wq_1496 : (Cond.methodLink RX12 672 yX12_truths : Cond) ∈ ALW := in_29 _ (List.mem_of_getElem? (i := 46) rfl)
theorem wq_1497 : (Cond.instanceMethod yX12_truths : Cond) ∈ ALW := in_29 _ (List.mem_of_getElem? (i := 47) rfl)
theorem wq_1498 : (Cond.selects RX12 yX12_truths yX12_truths : Cond) ∈ ALW := in_29 _ (List.mem_of_getElem? (i := 48) rfl)
theorem wq_1499 : (Cond.code yX12_most cX12_most 2 (some .int) : Cond) ∈ ALW := in_29 _ (List.mem_of_getElem? (i := 49) rfl)
theorem wq_1500 : (Cond.code yX12_begins cX12_begins 6 none : Cond) ∈ ALW := in_30 _ (List.mem_of_getElem? (i := 0) rfl)
theorem wq_1501 : (Cond.fieldLink RX12 675 "CodeLifterModel" "outputMany" "I" : Cond) ∈ ALW := in_30 _ (List.mem_of_getElem? (i := 1) rfl)
theorem wq_1502 : (Cond.fieldLink RX12 678 "CodeLifterModel" "inputs" "I" : Cond) ∈ ALW := in_30 _ (List.mem_of_getElem? (i := 2) rfl)
theorem wq_1503 : (Cond.fieldLink RX12 681 "CodeLifterModel" "entered" "I" : Cond) ∈ ALW := in_30 _ (List.mem_of_getElem? (i := 3) rfl)
theorem wq_1504 : (Cond.fieldLink RX12 684 "CodeLifterModel" "ended" "I" : Cond) ∈ ALW := in_30 _ (List.mem_of_getElem? (i := 4) rfl)
theorem wq_1505 : (Cond.fieldLink RX12 687 "CodeLifterModel" "thrownOut" "I" : Cond) ∈ ALW := in_30 _ (List.mem_of_getElem? (i := 5) rfl)
theorem wq_1506 : (Cond.fieldLink RX12 690 "CodeLifterModel" "seed" "I" : Cond) ∈ ALW := in_30 _ (List.mem_of_getElem? (i := 6) rfl)
theorem wq_1507 : (Cond.fieldLink RX12 693 "CodeLifterModel" "mostBlocks" "I" : Cond) ∈ ALW := in_30 _ (List.mem_of_getElem? (i := 7) rfl)
theorem wq_1508 : (Cond.code yX12_input cX12_input 1 (some .int) : Cond) ∈ ALW := in_30 _ (List.mem_of_getElem? (i := 8) rfl)
theorem wq_1509 : (Cond.constant RX12 696 (1103515245) : Cond) ∈ ALW := in_30 _ (List.mem_of_getElem? (i := 9) rfl)
theorem wq_1510 : (Cond.code yX12_outputs cX12_outputs 2 none : Cond) ∈ ALW := in_30 _ (List.mem_of_getElem? (i := 10) rfl)
theorem wq_1511 : (Cond.code yX12_enters cX12_enters 1 none : Cond) ∈ ALW := in_30 _ (List.mem_of_getElem? (i := 11) rfl)
theorem wq_1512 : (Cond.code yX12_throwsIt cX12_throwsIt 2 none : Cond) ∈ ALW := in_30 _ (List.mem_of_getElem? (i := 12) rfl)
theorem wq_1513 : (Cond.fieldLink RX12 697 "CodeLifterModel" "isThrown" "Z" : Cond) ∈ ALW := in_30 _ (List.mem_of_getElem? (i := 13) rfl)
theorem wq_1514 : (Cond.fieldLink RX12 700 "CodeLifterModel" "thrownValue" "I" : Cond) ∈ ALW := in_30 _ (List.mem_of_getElem? (i := 14) rfl)
theorem wq_1515 : (Cond.code yX12_result cX12_result 4 (some .int) : Cond) ∈ ALW := in_30 _ (List.mem_of_getElem? (i := 15) rfl)
theorem wq_1516 : (Cond.methodLink RX12 703 yX12_throwsIt : Cond) ∈ ALW := in_30 _ (List.mem_of_getElem? (i := 16) rfl)
theorem wq_1517 : (Cond.instanceMethod yX12_throwsIt : Cond) ∈ ALW := in_30 _ (List.mem_of_getElem? (i := 17) rfl)
theorem wq_1518 : (Cond.selects RX12 yX12_throwsIt yX12_throwsIt : Cond) ∈ ALW := in_30 _ (List.mem_of_getElem? (i := 18) rfl)
theorem wq_1519 : (Cond.code yX12_caught cX12_caught 3 (some .int) : Cond) ∈ ALW := in_30 _ (List.mem_of_getElem? (i := 19) rfl)
theorem wq_1520 : (Cond.fieldLink RX12 706 "CodeLifterModel" "piled" "I" : Cond) ∈ ALW := in_30 _ (List.mem_of_getElem? (i := 20) rfl)
theorem wq_1521 : (Cond.methodLink RX12 709 yX12_input : Cond) ∈ ALW := in_30 _ (List.mem_of_getElem? (i := 21) rfl)
theorem wq_1522 : (Cond.instanceMethod yX12_input : Cond) ∈ ALW := in_30 _ (List.mem_of_getElem? (i := 22) rfl)
theorem wq_1523 : (Cond.selects RX12 yX12_input yX12_input : Cond) ∈ ALW := in_30 _ (List.mem_of_getElem? (i := 23) rfl)
theorem wq_1524 : (Cond.methodLink RX12 712 yX12_outputs : Cond) ∈ ALW := in_30 _ (List.mem_of_getElem? (i := 24) rfl)
theorem wq_1525 : (Cond.instanceMethod yX12_outputs : Cond) ∈ ALW := in_30 _ (List.mem_of_getElem? (i := 25) rfl)
theorem wq_1526 : (Cond.selects RX12 yX12_outputs yX12_outputs : Cond) ∈ ALW := in_30 _ (List.mem_of_getElem? (i := 26) rfl)
theorem wq_1527 : (Cond.methodLink RX12 714 yX12_result : Cond) ∈ ALW := in_30 _ (List.mem_of_getElem? (i := 27) rfl)
theorem wq_1528 : (Cond.instanceMethod yX12_result : Cond) ∈ ALW := in_30 _ (List.mem_of_getElem? (i := 28) rfl)
theorem wq_1529 : (Cond.selects RX12 yX12_result yX12_result : Cond) ∈ ALW := in_30 _ (List.mem_of_getElem? (i := 29) rfl)
theorem wq_1530 : (Cond.methodLink RX12 717 yX12_caught : Cond) ∈ ALW := in_30 _ (List.mem_of_getElem? (i := 30) rfl)
theorem wq_1531 : (Cond.instanceMethod yX12_caught : Cond) ∈ ALW := in_30 _ (List.mem_of_getElem? (i := 31) rfl)
theorem wq_1532 : (Cond.selects RX12 yX12_caught yX12_caught : Cond) ∈ ALW := in_30 _ (List.mem_of_getElem? (i := 32) rfl)
theorem wq_1533 : (Cond.code yX12_next cX12_next 7 (some .int) : Cond) ∈ ALW := in_30 _ (List.mem_of_getElem? (i := 33) rfl)
theorem wq_1534 : (Cond.methodLink RX12 720 yX12_enters : Cond) ∈ ALW := in_30 _ (List.mem_of_getElem? (i := 34) rfl)
theorem wq_1535 : (Cond.instanceMethod yX12_enters : Cond) ∈ ALW := in_30 _ (List.mem_of_getElem? (i := 35) rfl)
theorem wq_1536 : (Cond.selects RX12 yX12_enters yX12_enters : Cond) ∈ ALW := in_30 _ (List.mem_of_getElem? (i := 36) rfl)
theorem wq_1537 : (Cond.methodLink RX12 723 yX12_next : Cond) ∈ ALW := in_30 _ (List.mem_of_getElem? (i := 37) rfl)
theorem wq_1538 : (Cond.instanceMethod yX12_next : Cond) ∈ ALW := in_30 _ (List.mem_of_getElem? (i := 38) rfl)
theorem wq_1539 : (Cond.selects RX12 yX12_next yX12_next : Cond) ∈ ALW := in_30 _ (List.mem_of_getElem? (i := 39) rfl)
theorem wq_1540 : (Cond.code yX12_runsCode cX12_runsCode 2 none : Cond) ∈ ALW := in_30 _ (List.mem_of_getElem? (i := 40) rfl)
theorem wq_1541 : (Cond.methodLink RX12 726 yX12_valueOf : Cond) ∈ ALW := in_30 _ (List.mem_of_getElem? (i := 41) rfl)
theorem wq_1542 : (Cond.instanceMethod yX12_valueOf : Cond) ∈ ALW := in_30 _ (List.mem_of_getElem? (i := 42) rfl)
theorem wq_1543 : (Cond.selects RX12 yX12_valueOf yX12_valueOf : Cond) ∈ ALW := in_30 _ (List.mem_of_getElem? (i := 43) rfl)
theorem wq_1544 : (Cond.code yX12_valueOf cX12_valueOf 4 (some .int) : Cond) ∈ ALW := in_30 _ (List.mem_of_getElem? (i := 44) rfl)
theorem wq_1545 : (Cond.code yX12_endOf cX12_endOf 4 (some .int) : Cond) ∈ ALW := in_30 _ (List.mem_of_getElem? (i := 45) rfl)
theorem wq_1546 : (Cond.code yX12_lineWith cX12_lineWith 4 (some .int) : Cond) ∈ ALW := in_30 _ (List.mem_of_getElem? (i := 46) rfl)
theorem wq_1547 : (Cond.code yX12_otherwiseOf cX12_otherwiseOf 3 (some .int) : Cond) ∈ ALW := in_30 _ (List.mem_of_getElem? (i := 47) rfl)
theorem wq_1548 : (Cond.methodLink RX12 729 yX12_lineWith : Cond) ∈ ALW := in_30 _ (List.mem_of_getElem? (i := 48) rfl)
theorem wq_1549 : (Cond.instanceMethod yX12_lineWith : Cond) ∈ ALW := in_30 _ (List.mem_of_getElem? (i := 49) rfl)
theorem wq_1550 : (Cond.selects RX12 yX12_lineWith yX12_lineWith : Cond) ∈ ALW := in_31 _ (List.mem_of_getElem? (i := 0) rfl)
theorem wq_1551 : (Cond.code yX12_puts cX12_puts 3 none : Cond) ∈ ALW := in_31 _ (List.mem_of_getElem? (i := 1) rfl)
theorem wq_1552 : (Cond.code yX12_wayTo cX12_wayTo 3 (some .int) : Cond) ∈ ALW := in_31 _ (List.mem_of_getElem? (i := 2) rfl)
theorem wq_1553 : (Cond.methodLink RX12 741 yX12_endOf : Cond) ∈ ALW := in_31 _ (List.mem_of_getElem? (i := 3) rfl)
theorem wq_1554 : (Cond.instanceMethod yX12_endOf : Cond) ∈ ALW := in_31 _ (List.mem_of_getElem? (i := 4) rfl)
theorem wq_1555 : (Cond.selects RX12 yX12_endOf yX12_endOf : Cond) ∈ ALW := in_31 _ (List.mem_of_getElem? (i := 5) rfl)
theorem wq_1556 : (Cond.methodLink RX12 738 yX12_wayTo : Cond) ∈ ALW := in_31 _ (List.mem_of_getElem? (i := 6) rfl)
theorem wq_1557 : (Cond.instanceMethod yX12_wayTo : Cond) ∈ ALW := in_31 _ (List.mem_of_getElem? (i := 7) rfl)
theorem wq_1558 : (Cond.selects RX12 yX12_wayTo yX12_wayTo : Cond) ∈ ALW := in_31 _ (List.mem_of_getElem? (i := 8) rfl)
theorem wq_1559 : (Cond.code yX12_caughtLine cX12_caughtLine 3 (some .int) : Cond) ∈ ALW := in_31 _ (List.mem_of_getElem? (i := 9) rfl)
theorem wq_1560 : (Cond.methodLink RX12 732 yX12_puts : Cond) ∈ ALW := in_31 _ (List.mem_of_getElem? (i := 10) rfl)
theorem wq_1561 : (Cond.instanceMethod yX12_puts : Cond) ∈ ALW := in_31 _ (List.mem_of_getElem? (i := 11) rfl)
theorem wq_1562 : (Cond.selects RX12 yX12_puts yX12_puts : Cond) ∈ ALW := in_31 _ (List.mem_of_getElem? (i := 12) rfl)
theorem wq_1563 : (Cond.methodLink RX12 735 yX12_caughtLine : Cond) ∈ ALW := in_31 _ (List.mem_of_getElem? (i := 13) rfl)
theorem wq_1564 : (Cond.instanceMethod yX12_caughtLine : Cond) ∈ ALW := in_31 _ (List.mem_of_getElem? (i := 14) rfl)
theorem wq_1565 : (Cond.selects RX12 yX12_caughtLine yX12_caughtLine : Cond) ∈ ALW := in_31 _ (List.mem_of_getElem? (i := 15) rfl)
theorem wq_1566 : (Cond.code yX12_states_ cX12_states_ 5 (some .int) : Cond) ∈ ALW := in_31 _ (List.mem_of_getElem? (i := 16) rfl)
theorem wq_1567 : (Cond.methodLink RX12 744 yX12_states_ : Cond) ∈ ALW := in_31 _ (List.mem_of_getElem? (i := 17) rfl)
theorem wq_1568 : (Cond.instanceMethod yX12_states_ : Cond) ∈ ALW := in_31 _ (List.mem_of_getElem? (i := 18) rfl)
theorem wq_1569 : (Cond.selects RX12 yX12_states_ yX12_states_ : Cond) ∈ ALW := in_31 _ (List.mem_of_getElem? (i := 19) rfl)
theorem wq_1570 : (Cond.methodLink RX12 746 yX12_otherwiseOf : Cond) ∈ ALW := in_31 _ (List.mem_of_getElem? (i := 20) rfl)
theorem wq_1571 : (Cond.instanceMethod yX12_otherwiseOf : Cond) ∈ ALW := in_31 _ (List.mem_of_getElem? (i := 21) rfl)
theorem wq_1572 : (Cond.selects RX12 yX12_otherwiseOf yX12_otherwiseOf : Cond) ∈ ALW := in_31 _ (List.mem_of_getElem? (i := 22) rfl)
theorem wq_1573 : (Cond.code yX12_nextLine cX12_nextLine 3 (some .int) : Cond) ∈ ALW := in_31 _ (List.mem_of_getElem? (i := 23) rfl)
theorem wq_1574 : (Cond.methodLink RX12 749 yX12_nextLine : Cond) ∈ ALW := in_31 _ (List.mem_of_getElem? (i := 24) rfl)
theorem wq_1575 : (Cond.instanceMethod yX12_nextLine : Cond) ∈ ALW := in_31 _ (List.mem_of_getElem? (i := 25) rfl)
theorem wq_1576 : (Cond.selects RX12 yX12_nextLine yX12_nextLine : Cond) ∈ ALW := in_31 _ (List.mem_of_getElem? (i := 26) rfl)
theorem wq_1577 : (Cond.code yX12_runsLines cX12_runsLines 2 none : Cond) ∈ ALW := in_31 _ (List.mem_of_getElem? (i := 27) rfl)
theorem wq_1578 : (Cond.constantLong RX12 752 (200) : Cond) ∈ ALW := in_31 _ (List.mem_of_getElem? (i := 28) rfl)
theorem wq_1579 : (Cond.methodLink RX12 754 yX12_begins : Cond) ∈ ALW := in_31 _ (List.mem_of_getElem? (i := 29) rfl)
theorem wq_1580 : (Cond.instanceMethod yX12_begins : Cond) ∈ ALW := in_31 _ (List.mem_of_getElem? (i := 30) rfl)
theorem wq_1581 : (Cond.selects RX12 yX12_begins yX12_begins : Cond) ∈ ALW := in_31 _ (List.mem_of_getElem? (i := 31) rfl)
theorem wq_1582 : (Cond.methodLink RX12 758 yX12_runsCode : Cond) ∈ ALW := in_31 _ (List.mem_of_getElem? (i := 32) rfl)
theorem wq_1583 : (Cond.instanceMethod yX12_runsCode : Cond) ∈ ALW := in_31 _ (List.mem_of_getElem? (i := 33) rfl)
theorem wq_1584 : (Cond.selects RX12 yX12_runsCode yX12_runsCode : Cond) ∈ ALW := in_31 _ (List.mem_of_getElem? (i := 34) rfl)
theorem wq_1585 : (Cond.methodLink RX12 761 yX12_runsLines : Cond) ∈ ALW := in_31 _ (List.mem_of_getElem? (i := 35) rfl)
theorem wq_1586 : (Cond.instanceMethod yX12_runsLines : Cond) ∈ ALW := in_31 _ (List.mem_of_getElem? (i := 36) rfl)
theorem wq_1587 : (Cond.selects RX12 yX12_runsLines yX12_runsLines : Cond) ∈ ALW := in_31 _ (List.mem_of_getElem? (i := 37) rfl)
theorem wq_1588 : (Cond.code yX12_hasRun cX12_hasRun 6 (some .boolean) : Cond) ∈ ALW := in_31 _ (List.mem_of_getElem? (i := 38) rfl)
theorem wq_1589 : (Cond.code yX12_folded cX12_folded 3 (some .int) : Cond) ∈ ALW := in_31 _ (List.mem_of_getElem? (i := 39) rfl)
theorem wq_1590 : (Cond.constantLong RX12 764 (11) : Cond) ∈ ALW := in_31 _ (List.mem_of_getElem? (i := 40) rfl)
theorem wq_1591 : (Cond.methodLink RX12 766 yX12_hasRun : Cond) ∈ ALW := in_31 _ (List.mem_of_getElem? (i := 41) rfl)
theorem wq_1592 : (Cond.instanceMethod yX12_hasRun : Cond) ∈ ALW := in_31 _ (List.mem_of_getElem? (i := 42) rfl)
theorem wq_1593 : (Cond.selects RX12 yX12_hasRun yX12_hasRun : Cond) ∈ ALW := in_31 _ (List.mem_of_getElem? (i := 43) rfl)
theorem wq_1594 : (Cond.methodLink RX12 770 yX12_folded : Cond) ∈ ALW := in_31 _ (List.mem_of_getElem? (i := 44) rfl)
theorem wq_1595 : (Cond.instanceMethod yX12_folded : Cond) ∈ ALW := in_31 _ (List.mem_of_getElem? (i := 45) rfl)
theorem wq_1596 : (Cond.selects RX12 yX12_folded yX12_folded : Cond) ∈ ALW := in_31 _ (List.mem_of_getElem? (i := 46) rfl)
theorem wq_1597 : (Cond.code yX12_run cX12_run 7 (some .int) : Cond) ∈ ALW := in_31 _ (List.mem_of_getElem? (i := 47) rfl)
theorem wq_1598 : (Cond.code yX12_output cX12_output 7 (some .int) : Cond) ∈ ALW := in_31 _ (List.mem_of_getElem? (i := 48) rfl)
theorem wq_1599 : (Cond.code yJ9_max_7cf53 cJ9_max_7cf53 2 (some .int) : Cond) ∈ ALW := in_31 _ (List.mem_of_getElem? (i := 49) rfl)
def spL : List (Nat × String) := [(50, "loop B"), (52, "{"), (58, "block B"), (60, "if "), (71, "else{"), (73, "}"), (75, "break B"), (77, ";"), (79, "continue B"), (81, "goto B"), (83, "try{"), (85, "}catch B"), (87, "B"), (89, ":"), (101, "="), (106, "out "), (108, "throw "), (110, "return"), (123, "in"), (129, "("), (134, ")")]
def spN : Nat := 21
def spLen : List Nat := [6, 1, 7, 3, 5, 1, 7, 1, 10, 6, 4, 8, 1, 1, 1, 4, 6, 6, 2, 1, 1]
def spByt : List (List Int32) := [[108, 111, 111, 112, 32, 66], [123], [98, 108, 111, 99, 107, 32, 66], [105, 102, 32], [101, 108, 115, 101, 123], [125], [98, 114, 101, 97, 107, 32, 66], [59], [99, 111, 110, 116, 105, 110, 117, 101, 32, 66], [103, 111, 116, 111, 32, 66], [116, 114, 121, 123], [125, 99, 97, 116, 99, 104, 32, 66], [66], [58], [61], [111, 117, 116, 32], [116, 104, 114, 111, 119, 32], [114, 101, 116, 117, 114, 110], [105, 110], [40], [41]]
def smL : List (Nat × String) := [(202, "+-*/%<=!ndpwiotr"), (223, "klsgz"), (244, "+-*/%<=w"), (246, "!ndpszot"), (248, "kl+-*/%<=!ni"), (250, "/%t"), (252, "gtr"), (319, "gztr"), (442, "+-*/%<="), (462, "tr"), (562, "in"), (570, "out "), (572, "throw "), (574, "return"), (579, "loop "), (585, "block "), (587, "if "), (589, "else{"), (591, "break "), (593, "continue "), (595, "goto "), (597, "try{"), (599, "}catch "), (601, "")]
def smN : Nat := 24
def smLen : List Nat := [16, 5, 8, 8, 12, 3, 3, 4, 7, 2, 2, 4, 6, 6, 5, 6, 3, 5, 6, 9, 5, 4, 7, 0]
def smByt : List (List Int32) := [[43, 45, 42, 47, 37, 60, 61, 33, 110, 100, 112, 119, 105, 111, 116, 114], [107, 108, 115, 103, 122], [43, 45, 42, 47, 37, 60, 61, 119], [33, 110, 100, 112, 115, 122, 111, 116], [107, 108, 43, 45, 42, 47, 37, 60, 61, 33, 110, 105], [47, 37, 116], [103, 116, 114], [103, 122, 116, 114], [43, 45, 42, 47, 37, 60, 61], [116, 114], [105, 110], [111, 117, 116, 32], [116, 104, 114, 111, 119, 32], [114, 101, 116, 117, 114, 110], [108, 111, 111, 112, 32], [98, 108, 111, 99, 107, 32], [105, 102, 32], [101, 108, 115, 101, 123], [98, 114, 101, 97, 107, 32], [99, 111, 110, 116, 105, 110, 117, 101, 32], [103, 111, 116, 111, 32], [116, 114, 121, 123], [125, 99, 97, 116, 99, 104, 32], []]
def nwL : List (String × Nat × MethodName × String) := [(RX0, 125, yX11_isIn, RX11), (RX1, 122, yX11_isBinary, RX11), (RX1, 155, yX7_replace, RX11), (RX1, 165, yX11_isUnary, RX11), (RX10, 80, yX11_oneIf, RX11), (RX2, 74, yX11_isIn, RX11), (RX3, 59, yX11_isIn, RX11), (RX3, 94, yX11_isBinary, RX11), (RX5, 131, yX11_isBinary, RX11), (RX5, 135, yX11_dividesByZero, RX11), (RX5, 139, yX11_outcome, RX11), (RX6, 125, yX11_isBinary, RX11), (RX7, 35, yX11_isBinary, RX11), (RX7, 47, yX11_isUnary, RX11), (RX8, 112, yX11_isIn, RX11), (RX9, 44, yX11_isBare, RX11)]
/-- the array classes -/
abbrev TYL (y : Nat → ClassId) : List (ClassId × FieldType) := [(y 0, .int), (y 1, .byte), (y 2, .boolean), (y 3, .long)]
/-- links to nest mates' members -/
def NW (U : State) : Prop := ∀ q : String × Nat × MethodName × String, q ∈ nwL → va_Nw (.methodLinkNest q.1 q.2.1 q.2.2.1 q.2.2.2) U
theorem NW.same {u U : State} (h : u.vm = U.vm) (hN : NW u) : NW U := fun q hq => va_Nw.same rfl h (hN q hq)
theorem NW.warm {s U : State} (hW : s.WarmedH U.vm) (hN : NW s) : NW U := fun q hq => va_Nw.warmM hW (hN q hq)
/-- the texts, and what the texts' own methods look at -/
def SS (ad av : Nat → Nat) (A : Nat → Prop) (U : State) (H : Heap) : Prop :=
  (∀ (i k : Nat) (tx : String), spL[i]? = some (k, tx) → vk_R RX6 k tx (ad i) U) ∧ (∀ (i k : Nat) (tx : String), smL[i]? = some (k, tx) → vk_R RX12 k tx (ad (100 + i)) U) ∧
  vk_S spN spLen spByt ad av A U H ∧ vk_S smN smLen smByt (fun i => ad (100 + i)) (fun i => av (100 + i)) A U H ∧
  va_Z "java/lang/String" "COMPACT_STRINGS" "Z" (.int 1) A U H ∧ va_Zq "jdk/internal/util/Preconditions" "SIOOBE_FORMATTER" "Ljava/util/function/BiFunction;" A U H
theorem zq_kept {C n d : String} {A : Nat → Prop} {U : State} {H H1 : Heap} (h : va_Zq C n d A U H) (hq : ∀ a : Nat, a < H.size → ¬ A a → H1[a]? = H[a]?) : va_Zq C n d A U H1 := by
  rcases h with h | ⟨t, h⟩
  · exact Or.inl (h.kept hq)
  · exact Or.inr ⟨t, h.kept hq⟩
theorem zq_narrow {C n d : String} {A B : Nat → Prop} {U : State} {H : Heap} (h : va_Zq C n d A U H) (hAB : ∀ q, B q → A q) : va_Zq C n d B U H := by
  rcases h with h | ⟨t, h⟩
  · exact Or.inl (h.narrow hAB)
  · exact Or.inr ⟨t, h.narrow hAB⟩
theorem zq_moved {C n d : String} {A : Nat → Prop} {u U : State} {H : Heap} (hvm : u.vm.Alike U.vm) (h : va_Zq C n d A u H) : va_Zq C n d A U H := by
  rcases h with h | ⟨t, h⟩
  · exact Or.inl (h.moved hvm)
  · exact Or.inr ⟨t, h.moved hvm⟩
theorem SS.kept {ad av : Nat → Nat} {A : Nat → Prop} {U : State} {H H1 : Heap} (h : SS ad av A U H) (hq : ∀ a : Nat, a < H.size → ¬ A a → H1[a]? = H[a]?) : SS ad av A U H1 := ⟨h.1, h.2.1, h.2.2.1.kept hq, h.2.2.2.1.kept hq, h.2.2.2.2.1.kept hq, zq_kept h.2.2.2.2.2 hq⟩
theorem SS.narrow {ad av : Nat → Nat} {A B : Nat → Prop} {U : State} {H : Heap} (h : SS ad av A U H) (hAB : ∀ q, B q → A q) : SS ad av B U H := ⟨h.1, h.2.1, h.2.2.1.narrow hAB, h.2.2.2.1.narrow hAB, h.2.2.2.2.1.narrow hAB, zq_narrow h.2.2.2.2.2 hAB⟩
theorem SS.warm {ad av : Nat → Nat} {A : Nat → Prop} {s U : State} {H : Heap} (hW : s.WarmedH U.vm) (h : SS ad av A s H) : SS ad av A U H := ⟨fun i k tx hi => (h.1 i k tx hi).warm hW, fun i k tx hi => (h.2.1 i k tx hi).warm hW, h.2.2.1.moved hW.alike, h.2.2.2.1.moved hW.alike, h.2.2.2.2.1.moved hW.alike, zq_moved hW.alike h.2.2.2.2.2⟩
theorem SS.same {ad av : Nat → Nat} {A : Nat → Prop} {u U : State} {H : Heap} (hv : u.vm = U.vm) (h : SS ad av A u H) : SS ad av A U H := by
  have ha : u.vm.Alike U.vm := by rw [hv]; exact Vm.Alike.refl _
  exact ⟨fun i k tx hi => (h.1 i k tx hi).same hv.symm, fun i k tx hi => (h.2.1 i k tx hi).same hv.symm, h.2.2.1.moved ha, h.2.2.2.1.moved ha, h.2.2.2.2.1.moved ha, zq_moved ha h.2.2.2.2.2⟩
theorem ss_Rp {ad av : Nat → Nat} {A : Nat → Prop} {U : State} {H : Heap} (h : SS ad av A U H) (i : Nat) {k : Nat} {tx : String} (hi : spL[i]? = some (k, tx)) : vk_R RX6 k tx (ad i) U := h.1 i k tx hi
theorem ss_Rm {ad av : Nat → Nat} {A : Nat → Prop} {U : State} {H : Heap} (h : SS ad av A U H) (i : Nat) {k : Nat} {tx : String} (hi : smL[i]? = some (k, tx)) : vk_R RX12 k tx (ad (100 + i)) U := h.2.1 i k tx hi
/-- a sign of a text -/
def chS (i : Nat) (k : Int32) : Int32 := if i < 100 then (spByt.getD i []).getD k.toNatClampNeg 0 else (smByt.getD (i - 100) []).getD k.toNatClampNeg 0
/-- a text's length -/
def lnS (i : Nat) : Nat := if i < 100 then spLen.getD i 0 else smLen.getD (i - 100) 0
/-- a world on the heap, within a method; at a method's start; at its end -/
abbrev CZ (D : va_G) (A : Nat → Prop) (s : State) (H : Heap) (locs : List Loc) (w : va_W) : Prop := va_P D vwCl w H ∧ va_D A w ∧ va_S A s.heap H locs
def PZ (D : va_G) (y : Nat → ClassId) (ad av : Nat → Nat) (w : va_W) (sz : Nat) (U : State) : Prop := U.heap.size = sz ∧ va_P D vwCl w U.heap ∧ va_K D vwCl (TYL y) U ∧ va_D (fun _ => True) w ∧ NW U ∧ SS ad av (va_A w sz) U U.heap
abbrev BZ (D : va_G) (w w2 : va_W) (sz : Nat) (t : State) : Prop := va_P D vwCl w2 t.heap ∧ va_D (va_A w sz) w2
abbrev QZi (D : va_G) (w : va_W) (v : Int32) (w2 : va_W) (sz : Nat) : Array Value → State → Outcome → State → Prop := va_Qi (fun (r : Int32) (_ : Unit) => r = v) (fun (_ : Unit) (t : State) => BZ D w w2 sz t) (va_A w sz)
abbrev QZl (D : va_G) (w : va_W) (v : Int64) (w2 : va_W) (sz : Nat) : Array Value → State → Outcome → State → Prop := va_Ql (fun (r : Int64) (_ : Unit) => r = v) (fun (_ : Unit) (t : State) => BZ D w w2 sz t) (va_A w sz)
abbrev QZv (D : va_G) (w w2 : va_W) (sz : Nat) : Array Value → State → Outcome → State → Prop := va_Qv (fun (_ : Unit) => True) (fun (_ : Unit) (t : State) => BZ D w w2 sz t) (va_A w sz)
theorem blZ {D : va_G} {y : Nat → ClassId} {ad av : Nat → Nat} {w : va_W} {sz : Nat} {vs : List Value} : FrameBlind (va_Pc vs (PZ D y ad av w sz)) := by
  intro a U g mk h
  obtain ⟨h0, h1, h2, h3, h4, h5, h6⟩ := h
  exact ⟨h0, h1, h2, va_K.moved (u := U) (U := U.calling g mk a) (Vm.Alike.refl U.vm) h3, h4, NW.same rfl h5, SS.same (u := U) (U := U.calling g mk a) rfl h6⟩
theorem frZ {D : va_G} {A : Nat → Prop} {s : State} {H : Heap} {locs : List Loc} {w : va_W} (hC : CZ D A s H locs w) (hA : ∀ q, s.heap.size ≤ q → A q) : ∀ q, va_A w H.size q → A q := by
  intro q h
  rcases h with ⟨k, e, h⟩ | h
  · exact hC.2.1.2 k (q, e) h
  · exact hA q (Nat.le_trans hC.2.2.1 h)
theorem prZ {D : va_G} {y : Nat → ClassId} {ad av : Nat → Nat} {A : Nat → Prop} {s : State} {H : Heap} {locs : List Loc} {w : va_W} {vs : List Value} (hK : va_K D vwCl (TYL y) s) (hN : NW s) (hV : SS ad av A s s.heap) (hA : ∀ q, s.heap.size ≤ q → A q) (hC : CZ D A s H locs w) : ∀ U : State, U.heap = H → s.WarmedH U.vm → va_Pc vs (PZ D y ad av w H.size) vs.toArray U := by
  intro U hU hW
  refine ⟨rfl, by rw [hU], by rw [hU]; exact hC.1, hK.moved hW.alike, hC.2.1.weaken (fun _ _ _ _ => trivial), hN.warm hW, ?_⟩
  rw [hU]
  exact ((hV.kept hC.2.2.2.1).narrow (frZ hC hA)).warm hW
theorem rv_inv {α : Type} {a b : α} {s t : Sto} (h : some (a, s) = some (b, t)) : a = b ∧ s = t := by
  have h := Option.some.inj h
  exact ⟨congrArg Prod.fst h, congrArg Prod.snd h⟩
theorem gdV {own C : String} {idx : Nat} {y' : MethodName} {cd : Cond} (w1 : Cond.methodLink own idx y' ∈ ALW) (w2 : Cond.instanceMethod y' ∈ ALW) (w3 : Cond.selects C y' y' ∈ ALW) (w4 : Cond.initialized C ∈ ALW) (w5 : cd ∈ ALW) : GoodIn ALW (wsV own idx C y' (cd :: ALW)) := by
  intro w hw
  have h : w ∈ ALW := by
    unfold wsV at hw
    simp only [List.cons_append, List.nil_append, List.mem_cons] at hw
    rcases hw with h | h | h | h | h | h
    · rw [h]; exact w1
    · rw [h]; exact w2
    · rw [h]; exact w3
    · rw [h]; exact w4
    · rw [h]; exact w5
    · exact h
  exact ⟨h, alw_good w h⟩
theorem gdS {own : String} {idx : Nat} {y' : MethodName} {cd : Cond} (w1 : Cond.methodLink own idx y' ∈ ALW) (w2 : Cond.static y' ∈ ALW) (w4 : Cond.initialized y'.cls ∈ ALW) (w5 : cd ∈ ALW) : GoodIn ALW (va_wsS own idx y' (cd :: ALW)) := by
  intro w hw
  have h : w ∈ ALW := by
    unfold va_wsS at hw
    simp only [List.cons_append, List.nil_append, List.mem_cons] at hw
    rcases hw with h | h | h | h | h
    · rw [h]; exact w1
    · rw [h]; exact w2
    · rw [h]; exact w4
    · rw [h]; exact w5
    · exact h
  exact ⟨h, alw_good w h⟩
theorem gdN {cd : Cond} (w5 : cd ∈ ALW) : GoodIn ALW (cd :: ALW) := by
  intro w hw
  have h : w ∈ ALW := by
    rcases List.mem_cons.mp hw with h | h
    · rw [h]; exact w5
    · exact h
  exact ⟨h, alw_good w h⟩
section CC
variable {p : Program} {l : Launch} {e : Env} {R : Room} {s : State} {m : MethodId} {args : Array Value} {below : List Frame} {meth : Method} {c : Code} {H : Heap} {locs : List Loc} {Q : State → Prop} {pc : Nat} {ls : Array Slot} {rest st0 As : List Value} {A : Nat → Prop} {cc bytes : ByteArray} {D : va_G} {y : Nat → ClassId} {ad av : Nat → Nat} {w w2 : va_W} {own C : String} {y' : MethodName} {maxL nL q ci idx n fr lo b N : Nat} {T : u_T} {fs : List Value} {ret : Option FieldType}
theorem nmi {v x : Int32} (e1 : v = x) (k : W p l e R s m args below meth c H locs 0 0 Q (F0 m pc ls (.int v :: rest))) : W p l e R s m args below meth c H locs 0 0 Q (F0 m pc ls (.int x :: rest)) := e1 ▸ k
theorem nml {v x : Int64} (e1 : v = x) (k : W p l e R s m args below meth c H locs 0 0 Q (F0 m pc ls (.long v :: rest))) : W p l e R s m args below meth c H locs 0 0 Q (F0 m pc ls (.long x :: rest)) := e1 ▸ k
theorem lv_tab (hexec : p.tables.exec = Jvm.exec) (hb : c.code = cc) {dflt lo hi : Int} {offs : Array Int} {len : Nat} {x : Int32} {tgt : Nat} (hdg : decode cc pc = .ok (.tableswitch dflt lo hi offs, len))
    (h : ((x.toInt < lo ∨ hi < x.toInt) ∧ (pc : Int) + dflt = (tgt : Int)) ∨ ∃ off : Int, ¬ x.toInt < lo ∧ ¬ hi < x.toInt ∧ offs[(x.toInt - lo).toNat]? = some off ∧ (pc : Int) + off = (tgt : Int))
    (k : W p l e R s m args below meth c H locs 0 0 Q (F0 m tgt ls rest)) : W p l e R s m args below meth c H locs 0 0 Q (F0 m pc ls (.int x :: rest)) := by
  rcases h with ⟨h, ht⟩ | ⟨off, h1, h2, ho, ht⟩
  · exact lv_tableOut hexec hb hdg h ht k
  · exact lv_tableIn hexec hb hdg h1 h2 ho ht k
/-- behind a call -/
theorem bhi {v : Int32} {a : Array Value} (hr : va_Run p l e R s m args below meth c H locs 0 0 0 0 (F0 m pc ls st0) rest (QZi D w v w2 H.size a) (va_A w H.size)) (hA : ∀ q, s.heap.size ≤ q → A q) (hC : CZ D A s H locs w) (kk : ∀ (H1 : Heap) (locs1 : List Loc), CZ D A s H1 locs1 w2 → W p l e R s m args below meth c H1 locs1 0 0 Q (F0 m (pc + 3) ls (.int v :: rest))) : W p l e R s m args below meth c H locs 0 0 Q (F0 m pc ls st0) := by
  have hF := frZ hC hA
  refine va_calli hr hC.2.2 (fun q _ h => hF q h) hF (fun r u t H1 locs1 ht hvm hw hB hz hk hS => ?_)
  subst hw; subst ht
  exact kk _ _ ⟨hB.1, hB.2.weaken (fun k q _ h => hF q.1 h), hS⟩
theorem bhl {v : Int64} {a : Array Value} (hr : va_Run p l e R s m args below meth c H locs 0 0 0 0 (F0 m pc ls st0) rest (QZl D w v w2 H.size a) (va_A w H.size)) (hA : ∀ q, s.heap.size ≤ q → A q) (hC : CZ D A s H locs w) (kk : ∀ (H1 : Heap) (locs1 : List Loc), CZ D A s H1 locs1 w2 → W p l e R s m args below meth c H1 locs1 0 0 Q (F0 m (pc + 3) ls (.long v :: rest))) : W p l e R s m args below meth c H locs 0 0 Q (F0 m pc ls st0) := by
  have hF := frZ hC hA
  refine va_calll hr hC.2.2 (fun q _ h => hF q h) hF (fun r u t H1 locs1 ht hvm hw hB hz hk hS => ?_)
  subst hw; subst ht
  exact kk _ _ ⟨hB.1, hB.2.weaken (fun k q _ h => hF q.1 h), hS⟩
theorem bhv {a : Array Value} (hr : va_Run p l e R s m args below meth c H locs 0 0 0 0 (F0 m pc ls st0) rest (QZv D w w2 H.size a) (va_A w H.size)) (hA : ∀ q, s.heap.size ≤ q → A q) (hC : CZ D A s H locs w) (kk : ∀ (H1 : Heap) (locs1 : List Loc), CZ D A s H1 locs1 w2 → W p l e R s m args below meth c H1 locs1 0 0 Q (F0 m (pc + 3) ls rest)) : W p l e R s m args below meth c H locs 0 0 Q (F0 m pc ls st0) := by
  have hF := frZ hC hA
  refine va_callv hr hC.2.2 (fun q _ h => hF q h) hF (fun u t H1 locs1 ht hvm hw hB hz hk hS => ?_)
  subst ht
  exact kk _ _ ⟨hB.1, hB.2.weaken (fun k q _ h => hF q.1 h), hS⟩
theorem cc_Vi {v : Int32} {rt : FieldType} (hM : ∀ sz : Nat, Met l y' (Cond.code y' bytes maxL (some rt) :: ALW) { frames := fr, cells := 0, slots := 0, locals := lo } (va_Pc (.ref b :: As) (PZ D y ad av w sz)) (QZi D w v w2 sz) 0 0 (va_A w sz)) (hx : p.tables.exec = Jvm.exec) (hb : c.code = cc) (hml : c.maxLocals = nL) (hta : ∀ w ∈ ALW, w.before args s = true) (hown : s.vm.findClass own = some m.cls) (hK : va_K D vwCl (TYL y) s) (hN : NW s) (hV : SS ad av A s s.heap) (hA : ∀ q, s.heap.size ≤ q → A q) (hC : CZ D A s H locs w) (hRc : R.cells = 0) (hRs : R.slots = 0) (hfr : fr + 1 ≤ R.frames) (hlo : 8 + (maxL + 11) + lo ≤ R.locals) (w1 : Cond.methodLink own idx y' ∈ ALW) (he : w[q]? = some (b, .inr (ci, fs))) (hcl : vwCl[ci]? = some (y'.cls, T, N)) (w2' : Cond.instanceMethod y' ∈ ALW) (w3 : Cond.selects y'.cls y' y' ∈ ALW) (w4 : Cond.initialized y'.cls ∈ ALW) (w5 : Cond.code y' bytes maxL (some rt) ∈ ALW) (hd : y'.cls ≠ "java/lang/invoke/MethodHandle" ∧ y'.cls ≠ "java/lang/invoke/VarHandle" ∧ (parseMethodDescriptor y'.desc).map (fun d => d.parameters.length) = some n) (hst : st0 = As.reverse ++ .ref b :: rest) (hn : As.length = n) (hsz : ls.size = nL) (hcat : Nat.ble ((rest.map fun v => v.category).sum) 8 = true) (hdg : decode cc pc = .ok (.invokevirtual idx, 3)) (kk : ∀ (H1 : Heap) (locs1 : List Loc), CZ D A s H1 locs1 w2 → W p l e R s m args below meth c H1 locs1 0 0 Q (F0 m (pc + 3) ls (.int v :: rest))) : W p l e R s m args below meth c H locs 0 0 Q (F0 m pc ls st0) := by
  have hM := hM H.size
  exact bhi (va_runV (As := As) (rest := rest) ⟨hx, hb, hml, hown, hta⟩ hM (cwV n hta (gdV w1 w2' w3 w4 w5) rfl rfl rfl ⟨rfl, hd.1, hd.2.1, hd.2.2⟩ ⟨hfr, hlo⟩) ⟨blZ, va_recv hK hC.1 hcl he, prZ hK hN hV hA hC⟩ rfl hn hsz hst (lv_room (Nat.le_of_ble_eq_true hcat)) hdg ⟨by rw [hRc]; exact Nat.le_refl 0, by rw [hRs]; exact Nat.le_refl 0⟩) hA hC kk
theorem cc_Si {v : Int32} {rt : FieldType} (hM : ∀ sz : Nat, Met l y' (Cond.code y' bytes maxL (some rt) :: ALW) { frames := fr, cells := 0, slots := 0, locals := lo } (va_Pc (As) (PZ D y ad av w sz)) (QZi D w v w2 sz) 0 0 (va_A w sz)) (hx : p.tables.exec = Jvm.exec) (hb : c.code = cc) (hml : c.maxLocals = nL) (hta : ∀ w ∈ ALW, w.before args s = true) (hown : s.vm.findClass own = some m.cls) (hK : va_K D vwCl (TYL y) s) (hN : NW s) (hV : SS ad av A s s.heap) (hA : ∀ q, s.heap.size ≤ q → A q) (hC : CZ D A s H locs w) (hRc : R.cells = 0) (hRs : R.slots = 0) (hfr : fr + 1 ≤ R.frames) (hlo : 8 + (maxL + 11) + lo ≤ R.locals) (w1 : Cond.methodLink own idx y' ∈ ALW) (w2' : Cond.static y' ∈ ALW) (w4 : Cond.initialized y'.cls ∈ ALW) (w5 : Cond.code y' bytes maxL (some rt) ∈ ALW) (hd : y'.cls ≠ "java/lang/invoke/MethodHandle" ∧ y'.cls ≠ "java/lang/invoke/VarHandle" ∧ (parseMethodDescriptor y'.desc).map (fun d => d.parameters.length) = some n) (hst : st0 = As.reverse ++ rest) (hn : As.length = n) (hsz : ls.size = nL) (hcat : Nat.ble ((rest.map fun v => v.category).sum) 8 = true) (hdg : decode cc pc = .ok (.invokestatic idx, 3)) (kk : ∀ (H1 : Heap) (locs1 : List Loc), CZ D A s H1 locs1 w2 → W p l e R s m args below meth c H1 locs1 0 0 Q (F0 m (pc + 3) ls (.int v :: rest))) : W p l e R s m args below meth c H locs 0 0 Q (F0 m pc ls st0) := by
  have hM := hM H.size
  exact bhi (va_runS (As := As) (rest := rest) ⟨hx, hb, hml, hown, hta⟩ hM (va_cwS n hta (gdS w1 w2' w4 w5) rfl rfl rfl ⟨hd.1, hd.2.1, hd.2.2⟩ ⟨hfr, hlo⟩) ⟨blZ, prZ hK hN hV hA hC⟩ rfl hn hsz hst (lv_room (Nat.le_of_ble_eq_true hcat)) hdg ⟨by rw [hRc]; exact Nat.le_refl 0, by rw [hRs]; exact Nat.le_refl 0⟩) hA hC kk
theorem cc_ViN {v : Int32} {rt : FieldType} (hM : ∀ sz : Nat, Met l y' (Cond.code y' bytes maxL (some rt) :: ALW) { frames := fr, cells := 0, slots := 0, locals := lo } (va_Pc (.ref b :: As) (PZ D y ad av w sz)) (QZi D w v w2 sz) 0 0 (va_A w sz)) (hx : p.tables.exec = Jvm.exec) (hb : c.code = cc) (hml : c.maxLocals = nL) (hta : ∀ w ∈ ALW, w.before args s = true) (hown : s.vm.findClass own = some m.cls) (hK : va_K D vwCl (TYL y) s) (hN : NW s) (hV : SS ad av A s s.heap) (hA : ∀ q, s.heap.size ≤ q → A q) (hC : CZ D A s H locs w) (hRc : R.cells = 0) (hRs : R.slots = 0) (hfr : fr + 1 ≤ R.frames) (hlo : 8 + (maxL + 11) + lo ≤ R.locals) {host : String} (w1 : va_Nw (.methodLinkNest own idx y' host) s) (he : w[q]? = some (b, .inr (ci, fs))) (hcl : vwCl[ci]? = some (y'.cls, T, N)) (w2' : Cond.instanceMethod y' ∈ ALW) (w3 : Cond.selects y'.cls y' y' ∈ ALW) (w4 : Cond.initialized y'.cls ∈ ALW) (w5 : Cond.code y' bytes maxL (some rt) ∈ ALW) (hd : y'.cls ≠ "java/lang/invoke/MethodHandle" ∧ y'.cls ≠ "java/lang/invoke/VarHandle" ∧ (parseMethodDescriptor y'.desc).map (fun d => d.parameters.length) = some n) (hst : st0 = As.reverse ++ .ref b :: rest) (hn : As.length = n) (hsz : ls.size = nL) (hcat : Nat.ble ((rest.map fun v => v.category).sum) 8 = true) (hdg : decode cc pc = .ok (.invokevirtual idx, 3)) (kk : ∀ (H1 : Heap) (locs1 : List Loc), CZ D A s H1 locs1 w2 → W p l e R s m args below meth c H1 locs1 0 0 Q (F0 m (pc + 3) ls (.int v :: rest))) : W p l e R s m args below meth c H locs 0 0 Q (F0 m pc ls st0) := by
  have hM := hM H.size
  exact bhi (va_runVN (As := As) (rest := rest) ⟨hx, hb, hml, hown, hta⟩ hM ⟨va_cnB n hta (gdN w5) rfl rfl rfl w1 (hta _ w4) ⟨hd.1, hd.2.1, hd.2.2⟩ ⟨hfr, hlo⟩, hta _ w2', hta _ w3⟩ ⟨blZ, va_recv hK hC.1 hcl he, prZ hK hN hV hA hC⟩ rfl hn hsz hst (lv_room (Nat.le_of_ble_eq_true hcat)) hdg ⟨by rw [hRc]; exact Nat.le_refl 0, by rw [hRs]; exact Nat.le_refl 0⟩) hA hC kk
theorem cc_SiN {v : Int32} {rt : FieldType} (hM : ∀ sz : Nat, Met l y' (Cond.code y' bytes maxL (some rt) :: ALW) { frames := fr, cells := 0, slots := 0, locals := lo } (va_Pc (As) (PZ D y ad av w sz)) (QZi D w v w2 sz) 0 0 (va_A w sz)) (hx : p.tables.exec = Jvm.exec) (hb : c.code = cc) (hml : c.maxLocals = nL) (hta : ∀ w ∈ ALW, w.before args s = true) (hown : s.vm.findClass own = some m.cls) (hK : va_K D vwCl (TYL y) s) (hN : NW s) (hV : SS ad av A s s.heap) (hA : ∀ q, s.heap.size ≤ q → A q) (hC : CZ D A s H locs w) (hRc : R.cells = 0) (hRs : R.slots = 0) (hfr : fr + 1 ≤ R.frames) (hlo : 8 + (maxL + 11) + lo ≤ R.locals) {host : String} (w1 : va_Nw (.methodLinkNest own idx y' host) s) (w2' : Cond.static y' ∈ ALW) (w4 : Cond.initialized y'.cls ∈ ALW) (w5 : Cond.code y' bytes maxL (some rt) ∈ ALW) (hd : y'.cls ≠ "java/lang/invoke/MethodHandle" ∧ y'.cls ≠ "java/lang/invoke/VarHandle" ∧ (parseMethodDescriptor y'.desc).map (fun d => d.parameters.length) = some n) (hst : st0 = As.reverse ++ rest) (hn : As.length = n) (hsz : ls.size = nL) (hcat : Nat.ble ((rest.map fun v => v.category).sum) 8 = true) (hdg : decode cc pc = .ok (.invokestatic idx, 3)) (kk : ∀ (H1 : Heap) (locs1 : List Loc), CZ D A s H1 locs1 w2 → W p l e R s m args below meth c H1 locs1 0 0 Q (F0 m (pc + 3) ls (.int v :: rest))) : W p l e R s m args below meth c H locs 0 0 Q (F0 m pc ls st0) := by
  have hM := hM H.size
  exact bhi (va_runSN (As := As) (rest := rest) ⟨hx, hb, hml, hown, hta⟩ hM ⟨va_cnB n hta (gdN w5) rfl rfl rfl w1 (hta _ w4) ⟨hd.1, hd.2.1, hd.2.2⟩ ⟨hfr, hlo⟩, hta _ w2', trivial⟩ ⟨blZ, prZ hK hN hV hA hC⟩ rfl hn hsz hst (lv_room (Nat.le_of_ble_eq_true hcat)) hdg ⟨by rw [hRc]; exact Nat.le_refl 0, by rw [hRs]; exact Nat.le_refl 0⟩) hA hC kk
theorem cc_Vl {v : Int64} {rt : FieldType} (hM : ∀ sz : Nat, Met l y' (Cond.code y' bytes maxL (some rt) :: ALW) { frames := fr, cells := 0, slots := 0, locals := lo } (va_Pc (.ref b :: As) (PZ D y ad av w sz)) (QZl D w v w2 sz) 0 0 (va_A w sz)) (hx : p.tables.exec = Jvm.exec) (hb : c.code = cc) (hml : c.maxLocals = nL) (hta : ∀ w ∈ ALW, w.before args s = true) (hown : s.vm.findClass own = some m.cls) (hK : va_K D vwCl (TYL y) s) (hN : NW s) (hV : SS ad av A s s.heap) (hA : ∀ q, s.heap.size ≤ q → A q) (hC : CZ D A s H locs w) (hRc : R.cells = 0) (hRs : R.slots = 0) (hfr : fr + 1 ≤ R.frames) (hlo : 8 + (maxL + 11) + lo ≤ R.locals) (w1 : Cond.methodLink own idx y' ∈ ALW) (he : w[q]? = some (b, .inr (ci, fs))) (hcl : vwCl[ci]? = some (y'.cls, T, N)) (w2' : Cond.instanceMethod y' ∈ ALW) (w3 : Cond.selects y'.cls y' y' ∈ ALW) (w4 : Cond.initialized y'.cls ∈ ALW) (w5 : Cond.code y' bytes maxL (some rt) ∈ ALW) (hd : y'.cls ≠ "java/lang/invoke/MethodHandle" ∧ y'.cls ≠ "java/lang/invoke/VarHandle" ∧ (parseMethodDescriptor y'.desc).map (fun d => d.parameters.length) = some n) (hst : st0 = As.reverse ++ .ref b :: rest) (hn : As.length = n) (hsz : ls.size = nL) (hcat : Nat.ble ((rest.map fun v => v.category).sum) 8 = true) (hdg : decode cc pc = .ok (.invokevirtual idx, 3)) (kk : ∀ (H1 : Heap) (locs1 : List Loc), CZ D A s H1 locs1 w2 → W p l e R s m args below meth c H1 locs1 0 0 Q (F0 m (pc + 3) ls (.long v :: rest))) : W p l e R s m args below meth c H locs 0 0 Q (F0 m pc ls st0) := by
  have hM := hM H.size
  exact bhl (va_runV (As := As) (rest := rest) ⟨hx, hb, hml, hown, hta⟩ hM (cwV n hta (gdV w1 w2' w3 w4 w5) rfl rfl rfl ⟨rfl, hd.1, hd.2.1, hd.2.2⟩ ⟨hfr, hlo⟩) ⟨blZ, va_recv hK hC.1 hcl he, prZ hK hN hV hA hC⟩ rfl hn hsz hst (lv_room (Nat.le_of_ble_eq_true hcat)) hdg ⟨by rw [hRc]; exact Nat.le_refl 0, by rw [hRs]; exact Nat.le_refl 0⟩) hA hC kk
theorem cc_Sl {v : Int64} {rt : FieldType} (hM : ∀ sz : Nat, Met l y' (Cond.code y' bytes maxL (some rt) :: ALW) { frames := fr, cells := 0, slots := 0, locals := lo } (va_Pc (As) (PZ D y ad av w sz)) (QZl D w v w2 sz) 0 0 (va_A w sz)) (hx : p.tables.exec = Jvm.exec) (hb : c.code = cc) (hml : c.maxLocals = nL) (hta : ∀ w ∈ ALW, w.before args s = true) (hown : s.vm.findClass own = some m.cls) (hK : va_K D vwCl (TYL y) s) (hN : NW s) (hV : SS ad av A s s.heap) (hA : ∀ q, s.heap.size ≤ q → A q) (hC : CZ D A s H locs w) (hRc : R.cells = 0) (hRs : R.slots = 0) (hfr : fr + 1 ≤ R.frames) (hlo : 8 + (maxL + 11) + lo ≤ R.locals) (w1 : Cond.methodLink own idx y' ∈ ALW) (w2' : Cond.static y' ∈ ALW) (w4 : Cond.initialized y'.cls ∈ ALW) (w5 : Cond.code y' bytes maxL (some rt) ∈ ALW) (hd : y'.cls ≠ "java/lang/invoke/MethodHandle" ∧ y'.cls ≠ "java/lang/invoke/VarHandle" ∧ (parseMethodDescriptor y'.desc).map (fun d => d.parameters.length) = some n) (hst : st0 = As.reverse ++ rest) (hn : As.length = n) (hsz : ls.size = nL) (hcat : Nat.ble ((rest.map fun v => v.category).sum) 8 = true) (hdg : decode cc pc = .ok (.invokestatic idx, 3)) (kk : ∀ (H1 : Heap) (locs1 : List Loc), CZ D A s H1 locs1 w2 → W p l e R s m args below meth c H1 locs1 0 0 Q (F0 m (pc + 3) ls (.long v :: rest))) : W p l e R s m args below meth c H locs 0 0 Q (F0 m pc ls st0) := by
  have hM := hM H.size
  exact bhl (va_runS (As := As) (rest := rest) ⟨hx, hb, hml, hown, hta⟩ hM (va_cwS n hta (gdS w1 w2' w4 w5) rfl rfl rfl ⟨hd.1, hd.2.1, hd.2.2⟩ ⟨hfr, hlo⟩) ⟨blZ, prZ hK hN hV hA hC⟩ rfl hn hsz hst (lv_room (Nat.le_of_ble_eq_true hcat)) hdg ⟨by rw [hRc]; exact Nat.le_refl 0, by rw [hRs]; exact Nat.le_refl 0⟩) hA hC kk
theorem cc_VlN {v : Int64} {rt : FieldType} (hM : ∀ sz : Nat, Met l y' (Cond.code y' bytes maxL (some rt) :: ALW) { frames := fr, cells := 0, slots := 0, locals := lo } (va_Pc (.ref b :: As) (PZ D y ad av w sz)) (QZl D w v w2 sz) 0 0 (va_A w sz)) (hx : p.tables.exec = Jvm.exec) (hb : c.code = cc) (hml : c.maxLocals = nL) (hta : ∀ w ∈ ALW, w.before args s = true) (hown : s.vm.findClass own = some m.cls) (hK : va_K D vwCl (TYL y) s) (hN : NW s) (hV : SS ad av A s s.heap) (hA : ∀ q, s.heap.size ≤ q → A q) (hC : CZ D A s H locs w) (hRc : R.cells = 0) (hRs : R.slots = 0) (hfr : fr + 1 ≤ R.frames) (hlo : 8 + (maxL + 11) + lo ≤ R.locals) {host : String} (w1 : va_Nw (.methodLinkNest own idx y' host) s) (he : w[q]? = some (b, .inr (ci, fs))) (hcl : vwCl[ci]? = some (y'.cls, T, N)) (w2' : Cond.instanceMethod y' ∈ ALW) (w3 : Cond.selects y'.cls y' y' ∈ ALW) (w4 : Cond.initialized y'.cls ∈ ALW) (w5 : Cond.code y' bytes maxL (some rt) ∈ ALW) (hd : y'.cls ≠ "java/lang/invoke/MethodHandle" ∧ y'.cls ≠ "java/lang/invoke/VarHandle" ∧ (parseMethodDescriptor y'.desc).map (fun d => d.parameters.length) = some n) (hst : st0 = As.reverse ++ .ref b :: rest) (hn : As.length = n) (hsz : ls.size = nL) (hcat : Nat.ble ((rest.map fun v => v.category).sum) 8 = true) (hdg : decode cc pc = .ok (.invokevirtual idx, 3)) (kk : ∀ (H1 : Heap) (locs1 : List Loc), CZ D A s H1 locs1 w2 → W p l e R s m args below meth c H1 locs1 0 0 Q (F0 m (pc + 3) ls (.long v :: rest))) : W p l e R s m args below meth c H locs 0 0 Q (F0 m pc ls st0) := by
  have hM := hM H.size
  exact bhl (va_runVN (As := As) (rest := rest) ⟨hx, hb, hml, hown, hta⟩ hM ⟨va_cnB n hta (gdN w5) rfl rfl rfl w1 (hta _ w4) ⟨hd.1, hd.2.1, hd.2.2⟩ ⟨hfr, hlo⟩, hta _ w2', hta _ w3⟩ ⟨blZ, va_recv hK hC.1 hcl he, prZ hK hN hV hA hC⟩ rfl hn hsz hst (lv_room (Nat.le_of_ble_eq_true hcat)) hdg ⟨by rw [hRc]; exact Nat.le_refl 0, by rw [hRs]; exact Nat.le_refl 0⟩) hA hC kk
theorem cc_SlN {v : Int64} {rt : FieldType} (hM : ∀ sz : Nat, Met l y' (Cond.code y' bytes maxL (some rt) :: ALW) { frames := fr, cells := 0, slots := 0, locals := lo } (va_Pc (As) (PZ D y ad av w sz)) (QZl D w v w2 sz) 0 0 (va_A w sz)) (hx : p.tables.exec = Jvm.exec) (hb : c.code = cc) (hml : c.maxLocals = nL) (hta : ∀ w ∈ ALW, w.before args s = true) (hown : s.vm.findClass own = some m.cls) (hK : va_K D vwCl (TYL y) s) (hN : NW s) (hV : SS ad av A s s.heap) (hA : ∀ q, s.heap.size ≤ q → A q) (hC : CZ D A s H locs w) (hRc : R.cells = 0) (hRs : R.slots = 0) (hfr : fr + 1 ≤ R.frames) (hlo : 8 + (maxL + 11) + lo ≤ R.locals) {host : String} (w1 : va_Nw (.methodLinkNest own idx y' host) s) (w2' : Cond.static y' ∈ ALW) (w4 : Cond.initialized y'.cls ∈ ALW) (w5 : Cond.code y' bytes maxL (some rt) ∈ ALW) (hd : y'.cls ≠ "java/lang/invoke/MethodHandle" ∧ y'.cls ≠ "java/lang/invoke/VarHandle" ∧ (parseMethodDescriptor y'.desc).map (fun d => d.parameters.length) = some n) (hst : st0 = As.reverse ++ rest) (hn : As.length = n) (hsz : ls.size = nL) (hcat : Nat.ble ((rest.map fun v => v.category).sum) 8 = true) (hdg : decode cc pc = .ok (.invokestatic idx, 3)) (kk : ∀ (H1 : Heap) (locs1 : List Loc), CZ D A s H1 locs1 w2 → W p l e R s m args below meth c H1 locs1 0 0 Q (F0 m (pc + 3) ls (.long v :: rest))) : W p l e R s m args below meth c H locs 0 0 Q (F0 m pc ls st0) := by
  have hM := hM H.size
  exact bhl (va_runSN (As := As) (rest := rest) ⟨hx, hb, hml, hown, hta⟩ hM ⟨va_cnB n hta (gdN w5) rfl rfl rfl w1 (hta _ w4) ⟨hd.1, hd.2.1, hd.2.2⟩ ⟨hfr, hlo⟩, hta _ w2', trivial⟩ ⟨blZ, prZ hK hN hV hA hC⟩ rfl hn hsz hst (lv_room (Nat.le_of_ble_eq_true hcat)) hdg ⟨by rw [hRc]; exact Nat.le_refl 0, by rw [hRs]; exact Nat.le_refl 0⟩) hA hC kk
theorem cc_Vv (hM : ∀ sz : Nat, Met l y' (Cond.code y' bytes maxL none :: ALW) { frames := fr, cells := 0, slots := 0, locals := lo } (va_Pc (.ref b :: As) (PZ D y ad av w sz)) (QZv D w w2 sz) 0 0 (va_A w sz)) (hx : p.tables.exec = Jvm.exec) (hb : c.code = cc) (hml : c.maxLocals = nL) (hta : ∀ w ∈ ALW, w.before args s = true) (hown : s.vm.findClass own = some m.cls) (hK : va_K D vwCl (TYL y) s) (hN : NW s) (hV : SS ad av A s s.heap) (hA : ∀ q, s.heap.size ≤ q → A q) (hC : CZ D A s H locs w) (hRc : R.cells = 0) (hRs : R.slots = 0) (hfr : fr + 1 ≤ R.frames) (hlo : 8 + (maxL + 11) + lo ≤ R.locals) (w1 : Cond.methodLink own idx y' ∈ ALW) (he : w[q]? = some (b, .inr (ci, fs))) (hcl : vwCl[ci]? = some (y'.cls, T, N)) (w2' : Cond.instanceMethod y' ∈ ALW) (w3 : Cond.selects y'.cls y' y' ∈ ALW) (w4 : Cond.initialized y'.cls ∈ ALW) (w5 : Cond.code y' bytes maxL none ∈ ALW) (hd : y'.cls ≠ "java/lang/invoke/MethodHandle" ∧ y'.cls ≠ "java/lang/invoke/VarHandle" ∧ (parseMethodDescriptor y'.desc).map (fun d => d.parameters.length) = some n) (hst : st0 = As.reverse ++ .ref b :: rest) (hn : As.length = n) (hsz : ls.size = nL) (hcat : Nat.ble ((rest.map fun v => v.category).sum) 8 = true) (hdg : decode cc pc = .ok (.invokevirtual idx, 3)) (kk : ∀ (H1 : Heap) (locs1 : List Loc), CZ D A s H1 locs1 w2 → W p l e R s m args below meth c H1 locs1 0 0 Q (F0 m (pc + 3) ls rest)) : W p l e R s m args below meth c H locs 0 0 Q (F0 m pc ls st0) := by
  have hM := hM H.size
  exact bhv (va_runV (As := As) (rest := rest) ⟨hx, hb, hml, hown, hta⟩ hM (cwV n hta (gdV w1 w2' w3 w4 w5) rfl rfl rfl ⟨rfl, hd.1, hd.2.1, hd.2.2⟩ ⟨hfr, hlo⟩) ⟨blZ, va_recv hK hC.1 hcl he, prZ hK hN hV hA hC⟩ rfl hn hsz hst (lv_room (Nat.le_of_ble_eq_true hcat)) hdg ⟨by rw [hRc]; exact Nat.le_refl 0, by rw [hRs]; exact Nat.le_refl 0⟩) hA hC kk
theorem cc_Sv (hM : ∀ sz : Nat, Met l y' (Cond.code y' bytes maxL none :: ALW) { frames := fr, cells := 0, slots := 0, locals := lo } (va_Pc (As) (PZ D y ad av w sz)) (QZv D w w2 sz) 0 0 (va_A w sz)) (hx : p.tables.exec = Jvm.exec) (hb : c.code = cc) (hml : c.maxLocals = nL) (hta : ∀ w ∈ ALW, w.before args s = true) (hown : s.vm.findClass own = some m.cls) (hK : va_K D vwCl (TYL y) s) (hN : NW s) (hV : SS ad av A s s.heap) (hA : ∀ q, s.heap.size ≤ q → A q) (hC : CZ D A s H locs w) (hRc : R.cells = 0) (hRs : R.slots = 0) (hfr : fr + 1 ≤ R.frames) (hlo : 8 + (maxL + 11) + lo ≤ R.locals) (w1 : Cond.methodLink own idx y' ∈ ALW) (w2' : Cond.static y' ∈ ALW) (w4 : Cond.initialized y'.cls ∈ ALW) (w5 : Cond.code y' bytes maxL none ∈ ALW) (hd : y'.cls ≠ "java/lang/invoke/MethodHandle" ∧ y'.cls ≠ "java/lang/invoke/VarHandle" ∧ (parseMethodDescriptor y'.desc).map (fun d => d.parameters.length) = some n) (hst : st0 = As.reverse ++ rest) (hn : As.length = n) (hsz : ls.size = nL) (hcat : Nat.ble ((rest.map fun v => v.category).sum) 8 = true) (hdg : decode cc pc = .ok (.invokestatic idx, 3)) (kk : ∀ (H1 : Heap) (locs1 : List Loc), CZ D A s H1 locs1 w2 → W p l e R s m args below meth c H1 locs1 0 0 Q (F0 m (pc + 3) ls rest)) : W p l e R s m args below meth c H locs 0 0 Q (F0 m pc ls st0) := by
  have hM := hM H.size
  exact bhv (va_runS (As := As) (rest := rest) ⟨hx, hb, hml, hown, hta⟩ hM (va_cwS n hta (gdS w1 w2' w4 w5) rfl rfl rfl ⟨hd.1, hd.2.1, hd.2.2⟩ ⟨hfr, hlo⟩) ⟨blZ, prZ hK hN hV hA hC⟩ rfl hn hsz hst (lv_room (Nat.le_of_ble_eq_true hcat)) hdg ⟨by rw [hRc]; exact Nat.le_refl 0, by rw [hRs]; exact Nat.le_refl 0⟩) hA hC kk
theorem cc_VvN (hM : ∀ sz : Nat, Met l y' (Cond.code y' bytes maxL none :: ALW) { frames := fr, cells := 0, slots := 0, locals := lo } (va_Pc (.ref b :: As) (PZ D y ad av w sz)) (QZv D w w2 sz) 0 0 (va_A w sz)) (hx : p.tables.exec = Jvm.exec) (hb : c.code = cc) (hml : c.maxLocals = nL) (hta : ∀ w ∈ ALW, w.before args s = true) (hown : s.vm.findClass own = some m.cls) (hK : va_K D vwCl (TYL y) s) (hN : NW s) (hV : SS ad av A s s.heap) (hA : ∀ q, s.heap.size ≤ q → A q) (hC : CZ D A s H locs w) (hRc : R.cells = 0) (hRs : R.slots = 0) (hfr : fr + 1 ≤ R.frames) (hlo : 8 + (maxL + 11) + lo ≤ R.locals) {host : String} (w1 : va_Nw (.methodLinkNest own idx y' host) s) (he : w[q]? = some (b, .inr (ci, fs))) (hcl : vwCl[ci]? = some (y'.cls, T, N)) (w2' : Cond.instanceMethod y' ∈ ALW) (w3 : Cond.selects y'.cls y' y' ∈ ALW) (w4 : Cond.initialized y'.cls ∈ ALW) (w5 : Cond.code y' bytes maxL none ∈ ALW) (hd : y'.cls ≠ "java/lang/invoke/MethodHandle" ∧ y'.cls ≠ "java/lang/invoke/VarHandle" ∧ (parseMethodDescriptor y'.desc).map (fun d => d.parameters.length) = some n) (hst : st0 = As.reverse ++ .ref b :: rest) (hn : As.length = n) (hsz : ls.size = nL) (hcat : Nat.ble ((rest.map fun v => v.category).sum) 8 = true) (hdg : decode cc pc = .ok (.invokevirtual idx, 3)) (kk : ∀ (H1 : Heap) (locs1 : List Loc), CZ D A s H1 locs1 w2 → W p l e R s m args below meth c H1 locs1 0 0 Q (F0 m (pc + 3) ls rest)) : W p l e R s m args below meth c H locs 0 0 Q (F0 m pc ls st0) := by
  have hM := hM H.size
  exact bhv (va_runVN (As := As) (rest := rest) ⟨hx, hb, hml, hown, hta⟩ hM ⟨va_cnB n hta (gdN w5) rfl rfl rfl w1 (hta _ w4) ⟨hd.1, hd.2.1, hd.2.2⟩ ⟨hfr, hlo⟩, hta _ w2', hta _ w3⟩ ⟨blZ, va_recv hK hC.1 hcl he, prZ hK hN hV hA hC⟩ rfl hn hsz hst (lv_room (Nat.le_of_ble_eq_true hcat)) hdg ⟨by rw [hRc]; exact Nat.le_refl 0, by rw [hRs]; exact Nat.le_refl 0⟩) hA hC kk
theorem cc_SvN (hM : ∀ sz : Nat, Met l y' (Cond.code y' bytes maxL none :: ALW) { frames := fr, cells := 0, slots := 0, locals := lo } (va_Pc (As) (PZ D y ad av w sz)) (QZv D w w2 sz) 0 0 (va_A w sz)) (hx : p.tables.exec = Jvm.exec) (hb : c.code = cc) (hml : c.maxLocals = nL) (hta : ∀ w ∈ ALW, w.before args s = true) (hown : s.vm.findClass own = some m.cls) (hK : va_K D vwCl (TYL y) s) (hN : NW s) (hV : SS ad av A s s.heap) (hA : ∀ q, s.heap.size ≤ q → A q) (hC : CZ D A s H locs w) (hRc : R.cells = 0) (hRs : R.slots = 0) (hfr : fr + 1 ≤ R.frames) (hlo : 8 + (maxL + 11) + lo ≤ R.locals) {host : String} (w1 : va_Nw (.methodLinkNest own idx y' host) s) (w2' : Cond.static y' ∈ ALW) (w4 : Cond.initialized y'.cls ∈ ALW) (w5 : Cond.code y' bytes maxL none ∈ ALW) (hd : y'.cls ≠ "java/lang/invoke/MethodHandle" ∧ y'.cls ≠ "java/lang/invoke/VarHandle" ∧ (parseMethodDescriptor y'.desc).map (fun d => d.parameters.length) = some n) (hst : st0 = As.reverse ++ rest) (hn : As.length = n) (hsz : ls.size = nL) (hcat : Nat.ble ((rest.map fun v => v.category).sum) 8 = true) (hdg : decode cc pc = .ok (.invokestatic idx, 3)) (kk : ∀ (H1 : Heap) (locs1 : List Loc), CZ D A s H1 locs1 w2 → W p l e R s m args below meth c H1 locs1 0 0 Q (F0 m (pc + 3) ls rest)) : W p l e R s m args below meth c H locs 0 0 Q (F0 m pc ls st0) := by
  have hM := hM H.size
  exact bhv (va_runSN (As := As) (rest := rest) ⟨hx, hb, hml, hown, hta⟩ hM ⟨va_cnB n hta (gdN w5) rfl rfl rfl w1 (hta _ w4) ⟨hd.1, hd.2.1, hd.2.2⟩ ⟨hfr, hlo⟩, hta _ w2', trivial⟩ ⟨blZ, prZ hK hN hV hA hC⟩ rfl hn hsz hst (lv_room (Nat.le_of_ble_eq_true hcat)) hdg ⟨by rw [hRc]; exact Nat.le_refl 0, by rw [hRs]; exact Nat.le_refl 0⟩) hA hC kk
end CC
theorem met_i {D : va_G} {y : Nat → ClassId} {ad av : Nat → Nat} {l : Launch} {sz : Nat} {w w2 : va_W} {v : Int32} {y' : MethodName} {cc : ByteArray} {maxL : Nat} {rt : FieldType} {vs : List Value} {fr lo : Nat} (hy : plainName y'.cls = true) (hvs : (lg_sl vs).length ≤ maxL)
    (body : ∀ (p : Program) (e : Env) (R : Room) (s : State) (m : MethodId) (args : Array Value) (below : List Frame) (meth : Method) (c : Code) (Q : State → Prop) (A : Nat → Prop) (ls : Array Slot), p.tables.exec = Jvm.exec → c.code = cc → c.maxLocals = maxL → (∀ w ∈ ALW, w.before args s = true) → s.vm.findClass y'.cls = some m.cls → R.cells = 0 → R.slots = 0 → R.frames = fr → R.locals = lo → NW s → va_K D vwCl (TYL y) s → SS ad av A s s.heap → (∀ q, s.heap.size ≤ q → A q) → (∀ (H : Heap) (locs : List Loc) (pc : Nat) (ls : Array Slot) (v' : Int32) (w' : va_W), v' = v → w' = w2 → narrow rt (.int v') = .int v' → decode cc pc = .ok (.ireturn, 1) → CZ D A s H locs w' → W p l e R s m args below meth c H locs 0 0 Q (F0 m pc ls [.int v'])) → CZ D A s s.heap [] w → lv_has ls maxL (lv_args 0 vs) → W p l e R s m args below meth c s.heap [] 0 0 Q (F0 m 0 ls [])) :
    Met l y' (Cond.code y' cc maxL (some rt) :: ALW) { frames := fr, cells := 0, slots := 0, locals := lo } (va_Pc vs (PZ D y ad av w sz)) (QZi D w v w2 sz) 0 0 (va_A w sz) := by
  refine Met.ofW (cc := cc) (maxL := maxL) (ret := (some rt)) hy rfl ?_
  intro p e s m args below meth c s₁ B hml hv
  obtain ⟨rfl, hsz, hP, hK, hD0, hN, hV⟩ := hv
  have hts := atoms_spec (ws := Cond.code y' cc maxL (some rt) :: ALW) B.pre
  have hlocks := B.notSynchronized
  have hl := lv_entry vs (n := maxL) hvs
  rw [lg_entry_eq]
  subst hsz
  refine body p e _ s m _ below meth c _ (va_A w s.heap.size) _ B.exec B.bytes hml (fun w hw => hts w (List.mem_cons_of_mem _ hw)) (findClass_of_methodNamed B.named) rfl rfl rfl rfl hN hK hV (fun q h => Or.inr h) ?_ ⟨hP, hD0.self, va_S.rf⟩ hl
  intro H locs pc ls v' w' hv hw hn hd hC
  subst hw; subst hv
  exact W.zret B.exec B.bytes B.returns hn (fun t ht hW => ⟨⟨_, (), rfl, rfl, ⟨by rw [ht]; exact hC.1, hC.2.1⟩⟩, hC.2.2.F ht⟩) hC.2.2.2.2 hd
theorem met_l {D : va_G} {y : Nat → ClassId} {ad av : Nat → Nat} {l : Launch} {sz : Nat} {w w2 : va_W} {v : Int64} {y' : MethodName} {cc : ByteArray} {maxL : Nat} {vs : List Value} {fr lo : Nat} (hy : plainName y'.cls = true) (hvs : (lg_sl vs).length ≤ maxL)
    (body : ∀ (p : Program) (e : Env) (R : Room) (s : State) (m : MethodId) (args : Array Value) (below : List Frame) (meth : Method) (c : Code) (Q : State → Prop) (A : Nat → Prop) (ls : Array Slot), p.tables.exec = Jvm.exec → c.code = cc → c.maxLocals = maxL → (∀ w ∈ ALW, w.before args s = true) → s.vm.findClass y'.cls = some m.cls → R.cells = 0 → R.slots = 0 → R.frames = fr → R.locals = lo → NW s → va_K D vwCl (TYL y) s → SS ad av A s s.heap → (∀ q, s.heap.size ≤ q → A q) → (∀ (H : Heap) (locs : List Loc) (pc : Nat) (ls : Array Slot) (v' : Int64) (w' : va_W), v' = v → w' = w2 → decode cc pc = .ok (.lreturn, 1) → CZ D A s H locs w' → W p l e R s m args below meth c H locs 0 0 Q (F0 m pc ls [.long v'])) → CZ D A s s.heap [] w → lv_has ls maxL (lv_args 0 vs) → W p l e R s m args below meth c s.heap [] 0 0 Q (F0 m 0 ls [])) :
    Met l y' (Cond.code y' cc maxL (some .long) :: ALW) { frames := fr, cells := 0, slots := 0, locals := lo } (va_Pc vs (PZ D y ad av w sz)) (QZl D w v w2 sz) 0 0 (va_A w sz) := by
  refine Met.ofW (cc := cc) (maxL := maxL) (ret := (some .long)) hy rfl ?_
  intro p e s m args below meth c s₁ B hml hv
  obtain ⟨rfl, hsz, hP, hK, hD0, hN, hV⟩ := hv
  have hts := atoms_spec (ws := Cond.code y' cc maxL (some .long) :: ALW) B.pre
  have hlocks := B.notSynchronized
  have hl := lv_entry vs (n := maxL) hvs
  rw [lg_entry_eq]
  subst hsz
  refine body p e _ s m _ below meth c _ (va_A w s.heap.size) _ B.exec B.bytes hml (fun w hw => hts w (List.mem_cons_of_mem _ hw)) (findClass_of_methodNamed B.named) rfl rfl rfl rfl hN hK hV (fun q h => Or.inr h) ?_ ⟨hP, hD0.self, va_S.rf⟩ hl
  intro H locs pc ls v' w' hv hw hd hC
  subst hw; subst hv
  exact W.lret B.exec B.bytes B.returns (fun t ht hW => ⟨⟨_, (), rfl, rfl, ⟨by rw [ht]; exact hC.1, hC.2.1⟩⟩, hC.2.2.F ht⟩) hC.2.2.2.2 hd
theorem met_v {D : va_G} {y : Nat → ClassId} {ad av : Nat → Nat} {l : Launch} {sz : Nat} {w w2 : va_W} {y' : MethodName} {cc : ByteArray} {maxL : Nat} {vs : List Value} {fr lo : Nat} (hy : plainName y'.cls = true) (hvs : (lg_sl vs).length ≤ maxL)
    (body : ∀ (p : Program) (e : Env) (R : Room) (s : State) (m : MethodId) (args : Array Value) (below : List Frame) (meth : Method) (c : Code) (Q : State → Prop) (A : Nat → Prop) (ls : Array Slot), p.tables.exec = Jvm.exec → c.code = cc → c.maxLocals = maxL → (∀ w ∈ ALW, w.before args s = true) → s.vm.findClass y'.cls = some m.cls → R.cells = 0 → R.slots = 0 → R.frames = fr → R.locals = lo → NW s → va_K D vwCl (TYL y) s → SS ad av A s s.heap → (∀ q, s.heap.size ≤ q → A q) → (∀ (H : Heap) (locs : List Loc) (pc : Nat) (ls : Array Slot) (w' : va_W), w' = w2 → decode cc pc = .ok (.return_, 1) → CZ D A s H locs w' → W p l e R s m args below meth c H locs 0 0 Q (F0 m pc ls [])) → CZ D A s s.heap [] w → lv_has ls maxL (lv_args 0 vs) → W p l e R s m args below meth c s.heap [] 0 0 Q (F0 m 0 ls [])) :
    Met l y' (Cond.code y' cc maxL none :: ALW) { frames := fr, cells := 0, slots := 0, locals := lo } (va_Pc vs (PZ D y ad av w sz)) (QZv D w w2 sz) 0 0 (va_A w sz) := by
  refine Met.ofW (cc := cc) (maxL := maxL) (ret := none) hy rfl ?_
  intro p e s m args below meth c s₁ B hml hv
  obtain ⟨rfl, hsz, hP, hK, hD0, hN, hV⟩ := hv
  have hts := atoms_spec (ws := Cond.code y' cc maxL none :: ALW) B.pre
  have hlocks := B.notSynchronized
  have hl := lv_entry vs (n := maxL) hvs
  rw [lg_entry_eq]
  subst hsz
  refine body p e _ s m _ below meth c _ (va_A w s.heap.size) _ B.exec B.bytes hml (fun w hw => hts w (List.mem_cons_of_mem _ hw)) (findClass_of_methodNamed B.named) rfl rfl rfl rfl hN hK hV (fun q h => Or.inr h) ?_ ⟨hP, hD0.self, va_S.rf⟩ hl
  intro H locs pc ls w' hw hd hC
  subst hw
  exact W.vret B.exec B.bytes B.returns (fun t ht hW => ⟨⟨(), rfl, trivial, ⟨by rw [ht]; exact hC.1, hC.2.1⟩⟩, hC.2.2.F ht⟩) hC.2.2.2.2 hd
theorem nw_X0_125 {U : State} (h : NW U) : va_Nw (.methodLinkNest RX0 125 yX11_isIn RX11) U := h (RX0, 125, yX11_isIn, RX11) (List.mem_of_getElem? (i := 0) rfl)
theorem nw_X1_122 {U : State} (h : NW U) : va_Nw (.methodLinkNest RX1 122 yX11_isBinary RX11) U := h (RX1, 122, yX11_isBinary, RX11) (List.mem_of_getElem? (i := 1) rfl)
theorem nw_X1_155 {U : State} (h : NW U) : va_Nw (.methodLinkNest RX1 155 yX7_replace RX11) U := h (RX1, 155, yX7_replace, RX11) (List.mem_of_getElem? (i := 2) rfl)
theorem nw_X1_165 {U : State} (h : NW U) : va_Nw (.methodLinkNest RX1 165 yX11_isUnary RX11) U := h (RX1, 165, yX11_isUnary, RX11) (List.mem_of_getElem? (i := 3) rfl)
theorem nw_X10_80 {U : State} (h : NW U) : va_Nw (.methodLinkNest RX10 80 yX11_oneIf RX11) U := h (RX10, 80, yX11_oneIf, RX11) (List.mem_of_getElem? (i := 4) rfl)
theorem nw_X2_74 {U : State} (h : NW U) : va_Nw (.methodLinkNest RX2 74 yX11_isIn RX11) U := h (RX2, 74, yX11_isIn, RX11) (List.mem_of_getElem? (i := 5) rfl)
theorem nw_X3_59 {U : State} (h : NW U) : va_Nw (.methodLinkNest RX3 59 yX11_isIn RX11) U := h (RX3, 59, yX11_isIn, RX11) (List.mem_of_getElem? (i := 6) rfl)
theorem nw_X3_94 {U : State} (h : NW U) : va_Nw (.methodLinkNest RX3 94 yX11_isBinary RX11) U := h (RX3, 94, yX11_isBinary, RX11) (List.mem_of_getElem? (i := 7) rfl)
theorem nw_X5_131 {U : State} (h : NW U) : va_Nw (.methodLinkNest RX5 131 yX11_isBinary RX11) U := h (RX5, 131, yX11_isBinary, RX11) (List.mem_of_getElem? (i := 8) rfl)
theorem nw_X5_135 {U : State} (h : NW U) : va_Nw (.methodLinkNest RX5 135 yX11_dividesByZero RX11) U := h (RX5, 135, yX11_dividesByZero, RX11) (List.mem_of_getElem? (i := 9) rfl)
theorem nw_X5_139 {U : State} (h : NW U) : va_Nw (.methodLinkNest RX5 139 yX11_outcome RX11) U := h (RX5, 139, yX11_outcome, RX11) (List.mem_of_getElem? (i := 10) rfl)
theorem nw_X6_125 {U : State} (h : NW U) : va_Nw (.methodLinkNest RX6 125 yX11_isBinary RX11) U := h (RX6, 125, yX11_isBinary, RX11) (List.mem_of_getElem? (i := 11) rfl)
theorem nw_X7_35 {U : State} (h : NW U) : va_Nw (.methodLinkNest RX7 35 yX11_isBinary RX11) U := h (RX7, 35, yX11_isBinary, RX11) (List.mem_of_getElem? (i := 12) rfl)
theorem nw_X7_47 {U : State} (h : NW U) : va_Nw (.methodLinkNest RX7 47 yX11_isUnary RX11) U := h (RX7, 47, yX11_isUnary, RX11) (List.mem_of_getElem? (i := 13) rfl)
theorem nw_X8_112 {U : State} (h : NW U) : va_Nw (.methodLinkNest RX8 112 yX11_isIn RX11) U := h (RX8, 112, yX11_isIn, RX11) (List.mem_of_getElem? (i := 14) rfl)
theorem nw_X9_44 {U : State} (h : NW U) : va_Nw (.methodLinkNest RX9 44 yX11_isBare RX11) U := h (RX9, 44, yX11_isBare, RX11) (List.mem_of_getElem? (i := 15) rfl)
theorem hd_J0_charAt_5068e : yJ0_charAt_5068e.cls ≠ "java/lang/invoke/MethodHandle" ∧ yJ0_charAt_5068e.cls ≠ "java/lang/invoke/VarHandle" ∧ (parseMethodDescriptor yJ0_charAt_5068e.desc).map (fun d => d.parameters.length) = some 1 := by decide +kernel
theorem hd_J0_checkIndex_df160 : yJ0_checkIndex_df160.cls ≠ "java/lang/invoke/MethodHandle" ∧ yJ0_checkIndex_df160.cls ≠ "java/lang/invoke/VarHandle" ∧ (parseMethodDescriptor yJ0_checkIndex_df160.desc).map (fun d => d.parameters.length) = some 2 := by decide +kernel
theorem hd_J0_coder_7d493 : yJ0_coder_7d493.cls ≠ "java/lang/invoke/MethodHandle" ∧ yJ0_coder_7d493.cls ≠ "java/lang/invoke/VarHandle" ∧ (parseMethodDescriptor yJ0_coder_7d493.desc).map (fun d => d.parameters.length) = some 0 := by decide +kernel
theorem hd_J0_isLatin1_aae02 : yJ0_isLatin1_aae02.cls ≠ "java/lang/invoke/MethodHandle" ∧ yJ0_isLatin1_aae02.cls ≠ "java/lang/invoke/VarHandle" ∧ (parseMethodDescriptor yJ0_isLatin1_aae02.desc).map (fun d => d.parameters.length) = some 0 := by decide +kernel
theorem hd_J0_length_8abf5 : yJ0_length_8abf5.cls ≠ "java/lang/invoke/MethodHandle" ∧ yJ0_length_8abf5.cls ≠ "java/lang/invoke/VarHandle" ∧ (parseMethodDescriptor yJ0_length_8abf5.desc).map (fun d => d.parameters.length) = some 0 := by decide +kernel
theorem hd_J1_charAt_3b067 : yJ1_charAt_3b067.cls ≠ "java/lang/invoke/MethodHandle" ∧ yJ1_charAt_3b067.cls ≠ "java/lang/invoke/VarHandle" ∧ (parseMethodDescriptor yJ1_charAt_3b067.desc).map (fun d => d.parameters.length) = some 2 := by decide +kernel
theorem hd_J13_bitCount_95d88 : yJ13_bitCount_95d88.cls ≠ "java/lang/invoke/MethodHandle" ∧ yJ13_bitCount_95d88.cls ≠ "java/lang/invoke/VarHandle" ∧ (parseMethodDescriptor yJ13_bitCount_95d88.desc).map (fun d => d.parameters.length) = some 1 := by decide +kernel
theorem hd_J13_numberOfTrailingZeros_95d88 : yJ13_numberOfTrailingZeros_95d88.cls ≠ "java/lang/invoke/MethodHandle" ∧ yJ13_numberOfTrailingZeros_95d88.cls ≠ "java/lang/invoke/VarHandle" ∧ (parseMethodDescriptor yJ13_numberOfTrailingZeros_95d88.desc).map (fun d => d.parameters.length) = some 1 := by decide +kernel
theorem hd_J2_charAt_3b067 : yJ2_charAt_3b067.cls ≠ "java/lang/invoke/MethodHandle" ∧ yJ2_charAt_3b067.cls ≠ "java/lang/invoke/VarHandle" ∧ (parseMethodDescriptor yJ2_charAt_3b067.desc).map (fun d => d.parameters.length) = some 2 := by decide +kernel
theorem hd_J2_checkIndex_2214a : yJ2_checkIndex_2214a.cls ≠ "java/lang/invoke/MethodHandle" ∧ yJ2_checkIndex_2214a.cls ≠ "java/lang/invoke/VarHandle" ∧ (parseMethodDescriptor yJ2_checkIndex_2214a.desc).map (fun d => d.parameters.length) = some 2 := by decide +kernel
theorem hd_J2_getChar_3b067 : yJ2_getChar_3b067.cls ≠ "java/lang/invoke/MethodHandle" ∧ yJ2_getChar_3b067.cls ≠ "java/lang/invoke/VarHandle" ∧ (parseMethodDescriptor yJ2_getChar_3b067.desc).map (fun d => d.parameters.length) = some 2 := by decide +kernel
theorem hd_J2_length_9d52b : yJ2_length_9d52b.cls ≠ "java/lang/invoke/MethodHandle" ∧ yJ2_length_9d52b.cls ≠ "java/lang/invoke/VarHandle" ∧ (parseMethodDescriptor yJ2_length_9d52b.desc).map (fun d => d.parameters.length) = some 1 := by decide +kernel
theorem hd_J3_checkIndex_8e157 : yJ3_checkIndex_8e157.cls ≠ "java/lang/invoke/MethodHandle" ∧ yJ3_checkIndex_8e157.cls ≠ "java/lang/invoke/VarHandle" ∧ (parseMethodDescriptor yJ3_checkIndex_8e157.desc).map (fun d => d.parameters.length) = some 3 := by decide +kernel
theorem hd_J6_numberOfTrailingZeros_0f7a4 : yJ6_numberOfTrailingZeros_0f7a4.cls ≠ "java/lang/invoke/MethodHandle" ∧ yJ6_numberOfTrailingZeros_0f7a4.cls ≠ "java/lang/invoke/VarHandle" ∧ (parseMethodDescriptor yJ6_numberOfTrailingZeros_0f7a4.desc).map (fun d => d.parameters.length) = some 1 := by decide +kernel
theorem hd_J9_max_7cf53 : yJ9_max_7cf53.cls ≠ "java/lang/invoke/MethodHandle" ∧ yJ9_max_7cf53.cls ≠ "java/lang/invoke/VarHandle" ∧ (parseMethodDescriptor yJ9_max_7cf53.desc).map (fun d => d.parameters.length) = some 2 := by decide +kernel
theorem hd_X0_catcherOf : yX0_catcherOf.cls ≠ "java/lang/invoke/MethodHandle" ∧ yX0_catcherOf.cls ≠ "java/lang/invoke/VarHandle" ∧ (parseMethodDescriptor yX0_catcherOf.desc).map (fun d => d.parameters.length) = some 1 := by decide +kernel
theorem hd_X0_cut : yX0_cut.cls ≠ "java/lang/invoke/MethodHandle" ∧ yX0_cut.cls ≠ "java/lang/invoke/VarHandle" ∧ (parseMethodDescriptor yX0_cut.desc).map (fun d => d.parameters.length) = some 0 := by decide +kernel
theorem hd_X0_edgeTo : yX0_edgeTo.cls ≠ "java/lang/invoke/MethodHandle" ∧ yX0_edgeTo.cls ≠ "java/lang/invoke/VarHandle" ∧ (parseMethodDescriptor yX0_edgeTo.desc).map (fun d => d.parameters.length) = some 2 := by decide +kernel
theorem hd_X0_join : yX0_join.cls ≠ "java/lang/invoke/MethodHandle" ∧ yX0_join.cls ≠ "java/lang/invoke/VarHandle" ∧ (parseMethodDescriptor yX0_join.desc).map (fun d => d.parameters.length) = some 1 := by decide +kernel
theorem hd_X0_lead : yX0_lead.cls ≠ "java/lang/invoke/MethodHandle" ∧ yX0_lead.cls ≠ "java/lang/invoke/VarHandle" ∧ (parseMethodDescriptor yX0_lead.desc).map (fun d => d.parameters.length) = some 3 := by decide +kernel
theorem hd_X0_leadingTo : yX0_leadingTo.cls ≠ "java/lang/invoke/MethodHandle" ∧ yX0_leadingTo.cls ≠ "java/lang/invoke/VarHandle" ∧ (parseMethodDescriptor yX0_leadingTo.desc).map (fun d => d.parameters.length) = some 1 := by decide +kernel
theorem hd_X0_markCuts : yX0_markCuts.cls ≠ "java/lang/invoke/MethodHandle" ∧ yX0_markCuts.cls ≠ "java/lang/invoke/VarHandle" ∧ (parseMethodDescriptor yX0_markCuts.desc).map (fun d => d.parameters.length) = some 0 := by decide +kernel
theorem hd_X0_way : yX0_way.cls ≠ "java/lang/invoke/MethodHandle" ∧ yX0_way.cls ≠ "java/lang/invoke/VarHandle" ∧ (parseMethodDescriptor yX0_way.desc).map (fun d => d.parameters.length) = some 2 := by decide +kernel
theorem hd_X1_add : yX1_add.cls ≠ "java/lang/invoke/MethodHandle" ∧ yX1_add.cls ≠ "java/lang/invoke/VarHandle" ∧ (parseMethodDescriptor yX1_add.desc).map (fun d => d.parameters.length) = some 3 := by decide +kernel
theorem hd_X1_countUnlike : yX1_countUnlike.cls ≠ "java/lang/invoke/MethodHandle" ∧ yX1_countUnlike.cls ≠ "java/lang/invoke/VarHandle" ∧ (parseMethodDescriptor yX1_countUnlike.desc).map (fun d => d.parameters.length) = some 0 := by decide +kernel
theorem hd_X1_drop : yX1_drop.cls ≠ "java/lang/invoke/MethodHandle" ∧ yX1_drop.cls ≠ "java/lang/invoke/VarHandle" ∧ (parseMethodDescriptor yX1_drop.desc).map (fun d => d.parameters.length) = some 1 := by decide +kernel
theorem hd_X1_exchange : yX1_exchange.cls ≠ "java/lang/invoke/MethodHandle" ∧ yX1_exchange.cls ≠ "java/lang/invoke/VarHandle" ∧ (parseMethodDescriptor yX1_exchange.desc).map (fun d => d.parameters.length) = some 0 := by decide +kernel
theorem hd_X1_fullest : yX1_fullest.cls ≠ "java/lang/invoke/MethodHandle" ∧ yX1_fullest.cls ≠ "java/lang/invoke/VarHandle" ∧ (parseMethodDescriptor yX1_fullest.desc).map (fun d => d.parameters.length) = some 0 := by decide +kernel
theorem hd_X1_handOver : yX1_handOver.cls ≠ "java/lang/invoke/MethodHandle" ∧ yX1_handOver.cls ≠ "java/lang/invoke/VarHandle" ∧ (parseMethodDescriptor yX1_handOver.desc).map (fun d => d.parameters.length) = some 1 := by decide +kernel
theorem hd_X1_isNeededAbove : yX1_isNeededAbove.cls ≠ "java/lang/invoke/MethodHandle" ∧ yX1_isNeededAbove.cls ≠ "java/lang/invoke/VarHandle" ∧ (parseMethodDescriptor yX1_isNeededAbove.desc).map (fun d => d.parameters.length) = some 2 := by decide +kernel
theorem hd_X1_lift : yX1_lift.cls ≠ "java/lang/invoke/MethodHandle" ∧ yX1_lift.cls ≠ "java/lang/invoke/VarHandle" ∧ (parseMethodDescriptor yX1_lift.desc).map (fun d => d.parameters.length) = some 0 := by decide +kernel
theorem hd_X1_mostParts : yX1_mostParts.cls ≠ "java/lang/invoke/MethodHandle" ∧ yX1_mostParts.cls ≠ "java/lang/invoke/VarHandle" ∧ (parseMethodDescriptor yX1_mostParts.desc).map (fun d => d.parameters.length) = some 0 := by decide +kernel
theorem hd_X1_operate : yX1_operate.cls ≠ "java/lang/invoke/MethodHandle" ∧ yX1_operate.cls ≠ "java/lang/invoke/VarHandle" ∧ (parseMethodDescriptor yX1_operate.desc).map (fun d => d.parameters.length) = some 1 := by decide +kernel
theorem hd_X1_pop : yX1_pop.cls ≠ "java/lang/invoke/MethodHandle" ∧ yX1_pop.cls ≠ "java/lang/invoke/VarHandle" ∧ (parseMethodDescriptor yX1_pop.desc).map (fun d => d.parameters.length) = some 0 := by decide +kernel
theorem hd_X1_push : yX1_push.cls ≠ "java/lang/invoke/MethodHandle" ∧ yX1_push.cls ≠ "java/lang/invoke/VarHandle" ∧ (parseMethodDescriptor yX1_push.desc).map (fun d => d.parameters.length) = some 1 := by decide +kernel
theorem hd_X1_putAside : yX1_putAside.cls ≠ "java/lang/invoke/MethodHandle" ∧ yX1_putAside.cls ≠ "java/lang/invoke/VarHandle" ∧ (parseMethodDescriptor yX1_putAside.desc).map (fun d => d.parameters.length) = some 1 := by decide +kernel
theorem hd_X1_replaceAbove : yX1_replaceAbove.cls ≠ "java/lang/invoke/MethodHandle" ∧ yX1_replaceAbove.cls ≠ "java/lang/invoke/VarHandle" ∧ (parseMethodDescriptor yX1_replaceAbove.desc).map (fun d => d.parameters.length) = some 3 := by decide +kernel
theorem hd_X1_spill : yX1_spill.cls ≠ "java/lang/invoke/MethodHandle" ∧ yX1_spill.cls ≠ "java/lang/invoke/VarHandle" ∧ (parseMethodDescriptor yX1_spill.desc).map (fun d => d.parameters.length) = some 1 := by decide +kernel
theorem hd_X1_state : yX1_state.cls ≠ "java/lang/invoke/MethodHandle" ∧ yX1_state.cls ≠ "java/lang/invoke/VarHandle" ∧ (parseMethodDescriptor yX1_state.desc).map (fun d => d.parameters.length) = some 3 := by decide +kernel
theorem hd_X1_step : yX1_step.cls ≠ "java/lang/invoke/MethodHandle" ∧ yX1_step.cls ≠ "java/lang/invoke/VarHandle" ∧ (parseMethodDescriptor yX1_step.desc).map (fun d => d.parameters.length) = some 2 := by decide +kernel
theorem hd_X1_tellWithin : yX1_tellWithin.cls ≠ "java/lang/invoke/MethodHandle" ∧ yX1_tellWithin.cls ≠ "java/lang/invoke/VarHandle" ∧ (parseMethodDescriptor yX1_tellWithin.desc).map (fun d => d.parameters.length) = some 1 := by decide +kernel
theorem hd_X1_twice : yX1_twice.cls ≠ "java/lang/invoke/MethodHandle" ∧ yX1_twice.cls ≠ "java/lang/invoke/VarHandle" ∧ (parseMethodDescriptor yX1_twice.desc).map (fun d => d.parameters.length) = some 0 := by decide +kernel
theorem hd_X10_assumeAll : yX10_assumeAll.cls ≠ "java/lang/invoke/MethodHandle" ∧ yX10_assumeAll.cls ≠ "java/lang/invoke/VarHandle" ∧ (parseMethodDescriptor yX10_assumeAll.desc).map (fun d => d.parameters.length) = some 0 := by decide +kernel
theorem hd_X10_deny : yX10_deny.cls ≠ "java/lang/invoke/MethodHandle" ∧ yX10_deny.cls ≠ "java/lang/invoke/VarHandle" ∧ (parseMethodDescriptor yX10_deny.desc).map (fun d => d.parameters.length) = some 1 := by decide +kernel
theorem hd_X10_holds : yX10_holds.cls ≠ "java/lang/invoke/MethodHandle" ∧ yX10_holds.cls ≠ "java/lang/invoke/VarHandle" ∧ (parseMethodDescriptor yX10_holds.desc).map (fun d => d.parameters.length) = some 1 := by decide +kernel
theorem hd_X10_howMany : yX10_howMany.cls ≠ "java/lang/invoke/MethodHandle" ∧ yX10_howMany.cls ≠ "java/lang/invoke/VarHandle" ∧ (parseMethodDescriptor yX10_howMany.desc).map (fun d => d.parameters.length) = some 0 := by decide +kernel
theorem hd_X10_isTaken : yX10_isTaken.cls ≠ "java/lang/invoke/MethodHandle" ∧ yX10_isTaken.cls ≠ "java/lang/invoke/VarHandle" ∧ (parseMethodDescriptor yX10_isTaken.desc).map (fun d => d.parameters.length) = some 1 := by decide +kernel
theorem hd_X10_judge : yX10_judge.cls ≠ "java/lang/invoke/MethodHandle" ∧ yX10_judge.cls ≠ "java/lang/invoke/VarHandle" ∧ (parseMethodDescriptor yX10_judge.desc).map (fun d => d.parameters.length) = some 0 := by decide +kernel
theorem hd_X11_adoptDraft : yX11_adoptDraft.cls ≠ "java/lang/invoke/MethodHandle" ∧ yX11_adoptDraft.cls ≠ "java/lang/invoke/VarHandle" ∧ (parseMethodDescriptor yX11_adoptDraft.desc).map (fun d => d.parameters.length) = some 0 := by decide +kernel
theorem hd_X11_block : yX11_block.cls ≠ "java/lang/invoke/MethodHandle" ∧ yX11_block.cls ≠ "java/lang/invoke/VarHandle" ∧ (parseMethodDescriptor yX11_block.desc).map (fun d => d.parameters.length) = some 2 := by decide +kernel
theorem hd_X11_bytesIn : yX11_bytesIn.cls ≠ "java/lang/invoke/MethodHandle" ∧ yX11_bytesIn.cls ≠ "java/lang/invoke/VarHandle" ∧ (parseMethodDescriptor yX11_bytesIn.desc).map (fun d => d.parameters.length) = some 1 := by decide +kernel
theorem hd_X11_canRun : yX11_canRun.cls ≠ "java/lang/invoke/MethodHandle" ∧ yX11_canRun.cls ≠ "java/lang/invoke/VarHandle" ∧ (parseMethodDescriptor yX11_canRun.desc).map (fun d => d.parameters.length) = some 2 := by decide +kernel
theorem hd_X11_code : yX11_code.cls ≠ "java/lang/invoke/MethodHandle" ∧ yX11_code.cls ≠ "java/lang/invoke/VarHandle" ∧ (parseMethodDescriptor yX11_code.desc).map (fun d => d.parameters.length) = some 0 := by decide +kernel
theorem hd_X11_comesTo : yX11_comesTo.cls ≠ "java/lang/invoke/MethodHandle" ∧ yX11_comesTo.cls ≠ "java/lang/invoke/VarHandle" ∧ (parseMethodDescriptor yX11_comesTo.desc).map (fun d => d.parameters.length) = some 1 := by decide +kernel
theorem hd_X11_condition : yX11_condition.cls ≠ "java/lang/invoke/MethodHandle" ∧ yX11_condition.cls ≠ "java/lang/invoke/VarHandle" ∧ (parseMethodDescriptor yX11_condition.desc).map (fun d => d.parameters.length) = some 2 := by decide +kernel
theorem hd_X11_count : yX11_count.cls ≠ "java/lang/invoke/MethodHandle" ∧ yX11_count.cls ≠ "java/lang/invoke/VarHandle" ∧ (parseMethodDescriptor yX11_count.desc).map (fun d => d.parameters.length) = some 1 := by decide +kernel
theorem hd_X11_dividesByZero : yX11_dividesByZero.cls ≠ "java/lang/invoke/MethodHandle" ∧ yX11_dividesByZero.cls ≠ "java/lang/invoke/VarHandle" ∧ (parseMethodDescriptor yX11_dividesByZero.desc).map (fun d => d.parameters.length) = some 2 := by decide +kernel
theorem hd_X11_dominates : yX11_dominates.cls ≠ "java/lang/invoke/MethodHandle" ∧ yX11_dominates.cls ≠ "java/lang/invoke/VarHandle" ∧ (parseMethodDescriptor yX11_dominates.desc).map (fun d => d.parameters.length) = some 2 := by decide +kernel
theorem hd_X11_edge : yX11_edge.cls ≠ "java/lang/invoke/MethodHandle" ∧ yX11_edge.cls ≠ "java/lang/invoke/VarHandle" ∧ (parseMethodDescriptor yX11_edge.desc).map (fun d => d.parameters.length) = some 2 := by decide +kernel
theorem hd_X11_end : yX11_end.cls ≠ "java/lang/invoke/MethodHandle" ∧ yX11_end.cls ≠ "java/lang/invoke/VarHandle" ∧ (parseMethodDescriptor yX11_end.desc).map (fun d => d.parameters.length) = some 1 := by decide +kernel
theorem hd_X11_far : yX11_far.cls ≠ "java/lang/invoke/MethodHandle" ∧ yX11_far.cls ≠ "java/lang/invoke/VarHandle" ∧ (parseMethodDescriptor yX11_far.desc).map (fun d => d.parameters.length) = some 2 := by decide +kernel
theorem hd_X11_fault : yX11_fault.cls ≠ "java/lang/invoke/MethodHandle" ∧ yX11_fault.cls ≠ "java/lang/invoke/VarHandle" ∧ (parseMethodDescriptor yX11_fault.desc).map (fun d => d.parameters.length) = some 0 := by decide +kernel
theorem hd_X11_feed : yX11_feed.cls ≠ "java/lang/invoke/MethodHandle" ∧ yX11_feed.cls ≠ "java/lang/invoke/VarHandle" ∧ (parseMethodDescriptor yX11_feed.desc).map (fun d => d.parameters.length) = some 5 := by decide +kernel
theorem hd_X11_goThrough : yX11_goThrough.cls ≠ "java/lang/invoke/MethodHandle" ∧ yX11_goThrough.cls ≠ "java/lang/invoke/VarHandle" ∧ (parseMethodDescriptor yX11_goThrough.desc).map (fun d => d.parameters.length) = some 1 := by decide +kernel
theorem hd_X11_instruction : yX11_instruction.cls ≠ "java/lang/invoke/MethodHandle" ∧ yX11_instruction.cls ≠ "java/lang/invoke/VarHandle" ∧ (parseMethodDescriptor yX11_instruction.desc).map (fun d => d.parameters.length) = some 2 := by decide +kernel
theorem hd_X11_isBare : yX11_isBare.cls ≠ "java/lang/invoke/MethodHandle" ∧ yX11_isBare.cls ≠ "java/lang/invoke/VarHandle" ∧ (parseMethodDescriptor yX11_isBare.desc).map (fun d => d.parameters.length) = some 1 := by decide +kernel
theorem hd_X11_isBinary : yX11_isBinary.cls ≠ "java/lang/invoke/MethodHandle" ∧ yX11_isBinary.cls ≠ "java/lang/invoke/VarHandle" ∧ (parseMethodDescriptor yX11_isBinary.desc).map (fun d => d.parameters.length) = some 1 := by decide +kernel
theorem hd_X11_isBlock : yX11_isBlock.cls ≠ "java/lang/invoke/MethodHandle" ∧ yX11_isBlock.cls ≠ "java/lang/invoke/VarHandle" ∧ (parseMethodDescriptor yX11_isBlock.desc).map (fun d => d.parameters.length) = some 1 := by decide +kernel
theorem hd_X11_isIn : yX11_isIn.cls ≠ "java/lang/invoke/MethodHandle" ∧ yX11_isIn.cls ≠ "java/lang/invoke/VarHandle" ∧ (parseMethodDescriptor yX11_isIn.desc).map (fun d => d.parameters.length) = some 2 := by decide +kernel
theorem hd_X11_isInstruction : yX11_isInstruction.cls ≠ "java/lang/invoke/MethodHandle" ∧ yX11_isInstruction.cls ≠ "java/lang/invoke/VarHandle" ∧ (parseMethodDescriptor yX11_isInstruction.desc).map (fun d => d.parameters.length) = some 2 := by decide +kernel
theorem hd_X11_isLine : yX11_isLine.cls ≠ "java/lang/invoke/MethodHandle" ∧ yX11_isLine.cls ≠ "java/lang/invoke/VarHandle" ∧ (parseMethodDescriptor yX11_isLine.desc).map (fun d => d.parameters.length) = some 1 := by decide +kernel
theorem hd_X11_isUnary : yX11_isUnary.cls ≠ "java/lang/invoke/MethodHandle" ∧ yX11_isUnary.cls ≠ "java/lang/invoke/VarHandle" ∧ (parseMethodDescriptor yX11_isUnary.desc).map (fun d => d.parameters.length) = some 1 := by decide +kernel
theorem hd_X11_line : yX11_line.cls ≠ "java/lang/invoke/MethodHandle" ∧ yX11_line.cls ≠ "java/lang/invoke/VarHandle" ∧ (parseMethodDescriptor yX11_line.desc).map (fun d => d.parameters.length) = some 2 := by decide +kernel
theorem hd_X11_loop : yX11_loop.cls ≠ "java/lang/invoke/MethodHandle" ∧ yX11_loop.cls ≠ "java/lang/invoke/VarHandle" ∧ (parseMethodDescriptor yX11_loop.desc).map (fun d => d.parameters.length) = some 1 := by decide +kernel
theorem hd_X11_most : yX11_most.cls ≠ "java/lang/invoke/MethodHandle" ∧ yX11_most.cls ≠ "java/lang/invoke/VarHandle" ∧ (parseMethodDescriptor yX11_most.desc).map (fun d => d.parameters.length) = some 1 := by decide +kernel
theorem hd_X11_oneIf : yX11_oneIf.cls ≠ "java/lang/invoke/MethodHandle" ∧ yX11_oneIf.cls ≠ "java/lang/invoke/VarHandle" ∧ (parseMethodDescriptor yX11_oneIf.desc).map (fun d => d.parameters.length) = some 1 := by decide +kernel
theorem hd_X11_outcome : yX11_outcome.cls ≠ "java/lang/invoke/MethodHandle" ∧ yX11_outcome.cls ≠ "java/lang/invoke/VarHandle" ∧ (parseMethodDescriptor yX11_outcome.desc).map (fun d => d.parameters.length) = some 3 := by decide +kernel
theorem hd_X11_output : yX11_output.cls ≠ "java/lang/invoke/MethodHandle" ∧ yX11_output.cls ≠ "java/lang/invoke/VarHandle" ∧ (parseMethodDescriptor yX11_output.desc).map (fun d => d.parameters.length) = some 6 := by decide +kernel
theorem hd_X11_put : yX11_put.cls ≠ "java/lang/invoke/MethodHandle" ∧ yX11_put.cls ≠ "java/lang/invoke/VarHandle" ∧ (parseMethodDescriptor yX11_put.desc).map (fun d => d.parameters.length) = some 3 := by decide +kernel
theorem hd_X11_run : yX11_run.cls ≠ "java/lang/invoke/MethodHandle" ∧ yX11_run.cls ≠ "java/lang/invoke/VarHandle" ∧ (parseMethodDescriptor yX11_run.desc).map (fun d => d.parameters.length) = some 6 := by decide +kernel
theorem hd_X11_spell : yX11_spell.cls ≠ "java/lang/invoke/MethodHandle" ∧ yX11_spell.cls ≠ "java/lang/invoke/VarHandle" ∧ (parseMethodDescriptor yX11_spell.desc).map (fun d => d.parameters.length) = some 2 := by decide +kernel
theorem hd_X11_statement : yX11_statement.cls ≠ "java/lang/invoke/MethodHandle" ∧ yX11_statement.cls ≠ "java/lang/invoke/VarHandle" ∧ (parseMethodDescriptor yX11_statement.desc).map (fun d => d.parameters.length) = some 3 := by decide +kernel
theorem hd_X11_type : yX11_type.cls ≠ "java/lang/invoke/MethodHandle" ∧ yX11_type.cls ≠ "java/lang/invoke/VarHandle" ∧ (parseMethodDescriptor yX11_type.desc).map (fun d => d.parameters.length) = some 2 := by decide +kernel
theorem hd_X12_all : yX12_all.cls ≠ "java/lang/invoke/MethodHandle" ∧ yX12_all.cls ≠ "java/lang/invoke/VarHandle" ∧ (parseMethodDescriptor yX12_all.desc).map (fun d => d.parameters.length) = some 0 := by decide +kernel
theorem hd_X12_alone : yX12_alone.cls ≠ "java/lang/invoke/MethodHandle" ∧ yX12_alone.cls ≠ "java/lang/invoke/VarHandle" ∧ (parseMethodDescriptor yX12_alone.desc).map (fun d => d.parameters.length) = some 1 := by decide +kernel
theorem hd_X12_areAlike : yX12_areAlike.cls ≠ "java/lang/invoke/MethodHandle" ∧ yX12_areAlike.cls ≠ "java/lang/invoke/VarHandle" ∧ (parseMethodDescriptor yX12_areAlike.desc).map (fun d => d.parameters.length) = some 2 := by decide +kernel
theorem hd_X12_begins : yX12_begins.cls ≠ "java/lang/invoke/MethodHandle" ∧ yX12_begins.cls ≠ "java/lang/invoke/VarHandle" ∧ (parseMethodDescriptor yX12_begins.desc).map (fun d => d.parameters.length) = some 4 := by decide +kernel
theorem hd_X12_behind : yX12_behind.cls ≠ "java/lang/invoke/MethodHandle" ∧ yX12_behind.cls ≠ "java/lang/invoke/VarHandle" ∧ (parseMethodDescriptor yX12_behind.desc).map (fun d => d.parameters.length) = some 1 := by decide +kernel
theorem hd_X12_block : yX12_block.cls ≠ "java/lang/invoke/MethodHandle" ∧ yX12_block.cls ≠ "java/lang/invoke/VarHandle" ∧ (parseMethodDescriptor yX12_block.desc).map (fun d => d.parameters.length) = some 2 := by decide +kernel
theorem hd_X12_brings : yX12_brings.cls ≠ "java/lang/invoke/MethodHandle" ∧ yX12_brings.cls ≠ "java/lang/invoke/VarHandle" ∧ (parseMethodDescriptor yX12_brings.desc).map (fun d => d.parameters.length) = some 1 := by decide +kernel
theorem hd_X12_bytesOf : yX12_bytesOf.cls ≠ "java/lang/invoke/MethodHandle" ∧ yX12_bytesOf.cls ≠ "java/lang/invoke/VarHandle" ∧ (parseMethodDescriptor yX12_bytesOf.desc).map (fun d => d.parameters.length) = some 1 := by decide +kernel
theorem hd_X12_canThrow : yX12_canThrow.cls ≠ "java/lang/invoke/MethodHandle" ∧ yX12_canThrow.cls ≠ "java/lang/invoke/VarHandle" ∧ (parseMethodDescriptor yX12_canThrow.desc).map (fun d => d.parameters.length) = some 1 := by decide +kernel
theorem hd_X12_caught : yX12_caught.cls ≠ "java/lang/invoke/MethodHandle" ∧ yX12_caught.cls ≠ "java/lang/invoke/VarHandle" ∧ (parseMethodDescriptor yX12_caught.desc).map (fun d => d.parameters.length) = some 1 := by decide +kernel
theorem hd_X12_caughtLine : yX12_caughtLine.cls ≠ "java/lang/invoke/MethodHandle" ∧ yX12_caughtLine.cls ≠ "java/lang/invoke/VarHandle" ∧ (parseMethodDescriptor yX12_caughtLine.desc).map (fun d => d.parameters.length) = some 2 := by decide +kernel
theorem hd_X12_changes : yX12_changes.cls ≠ "java/lang/invoke/MethodHandle" ∧ yX12_changes.cls ≠ "java/lang/invoke/VarHandle" ∧ (parseMethodDescriptor yX12_changes.desc).map (fun d => d.parameters.length) = some 0 := by decide +kernel
theorem hd_X12_closes : yX12_closes.cls ≠ "java/lang/invoke/MethodHandle" ∧ yX12_closes.cls ≠ "java/lang/invoke/VarHandle" ∧ (parseMethodDescriptor yX12_closes.desc).map (fun d => d.parameters.length) = some 2 := by decide +kernel
theorem hd_X12_code : yX12_code.cls ≠ "java/lang/invoke/MethodHandle" ∧ yX12_code.cls ≠ "java/lang/invoke/VarHandle" ∧ (parseMethodDescriptor yX12_code.desc).map (fun d => d.parameters.length) = some 0 := by decide +kernel
theorem hd_X12_comeTo : yX12_comeTo.cls ≠ "java/lang/invoke/MethodHandle" ∧ yX12_comeTo.cls ≠ "java/lang/invoke/VarHandle" ∧ (parseMethodDescriptor yX12_comeTo.desc).map (fun d => d.parameters.length) = some 2 := by decide +kernel
theorem hd_X12_comes : yX12_comes.cls ≠ "java/lang/invoke/MethodHandle" ∧ yX12_comes.cls ≠ "java/lang/invoke/VarHandle" ∧ (parseMethodDescriptor yX12_comes.desc).map (fun d => d.parameters.length) = some 2 := by decide +kernel
theorem hd_X12_comesTo : yX12_comesTo.cls ≠ "java/lang/invoke/MethodHandle" ∧ yX12_comesTo.cls ≠ "java/lang/invoke/VarHandle" ∧ (parseMethodDescriptor yX12_comesTo.desc).map (fun d => d.parameters.length) = some 1 := by decide +kernel
theorem hd_X12_condition : yX12_condition.cls ≠ "java/lang/invoke/MethodHandle" ∧ yX12_condition.cls ≠ "java/lang/invoke/VarHandle" ∧ (parseMethodDescriptor yX12_condition.desc).map (fun d => d.parameters.length) = some 2 := by decide +kernel
theorem hd_X12_count : yX12_count.cls ≠ "java/lang/invoke/MethodHandle" ∧ yX12_count.cls ≠ "java/lang/invoke/VarHandle" ∧ (parseMethodDescriptor yX12_count.desc).map (fun d => d.parameters.length) = some 1 := by decide +kernel
theorem hd_X12_countDead : yX12_countDead.cls ≠ "java/lang/invoke/MethodHandle" ∧ yX12_countDead.cls ≠ "java/lang/invoke/VarHandle" ∧ (parseMethodDescriptor yX12_countDead.desc).map (fun d => d.parameters.length) = some 0 := by decide +kernel
theorem hd_X12_countLoops : yX12_countLoops.cls ≠ "java/lang/invoke/MethodHandle" ∧ yX12_countLoops.cls ≠ "java/lang/invoke/VarHandle" ∧ (parseMethodDescriptor yX12_countLoops.desc).map (fun d => d.parameters.length) = some 0 := by decide +kernel
theorem hd_X12_countMerges : yX12_countMerges.cls ≠ "java/lang/invoke/MethodHandle" ∧ yX12_countMerges.cls ≠ "java/lang/invoke/VarHandle" ∧ (parseMethodDescriptor yX12_countMerges.desc).map (fun d => d.parameters.length) = some 0 := by decide +kernel
theorem hd_X12_deepest : yX12_deepest.cls ≠ "java/lang/invoke/MethodHandle" ∧ yX12_deepest.cls ≠ "java/lang/invoke/VarHandle" ∧ (parseMethodDescriptor yX12_deepest.desc).map (fun d => d.parameters.length) = some 0 := by decide +kernel
theorem hd_X12_dominates : yX12_dominates.cls ≠ "java/lang/invoke/MethodHandle" ∧ yX12_dominates.cls ≠ "java/lang/invoke/VarHandle" ∧ (parseMethodDescriptor yX12_dominates.desc).map (fun d => d.parameters.length) = some 2 := by decide +kernel
theorem hd_X12_doubles : yX12_doubles.cls ≠ "java/lang/invoke/MethodHandle" ∧ yX12_doubles.cls ≠ "java/lang/invoke/VarHandle" ∧ (parseMethodDescriptor yX12_doubles.desc).map (fun d => d.parameters.length) = some 0 := by decide +kernel
theorem hd_X12_edge : yX12_edge.cls ≠ "java/lang/invoke/MethodHandle" ∧ yX12_edge.cls ≠ "java/lang/invoke/VarHandle" ∧ (parseMethodDescriptor yX12_edge.desc).map (fun d => d.parameters.length) = some 2 := by decide +kernel
theorem hd_X12_edgeOf : yX12_edgeOf.cls ≠ "java/lang/invoke/MethodHandle" ∧ yX12_edgeOf.cls ≠ "java/lang/invoke/VarHandle" ∧ (parseMethodDescriptor yX12_edgeOf.desc).map (fun d => d.parameters.length) = some 2 := by decide +kernel
theorem hd_X12_end : yX12_end.cls ≠ "java/lang/invoke/MethodHandle" ∧ yX12_end.cls ≠ "java/lang/invoke/VarHandle" ∧ (parseMethodDescriptor yX12_end.desc).map (fun d => d.parameters.length) = some 1 := by decide +kernel
theorem hd_X12_endOf : yX12_endOf.cls ≠ "java/lang/invoke/MethodHandle" ∧ yX12_endOf.cls ≠ "java/lang/invoke/VarHandle" ∧ (parseMethodDescriptor yX12_endOf.desc).map (fun d => d.parameters.length) = some 2 := by decide +kernel
theorem hd_X12_endOfIf : yX12_endOfIf.cls ≠ "java/lang/invoke/MethodHandle" ∧ yX12_endOfIf.cls ≠ "java/lang/invoke/VarHandle" ∧ (parseMethodDescriptor yX12_endOfIf.desc).map (fun d => d.parameters.length) = some 1 := by decide +kernel
theorem hd_X12_endsBlock : yX12_endsBlock.cls ≠ "java/lang/invoke/MethodHandle" ∧ yX12_endsBlock.cls ≠ "java/lang/invoke/VarHandle" ∧ (parseMethodDescriptor yX12_endsBlock.desc).map (fun d => d.parameters.length) = some 1 := by decide +kernel
theorem hd_X12_enters : yX12_enters.cls ≠ "java/lang/invoke/MethodHandle" ∧ yX12_enters.cls ≠ "java/lang/invoke/VarHandle" ∧ (parseMethodDescriptor yX12_enters.desc).map (fun d => d.parameters.length) = some 0 := by decide +kernel
theorem hd_X12_far : yX12_far.cls ≠ "java/lang/invoke/MethodHandle" ∧ yX12_far.cls ≠ "java/lang/invoke/VarHandle" ∧ (parseMethodDescriptor yX12_far.desc).map (fun d => d.parameters.length) = some 2 := by decide +kernel
theorem hd_X12_fault : yX12_fault.cls ≠ "java/lang/invoke/MethodHandle" ∧ yX12_fault.cls ≠ "java/lang/invoke/VarHandle" ∧ (parseMethodDescriptor yX12_fault.desc).map (fun d => d.parameters.length) = some 0 := by decide +kernel
theorem hd_X12_feed : yX12_feed.cls ≠ "java/lang/invoke/MethodHandle" ∧ yX12_feed.cls ≠ "java/lang/invoke/VarHandle" ∧ (parseMethodDescriptor yX12_feed.desc).map (fun d => d.parameters.length) = some 5 := by decide +kernel
theorem hd_X12_folded : yX12_folded.cls ≠ "java/lang/invoke/MethodHandle" ∧ yX12_folded.cls ≠ "java/lang/invoke/VarHandle" ∧ (parseMethodDescriptor yX12_folded.desc).map (fun d => d.parameters.length) = some 0 := by decide +kernel
theorem hd_X12_freshX : yX12_freshX.cls ≠ "java/lang/invoke/MethodHandle" ∧ yX12_freshX.cls ≠ "java/lang/invoke/VarHandle" ∧ (parseMethodDescriptor yX12_freshX.desc).map (fun d => d.parameters.length) = some 1 := by decide +kernel
theorem hd_X12_goes : yX12_goes.cls ≠ "java/lang/invoke/MethodHandle" ∧ yX12_goes.cls ≠ "java/lang/invoke/VarHandle" ∧ (parseMethodDescriptor yX12_goes.desc).map (fun d => d.parameters.length) = some 2 := by decide +kernel
theorem hd_X12_goesOn : yX12_goesOn.cls ≠ "java/lang/invoke/MethodHandle" ∧ yX12_goesOn.cls ≠ "java/lang/invoke/VarHandle" ∧ (parseMethodDescriptor yX12_goesOn.desc).map (fun d => d.parameters.length) = some 1 := by decide +kernel
theorem hd_X12_goesThrough : yX12_goesThrough.cls ≠ "java/lang/invoke/MethodHandle" ∧ yX12_goesThrough.cls ≠ "java/lang/invoke/VarHandle" ∧ (parseMethodDescriptor yX12_goesThrough.desc).map (fun d => d.parameters.length) = some 1 := by decide +kernel
theorem hd_X12_goesTo : yX12_goesTo.cls ≠ "java/lang/invoke/MethodHandle" ∧ yX12_goesTo.cls ≠ "java/lang/invoke/VarHandle" ∧ (parseMethodDescriptor yX12_goesTo.desc).map (fun d => d.parameters.length) = some 1 := by decide +kernel
theorem hd_X12_handler : yX12_handler.cls ≠ "java/lang/invoke/MethodHandle" ∧ yX12_handler.cls ≠ "java/lang/invoke/VarHandle" ∧ (parseMethodDescriptor yX12_handler.desc).map (fun d => d.parameters.length) = some 0 := by decide +kernel
theorem hd_X12_handlerOf : yX12_handlerOf.cls ≠ "java/lang/invoke/MethodHandle" ∧ yX12_handlerOf.cls ≠ "java/lang/invoke/VarHandle" ∧ (parseMethodDescriptor yX12_handlerOf.desc).map (fun d => d.parameters.length) = some 3 := by decide +kernel
theorem hd_X12_has : yX12_has.cls ≠ "java/lang/invoke/MethodHandle" ∧ yX12_has.cls ≠ "java/lang/invoke/VarHandle" ∧ (parseMethodDescriptor yX12_has.desc).map (fun d => d.parameters.length) = some 2 := by decide +kernel
theorem hd_X12_hasEffects : yX12_hasEffects.cls ≠ "java/lang/invoke/MethodHandle" ∧ yX12_hasEffects.cls ≠ "java/lang/invoke/VarHandle" ∧ (parseMethodDescriptor yX12_hasEffects.desc).map (fun d => d.parameters.length) = some 1 := by decide +kernel
theorem hd_X12_hasName : yX12_hasName.cls ≠ "java/lang/invoke/MethodHandle" ∧ yX12_hasName.cls ≠ "java/lang/invoke/VarHandle" ∧ (parseMethodDescriptor yX12_hasName.desc).map (fun d => d.parameters.length) = some 3 := by decide +kernel
theorem hd_X12_hasRun : yX12_hasRun.cls ≠ "java/lang/invoke/MethodHandle" ∧ yX12_hasRun.cls ≠ "java/lang/invoke/VarHandle" ∧ (parseMethodDescriptor yX12_hasRun.desc).map (fun d => d.parameters.length) = some 5 := by decide +kernel
theorem hd_X12_hasSecond : yX12_hasSecond.cls ≠ "java/lang/invoke/MethodHandle" ∧ yX12_hasSecond.cls ≠ "java/lang/invoke/VarHandle" ∧ (parseMethodDescriptor yX12_hasSecond.desc).map (fun d => d.parameters.length) = some 1 := by decide +kernel
theorem hd_X12_here : yX12_here.cls ≠ "java/lang/invoke/MethodHandle" ∧ yX12_here.cls ≠ "java/lang/invoke/VarHandle" ∧ (parseMethodDescriptor yX12_here.desc).map (fun d => d.parameters.length) = some 0 := by decide +kernel
theorem hd_X12_inner : yX12_inner.cls ≠ "java/lang/invoke/MethodHandle" ∧ yX12_inner.cls ≠ "java/lang/invoke/VarHandle" ∧ (parseMethodDescriptor yX12_inner.desc).map (fun d => d.parameters.length) = some 1 := by decide +kernel
theorem hd_X12_innermost : yX12_innermost.cls ≠ "java/lang/invoke/MethodHandle" ∧ yX12_innermost.cls ≠ "java/lang/invoke/VarHandle" ∧ (parseMethodDescriptor yX12_innermost.desc).map (fun d => d.parameters.length) = some 1 := by decide +kernel
theorem hd_X12_input : yX12_input.cls ≠ "java/lang/invoke/MethodHandle" ∧ yX12_input.cls ≠ "java/lang/invoke/VarHandle" ∧ (parseMethodDescriptor yX12_input.desc).map (fun d => d.parameters.length) = some 0 := by decide +kernel
theorem hd_X12_instruction : yX12_instruction.cls ≠ "java/lang/invoke/MethodHandle" ∧ yX12_instruction.cls ≠ "java/lang/invoke/VarHandle" ∧ (parseMethodDescriptor yX12_instruction.desc).map (fun d => d.parameters.length) = some 1 := by decide +kernel
theorem hd_X12_instruction_ : yX12_instruction_.cls ≠ "java/lang/invoke/MethodHandle" ∧ yX12_instruction_.cls ≠ "java/lang/invoke/VarHandle" ∧ (parseMethodDescriptor yX12_instruction_.desc).map (fun d => d.parameters.length) = some 2 := by decide +kernel
theorem hd_X12_isBlock : yX12_isBlock.cls ≠ "java/lang/invoke/MethodHandle" ∧ yX12_isBlock.cls ≠ "java/lang/invoke/VarHandle" ∧ (parseMethodDescriptor yX12_isBlock.desc).map (fun d => d.parameters.length) = some 1 := by decide +kernel
theorem hd_X12_isBoth : yX12_isBoth.cls ≠ "java/lang/invoke/MethodHandle" ∧ yX12_isBoth.cls ≠ "java/lang/invoke/VarHandle" ∧ (parseMethodDescriptor yX12_isBoth.desc).map (fun d => d.parameters.length) = some 1 := by decide +kernel
theorem hd_X12_isCode : yX12_isCode.cls ≠ "java/lang/invoke/MethodHandle" ∧ yX12_isCode.cls ≠ "java/lang/invoke/VarHandle" ∧ (parseMethodDescriptor yX12_isCode.desc).map (fun d => d.parameters.length) = some 2 := by decide +kernel
theorem hd_X12_isCome : yX12_isCome.cls ≠ "java/lang/invoke/MethodHandle" ∧ yX12_isCome.cls ≠ "java/lang/invoke/VarHandle" ∧ (parseMethodDescriptor yX12_isCome.desc).map (fun d => d.parameters.length) = some 1 := by decide +kernel
theorem hd_X12_isCutAhead : yX12_isCutAhead.cls ≠ "java/lang/invoke/MethodHandle" ∧ yX12_isCutAhead.cls ≠ "java/lang/invoke/VarHandle" ∧ (parseMethodDescriptor yX12_isCutAhead.desc).map (fun d => d.parameters.length) = some 1 := by decide +kernel
theorem hd_X12_isDigit : yX12_isDigit.cls ≠ "java/lang/invoke/MethodHandle" ∧ yX12_isDigit.cls ≠ "java/lang/invoke/VarHandle" ∧ (parseMethodDescriptor yX12_isDigit.desc).map (fun d => d.parameters.length) = some 0 := by decide +kernel
theorem hd_X12_isEntry : yX12_isEntry.cls ≠ "java/lang/invoke/MethodHandle" ∧ yX12_isEntry.cls ≠ "java/lang/invoke/VarHandle" ∧ (parseMethodDescriptor yX12_isEntry.desc).map (fun d => d.parameters.length) = some 2 := by decide +kernel
theorem hd_X12_isForked : yX12_isForked.cls ≠ "java/lang/invoke/MethodHandle" ∧ yX12_isForked.cls ≠ "java/lang/invoke/VarHandle" ∧ (parseMethodDescriptor yX12_isForked.desc).map (fun d => d.parameters.length) = some 1 := by decide +kernel
theorem hd_X12_isGoodSo : yX12_isGoodSo.cls ≠ "java/lang/invoke/MethodHandle" ∧ yX12_isGoodSo.cls ≠ "java/lang/invoke/VarHandle" ∧ (parseMethodDescriptor yX12_isGoodSo.desc).map (fun d => d.parameters.length) = some 0 := by decide +kernel
theorem hd_X12_isIdle : yX12_isIdle.cls ≠ "java/lang/invoke/MethodHandle" ∧ yX12_isIdle.cls ≠ "java/lang/invoke/VarHandle" ∧ (parseMethodDescriptor yX12_isIdle.desc).map (fun d => d.parameters.length) = some 1 := by decide +kernel
theorem hd_X12_isIn : yX12_isIn.cls ≠ "java/lang/invoke/MethodHandle" ∧ yX12_isIn.cls ≠ "java/lang/invoke/VarHandle" ∧ (parseMethodDescriptor yX12_isIn.desc).map (fun d => d.parameters.length) = some 3 := by decide +kernel
theorem hd_X12_isLess : yX12_isLess.cls ≠ "java/lang/invoke/MethodHandle" ∧ yX12_isLess.cls ≠ "java/lang/invoke/VarHandle" ∧ (parseMethodDescriptor yX12_isLess.desc).map (fun d => d.parameters.length) = some 1 := by decide +kernel
theorem hd_X12_isLine : yX12_isLine.cls ≠ "java/lang/invoke/MethodHandle" ∧ yX12_isLine.cls ≠ "java/lang/invoke/VarHandle" ∧ (parseMethodDescriptor yX12_isLine.desc).map (fun d => d.parameters.length) = some 1 := by decide +kernel
theorem hd_X12_isMerge : yX12_isMerge.cls ≠ "java/lang/invoke/MethodHandle" ∧ yX12_isMerge.cls ≠ "java/lang/invoke/VarHandle" ∧ (parseMethodDescriptor yX12_isMerge.desc).map (fun d => d.parameters.length) = some 1 := by decide +kernel
theorem hd_X12_isName : yX12_isName.cls ≠ "java/lang/invoke/MethodHandle" ∧ yX12_isName.cls ≠ "java/lang/invoke/VarHandle" ∧ (parseMethodDescriptor yX12_isName.desc).map (fun d => d.parameters.length) = some 1 := by decide +kernel
theorem hd_X12_isOne : yX12_isOne.cls ≠ "java/lang/invoke/MethodHandle" ∧ yX12_isOne.cls ≠ "java/lang/invoke/VarHandle" ∧ (parseMethodDescriptor yX12_isOne.desc).map (fun d => d.parameters.length) = some 1 := by decide +kernel
theorem hd_X12_isOneOf : yX12_isOneOf.cls ≠ "java/lang/invoke/MethodHandle" ∧ yX12_isOneOf.cls ≠ "java/lang/invoke/VarHandle" ∧ (parseMethodDescriptor yX12_isOneOf.desc).map (fun d => d.parameters.length) = some 2 := by decide +kernel
theorem hd_X12_isPlain : yX12_isPlain.cls ≠ "java/lang/invoke/MethodHandle" ∧ yX12_isPlain.cls ≠ "java/lang/invoke/VarHandle" ∧ (parseMethodDescriptor yX12_isPlain.desc).map (fun d => d.parameters.length) = some 1 := by decide +kernel
theorem hd_X12_isReduced : yX12_isReduced.cls ≠ "java/lang/invoke/MethodHandle" ∧ yX12_isReduced.cls ≠ "java/lang/invoke/VarHandle" ∧ (parseMethodDescriptor yX12_isReduced.desc).map (fun d => d.parameters.length) = some 0 := by decide +kernel
theorem hd_X12_isText : yX12_isText.cls ≠ "java/lang/invoke/MethodHandle" ∧ yX12_isText.cls ≠ "java/lang/invoke/VarHandle" ∧ (parseMethodDescriptor yX12_isText.desc).map (fun d => d.parameters.length) = some 0 := by decide +kernel
theorem hd_X12_isTruth : yX12_isTruth.cls ≠ "java/lang/invoke/MethodHandle" ∧ yX12_isTruth.cls ≠ "java/lang/invoke/VarHandle" ∧ (parseMethodDescriptor yX12_isTruth.desc).map (fun d => d.parameters.length) = some 1 := by decide +kernel
theorem hd_X12_lays : yX12_lays.cls ≠ "java/lang/invoke/MethodHandle" ∧ yX12_lays.cls ≠ "java/lang/invoke/VarHandle" ∧ (parseMethodDescriptor yX12_lays.desc).map (fun d => d.parameters.length) = some 1 := by decide +kernel
theorem hd_X12_laysAbove : yX12_laysAbove.cls ≠ "java/lang/invoke/MethodHandle" ∧ yX12_laysAbove.cls ≠ "java/lang/invoke/VarHandle" ∧ (parseMethodDescriptor yX12_laysAbove.desc).map (fun d => d.parameters.length) = some 0 := by decide +kernel
theorem hd_X12_laysBlocks : yX12_laysBlocks.cls ≠ "java/lang/invoke/MethodHandle" ∧ yX12_laysBlocks.cls ≠ "java/lang/invoke/VarHandle" ∧ (parseMethodDescriptor yX12_laysBlocks.desc).map (fun d => d.parameters.length) = some 0 := by decide +kernel
theorem hd_X12_laysDominators : yX12_laysDominators.cls ≠ "java/lang/invoke/MethodHandle" ∧ yX12_laysDominators.cls ≠ "java/lang/invoke/VarHandle" ∧ (parseMethodDescriptor yX12_laysDominators.desc).map (fun d => d.parameters.length) = some 0 := by decide +kernel
theorem hd_X12_laysEdge : yX12_laysEdge.cls ≠ "java/lang/invoke/MethodHandle" ∧ yX12_laysEdge.cls ≠ "java/lang/invoke/VarHandle" ∧ (parseMethodDescriptor yX12_laysEdge.desc).map (fun d => d.parameters.length) = some 3 := by decide +kernel
theorem hd_X12_laysEdges : yX12_laysEdges.cls ≠ "java/lang/invoke/MethodHandle" ∧ yX12_laysEdges.cls ≠ "java/lang/invoke/VarHandle" ∧ (parseMethodDescriptor yX12_laysEdges.desc).map (fun d => d.parameters.length) = some 0 := by decide +kernel
theorem hd_X12_laysJumps : yX12_laysJumps.cls ≠ "java/lang/invoke/MethodHandle" ∧ yX12_laysJumps.cls ≠ "java/lang/invoke/VarHandle" ∧ (parseMethodDescriptor yX12_laysJumps.desc).map (fun d => d.parameters.length) = some 0 := by decide +kernel
theorem hd_X12_laysLines : yX12_laysLines.cls ≠ "java/lang/invoke/MethodHandle" ∧ yX12_laysLines.cls ≠ "java/lang/invoke/VarHandle" ∧ (parseMethodDescriptor yX12_laysLines.desc).map (fun d => d.parameters.length) = some 0 := by decide +kernel
theorem hd_X12_laysLive : yX12_laysLive.cls ≠ "java/lang/invoke/MethodHandle" ∧ yX12_laysLive.cls ≠ "java/lang/invoke/VarHandle" ∧ (parseMethodDescriptor yX12_laysLive.desc).map (fun d => d.parameters.length) = some 0 := by decide +kernel
theorem hd_X12_laysLoops : yX12_laysLoops.cls ≠ "java/lang/invoke/MethodHandle" ∧ yX12_laysLoops.cls ≠ "java/lang/invoke/VarHandle" ∧ (parseMethodDescriptor yX12_laysLoops.desc).map (fun d => d.parameters.length) = some 0 := by decide +kernel
theorem hd_X12_laysOrder : yX12_laysOrder.cls ≠ "java/lang/invoke/MethodHandle" ∧ yX12_laysOrder.cls ≠ "java/lang/invoke/VarHandle" ∧ (parseMethodDescriptor yX12_laysOrder.desc).map (fun d => d.parameters.length) = some 0 := by decide +kernel
theorem hd_X12_laysStatements : yX12_laysStatements.cls ≠ "java/lang/invoke/MethodHandle" ∧ yX12_laysStatements.cls ≠ "java/lang/invoke/VarHandle" ∧ (parseMethodDescriptor yX12_laysStatements.desc).map (fun d => d.parameters.length) = some 0 := by decide +kernel
theorem hd_X12_laysTypes : yX12_laysTypes.cls ≠ "java/lang/invoke/MethodHandle" ∧ yX12_laysTypes.cls ≠ "java/lang/invoke/VarHandle" ∧ (parseMethodDescriptor yX12_laysTypes.desc).map (fun d => d.parameters.length) = some 0 := by decide +kernel
theorem hd_X12_lays_ : yX12_lays_.cls ≠ "java/lang/invoke/MethodHandle" ∧ yX12_lays_.cls ≠ "java/lang/invoke/VarHandle" ∧ (parseMethodDescriptor yX12_lays_.desc).map (fun d => d.parameters.length) = some 0 := by decide +kernel
theorem hd_X12_leaves : yX12_leaves.cls ≠ "java/lang/invoke/MethodHandle" ∧ yX12_leaves.cls ≠ "java/lang/invoke/VarHandle" ∧ (parseMethodDescriptor yX12_leaves.desc).map (fun d => d.parameters.length) = some 1 := by decide +kernel
theorem hd_X12_letter : yX12_letter.cls ≠ "java/lang/invoke/MethodHandle" ∧ yX12_letter.cls ≠ "java/lang/invoke/VarHandle" ∧ (parseMethodDescriptor yX12_letter.desc).map (fun d => d.parameters.length) = some 0 := by decide +kernel
theorem hd_X12_lifts : yX12_lifts.cls ≠ "java/lang/invoke/MethodHandle" ∧ yX12_lifts.cls ≠ "java/lang/invoke/VarHandle" ∧ (parseMethodDescriptor yX12_lifts.desc).map (fun d => d.parameters.length) = some 2 := by decide +kernel
theorem hd_X12_line : yX12_line.cls ≠ "java/lang/invoke/MethodHandle" ∧ yX12_line.cls ≠ "java/lang/invoke/VarHandle" ∧ (parseMethodDescriptor yX12_line.desc).map (fun d => d.parameters.length) = some 3 := by decide +kernel
theorem hd_X12_lineWith : yX12_lineWith.cls ≠ "java/lang/invoke/MethodHandle" ∧ yX12_lineWith.cls ≠ "java/lang/invoke/VarHandle" ∧ (parseMethodDescriptor yX12_lineWith.desc).map (fun d => d.parameters.length) = some 2 := by decide +kernel
theorem hd_X12_line_ : yX12_line_.cls ≠ "java/lang/invoke/MethodHandle" ∧ yX12_line_.cls ≠ "java/lang/invoke/VarHandle" ∧ (parseMethodDescriptor yX12_line_.desc).map (fun d => d.parameters.length) = some 2 := by decide +kernel
theorem hd_X12_liveAhead : yX12_liveAhead.cls ≠ "java/lang/invoke/MethodHandle" ∧ yX12_liveAhead.cls ≠ "java/lang/invoke/VarHandle" ∧ (parseMethodDescriptor yX12_liveAhead.desc).map (fun d => d.parameters.length) = some 1 := by decide +kernel
theorem hd_X12_longestBlock : yX12_longestBlock.cls ≠ "java/lang/invoke/MethodHandle" ∧ yX12_longestBlock.cls ≠ "java/lang/invoke/VarHandle" ∧ (parseMethodDescriptor yX12_longestBlock.desc).map (fun d => d.parameters.length) = some 0 := by decide +kernel
theorem hd_X12_look : yX12_look.cls ≠ "java/lang/invoke/MethodHandle" ∧ yX12_look.cls ≠ "java/lang/invoke/VarHandle" ∧ (parseMethodDescriptor yX12_look.desc).map (fun d => d.parameters.length) = some 0 := by decide +kernel
theorem hd_X12_loop : yX12_loop.cls ≠ "java/lang/invoke/MethodHandle" ∧ yX12_loop.cls ≠ "java/lang/invoke/VarHandle" ∧ (parseMethodDescriptor yX12_loop.desc).map (fun d => d.parameters.length) = some 1 := by decide +kernel
theorem hd_X12_loopsOf : yX12_loopsOf.cls ≠ "java/lang/invoke/MethodHandle" ∧ yX12_loopsOf.cls ≠ "java/lang/invoke/VarHandle" ∧ (parseMethodDescriptor yX12_loopsOf.desc).map (fun d => d.parameters.length) = some 1 := by decide +kernel
theorem hd_X12_makes : yX12_makes.cls ≠ "java/lang/invoke/MethodHandle" ∧ yX12_makes.cls ≠ "java/lang/invoke/VarHandle" ∧ (parseMethodDescriptor yX12_makes.desc).map (fun d => d.parameters.length) = some 3 := by decide +kernel
theorem hd_X12_meets : yX12_meets.cls ≠ "java/lang/invoke/MethodHandle" ∧ yX12_meets.cls ≠ "java/lang/invoke/VarHandle" ∧ (parseMethodDescriptor yX12_meets.desc).map (fun d => d.parameters.length) = some 1 := by decide +kernel
theorem hd_X12_merges : yX12_merges.cls ≠ "java/lang/invoke/MethodHandle" ∧ yX12_merges.cls ≠ "java/lang/invoke/VarHandle" ∧ (parseMethodDescriptor yX12_merges.desc).map (fun d => d.parameters.length) = some 2 := by decide +kernel
theorem hd_X12_most : yX12_most.cls ≠ "java/lang/invoke/MethodHandle" ∧ yX12_most.cls ≠ "java/lang/invoke/VarHandle" ∧ (parseMethodDescriptor yX12_most.desc).map (fun d => d.parameters.length) = some 1 := by decide +kernel
theorem hd_X12_mostLines : yX12_mostLines.cls ≠ "java/lang/invoke/MethodHandle" ∧ yX12_mostLines.cls ≠ "java/lang/invoke/VarHandle" ∧ (parseMethodDescriptor yX12_mostLines.desc).map (fun d => d.parameters.length) = some 1 := by decide +kernel
theorem hd_X12_mostLoops : yX12_mostLoops.cls ≠ "java/lang/invoke/MethodHandle" ∧ yX12_mostLoops.cls ≠ "java/lang/invoke/VarHandle" ∧ (parseMethodDescriptor yX12_mostLoops.desc).map (fun d => d.parameters.length) = some 0 := by decide +kernel
theorem hd_X12_mostOnStack : yX12_mostOnStack.cls ≠ "java/lang/invoke/MethodHandle" ∧ yX12_mostOnStack.cls ≠ "java/lang/invoke/VarHandle" ∧ (parseMethodDescriptor yX12_mostOnStack.desc).map (fun d => d.parameters.length) = some 0 := by decide +kernel
theorem hd_X12_mostWithin : yX12_mostWithin.cls ≠ "java/lang/invoke/MethodHandle" ∧ yX12_mostWithin.cls ≠ "java/lang/invoke/VarHandle" ∧ (parseMethodDescriptor yX12_mostWithin.desc).map (fun d => d.parameters.length) = some 0 := by decide +kernel
theorem hd_X12_next : yX12_next.cls ≠ "java/lang/invoke/MethodHandle" ∧ yX12_next.cls ≠ "java/lang/invoke/VarHandle" ∧ (parseMethodDescriptor yX12_next.desc).map (fun d => d.parameters.length) = some 1 := by decide +kernel
theorem hd_X12_nextLine : yX12_nextLine.cls ≠ "java/lang/invoke/MethodHandle" ∧ yX12_nextLine.cls ≠ "java/lang/invoke/VarHandle" ∧ (parseMethodDescriptor yX12_nextLine.desc).map (fun d => d.parameters.length) = some 1 := by decide +kernel
theorem hd_X12_number : yX12_number.cls ≠ "java/lang/invoke/MethodHandle" ∧ yX12_number.cls ≠ "java/lang/invoke/VarHandle" ∧ (parseMethodDescriptor yX12_number.desc).map (fun d => d.parameters.length) = some 1 := by decide +kernel
theorem hd_X12_ones : yX12_ones.cls ≠ "java/lang/invoke/MethodHandle" ∧ yX12_ones.cls ≠ "java/lang/invoke/VarHandle" ∧ (parseMethodDescriptor yX12_ones.desc).map (fun d => d.parameters.length) = some 1 := by decide +kernel
theorem hd_X12_opens : yX12_opens.cls ≠ "java/lang/invoke/MethodHandle" ∧ yX12_opens.cls ≠ "java/lang/invoke/VarHandle" ∧ (parseMethodDescriptor yX12_opens.desc).map (fun d => d.parameters.length) = some 2 := by decide +kernel
theorem hd_X12_otherwiseOf : yX12_otherwiseOf.cls ≠ "java/lang/invoke/MethodHandle" ∧ yX12_otherwiseOf.cls ≠ "java/lang/invoke/VarHandle" ∧ (parseMethodDescriptor yX12_otherwiseOf.desc).map (fun d => d.parameters.length) = some 1 := by decide +kernel
theorem hd_X12_output : yX12_output.cls ≠ "java/lang/invoke/MethodHandle" ∧ yX12_output.cls ≠ "java/lang/invoke/VarHandle" ∧ (parseMethodDescriptor yX12_output.desc).map (fun d => d.parameters.length) = some 6 := by decide +kernel
theorem hd_X12_outputs : yX12_outputs.cls ≠ "java/lang/invoke/MethodHandle" ∧ yX12_outputs.cls ≠ "java/lang/invoke/VarHandle" ∧ (parseMethodDescriptor yX12_outputs.desc).map (fun d => d.parameters.length) = some 1 := by decide +kernel
theorem hd_X12_pops : yX12_pops.cls ≠ "java/lang/invoke/MethodHandle" ∧ yX12_pops.cls ≠ "java/lang/invoke/VarHandle" ∧ (parseMethodDescriptor yX12_pops.desc).map (fun d => d.parameters.length) = some 1 := by decide +kernel
theorem hd_X12_pops_ : yX12_pops_.cls ≠ "java/lang/invoke/MethodHandle" ∧ yX12_pops_.cls ≠ "java/lang/invoke/VarHandle" ∧ (parseMethodDescriptor yX12_pops_.desc).map (fun d => d.parameters.length) = some 0 := by decide +kernel
theorem hd_X12_pushes : yX12_pushes.cls ≠ "java/lang/invoke/MethodHandle" ∧ yX12_pushes.cls ≠ "java/lang/invoke/VarHandle" ∧ (parseMethodDescriptor yX12_pushes.desc).map (fun d => d.parameters.length) = some 1 := by decide +kernel
theorem hd_X12_put : yX12_put.cls ≠ "java/lang/invoke/MethodHandle" ∧ yX12_put.cls ≠ "java/lang/invoke/VarHandle" ∧ (parseMethodDescriptor yX12_put.desc).map (fun d => d.parameters.length) = some 3 := by decide +kernel
theorem hd_X12_puts : yX12_puts.cls ≠ "java/lang/invoke/MethodHandle" ∧ yX12_puts.cls ≠ "java/lang/invoke/VarHandle" ∧ (parseMethodDescriptor yX12_puts.desc).map (fun d => d.parameters.length) = some 2 := by decide +kernel
theorem hd_X12_reached : yX12_reached.cls ≠ "java/lang/invoke/MethodHandle" ∧ yX12_reached.cls ≠ "java/lang/invoke/VarHandle" ∧ (parseMethodDescriptor yX12_reached.desc).map (fun d => d.parameters.length) = some 2 := by decide +kernel
theorem hd_X12_reads : yX12_reads.cls ≠ "java/lang/invoke/MethodHandle" ∧ yX12_reads.cls ≠ "java/lang/invoke/VarHandle" ∧ (parseMethodDescriptor yX12_reads.desc).map (fun d => d.parameters.length) = some 1 := by decide +kernel
theorem hd_X12_result : yX12_result.cls ≠ "java/lang/invoke/MethodHandle" ∧ yX12_result.cls ≠ "java/lang/invoke/VarHandle" ∧ (parseMethodDescriptor yX12_result.desc).map (fun d => d.parameters.length) = some 3 := by decide +kernel
theorem hd_X12_run : yX12_run.cls ≠ "java/lang/invoke/MethodHandle" ∧ yX12_run.cls ≠ "java/lang/invoke/VarHandle" ∧ (parseMethodDescriptor yX12_run.desc).map (fun d => d.parameters.length) = some 6 := by decide +kernel
theorem hd_X12_runsCode : yX12_runsCode.cls ≠ "java/lang/invoke/MethodHandle" ∧ yX12_runsCode.cls ≠ "java/lang/invoke/VarHandle" ∧ (parseMethodDescriptor yX12_runsCode.desc).map (fun d => d.parameters.length) = some 0 := by decide +kernel
theorem hd_X12_runsLines : yX12_runsLines.cls ≠ "java/lang/invoke/MethodHandle" ∧ yX12_runsLines.cls ≠ "java/lang/invoke/VarHandle" ∧ (parseMethodDescriptor yX12_runsLines.desc).map (fun d => d.parameters.length) = some 0 := by decide +kernel
theorem hd_X12_settles : yX12_settles.cls ≠ "java/lang/invoke/MethodHandle" ∧ yX12_settles.cls ≠ "java/lang/invoke/VarHandle" ∧ (parseMethodDescriptor yX12_settles.desc).map (fun d => d.parameters.length) = some 2 := by decide +kernel
theorem hd_X12_spell : yX12_spell.cls ≠ "java/lang/invoke/MethodHandle" ∧ yX12_spell.cls ≠ "java/lang/invoke/VarHandle" ∧ (parseMethodDescriptor yX12_spell.desc).map (fun d => d.parameters.length) = some 2 := by decide +kernel
theorem hd_X12_spells : yX12_spells.cls ≠ "java/lang/invoke/MethodHandle" ∧ yX12_spells.cls ≠ "java/lang/invoke/VarHandle" ∧ (parseMethodDescriptor yX12_spells.desc).map (fun d => d.parameters.length) = some 1 := by decide +kernel
theorem hd_X12_spellsBlock : yX12_spellsBlock.cls ≠ "java/lang/invoke/MethodHandle" ∧ yX12_spellsBlock.cls ≠ "java/lang/invoke/VarHandle" ∧ (parseMethodDescriptor yX12_spellsBlock.desc).map (fun d => d.parameters.length) = some 3 := by decide +kernel
theorem hd_X12_spellsLine : yX12_spellsLine.cls ≠ "java/lang/invoke/MethodHandle" ∧ yX12_spellsLine.cls ≠ "java/lang/invoke/VarHandle" ∧ (parseMethodDescriptor yX12_spellsLine.desc).map (fun d => d.parameters.length) = some 1 := by decide +kernel
theorem hd_X12_spellsStatement : yX12_spellsStatement.cls ≠ "java/lang/invoke/MethodHandle" ∧ yX12_spellsStatement.cls ≠ "java/lang/invoke/VarHandle" ∧ (parseMethodDescriptor yX12_spellsStatement.desc).map (fun d => d.parameters.length) = some 1 := by decide +kernel
theorem hd_X12_statement : yX12_statement.cls ≠ "java/lang/invoke/MethodHandle" ∧ yX12_statement.cls ≠ "java/lang/invoke/VarHandle" ∧ (parseMethodDescriptor yX12_statement.desc).map (fun d => d.parameters.length) = some 3 := by decide +kernel
theorem hd_X12_states : yX12_states.cls ≠ "java/lang/invoke/MethodHandle" ∧ yX12_states.cls ≠ "java/lang/invoke/VarHandle" ∧ (parseMethodDescriptor yX12_states.desc).map (fun d => d.parameters.length) = some 3 := by decide +kernel
theorem hd_X12_states_ : yX12_states_.cls ≠ "java/lang/invoke/MethodHandle" ∧ yX12_states_.cls ≠ "java/lang/invoke/VarHandle" ∧ (parseMethodDescriptor yX12_states_.desc).map (fun d => d.parameters.length) = some 2 := by decide +kernel
theorem hd_X12_takes : yX12_takes.cls ≠ "java/lang/invoke/MethodHandle" ∧ yX12_takes.cls ≠ "java/lang/invoke/VarHandle" ∧ (parseMethodDescriptor yX12_takes.desc).map (fun d => d.parameters.length) = some 0 := by decide +kernel
theorem hd_X12_tells : yX12_tells.cls ≠ "java/lang/invoke/MethodHandle" ∧ yX12_tells.cls ≠ "java/lang/invoke/VarHandle" ∧ (parseMethodDescriptor yX12_tells.desc).map (fun d => d.parameters.length) = some 2 := by decide +kernel
theorem hd_X12_tells_ : yX12_tells_.cls ≠ "java/lang/invoke/MethodHandle" ∧ yX12_tells_.cls ≠ "java/lang/invoke/VarHandle" ∧ (parseMethodDescriptor yX12_tells_.desc).map (fun d => d.parameters.length) = some 1 := by decide +kernel
theorem hd_X12_thins : yX12_thins.cls ≠ "java/lang/invoke/MethodHandle" ∧ yX12_thins.cls ≠ "java/lang/invoke/VarHandle" ∧ (parseMethodDescriptor yX12_thins.desc).map (fun d => d.parameters.length) = some 0 := by decide +kernel
theorem hd_X12_throwsIt : yX12_throwsIt.cls ≠ "java/lang/invoke/MethodHandle" ∧ yX12_throwsIt.cls ≠ "java/lang/invoke/VarHandle" ∧ (parseMethodDescriptor yX12_throwsIt.desc).map (fun d => d.parameters.length) = some 1 := by decide +kernel
theorem hd_X12_told : yX12_told.cls ≠ "java/lang/invoke/MethodHandle" ∧ yX12_told.cls ≠ "java/lang/invoke/VarHandle" ∧ (parseMethodDescriptor yX12_told.desc).map (fun d => d.parameters.length) = some 1 := by decide +kernel
theorem hd_X12_tries : yX12_tries.cls ≠ "java/lang/invoke/MethodHandle" ∧ yX12_tries.cls ≠ "java/lang/invoke/VarHandle" ∧ (parseMethodDescriptor yX12_tries.desc).map (fun d => d.parameters.length) = some 5 := by decide +kernel
theorem hd_X12_truths : yX12_truths.cls ≠ "java/lang/invoke/MethodHandle" ∧ yX12_truths.cls ≠ "java/lang/invoke/VarHandle" ∧ (parseMethodDescriptor yX12_truths.desc).map (fun d => d.parameters.length) = some 0 := by decide +kernel
theorem hd_X12_type : yX12_type.cls ≠ "java/lang/invoke/MethodHandle" ∧ yX12_type.cls ≠ "java/lang/invoke/VarHandle" ∧ (parseMethodDescriptor yX12_type.desc).map (fun d => d.parameters.length) = some 2 := by decide +kernel
theorem hd_X12_unlike : yX12_unlike.cls ≠ "java/lang/invoke/MethodHandle" ∧ yX12_unlike.cls ≠ "java/lang/invoke/VarHandle" ∧ (parseMethodDescriptor yX12_unlike.desc).map (fun d => d.parameters.length) = some 0 := by decide +kernel
theorem hd_X12_valueOf : yX12_valueOf.cls ≠ "java/lang/invoke/MethodHandle" ∧ yX12_valueOf.cls ≠ "java/lang/invoke/VarHandle" ∧ (parseMethodDescriptor yX12_valueOf.desc).map (fun d => d.parameters.length) = some 1 := by decide +kernel
theorem hd_X12_wayTo : yX12_wayTo.cls ≠ "java/lang/invoke/MethodHandle" ∧ yX12_wayTo.cls ≠ "java/lang/invoke/VarHandle" ∧ (parseMethodDescriptor yX12_wayTo.desc).map (fun d => d.parameters.length) = some 2 := by decide +kernel
theorem hd_X12_with : yX12_with.cls ≠ "java/lang/invoke/MethodHandle" ∧ yX12_with.cls ≠ "java/lang/invoke/VarHandle" ∧ (parseMethodDescriptor yX12_with.desc).map (fun d => d.parameters.length) = some 3 := by decide +kernel
theorem hd_X12_within : yX12_within.cls ≠ "java/lang/invoke/MethodHandle" ∧ yX12_within.cls ≠ "java/lang/invoke/VarHandle" ∧ (parseMethodDescriptor yX12_within.desc).map (fun d => d.parameters.length) = some 1 := by decide +kernel
theorem hd_X12_writes : yX12_writes.cls ≠ "java/lang/invoke/MethodHandle" ∧ yX12_writes.cls ≠ "java/lang/invoke/VarHandle" ∧ (parseMethodDescriptor yX12_writes.desc).map (fun d => d.parameters.length) = some 1 := by decide +kernel
theorem hd_X12_writesName : yX12_writesName.cls ≠ "java/lang/invoke/MethodHandle" ∧ yX12_writesName.cls ≠ "java/lang/invoke/VarHandle" ∧ (parseMethodDescriptor yX12_writesName.desc).map (fun d => d.parameters.length) = some 2 := by decide +kernel
theorem hd_X12_writesNumber : yX12_writesNumber.cls ≠ "java/lang/invoke/MethodHandle" ∧ yX12_writesNumber.cls ≠ "java/lang/invoke/VarHandle" ∧ (parseMethodDescriptor yX12_writesNumber.desc).map (fun d => d.parameters.length) = some 1 := by decide +kernel
theorem hd_X12_writesWord : yX12_writesWord.cls ≠ "java/lang/invoke/MethodHandle" ∧ yX12_writesWord.cls ≠ "java/lang/invoke/VarHandle" ∧ (parseMethodDescriptor yX12_writesWord.desc).map (fun d => d.parameters.length) = some 1 := by decide +kernel
theorem hd_X12_wrong : yX12_wrong.cls ≠ "java/lang/invoke/MethodHandle" ∧ yX12_wrong.cls ≠ "java/lang/invoke/VarHandle" ∧ (parseMethodDescriptor yX12_wrong.desc).map (fun d => d.parameters.length) = some 0 := by decide +kernel
theorem hd_X2_add : yX2_add.cls ≠ "java/lang/invoke/MethodHandle" ∧ yX2_add.cls ≠ "java/lang/invoke/VarHandle" ∧ (parseMethodDescriptor yX2_add.desc).map (fun d => d.parameters.length) = some 3 := by decide +kernel
theorem hd_X2_close : yX2_close.cls ≠ "java/lang/invoke/MethodHandle" ∧ yX2_close.cls ≠ "java/lang/invoke/VarHandle" ∧ (parseMethodDescriptor yX2_close.desc).map (fun d => d.parameters.length) = some 0 := by decide +kernel
theorem hd_X2_closeLine : yX2_closeLine.cls ≠ "java/lang/invoke/MethodHandle" ∧ yX2_closeLine.cls ≠ "java/lang/invoke/VarHandle" ∧ (parseMethodDescriptor yX2_closeLine.desc).map (fun d => d.parameters.length) = some 1 := by decide +kernel
theorem hd_X2_deepest : yX2_deepest.cls ≠ "java/lang/invoke/MethodHandle" ∧ yX2_deepest.cls ≠ "java/lang/invoke/VarHandle" ∧ (parseMethodDescriptor yX2_deepest.desc).map (fun d => d.parameters.length) = some 0 := by decide +kernel
theorem hd_X2_endsAnyway : yX2_endsAnyway.cls ≠ "java/lang/invoke/MethodHandle" ∧ yX2_endsAnyway.cls ≠ "java/lang/invoke/VarHandle" ∧ (parseMethodDescriptor yX2_endsAnyway.desc).map (fun d => d.parameters.length) = some 1 := by decide +kernel
theorem hd_X2_goOn : yX2_goOn.cls ≠ "java/lang/invoke/MethodHandle" ∧ yX2_goOn.cls ≠ "java/lang/invoke/VarHandle" ∧ (parseMethodDescriptor yX2_goOn.desc).map (fun d => d.parameters.length) = some 3 := by decide +kernel
theorem hd_X2_isMergeUnder : yX2_isMergeUnder.cls ≠ "java/lang/invoke/MethodHandle" ∧ yX2_isMergeUnder.cls ≠ "java/lang/invoke/VarHandle" ∧ (parseMethodDescriptor yX2_isMergeUnder.desc).map (fun d => d.parameters.length) = some 2 := by decide +kernel
theorem hd_X2_leaveOut : yX2_leaveOut.cls ≠ "java/lang/invoke/MethodHandle" ∧ yX2_leaveOut.cls ≠ "java/lang/invoke/VarHandle" ∧ (parseMethodDescriptor yX2_leaveOut.desc).map (fun d => d.parameters.length) = some 0 := by decide +kernel
theorem hd_X2_mark : yX2_mark.cls ≠ "java/lang/invoke/MethodHandle" ∧ yX2_mark.cls ≠ "java/lang/invoke/VarHandle" ∧ (parseMethodDescriptor yX2_mark.desc).map (fun d => d.parameters.length) = some 1 := by decide +kernel
theorem hd_X2_match : yX2_match.cls ≠ "java/lang/invoke/MethodHandle" ∧ yX2_match.cls ≠ "java/lang/invoke/VarHandle" ∧ (parseMethodDescriptor yX2_match.desc).map (fun d => d.parameters.length) = some 0 := by decide +kernel
theorem hd_X2_ofKind : yX2_ofKind.cls ≠ "java/lang/invoke/MethodHandle" ∧ yX2_ofKind.cls ≠ "java/lang/invoke/VarHandle" ∧ (parseMethodDescriptor yX2_ofKind.desc).map (fun d => d.parameters.length) = some 1 := by decide +kernel
theorem hd_X2_openLine : yX2_openLine.cls ≠ "java/lang/invoke/MethodHandle" ∧ yX2_openLine.cls ≠ "java/lang/invoke/VarHandle" ∧ (parseMethodDescriptor yX2_openLine.desc).map (fun d => d.parameters.length) = some 2 := by decide +kernel
theorem hd_X2_tell : yX2_tell.cls ≠ "java/lang/invoke/MethodHandle" ∧ yX2_tell.cls ≠ "java/lang/invoke/VarHandle" ∧ (parseMethodDescriptor yX2_tell.desc).map (fun d => d.parameters.length) = some 2 := by decide +kernel
theorem hd_X2_tellAll : yX2_tellAll.cls ≠ "java/lang/invoke/MethodHandle" ∧ yX2_tellAll.cls ≠ "java/lang/invoke/VarHandle" ∧ (parseMethodDescriptor yX2_tellAll.desc).map (fun d => d.parameters.length) = some 0 := by decide +kernel
theorem hd_X2_tellEnd : yX2_tellEnd.cls ≠ "java/lang/invoke/MethodHandle" ∧ yX2_tellEnd.cls ≠ "java/lang/invoke/VarHandle" ∧ (parseMethodDescriptor yX2_tellEnd.desc).map (fun d => d.parameters.length) = some 2 := by decide +kernel
theorem hd_X2_tellStatements : yX2_tellStatements.cls ≠ "java/lang/invoke/MethodHandle" ∧ yX2_tellStatements.cls ≠ "java/lang/invoke/VarHandle" ∧ (parseMethodDescriptor yX2_tellStatements.desc).map (fun d => d.parameters.length) = some 1 := by decide +kernel
theorem hd_X2_whereCaught : yX2_whereCaught.cls ≠ "java/lang/invoke/MethodHandle" ∧ yX2_whereCaught.cls ≠ "java/lang/invoke/VarHandle" ∧ (parseMethodDescriptor yX2_whereCaught.desc).map (fun d => d.parameters.length) = some 1 := by decide +kernel
theorem hd_X3_arrive : yX3_arrive.cls ≠ "java/lang/invoke/MethodHandle" ∧ yX3_arrive.cls ≠ "java/lang/invoke/VarHandle" ∧ (parseMethodDescriptor yX3_arrive.desc).map (fun d => d.parameters.length) = some 2 := by decide +kernel
theorem hd_X3_canThrow : yX3_canThrow.cls ≠ "java/lang/invoke/MethodHandle" ∧ yX3_canThrow.cls ≠ "java/lang/invoke/VarHandle" ∧ (parseMethodDescriptor yX3_canThrow.desc).map (fun d => d.parameters.length) = some 1 := by decide +kernel
theorem hd_X3_chooses : yX3_chooses.cls ≠ "java/lang/invoke/MethodHandle" ∧ yX3_chooses.cls ≠ "java/lang/invoke/VarHandle" ∧ (parseMethodDescriptor yX3_chooses.desc).map (fun d => d.parameters.length) = some 1 := by decide +kernel
theorem hd_X3_copy : yX3_copy.cls ≠ "java/lang/invoke/MethodHandle" ∧ yX3_copy.cls ≠ "java/lang/invoke/VarHandle" ∧ (parseMethodDescriptor yX3_copy.desc).map (fun d => d.parameters.length) = some 1 := by decide +kernel
theorem hd_X3_depthBehind : yX3_depthBehind.cls ≠ "java/lang/invoke/MethodHandle" ∧ yX3_depthBehind.cls ≠ "java/lang/invoke/VarHandle" ∧ (parseMethodDescriptor yX3_depthBehind.desc).map (fun d => d.parameters.length) = some 1 := by decide +kernel
theorem hd_X3_ends : yX3_ends.cls ≠ "java/lang/invoke/MethodHandle" ∧ yX3_ends.cls ≠ "java/lang/invoke/VarHandle" ∧ (parseMethodDescriptor yX3_ends.desc).map (fun d => d.parameters.length) = some 1 := by decide +kernel
theorem hd_X3_gives : yX3_gives.cls ≠ "java/lang/invoke/MethodHandle" ∧ yX3_gives.cls ≠ "java/lang/invoke/VarHandle" ∧ (parseMethodDescriptor yX3_gives.desc).map (fun d => d.parameters.length) = some 1 := by decide +kernel
theorem hd_X3_goOver : yX3_goOver.cls ≠ "java/lang/invoke/MethodHandle" ∧ yX3_goOver.cls ≠ "java/lang/invoke/VarHandle" ∧ (parseMethodDescriptor yX3_goOver.desc).map (fun d => d.parameters.length) = some 1 := by decide +kernel
theorem hd_X3_goesElsewhere : yX3_goesElsewhere.cls ≠ "java/lang/invoke/MethodHandle" ∧ yX3_goesElsewhere.cls ≠ "java/lang/invoke/VarHandle" ∧ (parseMethodDescriptor yX3_goesElsewhere.desc).map (fun d => d.parameters.length) = some 1 := by decide +kernel
theorem hd_X3_goesOn : yX3_goesOn.cls ≠ "java/lang/invoke/MethodHandle" ∧ yX3_goesOn.cls ≠ "java/lang/invoke/VarHandle" ∧ (parseMethodDescriptor yX3_goesOn.desc).map (fun d => d.parameters.length) = some 1 := by decide +kernel
theorem hd_X3_handlerOf : yX3_handlerOf.cls ≠ "java/lang/invoke/MethodHandle" ∧ yX3_handlerOf.cls ≠ "java/lang/invoke/VarHandle" ∧ (parseMethodDescriptor yX3_handlerOf.desc).map (fun d => d.parameters.length) = some 1 := by decide +kernel
theorem hd_X3_highest : yX3_highest.cls ≠ "java/lang/invoke/MethodHandle" ∧ yX3_highest.cls ≠ "java/lang/invoke/VarHandle" ∧ (parseMethodDescriptor yX3_highest.desc).map (fun d => d.parameters.length) = some 0 := by decide +kernel
theorem hd_X3_judge : yX3_judge.cls ≠ "java/lang/invoke/MethodHandle" ∧ yX3_judge.cls ≠ "java/lang/invoke/VarHandle" ∧ (parseMethodDescriptor yX3_judge.desc).map (fun d => d.parameters.length) = some 0 := by decide +kernel
theorem hd_X3_leadsInside : yX3_leadsInside.cls ≠ "java/lang/invoke/MethodHandle" ∧ yX3_leadsInside.cls ≠ "java/lang/invoke/VarHandle" ∧ (parseMethodDescriptor yX3_leadsInside.desc).map (fun d => d.parameters.length) = some 0 := by decide +kernel
theorem hd_X3_lowestOpen : yX3_lowestOpen.cls ≠ "java/lang/invoke/MethodHandle" ∧ yX3_lowestOpen.cls ≠ "java/lang/invoke/VarHandle" ∧ (parseMethodDescriptor yX3_lowestOpen.desc).map (fun d => d.parameters.length) = some 1 := by decide +kernel
theorem hd_X3_needs : yX3_needs.cls ≠ "java/lang/invoke/MethodHandle" ∧ yX3_needs.cls ≠ "java/lang/invoke/VarHandle" ∧ (parseMethodDescriptor yX3_needs.desc).map (fun d => d.parameters.length) = some 1 := by decide +kernel
theorem hd_X4_flow : yX4_flow.cls ≠ "java/lang/invoke/MethodHandle" ∧ yX4_flow.cls ≠ "java/lang/invoke/VarHandle" ∧ (parseMethodDescriptor yX4_flow.desc).map (fun d => d.parameters.length) = some 0 := by decide +kernel
theorem hd_X4_flowThrough : yX4_flowThrough.cls ≠ "java/lang/invoke/MethodHandle" ∧ yX4_flowThrough.cls ≠ "java/lang/invoke/VarHandle" ∧ (parseMethodDescriptor yX4_flowThrough.desc).map (fun d => d.parameters.length) = some 1 := by decide +kernel
theorem hd_X5_begin : yX5_begin.cls ≠ "java/lang/invoke/MethodHandle" ∧ yX5_begin.cls ≠ "java/lang/invoke/VarHandle" ∧ (parseMethodDescriptor yX5_begin.desc).map (fun d => d.parameters.length) = some 5 := by decide +kernel
theorem hd_X5_catchIn : yX5_catchIn.cls ≠ "java/lang/invoke/MethodHandle" ∧ yX5_catchIn.cls ≠ "java/lang/invoke/VarHandle" ∧ (parseMethodDescriptor yX5_catchIn.desc).map (fun d => d.parameters.length) = some 2 := by decide +kernel
theorem hd_X5_draw : yX5_draw.cls ≠ "java/lang/invoke/MethodHandle" ∧ yX5_draw.cls ≠ "java/lang/invoke/VarHandle" ∧ (parseMethodDescriptor yX5_draw.desc).map (fun d => d.parameters.length) = some 0 := by decide +kernel
theorem hd_X5_enter : yX5_enter.cls ≠ "java/lang/invoke/MethodHandle" ∧ yX5_enter.cls ≠ "java/lang/invoke/VarHandle" ∧ (parseMethodDescriptor yX5_enter.desc).map (fun d => d.parameters.length) = some 0 := by decide +kernel
theorem hd_X5_follow : yX5_follow.cls ≠ "java/lang/invoke/MethodHandle" ∧ yX5_follow.cls ≠ "java/lang/invoke/VarHandle" ∧ (parseMethodDescriptor yX5_follow.desc).map (fun d => d.parameters.length) = some 1 := by decide +kernel
theorem hd_X5_goThroughCode : yX5_goThroughCode.cls ≠ "java/lang/invoke/MethodHandle" ∧ yX5_goThroughCode.cls ≠ "java/lang/invoke/VarHandle" ∧ (parseMethodDescriptor yX5_goThroughCode.desc).map (fun d => d.parameters.length) = some 0 := by decide +kernel
theorem hd_X5_goThroughLines : yX5_goThroughLines.cls ≠ "java/lang/invoke/MethodHandle" ∧ yX5_goThroughLines.cls ≠ "java/lang/invoke/VarHandle" ∧ (parseMethodDescriptor yX5_goThroughLines.desc).map (fun d => d.parameters.length) = some 0 := by decide +kernel
theorem hd_X5_obey : yX5_obey.cls ≠ "java/lang/invoke/MethodHandle" ∧ yX5_obey.cls ≠ "java/lang/invoke/VarHandle" ∧ (parseMethodDescriptor yX5_obey.desc).map (fun d => d.parameters.length) = some 1 := by decide +kernel
theorem hd_X5_operate : yX5_operate.cls ≠ "java/lang/invoke/MethodHandle" ∧ yX5_operate.cls ≠ "java/lang/invoke/VarHandle" ∧ (parseMethodDescriptor yX5_operate.desc).map (fun d => d.parameters.length) = some 1 := by decide +kernel
theorem hd_X5_perform : yX5_perform.cls ≠ "java/lang/invoke/MethodHandle" ∧ yX5_perform.cls ≠ "java/lang/invoke/VarHandle" ∧ (parseMethodDescriptor yX5_perform.desc).map (fun d => d.parameters.length) = some 3 := by decide +kernel
theorem hd_X5_pop : yX5_pop.cls ≠ "java/lang/invoke/MethodHandle" ∧ yX5_pop.cls ≠ "java/lang/invoke/VarHandle" ∧ (parseMethodDescriptor yX5_pop.desc).map (fun d => d.parameters.length) = some 0 := by decide +kernel
theorem hd_X5_push : yX5_push.cls ≠ "java/lang/invoke/MethodHandle" ∧ yX5_push.cls ≠ "java/lang/invoke/VarHandle" ∧ (parseMethodDescriptor yX5_push.desc).map (fun d => d.parameters.length) = some 1 := by decide +kernel
theorem hd_X5_shuffle : yX5_shuffle.cls ≠ "java/lang/invoke/MethodHandle" ∧ yX5_shuffle.cls ≠ "java/lang/invoke/VarHandle" ∧ (parseMethodDescriptor yX5_shuffle.desc).map (fun d => d.parameters.length) = some 1 := by decide +kernel
theorem hd_X5_tellOut : yX5_tellOut.cls ≠ "java/lang/invoke/MethodHandle" ∧ yX5_tellOut.cls ≠ "java/lang/invoke/VarHandle" ∧ (parseMethodDescriptor yX5_tellOut.desc).map (fun d => d.parameters.length) = some 1 := by decide +kernel
theorem hd_X5_throwFrom : yX5_throwFrom.cls ≠ "java/lang/invoke/MethodHandle" ∧ yX5_throwFrom.cls ≠ "java/lang/invoke/VarHandle" ∧ (parseMethodDescriptor yX5_throwFrom.desc).map (fun d => d.parameters.length) = some 2 := by decide +kernel
theorem hd_X5_throwOut : yX5_throwOut.cls ≠ "java/lang/invoke/MethodHandle" ∧ yX5_throwOut.cls ≠ "java/lang/invoke/VarHandle" ∧ (parseMethodDescriptor yX5_throwOut.desc).map (fun d => d.parameters.length) = some 1 := by decide +kernel
theorem hd_X5_value : yX5_value.cls ≠ "java/lang/invoke/MethodHandle" ∧ yX5_value.cls ≠ "java/lang/invoke/VarHandle" ∧ (parseMethodDescriptor yX5_value.desc).map (fun d => d.parameters.length) = some 2 := by decide +kernel
theorem hd_X6_signAt : yX6_signAt.cls ≠ "java/lang/invoke/MethodHandle" ∧ yX6_signAt.cls ≠ "java/lang/invoke/VarHandle" ∧ (parseMethodDescriptor yX6_signAt.desc).map (fun d => d.parameters.length) = some 1 := by decide +kernel
theorem hd_X6_widthOf : yX6_widthOf.cls ≠ "java/lang/invoke/MethodHandle" ∧ yX6_widthOf.cls ≠ "java/lang/invoke/VarHandle" ∧ (parseMethodDescriptor yX6_widthOf.desc).map (fun d => d.parameters.length) = some 1 := by decide +kernel
theorem hd_X6_widthOfLine : yX6_widthOfLine.cls ≠ "java/lang/invoke/MethodHandle" ∧ yX6_widthOfLine.cls ≠ "java/lang/invoke/VarHandle" ∧ (parseMethodDescriptor yX6_widthOfLine.desc).map (fun d => d.parameters.length) = some 1 := by decide +kernel
theorem hd_X6_write : yX6_write.cls ≠ "java/lang/invoke/MethodHandle" ∧ yX6_write.cls ≠ "java/lang/invoke/VarHandle" ∧ (parseMethodDescriptor yX6_write.desc).map (fun d => d.parameters.length) = some 1 := by decide +kernel
theorem hd_X6_writeBlock : yX6_writeBlock.cls ≠ "java/lang/invoke/MethodHandle" ∧ yX6_writeBlock.cls ≠ "java/lang/invoke/VarHandle" ∧ (parseMethodDescriptor yX6_writeBlock.desc).map (fun d => d.parameters.length) = some 3 := by decide +kernel
theorem hd_X6_writeExpression : yX6_writeExpression.cls ≠ "java/lang/invoke/MethodHandle" ∧ yX6_writeExpression.cls ≠ "java/lang/invoke/VarHandle" ∧ (parseMethodDescriptor yX6_writeExpression.desc).map (fun d => d.parameters.length) = some 2 := by decide +kernel
theorem hd_X6_writeName : yX6_writeName.cls ≠ "java/lang/invoke/MethodHandle" ∧ yX6_writeName.cls ≠ "java/lang/invoke/VarHandle" ∧ (parseMethodDescriptor yX6_writeName.desc).map (fun d => d.parameters.length) = some 2 := by decide +kernel
theorem hd_X6_writeNumber : yX6_writeNumber.cls ≠ "java/lang/invoke/MethodHandle" ∧ yX6_writeNumber.cls ≠ "java/lang/invoke/VarHandle" ∧ (parseMethodDescriptor yX6_writeNumber.desc).map (fun d => d.parameters.length) = some 1 := by decide +kernel
theorem hd_X6_writeSign : yX6_writeSign.cls ≠ "java/lang/invoke/MethodHandle" ∧ yX6_writeSign.cls ≠ "java/lang/invoke/VarHandle" ∧ (parseMethodDescriptor yX6_writeSign.desc).map (fun d => d.parameters.length) = some 1 := by decide +kernel
theorem hd_X6_writeStatement : yX6_writeStatement.cls ≠ "java/lang/invoke/MethodHandle" ∧ yX6_writeStatement.cls ≠ "java/lang/invoke/VarHandle" ∧ (parseMethodDescriptor yX6_writeStatement.desc).map (fun d => d.parameters.length) = some 1 := by decide +kernel
theorem hd_X7_hasEffects : yX7_hasEffects.cls ≠ "java/lang/invoke/MethodHandle" ∧ yX7_hasEffects.cls ≠ "java/lang/invoke/VarHandle" ∧ (parseMethodDescriptor yX7_hasEffects.desc).map (fun d => d.parameters.length) = some 1 := by decide +kernel
theorem hd_X7_isName : yX7_isName.cls ≠ "java/lang/invoke/MethodHandle" ∧ yX7_isName.cls ≠ "java/lang/invoke/VarHandle" ∧ (parseMethodDescriptor yX7_isName.desc).map (fun d => d.parameters.length) = some 1 := by decide +kernel
theorem hd_X7_make : yX7_make.cls ≠ "java/lang/invoke/MethodHandle" ∧ yX7_make.cls ≠ "java/lang/invoke/VarHandle" ∧ (parseMethodDescriptor yX7_make.desc).map (fun d => d.parameters.length) = some 3 := by decide +kernel
theorem hd_X7_replace : yX7_replace.cls ≠ "java/lang/invoke/MethodHandle" ∧ yX7_replace.cls ≠ "java/lang/invoke/VarHandle" ∧ (parseMethodDescriptor yX7_replace.desc).map (fun d => d.parameters.length) = some 4 := by decide +kernel
theorem hd_X7_slotBit : yX7_slotBit.cls ≠ "java/lang/invoke/MethodHandle" ∧ yX7_slotBit.cls ≠ "java/lang/invoke/VarHandle" ∧ (parseMethodDescriptor yX7_slotBit.desc).map (fun d => d.parameters.length) = some 1 := by decide +kernel
theorem hd_X8_allAreComeTo : yX8_allAreComeTo.cls ≠ "java/lang/invoke/MethodHandle" ∧ yX8_allAreComeTo.cls ≠ "java/lang/invoke/VarHandle" ∧ (parseMethodDescriptor yX8_allAreComeTo.desc).map (fun d => d.parameters.length) = some 0 := by decide +kernel
theorem hd_X8_comingBack : yX8_comingBack.cls ≠ "java/lang/invoke/MethodHandle" ∧ yX8_comingBack.cls ≠ "java/lang/invoke/VarHandle" ∧ (parseMethodDescriptor yX8_comingBack.desc).map (fun d => d.parameters.length) = some 2 := by decide +kernel
theorem hd_X8_findAbove : yX8_findAbove.cls ≠ "java/lang/invoke/MethodHandle" ∧ yX8_findAbove.cls ≠ "java/lang/invoke/VarHandle" ∧ (parseMethodDescriptor yX8_findAbove.desc).map (fun d => d.parameters.length) = some 0 := by decide +kernel
theorem hd_X8_findCandidates : yX8_findCandidates.cls ≠ "java/lang/invoke/MethodHandle" ∧ yX8_findCandidates.cls ≠ "java/lang/invoke/VarHandle" ∧ (parseMethodDescriptor yX8_findCandidates.desc).map (fun d => d.parameters.length) = some 0 := by decide +kernel
theorem hd_X8_findDominators : yX8_findDominators.cls ≠ "java/lang/invoke/MethodHandle" ∧ yX8_findDominators.cls ≠ "java/lang/invoke/VarHandle" ∧ (parseMethodDescriptor yX8_findDominators.desc).map (fun d => d.parameters.length) = some 0 := by decide +kernel
theorem hd_X8_findLoops : yX8_findLoops.cls ≠ "java/lang/invoke/MethodHandle" ∧ yX8_findLoops.cls ≠ "java/lang/invoke/VarHandle" ∧ (parseMethodDescriptor yX8_findLoops.desc).map (fun d => d.parameters.length) = some 0 := by decide +kernel
theorem hd_X8_findMerges : yX8_findMerges.cls ≠ "java/lang/invoke/MethodHandle" ∧ yX8_findMerges.cls ≠ "java/lang/invoke/VarHandle" ∧ (parseMethodDescriptor yX8_findMerges.desc).map (fun d => d.parameters.length) = some 0 := by decide +kernel
theorem hd_X8_form : yX8_form.cls ≠ "java/lang/invoke/MethodHandle" ∧ yX8_form.cls ≠ "java/lang/invoke/VarHandle" ∧ (parseMethodDescriptor yX8_form.desc).map (fun d => d.parameters.length) = some 0 := by decide +kernel
theorem hd_X8_innermost : yX8_innermost.cls ≠ "java/lang/invoke/MethodHandle" ∧ yX8_innermost.cls ≠ "java/lang/invoke/VarHandle" ∧ (parseMethodDescriptor yX8_innermost.desc).map (fun d => d.parameters.length) = some 1 := by decide +kernel
theorem hd_X8_isBack : yX8_isBack.cls ≠ "java/lang/invoke/MethodHandle" ∧ yX8_isBack.cls ≠ "java/lang/invoke/VarHandle" ∧ (parseMethodDescriptor yX8_isBack.desc).map (fun d => d.parameters.length) = some 1 := by decide +kernel
theorem hd_X8_isReducedNow : yX8_isReducedNow.cls ≠ "java/lang/invoke/MethodHandle" ∧ yX8_isReducedNow.cls ≠ "java/lang/invoke/VarHandle" ∧ (parseMethodDescriptor yX8_isReducedNow.desc).map (fun d => d.parameters.length) = some 0 := by decide +kernel
theorem hd_X8_loopsRound : yX8_loopsRound.cls ≠ "java/lang/invoke/MethodHandle" ∧ yX8_loopsRound.cls ≠ "java/lang/invoke/VarHandle" ∧ (parseMethodDescriptor yX8_loopsRound.desc).map (fun d => d.parameters.length) = some 1 := by decide +kernel
theorem hd_X8_mostLoops : yX8_mostLoops.cls ≠ "java/lang/invoke/MethodHandle" ∧ yX8_mostLoops.cls ≠ "java/lang/invoke/VarHandle" ∧ (parseMethodDescriptor yX8_mostLoops.desc).map (fun d => d.parameters.length) = some 0 := by decide +kernel
theorem hd_X8_oneJumpIsEnough : yX8_oneJumpIsEnough.cls ≠ "java/lang/invoke/MethodHandle" ∧ yX8_oneJumpIsEnough.cls ≠ "java/lang/invoke/VarHandle" ∧ (parseMethodDescriptor yX8_oneJumpIsEnough.desc).map (fun d => d.parameters.length) = some 0 := by decide +kernel
theorem hd_X8_sharedBefore : yX8_sharedBefore.cls ≠ "java/lang/invoke/MethodHandle" ∧ yX8_sharedBefore.cls ≠ "java/lang/invoke/VarHandle" ∧ (parseMethodDescriptor yX8_sharedBefore.desc).map (fun d => d.parameters.length) = some 1 := by decide +kernel
theorem hd_X8_twoJumpsAreEnough : yX8_twoJumpsAreEnough.cls ≠ "java/lang/invoke/MethodHandle" ∧ yX8_twoJumpsAreEnough.cls ≠ "java/lang/invoke/VarHandle" ∧ (parseMethodDescriptor yX8_twoJumpsAreEnough.desc).map (fun d => d.parameters.length) = some 0 := by decide +kernel
theorem hd_X9_append : yX9_append.cls ≠ "java/lang/invoke/MethodHandle" ∧ yX9_append.cls ≠ "java/lang/invoke/VarHandle" ∧ (parseMethodDescriptor yX9_append.desc).map (fun d => d.parameters.length) = some 1 := by decide +kernel
theorem hd_X9_current : yX9_current.cls ≠ "java/lang/invoke/MethodHandle" ∧ yX9_current.cls ≠ "java/lang/invoke/VarHandle" ∧ (parseMethodDescriptor yX9_current.desc).map (fun d => d.parameters.length) = some 0 := by decide +kernel
theorem hd_X9_isAtComma : yX9_isAtComma.cls ≠ "java/lang/invoke/MethodHandle" ∧ yX9_isAtComma.cls ≠ "java/lang/invoke/VarHandle" ∧ (parseMethodDescriptor yX9_isAtComma.desc).map (fun d => d.parameters.length) = some 0 := by decide +kernel
theorem hd_X9_read : yX9_read.cls ≠ "java/lang/invoke/MethodHandle" ∧ yX9_read.cls ≠ "java/lang/invoke/VarHandle" ∧ (parseMethodDescriptor yX9_read.desc).map (fun d => d.parameters.length) = some 1 := by decide +kernel
theorem hd_X9_readHandler : yX9_readHandler.cls ≠ "java/lang/invoke/MethodHandle" ∧ yX9_readHandler.cls ≠ "java/lang/invoke/VarHandle" ∧ (parseMethodDescriptor yX9_readHandler.desc).map (fun d => d.parameters.length) = some 1 := by decide +kernel
theorem hd_X9_readInstruction : yX9_readInstruction.cls ≠ "java/lang/invoke/MethodHandle" ∧ yX9_readInstruction.cls ≠ "java/lang/invoke/VarHandle" ∧ (parseMethodDescriptor yX9_readInstruction.desc).map (fun d => d.parameters.length) = some 1 := by decide +kernel
theorem hd_X9_readLetter : yX9_readLetter.cls ≠ "java/lang/invoke/MethodHandle" ∧ yX9_readLetter.cls ≠ "java/lang/invoke/VarHandle" ∧ (parseMethodDescriptor yX9_readLetter.desc).map (fun d => d.parameters.length) = some 0 := by decide +kernel
theorem hd_X9_readNumber : yX9_readNumber.cls ≠ "java/lang/invoke/MethodHandle" ∧ yX9_readNumber.cls ≠ "java/lang/invoke/VarHandle" ∧ (parseMethodDescriptor yX9_readNumber.desc).map (fun d => d.parameters.length) = some 1 := by decide +kernel
theorem hd_X9_skipBlanks : yX9_skipBlanks.cls ≠ "java/lang/invoke/MethodHandle" ∧ yX9_skipBlanks.cls ≠ "java/lang/invoke/VarHandle" ∧ (parseMethodDescriptor yX9_skipBlanks.desc).map (fun d => d.parameters.length) = some 0 := by decide +kernel
section CM
variable {p : Program} {l : Launch} {e : Env} {R : Room} {s : State} {m : MethodId} {args : Array Value} {below : List Frame} {meth : Method} {c : Code} {H : Heap} {locs : List Loc} {Q : State → Prop} {pc : Nat} {ls : Array Slot} {rest : List Value} {A : Nat → Prop} {cc : ByteArray} {D : va_G} {y : Nat → ClassId} {ad av : Nat → Nat} {w : va_W} {own : String} {nL idx : Nat}
theorem cc_max (hx : p.tables.exec = Jvm.exec) (hb : c.code = cc) (hml : c.maxLocals = nL) (hta : ∀ w ∈ ALW, w.before args s = true) (hown : s.vm.findClass own = some m.cls) (hRc : R.cells = 0) (hRs : R.slots = 0) (hfr : 1 ≤ R.frames) (hlo : 21 ≤ R.locals) (w1 : Cond.methodLink own idx Lib.Math.max.name ∈ ALW) (hsz : ls.size = nL) (hcat : Nat.ble ((rest.map fun v => v.category).sum) 8 = true) {v a b : Int32} (e1 : v = if a < b then b else a) (hdg : decode cc pc = .ok (.invokestatic idx, 3)) (k : W p l e R s m args below meth c H locs 0 0 Q (F0 m (pc + 3) ls (.int v :: rest))) : W p l e R s m args below meth c H locs 0 0 Q (F0 m pc ls (.int b :: .int a :: rest)) := by
  have h8 := Nat.le_of_ble_eq_true hcat
  subst e1
  exact va_mmax hx hb (hml.trans hsz.symm) hown (hta _ w1) (hta _ wq_78) (hta _ wq_79) (hta _ wq_80) hfr (by omega) (by omega) (by omega) hdg k
theorem va_ldcSw (hexec : p.tables.exec = Jvm.exec) (hb : c.code = cc) {own tx : String} {index q : Nat} (hown : s.vm.findClass own = some m.cls) (hZ : vk_R own index tx q s) (hdg : decode cc pc = .ok (.ldc_w index, 3)) (k : W p l e R s m args below meth c H locs 0 0 Q (F0 m (pc + 3) ls (.ref q :: rest))) : W p l e R s m args below meth c H locs 0 0 Q (F0 m pc ls rest) := by
  intro T hT X
  obtain ⟨t, a1, b1⟩ := k T hT X
  refine ⟨t, ?_, b1⟩
  obtain ⟨kk, cf, i, a', hk, hcf, hcp, -, hr, hev'⟩ := Cond.stringRef_spec hown hZ.1
  cases hZ.2.symm.trans hev'
  obtain ⟨k', hk', he⟩ := X.warmed.alike.2.2 _ _ hk
  have hr' : k'.resolved[index]? = some (some (.string q)) := by
    rcases X.warmed.entry hk hk' index with h | ⟨h, -⟩
    · rw [h]; exact hr
    · rw [hr] at h; cases h
  subst hb
  jvm_step X.here [X.here.top, hexec, hdg, ldc_w.wp_string (e := e) (s := T) (f := F0 m pc ls rest) X.here.top hk' (by rw [he]; exact hcf) hcp hr']
  exact a1
end CM
