abbrev VSg (g : Int) : Prop := bareI g ∨ g = 107 ∨ g = 108 ∨ g = 115 ∨ g = 103 ∨ g = 122
section
variable {g n : Int32} {c : Bool} {P : PSt}
theorem pStep_100 (h : g.toInt = 100) : pStep g n c P = pTwice P := by unfold pStep; rw [if_pos h]
theorem pStep_103 (h : g.toInt = 103) : pStep g n c P = P := by unfold pStep; rw [if_neg (by omega), if_pos h]
theorem pStep_105 (h : g.toInt = 105) : pStep g n c P = pPush .null P := by unfold pStep; rw [if_neg (by omega), if_neg (by omega), if_pos h]
theorem pStep_107 (h : g.toInt = 107) : pStep g n c P = pPush (.int n) P := by unfold pStep; rw [if_neg (by omega), if_neg (by omega), if_neg (by omega), if_pos h]
theorem pStep_108 (h : g.toInt = 108) : pStep g n c P = pPush (.arg n.toNatClampNeg) P := by unfold pStep; rw [if_neg (by omega), if_neg (by omega), if_neg (by omega), if_neg (by omega), if_pos h]
theorem pStep_111 (h : g.toInt = 111) : pStep g n c P = pAdd 3 (-1) (some (pTop P)) (pSp qEff (pHt (pPop P)) (pPop P)) := by unfold pStep; rw [if_neg (by omega), if_neg (by omega), if_neg (by omega), if_neg (by omega), if_neg (by omega), if_pos h]
theorem pStep_112 (h : g.toInt = 112) : pStep g n c P = pDrop (pTop P) (pPop P) := by unfold pStep; rw [if_neg (by omega), if_neg (by omega), if_neg (by omega), if_neg (by omega), if_neg (by omega), if_neg (by omega), if_pos h]
theorem pStep_114 (h : g.toInt = 114) : pStep g n c P = pAdd 6 (-1) none (pSp qEff (pHt P) P) := by unfold pStep; rw [if_neg (by omega), if_neg (by omega), if_neg (by omega), if_neg (by omega), if_neg (by omega), if_neg (by omega), if_neg (by omega), if_pos h]
theorem pStep_115 (h : g.toInt = 115) : pStep g n c P = pAdd 0 n.toInt (some (pTop P)) (pSp (qVar n.toNatClampNeg) (pHt (pPop P)) (pPop P)) := by unfold pStep; rw [if_neg (by omega), if_neg (by omega), if_neg (by omega), if_neg (by omega), if_neg (by omega), if_neg (by omega), if_neg (by omega), if_neg (by omega), if_pos h]
theorem pStep_116 (h : g.toInt = 116) : pStep g n c P = pAdd 5 (-1) (some (pTop P)) (pSp qEff (pHt (pPop P)) (pPop P)) := by unfold pStep; rw [if_neg (by omega), if_neg (by omega), if_neg (by omega), if_neg (by omega), if_neg (by omega), if_neg (by omega), if_neg (by omega), if_neg (by omega), if_neg (by omega), if_pos h]
theorem pStep_119 (h : g.toInt = 119) : pStep g n c P = pExch P := by unfold pStep; rw [if_neg (by omega), if_neg (by omega), if_neg (by omega), if_neg (by omega), if_neg (by omega), if_neg (by omega), if_neg (by omega), if_neg (by omega), if_neg (by omega), if_neg (by omega), if_pos h]
theorem pStep_122 (h : g.toInt = 122) : pStep g n c P = (if c then pTst (some (pTop P)) (pPop P) else pDrop (pTop P) (pPop P)) := by unfold pStep; rw [if_neg (by omega), if_neg (by omega), if_neg (by omega), if_neg (by omega), if_neg (by omega), if_neg (by omega), if_neg (by omega), if_neg (by omega), if_neg (by omega), if_neg (by omega), if_neg (by omega), if_pos h]
theorem pStep_33 (h : g.toInt = 33) : pStep g n c P = pPush (.length (pTop P)) (pPop P) := by unfold pStep; rw [if_neg (by omega), if_neg (by omega), if_neg (by omega), if_neg (by omega), if_neg (by omega), if_neg (by omega), if_neg (by omega), if_neg (by omega), if_neg (by omega), if_neg (by omega), if_neg (by omega), if_neg (by omega), if_pos h]
theorem pStep_110 (h : g.toInt = 110) : pStep g n c P = pPush (.sum (pTop P)) (pPop P) := by unfold pStep; rw [if_neg (by omega), if_neg (by omega), if_neg (by omega), if_neg (by omega), if_neg (by omega), if_neg (by omega), if_neg (by omega), if_neg (by omega), if_neg (by omega), if_neg (by omega), if_neg (by omega), if_neg (by omega), if_neg (by omega), if_pos h]
theorem pStep_b (h : isBi g.toInt) : pStep g n c P = pPush (bn g (pTop (pPop P)) (pTop P)) (pPop (pPop P)) := by unfold pStep; rw [if_neg (by omega), if_neg (by omega), if_neg (by omega), if_neg (by omega), if_neg (by omega), if_neg (by omega), if_neg (by omega), if_neg (by omega), if_neg (by omega), if_neg (by omega), if_neg (by omega), if_neg (by omega), if_neg (by omega), if_neg (by omega)]
end
theorem pTwice_1 {P : PSt} (h : (isNu (pTop P) || isNm (pTop P)) = true) : pTwice P = pPush (pTop P) (pPush (pTop P) (pPop P)) := if_pos h
theorem pTwice_2 {P : PSt} (h : ¬ (isNu (pTop P) || isNm (pTop P)) = true) : pTwice P = pPush (tX (pFr (pSp qEff (pHt (pPop P)) (pPop P)))) (pPush (tX (pFr (pSp qEff (pHt (pPop P)) (pPop P)))) (pPut (pTop P) (pSp qEff (pHt (pPop P)) (pPop P)))) := if_neg h
theorem pDrop_1 {t : Term} {P : PSt} (h : tEff t = true) : pDrop t P = pAdd 4 (-1) (some t) (pSp qEff (pHt P) P) := if_pos h
theorem pDrop_2 {t : Term} {P : PSt} (h : ¬ tEff t = true) : pDrop t P = P := if_neg h
theorem pExch_1 {P : PSt} (h : (tEff (pTop P) && tEff (pTop (pPop P))) = true) : pExch P = pPush (pTop (pSp qEff (pHt (pPop P)) (pPop P))) (pPush (pTop P) (pPop (pSp qEff (pHt (pPop P)) (pPop P)))) := if_pos h
theorem pExch_2 {P : PSt} (h : ¬ (tEff (pTop P) && tEff (pTop (pPop P))) = true) : pExch P = pPush (pTop (pPop P)) (pPush (pTop P) (pPop (pPop P))) := if_neg h
theorem pDrop_h {t : Term} {P : PSt} : pHt (pDrop t P) = pHt P := by
  by_cases c : tEff t = true
  · rw [pDrop_1 c]; exact pSp_h _
  · rw [pDrop_2 c]
/-- heights -/
theorem pStep_h {g n : Int32} {c : Bool} {P : PSt} (hg : VSg g.toInt) (hn : ndI g.toInt ≤ (pHt P : Int)) : (pHt (pStep g n c P) : Int) = pHt P - ndI g.toInt + gvI g.toInt := by
  have pp : pHt (pPop P) = pHt P - 1 := rfl
  by_cases q : isBi g.toInt
  · rw [pStep_b q]
    have e1 : ndI g.toInt = 2 := by unfold ndI; rw [if_pos (by omega)]
    have e2 : gvI g.toInt = 1 := by unfold gvI; rw [if_neg (by omega), if_pos (by omega)]
    show ((pHt P - 1 - 1 + 1 : Nat) : Int) = _
    omega
  have all : g.toInt = 33 ∨ g.toInt = 100 ∨ g.toInt = 105 ∨ g.toInt = 110 ∨ g.toInt = 111 ∨ g.toInt = 112 ∨ g.toInt = 114 ∨ g.toInt = 116 ∨ g.toInt = 119 ∨ g.toInt = 107 ∨ g.toInt = 108 ∨ g.toInt = 115 ∨ g.toInt = 103 ∨ g.toInt = 122 := by omega
  rcases all with w | w | w | w | w | w | w | w | w | w | w | w | w | w
  · have e1 : ndI g.toInt = 1 := by rw [w]; decide
    have e2 : gvI g.toInt = 1 := by rw [w]; decide
    rw [pStep_33 w]
    show ((pHt P - 1 + 1 : Nat) : Int) = _
    omega
  · have e1 : ndI g.toInt = 1 := by rw [w]; decide
    have e2 : gvI g.toInt = 2 := by rw [w]; decide
    rw [pStep_100 w]
    by_cases z : (isNu (pTop P) || isNm (pTop P)) = true
    · rw [pTwice_1 z]
      show ((pHt P - 1 + 1 + 1 : Nat) : Int) = _
      omega
    · rw [pTwice_2 z]
      show ((pHt (pSp qEff (pHt (pPop P)) (pPop P)) + 1 + 1 : Nat) : Int) = _
      rw [pSp_h, pp]
      omega
  · have e1 : ndI g.toInt = 0 := by rw [w]; decide
    have e2 : gvI g.toInt = 1 := by rw [w]; decide
    rw [pStep_105 w]
    show ((pHt P + 1 : Nat) : Int) = _
    omega
  · have e1 : ndI g.toInt = 1 := by rw [w]; decide
    have e2 : gvI g.toInt = 1 := by rw [w]; decide
    rw [pStep_110 w]
    show ((pHt P - 1 + 1 : Nat) : Int) = _
    omega
  · have e1 : ndI g.toInt = 1 := by rw [w]; decide
    have e2 : gvI g.toInt = 0 := by rw [w]; decide
    rw [pStep_111 w]
    show ((pHt (pSp _ (pHt (pPop P)) (pPop P)) : Nat) : Int) = _
    rw [pSp_h, pp]
    omega
  · have e1 : ndI g.toInt = 1 := by rw [w]; decide
    have e2 : gvI g.toInt = 0 := by rw [w]; decide
    rw [pStep_112 w]
    rw [pDrop_h, pp]
    omega
  · have e1 : ndI g.toInt = 0 := by rw [w]; decide
    have e2 : gvI g.toInt = 0 := by rw [w]; decide
    rw [pStep_114 w]
    show ((pHt (pSp _ (pHt P) P) : Nat) : Int) = _
    rw [pSp_h]
    omega
  · have e1 : ndI g.toInt = 1 := by rw [w]; decide
    have e2 : gvI g.toInt = 0 := by rw [w]; decide
    rw [pStep_116 w]
    show ((pHt (pSp _ (pHt (pPop P)) (pPop P)) : Nat) : Int) = _
    rw [pSp_h, pp]
    omega
  · have e1 : ndI g.toInt = 2 := by rw [w]; decide
    have e2 : gvI g.toInt = 2 := by rw [w]; decide
    rw [pStep_119 w]
    by_cases z : (tEff (pTop P) && tEff (pTop (pPop P))) = true
    · rw [pExch_1 z]
      show ((pHt (pSp qEff (pHt (pPop P)) (pPop P)) - 1 + 1 + 1 : Nat) : Int) = _
      rw [pSp_h, pp]
      omega
    · rw [pExch_2 z]
      show ((pHt P - 1 - 1 + 1 + 1 : Nat) : Int) = _
      omega
  · have e1 : ndI g.toInt = 0 := by rw [w]; decide
    have e2 : gvI g.toInt = 1 := by rw [w]; decide
    rw [pStep_107 w]
    show ((pHt P + 1 : Nat) : Int) = _
    omega
  · have e1 : ndI g.toInt = 0 := by rw [w]; decide
    have e2 : gvI g.toInt = 1 := by rw [w]; decide
    rw [pStep_108 w]
    show ((pHt P + 1 : Nat) : Int) = _
    omega
  · have e1 : ndI g.toInt = 1 := by rw [w]; decide
    have e2 : gvI g.toInt = 0 := by rw [w]; decide
    rw [pStep_115 w]
    show ((pHt (pSp _ (pHt (pPop P)) (pPop P)) : Nat) : Int) = _
    rw [pSp_h, pp]
    omega
  · have e1 : ndI g.toInt = 0 := by rw [w]; decide
    have e2 : gvI g.toInt = 0 := by rw [w]; decide
    rw [pStep_103 w]
    omega
  · have e1 : ndI g.toInt = 1 := by rw [w]; decide
    have e2 : gvI g.toInt = 0 := by rw [w]; decide
    rw [pStep_122 w]
    cases c with
    | true =>
      show ((pHt P - 1 : Nat) : Int) = _
      omega
    | false =>
      show ((pHt (pDrop (pTop P) (pPop P)) : Nat) : Int) = _
      rw [pDrop_h, pp]
      omega
theorem sF_cg {f g : Nat → Nat} : ∀ n, (∀ k, k < n → f k = g k) → sF f n = sF g n
  | 0, _ => rfl
  | n + 1, h => by
    show sF f n + f n = sF g n + g n
    rw [sF_cg n (fun k hk => h k (by omega)), h n (by omega)]
theorem sF_gap {f g : Nat → Nat} {b m : Nat} : ∀ n, (∀ k, k < n → f k ≤ g k) → b < n → f b + m ≤ g b → sF f n + m ≤ sF g n
  | 0, _, hb, _ => absurd hb (Nat.not_lt_zero _)
  | n + 1, h, hb, hl => by
    show sF f n + f n + m ≤ sF g n + g n
    have a := h n (by omega)
    by_cases q : b = n
    · subst q
      have := sF_le (f := f) (g := g) b (fun k hk => h k (by omega))
      omega
    · have := sF_gap (f := f) (g := g) n (fun k hk => h k (by omega)) (show b < n by omega) hl
      omega
theorem sF_mono_ {f : Nat → Nat} {m n : Nat} (h : m ≤ n) : sF f m ≤ sF f n := by
  obtain ⟨d, rfl⟩ : ∃ d, n = m + d := ⟨n - m, by omega⟩
  clear h
  induction d with
  | zero => exact Nat.le_refl _
  | succ d ih => exact Nat.le_trans ih (Nat.le_add_right _ _)
/-- numbers, T, X: never put aside -/
def lf0 : Term → Bool
  | .int _ => true
  | .index _ => true
  | .string _ _ => true
  | _ => false
theorem lf0_e {t : Term} (h : qEff t = true) : lf0 t = false := by
  cases t with
  | int n => exact absurd h (by simp [qEff, tEff])
  | index n => exact absurd h (by simp [qEff, tEff])
  | string a n => exact absurd h (by simp [qEff, tEff])
  | _ => rfl
theorem lf0_v {v : Nat} {t : Term} (h : qVar v t = true) : lf0 t = false := by
  cases t with
  | int n => exact absurd h (by simp [qVar, tEff, tVar])
  | index n => exact absurd h (by simp [qVar, tEff, tVar])
  | string a n => exact absurd h (by simp [qVar, tEff, tVar])
  | _ => rfl
/-- weights that an instruction raises by c at most -/
def GPF (α c : Nat) (φ : Nat → Term → Nat) (ψ : Term → Nat) : Prop := (∀ k t x, lf0 t = false → α + φ k (tX x) ≤ φ k t) ∧ (∀ k, φ k .null ≤ c) ∧ (∀ k t, (isNu t || isNm t) = true → φ k t ≤ c) ∧ (∀ k t, φ k (.length t) ≤ φ k t + c ∧ φ k (.sum t) ≤ φ k t + c) ∧ (∀ k g l r, φ k (bn g l r) ≤ φ k l + φ (k + 1) r + c) ∧ (∀ k t x, ¬ (isNu t || isNm t) = true → α + φ k (tX x) + φ (k + 1) (tX x) ≤ φ k t + c) ∧ (∀ k t u, φ k u + φ (k + 1) t ≤ φ k t + φ (k + 1) u + c) ∧ (∀ k t, ψ t ≤ φ k t) ∧ α ≤ c
def pSum (φ : Nat → Term → Nat) (P : PSt) : Nat := sF (fun i => φ i (pKs P i)) (pHt P)
def pPs (ψ : Term → Nat) (P : PSt) : Nat := match pTs P with
  | none => 0
  | some t => ψ t
def pG (α : Nat) (φ : Nat → Term → Nat) (ψ : Term → Nat) (P : PSt) : Nat := α * pNn P + pSum φ P + pPs ψ P
section
variable {α c : Nat} {φ : Nat → Term → Nat} {ψ : Term → Nat} {P : PSt}
theorem pG_push {t : Term} : pG α φ ψ (pPush t P) = pG α φ ψ P + φ (pHt P) t := by
  show α * pNn P + (sF (fun i => φ i (upT (pKs P) (pHt P) t i)) (pHt P) + φ (pHt P) (upT (pKs P) (pHt P) t (pHt P))) + pPs ψ P = α * pNn P + sF (fun i => φ i (pKs P i)) (pHt P) + pPs ψ P + φ (pHt P) t
  rw [upT_s, sF_cg (f := fun i => φ i (upT (pKs P) (pHt P) t i)) (g := fun i => φ i (pKs P i)) (pHt P) (fun k hk => by (try dsimp only); rw [upT_n (by omega)])]
  omega
theorem pG_pop (h : 0 < pHt P) : pG α φ ψ (pPop P) + φ (pHt P - 1) (pTop P) = pG α φ ψ P := by
  show α * pNn P + sF (fun i => φ i (pKs P i)) (pHt P - 1) + pPs ψ P + φ (pHt P - 1) (pKs P (pHt P - 1)) = α * pNn P + sF (fun i => φ i (pKs P i)) (pHt P) + pPs ψ P
  obtain ⟨w, e⟩ : ∃ w, pHt P = w + 1 := ⟨pHt P - 1, by omega⟩
  rw [e]
  show α * pNn P + sF (fun i => φ i (pKs P i)) w + pPs ψ P + φ w (pKs P w) = α * pNn P + (sF (fun i => φ i (pKs P i)) w + φ w (pKs P w)) + pPs ψ P
  omega
theorem pG_add {k w : Int} {o : Option Term} : pG α φ ψ (pAdd k w o P) = pG α φ ψ P + α := by
  show α * (pNn P + 1) + pSum φ P + pPs ψ P = α * pNn P + pSum φ P + pPs ψ P + α
  rw [Nat.mul_succ]
  omega
theorem pG_put {t : Term} : pG α φ ψ (pPut t P) = pG α φ ψ P + α := by
  show α * (pNn P + 1) + pSum φ P + pPs ψ P = α * pNn P + pSum φ P + pPs ψ P + α
  rw [Nat.mul_succ]
  omega
theorem sF_upd {k : Nat} {ks : Nat → Term} {t : Term} : ∀ n, k < n → sF (fun i => φ i (upT ks k t i)) n + φ k (ks k) = sF (fun i => φ i (ks i)) n + φ k t
  | 0, h => absurd h (Nat.not_lt_zero _)
  | n + 1, h => by
    show sF (fun i => φ i (upT ks k t i)) n + φ n (upT ks k t n) + φ k (ks k) = sF (fun i => φ i (ks i)) n + φ n (ks n) + φ k t
    by_cases q : k = n
    · subst q
      rw [upT_s, sF_cg (f := fun i => φ i (upT ks k t i)) (g := fun i => φ i (ks i)) k (fun j hj => by (try dsimp only); rw [upT_n (by omega)])]
      omega
    · have := sF_upd (ks := ks) (t := t) n (show k < n by omega)
      rw [upT_n (show n ≠ k by omega)]
      omega
theorem pG_set {k : Nat} {t : Term} (h : k < pHt P) : pG α φ ψ (pSet k t P) + φ k (pKs P k) = pG α φ ψ P + φ k t := by
  have q := sF_upd (φ := φ) (ks := pKs P) (t := t) (pHt P) h
  show α * pNn P + sF (fun i => φ i (upT (pKs P) k t i)) (pHt P) + pPs ψ P + φ k (pKs P k) = α * pNn P + sF (fun i => φ i (pKs P i)) (pHt P) + pPs ψ P + φ k t
  omega
theorem pSp1_G {q : Term → Bool} {k : Nat} (hG : GPF α c φ ψ) (hq : ∀ t, q t = true → lf0 t = false) (h : k < pHt P) : pG α φ ψ (pSp1 q k P) ≤ pG α φ ψ P := by
  unfold pSp1
  by_cases z : q (pKs P k) = true
  · rw [if_pos z]
    have a := pG_set (α := α) (φ := φ) (ψ := ψ) (P := pPut (pKs P k) P) (t := tX (pFr P)) (k := k) h
    have b := pG_put (α := α) (φ := φ) (ψ := ψ) (P := P) (t := pKs P k)
    have d := hG.1 k (pKs P k) (pFr P) (hq _ z)
    have e : pKs (pPut (pKs P k) P) k = pKs P k := rfl
    rw [e] at a
    omega
  · rw [if_neg z]; exact Nat.le_refl _
theorem pSp_G {q : Term → Bool} (hG : GPF α c φ ψ) (hq : ∀ t, q t = true → lf0 t = false) : ∀ j, j ≤ pHt P → pG α φ ψ (pSp q j P) ≤ pG α φ ψ P
  | 0, _ => Nat.le_refl _
  | j + 1, h => by
    have a := pSp_G (q := q) hG hq j (by omega)
    have b := pSp1_G (P := pSp q j P) (q := q) (k := j) hG hq (by rw [pSp_h]; omega)
    exact Nat.le_trans b a
theorem pSt_G {q : Term → Bool} {k w : Int} {o : Option Term} (hG : GPF α c φ ψ) (hq : ∀ t, q t = true → lf0 t = false) : pG α φ ψ (pAdd k w o (pSp q (pHt P) P)) ≤ pG α φ ψ P + c := by
  rw [pG_add]
  have a := pSp_G (P := P) (q := q) hG hq (pHt P) (Nat.le_refl _)
  have b := hG.2.2.2.2.2.2.2.2
  omega
theorem pDrop_G {t : Term} (hG : GPF α c φ ψ) : pG α φ ψ (pDrop t P) ≤ pG α φ ψ P + c := by
  by_cases z : tEff t = true
  · rw [pDrop_1 z]; exact pSt_G hG (fun _ => lf0_e)
  · rw [pDrop_2 z]; omega
theorem pStep_G {g n : Int32} {d : Bool} (hG : GPF α c φ ψ) (hg : VSg g.toInt) (hn : ndI g.toInt ≤ (pHt P : Int)) : pG α φ ψ (pStep g n d P) ≤ pG α φ ψ P + c := by
  have pp : pHt (pPop P) = pHt P - 1 := rfl
  have ppp : pHt (pPop (pPop P)) = pHt P - 1 - 1 := rfl
  have hG' := hG
  obtain ⟨g1, g2, g3, g4, g5, g6, g7, g8, g9⟩ := hG'
  have sp := pSp_G (P := pPop P) (q := qEff) hG (fun _ => lf0_e) (pHt (pPop P)) (Nat.le_refl _)
  have sph : pHt (pSp qEff (pHt (pPop P)) (pPop P)) = pHt P - 1 := by rw [pSp_h, pp]
  by_cases q : isBi g.toInt
  · rw [pStep_b q, pG_push, ppp]
    have e1 : ndI g.toInt = 2 := by unfold ndI; rw [if_pos (by omega)]
    have a := pG_pop (α := α) (φ := φ) (ψ := ψ) (P := P) (by omega)
    have b := pG_pop (α := α) (φ := φ) (ψ := ψ) (P := pPop P) (by omega)
    have f := g5 (pHt P - 1 - 1) g (pTop (pPop P)) (pTop P)
    rw [pp] at b
    rw [show pHt P - 1 - 1 + 1 = pHt P - 1 by omega] at f
    omega
  have all : g.toInt = 33 ∨ g.toInt = 100 ∨ g.toInt = 105 ∨ g.toInt = 110 ∨ g.toInt = 111 ∨ g.toInt = 112 ∨ g.toInt = 114 ∨ g.toInt = 116 ∨ g.toInt = 119 ∨ g.toInt = 107 ∨ g.toInt = 108 ∨ g.toInt = 115 ∨ g.toInt = 103 ∨ g.toInt = 122 := by omega
  rcases all with w | w | w | w | w | w | w | w | w | w | w | w | w | w
  · have e1 : ndI g.toInt = 1 := by rw [w]; decide
    have a := pG_pop (α := α) (φ := φ) (ψ := ψ) (P := P) (by omega)
    rw [pStep_33 w]
    rw [pG_push, pp]
    have f := g4 (pHt P - 1) (pTop P)
    omega
  · have e1 : ndI g.toInt = 1 := by rw [w]; decide
    have a := pG_pop (α := α) (φ := φ) (ψ := ψ) (P := P) (by omega)
    rw [pStep_100 w]
    by_cases z : (isNu (pTop P) || isNm (pTop P)) = true
    · rw [pTwice_1 z, pG_push, pG_push]
      have f := g3 (pHt P) (pTop P) z
      show pG α φ ψ (pPop P) + φ (pHt P - 1) (pTop P) + φ (pHt P - 1 + 1) (pTop P) ≤ _
      rw [show pHt P - 1 + 1 = pHt P by omega]
      omega
    · rw [pTwice_2 z, pG_push, pG_push, pG_put]
      have f := g6 (pHt P - 1) (pTop P) (pFr (pSp qEff (pHt (pPop P)) (pPop P))) z
      show pG α φ ψ (pSp qEff (pHt (pPop P)) (pPop P)) + α + φ (pHt (pSp qEff (pHt (pPop P)) (pPop P))) (tX _) + φ (pHt (pSp qEff (pHt (pPop P)) (pPop P)) + 1) (tX _) ≤ _
      rw [sph]
      omega
  · rw [pStep_105 w]
    rw [pG_push]
    have f := g2 (pHt P)
    omega
  · have e1 : ndI g.toInt = 1 := by rw [w]; decide
    have a := pG_pop (α := α) (φ := φ) (ψ := ψ) (P := P) (by omega)
    rw [pStep_110 w]
    rw [pG_push, pp]
    have f := g4 (pHt P - 1) (pTop P)
    omega
  · have e1 : ndI g.toInt = 1 := by rw [w]; decide
    have a := pG_pop (α := α) (φ := φ) (ψ := ψ) (P := P) (by omega)
    rw [pStep_111 w]
    have f := pSt_G (P := pPop P) (q := qEff) (k := 3) (w := -1) (o := some (pTop P)) hG (fun _ => lf0_e)
    omega
  · have e1 : ndI g.toInt = 1 := by rw [w]; decide
    have a := pG_pop (α := α) (φ := φ) (ψ := ψ) (P := P) (by omega)
    rw [pStep_112 w]
    have f := pDrop_G (P := pPop P) (t := pTop P) hG
    omega
  · rw [pStep_114 w]
    exact pSt_G hG (fun _ => lf0_e)
  · have e1 : ndI g.toInt = 1 := by rw [w]; decide
    have a := pG_pop (α := α) (φ := φ) (ψ := ψ) (P := P) (by omega)
    rw [pStep_116 w]
    have f := pSt_G (P := pPop P) (q := qEff) (k := 5) (w := -1) (o := some (pTop P)) hG (fun _ => lf0_e)
    omega
  · have e1 : ndI g.toInt = 2 := by rw [w]; decide
    have a := pG_pop (α := α) (φ := φ) (ψ := ψ) (P := P) (by omega)
    rw [pStep_119 w]
    by_cases z : (tEff (pTop P) && tEff (pTop (pPop P))) = true
    · rw [pExch_1 z, pG_push, pG_push]
      have b := pG_pop (α := α) (φ := φ) (ψ := ψ) (P := pSp qEff (pHt (pPop P)) (pPop P)) (by rw [sph]; omega)
      have f := g7 (pHt P - 1 - 1) (pTop (pSp qEff (pHt (pPop P)) (pPop P))) (pTop P)
      rw [sph] at b
      show pG α φ ψ (pPop (pSp qEff (pHt (pPop P)) (pPop P))) + φ (pHt (pSp qEff (pHt (pPop P)) (pPop P)) - 1) (pTop P) + φ (pHt (pSp qEff (pHt (pPop P)) (pPop P)) - 1 + 1) (pTop (pSp qEff (pHt (pPop P)) (pPop P))) ≤ _
      rw [sph]
      rw [show pHt P - 1 - 1 + 1 = pHt P - 1 by omega] at f ⊢
      omega
    · rw [pExch_2 z, pG_push, pG_push]
      have b := pG_pop (α := α) (φ := φ) (ψ := ψ) (P := pPop P) (by omega)
      have f := g7 (pHt P - 1 - 1) (pTop (pPop P)) (pTop P)
      rw [pp] at b
      show pG α φ ψ (pPop (pPop P)) + φ (pHt P - 1 - 1) (pTop P) + φ (pHt P - 1 - 1 + 1) (pTop (pPop P)) ≤ _
      rw [show pHt P - 1 - 1 + 1 = pHt P - 1 by omega] at f ⊢
      omega
  · rw [pStep_107 w]
    rw [pG_push]
    have f := g3 (pHt P) (.int n) rfl
    omega
  · rw [pStep_108 w]
    rw [pG_push]
    have f := g3 (pHt P) (.arg n.toNatClampNeg) rfl
    omega
  · have e1 : ndI g.toInt = 1 := by rw [w]; decide
    have a := pG_pop (α := α) (φ := φ) (ψ := ψ) (P := P) (by omega)
    rw [pStep_115 w]
    have f := pSt_G (P := pPop P) (q := qVar n.toNatClampNeg) (k := 0) (w := n.toInt) (o := some (pTop P)) hG (fun _ => lf0_v)
    omega
  · rw [pStep_103 w]
    omega
  · have e1 : ndI g.toInt = 1 := by rw [w]; decide
    have a := pG_pop (α := α) (φ := φ) (ψ := ψ) (P := P) (by omega)
    rw [pStep_122 w]
    cases d with
    | true =>
      have f := g8 (pHt P - 1) (pTop P)
      have f2 : pG α φ ψ (pTst (some (pTop P)) (pPop P)) + pPs ψ P = pG α φ ψ (pPop P) + ψ (pTop P) := by
        show α * pNn P + sF (fun i => φ i (pKs P i)) (pHt P - 1) + ψ (pTop P) + pPs ψ P = α * pNn P + sF (fun i => φ i (pKs P i)) (pHt P - 1) + pPs ψ P + ψ (pTop P)
        omega
      show pG α φ ψ (pTst (some (pTop P)) (pPop P)) ≤ _
      omega
    | false =>
      have f := pDrop_G (P := pPop P) (t := pTop P) hG
      show pG α φ ψ (pDrop (pTop P) (pPop P)) ≤ _
      omega
end
/-- the three weights -/
def cc1 (t : Term) : Nat := if lf0 t = true then 0 else 1
def isTk (k : Nat) : Term → Bool
  | .index i => decide (i = k)
  | _ => false
theorem isTk_t {k : Nat} {t : Term} (h : isTk k t = true) : t = .index k := by
  cases t with
  | index i => rw [of_decide_eq_true (show decide (i = k) = true from h)]
  | _ => exact absurd h (by simp [isTk])
theorem isTk_s (k : Nat) : isTk k (.index k) = true := decide_eq_true rfl
def cc2 (k : Nat) (t : Term) : Nat := if isTk k t = true then 0 else 1
theorem cc1_le (t : Term) : cc1 t ≤ 1 := by unfold cc1; split <;> omega
theorem cc2_le (k : Nat) (t : Term) : cc2 k t ≤ 1 := by unfold cc2; split <;> omega
theorem cc1_0 {t : Term} (h : lf0 t = true) : cc1 t = 0 := if_pos h
theorem cc1_1 {t : Term} (h : lf0 t = false) : cc1 t = 1 := if_neg (by rw [h]; decide)
theorem isTk_lf {k : Nat} {t : Term} (h : lf0 t = false) : isTk k t = false := by
  cases t with
  | index i => exact absurd h (by simp [lf0])
  | _ => rfl
theorem cc2_1 {k : Nat} {t : Term} (h : isTk k t = false) : cc2 k t = 1 := if_neg (by rw [h]; decide)
def phV (k : Nat) (t : Term) : Nat := cc1 t + 2 * cc2 k t
theorem phV_X (k x : Nat) : phV k (tX x) = 2 := rfl
theorem phV_1 {k : Nat} {t : Term} (h : lf0 t = false) : phV k t = 3 := by
  unfold phV
  rw [cc1_1 h, cc2_1 (isTk_lf h)]
theorem nn_lf {t : Term} (h : ¬ (isNu t || isNm t) = true) : lf0 t = false := by
  cases t with
  | int n => exact absurd rfl h
  | index n => exact absurd rfl h
  | string a n => exact absurd rfl h
  | _ => rfl
theorem gpV : GPF 1 4 phV cc1 := by
  have le : ∀ k t, phV k t ≤ 3 := fun k t => by
    have := cc1_le t
    have := cc2_le k t
    unfold phV; omega
  have ex : ∀ k t, phV k t = cc1 t + 2 * cc2 k t := fun _ _ => rfl
  refine ⟨fun k t x h => by rw [phV_X, phV_1 h]; omega, fun k => by have := le k .null; omega, fun k t _ => by have := le k t; omega, fun k t => ⟨by have := le k (.length t); omega, by have := le k (.sum t); omega⟩, fun k g l r => by have := le k (bn g l r); omega, fun k t x h => by rw [phV_X, phV_X, phV_1 (nn_lf h)]; omega, fun k t u => ?_, fun k t => by rw [ex]; omega, by omega⟩
  have a1 := cc2_le k u
  have a2 := cc2_le (k + 1) t
  rw [ex, ex, ex, ex]
  omega
theorem lf0_sz {t : Term} (h : (isNu t || isNm t) = true) : tSz t = 1 ∧ tOp t = 0 := by
  cases t with
  | int n => exact ⟨rfl, rfl⟩
  | index n => exact ⟨rfl, rfl⟩
  | string a n => exact ⟨rfl, rfl⟩
  | arg n => exact ⟨rfl, rfl⟩
  | _ => exact absurd h (by simp [isNu, isNm])
theorem gpO : GPF 0 1 (fun _ => tOp) tOp := by
  refine ⟨fun k t x _ => ?_, fun k => ?_, fun k t h => ?_, fun k t => ⟨?_, ?_⟩, fun k g l r => ?_, fun k t x h => ?_, fun k t u => ?_, fun k t => Nat.le_refl _, by omega⟩
  · show 0 + 0 ≤ tOp t; omega
  · show 0 ≤ 1; omega
  · (try dsimp only); rw [(lf0_sz h).2]; omega
  · show 1 + tOp t ≤ tOp t + 1; omega
  · show 1 + tOp t ≤ tOp t + 1; omega
  · show 1 + (tOp l + tOp r) ≤ tOp l + tOp r + 1; omega
  · show 0 + 0 + 0 ≤ tOp t + 1; omega
  · (try dsimp only); omega
theorem gpS : GPF 0 1 (fun _ => tSz) tSz := by
  refine ⟨fun k t x _ => ?_, fun k => ?_, fun k t h => ?_, fun k t => ⟨?_, ?_⟩, fun k g l r => ?_, fun k t x h => ?_, fun k t u => ?_, fun k t => Nat.le_refl _, by omega⟩
  · show 0 + 1 ≤ tSz t
    have := tSz_pos t; omega
  · show 1 ≤ 1; omega
  · (try dsimp only); rw [(lf0_sz h).1]; omega
  · show 1 + tSz t ≤ tSz t + 1; omega
  · show 1 + tSz t ≤ tSz t + 1; omega
  · show 1 + (tSz l + tSz r) ≤ tSz l + tSz r + 1; omega
  · show 0 + 1 + 1 ≤ tSz t + 1
    have := tSz_pos t; omega
  · (try dsimp only); omega
