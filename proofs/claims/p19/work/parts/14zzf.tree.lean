/-- trees of expressions: numbers .int, variables .arg, T .index, X .string "", in .null, not .length, neg .sum -/
abbrev bn (op : Int32) (l r : Term) : Term := .add (.int op) (.sub l r)
abbrev tX (x : Nat) : Term := .string "" x
def tEff : Term → Bool
  | .null => true
  | .length t => tEff t
  | .sum t => tEff t
  | .add (.int op) (.sub l r) => decide (op = 47) || decide (op = 37) || tEff l || tEff r
  | _ => false
def tVar (v : Nat) : Term → Bool
  | .arg i => decide (i = v)
  | .length t => tVar v t
  | .sum t => tVar v t
  | .add (.int _) (.sub l r) => tVar v l || tVar v r
  | _ => false
def tTn (k : Nat) : Term → Bool
  | .index i => decide (i = k)
  | .length t => tTn k t
  | .sum t => tTn k t
  | .add (.int _) (.sub l r) => tTn k l || tTn k r
  | _ => false
def tSz : Term → Nat
  | .length t => 1 + tSz t
  | .sum t => 1 + tSz t
  | .add (.int _) (.sub l r) => 1 + (tSz l + tSz r)
  | _ => 1
def tRp (k x : Nat) : Term → Term
  | .index i => if i = k then tX x else .index i
  | .length t => .length (tRp k x t)
  | .sum t => .sum (tRp k x t)
  | .add (.int op) (.sub l r) => .add (.int op) (.sub (tRp k x l) (tRp k x r))
  | t => t
def tOp : Term → Nat
  | .length t => 1 + tOp t
  | .sum t => 1 + tOp t
  | .add (.int _) (.sub l r) => 1 + (tOp l + tOp r)
  | _ => 0
/-- a leaf, or nothing of ours -/
def kdl : Term → Bool
  | .length _ => false
  | .sum _ => false
  | .add (.int _) (.sub _ _) => false
  | _ => true
/-- no T -/
def nT : Term → Bool
  | .index _ => false
  | _ => true
def ixT : Term → Nat
  | .index k => k
  | _ => 0
theorem nT_f {t : Term} (h : nT t = false) : t = .index (ixT t) := by
  cases t with
  | index k => rfl
  | _ => exact absurd h (by simp [nT])
theorem tLf {t : Term} (h : kdl t = true) : tSz t = 1 ∧ tOp t = 0 ∧ ((∃ i, t = .index i) ∨ ((∀ k x, tRp k x t = t) ∧ ∀ k, tTn k t = false)) := by
  cases t with
  | add a b =>
    cases a with
    | int op =>
      cases b with
      | sub l r => exact absurd h (by simp [kdl])
      | _ => exact ⟨rfl, rfl, Or.inr ⟨fun _ _ => rfl, fun _ => rfl⟩⟩
    | _ => exact ⟨rfl, rfl, Or.inr ⟨fun _ _ => rfl, fun _ => rfl⟩⟩
  | length u => exact absurd h (by simp [kdl])
  | sum u => exact absurd h (by simp [kdl])
  | index i => exact ⟨rfl, rfl, Or.inl ⟨i, rfl⟩⟩
  | _ => exact ⟨rfl, rfl, Or.inr ⟨fun _ _ => rfl, fun _ => rfl⟩⟩
theorem tSz_pos (t : Term) : 1 ≤ tSz t := by
  unfold tSz
  split <;> omega
theorem tInd {M : Term → Prop} (h5 : ∀ t, M t → M (.length t)) (h6 : ∀ t, M t → M (.sum t)) (h7 : ∀ op l r, M l → M r → M (bn op l r)) (h0 : ∀ t, kdl t = true → M t) : ∀ n t, tSz t < n → M t
  | 0, _, h => absurd h (Nat.not_lt_zero _)
  | n + 1, t, h => by
    cases t with
    | add a b =>
      cases a with
      | int op =>
        cases b with
        | sub l r =>
          have h : 1 + (tSz l + tSz r) < n + 1 := h
          have hl := tSz_pos l
          have hr := tSz_pos r
          exact h7 op l r (tInd h5 h6 h7 h0 n l (by omega)) (tInd h5 h6 h7 h0 n r (by omega))
        | _ => exact h0 _ rfl
      | _ => exact h0 _ rfl
    | length u =>
      have h : 1 + tSz u < n + 1 := h
      exact h5 u (tInd h5 h6 h7 h0 n u (by omega))
    | sum u =>
      have h : 1 + tSz u < n + 1 := h
      exact h6 u (tInd h5 h6 h7 h0 n u (by omega))
    | _ => exact h0 _ rfl
theorem tAll {M : Term → Prop} (h5 : ∀ t, M t → M (.length t)) (h6 : ∀ t, M t → M (.sum t)) (h7 : ∀ op l r, M l → M r → M (bn op l r)) (h0 : ∀ t, kdl t = true → M t) (t : Term) : M t := tInd h5 h6 h7 h0 (tSz t + 1) t (Nat.lt_succ_self _)
theorem tRp_i (k x i : Nat) : tRp k x (.index i) = if i = k then tX x else .index i := rfl
theorem tRp_sz (k x : Nat) : ∀ t, tSz (tRp k x t) = tSz t ∧ tOp (tRp k x t) = tOp t :=
  tAll (fun t h => by
    show 1 + tSz (tRp k x t) = 1 + tSz t ∧ 1 + tOp (tRp k x t) = 1 + tOp t
    omega) (fun t h => by
    show 1 + tSz (tRp k x t) = 1 + tSz t ∧ 1 + tOp (tRp k x t) = 1 + tOp t
    omega) (fun op l r h g => by
    show 1 + (tSz (tRp k x l) + tSz (tRp k x r)) = 1 + (tSz l + tSz r) ∧ 1 + (tOp (tRp k x l) + tOp (tRp k x r)) = 1 + (tOp l + tOp r)
    omega) (fun t h => by
    obtain ⟨_, _, ⟨i, rfl⟩ | ⟨q, _⟩⟩ := tLf h
    · rw [tRp_i]
      by_cases c : i = k
      · rw [if_pos c]; exact ⟨rfl, rfl⟩
      · rw [if_neg c]; exact ⟨rfl, rfl⟩
    · rw [q]; exact ⟨rfl, rfl⟩)
theorem tRp_id (k x : Nat) : ∀ t, tTn k t = false → tRp k x t = t :=
  tAll (fun t h g => by
    have e := h g
    show Term.length (tRp k x t) = _
    rw [e]) (fun t h g => by
    have e := h g
    show Term.sum (tRp k x t) = _
    rw [e]) (fun op l r h g q => by
    have q : (tTn k l || tTn k r) = false := q
    rw [Bool.or_eq_false_iff] at q
    show bn op (tRp k x l) (tRp k x r) = _
    rw [h q.1, g q.2]) (fun t h g => by
    obtain ⟨_, _, ⟨i, rfl⟩ | ⟨q, _⟩⟩ := tLf h
    · have g : decide (i = k) = false := g
      rw [tRp_i, if_neg (of_decide_eq_false g)]
    · exact q k x)
/-- the pure machine: stack, height, statements, how many, X, test -/
abbrev PSt : Type := (Nat → Term) × Nat × (Nat → Int × Int × Option Term) × Nat × Nat × Option Term
abbrev pKs (P : PSt) : Nat → Term := P.1
abbrev pHt (P : PSt) : Nat := P.2.1
abbrev pSm (P : PSt) : Nat → Int × Int × Option Term := P.2.2.1
abbrev pNn (P : PSt) : Nat := P.2.2.2.1
abbrev pFr (P : PSt) : Nat := P.2.2.2.2.1
abbrev pTs (P : PSt) : Option Term := P.2.2.2.2.2
def upT {α : Type} (f : Nat → α) (i : Nat) (v : α) : Nat → α := fun j => if j = i then v else f j
theorem upT_s {α : Type} (f : Nat → α) (i : Nat) (v : α) : upT f i v i = v := if_pos rfl
theorem upT_n {α : Type} {f : Nat → α} {i : Nat} {v : α} {j : Nat} (h : j ≠ i) : upT f i v j = f j := if_neg h
def pAdd (k w : Int) (e : Option Term) (P : PSt) : PSt := (pKs P, pHt P, upT (pSm P) (pNn P) (k, w, e), pNn P + 1, pFr P, pTs P)
/-- put aside: the statement; the X is tX (pFr P) -/
def pPut (t : Term) (P : PSt) : PSt := (pKs P, pHt P, upT (pSm P) (pNn P) (2, (pFr P : Int), some t), pNn P + 1, pFr P + 1, pTs P)
def pSet (k : Nat) (t : Term) (P : PSt) : PSt := (upT (pKs P) k t, pHt P, pSm P, pNn P, pFr P, pTs P)
def pTst (t : Option Term) (P : PSt) : PSt := (pKs P, pHt P, pSm P, pNn P, pFr P, t)
def pPush (t : Term) (P : PSt) : PSt := (upT (pKs P) (pHt P) t, pHt P + 1, pSm P, pNn P, pFr P, pTs P)
def pTop (P : PSt) : Term := pKs P (pHt P - 1)
def pPop (P : PSt) : PSt := (pKs P, pHt P - 1, pSm P, pNn P, pFr P, pTs P)
/-- one place is put aside, where it is to be -/
def pSp1 (q : Term → Bool) (k : Nat) (P : PSt) : PSt := if q (pKs P k) then pSet k (tX (pFr P)) (pPut (pKs P k) P) else P
def pSp (q : Term → Bool) : Nat → PSt → PSt
  | 0, P => P
  | k + 1, P => pSp1 q k (pSp q k P)
def qEff : Term → Bool := tEff
def qVar (v : Nat) : Term → Bool := fun t => tEff t || tVar v t
def isNm : Term → Bool
  | .arg _ => true
  | .index _ => true
  | .string _ _ => true
  | _ => false
def isNu : Term → Bool
  | .int _ => true
  | _ => false
def pTwice (P : PSt) : PSt := if isNu (pTop P) || isNm (pTop P) then pPush (pTop P) (pPush (pTop P) (pPop P)) else pPush (tX (pFr (pSp qEff (pHt (pPop P)) (pPop P)))) (pPush (tX (pFr (pSp qEff (pHt (pPop P)) (pPop P)))) (pPut (pTop P) (pSp qEff (pHt (pPop P)) (pPop P))))
def pDrop (t : Term) (P : PSt) : PSt := if tEff t then pAdd 4 (-1) (some t) (pSp qEff (pHt P) P) else P
def pExch (P : PSt) : PSt := if tEff (pTop P) && tEff (pTop (pPop P)) then pPush (pTop (pSp qEff (pHt (pPop P)) (pPop P))) (pPush (pTop P) (pPop (pSp qEff (pHt (pPop P)) (pPop P)))) else pPush (pTop (pPop P)) (pPush (pTop P) (pPop (pPop P)))
/-- over an instruction; c: it is a z that goes one way or the other -/
def pStep (g : Int32) (n : Int32) (c : Bool) (P : PSt) : PSt :=
  if g.toInt = 100 then pTwice P else
  if g.toInt = 103 then P else
  if g.toInt = 105 then pPush .null P else
  if g.toInt = 107 then pPush (.int n) P else
  if g.toInt = 108 then pPush (.arg n.toNatClampNeg) P else
  if g.toInt = 111 then pAdd 3 (-1) (some (pTop P)) (pSp qEff (pHt (pPop P)) (pPop P)) else
  if g.toInt = 112 then pDrop (pTop P) (pPop P) else
  if g.toInt = 114 then pAdd 6 (-1) none (pSp qEff (pHt P) P) else
  if g.toInt = 115 then pAdd 0 n.toInt (some (pTop P)) (pSp (qVar n.toNatClampNeg) (pHt (pPop P)) (pPop P)) else
  if g.toInt = 116 then pAdd 5 (-1) (some (pTop P)) (pSp qEff (pHt (pPop P)) (pPop P)) else
  if g.toInt = 119 then pExch P else
  if g.toInt = 122 then (if c then pTst (some (pTop P)) (pPop P) else pDrop (pTop P) (pPop P)) else
  if g.toInt = 33 then pPush (.length (pTop P)) (pPop P) else
  if g.toInt = 110 then pPush (.sum (pTop P)) (pPop P) else
  pPush (bn g (pTop (pPop P)) (pTop P)) (pPop (pPop P))
/-- whether a T is needed above -/
def pNed (k : Nat) (P : PSt) : Prop := (∃ j, k < j ∧ j < pHt P ∧ tTn k (pKs P j) = true) ∨ ∃ t, pTs P = some t ∧ tTn k t = true
def pRpl (k x : Nat) (P : PSt) : PSt := (fun j => if k < j ∧ j < pHt P then tRp k x (pKs P j) else pKs P j, pHt P, pSm P, pNn P, pFr P, (pTs P).map (tRp k x))
noncomputable def pHnd (k : Nat) (P : PSt) : PSt :=
  if pKs P k = .index k then P else
  pAdd 1 (k : Int) (some (pKs P k)) (@ite _ (pNed k P) (Classical.propDecidable _) (pRpl k (pFr P) (pPut (.index k) P)) P)
noncomputable def pEnd1 : Nat → PSt → PSt
  | 0, P => P
  | k + 1, P => pHnd k (pEnd1 k P)
def pEnd2 (P : PSt) : PSt := match pTs P with
  | none => P
  | some t => if tEff t then pTst (some (tX (pFr P))) (pPut t P) else P
noncomputable def pEnd (P : PSt) : PSt := pEnd2 (pEnd1 (pHt P) P)
/-- a block's begin -/
def pBeg (d : Nat) (P : PSt) : PSt := (fun i => .index i, d, pSm P, pNn P, pFr P, none)
/-- over the instructions of a block -/
def pRun (sg nv : Nat → Int32) (fk : Nat → Bool) (f : Nat) : Nat → PSt → PSt
  | 0, P => P
  | m + 1, P => pStep (sg (f + m)) (nv (f + m)) (fk (f + m)) (pRun sg nv fk f m P)
noncomputable def pBlk (sg nv : Nat → Int32) (fk : Nat → Bool) (f l d : Nat) (P : PSt) : PSt := @ite _ (enI (sg l).toInt) (Classical.propDecidable _) (pRun sg nv fk f (l + 1 - f) (pBeg d P)) (pEnd (pRun sg nv fk f (l + 1 - f) (pBeg d P)))
/-- all blocks -/
noncomputable def pAll (sg nv : Nat → Int32) (fk : Nat → Bool) (fi la : Nat → Nat) (dp : Nat → Nat) : Nat → PSt → PSt
  | 0, P => P
  | b + 1, P => pBlk sg nv fk (fi b) (la b) (dp b) (pAll sg nv fk fi la dp b P)
