/-- the names of an expression in a block: T below its depth, X put aside in it so far -/
def NOKn (d S : Nat) (sm : Nat → Int × Int × Option Term) (n : Nat) (t : Term) : Prop := (∀ k, tTn k t = true → k < d) ∧ ∀ x, tXn x t = true → ∃ j, S ≤ j ∧ j < n ∧ (sm j).1 = 2 ∧ (sm j).2.1 = (x : Int)
abbrev NOK (d S : Nat) (P : PSt) (t : Term) : Prop := NOKn d S (pSm P) (pNn P) t
theorem NOKn.up {d S n m : Nat} {sm sm2 : Nat → Int × Int × Option Term} {t : Term} (h : NOKn d S sm n t) (hm : n ≤ m) (e : ∀ j, j < n → sm2 j = sm j) : NOKn d S sm2 m t := ⟨h.1, fun x hx => by
  obtain ⟨j, j1, j2, j3, j4⟩ := h.2 x hx
  exact ⟨j, j1, by omega, by rw [e j j2]; exact j3, by rw [e j j2]; exact j4⟩⟩
theorem NOK.le {d S : Nat} {P Q : PSt} {t : Term} (h : NOK d S P t) (g : PLE P Q) : NOK d S Q t := NOKn.up h g.1 g.2.2.2
theorem nok_lf {d S n : Nat} {sm : Nat → Int × Int × Option Term} {t : Term} (h : ∀ k, tTn k t = false) (g : ∀ x, tXn x t = false) : NOKn d S sm n t := ⟨fun k z => by rw [h k] at z; exact absurd z (by decide), fun x z => by rw [g x] at z; exact absurd z (by decide)⟩
theorem nok_b {d S n : Nat} {sm : Nat → Int × Int × Option Term} {g : Int32} {l r : Term} (h : NOKn d S sm n l) (q : NOKn d S sm n r) : NOKn d S sm n (bn g l r) := by
  refine ⟨fun k z => ?_, fun x z => ?_⟩
  · have z : (tTn k l || tTn k r) = true := z
    rcases Bool.or_eq_true _ _ ▸ z with y | y
    · exact h.1 k y
    · exact q.1 k y
  · have z : (tXn x l || tXn x r) = true := z
    rcases Bool.or_eq_true _ _ ▸ z with y | y
    · exact h.2 x y
    · exact q.2 x y
/-- names that are replaced: no T more, one X more -/
theorem tRp_nm (k x : Nat) : ∀ t, (∀ i, tTn i (tRp k x t) = true → tTn i t = true) ∧ ∀ y, tXn y (tRp k x t) = true → tXn y t = true ∨ y = x :=
  tAll (fun t h => h) (fun t h => h) (fun op l r hl hr => by
    have e : tRp k x (bn op l r) = bn op (tRp k x l) (tRp k x r) := rfl
    rw [e]
    refine ⟨fun i z => ?_, fun y z => ?_⟩
    · have z : (tTn i (tRp k x l) || tTn i (tRp k x r)) = true := z
      show (tTn i l || tTn i r) = true
      rcases Bool.or_eq_true _ _ ▸ z with w | w
      · rw [hl.1 i w]; rfl
      · rw [hr.1 i w, Bool.or_true]
    · have z : (tXn y (tRp k x l) || tXn y (tRp k x r)) = true := z
      show (tXn y l || tXn y r) = true ∨ y = x
      rcases Bool.or_eq_true _ _ ▸ z with w | w
      · rcases hl.2 y w with u | u
        · exact Or.inl (by rw [u]; rfl)
        · exact Or.inr u
      · rcases hr.2 y w with u | u
        · exact Or.inl (by rw [u, Bool.or_true])
        · exact Or.inr u) (fun t h => by
    rcases (tLf h).2.2 with ⟨i, e⟩ | ⟨e, _⟩
    · subst e
      rw [tRp_i]
      by_cases c : i = k
      · rw [if_pos c]
        refine ⟨fun j z => absurd z (by show ¬ false = true; decide), fun y z => Or.inr ?_⟩
        have : decide (x = y) = true := z
        exact (of_decide_eq_true this).symm
      · rw [if_neg c]
        exact ⟨fun _ z => z, fun _ z => Or.inl z⟩
    · rw [e k x]
      exact ⟨fun _ z => z, fun _ z => Or.inl z⟩)
/-- all names of a state are so -/
def PNM (d S : Nat) (P : PSt) : Prop := S ≤ pNn P ∧ (∀ i, i < pHt P → NOK d S P (pKs P i)) ∧ (∀ t, pTs P = some t → NOK d S P t) ∧ ∀ j t, S ≤ j → j < pNn P → (pSm P j).2.2 = some t → NOKn d S (pSm P) j t
section
variable {d S : Nat} {P : PSt}
theorem PNM.push {t : Term} (h : PNM d S P) (g : NOK d S P t) : PNM d S (pPush t P) := by
  obtain ⟨h1, h2, h3_, h4⟩ := h
  refine ⟨h1, fun i hi => ?_, h3_, h4⟩
  have hi : i < pHt P + 1 := hi
  show NOKn d S (pSm P) (pNn P) (upT (pKs P) (pHt P) t i)
  by_cases q : i = pHt P
  · rw [q, upT_s]; exact g
  · rw [upT_n q]; exact h2 i (by omega)
theorem PNM.pop (h : PNM d S P) : PNM d S (pPop P) := ⟨h.1, fun i hi => h.2.1 i (by have : i < pHt P - 1 := hi; omega), h.2.2.1, h.2.2.2⟩
theorem PNM.top (h : PNM d S P) (g : 0 < pHt P) : NOK d S P (pTop P) := h.2.1 _ (by omega)
theorem PNM.tst {o : Option Term} (h : PNM d S P) (g : ∀ t, o = some t → NOK d S P t) : PNM d S (pTst o P) := ⟨h.1, h.2.1, g, h.2.2.2⟩
theorem PNM.set {k : Nat} {t : Term} (h : PNM d S P) (g : NOK d S P t) : PNM d S (pSet k t P) := by
  refine ⟨h.1, fun i hi => ?_, h.2.2.1, h.2.2.2⟩
  show NOKn d S (pSm P) (pNn P) (upT (pKs P) k t i)
  by_cases q : i = k
  · rw [q, upT_s]; exact g
  · rw [upT_n q]; exact h.2.1 i hi
theorem PNM.add {k w : Int} {o : Option Term} (h : PNM d S P) (g : ∀ t, o = some t → NOK d S P t) : PNM d S (pAdd k w o P) := by
  have le : PLE P (pAdd k w o P) := PLE.add
  obtain ⟨h1, h2, h3_, h4⟩ := h
  refine ⟨Nat.le_trans h1 le.1, fun i hi => (h2 i hi).le le, fun t ht => (h3_ t ht).le le, fun j t hj jn ht => ?_⟩
  have jn : j < pNn P + 1 := jn
  by_cases q : j = pNn P
  · subst q
    have ht : (upT (pSm P) (pNn P) (k, w, o) (pNn P)).2.2 = some t := ht
    rw [upT_s] at ht
    exact NOKn.up (g t ht) (Nat.le_refl _) (fun j hj => le.2.2.2 j hj)
  · have e := le.2.2.2 j (by omega)
    rw [e] at ht
    exact NOKn.up (h4 j t hj (by omega) ht) (Nat.le_refl _) (fun i hi => le.2.2.2 i (by omega))
theorem PNM.put {t : Term} (h : PNM d S P) (g : NOK d S P t) : PNM d S (pPut t P) ∧ NOK d S (pPut t P) (tX (pFr P)) := by
  have le : PLE P (pPut t P) := PLE.put
  obtain ⟨h1, h2, h3_, h4⟩ := h
  refine ⟨⟨Nat.le_trans h1 le.1, fun i hi => (h2 i hi).le le, fun t ht => (h3_ t ht).le le, fun j u hj jn ht => ?_⟩, fun k z => absurd z (by show ¬ false = true; decide), fun x z => ?_⟩
  · have jn : j < pNn P + 1 := jn
    by_cases q : j = pNn P
    · subst q
      have ht : (upT (pSm P) (pNn P) (2, (pFr P : Int), some t) (pNn P)).2.2 = some u := ht
      rw [upT_s] at ht
      have e := Option.some.inj ht
      rw [← e]
      exact NOKn.up g (Nat.le_refl _) (fun j hj => le.2.2.2 j hj)
    · have e := le.2.2.2 j (by omega)
      rw [e] at ht
      exact NOKn.up (h4 j u hj (by omega) ht) (Nat.le_refl _) (fun i hi => le.2.2.2 i (by omega))
  · have z : decide (pFr P = x) = true := z
    have z := of_decide_eq_true z
    refine ⟨pNn P, h1, Nat.lt_succ_self _, ?_, ?_⟩
    · show (upT (pSm P) (pNn P) (2, (pFr P : Int), some t) (pNn P)).1 = 2
      rw [upT_s]
    · show (upT (pSm P) (pNn P) (2, (pFr P : Int), some t) (pNn P)).2.1 = (x : Int)
      rw [upT_s, z]
theorem PNM.sp1 {q : Term → Bool} {k : Nat} (h : PNM d S P) (hk : k < pHt P) : PNM d S (pSp1 q k P) := by
  unfold pSp1
  by_cases c : q (pKs P k) = true
  · rw [if_pos c]
    obtain ⟨h1, h2⟩ := h.put (h.2.1 k hk)
    exact h1.set h2
  · rw [if_neg c]; exact h
theorem pSp1_ht {q : Term → Bool} {k : Nat} : pHt (pSp1 q k P) = pHt P := by
  unfold pSp1
  by_cases c : q (pKs P k) = true
  · rw [if_pos c]; rfl
  · rw [if_neg c]
theorem pSp_ht {q : Term → Bool} : ∀ j, pHt (pSp q j P) = pHt P
  | 0 => rfl
  | j + 1 => pSp1_ht.trans (pSp_ht j)
theorem PNM.sp {q : Term → Bool} (h : PNM d S P) : ∀ j, j ≤ pHt P → PNM d S (pSp q j P)
  | 0, _ => h
  | j + 1, hj => (PNM.sp h j (by omega)).sp1 (by rw [pSp_ht]; omega)
theorem PNM.st {q : Term → Bool} {k w : Int} {o : Option Term} (h : PNM d S P) (g : ∀ t, o = some t → NOK d S P t) : PNM d S (pAdd k w o (pSp q (pHt P) P)) := (h.sp _ (Nat.le_refl _)).add (fun t ht => (g t ht).le (PLE.sp _))
theorem PNM.drop {t : Term} (h : PNM d S P) (g : NOK d S P t) : PNM d S (pDrop t P) := by
  by_cases c : tEff t = true
  · rw [pDrop_1 c]
    exact h.st (fun u hu => by rw [← Option.some.inj hu]; exact g)
  · rw [pDrop_2 c]; exact h
theorem PNM.twice (h : PNM d S P) (g : 0 < pHt P) : PNM d S (pTwice P) := by
  have t := h.top g
  by_cases c : (isNu (pTop P) || isNm (pTop P)) = true
  · rw [pTwice_1 c]
    exact (h.pop.push t).push t
  · rw [pTwice_2 c]
    have s := h.pop.sp (q := qEff) (pHt (pPop P)) (Nat.le_refl _)
    have t2 : NOK d S (pSp qEff (pHt (pPop P)) (pPop P)) (pTop P) := NOK.le (P := pPop P) t (PLE.sp _)
    obtain ⟨u1, u2⟩ := s.put t2
    exact (u1.push u2).push u2
theorem PNM.exch (h : PNM d S P) (g : 1 < pHt P) : PNM d S (pExch P) := by
  have t := h.top (by omega)
  have hp : 0 < pHt (pPop P) := by show 0 < pHt P - 1; omega
  have t1 := h.pop.top hp
  by_cases c : (tEff (pTop P) && tEff (pTop (pPop P))) = true
  · rw [pExch_1 c]
    have s := h.pop.sp (q := qEff) (pHt (pPop P)) (Nat.le_refl _)
    have t2 : NOK d S (pSp qEff (pHt (pPop P)) (pPop P)) (pTop P) := NOK.le (P := pPop P) t (PLE.sp _)
    have t3 := s.top (by rw [pSp_ht]; exact hp)
    exact (s.pop.push t2).push t3
  · rw [pExch_2 c]
    exact (h.pop.pop.push t).push t1
theorem PNM.step {g n : Int32} {c : Bool} (h : PNM d S P) (hg : VSg g.toInt) (hn : ndI g.toInt ≤ (pHt P : Int)) : PNM d S (pStep g n c P) := by
  have cs : isBi g.toInt ∨ g.toInt = 100 ∨ g.toInt = 103 ∨ g.toInt = 105 ∨ g.toInt = 107 ∨ g.toInt = 108 ∨ g.toInt = 111 ∨ g.toInt = 112 ∨ g.toInt = 114 ∨ g.toInt = 115 ∨ g.toInt = 116 ∨ g.toInt = 119 ∨ g.toInt = 122 ∨ g.toInt = 33 ∨ g.toInt = 110 := by
    unfold VSg bareI at hg
    omega
  have one : ndI g.toInt = 1 ∨ ndI g.toInt = 2 → 0 < pHt P := fun z => by omega
  rcases cs with q | q | q | q | q | q | q | q | q | q | q | q | q | q | q
  · have w2 : ndI g.toInt = 2 := by
      unfold ndI
      rw [if_pos (by omega)]
    rw [pStep_b q]
    have hp : 0 < pHt (pPop P) := by show 0 < pHt P - 1; omega
    exact h.pop.pop.push (nok_b (h.pop.top hp) (h.top (by omega)))
  · rw [pStep_100 q]
    rw [q] at hn one
    exact h.twice (one (Or.inl rfl))
  · rw [pStep_103 q]; exact h
  · rw [pStep_105 q]; exact h.push (nok_lf (fun _ => rfl) (fun _ => rfl))
  · rw [pStep_107 q]; exact h.push (nok_lf (fun _ => rfl) (fun _ => rfl))
  · rw [pStep_108 q]; exact h.push (nok_lf (fun _ => rfl) (fun _ => rfl))
  · rw [pStep_111 q]
    rw [q] at one
    exact h.pop.st (fun u hu => by rw [← Option.some.inj hu]; exact h.top (one (Or.inl rfl)))
  · rw [pStep_112 q]
    rw [q] at one
    exact h.pop.drop (h.top (one (Or.inl rfl)))
  · rw [pStep_114 q]
    exact h.st (fun u hu => by simp at hu)
  · rw [pStep_115 q]
    rw [q] at one
    exact h.pop.st (fun u hu => by rw [← Option.some.inj hu]; exact h.top (one (Or.inl rfl)))
  · rw [pStep_116 q]
    rw [q] at one
    exact h.pop.st (fun u hu => by rw [← Option.some.inj hu]; exact h.top (one (Or.inl rfl)))
  · rw [pStep_119 q]
    rw [q] at hn
    have w2 : ndI 119 = 2 := rfl
    exact h.exch (by omega)
  · rw [pStep_122 q]
    rw [q] at one
    have t := h.top (one (Or.inl rfl))
    cases c with
    | true => exact h.pop.tst (fun u hu => by rw [← Option.some.inj hu]; exact t)
    | false => exact h.pop.drop t
  · rw [pStep_33 q]
    rw [q] at one
    exact h.pop.push (h.top (one (Or.inl rfl)))
  · rw [pStep_110 q]
    rw [q] at one
    exact h.pop.push (h.top (one (Or.inl rfl)))
theorem PNM.rpl {k x : Nat} (h : PNM d S P) (g : NOK d S P (tX x)) : PNM d S (pRpl k x P) := by
  have rp : ∀ t, NOK d S P t → NOK d S P (tRp k x t) := fun t ht => by
    obtain ⟨r1, r2⟩ := tRp_nm k x t
    refine ⟨fun i z => ht.1 i (r1 i z), fun y z => ?_⟩
    rcases r2 y z with w | w
    · exact ht.2 y w
    · rw [w]; exact g.2 x (decide_eq_true rfl)
  refine ⟨h.1, fun i hi => ?_, fun t ht => ?_, h.2.2.2⟩
  · show NOKn d S (pSm P) (pNn P) (if k < i ∧ i < pHt P then tRp k x (pKs P i) else pKs P i)
    by_cases q : k < i ∧ i < pHt P
    · rw [if_pos q]; exact rp _ (h.2.1 i hi)
    · rw [if_neg q]; exact h.2.1 i hi
  · have ht : (pTs P).map (tRp k x) = some t := ht
    cases hp : pTs P with
    | none => rw [hp] at ht; simp at ht
    | some u =>
      rw [hp] at ht
      have ht := Option.some.inj ht
      rw [← ht]
      exact rp _ (h.2.2.1 u hp)
/-- a T stands as it is to: it stood so from the begin on, or was set -/
def TST (d S : Nat) (P : PSt) (k : Nat) : Prop := k < d ∨ ∃ j, S ≤ j ∧ j < pNn P ∧ (pSm P j).1 = 1 ∧ (pSm P j).2.1 = (k : Int)
theorem TST.le {Q : PSt} {k : Nat} (h : TST d S P k) (g : PLE P Q) : TST d S Q k := h.imp id (fun ⟨j, j1, j2, j3, j4⟩ => ⟨j, j1, Nat.lt_of_lt_of_le j2 g.1, by rw [g.2.2.2 j j2]; exact j3, by rw [g.2.2.2 j j2]; exact j4⟩)
theorem PNM.hnd {k : Nat} (h : PNM d S P) (hk : k < pHt P) : PNM d S (pHnd k P) ∧ TST d S (pHnd k P) k := by
  by_cases c : pKs P k = .index k
  · rw [pHnd_0 c]
    refine ⟨h, Or.inl ?_⟩
    have q := h.2.1 k hk
    rw [c] at q
    exact q.1 k (decide_eq_true rfl)
  · have fin : ∀ Q : PSt, PNM d S Q → PLE P Q → pHnd k P = pAdd 1 (k : Int) (some (pKs P k)) Q → PNM d S (pHnd k P) ∧ TST d S (pHnd k P) k := fun Q hq le e => by
      rw [e]
      refine ⟨hq.add (fun u hu => by rw [← Option.some.inj hu]; exact (h.2.1 k hk).le le), Or.inr ⟨pNn Q, hq.1, Nat.lt_succ_self _, ?_, ?_⟩⟩
      · show (upT (pSm Q) (pNn Q) (1, (k : Int), some (pKs P k)) (pNn Q)).1 = 1
        rw [upT_s]
      · show (upT (pSm Q) (pNn Q) (1, (k : Int), some (pKs P k)) (pNn Q)).2.1 = (k : Int)
        rw [upT_s]
    by_cases g : pNed k P
    · -- the T itself is put aside: it is one of those of the begin
      have kd : k < d := by
        rcases g with ⟨j, _, j2, j3⟩ | ⟨t, t1, t2⟩
        · exact (h.2.1 j j2).1 k j3
        · exact (h.2.2.1 t t1).1 k t2
      have nk : NOK d S P (.index k) := ⟨fun i z => by
        have z : decide (k = i) = true := z
        rw [← of_decide_eq_true z]; exact kd, fun x z => absurd z (by show ¬ false = true; decide)⟩
      obtain ⟨u1, u2⟩ := h.put nk
      exact fin _ (u1.rpl u2) (PLE.put.tr PLE.rpl) (pHnd_1 c g)
    · exact fin _ h PLE.rf (pHnd_2 c g)
theorem PNM.end1 (h : PNM d S P) : ∀ m, m ≤ pHt P → PNM d S (pEnd1 m P) ∧ ∀ k, k < m → TST d S (pEnd1 m P) k
  | 0, _ => ⟨h, fun k hk => absurd hk (Nat.not_lt_zero k)⟩
  | m + 1, hm => by
    obtain ⟨h1, h2⟩ := PNM.end1 h m (by omega)
    obtain ⟨g1, g2⟩ := h1.hnd (k := m) (by rw [pEnd1_h]; omega)
    refine ⟨g1, fun k hk => ?_⟩
    by_cases q : k = m
    · rw [q]; exact g2
    · exact (h2 k (by omega)).le PLE.hnd
theorem PNM.end_ (h : PNM d S P) : PNM d S (pEnd P) ∧ ∀ k, k < pHt P → TST d S (pEnd P) k := by
  obtain ⟨h1, h2⟩ := h.end1 (pHt P) (Nat.le_refl _)
  refine ⟨?_, fun k hk => (h2 k hk).le PLE.end2⟩
  unfold pEnd
  cases ht : pTs (pEnd1 (pHt P) P) with
  | none => rw [pEnd2_0 ht]; exact h1
  | some t =>
    by_cases c : tEff t = true
    · rw [pEnd2_1 ht c]
      obtain ⟨u1, u2⟩ := h1.put (h1.2.2.1 t ht)
      exact u1.tst (fun u hu => by rw [← Option.some.inj hu]; exact u2)
    · rw [pEnd2_2 ht c]; exact h1
theorem PNM.beg : PNM d (pNn P) (pBeg d P) := by
  refine ⟨Nat.le_refl _, fun i hi => ⟨fun k z => ?_, fun x z => absurd z (by show ¬ false = true; decide)⟩, fun t ht => ?_, fun j t hj jn => ?_⟩
  · have z : decide (i = k) = true := z
    rw [← of_decide_eq_true z]
    exact hi
  · have ht : (none : Option Term) = some t := ht
    simp at ht
  · have jn : j < pNn P := jn
    omega
theorem PNM.run {sg nv : Nat → Int32} {fk : Nat → Bool} {f l : Nat} {dp : Nat → Int} (hT : HTS sg dp f l) (h : PNM d S P) (h0 : (pHt P : Int) = dp f) : ∀ j, f + j ≤ l + 1 → PNM d S (pRun sg nv fk f j P)
  | 0, _ => h
  | j + 1, hj => by
    have q := hT (f + j) (by omega) (by omega)
    have ht := pRun_h (sg := sg) (nv := nv) (fk := fk) hT h0 j (by omega)
    exact (PNM.run hT h h0 j (by omega)).step q.1 (by rw [ht]; exact q.2.1)
/-- a whole block -/
theorem pBlk_N {sg nv : Nat → Int32} {fk : Nat → Bool} {f l : Nat} {dp : Nat → Int} (hT : HTS sg dp f l) (hl : f ≤ l) (hd : (d : Int) = dp f) : PNM d (pNn P) (pBlk sg nv fk f l d P) ∧ (¬ enI (sg l).toInt → ∀ k : Nat, (k : Int) < dp l - ndI (sg l).toInt + gvI (sg l).toInt → TST d (pNn P) (pBlk sg nv fk f l d P) k) := by
  have hr := PNM.run (nv := nv) (fk := fk) hT (PNM.beg (d := d) (P := P)) hd (l + 1 - f) (by omega)
  by_cases c : enI (sg l).toInt
  · rw [pBlk_1 c]
    exact ⟨hr, fun z => absurd c z⟩
  · rw [pBlk_2 c]
    obtain ⟨e1, e2⟩ := hr.end_
    refine ⟨e1, fun _ k hk => e2 k ?_⟩
    have q := hT l hl (Nat.le_refl _)
    have ht := pRun_h (sg := sg) (nv := nv) (fk := fk) hT (P := pBeg d P) hd (l - f) (by omega)
    rw [show f + (l - f) = l by omega] at ht
    have st := pStep_h (g := sg l) (n := nv l) (c := fk l) (P := pRun sg nv fk f (l - f) (pBeg d P)) q.1 (by rw [ht]; exact q.2.1)
    have e : pRun sg nv fk f (l + 1 - f) (pBeg d P) = pStep (sg l) (nv l) (fk l) (pRun sg nv fk f (l - f) (pBeg d P)) := by
      rw [show l + 1 - f = (l - f) + 1 by omega]
      show pStep (sg (f + (l - f))) (nv (f + (l - f))) (fk (f + (l - f))) _ = _
      rw [show f + (l - f) = l by omega]
    rw [e]
    omega
end
theorem PLE.all {sg nv : Nat → Int32} {fk : Nat → Bool} {fi la dp : Nat → Nat} {P : PSt} {b : Nat} : ∀ c, PLE (pAll sg nv fk fi la dp b P) (pAll sg nv fk fi la dp (b + c) P)
  | 0 => PLE.rf
  | c + 1 => (PLE.all c).tr PLE.blk
/-- the names of all blocks -/
def NMB (A : Nat → PSt) (nb : Nat) (db : Nat → Nat) (de : Nat → Int) (en : Nat → Prop) : Prop := ∀ b, b < nb → pNn (A b) ≤ pNn (A (b + 1)) ∧ pNn (A (b + 1)) ≤ pNn (A nb) ∧ (∀ j t, pNn (A b) ≤ j → j < pNn (A (b + 1)) → (pSm (A nb) j).2.2 = some t → NOKn (db b) (pNn (A b)) (pSm (A nb)) j t) ∧ (∀ t, pTs (A (b + 1)) = some t → NOKn (db b) (pNn (A b)) (pSm (A nb)) (pNn (A (b + 1))) t) ∧ (¬ en b → ∀ k : Nat, (k : Int) < de b → k < db b ∨ ∃ j, pNn (A b) ≤ j ∧ j < pNn (A (b + 1)) ∧ (pSm (A nb) j).1 = 1 ∧ (pSm (A nb) j).2.1 = (k : Int))
theorem pAll_N {sg nv : Nat → Int32} {fk : Nat → Bool} {fi la dp : Nat → Nat} {dq : Nat → Int} {P : PSt} {nb : Nat} (h : ∀ b, b < nb → HTS sg dq (fi b) (la b) ∧ fi b ≤ la b ∧ (dp b : Int) = dq (fi b)) : NMB (fun b => pAll sg nv fk fi la dp b P) nb dp (fun b => dq (la b) - ndI (sg (la b)).toInt + gvI (sg (la b)).toInt) (fun b => enI (sg (la b)).toInt) := by
  intro b hb
  obtain ⟨h1, h2, h3_⟩ := h b hb
  obtain ⟨n1, n2⟩ := pBlk_N (d := dp b) (P := pAll sg nv fk fi la dp b P) (nv := nv) (fk := fk) h1 h2 h3_
  have le1 : PLE (pAll sg nv fk fi la dp b P) (pAll sg nv fk fi la dp (b + 1) P) := PLE.all 1
  have le2 : PLE (pAll sg nv fk fi la dp (b + 1) P) (pAll sg nv fk fi la dp nb P) := by
    have := PLE.all (sg := sg) (nv := nv) (fk := fk) (fi := fi) (la := la) (dp := dp) (P := P) (b := b + 1) (nb - (b + 1))
    rw [show b + 1 + (nb - (b + 1)) = nb by omega] at this
    exact this
  have e : pBlk sg nv fk (fi b) (la b) (dp b) (pAll sg nv fk fi la dp b P) = pAll sg nv fk fi la dp (b + 1) P := rfl
  rw [e] at n1 n2
  obtain ⟨m1, m2, m3, m4⟩ := n1
  refine ⟨le1.1, le2.1, fun j t j1 j2 ht => ?_, fun t ht => NOKn.up (m3 t ht) (Nat.le_refl _) (fun j hj => le2.2.2.2 j hj), fun ne k hk => ?_⟩
  · have j2 : j < pNn (pAll sg nv fk fi la dp (b + 1) P) := j2
    have q := le2.2.2.2 j j2
    (try dsimp only at ht)
    rw [q] at ht
    exact NOKn.up (m4 j t j1 j2 ht) (Nat.le_refl _) (fun i hi => le2.2.2.2 i (by omega))
  · rcases n2 ne k hk with z | ⟨j, j1, j2, j3, j4⟩
    · exact Or.inl z
    · have q := le2.2.2.2 j j2
      exact Or.inr ⟨j, j1, j2, by (try dsimp only); rw [q]; exact j3, by (try dsimp only); rw [q]; exact j4⟩
