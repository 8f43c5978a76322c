/-- a loop: what holds at its head, by a number that falls -/
theorem loop_rule {p : Program} {l : Launch} {e : Env} {R : Room} {s : State} {m : MethodId} {args : Array Value} {below : List Frame} {meth : Method} {c : Code} {cells slots : Nat} {Q : State → Prop} {pc : Nat} {st : List Value} {I : Nat → Heap → List Loc → Array Slot → Prop} (step : ∀ (n : Nat) (H : Heap) (locs : List Loc) (ls : Array Slot), I n H locs ls → (∀ (n' : Nat), n' < n → ∀ (H' : Heap) (locs' : List Loc) (ls' : Array Slot), I n' H' locs' ls' → W p l e R s m args below meth c H' locs' cells slots Q (F0 m pc ls' st)) → W p l e R s m args below meth c H locs cells slots Q (F0 m pc ls st)) : ∀ (n : Nat) (H : Heap) (locs : List Loc) (ls : Array Slot), I n H locs ls → W p l e R s m args below meth c H locs cells slots Q (F0 m pc ls st) := by
  intro n
  induction n using Nat.strongRecOn with
  | _ n ih => exact fun H locs ls h => step n H locs ls h (fun n' hn' H' locs' ls' h' => ih n' hn' H' locs' ls' h')
/-- all elements of a row of ints lie between two numbers -/
def Rng (f : Nat → Int32) (n : Nat) (lo hi : Int) : Prop := ∀ j, j < n → lo ≤ (f j).toInt ∧ (f j).toInt ≤ hi
theorem Rng.get {f : Nat → Int32} {n : Nat} {lo hi : Int} (h : Rng f n lo hi) {i : Int32} (hi2 : vp_in i n) : lo ≤ (f i.toNatClampNeg).toInt ∧ (f i.toNatClampNeg).toInt ≤ hi := h _ (Nat.lt_of_not_le (fun q => hi2 (Or.inr q)))
theorem Rng.set {f : Nat → Int32} {n : Nat} {lo hi : Int} (h : Rng f n lo hi) {k : Nat} {x : Int32} (hx : lo ≤ x.toInt ∧ x.toInt ≤ hi) : Rng (upd f k x) n lo hi := by
  intro j hj
  by_cases e : j = k
  · rw [e, pk_us]; exact hx
  · rw [pk_un e]; exact h j hj
theorem lk_none {d x : Int} : ∀ {ps : List (Int × Int)}, (∀ a, a ∈ ps → x ≠ a.1) → Op.lookupswitch.offset ps d x = d := by
  intro ps
  induction ps with
  | nil => intro _; rfl
  | cons a r ih =>
    intro h
    have h1 := h a List.mem_cons_self
    obtain ⟨a1, a2⟩ := a
    rw [Op.lookupswitch.offset_cons, if_neg (fun e => h1 (by first | exact e | exact e.symm))]
    exact ih (fun b hb => h b (List.mem_cons_of_mem _ hb))
/-- bit j of a long -/
def tb (x : Int64) (j : Nat) : Bool := x.toBitVec.getLsbD j
theorem tb_sh {x : Int64} {i : Int32} (h0 : 0 ≤ i.toInt) (h1 : i.toInt < 64) : ((x.toUInt64 >>> (i.toInt64.toUInt64 &&& Int64.toUInt64 63)).toInt64 &&& 1) = 0 ↔ tb x i.toInt.toNat = false := by
  obtain ⟨j, hj⟩ : ∃ j : Nat, j = i.toInt.toNat := ⟨_, rfl⟩
  have e : i = nI j := by
    rw [fa_eq, nI_toInt (by omega)]; omega
  rw [← hj, e]
  exact ts_bit (by omega) (by rw [wb_cu j (by omega)]; exact u_tn (by omega))
theorem lg_cmp_ne0 {x y : Int64} {v : Int32} (e : v = lg_cmp x y) : v.toInt = 0 ↔ x = y := by
  have k0 : (0 : Int32).toInt = 0 := by decide
  rw [← lg_cmp_eq, ← e, fa_eq, k0]
/-- a tableswitch: inside its bounds or outside -/
theorem lv_tab {p : Program} {l : Launch} {e : Env} {R : Room} {s : State} {m : MethodId} {args : Array Value} {below : List Frame} {meth : Method} {c : Code} {H : Heap} {locs : List Loc} {cells slots : Nat} {Q : State → Prop} {pc : Nat} {ls : Array Slot} {rest : List Value} {cc : ByteArray} (hexec : p.tables.exec = Jvm.exec) (hb : c.code = cc) {dflt lo hi : Int} {offs : Array Int} {len : Nat} {x : Int32} {tgt : Nat} (hdg : decode cc pc = .ok (.tableswitch dflt lo hi offs, len))
    (h : ((x.toInt < lo ∨ hi < x.toInt) ∧ (pc : Int) + dflt = (tgt : Int)) ∨ ∃ off : Int, ¬ x.toInt < lo ∧ ¬ hi < x.toInt ∧ offs[(x.toInt - lo).toNat]? = some off ∧ (pc : Int) + off = (tgt : Int))
    (k : W p l e R s m args below meth c H locs cells slots Q (F0 m tgt ls rest)) : W p l e R s m args below meth c H locs cells slots Q (F0 m pc ls (.int x :: rest)) := by
  rcases h with ⟨h, ht⟩ | ⟨off, h1, h2, ho, ht⟩
  · exact lv_tableOut hexec hb hdg h ht k
  · exact lv_tableIn hexec hb hdg h1 h2 ho ht k
theorem clamp_int {x : Int32} (h : 0 ≤ x.toInt) : (x.toNatClampNeg : Int) = x.toInt := by
  show ((x.toInt.toNat : Nat) : Int) = x.toInt
  omega
theorem all_step {P : Nat → Prop} {x v : Int32} (h : ∀ j : Nat, (j : Int) < x.toInt → P j) (hv : v.toInt = x.toInt + 1) (h0 : 0 ≤ x.toInt) (hx : P x.toNatClampNeg) : ∀ j : Nat, (j : Int) < v.toInt → P j := by
  intro j hj
  by_cases e : (j : Int) < x.toInt
  · exact h j e
  · have h1 := clamp_int h0
    rw [show j = x.toNatClampNeg by omega]
    exact hx
theorem all_none {P : Nat → Prop} {x : Int32} (h : x.toInt = 0) : ∀ j : Nat, (j : Int) < x.toInt → P j := fun j hj => absurd hj (by omega)
/-- g and z go to instructions there are; the handlers lie inside -/
abbrev pG (fs fn : Nat → Int32) (z : Int32) (j : Nat) : Prop := (fs j).toInt = 103 ∨ (fs j).toInt = 122 → (fn j).toInt < z.toInt
abbrev pH (ff ft fg : Nat → Int32) (z : Int32) (j : Nat) : Prop := (ff j).toInt < (ft j).toInt ∧ (ft j).toInt ≤ z.toInt ∧ (fg j).toInt < z.toInt
/-- what an instruction of this sign pops, pushes -/
def sN (c : Int32) : Int32 := if c.toInt = 115 ∨ c.toInt = 33 ∨ c.toInt = 110 ∨ c.toInt = 100 ∨ c.toInt = 112 ∨ c.toInt = 111 ∨ c.toInt = 122 ∨ c.toInt = 116 then 1 else if c.toInt = 119 ∨ c.toInt = 43 ∨ c.toInt = 45 ∨ c.toInt = 42 ∨ c.toInt = 47 ∨ c.toInt = 37 ∨ c.toInt = 60 ∨ c.toInt = 61 then 2 else 0
def sG (c : Int32) : Int32 := if c.toInt = 107 ∨ c.toInt = 108 ∨ c.toInt = 105 ∨ c.toInt = 33 ∨ c.toInt = 110 ∨ c.toInt = 43 ∨ c.toInt = 45 ∨ c.toInt = 42 ∨ c.toInt = 47 ∨ c.toInt = 37 ∨ c.toInt = 60 ∨ c.toInt = 61 then 1 else if c.toInt = 100 ∨ c.toInt = 119 then 2 else 0
theorem sN_rng (c : Int32) : 0 ≤ (sN c).toInt ∧ (sN c).toInt ≤ 2 := by unfold sN; split <;> (try split) <;> decide
theorem sG_rng (c : Int32) : 0 ≤ (sG c).toInt ∧ (sG c).toInt ≤ 2 := by unfold sG; split <;> (try split) <;> decide
/-- how many are on the stack behind an instruction -/
def dB (fs fd : Nat → Int32) (i : Int32) : Int32 := fd i.toNatClampNeg - sN (fs i.toNatClampNeg) + sG (fs i.toNatClampNeg)
/-- the first handler that holds an instruction, none: -1 -/
def pHan (ff ft : Nat → Int32) (i : Int32) (h : Nat) : Bool := decide ((ff h).toInt ≤ i.toInt ∧ i.toInt < (ft h).toInt)
def hF (ff ft : Nat → Int32) (n : Nat) (i : Int32) : Int32 := if fa_first (pHan ff ft i) n < n then nI (fa_first (pHan ff ft i) n) else -1
theorem hF_at {ff ft : Nat → Int32} {n : Nat} {i x : Int32} (h0 : 0 ≤ x.toInt) (h1 : x.toInt < n) (hn : ∀ j : Nat, (j : Int) < x.toInt → pHan ff ft i j = false) (hy : pHan ff ft i x.toNatClampNeg = true) : x = hF ff ft n i := by
  have hc := clamp_int h0
  have h2 := fa_first_le (pHan ff ft i) n
  have e : fa_first (pHan ff ft i) n = x.toNatClampNeg := by
    rcases Nat.lt_trichotomy (fa_first (pHan ff ft i) n) x.toNatClampNeg with q | q | q
    · have a := hn (fa_first (pHan ff ft i) n) (by omega)
      rw [fa_first_yes (pHan ff ft i) n (by omega)] at a
      cases a
    · exact q
    · have a := fa_first_no _ _ _ q
      rw [hy] at a
      cases a
  unfold hF
  rw [e, if_pos (by omega), fa_eq, nI_toInt (by have := (fb_rng x).2; omega)]
  omega
theorem hF_none {ff ft : Nat → Int32} {n : Nat} {i : Int32} (hn : ∀ j : Nat, j < n → pHan ff ft i j = false) : (-1 : Int32) = hF ff ft n i := by
  unfold hF
  rw [if_neg]
  intro q
  have a := hn _ q
  rw [fa_first_yes _ _ q] at a
  cases a
/-- an instruction is come to with so many on the stack -/
def aD (d : Nat → Int32) (k h : Int32) : Nat → Int32 := if (d k.toNatClampNeg).toInt = -1 then upd d k.toNatClampNeg h else d
theorem aD_rng {d : Nat → Int32} {k h : Int32} (hd : Rng d 40 (-1) 6) (hh : -1 ≤ h.toInt ∧ h.toInt ≤ 6) : Rng (aD d k h) 40 (-1) 6 := by
  unfold aD; split
  · exact Rng.set hd hh
  · exact hd
/-- going through one instruction: the handler's part, the jump's, the next one's, all; the answer and who is come to behind it -/
def goC (fs ff ft fg : Nat → Int32) (zh : Int32) (d : Nat → Int32) (i : Int32) : Int32 × (Nat → Int32) :=
  if ((fs i.toNatClampNeg).toInt = 47 ∨ (fs i.toNatClampNeg).toInt = 37 ∨ (fs i.toNatClampNeg).toInt = 116) ∧ (hF ff ft zh.toInt.toNat i).toInt ≠ -1 then
    (if (aD d (fg (hF ff ft zh.toInt.toNat i).toNatClampNeg) 1 (fg (hF ff ft zh.toInt.toNat i).toNatClampNeg).toNatClampNeg).toInt = 1 then 0 else -6, aD d (fg (hF ff ft zh.toInt.toNat i).toNatClampNeg) 1)
  else (0, d)
def goB (fs fn ff ft fg : Nat → Int32) (zh : Int32) (d : Nat → Int32) (i b : Int32) : Int32 × (Nat → Int32) :=
  if (fs i.toNatClampNeg).toInt = 103 ∨ (fs i.toNatClampNeg).toInt = 122 then
    (if (aD d (fn i.toNatClampNeg) b (fn i.toNatClampNeg).toNatClampNeg).toInt = b.toInt then goC fs ff ft fg zh (aD d (fn i.toNatClampNeg) b) i else (-6, aD d (fn i.toNatClampNeg) b))
  else goC fs ff ft fg zh d i
def goA (fs fn ff ft fg : Nat → Int32) (zs zh : Int32) (d : Nat → Int32) (i b : Int32) : Int32 × (Nat → Int32) :=
  if (fs i.toNatClampNeg).toInt ≠ 103 ∧ (fs i.toNatClampNeg).toInt ≠ 116 ∧ (fs i.toNatClampNeg).toInt ≠ 114 then
    (if zs.toInt ≤ i.toInt + 1 then (-3, d) else if (aD d (i + 1) b (i + 1).toNatClampNeg).toInt = b.toInt then goB fs fn ff ft fg zh (aD d (i + 1) b) i b else (-6, aD d (i + 1) b))
  else goB fs fn ff ft fg zh d i b
def goS (fs fn fd ff ft fg : Nat → Int32) (zs zh i : Int32) : Int32 × (Nat → Int32) :=
  if (fd i.toNatClampNeg).toInt < (sN (fs i.toNatClampNeg)).toInt then (-4, fd) else if 6 < (dB fs fd i).toInt then (-5, fd) else goA fs fn ff ft fg zs zh fd i (dB fs fd i)
section GOS
variable {fs fn fd ff ft fg d : Nat → Int32} {zs zh i b : Int32}
theorem goS_a (h : (fd i.toNatClampNeg).toInt < (sN (fs i.toNatClampNeg)).toInt) : goS fs fn fd ff ft fg zs zh i = (-4, fd) := if_pos h
theorem goS_b (h : ¬ (fd i.toNatClampNeg).toInt < (sN (fs i.toNatClampNeg)).toInt) (h2 : 6 < (dB fs fd i).toInt) : goS fs fn fd ff ft fg zs zh i = (-5, fd) := by unfold goS; rw [if_neg h, if_pos h2]
theorem goS_c (h : ¬ (fd i.toNatClampNeg).toInt < (sN (fs i.toNatClampNeg)).toInt) (h2 : ¬ 6 < (dB fs fd i).toInt) : goS fs fn fd ff ft fg zs zh i = goA fs fn ff ft fg zs zh fd i (dB fs fd i) := by unfold goS; rw [if_neg h, if_neg h2]
theorem goA_a (h : ¬ ((fs i.toNatClampNeg).toInt ≠ 103 ∧ (fs i.toNatClampNeg).toInt ≠ 116 ∧ (fs i.toNatClampNeg).toInt ≠ 114)) : goA fs fn ff ft fg zs zh d i b = goB fs fn ff ft fg zh d i b := if_neg h
theorem goA_b (h : (fs i.toNatClampNeg).toInt ≠ 103 ∧ (fs i.toNatClampNeg).toInt ≠ 116 ∧ (fs i.toNatClampNeg).toInt ≠ 114) (h2 : zs.toInt ≤ i.toInt + 1) : goA fs fn ff ft fg zs zh d i b = (-3, d) := by unfold goA; rw [if_pos h, if_pos h2]
theorem goA_c (h : (fs i.toNatClampNeg).toInt ≠ 103 ∧ (fs i.toNatClampNeg).toInt ≠ 116 ∧ (fs i.toNatClampNeg).toInt ≠ 114) (h2 : ¬ zs.toInt ≤ i.toInt + 1) (h3 : (aD d (i + 1) b (i + 1).toNatClampNeg).toInt = b.toInt) : goA fs fn ff ft fg zs zh d i b = goB fs fn ff ft fg zh (aD d (i + 1) b) i b := by unfold goA; rw [if_pos h, if_neg h2, if_pos h3]
theorem goA_d (h : (fs i.toNatClampNeg).toInt ≠ 103 ∧ (fs i.toNatClampNeg).toInt ≠ 116 ∧ (fs i.toNatClampNeg).toInt ≠ 114) (h2 : ¬ zs.toInt ≤ i.toInt + 1) (h3 : ¬ (aD d (i + 1) b (i + 1).toNatClampNeg).toInt = b.toInt) : goA fs fn ff ft fg zs zh d i b = (-6, aD d (i + 1) b) := by unfold goA; rw [if_pos h, if_neg h2, if_neg h3]
theorem goB_a (h : ¬ ((fs i.toNatClampNeg).toInt = 103 ∨ (fs i.toNatClampNeg).toInt = 122)) : goB fs fn ff ft fg zh d i b = goC fs ff ft fg zh d i := if_neg h
theorem goB_b (h : (fs i.toNatClampNeg).toInt = 103 ∨ (fs i.toNatClampNeg).toInt = 122) (h2 : (aD d (fn i.toNatClampNeg) b (fn i.toNatClampNeg).toNatClampNeg).toInt = b.toInt) : goB fs fn ff ft fg zh d i b = goC fs ff ft fg zh (aD d (fn i.toNatClampNeg) b) i := by unfold goB; rw [if_pos h, if_pos h2]
theorem goB_c (h : (fs i.toNatClampNeg).toInt = 103 ∨ (fs i.toNatClampNeg).toInt = 122) (h2 : ¬ (aD d (fn i.toNatClampNeg) b (fn i.toNatClampNeg).toNatClampNeg).toInt = b.toInt) : goB fs fn ff ft fg zh d i b = (-6, aD d (fn i.toNatClampNeg) b) := by unfold goB; rw [if_pos h, if_neg h2]
theorem goC_a (h : ¬ (((fs i.toNatClampNeg).toInt = 47 ∨ (fs i.toNatClampNeg).toInt = 37 ∨ (fs i.toNatClampNeg).toInt = 116) ∧ (hF ff ft zh.toInt.toNat i).toInt ≠ -1)) : goC fs ff ft fg zh d i = (0, d) := if_neg h
theorem goC_b (h : ((fs i.toNatClampNeg).toInt = 47 ∨ (fs i.toNatClampNeg).toInt = 37 ∨ (fs i.toNatClampNeg).toInt = 116) ∧ (hF ff ft zh.toInt.toNat i).toInt ≠ -1) (h2 : (aD d (fg (hF ff ft zh.toInt.toNat i).toNatClampNeg) 1 (fg (hF ff ft zh.toInt.toNat i).toNatClampNeg).toNatClampNeg).toInt = 1) : goC fs ff ft fg zh d i = (0, aD d (fg (hF ff ft zh.toInt.toNat i).toNatClampNeg) 1) := by unfold goC; rw [if_pos h, if_pos h2]
theorem goC_c (h : ((fs i.toNatClampNeg).toInt = 47 ∨ (fs i.toNatClampNeg).toInt = 37 ∨ (fs i.toNatClampNeg).toInt = 116) ∧ (hF ff ft zh.toInt.toNat i).toInt ≠ -1) (h2 : ¬ (aD d (fg (hF ff ft zh.toInt.toNat i).toNatClampNeg) 1 (fg (hF ff ft zh.toInt.toNat i).toNatClampNeg).toNatClampNeg).toInt = 1) : goC fs ff ft fg zh d i = (-6, aD d (fg (hF ff ft zh.toInt.toNat i).toNatClampNeg) 1) := by unfold goC; rw [if_pos h, if_neg h2]
end GOS

abbrev gX3 (cI : ClassId) (o : Nat) (a : Nat → Nat) (s_size : Int32) (s_handlers : Int32) (f_sign : Nat → Int32) (f_number : Nat → Int32) (f_depth : Nat → Int32) (f_from : Nat → Int32) (f_to : Nat → Int32) (f_goal : Nat → Int32) : va_W := [(o, .inr (3, [.int s_size, .int s_handlers, .ref (a 2), .ref (a 3), .ref (a 4), .ref (a 5), .ref (a 6), .ref (a 7)])), (a 2, .inl (cI, 40, .inl f_sign)), (a 3, .inl (cI, 40, .inl f_number)), (a 4, .inl (cI, 40, .inl f_depth)), (a 5, .inl (cI, 3, .inl f_from)), (a 6, .inl (cI, 3, .inl f_to)), (a 7, .inl (cI, 3, .inl f_goal))]
def us_X11_isBinary : List Cond := .code yX11_isBinary cX11_isBinary 1 (some .boolean) :: []
set_option maxHeartbeats 8000000 in
set_option maxRecDepth 100000 in
/-- isBinary -/
theorem c_X11_isBinary (l : Launch) (dC : Nat → ClassId) (dI : Nat → Nat → Nat) (sz : Nat) (i : Int32) : Met l yX11_isBinary us_X11_isBinary ({ frames := 0, cells := 0, slots := 0, locals := 0 }) (va_Pc [.int i] (fun U => U.heap.size = sz ∧ va_P (dC, dI) vwCl (([] : va_W)) U.heap ∧ va_K (dC, dI) vwCl [] U ∧ va_D (fun _ => True) (([] : va_W)))) (va_Qi (fun (r : Int32) (u : Unit) => (r.toInt = 0 ∨ r.toInt = 1) ∧ (r.toInt = 1 ↔ (i.toInt = 43 ∨ i.toInt = 45 ∨ i.toInt = 42 ∨ i.toInt = 47 ∨ i.toInt = 37 ∨ i.toInt = 60 ∨ i.toInt = 61))) (fun (u : Unit) (t : State) => va_P (dC, dI) vwCl (([] : va_W)) t.heap ∧ va_D (va_A (([] : va_W)) sz) (([] : va_W))) (va_A (([] : va_W)) sz)) 0 0 (va_A (([] : va_W)) sz) := by
  refine Met.ofW (cc := cX11_isBinary) (maxL := 1) (ret := (some .boolean)) (by decide) rfl ?_
  intro p e s m args below meth c s₁ B hml hv
  obtain ⟨rfl, hsz, hP, hK, hD0⟩ := hv
  have hx := B.exec
  have hb := B.bytes
  have hr := B.returns
  have hts := atoms_spec (ws := us_X11_isBinary) B.pre
  have hown : s.vm.findClass RX11 = some m.cls := findClass_of_methodNamed B.named
  have hlocks := B.notSynchronized
  subst hsz
  have hD := hD0.self (sz := s.heap.size)
  generalize hAe : va_A (([] : va_W)) s.heap.size = A at hD ⊢
  have hA : ∀ q : Nat, s.heap.size ≤ q → A q := fun q h => by rw [← hAe]; exact Or.inr h
  clear hAe hD0
  have hS : va_S A s.heap s.heap [] := va_S.rf
  have hP : va_P (dC, dI) vwCl (([] : va_W)) s.heap := hP
  have hl := lv_entry ([.int i]) (n := 1) (Nat.le_of_ble_eq_true rfl)
  rw [lg_entry_eq]
  generalize (lg_sl ([.int i]) ++ List.replicate (1 - (lg_sl ([.int i])).length) Slot.unset).toArray = ls at hl ⊢
  have hl : lv_has ls 1 [(0, .int i)] := hl
  have k_0 : (0 : Int32).toInt = 0 := by decide
  have k_1 : (1 : Int32).toInt = 1 := by decide
  refine lv_iload_n hx hb dX11_isBinary_0 rfl (lv_at hl 0 rfl) ?_
  by_cases h_1_0 : i.toInt = 37 ∨ i.toInt = 42 ∨ i.toInt = 43 ∨ i.toInt = 45 ∨ i.toInt = 47 ∨ i.toInt = 60 ∨ i.toInt = 61
  · refine lv_tab (tgt := 116) hx hb dX11_isBinary_1 (Or.inr ⟨115, by omega, by omega, by rcases h_1_0 with h_1_0 | h_1_0 | h_1_0 | h_1_0 | h_1_0 | h_1_0 | h_1_0 <;> (rw [h_1_0]; decide), by decide⟩) ?_
    refine lv_iconst (v := 1) hx hb dX11_isBinary_116 (by decide) ?_
    have hP9 := hP
    have hD9 := hD
    exact W.zret (v := 1) hx hb hr rfl (fun t ht hW => ⟨⟨1, (), rfl, (by (try dsimp only); omega), ⟨by rw [ht]; exact hP9, hD9⟩⟩, hS.F ht⟩) hS.2.2 dX11_isBinary_117
  refine lv_tab (tgt := 118) hx hb dX11_isBinary_1 (by rcases (show (i.toInt < 37 ∨ 61 < i.toInt ∨ i.toInt = 38 ∨ i.toInt = 39 ∨ i.toInt = 40 ∨ i.toInt = 41 ∨ i.toInt = 44 ∨ i.toInt = 46 ∨ i.toInt = 48 ∨ i.toInt = 49 ∨ i.toInt = 50 ∨ i.toInt = 51 ∨ i.toInt = 52 ∨ i.toInt = 53 ∨ i.toInt = 54 ∨ i.toInt = 55 ∨ i.toInt = 56 ∨ i.toInt = 57 ∨ i.toInt = 58 ∨ i.toInt = 59) by omega) with h | h | h | h | h | h | h | h | h | h | h | h | h | h | h | h | h | h | h | h; exact Or.inl ⟨Or.inl h, by decide⟩; exact Or.inl ⟨Or.inr h, by decide⟩; all_goals exact Or.inr ⟨117, by omega, by omega, by rw [h]; decide, by decide⟩) ?_
  refine lv_iconst (v := 0) hx hb dX11_isBinary_118 (by decide) ?_
  have hP9 := hP
  have hD9 := hD
  exact W.zret (v := 0) hx hb hr rfl (fun t ht hW => ⟨⟨0, (), rfl, (by (try dsimp only); omega), ⟨by rw [ht]; exact hP9, hD9⟩⟩, hS.F ht⟩) hS.2.2 dX11_isBinary_119

def us_X3_goesElsewhere : List Cond := .code yX3_goesElsewhere cX3_goesElsewhere 2 (some .boolean) :: ([.fieldLink RX3 9 "CodeLifter$Listing" "sign" "[I"] ++ wsX30)
theorem ui_X3_goesElsewhere_X3 : ∀ w ∈ wsX30, w ∈ us_X3_goesElsewhere := fun _ h => List.mem_cons_of_mem _ (List.mem_append_right _ h)
set_option maxHeartbeats 8000000 in
set_option maxRecDepth 100000 in
/-- goesElsewhere -/
theorem c_X3_goesElsewhere (l : Launch) (dC : Nat → ClassId) (dI : Nat → Nat → Nat) (cI : ClassId) (sz : Nat) (h0 : Nat) (a : Nat → Nat) (zs : Int32) (zh : Int32) (fs : Nat → Int32) (fn : Nat → Int32) (fd : Nat → Int32) (ff : Nat → Int32) (ft : Nat → Int32) (fg : Nat → Int32) (i : Int32) (hi : 0 ≤ i.toInt ∧ i.toInt < 40) : Met l yX3_goesElsewhere us_X3_goesElsewhere ({ frames := 0, cells := 0, slots := 0, locals := 0 }) (va_Pc [.ref h0, .int i] (fun U => U.heap.size = sz ∧ va_P (dC, dI) vwCl ((gX3 cI h0 a zs zh fs fn fd ff ft fg)) U.heap ∧ va_K (dC, dI) vwCl [(cI, .int)] U ∧ va_D (fun _ => True) ((gX3 cI h0 a zs zh fs fn fd ff ft fg)))) (va_Qi (fun (r : Int32) (u : Unit) => (r.toInt = 0 ∨ r.toInt = 1) ∧ (r.toInt = 1 ↔ (fs i.toNatClampNeg).toInt = 103 ∨ (fs i.toNatClampNeg).toInt = 122)) (fun (u : Unit) (t : State) => va_P (dC, dI) vwCl ((gX3 cI h0 a zs zh fs fn fd ff ft fg)) t.heap ∧ va_D (va_A ((gX3 cI h0 a zs zh fs fn fd ff ft fg)) sz) ((gX3 cI h0 a zs zh fs fn fd ff ft fg))) (va_A ((gX3 cI h0 a zs zh fs fn fd ff ft fg)) sz)) 0 0 (va_A ((gX3 cI h0 a zs zh fs fn fd ff ft fg)) sz) := by
  refine Met.ofW (cc := cX3_goesElsewhere) (maxL := 2) (ret := (some .boolean)) (by decide) rfl ?_
  intro p e s m args below meth c s₁ B hml hv
  obtain ⟨rfl, hsz, hP, hK, hD0⟩ := hv
  have hx := B.exec
  have hb := B.bytes
  have hr := B.returns
  have hts := atoms_spec (ws := us_X3_goesElsewhere) B.pre
  have hown : s.vm.findClass RX3 = some m.cls := findClass_of_methodNamed B.named
  have hlocks := B.notSynchronized
  subst hsz
  have hD := hD0.self (sz := s.heap.size)
  generalize hAe : va_A ((gX3 cI h0 a zs zh fs fn fd ff ft fg)) s.heap.size = A at hD ⊢
  have hA : ∀ q : Nat, s.heap.size ≤ q → A q := fun q h => by rw [← hAe]; exact Or.inr h
  clear hAe hD0
  have hS : va_S A s.heap s.heap [] := va_S.rf
  have hP : va_P (dC, dI) vwCl ((gX3 cI h0 a zs zh fs fn fd ff ft fg)) s.heap := hP
  have hl := lv_entry ([.ref h0, .int i]) (n := 2) (Nat.le_of_ble_eq_true rfl)
  rw [lg_entry_eq]
  generalize (lg_sl ([.ref h0, .int i]) ++ List.replicate (2 - (lg_sl ([.ref h0, .int i])).length) Slot.unset).toArray = ls at hl ⊢
  have hl : lv_has ls 2 [(0, .ref h0), (1, .int i)] := hl
  have k_0 : (0 : Int32).toInt = 0 := by decide
  have k_1 : (1 : Int32).toInt = 1 := by decide
  have k_103 : (103 : Int32).toInt = 103 := by decide
  have k_122 : (122 : Int32).toInt = 122 := by decide
  refine lv_aload_n hx hb dX3_goesElsewhere_0 rfl (lv_at hl 0 rfl) ?_
  refine va_get (D := (dC, dI)) (ci := 3) (v := .ref (a 2)) (C := RX3) (T := TX3) (N := 8) hx hb hts ui_X3_goesElsewhere_X3 hown hK hP 0 rfl rfl 2 (by decide) (hts (.fieldLink RX3 9 "CodeLifter$Listing" "sign" "[I") (by decide +kernel)) (fun _ h9 => h9) rfl dX3_goesElsewhere_1 ?_
  refine lv_iload_n hx hb dX3_goesElsewhere_4 rfl (lv_at hl 1 rfl) ?_
  have hi_1 : vp_in i 40 := vp_in_iff.mpr ⟨by omega, by omega⟩
  refine va_iald hx hb hK hP 1 0 rfl rfl hi_1 dX3_goesElsewhere_5 ?_
  refine lv_topi (fun v_2 e_2 => ?_)
  have q_2 : v_2.toInt = (fs (Int32.toNatClampNeg i)).toInt := by rw [e_2]
  refine lv_bipush (v := 103) hx hb dX3_goesElsewhere_6 (by decide) ?_
  refine lv_icmp_eq (tgt := 22) hx hb dX3_goesElsewhere_8 (by decide) (fun c_3 => ?_) (fun c_3 => ?_)
  · rw [fa_eq, k_103] at c_3
    refine lv_iconst (v := 1) hx hb dX3_goesElsewhere_22 (by decide) ?_
    refine lv_goto (tgt := 27) hx hb dX3_goesElsewhere_23 (by decide) ?_
    have hP9 := hP
    have hD9 := hD
    exact W.zret (v := 1) hx hb hr rfl (fun t ht hW => ⟨⟨1, (), rfl, (by (try dsimp only); omega), ⟨by rw [ht]; exact hP9, hD9⟩⟩, hS.F ht⟩) hS.2.2 dX3_goesElsewhere_27
  · rw [fa_eq, k_103] at c_3
    refine lv_aload_n hx hb dX3_goesElsewhere_11 rfl (lv_at hl 0 rfl) ?_
    refine va_get (D := (dC, dI)) (ci := 3) (v := .ref (a 2)) (C := RX3) (T := TX3) (N := 8) hx hb hts ui_X3_goesElsewhere_X3 hown hK hP 0 rfl rfl 2 (by decide) (hts (.fieldLink RX3 9 "CodeLifter$Listing" "sign" "[I") (by decide +kernel)) (fun _ h9 => h9) rfl dX3_goesElsewhere_12 ?_
    refine lv_iload_n hx hb dX3_goesElsewhere_15 rfl (lv_at hl 1 rfl) ?_
    have hi_4 : vp_in i 40 := vp_in_iff.mpr ⟨by omega, by omega⟩
    refine va_iald hx hb hK hP 1 0 rfl rfl hi_4 dX3_goesElsewhere_16 ?_
    refine lv_topi (fun v_5 e_5 => ?_)
    have q_5 : v_5.toInt = (fs (Int32.toNatClampNeg i)).toInt := by rw [e_5]
    refine lv_bipush (v := 122) hx hb dX3_goesElsewhere_17 (by decide) ?_
    refine lv_icmp_ne (tgt := 26) hx hb dX3_goesElsewhere_19 (by decide) (fun c_6 => ?_) (fun c_6 => ?_)
    · rw [fa_eq, k_122] at c_6
      refine lv_iconst (v := 0) hx hb dX3_goesElsewhere_26 (by decide) ?_
      have hP9 := hP
      have hD9 := hD
      exact W.zret (v := 0) hx hb hr rfl (fun t ht hW => ⟨⟨0, (), rfl, (by (try dsimp only); omega), ⟨by rw [ht]; exact hP9, hD9⟩⟩, hS.F ht⟩) hS.2.2 dX3_goesElsewhere_27
    · rw [fa_eq, k_122] at c_6
      refine lv_iconst (v := 1) hx hb dX3_goesElsewhere_22 (by decide) ?_
      refine lv_goto (tgt := 27) hx hb dX3_goesElsewhere_23 (by decide) ?_
      have hP9 := hP
      have hD9 := hD
      exact W.zret (v := 1) hx hb hr rfl (fun t ht hW => ⟨⟨1, (), rfl, (by (try dsimp only); omega), ⟨by rw [ht]; exact hP9, hD9⟩⟩, hS.F ht⟩) hS.2.2 dX3_goesElsewhere_27

def us_X3_ends : List Cond := .code yX3_ends cX3_ends 2 (some .boolean) :: ([.fieldLink RX3 9 "CodeLifter$Listing" "sign" "[I"] ++ wsX30)
theorem ui_X3_ends_X3 : ∀ w ∈ wsX30, w ∈ us_X3_ends := fun _ h => List.mem_cons_of_mem _ (List.mem_append_right _ h)
set_option maxHeartbeats 8000000 in
set_option maxRecDepth 100000 in
/-- ends -/
theorem c_X3_ends (l : Launch) (dC : Nat → ClassId) (dI : Nat → Nat → Nat) (cI : ClassId) (sz : Nat) (h0 : Nat) (a : Nat → Nat) (zs : Int32) (zh : Int32) (fs : Nat → Int32) (fn : Nat → Int32) (fd : Nat → Int32) (ff : Nat → Int32) (ft : Nat → Int32) (fg : Nat → Int32) (i : Int32) (hi : 0 ≤ i.toInt ∧ i.toInt < 40) : Met l yX3_ends us_X3_ends ({ frames := 0, cells := 0, slots := 0, locals := 0 }) (va_Pc [.ref h0, .int i] (fun U => U.heap.size = sz ∧ va_P (dC, dI) vwCl ((gX3 cI h0 a zs zh fs fn fd ff ft fg)) U.heap ∧ va_K (dC, dI) vwCl [(cI, .int)] U ∧ va_D (fun _ => True) ((gX3 cI h0 a zs zh fs fn fd ff ft fg)))) (va_Qi (fun (r : Int32) (u : Unit) => (r.toInt = 0 ∨ r.toInt = 1) ∧ (r.toInt = 1 ↔ (fs i.toNatClampNeg).toInt = 116 ∨ (fs i.toNatClampNeg).toInt = 114)) (fun (u : Unit) (t : State) => va_P (dC, dI) vwCl ((gX3 cI h0 a zs zh fs fn fd ff ft fg)) t.heap ∧ va_D (va_A ((gX3 cI h0 a zs zh fs fn fd ff ft fg)) sz) ((gX3 cI h0 a zs zh fs fn fd ff ft fg))) (va_A ((gX3 cI h0 a zs zh fs fn fd ff ft fg)) sz)) 0 0 (va_A ((gX3 cI h0 a zs zh fs fn fd ff ft fg)) sz) := by
  refine Met.ofW (cc := cX3_ends) (maxL := 2) (ret := (some .boolean)) (by decide) rfl ?_
  intro p e s m args below meth c s₁ B hml hv
  obtain ⟨rfl, hsz, hP, hK, hD0⟩ := hv
  have hx := B.exec
  have hb := B.bytes
  have hr := B.returns
  have hts := atoms_spec (ws := us_X3_ends) B.pre
  have hown : s.vm.findClass RX3 = some m.cls := findClass_of_methodNamed B.named
  have hlocks := B.notSynchronized
  subst hsz
  have hD := hD0.self (sz := s.heap.size)
  generalize hAe : va_A ((gX3 cI h0 a zs zh fs fn fd ff ft fg)) s.heap.size = A at hD ⊢
  have hA : ∀ q : Nat, s.heap.size ≤ q → A q := fun q h => by rw [← hAe]; exact Or.inr h
  clear hAe hD0
  have hS : va_S A s.heap s.heap [] := va_S.rf
  have hP : va_P (dC, dI) vwCl ((gX3 cI h0 a zs zh fs fn fd ff ft fg)) s.heap := hP
  have hl := lv_entry ([.ref h0, .int i]) (n := 2) (Nat.le_of_ble_eq_true rfl)
  rw [lg_entry_eq]
  generalize (lg_sl ([.ref h0, .int i]) ++ List.replicate (2 - (lg_sl ([.ref h0, .int i])).length) Slot.unset).toArray = ls at hl ⊢
  have hl : lv_has ls 2 [(0, .ref h0), (1, .int i)] := hl
  have k_0 : (0 : Int32).toInt = 0 := by decide
  have k_1 : (1 : Int32).toInt = 1 := by decide
  have k_114 : (114 : Int32).toInt = 114 := by decide
  have k_116 : (116 : Int32).toInt = 116 := by decide
  refine lv_aload_n hx hb dX3_ends_0 rfl (lv_at hl 0 rfl) ?_
  refine va_get (D := (dC, dI)) (ci := 3) (v := .ref (a 2)) (C := RX3) (T := TX3) (N := 8) hx hb hts ui_X3_ends_X3 hown hK hP 0 rfl rfl 2 (by decide) (hts (.fieldLink RX3 9 "CodeLifter$Listing" "sign" "[I") (by decide +kernel)) (fun _ h9 => h9) rfl dX3_ends_1 ?_
  refine lv_iload_n hx hb dX3_ends_4 rfl (lv_at hl 1 rfl) ?_
  have hi_1 : vp_in i 40 := vp_in_iff.mpr ⟨by omega, by omega⟩
  refine va_iald hx hb hK hP 1 0 rfl rfl hi_1 dX3_ends_5 ?_
  refine lv_topi (fun v_2 e_2 => ?_)
  have q_2 : v_2.toInt = (fs (Int32.toNatClampNeg i)).toInt := by rw [e_2]
  refine lv_bipush (v := 116) hx hb dX3_ends_6 (by decide) ?_
  refine lv_icmp_eq (tgt := 22) hx hb dX3_ends_8 (by decide) (fun c_3 => ?_) (fun c_3 => ?_)
  · rw [fa_eq, k_116] at c_3
    refine lv_iconst (v := 1) hx hb dX3_ends_22 (by decide) ?_
    refine lv_goto (tgt := 27) hx hb dX3_ends_23 (by decide) ?_
    have hP9 := hP
    have hD9 := hD
    exact W.zret (v := 1) hx hb hr rfl (fun t ht hW => ⟨⟨1, (), rfl, (by (try dsimp only); omega), ⟨by rw [ht]; exact hP9, hD9⟩⟩, hS.F ht⟩) hS.2.2 dX3_ends_27
  · rw [fa_eq, k_116] at c_3
    refine lv_aload_n hx hb dX3_ends_11 rfl (lv_at hl 0 rfl) ?_
    refine va_get (D := (dC, dI)) (ci := 3) (v := .ref (a 2)) (C := RX3) (T := TX3) (N := 8) hx hb hts ui_X3_ends_X3 hown hK hP 0 rfl rfl 2 (by decide) (hts (.fieldLink RX3 9 "CodeLifter$Listing" "sign" "[I") (by decide +kernel)) (fun _ h9 => h9) rfl dX3_ends_12 ?_
    refine lv_iload_n hx hb dX3_ends_15 rfl (lv_at hl 1 rfl) ?_
    have hi_4 : vp_in i 40 := vp_in_iff.mpr ⟨by omega, by omega⟩
    refine va_iald hx hb hK hP 1 0 rfl rfl hi_4 dX3_ends_16 ?_
    refine lv_topi (fun v_5 e_5 => ?_)
    have q_5 : v_5.toInt = (fs (Int32.toNatClampNeg i)).toInt := by rw [e_5]
    refine lv_bipush (v := 114) hx hb dX3_ends_17 (by decide) ?_
    refine lv_icmp_ne (tgt := 26) hx hb dX3_ends_19 (by decide) (fun c_6 => ?_) (fun c_6 => ?_)
    · rw [fa_eq, k_114] at c_6
      refine lv_iconst (v := 0) hx hb dX3_ends_26 (by decide) ?_
      have hP9 := hP
      have hD9 := hD
      exact W.zret (v := 0) hx hb hr rfl (fun t ht hW => ⟨⟨0, (), rfl, (by (try dsimp only); omega), ⟨by rw [ht]; exact hP9, hD9⟩⟩, hS.F ht⟩) hS.2.2 dX3_ends_27
    · rw [fa_eq, k_114] at c_6
      refine lv_iconst (v := 1) hx hb dX3_ends_22 (by decide) ?_
      refine lv_goto (tgt := 27) hx hb dX3_ends_23 (by decide) ?_
      have hP9 := hP
      have hD9 := hD
      exact W.zret (v := 1) hx hb hr rfl (fun t ht hW => ⟨⟨1, (), rfl, (by (try dsimp only); omega), ⟨by rw [ht]; exact hP9, hD9⟩⟩, hS.F ht⟩) hS.2.2 dX3_ends_27

def us_X3_canThrow : List Cond := .code yX3_canThrow cX3_canThrow 2 (some .boolean) :: ([.fieldLink RX3 9 "CodeLifter$Listing" "sign" "[I"] ++ wsX30)
theorem ui_X3_canThrow_X3 : ∀ w ∈ wsX30, w ∈ us_X3_canThrow := fun _ h => List.mem_cons_of_mem _ (List.mem_append_right _ h)
set_option maxHeartbeats 8000000 in
set_option maxRecDepth 100000 in
/-- canThrow -/
theorem c_X3_canThrow (l : Launch) (dC : Nat → ClassId) (dI : Nat → Nat → Nat) (cI : ClassId) (sz : Nat) (h0 : Nat) (a : Nat → Nat) (zs : Int32) (zh : Int32) (fs : Nat → Int32) (fn : Nat → Int32) (fd : Nat → Int32) (ff : Nat → Int32) (ft : Nat → Int32) (fg : Nat → Int32) (i : Int32) (hi : 0 ≤ i.toInt ∧ i.toInt < 40) : Met l yX3_canThrow us_X3_canThrow ({ frames := 0, cells := 0, slots := 0, locals := 0 }) (va_Pc [.ref h0, .int i] (fun U => U.heap.size = sz ∧ va_P (dC, dI) vwCl ((gX3 cI h0 a zs zh fs fn fd ff ft fg)) U.heap ∧ va_K (dC, dI) vwCl [(cI, .int)] U ∧ va_D (fun _ => True) ((gX3 cI h0 a zs zh fs fn fd ff ft fg)))) (va_Qi (fun (r : Int32) (u : Unit) => (r.toInt = 0 ∨ r.toInt = 1) ∧ (r.toInt = 1 ↔ (fs i.toNatClampNeg).toInt = 47 ∨ (fs i.toNatClampNeg).toInt = 37 ∨ (fs i.toNatClampNeg).toInt = 116)) (fun (u : Unit) (t : State) => va_P (dC, dI) vwCl ((gX3 cI h0 a zs zh fs fn fd ff ft fg)) t.heap ∧ va_D (va_A ((gX3 cI h0 a zs zh fs fn fd ff ft fg)) sz) ((gX3 cI h0 a zs zh fs fn fd ff ft fg))) (va_A ((gX3 cI h0 a zs zh fs fn fd ff ft fg)) sz)) 0 0 (va_A ((gX3 cI h0 a zs zh fs fn fd ff ft fg)) sz) := by
  refine Met.ofW (cc := cX3_canThrow) (maxL := 2) (ret := (some .boolean)) (by decide) rfl ?_
  intro p e s m args below meth c s₁ B hml hv
  obtain ⟨rfl, hsz, hP, hK, hD0⟩ := hv
  have hx := B.exec
  have hb := B.bytes
  have hr := B.returns
  have hts := atoms_spec (ws := us_X3_canThrow) B.pre
  have hown : s.vm.findClass RX3 = some m.cls := findClass_of_methodNamed B.named
  have hlocks := B.notSynchronized
  subst hsz
  have hD := hD0.self (sz := s.heap.size)
  generalize hAe : va_A ((gX3 cI h0 a zs zh fs fn fd ff ft fg)) s.heap.size = A at hD ⊢
  have hA : ∀ q : Nat, s.heap.size ≤ q → A q := fun q h => by rw [← hAe]; exact Or.inr h
  clear hAe hD0
  have hS : va_S A s.heap s.heap [] := va_S.rf
  have hP : va_P (dC, dI) vwCl ((gX3 cI h0 a zs zh fs fn fd ff ft fg)) s.heap := hP
  have hl := lv_entry ([.ref h0, .int i]) (n := 2) (Nat.le_of_ble_eq_true rfl)
  rw [lg_entry_eq]
  generalize (lg_sl ([.ref h0, .int i]) ++ List.replicate (2 - (lg_sl ([.ref h0, .int i])).length) Slot.unset).toArray = ls at hl ⊢
  have hl : lv_has ls 2 [(0, .ref h0), (1, .int i)] := hl
  have k_0 : (0 : Int32).toInt = 0 := by decide
  have k_1 : (1 : Int32).toInt = 1 := by decide
  have k_37 : (37 : Int32).toInt = 37 := by decide
  have k_47 : (47 : Int32).toInt = 47 := by decide
  have k_116 : (116 : Int32).toInt = 116 := by decide
  refine lv_aload_n hx hb dX3_canThrow_0 rfl (lv_at hl 0 rfl) ?_
  refine va_get (D := (dC, dI)) (ci := 3) (v := .ref (a 2)) (C := RX3) (T := TX3) (N := 8) hx hb hts ui_X3_canThrow_X3 hown hK hP 0 rfl rfl 2 (by decide) (hts (.fieldLink RX3 9 "CodeLifter$Listing" "sign" "[I") (by decide +kernel)) (fun _ h9 => h9) rfl dX3_canThrow_1 ?_
  refine lv_iload_n hx hb dX3_canThrow_4 rfl (lv_at hl 1 rfl) ?_
  have hi_1 : vp_in i 40 := vp_in_iff.mpr ⟨by omega, by omega⟩
  refine va_iald hx hb hK hP 1 0 rfl rfl hi_1 dX3_canThrow_5 ?_
  refine lv_topi (fun v_2 e_2 => ?_)
  have q_2 : v_2.toInt = (fs (Int32.toNatClampNeg i)).toInt := by rw [e_2]
  refine lv_bipush (v := 47) hx hb dX3_canThrow_6 (by decide) ?_
  refine lv_icmp_eq (tgt := 33) hx hb dX3_canThrow_8 (by decide) (fun c_3 => ?_) (fun c_3 => ?_)
  · rw [fa_eq, k_47] at c_3
    refine lv_iconst (v := 1) hx hb dX3_canThrow_33 (by decide) ?_
    refine lv_goto (tgt := 38) hx hb dX3_canThrow_34 (by decide) ?_
    have hP9 := hP
    have hD9 := hD
    exact W.zret (v := 1) hx hb hr rfl (fun t ht hW => ⟨⟨1, (), rfl, (by (try dsimp only); omega), ⟨by rw [ht]; exact hP9, hD9⟩⟩, hS.F ht⟩) hS.2.2 dX3_canThrow_38
  · rw [fa_eq, k_47] at c_3
    refine lv_aload_n hx hb dX3_canThrow_11 rfl (lv_at hl 0 rfl) ?_
    refine va_get (D := (dC, dI)) (ci := 3) (v := .ref (a 2)) (C := RX3) (T := TX3) (N := 8) hx hb hts ui_X3_canThrow_X3 hown hK hP 0 rfl rfl 2 (by decide) (hts (.fieldLink RX3 9 "CodeLifter$Listing" "sign" "[I") (by decide +kernel)) (fun _ h9 => h9) rfl dX3_canThrow_12 ?_
    refine lv_iload_n hx hb dX3_canThrow_15 rfl (lv_at hl 1 rfl) ?_
    have hi_4 : vp_in i 40 := vp_in_iff.mpr ⟨by omega, by omega⟩
    refine va_iald hx hb hK hP 1 0 rfl rfl hi_4 dX3_canThrow_16 ?_
    refine lv_topi (fun v_5 e_5 => ?_)
    have q_5 : v_5.toInt = (fs (Int32.toNatClampNeg i)).toInt := by rw [e_5]
    refine lv_bipush (v := 37) hx hb dX3_canThrow_17 (by decide) ?_
    refine lv_icmp_eq (tgt := 33) hx hb dX3_canThrow_19 (by decide) (fun c_6 => ?_) (fun c_6 => ?_)
    · rw [fa_eq, k_37] at c_6
      refine lv_iconst (v := 1) hx hb dX3_canThrow_33 (by decide) ?_
      refine lv_goto (tgt := 38) hx hb dX3_canThrow_34 (by decide) ?_
      have hP9 := hP
      have hD9 := hD
      exact W.zret (v := 1) hx hb hr rfl (fun t ht hW => ⟨⟨1, (), rfl, (by (try dsimp only); omega), ⟨by rw [ht]; exact hP9, hD9⟩⟩, hS.F ht⟩) hS.2.2 dX3_canThrow_38
    · rw [fa_eq, k_37] at c_6
      refine lv_aload_n hx hb dX3_canThrow_22 rfl (lv_at hl 0 rfl) ?_
      refine va_get (D := (dC, dI)) (ci := 3) (v := .ref (a 2)) (C := RX3) (T := TX3) (N := 8) hx hb hts ui_X3_canThrow_X3 hown hK hP 0 rfl rfl 2 (by decide) (hts (.fieldLink RX3 9 "CodeLifter$Listing" "sign" "[I") (by decide +kernel)) (fun _ h9 => h9) rfl dX3_canThrow_23 ?_
      refine lv_iload_n hx hb dX3_canThrow_26 rfl (lv_at hl 1 rfl) ?_
      have hi_7 : vp_in i 40 := vp_in_iff.mpr ⟨by omega, by omega⟩
      refine va_iald hx hb hK hP 1 0 rfl rfl hi_7 dX3_canThrow_27 ?_
      refine lv_topi (fun v_8 e_8 => ?_)
      have q_8 : v_8.toInt = (fs (Int32.toNatClampNeg i)).toInt := by rw [e_8]
      refine lv_bipush (v := 116) hx hb dX3_canThrow_28 (by decide) ?_
      refine lv_icmp_ne (tgt := 37) hx hb dX3_canThrow_30 (by decide) (fun c_9 => ?_) (fun c_9 => ?_)
      · rw [fa_eq, k_116] at c_9
        refine lv_iconst (v := 0) hx hb dX3_canThrow_37 (by decide) ?_
        have hP9 := hP
        have hD9 := hD
        exact W.zret (v := 0) hx hb hr rfl (fun t ht hW => ⟨⟨0, (), rfl, (by (try dsimp only); omega), ⟨by rw [ht]; exact hP9, hD9⟩⟩, hS.F ht⟩) hS.2.2 dX3_canThrow_38
      · rw [fa_eq, k_116] at c_9
        refine lv_iconst (v := 1) hx hb dX3_canThrow_33 (by decide) ?_
        refine lv_goto (tgt := 38) hx hb dX3_canThrow_34 (by decide) ?_
        have hP9 := hP
        have hD9 := hD
        exact W.zret (v := 1) hx hb hr rfl (fun t ht hW => ⟨⟨1, (), rfl, (by (try dsimp only); omega), ⟨by rw [ht]; exact hP9, hD9⟩⟩, hS.F ht⟩) hS.2.2 dX3_canThrow_38

def us_X3_goesOn : List Cond := .code yX3_goesOn cX3_goesOn 2 (some .boolean) :: (([.fieldLink RX3 9 "CodeLifter$Listing" "sign" "[I", .methodLink RX3 85 yX3_ends, .instanceMethod yX3_ends, .selects RX3 yX3_ends yX3_ends, .initialized RX3] ++ wsX30) ++ us_X3_ends)
theorem ui_X3_goesOn_X3 : ∀ w ∈ wsX30, w ∈ us_X3_goesOn := fun _ h => List.mem_cons_of_mem _ (List.mem_append_left _ (List.mem_append_right _ h))
set_option maxRecDepth 20000 in
theorem ugg_X3_goesOn_X3_ends : GoodIn us_X3_goesOn us_X3_ends := goodIn_sub (fun _ h => List.mem_cons_of_mem _ (List.mem_append_right _ h)) (by decide +kernel)
set_option maxRecDepth 20000 in
theorem ug_X3_goesOn_X3_ends : GoodIn us_X3_goesOn (wsV RX3 85 RX3 yX3_ends us_X3_ends) := goodIn_app (goodIn_of _ (by decide +kernel)) ugg_X3_goesOn_X3_ends
set_option maxHeartbeats 8000000 in
set_option maxRecDepth 100000 in
/-- goesOn -/
theorem c_X3_goesOn (l : Launch) (dC : Nat → ClassId) (dI : Nat → Nat → Nat) (cI : ClassId) (sz : Nat) (h0 : Nat) (a : Nat → Nat) (zs : Int32) (zh : Int32) (fs : Nat → Int32) (fn : Nat → Int32) (fd : Nat → Int32) (ff : Nat → Int32) (ft : Nat → Int32) (fg : Nat → Int32) (i : Int32) (hi : 0 ≤ i.toInt ∧ i.toInt < 40) : Met l yX3_goesOn us_X3_goesOn ({ frames := 1, cells := 0, slots := 0, locals := 21 }) (va_Pc [.ref h0, .int i] (fun U => U.heap.size = sz ∧ va_P (dC, dI) vwCl ((gX3 cI h0 a zs zh fs fn fd ff ft fg)) U.heap ∧ va_K (dC, dI) vwCl [(cI, .int)] U ∧ va_D (fun _ => True) ((gX3 cI h0 a zs zh fs fn fd ff ft fg)))) (va_Qi (fun (r : Int32) (u : Unit) => (r.toInt = 0 ∨ r.toInt = 1) ∧ (r.toInt = 1 ↔ (fs i.toNatClampNeg).toInt ≠ 103 ∧ (fs i.toNatClampNeg).toInt ≠ 116 ∧ (fs i.toNatClampNeg).toInt ≠ 114)) (fun (u : Unit) (t : State) => va_P (dC, dI) vwCl ((gX3 cI h0 a zs zh fs fn fd ff ft fg)) t.heap ∧ va_D (va_A ((gX3 cI h0 a zs zh fs fn fd ff ft fg)) sz) ((gX3 cI h0 a zs zh fs fn fd ff ft fg))) (va_A ((gX3 cI h0 a zs zh fs fn fd ff ft fg)) sz)) 0 0 (va_A ((gX3 cI h0 a zs zh fs fn fd ff ft fg)) sz) := by
  refine Met.ofW (cc := cX3_goesOn) (maxL := 2) (ret := (some .boolean)) (by decide) rfl ?_
  intro p e s m args below meth c s₁ B hml hv
  obtain ⟨rfl, hsz, hP, hK, hD0⟩ := hv
  have hx := B.exec
  have hb := B.bytes
  have hr := B.returns
  have hts := atoms_spec (ws := us_X3_goesOn) B.pre
  have hown : s.vm.findClass RX3 = some m.cls := findClass_of_methodNamed B.named
  have hlocks := B.notSynchronized
  subst hsz
  have hD := hD0.self (sz := s.heap.size)
  generalize hAe : va_A ((gX3 cI h0 a zs zh fs fn fd ff ft fg)) s.heap.size = A at hD ⊢
  have hA : ∀ q : Nat, s.heap.size ≤ q → A q := fun q h => by rw [← hAe]; exact Or.inr h
  clear hAe hD0
  have hS : va_S A s.heap s.heap [] := va_S.rf
  have hP : va_P (dC, dI) vwCl ((gX3 cI h0 a zs zh fs fn fd ff ft fg)) s.heap := hP
  have hl := lv_entry ([.ref h0, .int i]) (n := 2) (Nat.le_of_ble_eq_true rfl)
  rw [lg_entry_eq]
  generalize (lg_sl ([.ref h0, .int i]) ++ List.replicate (2 - (lg_sl ([.ref h0, .int i])).length) Slot.unset).toArray = ls at hl ⊢
  have hl : lv_has ls 2 [(0, .ref h0), (1, .int i)] := hl
  have k_0 : (0 : Int32).toInt = 0 := by decide
  have k_1 : (1 : Int32).toInt = 1 := by decide
  have k_103 : (103 : Int32).toInt = 103 := by decide
  refine lv_aload_n hx hb dX3_goesOn_0 rfl (lv_at hl 0 rfl) ?_
  refine va_get (D := (dC, dI)) (ci := 3) (v := .ref (a 2)) (C := RX3) (T := TX3) (N := 8) hx hb hts ui_X3_goesOn_X3 hown hK hP 0 rfl rfl 2 (by decide) (hts (.fieldLink RX3 9 "CodeLifter$Listing" "sign" "[I") (by decide +kernel)) (fun _ h9 => h9) rfl dX3_goesOn_1 ?_
  refine lv_iload_n hx hb dX3_goesOn_4 rfl (lv_at hl 1 rfl) ?_
  have hi_1 : vp_in i 40 := vp_in_iff.mpr ⟨by omega, by omega⟩
  refine va_iald hx hb hK hP 1 0 rfl rfl hi_1 dX3_goesOn_5 ?_
  refine lv_topi (fun v_2 e_2 => ?_)
  have q_2 : v_2.toInt = (fs (Int32.toNatClampNeg i)).toInt := by rw [e_2]
  refine lv_bipush (v := 103) hx hb dX3_goesOn_6 (by decide) ?_
  refine lv_icmp_eq (tgt := 23) hx hb dX3_goesOn_8 (by decide) (fun c_3 => ?_) (fun c_3 => ?_)
  · rw [fa_eq, k_103] at c_3
    refine lv_iconst (v := 0) hx hb dX3_goesOn_23 (by decide) ?_
    have hP9 := hP
    have hD9 := hD
    exact W.zret (v := 0) hx hb hr rfl (fun t ht hW => ⟨⟨0, (), rfl, (by (try dsimp only); omega), ⟨by rw [ht]; exact hP9, hD9⟩⟩, hS.F ht⟩) hS.2.2 dX3_goesOn_24
  · rw [fa_eq, k_103] at c_3
    refine lv_aload_n hx hb dX3_goesOn_11 rfl (lv_at hl 0 rfl) ?_
    refine lv_iload_n hx hb dX3_goesOn_12 rfl (lv_at hl 1 rfl) ?_
    have hPc := hP.sub (ws' := (gX3 cI h0 a zs zh fs fn fd ff ft fg)) [0, 1, 2, 3, 4, 5, 6] rfl
    have hDc := hD.sub (ws' := (gX3 cI h0 a zs zh fs fn fd ff ft fg)) [0, 1, 2, 3, 4, 5, 6] (by decide) rfl
    have hKc := hK.sub (tys' := [(cI, .int)]) [0] rfl
    have hFc := va_free (wc := (gX3 cI h0 a zs zh fs fn fd ff ft fg)) hD hS hA [0, 1, 2, 3, 4, 5, 6] rfl
    refine va_calli (va_runV (As := [.int i]) (rest := []) ⟨hx, hb, hml, hown, hts⟩ (c_X3_ends l dC dI cI s.heap.size h0 a zs zh fs fn fd ff ft fg i (by omega)) (cwV 1 hts ug_X3_goesOn_X3_ends rfl rfl rfl (by decide +kernel) ⟨Nat.le_of_ble_eq_true rfl, Nat.le_of_ble_eq_true rfl⟩) ⟨fun a U g mk q => by obtain ⟨q0, q1, qP, qK, qD⟩ := q; exact ⟨q0, q1, qP, va_K.moved (u := U) (U := U.calling g mk a) (Vm.Alike.refl U.vm) qK, qD⟩, va_recv hKc hPc (ci := 3) (q0 := 0) rfl rfl, fun U hU hW => ⟨rfl, by rw [hU], by rw [hU]; exact hPc, va_K.moved hW.alike hKc, hDc.weaken (fun _ _ _ _ => trivial)⟩⟩ rfl rfl hl.1 rfl (lv_room (Nat.le_of_ble_eq_true rfl)) dX3_goesOn_13 ⟨Nat.le_of_ble_eq_true rfl, Nat.le_of_ble_eq_true rfl⟩) hS (fun q _ h => hFc q h) hFc (fun r_4 u t H locs ht hvm hw hB hz1 hk1 hS => ?_)
    obtain ⟨hP1, hD1⟩ := hB
    rw [ht] at hP1
    (try dsimp only at hw hP1 hD1)
    have hw_4 := hw
    obtain ⟨hP, hD⟩ := va_join (wr := ([] : va_W)) (w1 := (gX3 cI h0 a zs zh fs fn fd ff ft fg)) hP hD [0, 1, 2, 3, 4, 5, 6] [] rfl rfl (by decide) (by decide) hk1 hFc hP1 hD1
    have hP := hP.sub (ws' := (gX3 cI h0 a zs zh fs fn fd ff ft fg)) [0, 1, 2, 3, 4, 5, 6] rfl
    have hD := hD.sub (ws' := (gX3 cI h0 a zs zh fs fn fd ff ft fg)) [0, 1, 2, 3, 4, 5, 6] (by decide) rfl
    clear hPc hDc hKc hFc hk1 hz1 hP1 hD1 hw hvm ht
    refine lv_if_ne (tgt := 23) hx hb dX3_goesOn_16 (by decide) (fun c_5 => ?_) (fun c_5 => ?_)
    · rw [fa_eq, k_0] at c_5
      have t_5 := hw_4.2.mp (by have := hw_4.1; omega)
      clear hw_4
      refine lv_iconst (v := 0) hx hb dX3_goesOn_23 (by decide) ?_
      have hP9 := hP
      have hD9 := hD
      exact W.zret (v := 0) hx hb hr rfl (fun t ht hW => ⟨⟨0, (), rfl, (by (try dsimp only); omega), ⟨by rw [ht]; exact hP9, hD9⟩⟩, hS.F ht⟩) hS.2.2 dX3_goesOn_24
    · rw [fa_eq, k_0] at c_5
      have t_5 : ¬ _ := fun h9 => absurd (hw_4.2.mpr h9) (by omega)
      clear hw_4
      refine lv_iconst (v := 1) hx hb dX3_goesOn_19 (by decide) ?_
      refine lv_goto (tgt := 24) hx hb dX3_goesOn_20 (by decide) ?_
      have hP9 := hP
      have hD9 := hD
      exact W.zret (v := 1) hx hb hr rfl (fun t ht hW => ⟨⟨1, (), rfl, (by (try dsimp only); omega), ⟨by rw [ht]; exact hP9, hD9⟩⟩, hS.F ht⟩) hS.2.2 dX3_goesOn_24

def us_X3_handlerOf : List Cond := .code yX3_handlerOf cX3_handlerOf 3 (some .int) :: ([.fieldLink RX3 34 "CodeLifter$Listing" "handlers" "I", .fieldLink RX3 21 "CodeLifter$Listing" "from" "[I", .fieldLink RX3 24 "CodeLifter$Listing" "to" "[I"] ++ wsX30)
theorem ui_X3_handlerOf_X3 : ∀ w ∈ wsX30, w ∈ us_X3_handlerOf := fun _ h => List.mem_cons_of_mem _ (List.mem_append_right _ h)
set_option maxHeartbeats 8000000 in
set_option maxRecDepth 100000 in
/-- handlerOf -/
theorem c_X3_handlerOf (l : Launch) (dC : Nat → ClassId) (dI : Nat → Nat → Nat) (cI : ClassId) (sz : Nat) (h0 : Nat) (a : Nat → Nat) (zs : Int32) (zh : Int32) (fs : Nat → Int32) (fn : Nat → Int32) (fd : Nat → Int32) (ff : Nat → Int32) (ft : Nat → Int32) (fg : Nat → Int32) (i : Int32) (hzh : 0 ≤ zh.toInt ∧ zh.toInt ≤ 3) : Met l yX3_handlerOf us_X3_handlerOf ({ frames := 0, cells := 0, slots := 0, locals := 0 }) (va_Pc [.ref h0, .int i] (fun U => U.heap.size = sz ∧ va_P (dC, dI) vwCl ((gX3 cI h0 a zs zh fs fn fd ff ft fg)) U.heap ∧ va_K (dC, dI) vwCl [(cI, .int)] U ∧ va_D (fun _ => True) ((gX3 cI h0 a zs zh fs fn fd ff ft fg)))) (va_Qi (fun (r : Int32) (u : Unit) => r = hF ff ft zh.toInt.toNat i ∧ -1 ≤ r.toInt ∧ r.toInt < zh.toInt) (fun (u : Unit) (t : State) => va_P (dC, dI) vwCl ((gX3 cI h0 a zs zh fs fn fd ff ft fg)) t.heap ∧ va_D (va_A ((gX3 cI h0 a zs zh fs fn fd ff ft fg)) sz) ((gX3 cI h0 a zs zh fs fn fd ff ft fg))) (va_A ((gX3 cI h0 a zs zh fs fn fd ff ft fg)) sz)) 0 0 (va_A ((gX3 cI h0 a zs zh fs fn fd ff ft fg)) sz) := by
  refine Met.ofW (cc := cX3_handlerOf) (maxL := 3) (ret := (some .int)) (by decide) rfl ?_
  intro p e s m args below meth c s₁ B hml hv
  obtain ⟨rfl, hsz, hP, hK, hD0⟩ := hv
  have hx := B.exec
  have hb := B.bytes
  have hr := B.returns
  have hts := atoms_spec (ws := us_X3_handlerOf) B.pre
  have hown : s.vm.findClass RX3 = some m.cls := findClass_of_methodNamed B.named
  have hlocks := B.notSynchronized
  subst hsz
  have hD := hD0.self (sz := s.heap.size)
  generalize hAe : va_A ((gX3 cI h0 a zs zh fs fn fd ff ft fg)) s.heap.size = A at hD ⊢
  have hA : ∀ q : Nat, s.heap.size ≤ q → A q := fun q h => by rw [← hAe]; exact Or.inr h
  clear hAe hD0
  have hS : va_S A s.heap s.heap [] := va_S.rf
  have hP : va_P (dC, dI) vwCl ((gX3 cI h0 a zs zh fs fn fd ff ft fg)) s.heap := hP
  have hl := lv_entry ([.ref h0, .int i]) (n := 3) (Nat.le_of_ble_eq_true rfl)
  rw [lg_entry_eq]
  generalize (lg_sl ([.ref h0, .int i]) ++ List.replicate (3 - (lg_sl ([.ref h0, .int i])).length) Slot.unset).toArray = ls at hl ⊢
  have hl : lv_has ls 3 [(0, .ref h0), (1, .int i)] := hl
  have k_m1 : ((-1) : Int32).toInt = -1 := by decide
  have k_0 : (0 : Int32).toInt = 0 := by decide
  have k_1 : (1 : Int32).toInt = 1 := by decide
  refine lv_iconst (v := 0) hx hb dX3_handlerOf_0 (by decide) ?_
  refine lv_istore_n (lv' := [(2, .int 0), (0, .ref h0), (1, .int i)]) hx hb dX3_handlerOf_1 rfl hl (by decide) rfl (fun ls hl => ?_)
  refine loop_rule (I := fun n H locs ls => ∃ (x2_1 : Int32), n = (zh.toInt - x2_1.toInt).toNat ∧ (0 ≤ x2_1.toInt ∧ x2_1.toInt ≤ zh.toInt) ∧ (∀ j : Nat, (j : Int) < x2_1.toInt → pHan ff ft i j = false) ∧ va_P (dC, dI) vwCl ((gX3 cI h0 a zs zh fs fn fd ff ft fg)) H ∧ va_D A ((gX3 cI h0 a zs zh fs fn fd ff ft fg)) ∧ va_S A s.heap H locs ∧ lv_has ls 3 [(2, .int x2_1), (0, .ref h0), (1, .int i)]) ?_ _ _ _ _ ⟨0, rfl, (by omega), (fun j hj => absurd hj (by omega)), hP, hD, hS, hl⟩
  clear hP hD hS hl
  intro n H locs ls hI ih
  obtain ⟨x2_1, hn_1, hq, hN, hP, hD, hS, hl⟩ := hI
  refine lv_iload_n hx hb dX3_handlerOf_2 rfl (lv_at hl 0 rfl) ?_
  refine lv_aload_n hx hb dX3_handlerOf_3 rfl (lv_at hl 1 rfl) ?_
  refine va_get (D := (dC, dI)) (ci := 3) (v := .int zh) (C := RX3) (T := TX3) (N := 8) hx hb hts ui_X3_handlerOf_X3 hown hK hP 0 rfl rfl 1 (by decide) (hts (.fieldLink RX3 34 "CodeLifter$Listing" "handlers" "I") (by decide +kernel)) (fun _ h9 => h9) rfl dX3_handlerOf_4 ?_
  refine lv_icmp_ge (tgt := 38) hx hb dX3_handlerOf_7 (by decide) (fun c_2 => ?_) (fun c_2 => ?_)
  · rw [fa_le] at c_2
    refine lv_iconst (v := (-1)) hx hb dX3_handlerOf_38 (by decide) ?_
    have hP9 := hP
    have hD9 := hD
    exact W.iret (v := (-1)) hx hb hr (fun t ht hW => ⟨⟨(-1), (), rfl, (by (try dsimp only); exact ⟨hF_none (fun j hj => hN j (by omega)), by omega, by omega⟩), ⟨by rw [ht]; exact hP9, hD9⟩⟩, hS.F ht⟩) hS.2.2 dX3_handlerOf_39
  · rw [fa_le] at c_2
    refine lv_aload_n hx hb dX3_handlerOf_10 rfl (lv_at hl 1 rfl) ?_
    refine va_get (D := (dC, dI)) (ci := 3) (v := .ref (a 5)) (C := RX3) (T := TX3) (N := 8) hx hb hts ui_X3_handlerOf_X3 hown hK hP 0 rfl rfl 5 (by decide) (hts (.fieldLink RX3 21 "CodeLifter$Listing" "from" "[I") (by decide +kernel)) (fun _ h9 => h9) rfl dX3_handlerOf_11 ?_
    refine lv_iload_n hx hb dX3_handlerOf_14 rfl (lv_at hl 0 rfl) ?_
    have hi_3 : vp_in x2_1 3 := vp_in_iff.mpr ⟨by omega, by omega⟩
    refine va_iald hx hb hK hP 4 0 rfl rfl hi_3 dX3_handlerOf_15 ?_
    refine lv_topi (fun v_4 e_4 => ?_)
    have q_4 : v_4.toInt = (ff (Int32.toNatClampNeg x2_1)).toInt := by rw [e_4]
    refine lv_iload_n hx hb dX3_handlerOf_16 rfl (lv_at hl 2 rfl) ?_
    refine lv_icmp_gt (tgt := 32) hx hb dX3_handlerOf_17 (by decide) (fun c_5 => ?_) (fun c_5 => ?_)
    · rw [fa_lt] at c_5
      obtain ⟨v_6, e_6⟩ : ∃ y : Int32, y = x2_1 + 1 := ⟨_, rfl⟩
      have r_6 : v_6.toInt = x2_1.toInt + 1 := by rw [e_6]; exact fb_addI (by omega) (by omega)
      refine lv_iinc (v := v_6) (lv' := [(2, .int v_6), (0, .ref h0), (1, .int i)]) hx hb dX3_handlerOf_32 hl (k := 0) rfl e_6.symm (by decide) rfl (fun ls hl => ?_)
      refine lv_goto (tgt := 2) hx hb dX3_handlerOf_35 (by decide) ?_
      exact ih _ (by rw [hn_1]; omega) _ _ _ ⟨v_6, rfl, (by omega), (fun j hj => by by_cases e : (j : Int) < x2_1.toInt; exact hN j e; (have hc := clamp_int (x := x2_1) (by omega); rw [show j = x2_1.toNatClampNeg by omega]; exact decide_eq_false (by omega))), hP, hD, hS, (lv_sub hl [0, 1, 2] rfl)⟩
    · rw [fa_lt] at c_5
      refine lv_iload_n hx hb dX3_handlerOf_20 rfl (lv_at hl 2 rfl) ?_
      refine lv_aload_n hx hb dX3_handlerOf_21 rfl (lv_at hl 1 rfl) ?_
      refine va_get (D := (dC, dI)) (ci := 3) (v := .ref (a 6)) (C := RX3) (T := TX3) (N := 8) hx hb hts ui_X3_handlerOf_X3 hown hK hP 0 rfl rfl 6 (by decide) (hts (.fieldLink RX3 24 "CodeLifter$Listing" "to" "[I") (by decide +kernel)) (fun _ h9 => h9) rfl dX3_handlerOf_22 ?_
      refine lv_iload_n hx hb dX3_handlerOf_25 rfl (lv_at hl 0 rfl) ?_
      have hi_7 : vp_in x2_1 3 := vp_in_iff.mpr ⟨by omega, by omega⟩
      refine va_iald hx hb hK hP 5 0 rfl rfl hi_7 dX3_handlerOf_26 ?_
      refine lv_topi (fun v_8 e_8 => ?_)
      have q_8 : v_8.toInt = (ft (Int32.toNatClampNeg x2_1)).toInt := by rw [e_8]
      refine lv_icmp_ge (tgt := 32) hx hb dX3_handlerOf_27 (by decide) (fun c_9 => ?_) (fun c_9 => ?_)
      · rw [fa_le] at c_9
        obtain ⟨v_10, e_10⟩ : ∃ y : Int32, y = x2_1 + 1 := ⟨_, rfl⟩
        have r_10 : v_10.toInt = x2_1.toInt + 1 := by rw [e_10]; exact fb_addI (by omega) (by omega)
        refine lv_iinc (v := v_10) (lv' := [(2, .int v_10), (0, .ref h0), (1, .int i)]) hx hb dX3_handlerOf_32 hl (k := 0) rfl e_10.symm (by decide) rfl (fun ls hl => ?_)
        refine lv_goto (tgt := 2) hx hb dX3_handlerOf_35 (by decide) ?_
        exact ih _ (by rw [hn_1]; omega) _ _ _ ⟨v_10, rfl, (by omega), (fun j hj => by by_cases e : (j : Int) < x2_1.toInt; exact hN j e; (have hc := clamp_int (x := x2_1) (by omega); rw [show j = x2_1.toNatClampNeg by omega]; exact decide_eq_false (by omega))), hP, hD, hS, (lv_sub hl [0, 1, 2] rfl)⟩
      · rw [fa_le] at c_9
        refine lv_iload_n hx hb dX3_handlerOf_30 rfl (lv_at hl 0 rfl) ?_
        have hP9 := hP
        have hD9 := hD
        exact W.iret (v := x2_1) hx hb hr (fun t ht hW => ⟨⟨x2_1, (), rfl, (by (try dsimp only); exact ⟨hF_at (by omega) (by omega) hN (decide_eq_true (by omega)), by omega, by omega⟩), ⟨by rw [ht]; exact hP9, hD9⟩⟩, hS.F ht⟩) hS.2.2 dX3_handlerOf_31

def us_X3_arrive : List Cond := .code yX3_arrive cX3_arrive 3 (some .boolean) :: ([.fieldLink RX3 18 "CodeLifter$Listing" "depth" "[I"] ++ wsX30)
theorem ui_X3_arrive_X3 : ∀ w ∈ wsX30, w ∈ us_X3_arrive := fun _ h => List.mem_cons_of_mem _ (List.mem_append_right _ h)
set_option maxHeartbeats 8000000 in
set_option maxRecDepth 100000 in
/-- arrive -/
theorem c_X3_arrive (l : Launch) (dC : Nat → ClassId) (dI : Nat → Nat → Nat) (cI : ClassId) (sz : Nat) (h0 : Nat) (a : Nat → Nat) (zs : Int32) (zh : Int32) (fs : Nat → Int32) (fn : Nat → Int32) (fd : Nat → Int32) (ff : Nat → Int32) (ft : Nat → Int32) (fg : Nat → Int32) (i : Int32) (j : Int32) (hi : 0 ≤ i.toInt ∧ i.toInt < 40) (hj : -1 ≤ j.toInt ∧ j.toInt ≤ 6) (hR_h0_depth : Rng fd 40 (-1) 6) : Met l yX3_arrive us_X3_arrive ({ frames := 0, cells := 0, slots := 0, locals := 0 }) (va_Pc [.ref h0, .int i, .int j] (fun U => U.heap.size = sz ∧ va_P (dC, dI) vwCl ((gX3 cI h0 a zs zh fs fn fd ff ft fg)) U.heap ∧ va_K (dC, dI) vwCl [(cI, .int)] U ∧ va_D (fun _ => True) ((gX3 cI h0 a zs zh fs fn fd ff ft fg)))) (va_Qi (fun (r : Int32) (u : (Nat → Int32)) => (r.toInt = 0 ∨ r.toInt = 1) ∧ u = aD fd i j ∧ (r.toInt = 1 ↔ (aD fd i j i.toNatClampNeg).toInt = j.toInt)) (fun (u : (Nat → Int32)) (t : State) => va_P (dC, dI) vwCl ((gX3 cI h0 a zs zh fs fn u ff ft fg)) t.heap ∧ va_D (va_A ((gX3 cI h0 a zs zh fs fn fd ff ft fg)) sz) ((gX3 cI h0 a zs zh fs fn u ff ft fg))) (va_A ((gX3 cI h0 a zs zh fs fn fd ff ft fg)) sz)) 0 0 (va_A ((gX3 cI h0 a zs zh fs fn fd ff ft fg)) sz) := by
  refine Met.ofW (cc := cX3_arrive) (maxL := 3) (ret := (some .boolean)) (by decide) rfl ?_
  intro p e s m args below meth c s₁ B hml hv
  obtain ⟨rfl, hsz, hP, hK, hD0⟩ := hv
  have hx := B.exec
  have hb := B.bytes
  have hr := B.returns
  have hts := atoms_spec (ws := us_X3_arrive) B.pre
  have hown : s.vm.findClass RX3 = some m.cls := findClass_of_methodNamed B.named
  have hlocks := B.notSynchronized
  subst hsz
  have hD := hD0.self (sz := s.heap.size)
  generalize hAe : va_A ((gX3 cI h0 a zs zh fs fn fd ff ft fg)) s.heap.size = A at hD ⊢
  have hA : ∀ q : Nat, s.heap.size ≤ q → A q := fun q h => by rw [← hAe]; exact Or.inr h
  clear hAe hD0
  have hS : va_S A s.heap s.heap [] := va_S.rf
  have hP : va_P (dC, dI) vwCl ((gX3 cI h0 a zs zh fs fn fd ff ft fg)) s.heap := hP
  have hl := lv_entry ([.ref h0, .int i, .int j]) (n := 3) (Nat.le_of_ble_eq_true rfl)
  rw [lg_entry_eq]
  generalize (lg_sl ([.ref h0, .int i, .int j]) ++ List.replicate (3 - (lg_sl ([.ref h0, .int i, .int j])).length) Slot.unset).toArray = ls at hl ⊢
  have hl : lv_has ls 3 [(0, .ref h0), (1, .int i), (2, .int j)] := hl
  have k_m1 : ((-1) : Int32).toInt = -1 := by decide
  have k_0 : (0 : Int32).toInt = 0 := by decide
  have k_1 : (1 : Int32).toInt = 1 := by decide
  refine lv_aload_n hx hb dX3_arrive_0 rfl (lv_at hl 0 rfl) ?_
  refine va_get (D := (dC, dI)) (ci := 3) (v := .ref (a 4)) (C := RX3) (T := TX3) (N := 8) hx hb hts ui_X3_arrive_X3 hown hK hP 0 rfl rfl 4 (by decide) (hts (.fieldLink RX3 18 "CodeLifter$Listing" "depth" "[I") (by decide +kernel)) (fun _ h9 => h9) rfl dX3_arrive_1 ?_
  refine lv_iload_n hx hb dX3_arrive_4 rfl (lv_at hl 1 rfl) ?_
  have hi_1 : vp_in i 40 := vp_in_iff.mpr ⟨by omega, by omega⟩
  refine va_iald hx hb hK hP 3 0 rfl rfl hi_1 dX3_arrive_5 ?_
  refine lv_topi (fun v_2 e_2 => ?_)
  have r_2 : (-1) ≤ v_2.toInt ∧ v_2.toInt ≤ 6 := by rw [e_2]; exact (Rng.get hR_h0_depth) hi_1
  have q_2 : v_2.toInt = (fd (Int32.toNatClampNeg i)).toInt := by rw [e_2]
  refine lv_iconst (v := (-1)) hx hb dX3_arrive_6 (by decide) ?_
  refine lv_icmp_ne (tgt := 17) hx hb dX3_arrive_7 (by decide) (fun c_3 => ?_) (fun c_3 => ?_)
  · rw [fa_eq, k_m1] at c_3
    have hA0 : fd = aD fd i j := by unfold aD; rw [if_neg (by omega)]
    refine lv_aload_n hx hb dX3_arrive_17 rfl (lv_at hl 0 rfl) ?_
    refine va_get (D := (dC, dI)) (ci := 3) (v := .ref (a 4)) (C := RX3) (T := TX3) (N := 8) hx hb hts ui_X3_arrive_X3 hown hK hP 0 rfl rfl 4 (by decide) (hts (.fieldLink RX3 18 "CodeLifter$Listing" "depth" "[I") (by decide +kernel)) (fun _ h9 => h9) rfl dX3_arrive_18 ?_
    refine lv_iload_n hx hb dX3_arrive_21 rfl (lv_at hl 1 rfl) ?_
    have hi_4 : vp_in i 40 := vp_in_iff.mpr ⟨by omega, by omega⟩
    refine va_iald hx hb hK hP 3 0 rfl rfl hi_4 dX3_arrive_22 ?_
    refine lv_topi (fun v_5 e_5 => ?_)
    have r_5 : (-1) ≤ v_5.toInt ∧ v_5.toInt ≤ 6 := by rw [e_5]; exact (Rng.get hR_h0_depth) hi_4
    have q_5 : v_5.toInt = (fd (Int32.toNatClampNeg i)).toInt := by rw [e_5]
    refine lv_iload_n hx hb dX3_arrive_23 rfl (lv_at hl 2 rfl) ?_
    refine lv_icmp_ne (tgt := 31) hx hb dX3_arrive_24 (by decide) (fun c_6 => ?_) (fun c_6 => ?_)
    · rw [fa_eq] at c_6
      refine lv_iconst (v := 0) hx hb dX3_arrive_31 (by decide) ?_
      have hP9 := hP
      have hD9 := hD
      exact W.zret (v := 0) hx hb hr rfl (fun t ht hW => ⟨⟨0, (fd), rfl, (by (try dsimp only); exact ⟨by omega, by first | exact hA1 | exact hA0, by first | (rw [← hA1]; omega) | (rw [← hA0]; omega)⟩), ⟨by rw [ht]; exact hP9, hD9⟩⟩, hS.F ht⟩) hS.2.2 dX3_arrive_32
    · rw [fa_eq] at c_6
      refine lv_iconst (v := 1) hx hb dX3_arrive_27 (by decide) ?_
      refine lv_goto (tgt := 32) hx hb dX3_arrive_28 (by decide) ?_
      have hP9 := hP
      have hD9 := hD
      exact W.zret (v := 1) hx hb hr rfl (fun t ht hW => ⟨⟨1, (fd), rfl, (by (try dsimp only); exact ⟨by omega, by first | exact hA1 | exact hA0, by first | (rw [← hA1]; omega) | (rw [← hA0]; omega)⟩), ⟨by rw [ht]; exact hP9, hD9⟩⟩, hS.F ht⟩) hS.2.2 dX3_arrive_32
  · rw [fa_eq, k_m1] at c_3
    refine lv_aload_n hx hb dX3_arrive_10 rfl (lv_at hl 0 rfl) ?_
    refine va_get (D := (dC, dI)) (ci := 3) (v := .ref (a 4)) (C := RX3) (T := TX3) (N := 8) hx hb hts ui_X3_arrive_X3 hown hK hP 0 rfl rfl 4 (by decide) (hts (.fieldLink RX3 18 "CodeLifter$Listing" "depth" "[I") (by decide +kernel)) (fun _ h9 => h9) rfl dX3_arrive_11 ?_
    refine lv_iload_n hx hb dX3_arrive_14 rfl (lv_at hl 1 rfl) ?_
    refine lv_iload_n hx hb dX3_arrive_15 rfl (lv_at hl 2 rfl) ?_
    have hi_7 : vp_in i 40 := vp_in_iff.mpr ⟨by omega, by omega⟩
    refine va_iast hx hb hK hP hD hS 3 0 rfl rfl hi_7 dX3_arrive_16 (fun H locs hP hD hS => ?_)
    have hP : va_P (dC, dI) vwCl ((gX3 cI h0 a zs zh fs fn (upd fd (Int32.toNatClampNeg i) j) ff ft fg)) H := hP
    have hD : va_D A ((gX3 cI h0 a zs zh fs fn (upd fd (Int32.toNatClampNeg i) j) ff ft fg)) := hD
    have hR_h0_depth : Rng (upd fd (Int32.toNatClampNeg i) j) 40 (-1) 6 := Rng.set hR_h0_depth (by omega)
    have hA1 : (upd fd (Int32.toNatClampNeg i) j) = aD fd i j := by unfold aD; rw [if_pos (by omega)]
    generalize (upd fd (Int32.toNatClampNeg i) j) = f_7 at *
    refine lv_aload_n hx hb dX3_arrive_17 rfl (lv_at hl 0 rfl) ?_
    refine va_get (D := (dC, dI)) (ci := 3) (v := .ref (a 4)) (C := RX3) (T := TX3) (N := 8) hx hb hts ui_X3_arrive_X3 hown hK hP 0 rfl rfl 4 (by decide) (hts (.fieldLink RX3 18 "CodeLifter$Listing" "depth" "[I") (by decide +kernel)) (fun _ h9 => h9) rfl dX3_arrive_18 ?_
    refine lv_iload_n hx hb dX3_arrive_21 rfl (lv_at hl 1 rfl) ?_
    have hi_8 : vp_in i 40 := vp_in_iff.mpr ⟨by omega, by omega⟩
    refine va_iald hx hb hK hP 3 0 rfl rfl hi_8 dX3_arrive_22 ?_
    refine lv_topi (fun v_9 e_9 => ?_)
    have r_9 : (-1) ≤ v_9.toInt ∧ v_9.toInt ≤ 6 := by rw [e_9]; exact (Rng.get hR_h0_depth) hi_8
    have q_9 : v_9.toInt = (f_7 (Int32.toNatClampNeg i)).toInt := by rw [e_9]
    refine lv_iload_n hx hb dX3_arrive_23 rfl (lv_at hl 2 rfl) ?_
    refine lv_icmp_ne (tgt := 31) hx hb dX3_arrive_24 (by decide) (fun c_10 => ?_) (fun c_10 => ?_)
    · rw [fa_eq] at c_10
      refine lv_iconst (v := 0) hx hb dX3_arrive_31 (by decide) ?_
      have hP9 := hP
      have hD9 := hD
      exact W.zret (v := 0) hx hb hr rfl (fun t ht hW => ⟨⟨0, (f_7), rfl, (by (try dsimp only); exact ⟨by omega, by first | exact hA1 | exact hA0, by first | (rw [← hA1]; omega) | (rw [← hA0]; omega)⟩), ⟨by rw [ht]; exact hP9, hD9⟩⟩, hS.F ht⟩) hS.2.2 dX3_arrive_32
    · rw [fa_eq] at c_10
      refine lv_iconst (v := 1) hx hb dX3_arrive_27 (by decide) ?_
      refine lv_goto (tgt := 32) hx hb dX3_arrive_28 (by decide) ?_
      have hP9 := hP
      have hD9 := hD
      exact W.zret (v := 1) hx hb hr rfl (fun t ht hW => ⟨⟨1, (f_7), rfl, (by (try dsimp only); exact ⟨by omega, by first | exact hA1 | exact hA0, by first | (rw [← hA1]; omega) | (rw [← hA0]; omega)⟩), ⟨by rw [ht]; exact hP9, hD9⟩⟩, hS.F ht⟩) hS.2.2 dX3_arrive_32

def us_X3_needs : List Cond := .code yX3_needs cX3_needs 1 (some .int) :: ([.initialized RX11, .static yX11_isBinary] ++ us_X11_isBinary)
set_option maxRecDepth 20000 in
theorem ugg_X3_needs_X11_isBinary : GoodIn us_X3_needs us_X11_isBinary := goodIn_sub (fun _ h => List.mem_cons_of_mem _ (List.mem_append_right _ h)) (by decide +kernel)
theorem ug_X3_needs_X11_isBinary : GoodIn us_X3_needs (us_X11_isBinary) := ugg_X3_needs_X11_isBinary
set_option maxHeartbeats 8000000 in
set_option maxRecDepth 100000 in
/-- needs -/
theorem c_X3_needs (l : Launch) (dC : Nat → ClassId) (dI : Nat → Nat → Nat) (sz : Nat) (i : Int32) : Met l yX3_needs us_X3_needs ({ frames := 1, cells := 0, slots := 0, locals := 20 }) (va_Pc [.int i] (fun U => U.heap.size = sz ∧ va_P (dC, dI) vwCl (([] : va_W)) U.heap ∧ va_K (dC, dI) vwCl [] U ∧ va_D (fun _ => True) (([] : va_W)) ∧ va_Nw (.methodLinkNest RX3 94 yX11_isBinary RX11) U)) (va_Qi (fun (r : Int32) (u : Unit) => r = sN i) (fun (u : Unit) (t : State) => va_P (dC, dI) vwCl (([] : va_W)) t.heap ∧ va_D (va_A (([] : va_W)) sz) (([] : va_W))) (va_A (([] : va_W)) sz)) 0 0 (va_A (([] : va_W)) sz) := by
  refine Met.ofW (cc := cX3_needs) (maxL := 1) (ret := (some .int)) (by decide) rfl ?_
  intro p e s m args below meth c s₁ B hml hv
  obtain ⟨rfl, hsz, hP, hK, hD0, hN_X3_94⟩ := hv
  have hx := B.exec
  have hb := B.bytes
  have hr := B.returns
  have hts := atoms_spec (ws := us_X3_needs) B.pre
  have hown : s.vm.findClass RX3 = some m.cls := findClass_of_methodNamed B.named
  have hlocks := B.notSynchronized
  subst hsz
  have hD := hD0.self (sz := s.heap.size)
  generalize hAe : va_A (([] : va_W)) s.heap.size = A at hD ⊢
  have hA : ∀ q : Nat, s.heap.size ≤ q → A q := fun q h => by rw [← hAe]; exact Or.inr h
  clear hAe hD0
  have hS : va_S A s.heap s.heap [] := va_S.rf
  have hP : va_P (dC, dI) vwCl (([] : va_W)) s.heap := hP
  have hl := lv_entry ([.int i]) (n := 1) (Nat.le_of_ble_eq_true rfl)
  rw [lg_entry_eq]
  generalize (lg_sl ([.int i]) ++ List.replicate (1 - (lg_sl ([.int i])).length) Slot.unset).toArray = ls at hl ⊢
  have hl : lv_has ls 1 [(0, .int i)] := hl
  have k_0 : (0 : Int32).toInt = 0 := by decide
  have k_1 : (1 : Int32).toInt = 1 := by decide
  have k_2 : (2 : Int32).toInt = 2 := by decide
  refine lv_iload_n hx hb dX3_needs_0 rfl (lv_at hl 0 rfl) ?_
  by_cases h_1_0 : i.toInt = 33 ∨ i.toInt = 100 ∨ i.toInt = 110 ∨ i.toInt = 111 ∨ i.toInt = 112 ∨ i.toInt = 115 ∨ i.toInt = 116 ∨ i.toInt = 122
  · refine lv_lookup (off := 83) (tgt := 84) hx hb dX3_needs_1 (by decide) (by rcases h_1_0 with h_1_0 | h_1_0 | h_1_0 | h_1_0 | h_1_0 | h_1_0 | h_1_0 | h_1_0 <;> (rw [h_1_0]; decide)) (by decide) ?_
    refine lv_iconst (v := 1) hx hb dX3_needs_84 (by decide) ?_
    have hP9 := hP
    have hD9 := hD
    exact W.iret (v := 1) hx hb hr (fun t ht hW => ⟨⟨1, (), rfl, (by (try dsimp only); unfold sN; split <;> (first | rfl | omega | (split <;> first | rfl | omega))), ⟨by rw [ht]; exact hP9, hD9⟩⟩, hS.F ht⟩) hS.2.2 dX3_needs_85
  by_cases h_1_1 : i.toInt = 119
  · refine lv_lookup (off := 85) (tgt := 86) hx hb dX3_needs_1 (by decide) (by (rw [h_1_1]; decide)) (by decide) ?_
    refine lv_iconst (v := 2) hx hb dX3_needs_86 (by decide) ?_
    have hP9 := hP
    have hD9 := hD
    exact W.iret (v := 2) hx hb hr (fun t ht hW => ⟨⟨2, (), rfl, (by (try dsimp only); unfold sN; split <;> (first | rfl | omega | (split <;> first | rfl | omega))), ⟨by rw [ht]; exact hP9, hD9⟩⟩, hS.F ht⟩) hS.2.2 dX3_needs_87
  refine lv_lookup (off := 87) (tgt := 88) hx hb dX3_needs_1 (by decide) (lk_none (by intro a ha; simp only [List.mem_cons, List.not_mem_nil, or_false] at ha; rcases ha with rfl | rfl | rfl | rfl | rfl | rfl | rfl | rfl | rfl <;> (simp only; omega))) (by decide) ?_
  refine lv_iload_n hx hb dX3_needs_88 rfl (lv_at hl 0 rfl) ?_
  have hPc := hP.sub (ws' := ([] : va_W)) [] rfl
  have hDc := hD.sub (ws' := ([] : va_W)) [] (by decide) rfl
  have hKc := hK.sub (tys' := []) [] rfl
  have hFc := va_free (wc := ([] : va_W)) hD hS hA [] rfl
  refine va_calli (va_runSN (As := [.int i]) (rest := []) ⟨hx, hb, hml, hown, hts⟩ (c_X11_isBinary l dC dI s.heap.size i ) ⟨va_cnB 1 hts ug_X3_needs_X11_isBinary rfl rfl rfl hN_X3_94 (hts (.initialized RX11) (by decide +kernel)) (by decide +kernel) ⟨Nat.le_of_ble_eq_true rfl, Nat.le_of_ble_eq_true rfl⟩, (hts (.static yX11_isBinary) (by decide +kernel)), trivial⟩ ⟨fun a U g mk q => by obtain ⟨q0, q1, qP, qK, qD⟩ := q; exact ⟨q0, q1, qP, va_K.moved (u := U) (U := U.calling g mk a) (Vm.Alike.refl U.vm) qK, qD⟩, fun U hU hW => ⟨rfl, by rw [hU], by rw [hU]; exact hPc, va_K.moved hW.alike hKc, hDc.weaken (fun _ _ _ _ => trivial)⟩⟩ rfl rfl hl.1 rfl (lv_room (Nat.le_of_ble_eq_true rfl)) dX3_needs_89 ⟨Nat.le_of_ble_eq_true rfl, Nat.le_of_ble_eq_true rfl⟩) hS (fun q _ h => hFc q h) hFc (fun r_2 u t H locs ht hvm hw hB hz1 hk1 hS => ?_)
  obtain ⟨hP1, hD1⟩ := hB
  rw [ht] at hP1
  (try dsimp only at hw hP1 hD1)
  have hw_2 := hw
  obtain ⟨hP, hD⟩ := va_join (wr := ([] : va_W)) (w1 := ([] : va_W)) hP hD [] [] rfl rfl (by decide) (by decide) hk1 hFc hP1 hD1
  have hP := hP.sub (ws' := ([] : va_W)) [] rfl
  have hD := hD.sub (ws' := ([] : va_W)) [] (by decide) rfl
  clear hPc hDc hKc hFc hk1 hz1 hP1 hD1 hw hvm ht
  refine lv_if_eq (tgt := 99) hx hb dX3_needs_92 (by decide) (fun c_3 => ?_) (fun c_3 => ?_)
  · rw [fa_eq, k_0] at c_3
    have t_3 : ¬ _ := fun h9 => absurd (hw_2.2.mpr h9) (by omega)
    clear hw_2
    refine lv_iconst (v := 0) hx hb dX3_needs_99 (by decide) ?_
    have hP9 := hP
    have hD9 := hD
    exact W.iret (v := 0) hx hb hr (fun t ht hW => ⟨⟨0, (), rfl, (by (try dsimp only); unfold sN; split <;> (first | rfl | omega | (split <;> first | rfl | omega))), ⟨by rw [ht]; exact hP9, hD9⟩⟩, hS.F ht⟩) hS.2.2 dX3_needs_100
  · rw [fa_eq, k_0] at c_3
    have t_3 := hw_2.2.mp (by have := hw_2.1; omega)
    clear hw_2
    refine lv_iconst (v := 2) hx hb dX3_needs_95 (by decide) ?_
    refine lv_goto (tgt := 100) hx hb dX3_needs_96 (by decide) ?_
    have hP9 := hP
    have hD9 := hD
    exact W.iret (v := 2) hx hb hr (fun t ht hW => ⟨⟨2, (), rfl, (by (try dsimp only); unfold sN; split <;> (first | rfl | omega | (split <;> first | rfl | omega))), ⟨by rw [ht]; exact hP9, hD9⟩⟩, hS.F ht⟩) hS.2.2 dX3_needs_100

def us_X3_gives : List Cond := .code yX3_gives cX3_gives 1 (some .int) :: ([.initialized RX11, .static yX11_isBinary] ++ us_X11_isBinary)
set_option maxRecDepth 20000 in
theorem ugg_X3_gives_X11_isBinary : GoodIn us_X3_gives us_X11_isBinary := goodIn_sub (fun _ h => List.mem_cons_of_mem _ (List.mem_append_right _ h)) (by decide +kernel)
theorem ug_X3_gives_X11_isBinary : GoodIn us_X3_gives (us_X11_isBinary) := ugg_X3_gives_X11_isBinary
set_option maxHeartbeats 8000000 in
set_option maxRecDepth 100000 in
/-- gives -/
theorem c_X3_gives (l : Launch) (dC : Nat → ClassId) (dI : Nat → Nat → Nat) (sz : Nat) (i : Int32) : Met l yX3_gives us_X3_gives ({ frames := 1, cells := 0, slots := 0, locals := 20 }) (va_Pc [.int i] (fun U => U.heap.size = sz ∧ va_P (dC, dI) vwCl (([] : va_W)) U.heap ∧ va_K (dC, dI) vwCl [] U ∧ va_D (fun _ => True) (([] : va_W)) ∧ va_Nw (.methodLinkNest RX3 94 yX11_isBinary RX11) U)) (va_Qi (fun (r : Int32) (u : Unit) => r = sG i) (fun (u : Unit) (t : State) => va_P (dC, dI) vwCl (([] : va_W)) t.heap ∧ va_D (va_A (([] : va_W)) sz) (([] : va_W))) (va_A (([] : va_W)) sz)) 0 0 (va_A (([] : va_W)) sz) := by
  refine Met.ofW (cc := cX3_gives) (maxL := 1) (ret := (some .int)) (by decide) rfl ?_
  intro p e s m args below meth c s₁ B hml hv
  obtain ⟨rfl, hsz, hP, hK, hD0, hN_X3_94⟩ := hv
  have hx := B.exec
  have hb := B.bytes
  have hr := B.returns
  have hts := atoms_spec (ws := us_X3_gives) B.pre
  have hown : s.vm.findClass RX3 = some m.cls := findClass_of_methodNamed B.named
  have hlocks := B.notSynchronized
  subst hsz
  have hD := hD0.self (sz := s.heap.size)
  generalize hAe : va_A (([] : va_W)) s.heap.size = A at hD ⊢
  have hA : ∀ q : Nat, s.heap.size ≤ q → A q := fun q h => by rw [← hAe]; exact Or.inr h
  clear hAe hD0
  have hS : va_S A s.heap s.heap [] := va_S.rf
  have hP : va_P (dC, dI) vwCl (([] : va_W)) s.heap := hP
  have hl := lv_entry ([.int i]) (n := 1) (Nat.le_of_ble_eq_true rfl)
  rw [lg_entry_eq]
  generalize (lg_sl ([.int i]) ++ List.replicate (1 - (lg_sl ([.int i])).length) Slot.unset).toArray = ls at hl ⊢
  have hl : lv_has ls 1 [(0, .int i)] := hl
  have k_0 : (0 : Int32).toInt = 0 := by decide
  have k_1 : (1 : Int32).toInt = 1 := by decide
  have k_2 : (2 : Int32).toInt = 2 := by decide
  refine lv_iload_n hx hb dX3_gives_0 rfl (lv_at hl 0 rfl) ?_
  by_cases h_1_0 : i.toInt = 33 ∨ i.toInt = 105 ∨ i.toInt = 107 ∨ i.toInt = 108 ∨ i.toInt = 110
  · refine lv_lookup (off := 67) (tgt := 68) hx hb dX3_gives_1 (by decide) (by rcases h_1_0 with h_1_0 | h_1_0 | h_1_0 | h_1_0 | h_1_0 <;> (rw [h_1_0]; decide)) (by decide) ?_
    refine lv_iconst (v := 1) hx hb dX3_gives_68 (by decide) ?_
    have hP9 := hP
    have hD9 := hD
    exact W.iret (v := 1) hx hb hr (fun t ht hW => ⟨⟨1, (), rfl, (by (try dsimp only); unfold sG; split <;> (first | rfl | omega | (split <;> first | rfl | omega))), ⟨by rw [ht]; exact hP9, hD9⟩⟩, hS.F ht⟩) hS.2.2 dX3_gives_69
  by_cases h_1_1 : i.toInt = 100 ∨ i.toInt = 119
  · refine lv_lookup (off := 69) (tgt := 70) hx hb dX3_gives_1 (by decide) (by rcases h_1_1 with h_1_1 | h_1_1 <;> (rw [h_1_1]; decide)) (by decide) ?_
    refine lv_iconst (v := 2) hx hb dX3_gives_70 (by decide) ?_
    have hP9 := hP
    have hD9 := hD
    exact W.iret (v := 2) hx hb hr (fun t ht hW => ⟨⟨2, (), rfl, (by (try dsimp only); unfold sG; split <;> (first | rfl | omega | (split <;> first | rfl | omega))), ⟨by rw [ht]; exact hP9, hD9⟩⟩, hS.F ht⟩) hS.2.2 dX3_gives_71
  refine lv_lookup (off := 71) (tgt := 72) hx hb dX3_gives_1 (by decide) (lk_none (by intro a ha; simp only [List.mem_cons, List.not_mem_nil, or_false] at ha; rcases ha with rfl | rfl | rfl | rfl | rfl | rfl | rfl <;> (simp only; omega))) (by decide) ?_
  refine lv_iload_n hx hb dX3_gives_72 rfl (lv_at hl 0 rfl) ?_
  have hPc := hP.sub (ws' := ([] : va_W)) [] rfl
  have hDc := hD.sub (ws' := ([] : va_W)) [] (by decide) rfl
  have hKc := hK.sub (tys' := []) [] rfl
  have hFc := va_free (wc := ([] : va_W)) hD hS hA [] rfl
  refine va_calli (va_runSN (As := [.int i]) (rest := []) ⟨hx, hb, hml, hown, hts⟩ (c_X11_isBinary l dC dI s.heap.size i ) ⟨va_cnB 1 hts ug_X3_gives_X11_isBinary rfl rfl rfl hN_X3_94 (hts (.initialized RX11) (by decide +kernel)) (by decide +kernel) ⟨Nat.le_of_ble_eq_true rfl, Nat.le_of_ble_eq_true rfl⟩, (hts (.static yX11_isBinary) (by decide +kernel)), trivial⟩ ⟨fun a U g mk q => by obtain ⟨q0, q1, qP, qK, qD⟩ := q; exact ⟨q0, q1, qP, va_K.moved (u := U) (U := U.calling g mk a) (Vm.Alike.refl U.vm) qK, qD⟩, fun U hU hW => ⟨rfl, by rw [hU], by rw [hU]; exact hPc, va_K.moved hW.alike hKc, hDc.weaken (fun _ _ _ _ => trivial)⟩⟩ rfl rfl hl.1 rfl (lv_room (Nat.le_of_ble_eq_true rfl)) dX3_gives_73 ⟨Nat.le_of_ble_eq_true rfl, Nat.le_of_ble_eq_true rfl⟩) hS (fun q _ h => hFc q h) hFc (fun r_2 u t H locs ht hvm hw hB hz1 hk1 hS => ?_)
  obtain ⟨hP1, hD1⟩ := hB
  rw [ht] at hP1
  (try dsimp only at hw hP1 hD1)
  have hw_2 := hw
  obtain ⟨hP, hD⟩ := va_join (wr := ([] : va_W)) (w1 := ([] : va_W)) hP hD [] [] rfl rfl (by decide) (by decide) hk1 hFc hP1 hD1
  have hP := hP.sub (ws' := ([] : va_W)) [] rfl
  have hD := hD.sub (ws' := ([] : va_W)) [] (by decide) rfl
  clear hPc hDc hKc hFc hk1 hz1 hP1 hD1 hw hvm ht
  refine lv_if_eq (tgt := 83) hx hb dX3_gives_76 (by decide) (fun c_3 => ?_) (fun c_3 => ?_)
  · rw [fa_eq, k_0] at c_3
    have t_3 : ¬ _ := fun h9 => absurd (hw_2.2.mpr h9) (by omega)
    clear hw_2
    refine lv_iconst (v := 0) hx hb dX3_gives_83 (by decide) ?_
    have hP9 := hP
    have hD9 := hD
    exact W.iret (v := 0) hx hb hr (fun t ht hW => ⟨⟨0, (), rfl, (by (try dsimp only); unfold sG; split <;> (first | rfl | omega | (split <;> first | rfl | omega))), ⟨by rw [ht]; exact hP9, hD9⟩⟩, hS.F ht⟩) hS.2.2 dX3_gives_84
  · rw [fa_eq, k_0] at c_3
    have t_3 := hw_2.2.mp (by have := hw_2.1; omega)
    clear hw_2
    refine lv_iconst (v := 1) hx hb dX3_gives_79 (by decide) ?_
    refine lv_goto (tgt := 84) hx hb dX3_gives_80 (by decide) ?_
    have hP9 := hP
    have hD9 := hD
    exact W.iret (v := 1) hx hb hr (fun t ht hW => ⟨⟨1, (), rfl, (by (try dsimp only); unfold sG; split <;> (first | rfl | omega | (split <;> first | rfl | omega))), ⟨by rw [ht]; exact hP9, hD9⟩⟩, hS.F ht⟩) hS.2.2 dX3_gives_84

def us_X3_depthBehind : List Cond := .code yX3_depthBehind cX3_depthBehind 2 (some .int) :: ((([.fieldLink RX3 18 "CodeLifter$Listing" "depth" "[I", .fieldLink RX3 9 "CodeLifter$Listing" "sign" "[I", .methodLink RX3 63 yX3_needs, .static yX3_needs, .initialized RX3, .methodLink RX3 82 yX3_gives, .static yX3_gives] ++ wsX30) ++ us_X3_needs) ++ us_X3_gives)
theorem ui_X3_depthBehind_X3 : ∀ w ∈ wsX30, w ∈ us_X3_depthBehind := fun _ h => List.mem_cons_of_mem _ (List.mem_append_left _ (List.mem_append_left _ (List.mem_append_right _ h)))
set_option maxRecDepth 20000 in
theorem ugg_X3_depthBehind_X3_needs : GoodIn us_X3_depthBehind us_X3_needs := goodIn_sub (fun _ h => List.mem_cons_of_mem _ (List.mem_append_left _ (List.mem_append_right _ h))) (by decide +kernel)
set_option maxRecDepth 20000 in
theorem ug_X3_depthBehind_X3_needs : GoodIn us_X3_depthBehind (va_wsS RX3 63 yX3_needs us_X3_needs) := goodIn_app (goodIn_of _ (by decide +kernel)) ugg_X3_depthBehind_X3_needs
set_option maxRecDepth 20000 in
theorem ugg_X3_depthBehind_X3_gives : GoodIn us_X3_depthBehind us_X3_gives := goodIn_sub (fun _ h => List.mem_cons_of_mem _ (List.mem_append_right _ h)) (by decide +kernel)
set_option maxRecDepth 20000 in
theorem ug_X3_depthBehind_X3_gives : GoodIn us_X3_depthBehind (va_wsS RX3 82 yX3_gives us_X3_gives) := goodIn_app (goodIn_of _ (by decide +kernel)) ugg_X3_depthBehind_X3_gives
set_option maxHeartbeats 8000000 in
set_option maxRecDepth 100000 in
/-- depthBehind -/
theorem c_X3_depthBehind (l : Launch) (dC : Nat → ClassId) (dI : Nat → Nat → Nat) (cI : ClassId) (sz : Nat) (h0 : Nat) (a : Nat → Nat) (zs : Int32) (zh : Int32) (fs : Nat → Int32) (fn : Nat → Int32) (fd : Nat → Int32) (ff : Nat → Int32) (ft : Nat → Int32) (fg : Nat → Int32) (i : Int32) (hi : 0 ≤ i.toInt ∧ i.toInt < 40) (hR_h0_depth : Rng fd 40 (-1) 6) : Met l yX3_depthBehind us_X3_depthBehind ({ frames := 2, cells := 0, slots := 0, locals := 40 }) (va_Pc [.ref h0, .int i] (fun U => U.heap.size = sz ∧ va_P (dC, dI) vwCl ((gX3 cI h0 a zs zh fs fn fd ff ft fg)) U.heap ∧ va_K (dC, dI) vwCl [(cI, .int)] U ∧ va_D (fun _ => True) ((gX3 cI h0 a zs zh fs fn fd ff ft fg)) ∧ va_Nw (.methodLinkNest RX3 94 yX11_isBinary RX11) U)) (va_Qi (fun (r : Int32) (u : Unit) => r = dB fs fd i ∧ r.toInt = (fd i.toNatClampNeg).toInt - (sN (fs i.toNatClampNeg)).toInt + (sG (fs i.toNatClampNeg)).toInt) (fun (u : Unit) (t : State) => va_P (dC, dI) vwCl ((gX3 cI h0 a zs zh fs fn fd ff ft fg)) t.heap ∧ va_D (va_A ((gX3 cI h0 a zs zh fs fn fd ff ft fg)) sz) ((gX3 cI h0 a zs zh fs fn fd ff ft fg))) (va_A ((gX3 cI h0 a zs zh fs fn fd ff ft fg)) sz)) 0 0 (va_A ((gX3 cI h0 a zs zh fs fn fd ff ft fg)) sz) := by
  refine Met.ofW (cc := cX3_depthBehind) (maxL := 2) (ret := (some .int)) (by decide) rfl ?_
  intro p e s m args below meth c s₁ B hml hv
  obtain ⟨rfl, hsz, hP, hK, hD0, hN_X3_94⟩ := hv
  have hx := B.exec
  have hb := B.bytes
  have hr := B.returns
  have hts := atoms_spec (ws := us_X3_depthBehind) B.pre
  have hown : s.vm.findClass RX3 = some m.cls := findClass_of_methodNamed B.named
  have hlocks := B.notSynchronized
  subst hsz
  have hD := hD0.self (sz := s.heap.size)
  generalize hAe : va_A ((gX3 cI h0 a zs zh fs fn fd ff ft fg)) s.heap.size = A at hD ⊢
  have hA : ∀ q : Nat, s.heap.size ≤ q → A q := fun q h => by rw [← hAe]; exact Or.inr h
  clear hAe hD0
  have hS : va_S A s.heap s.heap [] := va_S.rf
  have hP : va_P (dC, dI) vwCl ((gX3 cI h0 a zs zh fs fn fd ff ft fg)) s.heap := hP
  have hl := lv_entry ([.ref h0, .int i]) (n := 2) (Nat.le_of_ble_eq_true rfl)
  rw [lg_entry_eq]
  generalize (lg_sl ([.ref h0, .int i]) ++ List.replicate (2 - (lg_sl ([.ref h0, .int i])).length) Slot.unset).toArray = ls at hl ⊢
  have hl : lv_has ls 2 [(0, .ref h0), (1, .int i)] := hl
  refine lv_aload_n hx hb dX3_depthBehind_0 rfl (lv_at hl 0 rfl) ?_
  refine va_get (D := (dC, dI)) (ci := 3) (v := .ref (a 4)) (C := RX3) (T := TX3) (N := 8) hx hb hts ui_X3_depthBehind_X3 hown hK hP 0 rfl rfl 4 (by decide) (hts (.fieldLink RX3 18 "CodeLifter$Listing" "depth" "[I") (by decide +kernel)) (fun _ h9 => h9) rfl dX3_depthBehind_1 ?_
  refine lv_iload_n hx hb dX3_depthBehind_4 rfl (lv_at hl 1 rfl) ?_
  have hi_1 : vp_in i 40 := vp_in_iff.mpr ⟨by omega, by omega⟩
  refine va_iald hx hb hK hP 3 0 rfl rfl hi_1 dX3_depthBehind_5 ?_
  refine lv_topi (fun v_2 e_2 => ?_)
  have r_2 : (-1) ≤ v_2.toInt ∧ v_2.toInt ≤ 6 := by rw [e_2]; exact (Rng.get hR_h0_depth) hi_1
  have q_2 : v_2.toInt = (fd (Int32.toNatClampNeg i)).toInt := by rw [e_2]
  refine lv_aload_n hx hb dX3_depthBehind_6 rfl (lv_at hl 0 rfl) ?_
  refine va_get (D := (dC, dI)) (ci := 3) (v := .ref (a 2)) (C := RX3) (T := TX3) (N := 8) hx hb hts ui_X3_depthBehind_X3 hown hK hP 0 rfl rfl 2 (by decide) (hts (.fieldLink RX3 9 "CodeLifter$Listing" "sign" "[I") (by decide +kernel)) (fun _ h9 => h9) rfl dX3_depthBehind_7 ?_
  refine lv_iload_n hx hb dX3_depthBehind_10 rfl (lv_at hl 1 rfl) ?_
  have hi_3 : vp_in i 40 := vp_in_iff.mpr ⟨by omega, by omega⟩
  refine va_iald hx hb hK hP 1 0 rfl rfl hi_3 dX3_depthBehind_11 ?_
  refine lv_topi (fun v_4 e_4 => ?_)
  have q_4 : v_4.toInt = (fs (Int32.toNatClampNeg i)).toInt := by rw [e_4]
  have hPc := hP.sub (ws' := ([] : va_W)) [] rfl
  have hDc := hD.sub (ws' := ([] : va_W)) [] (by decide) rfl
  have hKc := hK.sub (tys' := []) [] rfl
  have hFc := va_free (wc := ([] : va_W)) hD hS hA [] rfl
  refine va_calli (va_runS (As := [.int v_4]) (rest := [.int v_2]) ⟨hx, hb, hml, hown, hts⟩ (c_X3_needs l dC dI s.heap.size v_4 ) (va_cwS 1 hts ug_X3_depthBehind_X3_needs rfl rfl rfl (by decide +kernel) ⟨Nat.le_of_ble_eq_true rfl, Nat.le_of_ble_eq_true rfl⟩) ⟨fun a U g mk q => by obtain ⟨q0, q1, qP, qK, qD, qE0⟩ := q; exact ⟨q0, q1, qP, va_K.moved (u := U) (U := U.calling g mk a) (Vm.Alike.refl U.vm) qK, qD, va_Nw.same rfl rfl qE0⟩, fun U hU hW => ⟨rfl, by rw [hU], by rw [hU]; exact hPc, va_K.moved hW.alike hKc, hDc.weaken (fun _ _ _ _ => trivial), va_Nw.warmM hW hN_X3_94⟩⟩ rfl rfl hl.1 rfl (lv_room (Nat.le_of_ble_eq_true rfl)) dX3_depthBehind_12 ⟨Nat.le_of_ble_eq_true rfl, Nat.le_of_ble_eq_true rfl⟩) hS (fun q _ h => hFc q h) hFc (fun r_5 u t H locs ht hvm hw hB hz1 hk1 hS => ?_)
  obtain ⟨hP1, hD1⟩ := hB
  rw [ht] at hP1
  (try dsimp only at hw hP1 hD1)
  have hw_5 := hw
  obtain ⟨hP, hD⟩ := va_join (wr := (gX3 cI h0 a zs zh fs fn fd ff ft fg)) (w1 := ([] : va_W)) hP hD [] [0, 1, 2, 3, 4, 5, 6] rfl rfl (by decide) (by decide) hk1 hFc hP1 hD1
  have hP := hP.sub (ws' := (gX3 cI h0 a zs zh fs fn fd ff ft fg)) [0, 1, 2, 3, 4, 5, 6] rfl
  have hD := hD.sub (ws' := (gX3 cI h0 a zs zh fs fn fd ff ft fg)) [0, 1, 2, 3, 4, 5, 6] (by decide) rfl
  clear hPc hDc hKc hFc hk1 hz1 hP1 hD1 hw hvm ht
  have g_5 : 0 ≤ r_5.toInt ∧ r_5.toInt ≤ 2 := by rw [hw_5]; exact sN_rng _
  refine lv_isub hx hb dX3_depthBehind_15 ?_
  refine lv_topi (fun v_6 e_6 => ?_)
  have r_6 : v_6.toInt = v_2.toInt - r_5.toInt := by rw [e_6]; exact fb_subI (by omega) (by omega)
  refine lv_aload_n hx hb dX3_depthBehind_16 rfl (lv_at hl 0 rfl) ?_
  refine va_get (D := (dC, dI)) (ci := 3) (v := .ref (a 2)) (C := RX3) (T := TX3) (N := 8) hx hb hts ui_X3_depthBehind_X3 hown hK hP 0 rfl rfl 2 (by decide) (hts (.fieldLink RX3 9 "CodeLifter$Listing" "sign" "[I") (by decide +kernel)) (fun _ h9 => h9) rfl dX3_depthBehind_17 ?_
  refine lv_iload_n hx hb dX3_depthBehind_20 rfl (lv_at hl 1 rfl) ?_
  have hi_7 : vp_in i 40 := vp_in_iff.mpr ⟨by omega, by omega⟩
  refine va_iald hx hb hK hP 1 0 rfl rfl hi_7 dX3_depthBehind_21 ?_
  refine lv_topi (fun v_8 e_8 => ?_)
  have q_8 : v_8.toInt = (fs (Int32.toNatClampNeg i)).toInt := by rw [e_8]
  have hPc := hP.sub (ws' := ([] : va_W)) [] rfl
  have hDc := hD.sub (ws' := ([] : va_W)) [] (by decide) rfl
  have hKc := hK.sub (tys' := []) [] rfl
  have hFc := va_free (wc := ([] : va_W)) hD hS hA [] rfl
  refine va_calli (va_runS (As := [.int v_8]) (rest := [.int v_6]) ⟨hx, hb, hml, hown, hts⟩ (c_X3_gives l dC dI H.size v_8 ) (va_cwS 1 hts ug_X3_depthBehind_X3_gives rfl rfl rfl (by decide +kernel) ⟨Nat.le_of_ble_eq_true rfl, Nat.le_of_ble_eq_true rfl⟩) ⟨fun a U g mk q => by obtain ⟨q0, q1, qP, qK, qD, qE0⟩ := q; exact ⟨q0, q1, qP, va_K.moved (u := U) (U := U.calling g mk a) (Vm.Alike.refl U.vm) qK, qD, va_Nw.same rfl rfl qE0⟩, fun U hU hW => ⟨rfl, by rw [hU], by rw [hU]; exact hPc, va_K.moved hW.alike hKc, hDc.weaken (fun _ _ _ _ => trivial), va_Nw.warmM hW hN_X3_94⟩⟩ rfl rfl hl.1 rfl (lv_room (Nat.le_of_ble_eq_true rfl)) dX3_depthBehind_22 ⟨Nat.le_of_ble_eq_true rfl, Nat.le_of_ble_eq_true rfl⟩) hS (fun q _ h => hFc q h) hFc (fun r_9 u t H locs ht hvm hw hB hz1 hk1 hS => ?_)
  obtain ⟨hP1, hD1⟩ := hB
  rw [ht] at hP1
  (try dsimp only at hw hP1 hD1)
  have hw_9 := hw
  obtain ⟨hP, hD⟩ := va_join (wr := (gX3 cI h0 a zs zh fs fn fd ff ft fg)) (w1 := ([] : va_W)) hP hD [] [0, 1, 2, 3, 4, 5, 6] rfl rfl (by decide) (by decide) hk1 hFc hP1 hD1
  have hP := hP.sub (ws' := (gX3 cI h0 a zs zh fs fn fd ff ft fg)) [0, 1, 2, 3, 4, 5, 6] rfl
  have hD := hD.sub (ws' := (gX3 cI h0 a zs zh fs fn fd ff ft fg)) [0, 1, 2, 3, 4, 5, 6] (by decide) rfl
  clear hPc hDc hKc hFc hk1 hz1 hP1 hD1 hw hvm ht
  have g_9 : 0 ≤ r_9.toInt ∧ r_9.toInt ≤ 2 := by rw [hw_9]; exact sG_rng _
  refine lv_iadd hx hb dX3_depthBehind_25 ?_
  refine lv_topi (fun v_10 e_10 => ?_)
  have r_10 : v_10.toInt = v_6.toInt + r_9.toInt := by rw [e_10]; exact fb_addI (by omega) (by omega)
  have hP9 := hP
  have hD9 := hD
  exact W.iret (v := v_10) hx hb hr (fun t ht hW => ⟨⟨v_10, (), rfl, (by (try dsimp only); exact ⟨by subst_vars; rfl, by subst_vars; omega⟩), ⟨by rw [ht]; exact hP9, hD9⟩⟩, hS.F ht⟩) hS.2.2 dX3_depthBehind_26

def us_X11_isIn : List Cond := .code yX11_isIn cX11_isIn 3 (some .boolean) :: []
set_option maxHeartbeats 8000000 in
set_option maxRecDepth 100000 in
/-- isIn -/
theorem c_X11_isIn (l : Launch) (dC : Nat → ClassId) (dI : Nat → Nat → Nat) (sz : Nat) (x : Int64) (i : Int32) : Met l yX11_isIn us_X11_isIn ({ frames := 0, cells := 0, slots := 0, locals := 0 }) (va_Pc [.long x, .int i] (fun U => U.heap.size = sz ∧ va_P (dC, dI) vwCl (([] : va_W)) U.heap ∧ va_K (dC, dI) vwCl [] U ∧ va_D (fun _ => True) (([] : va_W)))) (va_Qi (fun (r : Int32) (u : Unit) => (r.toInt = 0 ∨ r.toInt = 1) ∧ (0 ≤ i.toInt → i.toInt < 64 → (r.toInt = 1 ↔ tb x i.toInt.toNat = true))) (fun (u : Unit) (t : State) => va_P (dC, dI) vwCl (([] : va_W)) t.heap ∧ va_D (va_A (([] : va_W)) sz) (([] : va_W))) (va_A (([] : va_W)) sz)) 0 0 (va_A (([] : va_W)) sz) := by
  refine Met.ofW (cc := cX11_isIn) (maxL := 3) (ret := (some .boolean)) (by decide) rfl ?_
  intro p e s m args below meth c s₁ B hml hv
  obtain ⟨rfl, hsz, hP, hK, hD0⟩ := hv
  have hx := B.exec
  have hb := B.bytes
  have hr := B.returns
  have hts := atoms_spec (ws := us_X11_isIn) B.pre
  have hown : s.vm.findClass RX11 = some m.cls := findClass_of_methodNamed B.named
  have hlocks := B.notSynchronized
  subst hsz
  have hD := hD0.self (sz := s.heap.size)
  generalize hAe : va_A (([] : va_W)) s.heap.size = A at hD ⊢
  have hA : ∀ q : Nat, s.heap.size ≤ q → A q := fun q h => by rw [← hAe]; exact Or.inr h
  clear hAe hD0
  have hS : va_S A s.heap s.heap [] := va_S.rf
  have hP : va_P (dC, dI) vwCl (([] : va_W)) s.heap := hP
  have hl := lv_entry ([.long x, .int i]) (n := 3) (Nat.le_of_ble_eq_true rfl)
  rw [lg_entry_eq]
  generalize (lg_sl ([.long x, .int i]) ++ List.replicate (3 - (lg_sl ([.long x, .int i])).length) Slot.unset).toArray = ls at hl ⊢
  have hl : lv_has ls 3 [(0, .long x), (2, .int i)] := hl
  have k_0 : (0 : Int32).toInt = 0 := by decide
  have k_1 : (1 : Int32).toInt = 1 := by decide
  refine lv_lload_n hx hb dX11_isIn_0 rfl (lv_at hl 0 rfl) ?_
  refine lv_iload_n hx hb dX11_isIn_1 rfl (lv_at hl 1 rfl) ?_
  refine lv_lushr hx hb dX11_isIn_2 rfl ?_
  refine lv_topl (fun v_1 e_1 => ?_)
  refine lv_lconst (v := 1) hx hb dX11_isIn_3 rfl ?_
  refine lv_land hx hb dX11_isIn_4 ?_
  refine lv_topl (fun v_2 e_2 => ?_)
  refine lv_lconst (v := 0) hx hb dX11_isIn_5 rfl ?_
  refine W.lcmp hx hb dX11_isIn_6 ?_
  refine lv_topi (fun v_3 e_3 => ?_)
  refine lv_if_eq (tgt := 14) hx hb dX11_isIn_7 (by decide) (fun c_4 => ?_) (fun c_4 => ?_)
  · rw [fa_eq, k_0] at c_4
    refine lv_iconst (v := 0) hx hb dX11_isIn_14 (by decide) ?_
    have hP9 := hP
    have hD9 := hD
    exact W.zret (v := 0) hx hb hr rfl (fun t ht hW => ⟨⟨0, (), rfl, (by (try dsimp only); exact ⟨by omega, fun h0 h1 => by rw [lg_cmp_ne0 e_3, e_2, e_1, tb_sh h0 h1] at c_4; first | (exact ⟨fun _ => by rw [Bool.not_eq_false] at c_4; exact c_4, fun _ => k_1⟩) | (exact ⟨fun h => by omega, fun h => by rw [h] at c_4; exact absurd c_4 (by decide)⟩)⟩), ⟨by rw [ht]; exact hP9, hD9⟩⟩, hS.F ht⟩) hS.2.2 dX11_isIn_15
  · rw [fa_eq, k_0] at c_4
    refine lv_iconst (v := 1) hx hb dX11_isIn_10 (by decide) ?_
    refine lv_goto (tgt := 15) hx hb dX11_isIn_11 (by decide) ?_
    have hP9 := hP
    have hD9 := hD
    exact W.zret (v := 1) hx hb hr rfl (fun t ht hW => ⟨⟨1, (), rfl, (by (try dsimp only); exact ⟨by omega, fun h0 h1 => by rw [lg_cmp_ne0 e_3, e_2, e_1, tb_sh h0 h1] at c_4; first | (exact ⟨fun _ => by rw [Bool.not_eq_false] at c_4; exact c_4, fun _ => k_1⟩) | (exact ⟨fun h => by omega, fun h => by rw [h] at c_4; exact absurd c_4 (by decide)⟩)⟩), ⟨by rw [ht]; exact hP9, hD9⟩⟩, hS.F ht⟩) hS.2.2 dX11_isIn_15

def us_X3_lowestOpen : List Cond := .code yX3_lowestOpen cX3_lowestOpen 4 (some .int) :: (([.fieldLink RX3 30 "CodeLifter$Listing" "size" "I", .fieldLink RX3 18 "CodeLifter$Listing" "depth" "[I", .initialized RX11, .static yX11_isIn] ++ wsX30) ++ us_X11_isIn)
theorem ui_X3_lowestOpen_X3 : ∀ w ∈ wsX30, w ∈ us_X3_lowestOpen := fun _ h => List.mem_cons_of_mem _ (List.mem_append_left _ (List.mem_append_right _ h))
set_option maxRecDepth 20000 in
theorem ugg_X3_lowestOpen_X11_isIn : GoodIn us_X3_lowestOpen us_X11_isIn := goodIn_sub (fun _ h => List.mem_cons_of_mem _ (List.mem_append_right _ h)) (by decide +kernel)
theorem ug_X3_lowestOpen_X11_isIn : GoodIn us_X3_lowestOpen (us_X11_isIn) := ugg_X3_lowestOpen_X11_isIn
set_option maxHeartbeats 8000000 in
set_option maxRecDepth 100000 in
/-- lowestOpen -/
theorem c_X3_lowestOpen (l : Launch) (dC : Nat → ClassId) (dI : Nat → Nat → Nat) (cI : ClassId) (sz : Nat) (h0 : Nat) (a : Nat → Nat) (zs : Int32) (zh : Int32) (fs : Nat → Int32) (fn : Nat → Int32) (fd : Nat → Int32) (ff : Nat → Int32) (ft : Nat → Int32) (fg : Nat → Int32) (x : Int64) (hzs : 0 ≤ zs.toInt ∧ zs.toInt ≤ 40) : Met l yX3_lowestOpen us_X3_lowestOpen ({ frames := 1, cells := 0, slots := 0, locals := 22 }) (va_Pc [.ref h0, .long x] (fun U => U.heap.size = sz ∧ va_P (dC, dI) vwCl ((gX3 cI h0 a zs zh fs fn fd ff ft fg)) U.heap ∧ va_K (dC, dI) vwCl [(cI, .int)] U ∧ va_D (fun _ => True) ((gX3 cI h0 a zs zh fs fn fd ff ft fg)) ∧ va_Nw (.methodLinkNest RX3 59 yX11_isIn RX11) U)) (va_Qi (fun (r : Int32) (u : Unit) => (r.toInt = -1 ∧ (∀ j : Nat, (j : Int) < zs.toInt → (fd j).toInt = -1 ∨ tb x j = true)) ∨ (0 ≤ r.toInt ∧ r.toInt < zs.toInt ∧ (fd r.toNatClampNeg).toInt ≠ -1 ∧ tb x r.toInt.toNat = false)) (fun (u : Unit) (t : State) => va_P (dC, dI) vwCl ((gX3 cI h0 a zs zh fs fn fd ff ft fg)) t.heap ∧ va_D (va_A ((gX3 cI h0 a zs zh fs fn fd ff ft fg)) sz) ((gX3 cI h0 a zs zh fs fn fd ff ft fg))) (va_A ((gX3 cI h0 a zs zh fs fn fd ff ft fg)) sz)) 0 0 (va_A ((gX3 cI h0 a zs zh fs fn fd ff ft fg)) sz) := by
  refine Met.ofW (cc := cX3_lowestOpen) (maxL := 4) (ret := (some .int)) (by decide) rfl ?_
  intro p e s m args below meth c s₁ B hml hv
  obtain ⟨rfl, hsz, hP, hK, hD0, hN_X3_59⟩ := hv
  have hx := B.exec
  have hb := B.bytes
  have hr := B.returns
  have hts := atoms_spec (ws := us_X3_lowestOpen) B.pre
  have hown : s.vm.findClass RX3 = some m.cls := findClass_of_methodNamed B.named
  have hlocks := B.notSynchronized
  subst hsz
  have hD := hD0.self (sz := s.heap.size)
  generalize hAe : va_A ((gX3 cI h0 a zs zh fs fn fd ff ft fg)) s.heap.size = A at hD ⊢
  have hA : ∀ q : Nat, s.heap.size ≤ q → A q := fun q h => by rw [← hAe]; exact Or.inr h
  clear hAe hD0
  have hS : va_S A s.heap s.heap [] := va_S.rf
  have hP : va_P (dC, dI) vwCl ((gX3 cI h0 a zs zh fs fn fd ff ft fg)) s.heap := hP
  have hl := lv_entry ([.ref h0, .long x]) (n := 4) (Nat.le_of_ble_eq_true rfl)
  rw [lg_entry_eq]
  generalize (lg_sl ([.ref h0, .long x]) ++ List.replicate (4 - (lg_sl ([.ref h0, .long x])).length) Slot.unset).toArray = ls at hl ⊢
  have hl : lv_has ls 4 [(0, .ref h0), (1, .long x)] := hl
  have k_m1 : ((-1) : Int32).toInt = -1 := by decide
  have k_0 : (0 : Int32).toInt = 0 := by decide
  have k_1 : (1 : Int32).toInt = 1 := by decide
  refine lv_iconst (v := 0) hx hb dX3_lowestOpen_0 (by decide) ?_
  refine lv_istore_n (lv' := [(3, .int 0), (0, .ref h0), (1, .long x)]) hx hb dX3_lowestOpen_1 rfl hl (by decide) rfl (fun ls hl => ?_)
  refine loop_rule (I := fun n H locs ls => ∃ (x3_1 : Int32), n = (zs.toInt - x3_1.toInt).toNat ∧ (0 ≤ x3_1.toInt ∧ x3_1.toInt ≤ zs.toInt) ∧ (∀ j : Nat, (j : Int) < x3_1.toInt → (fd j).toInt = -1 ∨ tb x j = true) ∧ va_P (dC, dI) vwCl ((gX3 cI h0 a zs zh fs fn fd ff ft fg)) H ∧ va_D A ((gX3 cI h0 a zs zh fs fn fd ff ft fg)) ∧ va_S A s.heap H locs ∧ lv_has ls 4 [(3, .int x3_1), (0, .ref h0), (1, .long x)]) ?_ _ _ _ _ ⟨0, rfl, (by omega), (all_none k_0), hP, hD, hS, hl⟩
  clear hP hD hS hl
  intro n H locs ls hI ih
  obtain ⟨x3_1, hn_1, hq, hL, hP, hD, hS, hl⟩ := hI
  refine lv_iload_n hx hb dX3_lowestOpen_2 rfl (lv_at hl 0 rfl) ?_
  refine lv_aload_n hx hb dX3_lowestOpen_3 rfl (lv_at hl 1 rfl) ?_
  refine va_get (D := (dC, dI)) (ci := 3) (v := .int zs) (C := RX3) (T := TX3) (N := 8) hx hb hts ui_X3_lowestOpen_X3 hown hK hP 0 rfl rfl 0 (by decide) (hts (.fieldLink RX3 30 "CodeLifter$Listing" "size" "I") (by decide +kernel)) (fun _ h9 => h9) rfl dX3_lowestOpen_4 ?_
  refine lv_icmp_ge (tgt := 36) hx hb dX3_lowestOpen_7 (by decide) (fun c_2 => ?_) (fun c_2 => ?_)
  · rw [fa_le] at c_2
    refine lv_iconst (v := (-1)) hx hb dX3_lowestOpen_36 (by decide) ?_
    have hP9 := hP
    have hD9 := hD
    exact W.iret (v := (-1)) hx hb hr (fun t ht hW => ⟨⟨(-1), (), rfl, (Or.inl ⟨by omega, fun j hj => hL j (by omega)⟩), ⟨by rw [ht]; exact hP9, hD9⟩⟩, hS.F ht⟩) hS.2.2 dX3_lowestOpen_37
  · rw [fa_le] at c_2
    refine lv_aload_n hx hb dX3_lowestOpen_10 rfl (lv_at hl 1 rfl) ?_
    refine va_get (D := (dC, dI)) (ci := 3) (v := .ref (a 4)) (C := RX3) (T := TX3) (N := 8) hx hb hts ui_X3_lowestOpen_X3 hown hK hP 0 rfl rfl 4 (by decide) (hts (.fieldLink RX3 18 "CodeLifter$Listing" "depth" "[I") (by decide +kernel)) (fun _ h9 => h9) rfl dX3_lowestOpen_11 ?_
    refine lv_iload_n hx hb dX3_lowestOpen_14 rfl (lv_at hl 0 rfl) ?_
    have hi_3 : vp_in x3_1 40 := vp_in_iff.mpr ⟨by omega, by omega⟩
    refine va_iald hx hb hK hP 3 0 rfl rfl hi_3 dX3_lowestOpen_15 ?_
    refine lv_topi (fun v_4 e_4 => ?_)
    have q_4 : v_4.toInt = (fd (Int32.toNatClampNeg x3_1)).toInt := by rw [e_4]
    refine lv_iconst (v := (-1)) hx hb dX3_lowestOpen_16 (by decide) ?_
    refine lv_icmp_eq (tgt := 30) hx hb dX3_lowestOpen_17 (by decide) (fun c_5 => ?_) (fun c_5 => ?_)
    · rw [fa_eq, k_m1] at c_5
      obtain ⟨v_6, e_6⟩ : ∃ y : Int32, y = x3_1 + 1 := ⟨_, rfl⟩
      have r_6 : v_6.toInt = x3_1.toInt + 1 := by rw [e_6]; exact fb_addI (by omega) (by omega)
      refine lv_iinc (v := v_6) (lv' := [(3, .int v_6), (0, .ref h0), (1, .long x)]) hx hb dX3_lowestOpen_30 hl (k := 0) rfl e_6.symm (by decide) rfl (fun ls hl => ?_)
      refine lv_goto (tgt := 2) hx hb dX3_lowestOpen_33 (by decide) ?_
      exact ih _ (by rw [hn_1]; omega) _ _ _ ⟨v_6, rfl, (by omega), (all_step hL r_6 (by omega) (by first | exact Or.inl (by omega) | exact Or.inr ((hw_7.2 (by omega) (by omega)).1 (by omega)))), hP, hD, hS, (lv_sub hl [0, 1, 2] rfl)⟩
    · rw [fa_eq, k_m1] at c_5
      refine lv_lload_n hx hb dX3_lowestOpen_20 rfl (lv_at hl 2 rfl) ?_
      refine lv_iload_n hx hb dX3_lowestOpen_21 rfl (lv_at hl 0 rfl) ?_
      have hPc := hP.sub (ws' := ([] : va_W)) [] rfl
      have hDc := hD.sub (ws' := ([] : va_W)) [] (by decide) rfl
      have hKc := hK.sub (tys' := []) [] rfl
      have hFc := va_free (wc := ([] : va_W)) hD hS hA [] rfl
      refine va_calli (va_runSN (As := [.long x, .int x3_1]) (rest := []) ⟨hx, hb, hml, hown, hts⟩ (c_X11_isIn l dC dI H.size x x3_1 ) ⟨va_cnB 2 hts ug_X3_lowestOpen_X11_isIn rfl rfl rfl hN_X3_59 (hts (.initialized RX11) (by decide +kernel)) (by decide +kernel) ⟨Nat.le_of_ble_eq_true rfl, Nat.le_of_ble_eq_true rfl⟩, (hts (.static yX11_isIn) (by decide +kernel)), trivial⟩ ⟨fun a U g mk q => by obtain ⟨q0, q1, qP, qK, qD⟩ := q; exact ⟨q0, q1, qP, va_K.moved (u := U) (U := U.calling g mk a) (Vm.Alike.refl U.vm) qK, qD⟩, fun U hU hW => ⟨rfl, by rw [hU], by rw [hU]; exact hPc, va_K.moved hW.alike hKc, hDc.weaken (fun _ _ _ _ => trivial)⟩⟩ rfl rfl hl.1 rfl (lv_room (Nat.le_of_ble_eq_true rfl)) dX3_lowestOpen_22 ⟨Nat.le_of_ble_eq_true rfl, Nat.le_of_ble_eq_true rfl⟩) hS (fun q _ h => hFc q h) hFc (fun r_7 u t H locs ht hvm hw hB hz1 hk1 hS => ?_)
      obtain ⟨hP1, hD1⟩ := hB
      rw [ht] at hP1
      (try dsimp only at hw hP1 hD1)
      have hw_7 := hw
      obtain ⟨hP, hD⟩ := va_join (wr := (gX3 cI h0 a zs zh fs fn fd ff ft fg)) (w1 := ([] : va_W)) hP hD [] [0, 1, 2, 3, 4, 5, 6] rfl rfl (by decide) (by decide) hk1 hFc hP1 hD1
      have hP := hP.sub (ws' := (gX3 cI h0 a zs zh fs fn fd ff ft fg)) [0, 1, 2, 3, 4, 5, 6] rfl
      have hD := hD.sub (ws' := (gX3 cI h0 a zs zh fs fn fd ff ft fg)) [0, 1, 2, 3, 4, 5, 6] (by decide) rfl
      clear hPc hDc hKc hFc hk1 hz1 hP1 hD1 hw hvm ht
      refine lv_if_ne (tgt := 30) hx hb dX3_lowestOpen_25 (by decide) (fun c_8 => ?_) (fun c_8 => ?_)
      · rw [fa_eq, k_0] at c_8
        have t_8 := hw_7.2.mp (by have := hw_7.1; omega)
        clear hw_7
        obtain ⟨v_9, e_9⟩ : ∃ y : Int32, y = x3_1 + 1 := ⟨_, rfl⟩
        have r_9 : v_9.toInt = x3_1.toInt + 1 := by rw [e_9]; exact fb_addI (by omega) (by omega)
        refine lv_iinc (v := v_9) (lv' := [(3, .int v_9), (0, .ref h0), (1, .long x)]) hx hb dX3_lowestOpen_30 hl (k := 0) rfl e_9.symm (by decide) rfl (fun ls hl => ?_)
        refine lv_goto (tgt := 2) hx hb dX3_lowestOpen_33 (by decide) ?_
        exact ih _ (by rw [hn_1]; omega) _ _ _ ⟨v_9, rfl, (by omega), (all_step hL r_9 (by omega) (by first | exact Or.inl (by omega) | exact Or.inr ((hw_7.2 (by omega) (by omega)).1 (by omega)))), hP, hD, hS, (lv_sub hl [0, 1, 2] rfl)⟩
      · rw [fa_eq, k_0] at c_8
        have t_8 : ¬ _ := fun h9 => absurd (hw_7.2.mpr h9) (by omega)
        clear hw_7
        refine lv_iload_n hx hb dX3_lowestOpen_28 rfl (lv_at hl 0 rfl) ?_
        have hP9 := hP
        have hD9 := hD
        exact W.iret (v := x3_1) hx hb hr (fun t ht hW => ⟨⟨x3_1, (), rfl, (Or.inr ⟨by omega, by omega, by omega, by rw [Bool.eq_false_iff]; intro h; have := (hw_7.2 (by omega) (by omega)).2 h; omega⟩), ⟨by rw [ht]; exact hP9, hD9⟩⟩, hS.F ht⟩) hS.2.2 dX3_lowestOpen_29

def us_X3_leadsInside : List Cond := .code yX3_leadsInside cX3_leadsInside 2 (some .boolean) :: (([.fieldLink RX3 30 "CodeLifter$Listing" "size" "I", .fieldLink RX3 34 "CodeLifter$Listing" "handlers" "I", .fieldLink RX3 21 "CodeLifter$Listing" "from" "[I", .fieldLink RX3 24 "CodeLifter$Listing" "to" "[I", .fieldLink RX3 27 "CodeLifter$Listing" "goal" "[I", .methodLink RX3 55 yX3_goesElsewhere, .instanceMethod yX3_goesElsewhere, .selects RX3 yX3_goesElsewhere yX3_goesElsewhere, .initialized RX3, .fieldLink RX3 15 "CodeLifter$Listing" "number" "[I"] ++ wsX30) ++ us_X3_goesElsewhere)
theorem ui_X3_leadsInside_X3 : ∀ w ∈ wsX30, w ∈ us_X3_leadsInside := fun _ h => List.mem_cons_of_mem _ (List.mem_append_left _ (List.mem_append_right _ h))
set_option maxRecDepth 20000 in
theorem ugg_X3_leadsInside_X3_goesElsewhere : GoodIn us_X3_leadsInside us_X3_goesElsewhere := goodIn_sub (fun _ h => List.mem_cons_of_mem _ (List.mem_append_right _ h)) (by decide +kernel)
set_option maxRecDepth 20000 in
theorem ug_X3_leadsInside_X3_goesElsewhere : GoodIn us_X3_leadsInside (wsV RX3 55 RX3 yX3_goesElsewhere us_X3_goesElsewhere) := goodIn_app (goodIn_of _ (by decide +kernel)) ugg_X3_leadsInside_X3_goesElsewhere
set_option maxHeartbeats 8000000 in
set_option maxRecDepth 100000 in
/-- leadsInside -/
theorem c_X3_leadsInside (l : Launch) (dC : Nat → ClassId) (dI : Nat → Nat → Nat) (cI : ClassId) (sz : Nat) (h0 : Nat) (a : Nat → Nat) (zs : Int32) (zh : Int32) (fs : Nat → Int32) (fn : Nat → Int32) (fd : Nat → Int32) (ff : Nat → Int32) (ft : Nat → Int32) (fg : Nat → Int32) (hzs : 0 ≤ zs.toInt ∧ zs.toInt ≤ 40) (hzh : 0 ≤ zh.toInt ∧ zh.toInt ≤ 3) (hR_h0_number : Rng fn 40 0 999) (hR_h0_goal : Rng fg 3 0 40) : Met l yX3_leadsInside us_X3_leadsInside ({ frames := 1, cells := 0, slots := 0, locals := 21 }) (va_Pc [.ref h0] (fun U => U.heap.size = sz ∧ va_P (dC, dI) vwCl ((gX3 cI h0 a zs zh fs fn fd ff ft fg)) U.heap ∧ va_K (dC, dI) vwCl [(cI, .int)] U ∧ va_D (fun _ => True) ((gX3 cI h0 a zs zh fs fn fd ff ft fg)))) (va_Qi (fun (r : Int32) (u : Unit) => (r.toInt = 0 ∨ r.toInt = 1) ∧ (r.toInt = 1 → (∀ j : Nat, (j : Int) < zs.toInt → pG fs fn zs j) ∧ (∀ j : Nat, (j : Int) < zh.toInt → pH ff ft fg zs j))) (fun (u : Unit) (t : State) => va_P (dC, dI) vwCl ((gX3 cI h0 a zs zh fs fn fd ff ft fg)) t.heap ∧ va_D (va_A ((gX3 cI h0 a zs zh fs fn fd ff ft fg)) sz) ((gX3 cI h0 a zs zh fs fn fd ff ft fg))) (va_A ((gX3 cI h0 a zs zh fs fn fd ff ft fg)) sz)) 0 0 (va_A ((gX3 cI h0 a zs zh fs fn fd ff ft fg)) sz) := by
  refine Met.ofW (cc := cX3_leadsInside) (maxL := 2) (ret := (some .boolean)) (by decide) rfl ?_
  intro p e s m args below meth c s₁ B hml hv
  obtain ⟨rfl, hsz, hP, hK, hD0⟩ := hv
  have hx := B.exec
  have hb := B.bytes
  have hr := B.returns
  have hts := atoms_spec (ws := us_X3_leadsInside) B.pre
  have hown : s.vm.findClass RX3 = some m.cls := findClass_of_methodNamed B.named
  have hlocks := B.notSynchronized
  subst hsz
  have hD := hD0.self (sz := s.heap.size)
  generalize hAe : va_A ((gX3 cI h0 a zs zh fs fn fd ff ft fg)) s.heap.size = A at hD ⊢
  have hA : ∀ q : Nat, s.heap.size ≤ q → A q := fun q h => by rw [← hAe]; exact Or.inr h
  clear hAe hD0
  have hS : va_S A s.heap s.heap [] := va_S.rf
  have hP : va_P (dC, dI) vwCl ((gX3 cI h0 a zs zh fs fn fd ff ft fg)) s.heap := hP
  have hl := lv_entry ([.ref h0]) (n := 2) (Nat.le_of_ble_eq_true rfl)
  rw [lg_entry_eq]
  generalize (lg_sl ([.ref h0]) ++ List.replicate (2 - (lg_sl ([.ref h0])).length) Slot.unset).toArray = ls at hl ⊢
  have hl : lv_has ls 2 [(0, .ref h0)] := hl
  have k_0 : (0 : Int32).toInt = 0 := by decide
  have k_1 : (1 : Int32).toInt = 1 := by decide
  refine lv_iconst (v := 0) hx hb dX3_leadsInside_0 (by decide) ?_
  refine lv_istore_n (lv' := [(1, .int 0), (0, .ref h0)]) hx hb dX3_leadsInside_1 rfl hl (by decide) rfl (fun ls hl => ?_)
  refine loop_rule (I := fun n H locs ls => ∃ (x1_1 : Int32), n = (zs.toInt - x1_1.toInt).toNat ∧ (0 ≤ x1_1.toInt ∧ x1_1.toInt ≤ zs.toInt) ∧ (∀ j : Nat, (j : Int) < x1_1.toInt → pG fs fn zs j) ∧ va_P (dC, dI) vwCl ((gX3 cI h0 a zs zh fs fn fd ff ft fg)) H ∧ va_D A ((gX3 cI h0 a zs zh fs fn fd ff ft fg)) ∧ va_S A s.heap H locs ∧ lv_has ls 2 [(1, .int x1_1), (0, .ref h0)]) ?_ _ _ _ _ ⟨0, rfl, (by omega), (all_none k_0), hP, hD, hS, hl⟩
  clear hP hD hS hl
  intro n H locs ls hI ih
  obtain ⟨x1_1, hn_1, hq, hG, hP, hD, hS, hl⟩ := hI
  refine lv_iload_n hx hb dX3_leadsInside_2 rfl (lv_at hl 0 rfl) ?_
  refine lv_aload_n hx hb dX3_leadsInside_3 rfl (lv_at hl 1 rfl) ?_
  refine va_get (D := (dC, dI)) (ci := 3) (v := .int zs) (C := RX3) (T := TX3) (N := 8) hx hb hts ui_X3_leadsInside_X3 hown hK hP 0 rfl rfl 0 (by decide) (hts (.fieldLink RX3 30 "CodeLifter$Listing" "size" "I") (by decide +kernel)) (fun _ h9 => h9) rfl dX3_leadsInside_4 ?_
  refine lv_icmp_ge (tgt := 39) hx hb dX3_leadsInside_7 (by decide) (fun c_2 => ?_) (fun c_2 => ?_)
  · rw [fa_le] at c_2
    refine lv_iconst (v := 0) hx hb dX3_leadsInside_39 (by decide) ?_
    refine lv_istore_n (lv' := [(1, .int 0), (0, .ref h0)]) hx hb dX3_leadsInside_40 rfl hl (by decide) rfl (fun ls hl => ?_)
    refine loop_rule (I := fun n H locs ls => ∃ (x1_3 : Int32), n = (zh.toInt - x1_3.toInt).toNat ∧ (0 ≤ x1_3.toInt ∧ x1_3.toInt ≤ zh.toInt) ∧ (∀ j : Nat, (j : Int) < x1_3.toInt → pH ff ft fg zs j) ∧ va_P (dC, dI) vwCl ((gX3 cI h0 a zs zh fs fn fd ff ft fg)) H ∧ va_D A ((gX3 cI h0 a zs zh fs fn fd ff ft fg)) ∧ va_S A s.heap H locs ∧ lv_has ls 2 [(1, .int x1_3), (0, .ref h0)]) ?_ _ _ _ _ ⟨0, rfl, (by omega), (all_none k_0), hP, hD, hS, hl⟩
    clear hP hD hS hl
    intro n H locs ls hI ih
    obtain ⟨x1_3, hn_3, hq, hH, hP, hD, hS, hl⟩ := hI
    refine lv_iload_n hx hb dX3_leadsInside_41 rfl (lv_at hl 0 rfl) ?_
    refine lv_aload_n hx hb dX3_leadsInside_42 rfl (lv_at hl 1 rfl) ?_
    refine va_get (D := (dC, dI)) (ci := 3) (v := .int zh) (C := RX3) (T := TX3) (N := 8) hx hb hts ui_X3_leadsInside_X3 hown hK hP 0 rfl rfl 1 (by decide) (hts (.fieldLink RX3 34 "CodeLifter$Listing" "handlers" "I") (by decide +kernel)) (fun _ h9 => h9) rfl dX3_leadsInside_43 ?_
    refine lv_icmp_ge (tgt := 98) hx hb dX3_leadsInside_46 (by decide) (fun c_4 => ?_) (fun c_4 => ?_)
    · rw [fa_le] at c_4
      refine lv_iconst (v := 1) hx hb dX3_leadsInside_98 (by decide) ?_
      have hP9 := hP
      have hD9 := hD
      exact W.zret (v := 1) hx hb hr rfl (fun t ht hW => ⟨⟨1, (), rfl, ⟨by omega, fun _ => ⟨fun j hj => hG j (by omega), fun j hj => hH j (by omega)⟩⟩, ⟨by rw [ht]; exact hP9, hD9⟩⟩, hS.F ht⟩) hS.2.2 dX3_leadsInside_99
    · rw [fa_le] at c_4
      refine lv_aload_n hx hb dX3_leadsInside_49 rfl (lv_at hl 1 rfl) ?_
      refine va_get (D := (dC, dI)) (ci := 3) (v := .ref (a 5)) (C := RX3) (T := TX3) (N := 8) hx hb hts ui_X3_leadsInside_X3 hown hK hP 0 rfl rfl 5 (by decide) (hts (.fieldLink RX3 21 "CodeLifter$Listing" "from" "[I") (by decide +kernel)) (fun _ h9 => h9) rfl dX3_leadsInside_50 ?_
      refine lv_iload_n hx hb dX3_leadsInside_53 rfl (lv_at hl 0 rfl) ?_
      have hi_5 : vp_in x1_3 3 := vp_in_iff.mpr ⟨by omega, by omega⟩
      refine va_iald hx hb hK hP 4 0 rfl rfl hi_5 dX3_leadsInside_54 ?_
      refine lv_topi (fun v_6 e_6 => ?_)
      have q_6 : v_6.toInt = (ff (Int32.toNatClampNeg x1_3)).toInt := by rw [e_6]
      refine lv_aload_n hx hb dX3_leadsInside_55 rfl (lv_at hl 1 rfl) ?_
      refine va_get (D := (dC, dI)) (ci := 3) (v := .ref (a 6)) (C := RX3) (T := TX3) (N := 8) hx hb hts ui_X3_leadsInside_X3 hown hK hP 0 rfl rfl 6 (by decide) (hts (.fieldLink RX3 24 "CodeLifter$Listing" "to" "[I") (by decide +kernel)) (fun _ h9 => h9) rfl dX3_leadsInside_56 ?_
      refine lv_iload_n hx hb dX3_leadsInside_59 rfl (lv_at hl 0 rfl) ?_
      have hi_7 : vp_in x1_3 3 := vp_in_iff.mpr ⟨by omega, by omega⟩
      refine va_iald hx hb hK hP 5 0 rfl rfl hi_7 dX3_leadsInside_60 ?_
      refine lv_topi (fun v_8 e_8 => ?_)
      have q_8 : v_8.toInt = (ft (Int32.toNatClampNeg x1_3)).toInt := by rw [e_8]
      refine lv_icmp_ge (tgt := 90) hx hb dX3_leadsInside_61 (by decide) (fun c_9 => ?_) (fun c_9 => ?_)
      · rw [fa_le] at c_9
        refine lv_iconst (v := 0) hx hb dX3_leadsInside_90 (by decide) ?_
        have hP9 := hP
        have hD9 := hD
        exact W.zret (v := 0) hx hb hr rfl (fun t ht hW => ⟨⟨0, (), rfl, ⟨by omega, fun h => by (try dsimp only at h); omega⟩, ⟨by rw [ht]; exact hP9, hD9⟩⟩, hS.F ht⟩) hS.2.2 dX3_leadsInside_91
      · rw [fa_le] at c_9
        refine lv_aload_n hx hb dX3_leadsInside_64 rfl (lv_at hl 1 rfl) ?_
        refine va_get (D := (dC, dI)) (ci := 3) (v := .ref (a 6)) (C := RX3) (T := TX3) (N := 8) hx hb hts ui_X3_leadsInside_X3 hown hK hP 0 rfl rfl 6 (by decide) (hts (.fieldLink RX3 24 "CodeLifter$Listing" "to" "[I") (by decide +kernel)) (fun _ h9 => h9) rfl dX3_leadsInside_65 ?_
        refine lv_iload_n hx hb dX3_leadsInside_68 rfl (lv_at hl 0 rfl) ?_
        have hi_10 : vp_in x1_3 3 := vp_in_iff.mpr ⟨by omega, by omega⟩
        refine va_iald hx hb hK hP 5 0 rfl rfl hi_10 dX3_leadsInside_69 ?_
        refine lv_topi (fun v_11 e_11 => ?_)
        have q_11 : v_11.toInt = (ft (Int32.toNatClampNeg x1_3)).toInt := by rw [e_11]
        refine lv_aload_n hx hb dX3_leadsInside_70 rfl (lv_at hl 1 rfl) ?_
        refine va_get (D := (dC, dI)) (ci := 3) (v := .int zs) (C := RX3) (T := TX3) (N := 8) hx hb hts ui_X3_leadsInside_X3 hown hK hP 0 rfl rfl 0 (by decide) (hts (.fieldLink RX3 30 "CodeLifter$Listing" "size" "I") (by decide +kernel)) (fun _ h9 => h9) rfl dX3_leadsInside_71 ?_
        refine lv_icmp_gt (tgt := 90) hx hb dX3_leadsInside_74 (by decide) (fun c_12 => ?_) (fun c_12 => ?_)
        · rw [fa_lt] at c_12
          refine lv_iconst (v := 0) hx hb dX3_leadsInside_90 (by decide) ?_
          have hP9 := hP
          have hD9 := hD
          exact W.zret (v := 0) hx hb hr rfl (fun t ht hW => ⟨⟨0, (), rfl, ⟨by omega, fun h => by (try dsimp only at h); omega⟩, ⟨by rw [ht]; exact hP9, hD9⟩⟩, hS.F ht⟩) hS.2.2 dX3_leadsInside_91
        · rw [fa_lt] at c_12
          refine lv_aload_n hx hb dX3_leadsInside_77 rfl (lv_at hl 1 rfl) ?_
          refine va_get (D := (dC, dI)) (ci := 3) (v := .ref (a 7)) (C := RX3) (T := TX3) (N := 8) hx hb hts ui_X3_leadsInside_X3 hown hK hP 0 rfl rfl 7 (by decide) (hts (.fieldLink RX3 27 "CodeLifter$Listing" "goal" "[I") (by decide +kernel)) (fun _ h9 => h9) rfl dX3_leadsInside_78 ?_
          refine lv_iload_n hx hb dX3_leadsInside_81 rfl (lv_at hl 0 rfl) ?_
          have hi_13 : vp_in x1_3 3 := vp_in_iff.mpr ⟨by omega, by omega⟩
          refine va_iald hx hb hK hP 6 0 rfl rfl hi_13 dX3_leadsInside_82 ?_
          refine lv_topi (fun v_14 e_14 => ?_)
          have r_14 : 0 ≤ v_14.toInt ∧ v_14.toInt ≤ 40 := by rw [e_14]; exact (Rng.get hR_h0_goal) hi_13
          have q_14 : v_14.toInt = (fg (Int32.toNatClampNeg x1_3)).toInt := by rw [e_14]
          refine lv_aload_n hx hb dX3_leadsInside_83 rfl (lv_at hl 1 rfl) ?_
          refine va_get (D := (dC, dI)) (ci := 3) (v := .int zs) (C := RX3) (T := TX3) (N := 8) hx hb hts ui_X3_leadsInside_X3 hown hK hP 0 rfl rfl 0 (by decide) (hts (.fieldLink RX3 30 "CodeLifter$Listing" "size" "I") (by decide +kernel)) (fun _ h9 => h9) rfl dX3_leadsInside_84 ?_
          refine lv_icmp_lt (tgt := 92) hx hb dX3_leadsInside_87 (by decide) (fun c_15 => ?_) (fun c_15 => ?_)
          · rw [fa_lt] at c_15
            obtain ⟨v_16, e_16⟩ : ∃ y : Int32, y = x1_3 + 1 := ⟨_, rfl⟩
            have r_16 : v_16.toInt = x1_3.toInt + 1 := by rw [e_16]; exact fb_addI (by omega) (by omega)
            refine lv_iinc (v := v_16) (lv' := [(1, .int v_16), (0, .ref h0)]) hx hb dX3_leadsInside_92 hl (k := 0) rfl e_16.symm (by decide) rfl (fun ls hl => ?_)
            refine lv_goto (tgt := 41) hx hb dX3_leadsInside_95 (by decide) ?_
            exact ih _ (by rw [hn_3]; omega) _ _ _ ⟨v_16, rfl, (by omega), (all_step hH r_16 (by omega) (by (try dsimp only); omega)), hP, hD, hS, (lv_sub hl [0, 1] rfl)⟩
          · rw [fa_lt] at c_15
            refine lv_iconst (v := 0) hx hb dX3_leadsInside_90 (by decide) ?_
            have hP9 := hP
            have hD9 := hD
            exact W.zret (v := 0) hx hb hr rfl (fun t ht hW => ⟨⟨0, (), rfl, ⟨by omega, fun h => by (try dsimp only at h); omega⟩, ⟨by rw [ht]; exact hP9, hD9⟩⟩, hS.F ht⟩) hS.2.2 dX3_leadsInside_91
  · rw [fa_le] at c_2
    refine lv_aload_n hx hb dX3_leadsInside_10 rfl (lv_at hl 1 rfl) ?_
    refine lv_iload_n hx hb dX3_leadsInside_11 rfl (lv_at hl 0 rfl) ?_
    have hPc := hP.sub (ws' := (gX3 cI h0 a zs zh fs fn fd ff ft fg)) [0, 1, 2, 3, 4, 5, 6] rfl
    have hDc := hD.sub (ws' := (gX3 cI h0 a zs zh fs fn fd ff ft fg)) [0, 1, 2, 3, 4, 5, 6] (by decide) rfl
    have hKc := hK.sub (tys' := [(cI, .int)]) [0] rfl
    have hFc := va_free (wc := (gX3 cI h0 a zs zh fs fn fd ff ft fg)) hD hS hA [0, 1, 2, 3, 4, 5, 6] rfl
    refine va_calli (va_runV (As := [.int x1_1]) (rest := []) ⟨hx, hb, hml, hown, hts⟩ (c_X3_goesElsewhere l dC dI cI H.size h0 a zs zh fs fn fd ff ft fg x1_1 (by omega)) (cwV 1 hts ug_X3_leadsInside_X3_goesElsewhere rfl rfl rfl (by decide +kernel) ⟨Nat.le_of_ble_eq_true rfl, Nat.le_of_ble_eq_true rfl⟩) ⟨fun a U g mk q => by obtain ⟨q0, q1, qP, qK, qD⟩ := q; exact ⟨q0, q1, qP, va_K.moved (u := U) (U := U.calling g mk a) (Vm.Alike.refl U.vm) qK, qD⟩, va_recv hKc hPc (ci := 3) (q0 := 0) rfl rfl, fun U hU hW => ⟨rfl, by rw [hU], by rw [hU]; exact hPc, va_K.moved hW.alike hKc, hDc.weaken (fun _ _ _ _ => trivial)⟩⟩ rfl rfl hl.1 rfl (lv_room (Nat.le_of_ble_eq_true rfl)) dX3_leadsInside_12 ⟨Nat.le_of_ble_eq_true rfl, Nat.le_of_ble_eq_true rfl⟩) hS (fun q _ h => hFc q h) hFc (fun r_17 u t H locs ht hvm hw hB hz1 hk1 hS => ?_)
    obtain ⟨hP1, hD1⟩ := hB
    rw [ht] at hP1
    (try dsimp only at hw hP1 hD1)
    have hw_17 := hw
    obtain ⟨hP, hD⟩ := va_join (wr := ([] : va_W)) (w1 := (gX3 cI h0 a zs zh fs fn fd ff ft fg)) hP hD [0, 1, 2, 3, 4, 5, 6] [] rfl rfl (by decide) (by decide) hk1 hFc hP1 hD1
    have hP := hP.sub (ws' := (gX3 cI h0 a zs zh fs fn fd ff ft fg)) [0, 1, 2, 3, 4, 5, 6] rfl
    have hD := hD.sub (ws' := (gX3 cI h0 a zs zh fs fn fd ff ft fg)) [0, 1, 2, 3, 4, 5, 6] (by decide) rfl
    clear hPc hDc hKc hFc hk1 hz1 hP1 hD1 hw hvm ht
    refine lv_if_eq (tgt := 33) hx hb dX3_leadsInside_15 (by decide) (fun c_18 => ?_) (fun c_18 => ?_)
    · rw [fa_eq, k_0] at c_18
      have t_18 : ¬ _ := fun h9 => absurd (hw_17.2.mpr h9) (by omega)
      clear hw_17
      obtain ⟨v_19, e_19⟩ : ∃ y : Int32, y = x1_1 + 1 := ⟨_, rfl⟩
      have r_19 : v_19.toInt = x1_1.toInt + 1 := by rw [e_19]; exact fb_addI (by omega) (by omega)
      refine lv_iinc (v := v_19) (lv' := [(1, .int v_19), (0, .ref h0)]) hx hb dX3_leadsInside_33 hl (k := 0) rfl e_19.symm (by decide) rfl (fun ls hl => ?_)
      refine lv_goto (tgt := 2) hx hb dX3_leadsInside_36 (by decide) ?_
      exact ih _ (by rw [hn_1]; omega) _ _ _ ⟨v_19, rfl, (by omega), (all_step hG r_19 (by omega) (by (try dsimp only); omega)), hP, hD, hS, (lv_sub hl [0, 1] rfl)⟩
    · rw [fa_eq, k_0] at c_18
      have t_18 := hw_17.2.mp (by have := hw_17.1; omega)
      clear hw_17
      refine lv_aload_n hx hb dX3_leadsInside_18 rfl (lv_at hl 1 rfl) ?_
      refine va_get (D := (dC, dI)) (ci := 3) (v := .ref (a 3)) (C := RX3) (T := TX3) (N := 8) hx hb hts ui_X3_leadsInside_X3 hown hK hP 0 rfl rfl 3 (by decide) (hts (.fieldLink RX3 15 "CodeLifter$Listing" "number" "[I") (by decide +kernel)) (fun _ h9 => h9) rfl dX3_leadsInside_19 ?_
      refine lv_iload_n hx hb dX3_leadsInside_22 rfl (lv_at hl 0 rfl) ?_
      have hi_20 : vp_in x1_1 40 := vp_in_iff.mpr ⟨by omega, by omega⟩
      refine va_iald hx hb hK hP 2 0 rfl rfl hi_20 dX3_leadsInside_23 ?_
      refine lv_topi (fun v_21 e_21 => ?_)
      have r_21 : 0 ≤ v_21.toInt ∧ v_21.toInt ≤ 999 := by rw [e_21]; exact (Rng.get hR_h0_number) hi_20
      have q_21 : v_21.toInt = (fn (Int32.toNatClampNeg x1_1)).toInt := by rw [e_21]
      refine lv_aload_n hx hb dX3_leadsInside_24 rfl (lv_at hl 1 rfl) ?_
      refine va_get (D := (dC, dI)) (ci := 3) (v := .int zs) (C := RX3) (T := TX3) (N := 8) hx hb hts ui_X3_leadsInside_X3 hown hK hP 0 rfl rfl 0 (by decide) (hts (.fieldLink RX3 30 "CodeLifter$Listing" "size" "I") (by decide +kernel)) (fun _ h9 => h9) rfl dX3_leadsInside_25 ?_
      refine lv_icmp_lt (tgt := 33) hx hb dX3_leadsInside_28 (by decide) (fun c_22 => ?_) (fun c_22 => ?_)
      · rw [fa_lt] at c_22
        obtain ⟨v_23, e_23⟩ : ∃ y : Int32, y = x1_1 + 1 := ⟨_, rfl⟩
        have r_23 : v_23.toInt = x1_1.toInt + 1 := by rw [e_23]; exact fb_addI (by omega) (by omega)
        refine lv_iinc (v := v_23) (lv' := [(1, .int v_23), (0, .ref h0)]) hx hb dX3_leadsInside_33 hl (k := 0) rfl e_23.symm (by decide) rfl (fun ls hl => ?_)
        refine lv_goto (tgt := 2) hx hb dX3_leadsInside_36 (by decide) ?_
        exact ih _ (by rw [hn_1]; omega) _ _ _ ⟨v_23, rfl, (by omega), (all_step hG r_23 (by omega) (by (try dsimp only); omega)), hP, hD, hS, (lv_sub hl [0, 1] rfl)⟩
      · rw [fa_lt] at c_22
        refine lv_iconst (v := 0) hx hb dX3_leadsInside_31 (by decide) ?_
        have hP9 := hP
        have hD9 := hD
        exact W.zret (v := 0) hx hb hr rfl (fun t ht hW => ⟨⟨0, (), rfl, ⟨by omega, fun h => by (try dsimp only at h); omega⟩, ⟨by rw [ht]; exact hP9, hD9⟩⟩, hS.F ht⟩) hS.2.2 dX3_leadsInside_32

def us_X3_goOver : List Cond := .code yX3_goOver cX3_goOver 4 (some .int) :: (((((((([.fieldLink RX3 18 "CodeLifter$Listing" "depth" "[I", .fieldLink RX3 9 "CodeLifter$Listing" "sign" "[I", .methodLink RX3 63 yX3_needs, .static yX3_needs, .initialized RX3, .methodLink RX3 66 yX3_depthBehind, .instanceMethod yX3_depthBehind, .selects RX3 yX3_depthBehind yX3_depthBehind, .methodLink RX3 69 yX3_goesOn, .instanceMethod yX3_goesOn, .selects RX3 yX3_goesOn yX3_goesOn, .methodLink RX3 55 yX3_goesElsewhere, .instanceMethod yX3_goesElsewhere, .selects RX3 yX3_goesElsewhere yX3_goesElsewhere, .methodLink RX3 76 yX3_canThrow, .instanceMethod yX3_canThrow, .selects RX3 yX3_canThrow yX3_canThrow, .methodLink RX3 79 yX3_handlerOf, .instanceMethod yX3_handlerOf, .selects RX3 yX3_handlerOf yX3_handlerOf, .fieldLink RX3 27 "CodeLifter$Listing" "goal" "[I", .methodLink RX3 72 yX3_arrive, .instanceMethod yX3_arrive, .selects RX3 yX3_arrive yX3_arrive, .fieldLink RX3 15 "CodeLifter$Listing" "number" "[I", .fieldLink RX3 30 "CodeLifter$Listing" "size" "I"] ++ wsX30) ++ us_X3_needs) ++ us_X3_depthBehind) ++ us_X3_goesOn) ++ us_X3_goesElsewhere) ++ us_X3_canThrow) ++ us_X3_handlerOf) ++ us_X3_arrive)
theorem ui_X3_goOver_X3 : ∀ w ∈ wsX30, w ∈ us_X3_goOver := fun _ h => List.mem_cons_of_mem _ (List.mem_append_left _ (List.mem_append_left _ (List.mem_append_left _ (List.mem_append_left _ (List.mem_append_left _ (List.mem_append_left _ (List.mem_append_left _ (List.mem_append_right _ h))))))))
set_option maxRecDepth 20000 in
theorem ugg_X3_goOver_X3_needs : GoodIn us_X3_goOver us_X3_needs := goodIn_sub (fun _ h => List.mem_cons_of_mem _ (List.mem_append_left _ (List.mem_append_left _ (List.mem_append_left _ (List.mem_append_left _ (List.mem_append_left _ (List.mem_append_left _ (List.mem_append_right _ h)))))))) (by decide +kernel)
set_option maxRecDepth 20000 in
theorem ug_X3_goOver_X3_needs : GoodIn us_X3_goOver (va_wsS RX3 63 yX3_needs us_X3_needs) := goodIn_app (goodIn_of _ (by decide +kernel)) ugg_X3_goOver_X3_needs
set_option maxRecDepth 20000 in
theorem ugg_X3_goOver_X3_depthBehind : GoodIn us_X3_goOver us_X3_depthBehind := goodIn_sub (fun _ h => List.mem_cons_of_mem _ (List.mem_append_left _ (List.mem_append_left _ (List.mem_append_left _ (List.mem_append_left _ (List.mem_append_left _ (List.mem_append_right _ h))))))) (by decide +kernel)
set_option maxRecDepth 20000 in
theorem ug_X3_goOver_X3_depthBehind : GoodIn us_X3_goOver (wsV RX3 66 RX3 yX3_depthBehind us_X3_depthBehind) := goodIn_app (goodIn_of _ (by decide +kernel)) ugg_X3_goOver_X3_depthBehind
set_option maxRecDepth 20000 in
theorem ugg_X3_goOver_X3_goesOn : GoodIn us_X3_goOver us_X3_goesOn := goodIn_sub (fun _ h => List.mem_cons_of_mem _ (List.mem_append_left _ (List.mem_append_left _ (List.mem_append_left _ (List.mem_append_left _ (List.mem_append_right _ h)))))) (by decide +kernel)
set_option maxRecDepth 20000 in
theorem ug_X3_goOver_X3_goesOn : GoodIn us_X3_goOver (wsV RX3 69 RX3 yX3_goesOn us_X3_goesOn) := goodIn_app (goodIn_of _ (by decide +kernel)) ugg_X3_goOver_X3_goesOn
set_option maxRecDepth 20000 in
theorem ugg_X3_goOver_X3_goesElsewhere : GoodIn us_X3_goOver us_X3_goesElsewhere := goodIn_sub (fun _ h => List.mem_cons_of_mem _ (List.mem_append_left _ (List.mem_append_left _ (List.mem_append_left _ (List.mem_append_right _ h))))) (by decide +kernel)
set_option maxRecDepth 20000 in
theorem ug_X3_goOver_X3_goesElsewhere : GoodIn us_X3_goOver (wsV RX3 55 RX3 yX3_goesElsewhere us_X3_goesElsewhere) := goodIn_app (goodIn_of _ (by decide +kernel)) ugg_X3_goOver_X3_goesElsewhere
set_option maxRecDepth 20000 in
theorem ugg_X3_goOver_X3_canThrow : GoodIn us_X3_goOver us_X3_canThrow := goodIn_sub (fun _ h => List.mem_cons_of_mem _ (List.mem_append_left _ (List.mem_append_left _ (List.mem_append_right _ h)))) (by decide +kernel)
set_option maxRecDepth 20000 in
theorem ug_X3_goOver_X3_canThrow : GoodIn us_X3_goOver (wsV RX3 76 RX3 yX3_canThrow us_X3_canThrow) := goodIn_app (goodIn_of _ (by decide +kernel)) ugg_X3_goOver_X3_canThrow
set_option maxRecDepth 20000 in
theorem ugg_X3_goOver_X3_handlerOf : GoodIn us_X3_goOver us_X3_handlerOf := goodIn_sub (fun _ h => List.mem_cons_of_mem _ (List.mem_append_left _ (List.mem_append_right _ h))) (by decide +kernel)
set_option maxRecDepth 20000 in
theorem ug_X3_goOver_X3_handlerOf : GoodIn us_X3_goOver (wsV RX3 79 RX3 yX3_handlerOf us_X3_handlerOf) := goodIn_app (goodIn_of _ (by decide +kernel)) ugg_X3_goOver_X3_handlerOf
set_option maxRecDepth 20000 in
theorem ugg_X3_goOver_X3_arrive : GoodIn us_X3_goOver us_X3_arrive := goodIn_sub (fun _ h => List.mem_cons_of_mem _ (List.mem_append_right _ h)) (by decide +kernel)
set_option maxRecDepth 20000 in
theorem ug_X3_goOver_X3_arrive : GoodIn us_X3_goOver (wsV RX3 72 RX3 yX3_arrive us_X3_arrive) := goodIn_app (goodIn_of _ (by decide +kernel)) ugg_X3_goOver_X3_arrive
set_option maxHeartbeats 8000000 in
set_option maxRecDepth 100000 in
/-- goOver -/
theorem c_X3_goOver (l : Launch) (dC : Nat → ClassId) (dI : Nat → Nat → Nat) (cI : ClassId) (sz : Nat) (h0 : Nat) (a : Nat → Nat) (zs : Int32) (zh : Int32) (fs : Nat → Int32) (fn : Nat → Int32) (fd : Nat → Int32) (ff : Nat → Int32) (ft : Nat → Int32) (fg : Nat → Int32) (i : Int32) (hi : 0 ≤ i.toInt ∧ i.toInt < 40) (hzs : 0 ≤ zs.toInt ∧ zs.toInt ≤ 40) (hzh : 0 ≤ zh.toInt ∧ zh.toInt ≤ 3) (hlt : i.toInt < zs.toInt) (hG : ∀ j : Nat, (j : Int) < zs.toInt → pG fs fn zs j) (hH : ∀ j : Nat, (j : Int) < zh.toInt → pH ff ft fg zs j) (hR_h0_depth : Rng fd 40 (-1) 6) (hR_h0_number : Rng fn 40 0 999) (hR_h0_goal : Rng fg 3 0 40) : Met l yX3_goOver us_X3_goOver ({ frames := 3, cells := 0, slots := 0, locals := 61 }) (va_Pc [.ref h0, .int i] (fun U => U.heap.size = sz ∧ va_P (dC, dI) vwCl ((gX3 cI h0 a zs zh fs fn fd ff ft fg)) U.heap ∧ va_K (dC, dI) vwCl [(cI, .int)] U ∧ va_D (fun _ => True) ((gX3 cI h0 a zs zh fs fn fd ff ft fg)) ∧ va_Nw (.methodLinkNest RX3 94 yX11_isBinary RX11) U)) (va_Qi (fun (r : Int32) (u : (Nat → Int32)) => (r, u) = goS fs fn fd ff ft fg zs zh i ∧ Rng u 40 (-1) 6) (fun (u : (Nat → Int32)) (t : State) => va_P (dC, dI) vwCl ((gX3 cI h0 a zs zh fs fn u ff ft fg)) t.heap ∧ va_D (va_A ((gX3 cI h0 a zs zh fs fn fd ff ft fg)) sz) ((gX3 cI h0 a zs zh fs fn u ff ft fg))) (va_A ((gX3 cI h0 a zs zh fs fn fd ff ft fg)) sz)) 0 0 (va_A ((gX3 cI h0 a zs zh fs fn fd ff ft fg)) sz) := by
  refine Met.ofW (cc := cX3_goOver) (maxL := 4) (ret := (some .int)) (by decide) rfl ?_
  intro p e s m args below meth c s₁ B hml hv
  obtain ⟨rfl, hsz, hP, hK, hD0, hN_X3_94⟩ := hv
  have hx := B.exec
  have hb := B.bytes
  have hr := B.returns
  have hts := atoms_spec (ws := us_X3_goOver) B.pre
  have hown : s.vm.findClass RX3 = some m.cls := findClass_of_methodNamed B.named
  have hlocks := B.notSynchronized
  subst hsz
  have hD := hD0.self (sz := s.heap.size)
  generalize hAe : va_A ((gX3 cI h0 a zs zh fs fn fd ff ft fg)) s.heap.size = A at hD ⊢
  have hA : ∀ q : Nat, s.heap.size ≤ q → A q := fun q h => by rw [← hAe]; exact Or.inr h
  clear hAe hD0
  have hS : va_S A s.heap s.heap [] := va_S.rf
  have hP : va_P (dC, dI) vwCl ((gX3 cI h0 a zs zh fs fn fd ff ft fg)) s.heap := hP
  have hl := lv_entry ([.ref h0, .int i]) (n := 4) (Nat.le_of_ble_eq_true rfl)
  rw [lg_entry_eq]
  generalize (lg_sl ([.ref h0, .int i]) ++ List.replicate (4 - (lg_sl ([.ref h0, .int i])).length) Slot.unset).toArray = ls at hl ⊢
  have hl : lv_has ls 4 [(0, .ref h0), (1, .int i)] := hl
  have k_m6 : ((-6) : Int32).toInt = -6 := by decide
  have k_m5 : ((-5) : Int32).toInt = -5 := by decide
  have k_m4 : ((-4) : Int32).toInt = -4 := by decide
  have k_m3 : ((-3) : Int32).toInt = -3 := by decide
  have k_m1 : ((-1) : Int32).toInt = -1 := by decide
  have k_0 : (0 : Int32).toInt = 0 := by decide
  have k_1 : (1 : Int32).toInt = 1 := by decide
  have k_6 : (6 : Int32).toInt = 6 := by decide
  have hp_0 := hG (Int32.toNatClampNeg i) (by have := clamp_int (x := i) (by omega); omega)
  refine lv_aload_n hx hb dX3_goOver_0 rfl (lv_at hl 0 rfl) ?_
  refine va_get (D := (dC, dI)) (ci := 3) (v := .ref (a 4)) (C := RX3) (T := TX3) (N := 8) hx hb hts ui_X3_goOver_X3 hown hK hP 0 rfl rfl 4 (by decide) (hts (.fieldLink RX3 18 "CodeLifter$Listing" "depth" "[I") (by decide +kernel)) (fun _ h9 => h9) rfl dX3_goOver_1 ?_
  refine lv_iload_n hx hb dX3_goOver_4 rfl (lv_at hl 1 rfl) ?_
  have hi_1 : vp_in i 40 := vp_in_iff.mpr ⟨by omega, by omega⟩
  refine va_iald hx hb hK hP 3 0 rfl rfl hi_1 dX3_goOver_5 ?_
  refine lv_topi (fun v_2 e_2 => ?_)
  have r_2 : (-1) ≤ v_2.toInt ∧ v_2.toInt ≤ 6 := by rw [e_2]; exact (Rng.get hR_h0_depth) hi_1
  have q_2 : v_2.toInt = (fd (Int32.toNatClampNeg i)).toInt := by rw [e_2]
  refine lv_aload_n hx hb dX3_goOver_6 rfl (lv_at hl 0 rfl) ?_
  refine va_get (D := (dC, dI)) (ci := 3) (v := .ref (a 2)) (C := RX3) (T := TX3) (N := 8) hx hb hts ui_X3_goOver_X3 hown hK hP 0 rfl rfl 2 (by decide) (hts (.fieldLink RX3 9 "CodeLifter$Listing" "sign" "[I") (by decide +kernel)) (fun _ h9 => h9) rfl dX3_goOver_7 ?_
  refine lv_iload_n hx hb dX3_goOver_10 rfl (lv_at hl 1 rfl) ?_
  have hi_3 : vp_in i 40 := vp_in_iff.mpr ⟨by omega, by omega⟩
  refine va_iald hx hb hK hP 1 0 rfl rfl hi_3 dX3_goOver_11 ?_
  refine lv_topi (fun v_4 e_4 => ?_)
  have q_4 : v_4.toInt = (fs (Int32.toNatClampNeg i)).toInt := by rw [e_4]
  have hPc := hP.sub (ws' := ([] : va_W)) [] rfl
  have hDc := hD.sub (ws' := ([] : va_W)) [] (by decide) rfl
  have hKc := hK.sub (tys' := []) [] rfl
  have hFc := va_free (wc := ([] : va_W)) hD hS hA [] rfl
  refine va_calli (va_runS (As := [.int v_4]) (rest := [.int v_2]) ⟨hx, hb, hml, hown, hts⟩ (c_X3_needs l dC dI s.heap.size v_4 ) (va_cwS 1 hts ug_X3_goOver_X3_needs rfl rfl rfl (by decide +kernel) ⟨Nat.le_of_ble_eq_true rfl, Nat.le_of_ble_eq_true rfl⟩) ⟨fun a U g mk q => by obtain ⟨q0, q1, qP, qK, qD, qE0⟩ := q; exact ⟨q0, q1, qP, va_K.moved (u := U) (U := U.calling g mk a) (Vm.Alike.refl U.vm) qK, qD, va_Nw.same rfl rfl qE0⟩, fun U hU hW => ⟨rfl, by rw [hU], by rw [hU]; exact hPc, va_K.moved hW.alike hKc, hDc.weaken (fun _ _ _ _ => trivial), va_Nw.warmM hW hN_X3_94⟩⟩ rfl rfl hl.1 rfl (lv_room (Nat.le_of_ble_eq_true rfl)) dX3_goOver_12 ⟨Nat.le_of_ble_eq_true rfl, Nat.le_of_ble_eq_true rfl⟩) hS (fun q _ h => hFc q h) hFc (fun r_5 u t H locs ht hvm hw hB hz1 hk1 hS => ?_)
  obtain ⟨hP1, hD1⟩ := hB
  rw [ht] at hP1
  (try dsimp only at hw hP1 hD1)
  have hw_5 := hw
  obtain ⟨hP, hD⟩ := va_join (wr := (gX3 cI h0 a zs zh fs fn fd ff ft fg)) (w1 := ([] : va_W)) hP hD [] [0, 1, 2, 3, 4, 5, 6] rfl rfl (by decide) (by decide) hk1 hFc hP1 hD1
  have hP := hP.sub (ws' := (gX3 cI h0 a zs zh fs fn fd ff ft fg)) [0, 1, 2, 3, 4, 5, 6] rfl
  have hD := hD.sub (ws' := (gX3 cI h0 a zs zh fs fn fd ff ft fg)) [0, 1, 2, 3, 4, 5, 6] (by decide) rfl
  clear hPc hDc hKc hFc hk1 hz1 hP1 hD1 hw hvm ht
  have hv_5 : r_5.toInt = (sN (fs (Int32.toNatClampNeg i))).toInt := by rw [hw_5, e_4]
  refine lv_icmp_ge (tgt := 21) hx hb dX3_goOver_15 (by decide) (fun c_6 => ?_) (fun c_6 => ?_)
  · rw [fa_le] at c_6
    refine lv_aload_n hx hb dX3_goOver_21 rfl (lv_at hl 0 rfl) ?_
    refine lv_iload_n hx hb dX3_goOver_22 rfl (lv_at hl 1 rfl) ?_
    have hPc := hP.sub (ws' := (gX3 cI h0 a zs zh fs fn fd ff ft fg)) [0, 1, 2, 3, 4, 5, 6] rfl
    have hDc := hD.sub (ws' := (gX3 cI h0 a zs zh fs fn fd ff ft fg)) [0, 1, 2, 3, 4, 5, 6] (by decide) rfl
    have hKc := hK.sub (tys' := [(cI, .int)]) [0] rfl
    have hFc := va_free (wc := (gX3 cI h0 a zs zh fs fn fd ff ft fg)) hD hS hA [0, 1, 2, 3, 4, 5, 6] rfl
    refine va_calli (va_runV (As := [.int i]) (rest := []) ⟨hx, hb, hml, hown, hts⟩ (c_X3_depthBehind l dC dI cI H.size h0 a zs zh fs fn fd ff ft fg i (by omega) (by omega)) (cwV 1 hts ug_X3_goOver_X3_depthBehind rfl rfl rfl (by decide +kernel) ⟨Nat.le_of_ble_eq_true rfl, Nat.le_of_ble_eq_true rfl⟩) ⟨fun a U g mk q => by obtain ⟨q0, q1, qP, qK, qD, qE0⟩ := q; exact ⟨q0, q1, qP, va_K.moved (u := U) (U := U.calling g mk a) (Vm.Alike.refl U.vm) qK, qD, va_Nw.same rfl rfl qE0⟩, va_recv hKc hPc (ci := 3) (q0 := 0) rfl rfl, fun U hU hW => ⟨rfl, by rw [hU], by rw [hU]; exact hPc, va_K.moved hW.alike hKc, hDc.weaken (fun _ _ _ _ => trivial), va_Nw.warmM hW hN_X3_94⟩⟩ rfl rfl hl.1 rfl (lv_room (Nat.le_of_ble_eq_true rfl)) dX3_goOver_23 ⟨Nat.le_of_ble_eq_true rfl, Nat.le_of_ble_eq_true rfl⟩) hS (fun q _ h => hFc q h) hFc (fun r_7 u t H locs ht hvm hw hB hz1 hk1 hS => ?_)
    obtain ⟨hP1, hD1⟩ := hB
    rw [ht] at hP1
    (try dsimp only at hw hP1 hD1)
    have hw_7 := hw
    obtain ⟨hP, hD⟩ := va_join (wr := ([] : va_W)) (w1 := (gX3 cI h0 a zs zh fs fn fd ff ft fg)) hP hD [0, 1, 2, 3, 4, 5, 6] [] rfl rfl (by decide) (by decide) hk1 hFc hP1 hD1
    have hP := hP.sub (ws' := (gX3 cI h0 a zs zh fs fn fd ff ft fg)) [0, 1, 2, 3, 4, 5, 6] rfl
    have hD := hD.sub (ws' := (gX3 cI h0 a zs zh fs fn fd ff ft fg)) [0, 1, 2, 3, 4, 5, 6] (by decide) rfl
    clear hPc hDc hKc hFc hk1 hz1 hP1 hD1 hw hvm ht
    have hv_7 := hw_7.1
    have hg_7 := sG_rng (fs (Int32.toNatClampNeg i))
    have hn_7 := sN_rng (fs (Int32.toNatClampNeg i))
    refine lv_istore_n (lv' := [(2, .int r_7), (0, .ref h0), (1, .int i)]) hx hb dX3_goOver_26 rfl hl (by decide) rfl (fun ls hl => ?_)
    refine lv_iload_n hx hb dX3_goOver_27 rfl (lv_at hl 0 rfl) ?_
    refine lv_bipush (v := 6) hx hb dX3_goOver_28 (by decide) ?_
    refine lv_icmp_le (tgt := 36) hx hb dX3_goOver_30 (by decide) (fun c_8 => ?_) (fun c_8 => ?_)
    · rw [fa_le, k_6] at c_8
      refine lv_aload_n hx hb dX3_goOver_36 rfl (lv_at hl 1 rfl) ?_
      refine lv_iload_n hx hb dX3_goOver_37 rfl (lv_at hl 2 rfl) ?_
      have hPc := hP.sub (ws' := (gX3 cI h0 a zs zh fs fn fd ff ft fg)) [0, 1, 2, 3, 4, 5, 6] rfl
      have hDc := hD.sub (ws' := (gX3 cI h0 a zs zh fs fn fd ff ft fg)) [0, 1, 2, 3, 4, 5, 6] (by decide) rfl
      have hKc := hK.sub (tys' := [(cI, .int)]) [0] rfl
      have hFc := va_free (wc := (gX3 cI h0 a zs zh fs fn fd ff ft fg)) hD hS hA [0, 1, 2, 3, 4, 5, 6] rfl
      refine va_calli (va_runV (As := [.int i]) (rest := []) ⟨hx, hb, hml, hown, hts⟩ (c_X3_goesOn l dC dI cI H.size h0 a zs zh fs fn fd ff ft fg i (by omega)) (cwV 1 hts ug_X3_goOver_X3_goesOn rfl rfl rfl (by decide +kernel) ⟨Nat.le_of_ble_eq_true rfl, Nat.le_of_ble_eq_true rfl⟩) ⟨fun a U g mk q => by obtain ⟨q0, q1, qP, qK, qD⟩ := q; exact ⟨q0, q1, qP, va_K.moved (u := U) (U := U.calling g mk a) (Vm.Alike.refl U.vm) qK, qD⟩, va_recv hKc hPc (ci := 3) (q0 := 0) rfl rfl, fun U hU hW => ⟨rfl, by rw [hU], by rw [hU]; exact hPc, va_K.moved hW.alike hKc, hDc.weaken (fun _ _ _ _ => trivial)⟩⟩ rfl rfl hl.1 rfl (lv_room (Nat.le_of_ble_eq_true rfl)) dX3_goOver_38 ⟨Nat.le_of_ble_eq_true rfl, Nat.le_of_ble_eq_true rfl⟩) hS (fun q _ h => hFc q h) hFc (fun r_9 u t H locs ht hvm hw hB hz1 hk1 hS => ?_)
      obtain ⟨hP1, hD1⟩ := hB
      rw [ht] at hP1
      (try dsimp only at hw hP1 hD1)
      have hw_9 := hw
      obtain ⟨hP, hD⟩ := va_join (wr := ([] : va_W)) (w1 := (gX3 cI h0 a zs zh fs fn fd ff ft fg)) hP hD [0, 1, 2, 3, 4, 5, 6] [] rfl rfl (by decide) (by decide) hk1 hFc hP1 hD1
      have hP := hP.sub (ws' := (gX3 cI h0 a zs zh fs fn fd ff ft fg)) [0, 1, 2, 3, 4, 5, 6] rfl
      have hD := hD.sub (ws' := (gX3 cI h0 a zs zh fs fn fd ff ft fg)) [0, 1, 2, 3, 4, 5, 6] (by decide) rfl
      clear hPc hDc hKc hFc hk1 hz1 hP1 hD1 hw hvm ht
      refine lv_if_eq (tgt := 71) hx hb dX3_goOver_41 (by decide) (fun c_10 => ?_) (fun c_10 => ?_)
      · rw [fa_eq, k_0] at c_10
        have t_10 : ¬ _ := fun h9 => absurd (hw_9.2.mpr h9) (by omega)
        clear hw_9
        refine lv_aload_n hx hb dX3_goOver_71 rfl (lv_at hl 1 rfl) ?_
        refine lv_iload_n hx hb dX3_goOver_72 rfl (lv_at hl 2 rfl) ?_
        have hPc := hP.sub (ws' := (gX3 cI h0 a zs zh fs fn fd ff ft fg)) [0, 1, 2, 3, 4, 5, 6] rfl
        have hDc := hD.sub (ws' := (gX3 cI h0 a zs zh fs fn fd ff ft fg)) [0, 1, 2, 3, 4, 5, 6] (by decide) rfl
        have hKc := hK.sub (tys' := [(cI, .int)]) [0] rfl
        have hFc := va_free (wc := (gX3 cI h0 a zs zh fs fn fd ff ft fg)) hD hS hA [0, 1, 2, 3, 4, 5, 6] rfl
        refine va_calli (va_runV (As := [.int i]) (rest := []) ⟨hx, hb, hml, hown, hts⟩ (c_X3_goesElsewhere l dC dI cI H.size h0 a zs zh fs fn fd ff ft fg i (by omega)) (cwV 1 hts ug_X3_goOver_X3_goesElsewhere rfl rfl rfl (by decide +kernel) ⟨Nat.le_of_ble_eq_true rfl, Nat.le_of_ble_eq_true rfl⟩) ⟨fun a U g mk q => by obtain ⟨q0, q1, qP, qK, qD⟩ := q; exact ⟨q0, q1, qP, va_K.moved (u := U) (U := U.calling g mk a) (Vm.Alike.refl U.vm) qK, qD⟩, va_recv hKc hPc (ci := 3) (q0 := 0) rfl rfl, fun U hU hW => ⟨rfl, by rw [hU], by rw [hU]; exact hPc, va_K.moved hW.alike hKc, hDc.weaken (fun _ _ _ _ => trivial)⟩⟩ rfl rfl hl.1 rfl (lv_room (Nat.le_of_ble_eq_true rfl)) dX3_goOver_73 ⟨Nat.le_of_ble_eq_true rfl, Nat.le_of_ble_eq_true rfl⟩) hS (fun q _ h => hFc q h) hFc (fun r_11 u t H locs ht hvm hw hB hz1 hk1 hS => ?_)
        obtain ⟨hP1, hD1⟩ := hB
        rw [ht] at hP1
        (try dsimp only at hw hP1 hD1)
        have hw_11 := hw
        obtain ⟨hP, hD⟩ := va_join (wr := ([] : va_W)) (w1 := (gX3 cI h0 a zs zh fs fn fd ff ft fg)) hP hD [0, 1, 2, 3, 4, 5, 6] [] rfl rfl (by decide) (by decide) hk1 hFc hP1 hD1
        have hP := hP.sub (ws' := (gX3 cI h0 a zs zh fs fn fd ff ft fg)) [0, 1, 2, 3, 4, 5, 6] rfl
        have hD := hD.sub (ws' := (gX3 cI h0 a zs zh fs fn fd ff ft fg)) [0, 1, 2, 3, 4, 5, 6] (by decide) rfl
        clear hPc hDc hKc hFc hk1 hz1 hP1 hD1 hw hvm ht
        refine lv_if_eq (tgt := 96) hx hb dX3_goOver_76 (by decide) (fun c_12 => ?_) (fun c_12 => ?_)
        · rw [fa_eq, k_0] at c_12
          have t_12 : ¬ _ := fun h9 => absurd (hw_11.2.mpr h9) (by omega)
          clear hw_11
          refine lv_aload_n hx hb dX3_goOver_96 rfl (lv_at hl 1 rfl) ?_
          refine lv_iload_n hx hb dX3_goOver_97 rfl (lv_at hl 2 rfl) ?_
          have hPc := hP.sub (ws' := (gX3 cI h0 a zs zh fs fn fd ff ft fg)) [0, 1, 2, 3, 4, 5, 6] rfl
          have hDc := hD.sub (ws' := (gX3 cI h0 a zs zh fs fn fd ff ft fg)) [0, 1, 2, 3, 4, 5, 6] (by decide) rfl
          have hKc := hK.sub (tys' := [(cI, .int)]) [0] rfl
          have hFc := va_free (wc := (gX3 cI h0 a zs zh fs fn fd ff ft fg)) hD hS hA [0, 1, 2, 3, 4, 5, 6] rfl
          refine va_calli (va_runV (As := [.int i]) (rest := []) ⟨hx, hb, hml, hown, hts⟩ (c_X3_canThrow l dC dI cI H.size h0 a zs zh fs fn fd ff ft fg i (by omega)) (cwV 1 hts ug_X3_goOver_X3_canThrow rfl rfl rfl (by decide +kernel) ⟨Nat.le_of_ble_eq_true rfl, Nat.le_of_ble_eq_true rfl⟩) ⟨fun a U g mk q => by obtain ⟨q0, q1, qP, qK, qD⟩ := q; exact ⟨q0, q1, qP, va_K.moved (u := U) (U := U.calling g mk a) (Vm.Alike.refl U.vm) qK, qD⟩, va_recv hKc hPc (ci := 3) (q0 := 0) rfl rfl, fun U hU hW => ⟨rfl, by rw [hU], by rw [hU]; exact hPc, va_K.moved hW.alike hKc, hDc.weaken (fun _ _ _ _ => trivial)⟩⟩ rfl rfl hl.1 rfl (lv_room (Nat.le_of_ble_eq_true rfl)) dX3_goOver_98 ⟨Nat.le_of_ble_eq_true rfl, Nat.le_of_ble_eq_true rfl⟩) hS (fun q _ h => hFc q h) hFc (fun r_13 u t H locs ht hvm hw hB hz1 hk1 hS => ?_)
          obtain ⟨hP1, hD1⟩ := hB
          rw [ht] at hP1
          (try dsimp only at hw hP1 hD1)
          have hw_13 := hw
          obtain ⟨hP, hD⟩ := va_join (wr := ([] : va_W)) (w1 := (gX3 cI h0 a zs zh fs fn fd ff ft fg)) hP hD [0, 1, 2, 3, 4, 5, 6] [] rfl rfl (by decide) (by decide) hk1 hFc hP1 hD1
          have hP := hP.sub (ws' := (gX3 cI h0 a zs zh fs fn fd ff ft fg)) [0, 1, 2, 3, 4, 5, 6] rfl
          have hD := hD.sub (ws' := (gX3 cI h0 a zs zh fs fn fd ff ft fg)) [0, 1, 2, 3, 4, 5, 6] (by decide) rfl
          clear hPc hDc hKc hFc hk1 hz1 hP1 hD1 hw hvm ht
          refine lv_if_eq (tgt := 112) hx hb dX3_goOver_101 (by decide) (fun c_14 => ?_) (fun c_14 => ?_)
          · rw [fa_eq, k_0] at c_14
            have t_14 : ¬ _ := fun h9 => absurd (hw_13.2.mpr h9) (by omega)
            clear hw_13
            refine lv_iconst (v := (-1)) hx hb dX3_goOver_112 (by decide) ?_
            refine lv_istore_n (lv' := [(3, .int (-1)), (2, .int r_7), (0, .ref h0), (1, .int i)]) hx hb dX3_goOver_113 rfl hl (by decide) rfl (fun ls hl => ?_)
            refine lv_iload_n hx hb dX3_goOver_114 rfl (lv_at hl 0 rfl) ?_
            refine lv_iconst (v := (-1)) hx hb dX3_goOver_115 (by decide) ?_
            refine lv_icmp_eq (tgt := 133) hx hb dX3_goOver_116 (by decide) (fun c_15 => ?_) (fun c_15 => absurd (by decide) c_15)
            refine lv_iconst (v := 0) hx hb dX3_goOver_133 (by decide) ?_
            refine lv_goto (tgt := 139) hx hb dX3_goOver_134 (by decide) ?_
            have hP9 := hP
            have hD9 := hD
            exact W.iret (v := 0) hx hb hr (fun t ht hW => ⟨⟨0, (fd), rfl, (by (try dsimp only); refine ⟨?_, by assumption⟩; subst_vars; (first | exact (goS_a (by omega)).symm | exact (goS_b (by omega) (by omega)).symm | (rw [goS_c (by omega) (by omega)]; (first | exact (goA_b (by omega) (by omega)).symm | exact (goA_d (by omega) (by omega) (by omega)).symm | ((first | rw [goA_a (by omega)] | rw [goA_c (by omega) (by omega) (by omega)]); (first | exact (goB_c (by omega) (by omega)).symm | ((first | rw [goB_a (by omega)] | rw [goB_b (by omega) (by omega)]); (first | exact (goC_a (by omega)).symm | exact (goC_b (by omega) (by omega)).symm | exact (goC_c (by omega) (by omega)).symm)))))))), ⟨by rw [ht]; exact hP9, hD9⟩⟩, hS.F ht⟩) hS.2.2 dX3_goOver_139
          · rw [fa_eq, k_0] at c_14
            have t_14 := hw_13.2.mp (by have := hw_13.1; omega)
            clear hw_13
            refine lv_aload_n hx hb dX3_goOver_104 rfl (lv_at hl 1 rfl) ?_
            refine lv_iload_n hx hb dX3_goOver_105 rfl (lv_at hl 2 rfl) ?_
            have hPc := hP.sub (ws' := (gX3 cI h0 a zs zh fs fn fd ff ft fg)) [0, 1, 2, 3, 4, 5, 6] rfl
            have hDc := hD.sub (ws' := (gX3 cI h0 a zs zh fs fn fd ff ft fg)) [0, 1, 2, 3, 4, 5, 6] (by decide) rfl
            have hKc := hK.sub (tys' := [(cI, .int)]) [0] rfl
            have hFc := va_free (wc := (gX3 cI h0 a zs zh fs fn fd ff ft fg)) hD hS hA [0, 1, 2, 3, 4, 5, 6] rfl
            refine va_calli (va_runV (As := [.int i]) (rest := []) ⟨hx, hb, hml, hown, hts⟩ (c_X3_handlerOf l dC dI cI H.size h0 a zs zh fs fn fd ff ft fg i (by omega)) (cwV 1 hts ug_X3_goOver_X3_handlerOf rfl rfl rfl (by decide +kernel) ⟨Nat.le_of_ble_eq_true rfl, Nat.le_of_ble_eq_true rfl⟩) ⟨fun a U g mk q => by obtain ⟨q0, q1, qP, qK, qD⟩ := q; exact ⟨q0, q1, qP, va_K.moved (u := U) (U := U.calling g mk a) (Vm.Alike.refl U.vm) qK, qD⟩, va_recv hKc hPc (ci := 3) (q0 := 0) rfl rfl, fun U hU hW => ⟨rfl, by rw [hU], by rw [hU]; exact hPc, va_K.moved hW.alike hKc, hDc.weaken (fun _ _ _ _ => trivial)⟩⟩ rfl rfl hl.1 rfl (lv_room (Nat.le_of_ble_eq_true rfl)) dX3_goOver_106 ⟨Nat.le_of_ble_eq_true rfl, Nat.le_of_ble_eq_true rfl⟩) hS (fun q _ h => hFc q h) hFc (fun r_16 u t H locs ht hvm hw hB hz1 hk1 hS => ?_)
            obtain ⟨hP1, hD1⟩ := hB
            rw [ht] at hP1
            (try dsimp only at hw hP1 hD1)
            have hw_16 := hw
            obtain ⟨hP, hD⟩ := va_join (wr := ([] : va_W)) (w1 := (gX3 cI h0 a zs zh fs fn fd ff ft fg)) hP hD [0, 1, 2, 3, 4, 5, 6] [] rfl rfl (by decide) (by decide) hk1 hFc hP1 hD1
            have hP := hP.sub (ws' := (gX3 cI h0 a zs zh fs fn fd ff ft fg)) [0, 1, 2, 3, 4, 5, 6] rfl
            have hD := hD.sub (ws' := (gX3 cI h0 a zs zh fs fn fd ff ft fg)) [0, 1, 2, 3, 4, 5, 6] (by decide) rfl
            clear hPc hDc hKc hFc hk1 hz1 hP1 hD1 hw hvm ht
            have hv_16 := hw_16.1
            have hx_16 : 0 ≤ r_16.toInt → (fg (Int32.toNatClampNeg r_16)).toInt < zs.toInt := fun h => (hH (Int32.toNatClampNeg r_16) (by have := clamp_int h; omega)).2.2
            refine lv_goto (tgt := 113) hx hb dX3_goOver_109 (by decide) ?_
            refine lv_istore_n (lv' := [(3, .int r_16), (2, .int r_7), (0, .ref h0), (1, .int i)]) hx hb dX3_goOver_113 rfl hl (by decide) rfl (fun ls hl => ?_)
            refine lv_iload_n hx hb dX3_goOver_114 rfl (lv_at hl 0 rfl) ?_
            refine lv_iconst (v := (-1)) hx hb dX3_goOver_115 (by decide) ?_
            refine lv_icmp_eq (tgt := 133) hx hb dX3_goOver_116 (by decide) (fun c_17 => ?_) (fun c_17 => ?_)
            · rw [fa_eq, k_m1] at c_17
              refine lv_iconst (v := 0) hx hb dX3_goOver_133 (by decide) ?_
              refine lv_goto (tgt := 139) hx hb dX3_goOver_134 (by decide) ?_
              have hP9 := hP
              have hD9 := hD
              exact W.iret (v := 0) hx hb hr (fun t ht hW => ⟨⟨0, (fd), rfl, (by (try dsimp only); refine ⟨?_, by assumption⟩; subst_vars; (first | exact (goS_a (by omega)).symm | exact (goS_b (by omega) (by omega)).symm | (rw [goS_c (by omega) (by omega)]; (first | exact (goA_b (by omega) (by omega)).symm | exact (goA_d (by omega) (by omega) (by omega)).symm | ((first | rw [goA_a (by omega)] | rw [goA_c (by omega) (by omega) (by omega)]); (first | exact (goB_c (by omega) (by omega)).symm | ((first | rw [goB_a (by omega)] | rw [goB_b (by omega) (by omega)]); (first | exact (goC_a (by omega)).symm | exact (goC_b (by omega) (by omega)).symm | exact (goC_c (by omega) (by omega)).symm)))))))), ⟨by rw [ht]; exact hP9, hD9⟩⟩, hS.F ht⟩) hS.2.2 dX3_goOver_139
            · rw [fa_eq, k_m1] at c_17
              refine lv_aload_n hx hb dX3_goOver_119 rfl (lv_at hl 2 rfl) ?_
              refine lv_aload_n hx hb dX3_goOver_120 rfl (lv_at hl 2 rfl) ?_
              refine va_get (D := (dC, dI)) (ci := 3) (v := .ref (a 7)) (C := RX3) (T := TX3) (N := 8) hx hb hts ui_X3_goOver_X3 hown hK hP 0 rfl rfl 7 (by decide) (hts (.fieldLink RX3 27 "CodeLifter$Listing" "goal" "[I") (by decide +kernel)) (fun _ h9 => h9) rfl dX3_goOver_121 ?_
              refine lv_iload_n hx hb dX3_goOver_124 rfl (lv_at hl 0 rfl) ?_
              have hi_18 : vp_in r_16 3 := vp_in_iff.mpr ⟨by omega, by omega⟩
              refine va_iald hx hb hK hP 6 0 rfl rfl hi_18 dX3_goOver_125 ?_
              refine lv_topi (fun v_19 e_19 => ?_)
              have r_19 : 0 ≤ v_19.toInt ∧ v_19.toInt ≤ 40 := by rw [e_19]; exact (Rng.get hR_h0_goal) hi_18
              have q_19 : v_19.toInt = (fg (Int32.toNatClampNeg r_16)).toInt := by rw [e_19]
              refine lv_iconst (v := 1) hx hb dX3_goOver_126 (by decide) ?_
              have hPc := hP.sub (ws' := (gX3 cI h0 a zs zh fs fn fd ff ft fg)) [0, 1, 2, 3, 4, 5, 6] rfl
              have hDc := hD.sub (ws' := (gX3 cI h0 a zs zh fs fn fd ff ft fg)) [0, 1, 2, 3, 4, 5, 6] (by decide) rfl
              have hKc := hK.sub (tys' := [(cI, .int)]) [0] rfl
              have hFc := va_free (wc := (gX3 cI h0 a zs zh fs fn fd ff ft fg)) hD hS hA [0, 1, 2, 3, 4, 5, 6] rfl
              refine va_calli (va_runV (As := [.int v_19, .int 1]) (rest := []) ⟨hx, hb, hml, hown, hts⟩ (c_X3_arrive l dC dI cI H.size h0 a zs zh fs fn fd ff ft fg v_19 1 (by omega) (by omega) (by omega)) (cwV 2 hts ug_X3_goOver_X3_arrive rfl rfl rfl (by decide +kernel) ⟨Nat.le_of_ble_eq_true rfl, Nat.le_of_ble_eq_true rfl⟩) ⟨fun a U g mk q => by obtain ⟨q0, q1, qP, qK, qD⟩ := q; exact ⟨q0, q1, qP, va_K.moved (u := U) (U := U.calling g mk a) (Vm.Alike.refl U.vm) qK, qD⟩, va_recv hKc hPc (ci := 3) (q0 := 0) rfl rfl, fun U hU hW => ⟨rfl, by rw [hU], by rw [hU]; exact hPc, va_K.moved hW.alike hKc, hDc.weaken (fun _ _ _ _ => trivial)⟩⟩ rfl rfl hl.1 rfl (lv_room (Nat.le_of_ble_eq_true rfl)) dX3_goOver_127 ⟨Nat.le_of_ble_eq_true rfl, Nat.le_of_ble_eq_true rfl⟩) hS (fun q _ h => hFc q h) hFc (fun r_20 u t H locs ht hvm hw hB hz1 hk1 hS => ?_)
              obtain ⟨depthx_20, rfl⟩ : ∃ z, z = u := ⟨_, rfl⟩
              obtain ⟨hP1, hD1⟩ := hB
              rw [ht] at hP1
              (try dsimp only at hw hP1 hD1)
              have hw_20 := hw
              obtain ⟨hP, hD⟩ := va_join (wr := ([] : va_W)) (w1 := (gX3 cI h0 a zs zh fs fn depthx_20 ff ft fg)) hP hD [0, 1, 2, 3, 4, 5, 6] [] rfl rfl (by decide) (by decide) hk1 hFc hP1 hD1
              have hP := hP.sub (ws' := (gX3 cI h0 a zs zh fs fn depthx_20 ff ft fg)) [0, 1, 2, 3, 4, 5, 6] rfl
              have hD := hD.sub (ws' := (gX3 cI h0 a zs zh fs fn depthx_20 ff ft fg)) [0, 1, 2, 3, 4, 5, 6] (by decide) rfl
              clear hPc hDc hKc hFc hk1 hz1 hP1 hD1 hw hvm ht
              have hd_20 := hw_20.2.1
              have hR_h0_depth : Rng depthx_20 40 (-1) 6 := by rw [hd_20]; exact aD_rng (by assumption) (by omega)
              refine lv_if_eq (tgt := 137) hx hb dX3_goOver_130 (by decide) (fun c_21 => ?_) (fun c_21 => ?_)
              · rw [fa_eq, k_0] at c_21
                have t_21 : ¬ _ := fun h9 => absurd (hw_20.2.2.mpr h9) (by omega)
                clear hw_20
                refine lv_bipush (v := (-6)) hx hb dX3_goOver_137 (by decide) ?_
                have hP9 := hP
                have hD9 := hD
                exact W.iret (v := (-6)) hx hb hr (fun t ht hW => ⟨⟨(-6), (depthx_20), rfl, (by (try dsimp only); refine ⟨?_, by assumption⟩; subst_vars; (first | exact (goS_a (by omega)).symm | exact (goS_b (by omega) (by omega)).symm | (rw [goS_c (by omega) (by omega)]; (first | exact (goA_b (by omega) (by omega)).symm | exact (goA_d (by omega) (by omega) (by omega)).symm | ((first | rw [goA_a (by omega)] | rw [goA_c (by omega) (by omega) (by omega)]); (first | exact (goB_c (by omega) (by omega)).symm | ((first | rw [goB_a (by omega)] | rw [goB_b (by omega) (by omega)]); (first | exact (goC_a (by omega)).symm | exact (goC_b (by omega) (by omega)).symm | exact (goC_c (by omega) (by omega)).symm)))))))), ⟨by rw [ht]; exact hP9, hD9⟩⟩, hS.F ht⟩) hS.2.2 dX3_goOver_139
              · rw [fa_eq, k_0] at c_21
                have t_21 := hw_20.2.2.mp (by have := hw_20.1; omega)
                clear hw_20
                refine lv_iconst (v := 0) hx hb dX3_goOver_133 (by decide) ?_
                refine lv_goto (tgt := 139) hx hb dX3_goOver_134 (by decide) ?_
                have hP9 := hP
                have hD9 := hD
                exact W.iret (v := 0) hx hb hr (fun t ht hW => ⟨⟨0, (depthx_20), rfl, (by (try dsimp only); refine ⟨?_, by assumption⟩; subst_vars; (first | exact (goS_a (by omega)).symm | exact (goS_b (by omega) (by omega)).symm | (rw [goS_c (by omega) (by omega)]; (first | exact (goA_b (by omega) (by omega)).symm | exact (goA_d (by omega) (by omega) (by omega)).symm | ((first | rw [goA_a (by omega)] | rw [goA_c (by omega) (by omega) (by omega)]); (first | exact (goB_c (by omega) (by omega)).symm | ((first | rw [goB_a (by omega)] | rw [goB_b (by omega) (by omega)]); (first | exact (goC_a (by omega)).symm | exact (goC_b (by omega) (by omega)).symm | exact (goC_c (by omega) (by omega)).symm)))))))), ⟨by rw [ht]; exact hP9, hD9⟩⟩, hS.F ht⟩) hS.2.2 dX3_goOver_139
        · rw [fa_eq, k_0] at c_12
          have t_12 := hw_11.2.mp (by have := hw_11.1; omega)
          clear hw_11
          refine lv_aload_n hx hb dX3_goOver_79 rfl (lv_at hl 1 rfl) ?_
          refine lv_aload_n hx hb dX3_goOver_80 rfl (lv_at hl 1 rfl) ?_
          refine va_get (D := (dC, dI)) (ci := 3) (v := .ref (a 3)) (C := RX3) (T := TX3) (N := 8) hx hb hts ui_X3_goOver_X3 hown hK hP 0 rfl rfl 3 (by decide) (hts (.fieldLink RX3 15 "CodeLifter$Listing" "number" "[I") (by decide +kernel)) (fun _ h9 => h9) rfl dX3_goOver_81 ?_
          refine lv_iload_n hx hb dX3_goOver_84 rfl (lv_at hl 2 rfl) ?_
          have hi_22 : vp_in i 40 := vp_in_iff.mpr ⟨by omega, by omega⟩
          refine va_iald hx hb hK hP 2 0 rfl rfl hi_22 dX3_goOver_85 ?_
          refine lv_topi (fun v_23 e_23 => ?_)
          have r_23 : 0 ≤ v_23.toInt ∧ v_23.toInt ≤ 999 := by rw [e_23]; exact (Rng.get hR_h0_number) hi_22
          have q_23 : v_23.toInt = (fn (Int32.toNatClampNeg i)).toInt := by rw [e_23]
          refine lv_iload_n hx hb dX3_goOver_86 rfl (lv_at hl 0 rfl) ?_
          have hPc := hP.sub (ws' := (gX3 cI h0 a zs zh fs fn fd ff ft fg)) [0, 1, 2, 3, 4, 5, 6] rfl
          have hDc := hD.sub (ws' := (gX3 cI h0 a zs zh fs fn fd ff ft fg)) [0, 1, 2, 3, 4, 5, 6] (by decide) rfl
          have hKc := hK.sub (tys' := [(cI, .int)]) [0] rfl
          have hFc := va_free (wc := (gX3 cI h0 a zs zh fs fn fd ff ft fg)) hD hS hA [0, 1, 2, 3, 4, 5, 6] rfl
          refine va_calli (va_runV (As := [.int v_23, .int r_7]) (rest := []) ⟨hx, hb, hml, hown, hts⟩ (c_X3_arrive l dC dI cI H.size h0 a zs zh fs fn fd ff ft fg v_23 r_7 (by omega) (by omega) (by omega)) (cwV 2 hts ug_X3_goOver_X3_arrive rfl rfl rfl (by decide +kernel) ⟨Nat.le_of_ble_eq_true rfl, Nat.le_of_ble_eq_true rfl⟩) ⟨fun a U g mk q => by obtain ⟨q0, q1, qP, qK, qD⟩ := q; exact ⟨q0, q1, qP, va_K.moved (u := U) (U := U.calling g mk a) (Vm.Alike.refl U.vm) qK, qD⟩, va_recv hKc hPc (ci := 3) (q0 := 0) rfl rfl, fun U hU hW => ⟨rfl, by rw [hU], by rw [hU]; exact hPc, va_K.moved hW.alike hKc, hDc.weaken (fun _ _ _ _ => trivial)⟩⟩ rfl rfl hl.1 rfl (lv_room (Nat.le_of_ble_eq_true rfl)) dX3_goOver_87 ⟨Nat.le_of_ble_eq_true rfl, Nat.le_of_ble_eq_true rfl⟩) hS (fun q _ h => hFc q h) hFc (fun r_24 u t H locs ht hvm hw hB hz1 hk1 hS => ?_)
          obtain ⟨depthx_24, rfl⟩ : ∃ z, z = u := ⟨_, rfl⟩
          obtain ⟨hP1, hD1⟩ := hB
          rw [ht] at hP1
          (try dsimp only at hw hP1 hD1)
          have hw_24 := hw
          obtain ⟨hP, hD⟩ := va_join (wr := ([] : va_W)) (w1 := (gX3 cI h0 a zs zh fs fn depthx_24 ff ft fg)) hP hD [0, 1, 2, 3, 4, 5, 6] [] rfl rfl (by decide) (by decide) hk1 hFc hP1 hD1
          have hP := hP.sub (ws' := (gX3 cI h0 a zs zh fs fn depthx_24 ff ft fg)) [0, 1, 2, 3, 4, 5, 6] rfl
          have hD := hD.sub (ws' := (gX3 cI h0 a zs zh fs fn depthx_24 ff ft fg)) [0, 1, 2, 3, 4, 5, 6] (by decide) rfl
          clear hPc hDc hKc hFc hk1 hz1 hP1 hD1 hw hvm ht
          have hd_24 := hw_24.2.1
          have hR_h0_depth : Rng depthx_24 40 (-1) 6 := by rw [hd_24]; exact aD_rng (by assumption) (by omega)
          refine lv_if_ne (tgt := 96) hx hb dX3_goOver_90 (by decide) (fun c_25 => ?_) (fun c_25 => ?_)
          · rw [fa_eq, k_0] at c_25
            have t_25 := hw_24.2.2.mp (by have := hw_24.1; omega)
            clear hw_24
            refine lv_aload_n hx hb dX3_goOver_96 rfl (lv_at hl 1 rfl) ?_
            refine lv_iload_n hx hb dX3_goOver_97 rfl (lv_at hl 2 rfl) ?_
            have hPc := hP.sub (ws' := (gX3 cI h0 a zs zh fs fn depthx_24 ff ft fg)) [0, 1, 2, 3, 4, 5, 6] rfl
            have hDc := hD.sub (ws' := (gX3 cI h0 a zs zh fs fn depthx_24 ff ft fg)) [0, 1, 2, 3, 4, 5, 6] (by decide) rfl
            have hKc := hK.sub (tys' := [(cI, .int)]) [0] rfl
            have hFc := va_free (wc := (gX3 cI h0 a zs zh fs fn depthx_24 ff ft fg)) hD hS hA [0, 1, 2, 3, 4, 5, 6] rfl
            refine va_calli (va_runV (As := [.int i]) (rest := []) ⟨hx, hb, hml, hown, hts⟩ (c_X3_canThrow l dC dI cI H.size h0 a zs zh fs fn depthx_24 ff ft fg i (by omega)) (cwV 1 hts ug_X3_goOver_X3_canThrow rfl rfl rfl (by decide +kernel) ⟨Nat.le_of_ble_eq_true rfl, Nat.le_of_ble_eq_true rfl⟩) ⟨fun a U g mk q => by obtain ⟨q0, q1, qP, qK, qD⟩ := q; exact ⟨q0, q1, qP, va_K.moved (u := U) (U := U.calling g mk a) (Vm.Alike.refl U.vm) qK, qD⟩, va_recv hKc hPc (ci := 3) (q0 := 0) rfl rfl, fun U hU hW => ⟨rfl, by rw [hU], by rw [hU]; exact hPc, va_K.moved hW.alike hKc, hDc.weaken (fun _ _ _ _ => trivial)⟩⟩ rfl rfl hl.1 rfl (lv_room (Nat.le_of_ble_eq_true rfl)) dX3_goOver_98 ⟨Nat.le_of_ble_eq_true rfl, Nat.le_of_ble_eq_true rfl⟩) hS (fun q _ h => hFc q h) hFc (fun r_26 u t H locs ht hvm hw hB hz1 hk1 hS => ?_)
            obtain ⟨hP1, hD1⟩ := hB
            rw [ht] at hP1
            (try dsimp only at hw hP1 hD1)
            have hw_26 := hw
            obtain ⟨hP, hD⟩ := va_join (wr := ([] : va_W)) (w1 := (gX3 cI h0 a zs zh fs fn depthx_24 ff ft fg)) hP hD [0, 1, 2, 3, 4, 5, 6] [] rfl rfl (by decide) (by decide) hk1 hFc hP1 hD1
            have hP := hP.sub (ws' := (gX3 cI h0 a zs zh fs fn depthx_24 ff ft fg)) [0, 1, 2, 3, 4, 5, 6] rfl
            have hD := hD.sub (ws' := (gX3 cI h0 a zs zh fs fn depthx_24 ff ft fg)) [0, 1, 2, 3, 4, 5, 6] (by decide) rfl
            clear hPc hDc hKc hFc hk1 hz1 hP1 hD1 hw hvm ht
            refine lv_if_eq (tgt := 112) hx hb dX3_goOver_101 (by decide) (fun c_27 => ?_) (fun c_27 => ?_)
            · rw [fa_eq, k_0] at c_27
              have t_27 : ¬ _ := fun h9 => absurd (hw_26.2.mpr h9) (by omega)
              clear hw_26
              refine lv_iconst (v := (-1)) hx hb dX3_goOver_112 (by decide) ?_
              refine lv_istore_n (lv' := [(3, .int (-1)), (2, .int r_7), (0, .ref h0), (1, .int i)]) hx hb dX3_goOver_113 rfl hl (by decide) rfl (fun ls hl => ?_)
              refine lv_iload_n hx hb dX3_goOver_114 rfl (lv_at hl 0 rfl) ?_
              refine lv_iconst (v := (-1)) hx hb dX3_goOver_115 (by decide) ?_
              refine lv_icmp_eq (tgt := 133) hx hb dX3_goOver_116 (by decide) (fun c_28 => ?_) (fun c_28 => absurd (by decide) c_28)
              refine lv_iconst (v := 0) hx hb dX3_goOver_133 (by decide) ?_
              refine lv_goto (tgt := 139) hx hb dX3_goOver_134 (by decide) ?_
              have hP9 := hP
              have hD9 := hD
              exact W.iret (v := 0) hx hb hr (fun t ht hW => ⟨⟨0, (depthx_24), rfl, (by (try dsimp only); refine ⟨?_, by assumption⟩; subst_vars; (first | exact (goS_a (by omega)).symm | exact (goS_b (by omega) (by omega)).symm | (rw [goS_c (by omega) (by omega)]; (first | exact (goA_b (by omega) (by omega)).symm | exact (goA_d (by omega) (by omega) (by omega)).symm | ((first | rw [goA_a (by omega)] | rw [goA_c (by omega) (by omega) (by omega)]); (first | exact (goB_c (by omega) (by omega)).symm | ((first | rw [goB_a (by omega)] | rw [goB_b (by omega) (by omega)]); (first | exact (goC_a (by omega)).symm | exact (goC_b (by omega) (by omega)).symm | exact (goC_c (by omega) (by omega)).symm)))))))), ⟨by rw [ht]; exact hP9, hD9⟩⟩, hS.F ht⟩) hS.2.2 dX3_goOver_139
            · rw [fa_eq, k_0] at c_27
              have t_27 := hw_26.2.mp (by have := hw_26.1; omega)
              clear hw_26
              refine lv_aload_n hx hb dX3_goOver_104 rfl (lv_at hl 1 rfl) ?_
              refine lv_iload_n hx hb dX3_goOver_105 rfl (lv_at hl 2 rfl) ?_
              have hPc := hP.sub (ws' := (gX3 cI h0 a zs zh fs fn depthx_24 ff ft fg)) [0, 1, 2, 3, 4, 5, 6] rfl
              have hDc := hD.sub (ws' := (gX3 cI h0 a zs zh fs fn depthx_24 ff ft fg)) [0, 1, 2, 3, 4, 5, 6] (by decide) rfl
              have hKc := hK.sub (tys' := [(cI, .int)]) [0] rfl
              have hFc := va_free (wc := (gX3 cI h0 a zs zh fs fn depthx_24 ff ft fg)) hD hS hA [0, 1, 2, 3, 4, 5, 6] rfl
              refine va_calli (va_runV (As := [.int i]) (rest := []) ⟨hx, hb, hml, hown, hts⟩ (c_X3_handlerOf l dC dI cI H.size h0 a zs zh fs fn depthx_24 ff ft fg i (by omega)) (cwV 1 hts ug_X3_goOver_X3_handlerOf rfl rfl rfl (by decide +kernel) ⟨Nat.le_of_ble_eq_true rfl, Nat.le_of_ble_eq_true rfl⟩) ⟨fun a U g mk q => by obtain ⟨q0, q1, qP, qK, qD⟩ := q; exact ⟨q0, q1, qP, va_K.moved (u := U) (U := U.calling g mk a) (Vm.Alike.refl U.vm) qK, qD⟩, va_recv hKc hPc (ci := 3) (q0 := 0) rfl rfl, fun U hU hW => ⟨rfl, by rw [hU], by rw [hU]; exact hPc, va_K.moved hW.alike hKc, hDc.weaken (fun _ _ _ _ => trivial)⟩⟩ rfl rfl hl.1 rfl (lv_room (Nat.le_of_ble_eq_true rfl)) dX3_goOver_106 ⟨Nat.le_of_ble_eq_true rfl, Nat.le_of_ble_eq_true rfl⟩) hS (fun q _ h => hFc q h) hFc (fun r_29 u t H locs ht hvm hw hB hz1 hk1 hS => ?_)
              obtain ⟨hP1, hD1⟩ := hB
              rw [ht] at hP1
              (try dsimp only at hw hP1 hD1)
              have hw_29 := hw
              obtain ⟨hP, hD⟩ := va_join (wr := ([] : va_W)) (w1 := (gX3 cI h0 a zs zh fs fn depthx_24 ff ft fg)) hP hD [0, 1, 2, 3, 4, 5, 6] [] rfl rfl (by decide) (by decide) hk1 hFc hP1 hD1
              have hP := hP.sub (ws' := (gX3 cI h0 a zs zh fs fn depthx_24 ff ft fg)) [0, 1, 2, 3, 4, 5, 6] rfl
              have hD := hD.sub (ws' := (gX3 cI h0 a zs zh fs fn depthx_24 ff ft fg)) [0, 1, 2, 3, 4, 5, 6] (by decide) rfl
              clear hPc hDc hKc hFc hk1 hz1 hP1 hD1 hw hvm ht
              have hv_29 := hw_29.1
              have hx_29 : 0 ≤ r_29.toInt → (fg (Int32.toNatClampNeg r_29)).toInt < zs.toInt := fun h => (hH (Int32.toNatClampNeg r_29) (by have := clamp_int h; omega)).2.2
              refine lv_goto (tgt := 113) hx hb dX3_goOver_109 (by decide) ?_
              refine lv_istore_n (lv' := [(3, .int r_29), (2, .int r_7), (0, .ref h0), (1, .int i)]) hx hb dX3_goOver_113 rfl hl (by decide) rfl (fun ls hl => ?_)
              refine lv_iload_n hx hb dX3_goOver_114 rfl (lv_at hl 0 rfl) ?_
              refine lv_iconst (v := (-1)) hx hb dX3_goOver_115 (by decide) ?_
              refine lv_icmp_eq (tgt := 133) hx hb dX3_goOver_116 (by decide) (fun c_30 => ?_) (fun c_30 => ?_)
              · rw [fa_eq, k_m1] at c_30
                refine lv_iconst (v := 0) hx hb dX3_goOver_133 (by decide) ?_
                refine lv_goto (tgt := 139) hx hb dX3_goOver_134 (by decide) ?_
                have hP9 := hP
                have hD9 := hD
                exact W.iret (v := 0) hx hb hr (fun t ht hW => ⟨⟨0, (depthx_24), rfl, (by (try dsimp only); refine ⟨?_, by assumption⟩; subst_vars; (first | exact (goS_a (by omega)).symm | exact (goS_b (by omega) (by omega)).symm | (rw [goS_c (by omega) (by omega)]; (first | exact (goA_b (by omega) (by omega)).symm | exact (goA_d (by omega) (by omega) (by omega)).symm | ((first | rw [goA_a (by omega)] | rw [goA_c (by omega) (by omega) (by omega)]); (first | exact (goB_c (by omega) (by omega)).symm | ((first | rw [goB_a (by omega)] | rw [goB_b (by omega) (by omega)]); (first | exact (goC_a (by omega)).symm | exact (goC_b (by omega) (by omega)).symm | exact (goC_c (by omega) (by omega)).symm)))))))), ⟨by rw [ht]; exact hP9, hD9⟩⟩, hS.F ht⟩) hS.2.2 dX3_goOver_139
              · rw [fa_eq, k_m1] at c_30
                refine lv_aload_n hx hb dX3_goOver_119 rfl (lv_at hl 2 rfl) ?_
                refine lv_aload_n hx hb dX3_goOver_120 rfl (lv_at hl 2 rfl) ?_
                refine va_get (D := (dC, dI)) (ci := 3) (v := .ref (a 7)) (C := RX3) (T := TX3) (N := 8) hx hb hts ui_X3_goOver_X3 hown hK hP 0 rfl rfl 7 (by decide) (hts (.fieldLink RX3 27 "CodeLifter$Listing" "goal" "[I") (by decide +kernel)) (fun _ h9 => h9) rfl dX3_goOver_121 ?_
                refine lv_iload_n hx hb dX3_goOver_124 rfl (lv_at hl 0 rfl) ?_
                have hi_31 : vp_in r_29 3 := vp_in_iff.mpr ⟨by omega, by omega⟩
                refine va_iald hx hb hK hP 6 0 rfl rfl hi_31 dX3_goOver_125 ?_
                refine lv_topi (fun v_32 e_32 => ?_)
                have r_32 : 0 ≤ v_32.toInt ∧ v_32.toInt ≤ 40 := by rw [e_32]; exact (Rng.get hR_h0_goal) hi_31
                have q_32 : v_32.toInt = (fg (Int32.toNatClampNeg r_29)).toInt := by rw [e_32]
                refine lv_iconst (v := 1) hx hb dX3_goOver_126 (by decide) ?_
                have hPc := hP.sub (ws' := (gX3 cI h0 a zs zh fs fn depthx_24 ff ft fg)) [0, 1, 2, 3, 4, 5, 6] rfl
                have hDc := hD.sub (ws' := (gX3 cI h0 a zs zh fs fn depthx_24 ff ft fg)) [0, 1, 2, 3, 4, 5, 6] (by decide) rfl
                have hKc := hK.sub (tys' := [(cI, .int)]) [0] rfl
                have hFc := va_free (wc := (gX3 cI h0 a zs zh fs fn depthx_24 ff ft fg)) hD hS hA [0, 1, 2, 3, 4, 5, 6] rfl
                refine va_calli (va_runV (As := [.int v_32, .int 1]) (rest := []) ⟨hx, hb, hml, hown, hts⟩ (c_X3_arrive l dC dI cI H.size h0 a zs zh fs fn depthx_24 ff ft fg v_32 1 (by omega) (by omega) (by omega)) (cwV 2 hts ug_X3_goOver_X3_arrive rfl rfl rfl (by decide +kernel) ⟨Nat.le_of_ble_eq_true rfl, Nat.le_of_ble_eq_true rfl⟩) ⟨fun a U g mk q => by obtain ⟨q0, q1, qP, qK, qD⟩ := q; exact ⟨q0, q1, qP, va_K.moved (u := U) (U := U.calling g mk a) (Vm.Alike.refl U.vm) qK, qD⟩, va_recv hKc hPc (ci := 3) (q0 := 0) rfl rfl, fun U hU hW => ⟨rfl, by rw [hU], by rw [hU]; exact hPc, va_K.moved hW.alike hKc, hDc.weaken (fun _ _ _ _ => trivial)⟩⟩ rfl rfl hl.1 rfl (lv_room (Nat.le_of_ble_eq_true rfl)) dX3_goOver_127 ⟨Nat.le_of_ble_eq_true rfl, Nat.le_of_ble_eq_true rfl⟩) hS (fun q _ h => hFc q h) hFc (fun r_33 u t H locs ht hvm hw hB hz1 hk1 hS => ?_)
                obtain ⟨depthx_33, rfl⟩ : ∃ z, z = u := ⟨_, rfl⟩
                obtain ⟨hP1, hD1⟩ := hB
                rw [ht] at hP1
                (try dsimp only at hw hP1 hD1)
                have hw_33 := hw
                obtain ⟨hP, hD⟩ := va_join (wr := ([] : va_W)) (w1 := (gX3 cI h0 a zs zh fs fn depthx_33 ff ft fg)) hP hD [0, 1, 2, 3, 4, 5, 6] [] rfl rfl (by decide) (by decide) hk1 hFc hP1 hD1
                have hP := hP.sub (ws' := (gX3 cI h0 a zs zh fs fn depthx_33 ff ft fg)) [0, 1, 2, 3, 4, 5, 6] rfl
                have hD := hD.sub (ws' := (gX3 cI h0 a zs zh fs fn depthx_33 ff ft fg)) [0, 1, 2, 3, 4, 5, 6] (by decide) rfl
                clear hPc hDc hKc hFc hk1 hz1 hP1 hD1 hw hvm ht
                have hd_33 := hw_33.2.1
                have hR_h0_depth : Rng depthx_33 40 (-1) 6 := by rw [hd_33]; exact aD_rng (by assumption) (by omega)
                refine lv_if_eq (tgt := 137) hx hb dX3_goOver_130 (by decide) (fun c_34 => ?_) (fun c_34 => ?_)
                · rw [fa_eq, k_0] at c_34
                  have t_34 : ¬ _ := fun h9 => absurd (hw_33.2.2.mpr h9) (by omega)
                  clear hw_33
                  refine lv_bipush (v := (-6)) hx hb dX3_goOver_137 (by decide) ?_
                  have hP9 := hP
                  have hD9 := hD
                  exact W.iret (v := (-6)) hx hb hr (fun t ht hW => ⟨⟨(-6), (depthx_33), rfl, (by (try dsimp only); refine ⟨?_, by assumption⟩; subst_vars; (first | exact (goS_a (by omega)).symm | exact (goS_b (by omega) (by omega)).symm | (rw [goS_c (by omega) (by omega)]; (first | exact (goA_b (by omega) (by omega)).symm | exact (goA_d (by omega) (by omega) (by omega)).symm | ((first | rw [goA_a (by omega)] | rw [goA_c (by omega) (by omega) (by omega)]); (first | exact (goB_c (by omega) (by omega)).symm | ((first | rw [goB_a (by omega)] | rw [goB_b (by omega) (by omega)]); (first | exact (goC_a (by omega)).symm | exact (goC_b (by omega) (by omega)).symm | exact (goC_c (by omega) (by omega)).symm)))))))), ⟨by rw [ht]; exact hP9, hD9⟩⟩, hS.F ht⟩) hS.2.2 dX3_goOver_139
                · rw [fa_eq, k_0] at c_34
                  have t_34 := hw_33.2.2.mp (by have := hw_33.1; omega)
                  clear hw_33
                  refine lv_iconst (v := 0) hx hb dX3_goOver_133 (by decide) ?_
                  refine lv_goto (tgt := 139) hx hb dX3_goOver_134 (by decide) ?_
                  have hP9 := hP
                  have hD9 := hD
                  exact W.iret (v := 0) hx hb hr (fun t ht hW => ⟨⟨0, (depthx_33), rfl, (by (try dsimp only); refine ⟨?_, by assumption⟩; subst_vars; (first | exact (goS_a (by omega)).symm | exact (goS_b (by omega) (by omega)).symm | (rw [goS_c (by omega) (by omega)]; (first | exact (goA_b (by omega) (by omega)).symm | exact (goA_d (by omega) (by omega) (by omega)).symm | ((first | rw [goA_a (by omega)] | rw [goA_c (by omega) (by omega) (by omega)]); (first | exact (goB_c (by omega) (by omega)).symm | ((first | rw [goB_a (by omega)] | rw [goB_b (by omega) (by omega)]); (first | exact (goC_a (by omega)).symm | exact (goC_b (by omega) (by omega)).symm | exact (goC_c (by omega) (by omega)).symm)))))))), ⟨by rw [ht]; exact hP9, hD9⟩⟩, hS.F ht⟩) hS.2.2 dX3_goOver_139
          · rw [fa_eq, k_0] at c_25
            have t_25 : ¬ _ := fun h9 => absurd (hw_24.2.2.mpr h9) (by omega)
            clear hw_24
            refine lv_bipush (v := (-6)) hx hb dX3_goOver_93 (by decide) ?_
            have hP9 := hP
            have hD9 := hD
            exact W.iret (v := (-6)) hx hb hr (fun t ht hW => ⟨⟨(-6), (depthx_24), rfl, (by (try dsimp only); refine ⟨?_, by assumption⟩; subst_vars; (first | exact (goS_a (by omega)).symm | exact (goS_b (by omega) (by omega)).symm | (rw [goS_c (by omega) (by omega)]; (first | exact (goA_b (by omega) (by omega)).symm | exact (goA_d (by omega) (by omega) (by omega)).symm | ((first | rw [goA_a (by omega)] | rw [goA_c (by omega) (by omega) (by omega)]); (first | exact (goB_c (by omega) (by omega)).symm | ((first | rw [goB_a (by omega)] | rw [goB_b (by omega) (by omega)]); (first | exact (goC_a (by omega)).symm | exact (goC_b (by omega) (by omega)).symm | exact (goC_c (by omega) (by omega)).symm)))))))), ⟨by rw [ht]; exact hP9, hD9⟩⟩, hS.F ht⟩) hS.2.2 dX3_goOver_95
      · rw [fa_eq, k_0] at c_10
        have t_10 := hw_9.2.mp (by have := hw_9.1; omega)
        clear hw_9
        refine lv_iload_n hx hb dX3_goOver_44 rfl (lv_at hl 2 rfl) ?_
        refine lv_iconst (v := 1) hx hb dX3_goOver_45 (by decide) ?_
        refine lv_iadd hx hb dX3_goOver_46 ?_
        refine lv_topi (fun v_35 e_35 => ?_)
        have r_35 : v_35.toInt = i.toInt + (1 : Int32).toInt := by rw [e_35]; exact fb_addI (by omega) (by omega)
        refine lv_aload_n hx hb dX3_goOver_47 rfl (lv_at hl 1 rfl) ?_
        refine va_get (D := (dC, dI)) (ci := 3) (v := .int zs) (C := RX3) (T := TX3) (N := 8) hx hb hts ui_X3_goOver_X3 hown hK hP 0 rfl rfl 0 (by decide) (hts (.fieldLink RX3 30 "CodeLifter$Listing" "size" "I") (by decide +kernel)) (fun _ h9 => h9) rfl dX3_goOver_48 ?_
        refine lv_icmp_lt (tgt := 57) hx hb dX3_goOver_51 (by decide) (fun c_36 => ?_) (fun c_36 => ?_)
        · rw [fa_lt] at c_36
          refine lv_aload_n hx hb dX3_goOver_57 rfl (lv_at hl 1 rfl) ?_
          refine lv_iload_n hx hb dX3_goOver_58 rfl (lv_at hl 2 rfl) ?_
          refine lv_iconst (v := 1) hx hb dX3_goOver_59 (by decide) ?_
          refine lv_iadd hx hb dX3_goOver_60 ?_
          refine lv_topi (fun v_37 e_37 => ?_)
          have r_37 : v_37.toInt = i.toInt + (1 : Int32).toInt := by rw [e_37]; exact fb_addI (by omega) (by omega)
          refine lv_iload_n hx hb dX3_goOver_61 rfl (lv_at hl 0 rfl) ?_
          have hPc := hP.sub (ws' := (gX3 cI h0 a zs zh fs fn fd ff ft fg)) [0, 1, 2, 3, 4, 5, 6] rfl
          have hDc := hD.sub (ws' := (gX3 cI h0 a zs zh fs fn fd ff ft fg)) [0, 1, 2, 3, 4, 5, 6] (by decide) rfl
          have hKc := hK.sub (tys' := [(cI, .int)]) [0] rfl
          have hFc := va_free (wc := (gX3 cI h0 a zs zh fs fn fd ff ft fg)) hD hS hA [0, 1, 2, 3, 4, 5, 6] rfl
          refine va_calli (va_runV (As := [.int v_37, .int r_7]) (rest := []) ⟨hx, hb, hml, hown, hts⟩ (c_X3_arrive l dC dI cI H.size h0 a zs zh fs fn fd ff ft fg v_37 r_7 (by omega) (by omega) (by omega)) (cwV 2 hts ug_X3_goOver_X3_arrive rfl rfl rfl (by decide +kernel) ⟨Nat.le_of_ble_eq_true rfl, Nat.le_of_ble_eq_true rfl⟩) ⟨fun a U g mk q => by obtain ⟨q0, q1, qP, qK, qD⟩ := q; exact ⟨q0, q1, qP, va_K.moved (u := U) (U := U.calling g mk a) (Vm.Alike.refl U.vm) qK, qD⟩, va_recv hKc hPc (ci := 3) (q0 := 0) rfl rfl, fun U hU hW => ⟨rfl, by rw [hU], by rw [hU]; exact hPc, va_K.moved hW.alike hKc, hDc.weaken (fun _ _ _ _ => trivial)⟩⟩ rfl rfl hl.1 rfl (lv_room (Nat.le_of_ble_eq_true rfl)) dX3_goOver_62 ⟨Nat.le_of_ble_eq_true rfl, Nat.le_of_ble_eq_true rfl⟩) hS (fun q _ h => hFc q h) hFc (fun r_38 u t H locs ht hvm hw hB hz1 hk1 hS => ?_)
          obtain ⟨depthx_38, rfl⟩ : ∃ z, z = u := ⟨_, rfl⟩
          obtain ⟨hP1, hD1⟩ := hB
          rw [ht] at hP1
          (try dsimp only at hw hP1 hD1)
          have hw_38 := hw
          obtain ⟨hP, hD⟩ := va_join (wr := ([] : va_W)) (w1 := (gX3 cI h0 a zs zh fs fn depthx_38 ff ft fg)) hP hD [0, 1, 2, 3, 4, 5, 6] [] rfl rfl (by decide) (by decide) hk1 hFc hP1 hD1
          have hP := hP.sub (ws' := (gX3 cI h0 a zs zh fs fn depthx_38 ff ft fg)) [0, 1, 2, 3, 4, 5, 6] rfl
          have hD := hD.sub (ws' := (gX3 cI h0 a zs zh fs fn depthx_38 ff ft fg)) [0, 1, 2, 3, 4, 5, 6] (by decide) rfl
          clear hPc hDc hKc hFc hk1 hz1 hP1 hD1 hw hvm ht
          have hd_38 := hw_38.2.1
          have hR_h0_depth : Rng depthx_38 40 (-1) 6 := by rw [hd_38]; exact aD_rng (by assumption) (by omega)
          refine lv_if_ne (tgt := 71) hx hb dX3_goOver_65 (by decide) (fun c_39 => ?_) (fun c_39 => ?_)
          · rw [fa_eq, k_0] at c_39
            have t_39 := hw_38.2.2.mp (by have := hw_38.1; omega)
            clear hw_38
            refine lv_aload_n hx hb dX3_goOver_71 rfl (lv_at hl 1 rfl) ?_
            refine lv_iload_n hx hb dX3_goOver_72 rfl (lv_at hl 2 rfl) ?_
            have hPc := hP.sub (ws' := (gX3 cI h0 a zs zh fs fn depthx_38 ff ft fg)) [0, 1, 2, 3, 4, 5, 6] rfl
            have hDc := hD.sub (ws' := (gX3 cI h0 a zs zh fs fn depthx_38 ff ft fg)) [0, 1, 2, 3, 4, 5, 6] (by decide) rfl
            have hKc := hK.sub (tys' := [(cI, .int)]) [0] rfl
            have hFc := va_free (wc := (gX3 cI h0 a zs zh fs fn depthx_38 ff ft fg)) hD hS hA [0, 1, 2, 3, 4, 5, 6] rfl
            refine va_calli (va_runV (As := [.int i]) (rest := []) ⟨hx, hb, hml, hown, hts⟩ (c_X3_goesElsewhere l dC dI cI H.size h0 a zs zh fs fn depthx_38 ff ft fg i (by omega)) (cwV 1 hts ug_X3_goOver_X3_goesElsewhere rfl rfl rfl (by decide +kernel) ⟨Nat.le_of_ble_eq_true rfl, Nat.le_of_ble_eq_true rfl⟩) ⟨fun a U g mk q => by obtain ⟨q0, q1, qP, qK, qD⟩ := q; exact ⟨q0, q1, qP, va_K.moved (u := U) (U := U.calling g mk a) (Vm.Alike.refl U.vm) qK, qD⟩, va_recv hKc hPc (ci := 3) (q0 := 0) rfl rfl, fun U hU hW => ⟨rfl, by rw [hU], by rw [hU]; exact hPc, va_K.moved hW.alike hKc, hDc.weaken (fun _ _ _ _ => trivial)⟩⟩ rfl rfl hl.1 rfl (lv_room (Nat.le_of_ble_eq_true rfl)) dX3_goOver_73 ⟨Nat.le_of_ble_eq_true rfl, Nat.le_of_ble_eq_true rfl⟩) hS (fun q _ h => hFc q h) hFc (fun r_40 u t H locs ht hvm hw hB hz1 hk1 hS => ?_)
            obtain ⟨hP1, hD1⟩ := hB
            rw [ht] at hP1
            (try dsimp only at hw hP1 hD1)
            have hw_40 := hw
            obtain ⟨hP, hD⟩ := va_join (wr := ([] : va_W)) (w1 := (gX3 cI h0 a zs zh fs fn depthx_38 ff ft fg)) hP hD [0, 1, 2, 3, 4, 5, 6] [] rfl rfl (by decide) (by decide) hk1 hFc hP1 hD1
            have hP := hP.sub (ws' := (gX3 cI h0 a zs zh fs fn depthx_38 ff ft fg)) [0, 1, 2, 3, 4, 5, 6] rfl
            have hD := hD.sub (ws' := (gX3 cI h0 a zs zh fs fn depthx_38 ff ft fg)) [0, 1, 2, 3, 4, 5, 6] (by decide) rfl
            clear hPc hDc hKc hFc hk1 hz1 hP1 hD1 hw hvm ht
            refine lv_if_eq (tgt := 96) hx hb dX3_goOver_76 (by decide) (fun c_41 => ?_) (fun c_41 => ?_)
            · rw [fa_eq, k_0] at c_41
              have t_41 : ¬ _ := fun h9 => absurd (hw_40.2.mpr h9) (by omega)
              clear hw_40
              refine lv_aload_n hx hb dX3_goOver_96 rfl (lv_at hl 1 rfl) ?_
              refine lv_iload_n hx hb dX3_goOver_97 rfl (lv_at hl 2 rfl) ?_
              have hPc := hP.sub (ws' := (gX3 cI h0 a zs zh fs fn depthx_38 ff ft fg)) [0, 1, 2, 3, 4, 5, 6] rfl
              have hDc := hD.sub (ws' := (gX3 cI h0 a zs zh fs fn depthx_38 ff ft fg)) [0, 1, 2, 3, 4, 5, 6] (by decide) rfl
              have hKc := hK.sub (tys' := [(cI, .int)]) [0] rfl
              have hFc := va_free (wc := (gX3 cI h0 a zs zh fs fn depthx_38 ff ft fg)) hD hS hA [0, 1, 2, 3, 4, 5, 6] rfl
              refine va_calli (va_runV (As := [.int i]) (rest := []) ⟨hx, hb, hml, hown, hts⟩ (c_X3_canThrow l dC dI cI H.size h0 a zs zh fs fn depthx_38 ff ft fg i (by omega)) (cwV 1 hts ug_X3_goOver_X3_canThrow rfl rfl rfl (by decide +kernel) ⟨Nat.le_of_ble_eq_true rfl, Nat.le_of_ble_eq_true rfl⟩) ⟨fun a U g mk q => by obtain ⟨q0, q1, qP, qK, qD⟩ := q; exact ⟨q0, q1, qP, va_K.moved (u := U) (U := U.calling g mk a) (Vm.Alike.refl U.vm) qK, qD⟩, va_recv hKc hPc (ci := 3) (q0 := 0) rfl rfl, fun U hU hW => ⟨rfl, by rw [hU], by rw [hU]; exact hPc, va_K.moved hW.alike hKc, hDc.weaken (fun _ _ _ _ => trivial)⟩⟩ rfl rfl hl.1 rfl (lv_room (Nat.le_of_ble_eq_true rfl)) dX3_goOver_98 ⟨Nat.le_of_ble_eq_true rfl, Nat.le_of_ble_eq_true rfl⟩) hS (fun q _ h => hFc q h) hFc (fun r_42 u t H locs ht hvm hw hB hz1 hk1 hS => ?_)
              obtain ⟨hP1, hD1⟩ := hB
              rw [ht] at hP1
              (try dsimp only at hw hP1 hD1)
              have hw_42 := hw
              obtain ⟨hP, hD⟩ := va_join (wr := ([] : va_W)) (w1 := (gX3 cI h0 a zs zh fs fn depthx_38 ff ft fg)) hP hD [0, 1, 2, 3, 4, 5, 6] [] rfl rfl (by decide) (by decide) hk1 hFc hP1 hD1
              have hP := hP.sub (ws' := (gX3 cI h0 a zs zh fs fn depthx_38 ff ft fg)) [0, 1, 2, 3, 4, 5, 6] rfl
              have hD := hD.sub (ws' := (gX3 cI h0 a zs zh fs fn depthx_38 ff ft fg)) [0, 1, 2, 3, 4, 5, 6] (by decide) rfl
              clear hPc hDc hKc hFc hk1 hz1 hP1 hD1 hw hvm ht
              refine lv_if_eq (tgt := 112) hx hb dX3_goOver_101 (by decide) (fun c_43 => ?_) (fun c_43 => ?_)
              · rw [fa_eq, k_0] at c_43
                have t_43 : ¬ _ := fun h9 => absurd (hw_42.2.mpr h9) (by omega)
                clear hw_42
                refine lv_iconst (v := (-1)) hx hb dX3_goOver_112 (by decide) ?_
                refine lv_istore_n (lv' := [(3, .int (-1)), (2, .int r_7), (0, .ref h0), (1, .int i)]) hx hb dX3_goOver_113 rfl hl (by decide) rfl (fun ls hl => ?_)
                refine lv_iload_n hx hb dX3_goOver_114 rfl (lv_at hl 0 rfl) ?_
                refine lv_iconst (v := (-1)) hx hb dX3_goOver_115 (by decide) ?_
                refine lv_icmp_eq (tgt := 133) hx hb dX3_goOver_116 (by decide) (fun c_44 => ?_) (fun c_44 => absurd (by decide) c_44)
                refine lv_iconst (v := 0) hx hb dX3_goOver_133 (by decide) ?_
                refine lv_goto (tgt := 139) hx hb dX3_goOver_134 (by decide) ?_
                have hP9 := hP
                have hD9 := hD
                exact W.iret (v := 0) hx hb hr (fun t ht hW => ⟨⟨0, (depthx_38), rfl, (by (try dsimp only); refine ⟨?_, by assumption⟩; subst_vars; (first | exact (goS_a (by omega)).symm | exact (goS_b (by omega) (by omega)).symm | (rw [goS_c (by omega) (by omega)]; (first | exact (goA_b (by omega) (by omega)).symm | exact (goA_d (by omega) (by omega) (by omega)).symm | ((first | rw [goA_a (by omega)] | rw [goA_c (by omega) (by omega) (by omega)]); (first | exact (goB_c (by omega) (by omega)).symm | ((first | rw [goB_a (by omega)] | rw [goB_b (by omega) (by omega)]); (first | exact (goC_a (by omega)).symm | exact (goC_b (by omega) (by omega)).symm | exact (goC_c (by omega) (by omega)).symm)))))))), ⟨by rw [ht]; exact hP9, hD9⟩⟩, hS.F ht⟩) hS.2.2 dX3_goOver_139
              · rw [fa_eq, k_0] at c_43
                have t_43 := hw_42.2.mp (by have := hw_42.1; omega)
                clear hw_42
                refine lv_aload_n hx hb dX3_goOver_104 rfl (lv_at hl 1 rfl) ?_
                refine lv_iload_n hx hb dX3_goOver_105 rfl (lv_at hl 2 rfl) ?_
                have hPc := hP.sub (ws' := (gX3 cI h0 a zs zh fs fn depthx_38 ff ft fg)) [0, 1, 2, 3, 4, 5, 6] rfl
                have hDc := hD.sub (ws' := (gX3 cI h0 a zs zh fs fn depthx_38 ff ft fg)) [0, 1, 2, 3, 4, 5, 6] (by decide) rfl
                have hKc := hK.sub (tys' := [(cI, .int)]) [0] rfl
                have hFc := va_free (wc := (gX3 cI h0 a zs zh fs fn depthx_38 ff ft fg)) hD hS hA [0, 1, 2, 3, 4, 5, 6] rfl
                refine va_calli (va_runV (As := [.int i]) (rest := []) ⟨hx, hb, hml, hown, hts⟩ (c_X3_handlerOf l dC dI cI H.size h0 a zs zh fs fn depthx_38 ff ft fg i (by omega)) (cwV 1 hts ug_X3_goOver_X3_handlerOf rfl rfl rfl (by decide +kernel) ⟨Nat.le_of_ble_eq_true rfl, Nat.le_of_ble_eq_true rfl⟩) ⟨fun a U g mk q => by obtain ⟨q0, q1, qP, qK, qD⟩ := q; exact ⟨q0, q1, qP, va_K.moved (u := U) (U := U.calling g mk a) (Vm.Alike.refl U.vm) qK, qD⟩, va_recv hKc hPc (ci := 3) (q0 := 0) rfl rfl, fun U hU hW => ⟨rfl, by rw [hU], by rw [hU]; exact hPc, va_K.moved hW.alike hKc, hDc.weaken (fun _ _ _ _ => trivial)⟩⟩ rfl rfl hl.1 rfl (lv_room (Nat.le_of_ble_eq_true rfl)) dX3_goOver_106 ⟨Nat.le_of_ble_eq_true rfl, Nat.le_of_ble_eq_true rfl⟩) hS (fun q _ h => hFc q h) hFc (fun r_45 u t H locs ht hvm hw hB hz1 hk1 hS => ?_)
                obtain ⟨hP1, hD1⟩ := hB
                rw [ht] at hP1
                (try dsimp only at hw hP1 hD1)
                have hw_45 := hw
                obtain ⟨hP, hD⟩ := va_join (wr := ([] : va_W)) (w1 := (gX3 cI h0 a zs zh fs fn depthx_38 ff ft fg)) hP hD [0, 1, 2, 3, 4, 5, 6] [] rfl rfl (by decide) (by decide) hk1 hFc hP1 hD1
                have hP := hP.sub (ws' := (gX3 cI h0 a zs zh fs fn depthx_38 ff ft fg)) [0, 1, 2, 3, 4, 5, 6] rfl
                have hD := hD.sub (ws' := (gX3 cI h0 a zs zh fs fn depthx_38 ff ft fg)) [0, 1, 2, 3, 4, 5, 6] (by decide) rfl
                clear hPc hDc hKc hFc hk1 hz1 hP1 hD1 hw hvm ht
                have hv_45 := hw_45.1
                have hx_45 : 0 ≤ r_45.toInt → (fg (Int32.toNatClampNeg r_45)).toInt < zs.toInt := fun h => (hH (Int32.toNatClampNeg r_45) (by have := clamp_int h; omega)).2.2
                refine lv_goto (tgt := 113) hx hb dX3_goOver_109 (by decide) ?_
                refine lv_istore_n (lv' := [(3, .int r_45), (2, .int r_7), (0, .ref h0), (1, .int i)]) hx hb dX3_goOver_113 rfl hl (by decide) rfl (fun ls hl => ?_)
                refine lv_iload_n hx hb dX3_goOver_114 rfl (lv_at hl 0 rfl) ?_
                refine lv_iconst (v := (-1)) hx hb dX3_goOver_115 (by decide) ?_
                refine lv_icmp_eq (tgt := 133) hx hb dX3_goOver_116 (by decide) (fun c_46 => ?_) (fun c_46 => ?_)
                · rw [fa_eq, k_m1] at c_46
                  refine lv_iconst (v := 0) hx hb dX3_goOver_133 (by decide) ?_
                  refine lv_goto (tgt := 139) hx hb dX3_goOver_134 (by decide) ?_
                  have hP9 := hP
                  have hD9 := hD
                  exact W.iret (v := 0) hx hb hr (fun t ht hW => ⟨⟨0, (depthx_38), rfl, (by (try dsimp only); refine ⟨?_, by assumption⟩; subst_vars; (first | exact (goS_a (by omega)).symm | exact (goS_b (by omega) (by omega)).symm | (rw [goS_c (by omega) (by omega)]; (first | exact (goA_b (by omega) (by omega)).symm | exact (goA_d (by omega) (by omega) (by omega)).symm | ((first | rw [goA_a (by omega)] | rw [goA_c (by omega) (by omega) (by omega)]); (first | exact (goB_c (by omega) (by omega)).symm | ((first | rw [goB_a (by omega)] | rw [goB_b (by omega) (by omega)]); (first | exact (goC_a (by omega)).symm | exact (goC_b (by omega) (by omega)).symm | exact (goC_c (by omega) (by omega)).symm)))))))), ⟨by rw [ht]; exact hP9, hD9⟩⟩, hS.F ht⟩) hS.2.2 dX3_goOver_139
                · rw [fa_eq, k_m1] at c_46
                  refine lv_aload_n hx hb dX3_goOver_119 rfl (lv_at hl 2 rfl) ?_
                  refine lv_aload_n hx hb dX3_goOver_120 rfl (lv_at hl 2 rfl) ?_
                  refine va_get (D := (dC, dI)) (ci := 3) (v := .ref (a 7)) (C := RX3) (T := TX3) (N := 8) hx hb hts ui_X3_goOver_X3 hown hK hP 0 rfl rfl 7 (by decide) (hts (.fieldLink RX3 27 "CodeLifter$Listing" "goal" "[I") (by decide +kernel)) (fun _ h9 => h9) rfl dX3_goOver_121 ?_
                  refine lv_iload_n hx hb dX3_goOver_124 rfl (lv_at hl 0 rfl) ?_
                  have hi_47 : vp_in r_45 3 := vp_in_iff.mpr ⟨by omega, by omega⟩
                  refine va_iald hx hb hK hP 6 0 rfl rfl hi_47 dX3_goOver_125 ?_
                  refine lv_topi (fun v_48 e_48 => ?_)
                  have r_48 : 0 ≤ v_48.toInt ∧ v_48.toInt ≤ 40 := by rw [e_48]; exact (Rng.get hR_h0_goal) hi_47
                  have q_48 : v_48.toInt = (fg (Int32.toNatClampNeg r_45)).toInt := by rw [e_48]
                  refine lv_iconst (v := 1) hx hb dX3_goOver_126 (by decide) ?_
                  have hPc := hP.sub (ws' := (gX3 cI h0 a zs zh fs fn depthx_38 ff ft fg)) [0, 1, 2, 3, 4, 5, 6] rfl
                  have hDc := hD.sub (ws' := (gX3 cI h0 a zs zh fs fn depthx_38 ff ft fg)) [0, 1, 2, 3, 4, 5, 6] (by decide) rfl
                  have hKc := hK.sub (tys' := [(cI, .int)]) [0] rfl
                  have hFc := va_free (wc := (gX3 cI h0 a zs zh fs fn depthx_38 ff ft fg)) hD hS hA [0, 1, 2, 3, 4, 5, 6] rfl
                  refine va_calli (va_runV (As := [.int v_48, .int 1]) (rest := []) ⟨hx, hb, hml, hown, hts⟩ (c_X3_arrive l dC dI cI H.size h0 a zs zh fs fn depthx_38 ff ft fg v_48 1 (by omega) (by omega) (by omega)) (cwV 2 hts ug_X3_goOver_X3_arrive rfl rfl rfl (by decide +kernel) ⟨Nat.le_of_ble_eq_true rfl, Nat.le_of_ble_eq_true rfl⟩) ⟨fun a U g mk q => by obtain ⟨q0, q1, qP, qK, qD⟩ := q; exact ⟨q0, q1, qP, va_K.moved (u := U) (U := U.calling g mk a) (Vm.Alike.refl U.vm) qK, qD⟩, va_recv hKc hPc (ci := 3) (q0 := 0) rfl rfl, fun U hU hW => ⟨rfl, by rw [hU], by rw [hU]; exact hPc, va_K.moved hW.alike hKc, hDc.weaken (fun _ _ _ _ => trivial)⟩⟩ rfl rfl hl.1 rfl (lv_room (Nat.le_of_ble_eq_true rfl)) dX3_goOver_127 ⟨Nat.le_of_ble_eq_true rfl, Nat.le_of_ble_eq_true rfl⟩) hS (fun q _ h => hFc q h) hFc (fun r_49 u t H locs ht hvm hw hB hz1 hk1 hS => ?_)
                  obtain ⟨depthx_49, rfl⟩ : ∃ z, z = u := ⟨_, rfl⟩
                  obtain ⟨hP1, hD1⟩ := hB
                  rw [ht] at hP1
                  (try dsimp only at hw hP1 hD1)
                  have hw_49 := hw
                  obtain ⟨hP, hD⟩ := va_join (wr := ([] : va_W)) (w1 := (gX3 cI h0 a zs zh fs fn depthx_49 ff ft fg)) hP hD [0, 1, 2, 3, 4, 5, 6] [] rfl rfl (by decide) (by decide) hk1 hFc hP1 hD1
                  have hP := hP.sub (ws' := (gX3 cI h0 a zs zh fs fn depthx_49 ff ft fg)) [0, 1, 2, 3, 4, 5, 6] rfl
                  have hD := hD.sub (ws' := (gX3 cI h0 a zs zh fs fn depthx_49 ff ft fg)) [0, 1, 2, 3, 4, 5, 6] (by decide) rfl
                  clear hPc hDc hKc hFc hk1 hz1 hP1 hD1 hw hvm ht
                  have hd_49 := hw_49.2.1
                  have hR_h0_depth : Rng depthx_49 40 (-1) 6 := by rw [hd_49]; exact aD_rng (by assumption) (by omega)
                  refine lv_if_eq (tgt := 137) hx hb dX3_goOver_130 (by decide) (fun c_50 => ?_) (fun c_50 => ?_)
                  · rw [fa_eq, k_0] at c_50
                    have t_50 : ¬ _ := fun h9 => absurd (hw_49.2.2.mpr h9) (by omega)
                    clear hw_49
                    refine lv_bipush (v := (-6)) hx hb dX3_goOver_137 (by decide) ?_
                    have hP9 := hP
                    have hD9 := hD
                    exact W.iret (v := (-6)) hx hb hr (fun t ht hW => ⟨⟨(-6), (depthx_49), rfl, (by (try dsimp only); refine ⟨?_, by assumption⟩; subst_vars; (first | exact (goS_a (by omega)).symm | exact (goS_b (by omega) (by omega)).symm | (rw [goS_c (by omega) (by omega)]; (first | exact (goA_b (by omega) (by omega)).symm | exact (goA_d (by omega) (by omega) (by omega)).symm | ((first | rw [goA_a (by omega)] | rw [goA_c (by omega) (by omega) (by omega)]); (first | exact (goB_c (by omega) (by omega)).symm | ((first | rw [goB_a (by omega)] | rw [goB_b (by omega) (by omega)]); (first | exact (goC_a (by omega)).symm | exact (goC_b (by omega) (by omega)).symm | exact (goC_c (by omega) (by omega)).symm)))))))), ⟨by rw [ht]; exact hP9, hD9⟩⟩, hS.F ht⟩) hS.2.2 dX3_goOver_139
                  · rw [fa_eq, k_0] at c_50
                    have t_50 := hw_49.2.2.mp (by have := hw_49.1; omega)
                    clear hw_49
                    refine lv_iconst (v := 0) hx hb dX3_goOver_133 (by decide) ?_
                    refine lv_goto (tgt := 139) hx hb dX3_goOver_134 (by decide) ?_
                    have hP9 := hP
                    have hD9 := hD
                    exact W.iret (v := 0) hx hb hr (fun t ht hW => ⟨⟨0, (depthx_49), rfl, (by (try dsimp only); refine ⟨?_, by assumption⟩; subst_vars; (first | exact (goS_a (by omega)).symm | exact (goS_b (by omega) (by omega)).symm | (rw [goS_c (by omega) (by omega)]; (first | exact (goA_b (by omega) (by omega)).symm | exact (goA_d (by omega) (by omega) (by omega)).symm | ((first | rw [goA_a (by omega)] | rw [goA_c (by omega) (by omega) (by omega)]); (first | exact (goB_c (by omega) (by omega)).symm | ((first | rw [goB_a (by omega)] | rw [goB_b (by omega) (by omega)]); (first | exact (goC_a (by omega)).symm | exact (goC_b (by omega) (by omega)).symm | exact (goC_c (by omega) (by omega)).symm)))))))), ⟨by rw [ht]; exact hP9, hD9⟩⟩, hS.F ht⟩) hS.2.2 dX3_goOver_139
            · rw [fa_eq, k_0] at c_41
              have t_41 := hw_40.2.mp (by have := hw_40.1; omega)
              clear hw_40
              refine lv_aload_n hx hb dX3_goOver_79 rfl (lv_at hl 1 rfl) ?_
              refine lv_aload_n hx hb dX3_goOver_80 rfl (lv_at hl 1 rfl) ?_
              refine va_get (D := (dC, dI)) (ci := 3) (v := .ref (a 3)) (C := RX3) (T := TX3) (N := 8) hx hb hts ui_X3_goOver_X3 hown hK hP 0 rfl rfl 3 (by decide) (hts (.fieldLink RX3 15 "CodeLifter$Listing" "number" "[I") (by decide +kernel)) (fun _ h9 => h9) rfl dX3_goOver_81 ?_
              refine lv_iload_n hx hb dX3_goOver_84 rfl (lv_at hl 2 rfl) ?_
              have hi_51 : vp_in i 40 := vp_in_iff.mpr ⟨by omega, by omega⟩
              refine va_iald hx hb hK hP 2 0 rfl rfl hi_51 dX3_goOver_85 ?_
              refine lv_topi (fun v_52 e_52 => ?_)
              have r_52 : 0 ≤ v_52.toInt ∧ v_52.toInt ≤ 999 := by rw [e_52]; exact (Rng.get hR_h0_number) hi_51
              have q_52 : v_52.toInt = (fn (Int32.toNatClampNeg i)).toInt := by rw [e_52]
              refine lv_iload_n hx hb dX3_goOver_86 rfl (lv_at hl 0 rfl) ?_
              have hPc := hP.sub (ws' := (gX3 cI h0 a zs zh fs fn depthx_38 ff ft fg)) [0, 1, 2, 3, 4, 5, 6] rfl
              have hDc := hD.sub (ws' := (gX3 cI h0 a zs zh fs fn depthx_38 ff ft fg)) [0, 1, 2, 3, 4, 5, 6] (by decide) rfl
              have hKc := hK.sub (tys' := [(cI, .int)]) [0] rfl
              have hFc := va_free (wc := (gX3 cI h0 a zs zh fs fn depthx_38 ff ft fg)) hD hS hA [0, 1, 2, 3, 4, 5, 6] rfl
              refine va_calli (va_runV (As := [.int v_52, .int r_7]) (rest := []) ⟨hx, hb, hml, hown, hts⟩ (c_X3_arrive l dC dI cI H.size h0 a zs zh fs fn depthx_38 ff ft fg v_52 r_7 (by omega) (by omega) (by omega)) (cwV 2 hts ug_X3_goOver_X3_arrive rfl rfl rfl (by decide +kernel) ⟨Nat.le_of_ble_eq_true rfl, Nat.le_of_ble_eq_true rfl⟩) ⟨fun a U g mk q => by obtain ⟨q0, q1, qP, qK, qD⟩ := q; exact ⟨q0, q1, qP, va_K.moved (u := U) (U := U.calling g mk a) (Vm.Alike.refl U.vm) qK, qD⟩, va_recv hKc hPc (ci := 3) (q0 := 0) rfl rfl, fun U hU hW => ⟨rfl, by rw [hU], by rw [hU]; exact hPc, va_K.moved hW.alike hKc, hDc.weaken (fun _ _ _ _ => trivial)⟩⟩ rfl rfl hl.1 rfl (lv_room (Nat.le_of_ble_eq_true rfl)) dX3_goOver_87 ⟨Nat.le_of_ble_eq_true rfl, Nat.le_of_ble_eq_true rfl⟩) hS (fun q _ h => hFc q h) hFc (fun r_53 u t H locs ht hvm hw hB hz1 hk1 hS => ?_)
              obtain ⟨depthx_53, rfl⟩ : ∃ z, z = u := ⟨_, rfl⟩
              obtain ⟨hP1, hD1⟩ := hB
              rw [ht] at hP1
              (try dsimp only at hw hP1 hD1)
              have hw_53 := hw
              obtain ⟨hP, hD⟩ := va_join (wr := ([] : va_W)) (w1 := (gX3 cI h0 a zs zh fs fn depthx_53 ff ft fg)) hP hD [0, 1, 2, 3, 4, 5, 6] [] rfl rfl (by decide) (by decide) hk1 hFc hP1 hD1
              have hP := hP.sub (ws' := (gX3 cI h0 a zs zh fs fn depthx_53 ff ft fg)) [0, 1, 2, 3, 4, 5, 6] rfl
              have hD := hD.sub (ws' := (gX3 cI h0 a zs zh fs fn depthx_53 ff ft fg)) [0, 1, 2, 3, 4, 5, 6] (by decide) rfl
              clear hPc hDc hKc hFc hk1 hz1 hP1 hD1 hw hvm ht
              have hd_53 := hw_53.2.1
              have hR_h0_depth : Rng depthx_53 40 (-1) 6 := by rw [hd_53]; exact aD_rng (by assumption) (by omega)
              refine lv_if_ne (tgt := 96) hx hb dX3_goOver_90 (by decide) (fun c_54 => ?_) (fun c_54 => ?_)
              · rw [fa_eq, k_0] at c_54
                have t_54 := hw_53.2.2.mp (by have := hw_53.1; omega)
                clear hw_53
                refine lv_aload_n hx hb dX3_goOver_96 rfl (lv_at hl 1 rfl) ?_
                refine lv_iload_n hx hb dX3_goOver_97 rfl (lv_at hl 2 rfl) ?_
                have hPc := hP.sub (ws' := (gX3 cI h0 a zs zh fs fn depthx_53 ff ft fg)) [0, 1, 2, 3, 4, 5, 6] rfl
                have hDc := hD.sub (ws' := (gX3 cI h0 a zs zh fs fn depthx_53 ff ft fg)) [0, 1, 2, 3, 4, 5, 6] (by decide) rfl
                have hKc := hK.sub (tys' := [(cI, .int)]) [0] rfl
                have hFc := va_free (wc := (gX3 cI h0 a zs zh fs fn depthx_53 ff ft fg)) hD hS hA [0, 1, 2, 3, 4, 5, 6] rfl
                refine va_calli (va_runV (As := [.int i]) (rest := []) ⟨hx, hb, hml, hown, hts⟩ (c_X3_canThrow l dC dI cI H.size h0 a zs zh fs fn depthx_53 ff ft fg i (by omega)) (cwV 1 hts ug_X3_goOver_X3_canThrow rfl rfl rfl (by decide +kernel) ⟨Nat.le_of_ble_eq_true rfl, Nat.le_of_ble_eq_true rfl⟩) ⟨fun a U g mk q => by obtain ⟨q0, q1, qP, qK, qD⟩ := q; exact ⟨q0, q1, qP, va_K.moved (u := U) (U := U.calling g mk a) (Vm.Alike.refl U.vm) qK, qD⟩, va_recv hKc hPc (ci := 3) (q0 := 0) rfl rfl, fun U hU hW => ⟨rfl, by rw [hU], by rw [hU]; exact hPc, va_K.moved hW.alike hKc, hDc.weaken (fun _ _ _ _ => trivial)⟩⟩ rfl rfl hl.1 rfl (lv_room (Nat.le_of_ble_eq_true rfl)) dX3_goOver_98 ⟨Nat.le_of_ble_eq_true rfl, Nat.le_of_ble_eq_true rfl⟩) hS (fun q _ h => hFc q h) hFc (fun r_55 u t H locs ht hvm hw hB hz1 hk1 hS => ?_)
                obtain ⟨hP1, hD1⟩ := hB
                rw [ht] at hP1
                (try dsimp only at hw hP1 hD1)
                have hw_55 := hw
                obtain ⟨hP, hD⟩ := va_join (wr := ([] : va_W)) (w1 := (gX3 cI h0 a zs zh fs fn depthx_53 ff ft fg)) hP hD [0, 1, 2, 3, 4, 5, 6] [] rfl rfl (by decide) (by decide) hk1 hFc hP1 hD1
                have hP := hP.sub (ws' := (gX3 cI h0 a zs zh fs fn depthx_53 ff ft fg)) [0, 1, 2, 3, 4, 5, 6] rfl
                have hD := hD.sub (ws' := (gX3 cI h0 a zs zh fs fn depthx_53 ff ft fg)) [0, 1, 2, 3, 4, 5, 6] (by decide) rfl
                clear hPc hDc hKc hFc hk1 hz1 hP1 hD1 hw hvm ht
                refine lv_if_eq (tgt := 112) hx hb dX3_goOver_101 (by decide) (fun c_56 => ?_) (fun c_56 => ?_)
                · rw [fa_eq, k_0] at c_56
                  have t_56 : ¬ _ := fun h9 => absurd (hw_55.2.mpr h9) (by omega)
                  clear hw_55
                  refine lv_iconst (v := (-1)) hx hb dX3_goOver_112 (by decide) ?_
                  refine lv_istore_n (lv' := [(3, .int (-1)), (2, .int r_7), (0, .ref h0), (1, .int i)]) hx hb dX3_goOver_113 rfl hl (by decide) rfl (fun ls hl => ?_)
                  refine lv_iload_n hx hb dX3_goOver_114 rfl (lv_at hl 0 rfl) ?_
                  refine lv_iconst (v := (-1)) hx hb dX3_goOver_115 (by decide) ?_
                  refine lv_icmp_eq (tgt := 133) hx hb dX3_goOver_116 (by decide) (fun c_57 => ?_) (fun c_57 => absurd (by decide) c_57)
                  refine lv_iconst (v := 0) hx hb dX3_goOver_133 (by decide) ?_
                  refine lv_goto (tgt := 139) hx hb dX3_goOver_134 (by decide) ?_
                  have hP9 := hP
                  have hD9 := hD
                  exact W.iret (v := 0) hx hb hr (fun t ht hW => ⟨⟨0, (depthx_53), rfl, (by (try dsimp only); refine ⟨?_, by assumption⟩; subst_vars; (first | exact (goS_a (by omega)).symm | exact (goS_b (by omega) (by omega)).symm | (rw [goS_c (by omega) (by omega)]; (first | exact (goA_b (by omega) (by omega)).symm | exact (goA_d (by omega) (by omega) (by omega)).symm | ((first | rw [goA_a (by omega)] | rw [goA_c (by omega) (by omega) (by omega)]); (first | exact (goB_c (by omega) (by omega)).symm | ((first | rw [goB_a (by omega)] | rw [goB_b (by omega) (by omega)]); (first | exact (goC_a (by omega)).symm | exact (goC_b (by omega) (by omega)).symm | exact (goC_c (by omega) (by omega)).symm)))))))), ⟨by rw [ht]; exact hP9, hD9⟩⟩, hS.F ht⟩) hS.2.2 dX3_goOver_139
                · rw [fa_eq, k_0] at c_56
                  have t_56 := hw_55.2.mp (by have := hw_55.1; omega)
                  clear hw_55
                  refine lv_aload_n hx hb dX3_goOver_104 rfl (lv_at hl 1 rfl) ?_
                  refine lv_iload_n hx hb dX3_goOver_105 rfl (lv_at hl 2 rfl) ?_
                  have hPc := hP.sub (ws' := (gX3 cI h0 a zs zh fs fn depthx_53 ff ft fg)) [0, 1, 2, 3, 4, 5, 6] rfl
                  have hDc := hD.sub (ws' := (gX3 cI h0 a zs zh fs fn depthx_53 ff ft fg)) [0, 1, 2, 3, 4, 5, 6] (by decide) rfl
                  have hKc := hK.sub (tys' := [(cI, .int)]) [0] rfl
                  have hFc := va_free (wc := (gX3 cI h0 a zs zh fs fn depthx_53 ff ft fg)) hD hS hA [0, 1, 2, 3, 4, 5, 6] rfl
                  refine va_calli (va_runV (As := [.int i]) (rest := []) ⟨hx, hb, hml, hown, hts⟩ (c_X3_handlerOf l dC dI cI H.size h0 a zs zh fs fn depthx_53 ff ft fg i (by omega)) (cwV 1 hts ug_X3_goOver_X3_handlerOf rfl rfl rfl (by decide +kernel) ⟨Nat.le_of_ble_eq_true rfl, Nat.le_of_ble_eq_true rfl⟩) ⟨fun a U g mk q => by obtain ⟨q0, q1, qP, qK, qD⟩ := q; exact ⟨q0, q1, qP, va_K.moved (u := U) (U := U.calling g mk a) (Vm.Alike.refl U.vm) qK, qD⟩, va_recv hKc hPc (ci := 3) (q0 := 0) rfl rfl, fun U hU hW => ⟨rfl, by rw [hU], by rw [hU]; exact hPc, va_K.moved hW.alike hKc, hDc.weaken (fun _ _ _ _ => trivial)⟩⟩ rfl rfl hl.1 rfl (lv_room (Nat.le_of_ble_eq_true rfl)) dX3_goOver_106 ⟨Nat.le_of_ble_eq_true rfl, Nat.le_of_ble_eq_true rfl⟩) hS (fun q _ h => hFc q h) hFc (fun r_58 u t H locs ht hvm hw hB hz1 hk1 hS => ?_)
                  obtain ⟨hP1, hD1⟩ := hB
                  rw [ht] at hP1
                  (try dsimp only at hw hP1 hD1)
                  have hw_58 := hw
                  obtain ⟨hP, hD⟩ := va_join (wr := ([] : va_W)) (w1 := (gX3 cI h0 a zs zh fs fn depthx_53 ff ft fg)) hP hD [0, 1, 2, 3, 4, 5, 6] [] rfl rfl (by decide) (by decide) hk1 hFc hP1 hD1
                  have hP := hP.sub (ws' := (gX3 cI h0 a zs zh fs fn depthx_53 ff ft fg)) [0, 1, 2, 3, 4, 5, 6] rfl
                  have hD := hD.sub (ws' := (gX3 cI h0 a zs zh fs fn depthx_53 ff ft fg)) [0, 1, 2, 3, 4, 5, 6] (by decide) rfl
                  clear hPc hDc hKc hFc hk1 hz1 hP1 hD1 hw hvm ht
                  have hv_58 := hw_58.1
                  have hx_58 : 0 ≤ r_58.toInt → (fg (Int32.toNatClampNeg r_58)).toInt < zs.toInt := fun h => (hH (Int32.toNatClampNeg r_58) (by have := clamp_int h; omega)).2.2
                  refine lv_goto (tgt := 113) hx hb dX3_goOver_109 (by decide) ?_
                  refine lv_istore_n (lv' := [(3, .int r_58), (2, .int r_7), (0, .ref h0), (1, .int i)]) hx hb dX3_goOver_113 rfl hl (by decide) rfl (fun ls hl => ?_)
                  refine lv_iload_n hx hb dX3_goOver_114 rfl (lv_at hl 0 rfl) ?_
                  refine lv_iconst (v := (-1)) hx hb dX3_goOver_115 (by decide) ?_
                  refine lv_icmp_eq (tgt := 133) hx hb dX3_goOver_116 (by decide) (fun c_59 => ?_) (fun c_59 => ?_)
                  · rw [fa_eq, k_m1] at c_59
                    refine lv_iconst (v := 0) hx hb dX3_goOver_133 (by decide) ?_
                    refine lv_goto (tgt := 139) hx hb dX3_goOver_134 (by decide) ?_
                    have hP9 := hP
                    have hD9 := hD
                    exact W.iret (v := 0) hx hb hr (fun t ht hW => ⟨⟨0, (depthx_53), rfl, (by (try dsimp only); refine ⟨?_, by assumption⟩; subst_vars; (first | exact (goS_a (by omega)).symm | exact (goS_b (by omega) (by omega)).symm | (rw [goS_c (by omega) (by omega)]; (first | exact (goA_b (by omega) (by omega)).symm | exact (goA_d (by omega) (by omega) (by omega)).symm | ((first | rw [goA_a (by omega)] | rw [goA_c (by omega) (by omega) (by omega)]); (first | exact (goB_c (by omega) (by omega)).symm | ((first | rw [goB_a (by omega)] | rw [goB_b (by omega) (by omega)]); (first | exact (goC_a (by omega)).symm | exact (goC_b (by omega) (by omega)).symm | exact (goC_c (by omega) (by omega)).symm)))))))), ⟨by rw [ht]; exact hP9, hD9⟩⟩, hS.F ht⟩) hS.2.2 dX3_goOver_139
                  · rw [fa_eq, k_m1] at c_59
                    refine lv_aload_n hx hb dX3_goOver_119 rfl (lv_at hl 2 rfl) ?_
                    refine lv_aload_n hx hb dX3_goOver_120 rfl (lv_at hl 2 rfl) ?_
                    refine va_get (D := (dC, dI)) (ci := 3) (v := .ref (a 7)) (C := RX3) (T := TX3) (N := 8) hx hb hts ui_X3_goOver_X3 hown hK hP 0 rfl rfl 7 (by decide) (hts (.fieldLink RX3 27 "CodeLifter$Listing" "goal" "[I") (by decide +kernel)) (fun _ h9 => h9) rfl dX3_goOver_121 ?_
                    refine lv_iload_n hx hb dX3_goOver_124 rfl (lv_at hl 0 rfl) ?_
                    have hi_60 : vp_in r_58 3 := vp_in_iff.mpr ⟨by omega, by omega⟩
                    refine va_iald hx hb hK hP 6 0 rfl rfl hi_60 dX3_goOver_125 ?_
                    refine lv_topi (fun v_61 e_61 => ?_)
                    have r_61 : 0 ≤ v_61.toInt ∧ v_61.toInt ≤ 40 := by rw [e_61]; exact (Rng.get hR_h0_goal) hi_60
                    have q_61 : v_61.toInt = (fg (Int32.toNatClampNeg r_58)).toInt := by rw [e_61]
                    refine lv_iconst (v := 1) hx hb dX3_goOver_126 (by decide) ?_
                    have hPc := hP.sub (ws' := (gX3 cI h0 a zs zh fs fn depthx_53 ff ft fg)) [0, 1, 2, 3, 4, 5, 6] rfl
                    have hDc := hD.sub (ws' := (gX3 cI h0 a zs zh fs fn depthx_53 ff ft fg)) [0, 1, 2, 3, 4, 5, 6] (by decide) rfl
                    have hKc := hK.sub (tys' := [(cI, .int)]) [0] rfl
                    have hFc := va_free (wc := (gX3 cI h0 a zs zh fs fn depthx_53 ff ft fg)) hD hS hA [0, 1, 2, 3, 4, 5, 6] rfl
                    refine va_calli (va_runV (As := [.int v_61, .int 1]) (rest := []) ⟨hx, hb, hml, hown, hts⟩ (c_X3_arrive l dC dI cI H.size h0 a zs zh fs fn depthx_53 ff ft fg v_61 1 (by omega) (by omega) (by omega)) (cwV 2 hts ug_X3_goOver_X3_arrive rfl rfl rfl (by decide +kernel) ⟨Nat.le_of_ble_eq_true rfl, Nat.le_of_ble_eq_true rfl⟩) ⟨fun a U g mk q => by obtain ⟨q0, q1, qP, qK, qD⟩ := q; exact ⟨q0, q1, qP, va_K.moved (u := U) (U := U.calling g mk a) (Vm.Alike.refl U.vm) qK, qD⟩, va_recv hKc hPc (ci := 3) (q0 := 0) rfl rfl, fun U hU hW => ⟨rfl, by rw [hU], by rw [hU]; exact hPc, va_K.moved hW.alike hKc, hDc.weaken (fun _ _ _ _ => trivial)⟩⟩ rfl rfl hl.1 rfl (lv_room (Nat.le_of_ble_eq_true rfl)) dX3_goOver_127 ⟨Nat.le_of_ble_eq_true rfl, Nat.le_of_ble_eq_true rfl⟩) hS (fun q _ h => hFc q h) hFc (fun r_62 u t H locs ht hvm hw hB hz1 hk1 hS => ?_)
                    obtain ⟨depthx_62, rfl⟩ : ∃ z, z = u := ⟨_, rfl⟩
                    obtain ⟨hP1, hD1⟩ := hB
                    rw [ht] at hP1
                    (try dsimp only at hw hP1 hD1)
                    have hw_62 := hw
                    obtain ⟨hP, hD⟩ := va_join (wr := ([] : va_W)) (w1 := (gX3 cI h0 a zs zh fs fn depthx_62 ff ft fg)) hP hD [0, 1, 2, 3, 4, 5, 6] [] rfl rfl (by decide) (by decide) hk1 hFc hP1 hD1
                    have hP := hP.sub (ws' := (gX3 cI h0 a zs zh fs fn depthx_62 ff ft fg)) [0, 1, 2, 3, 4, 5, 6] rfl
                    have hD := hD.sub (ws' := (gX3 cI h0 a zs zh fs fn depthx_62 ff ft fg)) [0, 1, 2, 3, 4, 5, 6] (by decide) rfl
                    clear hPc hDc hKc hFc hk1 hz1 hP1 hD1 hw hvm ht
                    have hd_62 := hw_62.2.1
                    have hR_h0_depth : Rng depthx_62 40 (-1) 6 := by rw [hd_62]; exact aD_rng (by assumption) (by omega)
                    refine lv_if_eq (tgt := 137) hx hb dX3_goOver_130 (by decide) (fun c_63 => ?_) (fun c_63 => ?_)
                    · rw [fa_eq, k_0] at c_63
                      have t_63 : ¬ _ := fun h9 => absurd (hw_62.2.2.mpr h9) (by omega)
                      clear hw_62
                      refine lv_bipush (v := (-6)) hx hb dX3_goOver_137 (by decide) ?_
                      have hP9 := hP
                      have hD9 := hD
                      exact W.iret (v := (-6)) hx hb hr (fun t ht hW => ⟨⟨(-6), (depthx_62), rfl, (by (try dsimp only); refine ⟨?_, by assumption⟩; subst_vars; (first | exact (goS_a (by omega)).symm | exact (goS_b (by omega) (by omega)).symm | (rw [goS_c (by omega) (by omega)]; (first | exact (goA_b (by omega) (by omega)).symm | exact (goA_d (by omega) (by omega) (by omega)).symm | ((first | rw [goA_a (by omega)] | rw [goA_c (by omega) (by omega) (by omega)]); (first | exact (goB_c (by omega) (by omega)).symm | ((first | rw [goB_a (by omega)] | rw [goB_b (by omega) (by omega)]); (first | exact (goC_a (by omega)).symm | exact (goC_b (by omega) (by omega)).symm | exact (goC_c (by omega) (by omega)).symm)))))))), ⟨by rw [ht]; exact hP9, hD9⟩⟩, hS.F ht⟩) hS.2.2 dX3_goOver_139
                    · rw [fa_eq, k_0] at c_63
                      have t_63 := hw_62.2.2.mp (by have := hw_62.1; omega)
                      clear hw_62
                      refine lv_iconst (v := 0) hx hb dX3_goOver_133 (by decide) ?_
                      refine lv_goto (tgt := 139) hx hb dX3_goOver_134 (by decide) ?_
                      have hP9 := hP
                      have hD9 := hD
                      exact W.iret (v := 0) hx hb hr (fun t ht hW => ⟨⟨0, (depthx_62), rfl, (by (try dsimp only); refine ⟨?_, by assumption⟩; subst_vars; (first | exact (goS_a (by omega)).symm | exact (goS_b (by omega) (by omega)).symm | (rw [goS_c (by omega) (by omega)]; (first | exact (goA_b (by omega) (by omega)).symm | exact (goA_d (by omega) (by omega) (by omega)).symm | ((first | rw [goA_a (by omega)] | rw [goA_c (by omega) (by omega) (by omega)]); (first | exact (goB_c (by omega) (by omega)).symm | ((first | rw [goB_a (by omega)] | rw [goB_b (by omega) (by omega)]); (first | exact (goC_a (by omega)).symm | exact (goC_b (by omega) (by omega)).symm | exact (goC_c (by omega) (by omega)).symm)))))))), ⟨by rw [ht]; exact hP9, hD9⟩⟩, hS.F ht⟩) hS.2.2 dX3_goOver_139
              · rw [fa_eq, k_0] at c_54
                have t_54 : ¬ _ := fun h9 => absurd (hw_53.2.2.mpr h9) (by omega)
                clear hw_53
                refine lv_bipush (v := (-6)) hx hb dX3_goOver_93 (by decide) ?_
                have hP9 := hP
                have hD9 := hD
                exact W.iret (v := (-6)) hx hb hr (fun t ht hW => ⟨⟨(-6), (depthx_53), rfl, (by (try dsimp only); refine ⟨?_, by assumption⟩; subst_vars; (first | exact (goS_a (by omega)).symm | exact (goS_b (by omega) (by omega)).symm | (rw [goS_c (by omega) (by omega)]; (first | exact (goA_b (by omega) (by omega)).symm | exact (goA_d (by omega) (by omega) (by omega)).symm | ((first | rw [goA_a (by omega)] | rw [goA_c (by omega) (by omega) (by omega)]); (first | exact (goB_c (by omega) (by omega)).symm | ((first | rw [goB_a (by omega)] | rw [goB_b (by omega) (by omega)]); (first | exact (goC_a (by omega)).symm | exact (goC_b (by omega) (by omega)).symm | exact (goC_c (by omega) (by omega)).symm)))))))), ⟨by rw [ht]; exact hP9, hD9⟩⟩, hS.F ht⟩) hS.2.2 dX3_goOver_95
          · rw [fa_eq, k_0] at c_39
            have t_39 : ¬ _ := fun h9 => absurd (hw_38.2.2.mpr h9) (by omega)
            clear hw_38
            refine lv_bipush (v := (-6)) hx hb dX3_goOver_68 (by decide) ?_
            have hP9 := hP
            have hD9 := hD
            exact W.iret (v := (-6)) hx hb hr (fun t ht hW => ⟨⟨(-6), (depthx_38), rfl, (by (try dsimp only); refine ⟨?_, by assumption⟩; subst_vars; (first | exact (goS_a (by omega)).symm | exact (goS_b (by omega) (by omega)).symm | (rw [goS_c (by omega) (by omega)]; (first | exact (goA_b (by omega) (by omega)).symm | exact (goA_d (by omega) (by omega) (by omega)).symm | ((first | rw [goA_a (by omega)] | rw [goA_c (by omega) (by omega) (by omega)]); (first | exact (goB_c (by omega) (by omega)).symm | ((first | rw [goB_a (by omega)] | rw [goB_b (by omega) (by omega)]); (first | exact (goC_a (by omega)).symm | exact (goC_b (by omega) (by omega)).symm | exact (goC_c (by omega) (by omega)).symm)))))))), ⟨by rw [ht]; exact hP9, hD9⟩⟩, hS.F ht⟩) hS.2.2 dX3_goOver_70
        · rw [fa_lt] at c_36
          refine lv_bipush (v := (-3)) hx hb dX3_goOver_54 (by decide) ?_
          have hP9 := hP
          have hD9 := hD
          exact W.iret (v := (-3)) hx hb hr (fun t ht hW => ⟨⟨(-3), (fd), rfl, (by (try dsimp only); refine ⟨?_, by assumption⟩; subst_vars; (first | exact (goS_a (by omega)).symm | exact (goS_b (by omega) (by omega)).symm | (rw [goS_c (by omega) (by omega)]; (first | exact (goA_b (by omega) (by omega)).symm | exact (goA_d (by omega) (by omega) (by omega)).symm | ((first | rw [goA_a (by omega)] | rw [goA_c (by omega) (by omega) (by omega)]); (first | exact (goB_c (by omega) (by omega)).symm | ((first | rw [goB_a (by omega)] | rw [goB_b (by omega) (by omega)]); (first | exact (goC_a (by omega)).symm | exact (goC_b (by omega) (by omega)).symm | exact (goC_c (by omega) (by omega)).symm)))))))), ⟨by rw [ht]; exact hP9, hD9⟩⟩, hS.F ht⟩) hS.2.2 dX3_goOver_56
    · rw [fa_le, k_6] at c_8
      refine lv_bipush (v := (-5)) hx hb dX3_goOver_33 (by decide) ?_
      have hP9 := hP
      have hD9 := hD
      exact W.iret (v := (-5)) hx hb hr (fun t ht hW => ⟨⟨(-5), (fd), rfl, (by (try dsimp only); refine ⟨?_, by assumption⟩; subst_vars; (first | exact (goS_a (by omega)).symm | exact (goS_b (by omega) (by omega)).symm | (rw [goS_c (by omega) (by omega)]; (first | exact (goA_b (by omega) (by omega)).symm | exact (goA_d (by omega) (by omega) (by omega)).symm | ((first | rw [goA_a (by omega)] | rw [goA_c (by omega) (by omega) (by omega)]); (first | exact (goB_c (by omega) (by omega)).symm | ((first | rw [goB_a (by omega)] | rw [goB_b (by omega) (by omega)]); (first | exact (goC_a (by omega)).symm | exact (goC_b (by omega) (by omega)).symm | exact (goC_c (by omega) (by omega)).symm)))))))), ⟨by rw [ht]; exact hP9, hD9⟩⟩, hS.F ht⟩) hS.2.2 dX3_goOver_35
  · rw [fa_le] at c_6
    refine lv_bipush (v := (-4)) hx hb dX3_goOver_18 (by decide) ?_
    have hP9 := hP
    have hD9 := hD
    exact W.iret (v := (-4)) hx hb hr (fun t ht hW => ⟨⟨(-4), (fd), rfl, (by (try dsimp only); refine ⟨?_, by assumption⟩; subst_vars; (first | exact (goS_a (by omega)).symm | exact (goS_b (by omega) (by omega)).symm | (rw [goS_c (by omega) (by omega)]; (first | exact (goA_b (by omega) (by omega)).symm | exact (goA_d (by omega) (by omega) (by omega)).symm | ((first | rw [goA_a (by omega)] | rw [goA_c (by omega) (by omega) (by omega)]); (first | exact (goB_c (by omega) (by omega)).symm | ((first | rw [goB_a (by omega)] | rw [goB_b (by omega) (by omega)]); (first | exact (goC_a (by omega)).symm | exact (goC_b (by omega) (by omega)).symm | exact (goC_c (by omega) (by omega)).symm)))))))), ⟨by rw [ht]; exact hP9, hD9⟩⟩, hS.F ht⟩) hS.2.2 dX3_goOver_20
