/-- a loop: what holds at its head, by a number that falls -/
theorem loop_rule {p : Program} {l : Launch} {e : Env} {R : Room} {s : State} {m : MethodId} {args : Array Value} {below : List Frame} {meth : Method} {c : Code} {cells slots : Nat} {Q : State → Prop} {pc : Nat} {st : List Value} {I : Nat → Heap → List Loc → Array Slot → Prop} (step : ∀ (n : Nat) (H : Heap) (locs : List Loc) (ls : Array Slot), I n H locs ls → (∀ (n' : Nat), n' < n → ∀ (H' : Heap) (locs' : List Loc) (ls' : Array Slot), I n' H' locs' ls' → W p l e R s m args below meth c H' locs' cells slots Q (F0 m pc ls' st)) → W p l e R s m args below meth c H locs cells slots Q (F0 m pc ls st)) : ∀ (n : Nat) (H : Heap) (locs : List Loc) (ls : Array Slot), I n H locs ls → W p l e R s m args below meth c H locs cells slots Q (F0 m pc ls st) := by
  intro n
  induction n using Nat.strongRecOn with
  | _ n ih => exact fun H locs ls h => step n H locs ls h (fun n' hn' H' locs' ls' h' => ih n' hn' H' locs' ls' h')
/-- all elements of a row of ints lie between two numbers -/
def Rng (f : Nat → Int32) (n : Nat) (lo hi : Int) : Prop := ∀ j, j < n → lo ≤ (f j).toInt ∧ (f j).toInt ≤ hi
theorem Rng.get {f : Nat → Int32} {n : Nat} {lo hi : Int} (h : Rng f n lo hi) {i : Int32} (hi2 : vp_in i n) : lo ≤ (f i.toNatClampNeg).toInt ∧ (f i.toNatClampNeg).toInt ≤ hi := h _ (Nat.lt_of_not_le (fun q => hi2 (Or.inr q)))
theorem Rng.set {f : Nat → Int32} {n : Nat} {lo hi : Int} (h : Rng f n lo hi) {k : Nat} {x : Int32} (hx : lo ≤ x.toInt ∧ x.toInt ≤ hi) : Rng (upd f k x) n lo hi := by
  intro j hj
  by_cases e : j = k
  · rw [e, pk_us]; exact hx
  · rw [pk_un e]; exact h j hj
theorem lk_none {d x : Int} : ∀ {ps : List (Int × Int)}, (∀ a, a ∈ ps → x ≠ a.1) → Op.lookupswitch.offset ps d x = d := by
  intro ps
  induction ps with
  | nil => intro _; rfl
  | cons a r ih =>
    intro h
    have h1 := h a List.mem_cons_self
    obtain ⟨a1, a2⟩ := a
    rw [Op.lookupswitch.offset_cons, if_neg (fun e => h1 (by first | exact e | exact e.symm))]
    exact ih (fun b hb => h b (List.mem_cons_of_mem _ hb))
/-- bit j of a long -/
def tb (x : Int64) (j : Nat) : Bool := x.toBitVec.getLsbD j
theorem tb_sh {x : Int64} {i : Int32} (h0 : 0 ≤ i.toInt) (h1 : i.toInt < 64) : ((x.toUInt64 >>> (i.toInt64.toUInt64 &&& Int64.toUInt64 63)).toInt64 &&& 1) = 0 ↔ tb x i.toInt.toNat = false := by
  obtain ⟨j, hj⟩ : ∃ j : Nat, j = i.toInt.toNat := ⟨_, rfl⟩
  have e : i = nI j := by
    rw [fa_eq, nI_toInt (by omega)]; omega
  rw [← hj, e]
  exact ts_bit (by omega) (by rw [wb_cu j (by omega)]; exact u_tn (by omega))
theorem lg_cmp_ne0 {x y : Int64} {v : Int32} (e : v = lg_cmp x y) : v.toInt = 0 ↔ x = y := by
  have k0 : (0 : Int32).toInt = 0 := by decide
  rw [← lg_cmp_eq, ← e, fa_eq, k0]
/-- a tableswitch: inside its bounds or outside -/
theorem lv_tab {p : Program} {l : Launch} {e : Env} {R : Room} {s : State} {m : MethodId} {args : Array Value} {below : List Frame} {meth : Method} {c : Code} {H : Heap} {locs : List Loc} {cells slots : Nat} {Q : State → Prop} {pc : Nat} {ls : Array Slot} {rest : List Value} {cc : ByteArray} (hexec : p.tables.exec = Jvm.exec) (hb : c.code = cc) {dflt lo hi : Int} {offs : Array Int} {len : Nat} {x : Int32} {tgt : Nat} (hdg : decode cc pc = .ok (.tableswitch dflt lo hi offs, len))
    (h : ((x.toInt < lo ∨ hi < x.toInt) ∧ (pc : Int) + dflt = (tgt : Int)) ∨ ∃ off : Int, ¬ x.toInt < lo ∧ ¬ hi < x.toInt ∧ offs[(x.toInt - lo).toNat]? = some off ∧ (pc : Int) + off = (tgt : Int))
    (k : W p l e R s m args below meth c H locs cells slots Q (F0 m tgt ls rest)) : W p l e R s m args below meth c H locs cells slots Q (F0 m pc ls (.int x :: rest)) := by
  rcases h with ⟨h, ht⟩ | ⟨off, h1, h2, ho, ht⟩
  · exact lv_tableOut hexec hb hdg h ht k
  · exact lv_tableIn hexec hb hdg h1 h2 ho ht k

abbrev gX3 (cI : ClassId) (o : Nat) (a : Nat → Nat) (s_size : Int32) (s_handlers : Int32) (f_sign : Nat → Int32) (f_number : Nat → Int32) (f_depth : Nat → Int32) (f_from : Nat → Int32) (f_to : Nat → Int32) (f_goal : Nat → Int32) : va_W := [(o, .inr (3, [.int s_size, .int s_handlers, .ref (a 2), .ref (a 3), .ref (a 4), .ref (a 5), .ref (a 6), .ref (a 7)])), (a 2, .inl (cI, 40, .inl f_sign)), (a 3, .inl (cI, 40, .inl f_number)), (a 4, .inl (cI, 40, .inl f_depth)), (a 5, .inl (cI, 3, .inl f_from)), (a 6, .inl (cI, 3, .inl f_to)), (a 7, .inl (cI, 3, .inl f_goal))]
def us_X11_isIn : List Cond := .code yX11_isIn cX11_isIn 3 (some .boolean) :: []
set_option maxHeartbeats 8000000 in
set_option maxRecDepth 100000 in
/-- isIn -/
theorem c_X11_isIn (l : Launch) (dC : Nat → ClassId) (dI : Nat → Nat → Nat) (sz : Nat) (x : Int64) (i : Int32) : Met l yX11_isIn us_X11_isIn ({ frames := 0, cells := 0, slots := 0, locals := 0 }) (va_Pc [.long x, .int i] (fun U => U.heap.size = sz ∧ va_P (dC, dI) vwCl (([] : va_W)) U.heap ∧ va_K (dC, dI) vwCl [] U ∧ va_D (fun _ => True) (([] : va_W)))) (va_Qi (fun (r : Int32) (u : Unit) => (r.toInt = 0 ∨ r.toInt = 1) ∧ (0 ≤ i.toInt → i.toInt < 64 → (r.toInt = 1 ↔ tb x i.toInt.toNat = true))) (fun (u : Unit) (t : State) => va_P (dC, dI) vwCl (([] : va_W)) t.heap ∧ va_D (va_A (([] : va_W)) sz) (([] : va_W))) (va_A (([] : va_W)) sz)) 0 0 (va_A (([] : va_W)) sz) := by
  refine Met.ofW (cc := cX11_isIn) (maxL := 3) (ret := (some .boolean)) (by decide) rfl ?_
  intro p e s m args below meth c s₁ B hml hv
  obtain ⟨rfl, hsz, hP, hK, hD0⟩ := hv
  have hx := B.exec
  have hb := B.bytes
  have hr := B.returns
  have hts := atoms_spec (ws := us_X11_isIn) B.pre
  have hown : s.vm.findClass RX11 = some m.cls := findClass_of_methodNamed B.named
  have hlocks := B.notSynchronized
  subst hsz
  have hD := hD0.self (sz := s.heap.size)
  generalize hAe : va_A (([] : va_W)) s.heap.size = A at hD ⊢
  have hA : ∀ q : Nat, s.heap.size ≤ q → A q := fun q h => by rw [← hAe]; exact Or.inr h
  clear hAe hD0
  have hS : va_S A s.heap s.heap [] := va_S.rf
  have hP : va_P (dC, dI) vwCl (([] : va_W)) s.heap := hP
  have hl := lv_entry ([.long x, .int i]) (n := 3) (Nat.le_of_ble_eq_true rfl)
  rw [lg_entry_eq]
  generalize (lg_sl ([.long x, .int i]) ++ List.replicate (3 - (lg_sl ([.long x, .int i])).length) Slot.unset).toArray = ls at hl ⊢
  have hl : lv_has ls 3 [(0, .long x), (2, .int i)] := hl
  have k_0 : (0 : Int32).toInt = 0 := by decide
  have k_1 : (1 : Int32).toInt = 1 := by decide
  refine lv_lload_n hx hb dX11_isIn_0 rfl (lv_at hl 0 rfl) ?_
  refine lv_iload_n hx hb dX11_isIn_1 rfl (lv_at hl 1 rfl) ?_
  refine lv_lushr hx hb dX11_isIn_2 rfl ?_
  refine lv_topl (fun v_1 e_1 => ?_)
  refine lv_lconst (v := 1) hx hb dX11_isIn_3 rfl ?_
  refine lv_land hx hb dX11_isIn_4 ?_
  refine lv_topl (fun v_2 e_2 => ?_)
  refine lv_lconst (v := 0) hx hb dX11_isIn_5 rfl ?_
  refine W.lcmp hx hb dX11_isIn_6 ?_
  refine lv_topi (fun v_3 e_3 => ?_)
  refine lv_if_eq (tgt := 14) hx hb dX11_isIn_7 (by decide) (fun c_4 => ?_) (fun c_4 => ?_)
  · rw [fa_eq, k_0] at c_4
    refine lv_iconst (v := 0) hx hb dX11_isIn_14 (by decide) ?_
    rw [lg_cmp_ne0 e_3, e_2, e_1] at c_4
    have hP9 := hP
    have hD9 := hD
    exact W.zret (v := 0) hx hb hr rfl (fun t ht hW => ⟨⟨0, (), rfl, ⟨by omega, fun h0 h1 => by rw [tb_sh h0 h1] at c_4; first | (exact ⟨fun _ => by rw [Bool.not_eq_false] at c_4; exact c_4, fun _ => k_1⟩) | (exact ⟨fun h => by omega, fun h => by rw [h] at c_4; exact absurd c_4 (by decide)⟩)⟩, ⟨by rw [ht]; exact hP9, hD9⟩⟩, hS.F ht⟩) hS.2.2 dX11_isIn_15
  · rw [fa_eq, k_0] at c_4
    refine lv_iconst (v := 1) hx hb dX11_isIn_10 (by decide) ?_
    refine lv_goto (tgt := 15) hx hb dX11_isIn_11 (by decide) ?_
    rw [lg_cmp_ne0 e_3, e_2, e_1] at c_4
    have hP9 := hP
    have hD9 := hD
    exact W.zret (v := 1) hx hb hr rfl (fun t ht hW => ⟨⟨1, (), rfl, ⟨by omega, fun h0 h1 => by rw [tb_sh h0 h1] at c_4; first | (exact ⟨fun _ => by rw [Bool.not_eq_false] at c_4; exact c_4, fun _ => k_1⟩) | (exact ⟨fun h => by omega, fun h => by rw [h] at c_4; exact absurd c_4 (by decide)⟩)⟩, ⟨by rw [ht]; exact hP9, hD9⟩⟩, hS.F ht⟩) hS.2.2 dX11_isIn_15

def us_X11_oneIf : List Cond := .code yX11_oneIf cX11_oneIf 1 (some .int) :: []
set_option maxHeartbeats 8000000 in
set_option maxRecDepth 100000 in
/-- oneIf -/
theorem c_X11_oneIf (l : Launch) (dC : Nat → ClassId) (dI : Nat → Nat → Nat) (sz : Nat) (i : Int32) : Met l yX11_oneIf us_X11_oneIf ({ frames := 0, cells := 0, slots := 0, locals := 0 }) (va_Pc [.int i] (fun U => U.heap.size = sz ∧ va_P (dC, dI) vwCl (([] : va_W)) U.heap ∧ va_K (dC, dI) vwCl [] U ∧ va_D (fun _ => True) (([] : va_W)))) (va_Qi (fun (r : Int32) (u : Unit) => r.toInt = 0 ∨ r.toInt = 1) (fun (u : Unit) (t : State) => va_P (dC, dI) vwCl (([] : va_W)) t.heap ∧ va_D (va_A (([] : va_W)) sz) (([] : va_W))) (va_A (([] : va_W)) sz)) 0 0 (va_A (([] : va_W)) sz) := by
  refine Met.ofW (cc := cX11_oneIf) (maxL := 1) (ret := (some .int)) (by decide) rfl ?_
  intro p e s m args below meth c s₁ B hml hv
  obtain ⟨rfl, hsz, hP, hK, hD0⟩ := hv
  have hx := B.exec
  have hb := B.bytes
  have hr := B.returns
  have hts := atoms_spec (ws := us_X11_oneIf) B.pre
  have hown : s.vm.findClass RX11 = some m.cls := findClass_of_methodNamed B.named
  have hlocks := B.notSynchronized
  subst hsz
  have hD := hD0.self (sz := s.heap.size)
  generalize hAe : va_A (([] : va_W)) s.heap.size = A at hD ⊢
  have hA : ∀ q : Nat, s.heap.size ≤ q → A q := fun q h => by rw [← hAe]; exact Or.inr h
  clear hAe hD0
  have hS : va_S A s.heap s.heap [] := va_S.rf
  have hP : va_P (dC, dI) vwCl (([] : va_W)) s.heap := hP
  have hl := lv_entry ([.int i]) (n := 1) (Nat.le_of_ble_eq_true rfl)
  rw [lg_entry_eq]
  generalize (lg_sl ([.int i]) ++ List.replicate (1 - (lg_sl ([.int i])).length) Slot.unset).toArray = ls at hl ⊢
  have hl : lv_has ls 1 [(0, .int i)] := hl
  have k_0 : (0 : Int32).toInt = 0 := by decide
  have k_1 : (1 : Int32).toInt = 1 := by decide
  refine lv_iload_n hx hb dX11_oneIf_0 rfl (lv_at hl 0 rfl) ?_
  refine lv_if_eq (tgt := 8) hx hb dX11_oneIf_1 (by decide) (fun c_1 => ?_) (fun c_1 => ?_)
  · rw [fa_eq, k_0] at c_1
    refine lv_iconst (v := 0) hx hb dX11_oneIf_8 (by decide) ?_
    have hP9 := hP
    have hD9 := hD
    exact W.iret (v := 0) hx hb hr (fun t ht hW => ⟨⟨0, (), rfl, (by omega), ⟨by rw [ht]; exact hP9, hD9⟩⟩, hS.F ht⟩) hS.2.2 dX11_oneIf_9
  · rw [fa_eq, k_0] at c_1
    refine lv_iconst (v := 1) hx hb dX11_oneIf_4 (by decide) ?_
    refine lv_goto (tgt := 9) hx hb dX11_oneIf_5 (by decide) ?_
    have hP9 := hP
    have hD9 := hD
    exact W.iret (v := 1) hx hb hr (fun t ht hW => ⟨⟨1, (), rfl, (by omega), ⟨by rw [ht]; exact hP9, hD9⟩⟩, hS.F ht⟩) hS.2.2 dX11_oneIf_9

def us_X11_isBinary : List Cond := .code yX11_isBinary cX11_isBinary 1 (some .boolean) :: []
set_option maxHeartbeats 8000000 in
set_option maxRecDepth 100000 in
/-- isBinary -/
theorem c_X11_isBinary (l : Launch) (dC : Nat → ClassId) (dI : Nat → Nat → Nat) (sz : Nat) (i : Int32) : Met l yX11_isBinary us_X11_isBinary ({ frames := 0, cells := 0, slots := 0, locals := 0 }) (va_Pc [.int i] (fun U => U.heap.size = sz ∧ va_P (dC, dI) vwCl (([] : va_W)) U.heap ∧ va_K (dC, dI) vwCl [] U ∧ va_D (fun _ => True) (([] : va_W)))) (va_Qi (fun (r : Int32) (u : Unit) => (r.toInt = 0 ∨ r.toInt = 1) ∧ (r.toInt = 1 ↔ (i.toInt = 43 ∨ i.toInt = 45 ∨ i.toInt = 42 ∨ i.toInt = 47 ∨ i.toInt = 37 ∨ i.toInt = 60 ∨ i.toInt = 61))) (fun (u : Unit) (t : State) => va_P (dC, dI) vwCl (([] : va_W)) t.heap ∧ va_D (va_A (([] : va_W)) sz) (([] : va_W))) (va_A (([] : va_W)) sz)) 0 0 (va_A (([] : va_W)) sz) := by
  refine Met.ofW (cc := cX11_isBinary) (maxL := 1) (ret := (some .boolean)) (by decide) rfl ?_
  intro p e s m args below meth c s₁ B hml hv
  obtain ⟨rfl, hsz, hP, hK, hD0⟩ := hv
  have hx := B.exec
  have hb := B.bytes
  have hr := B.returns
  have hts := atoms_spec (ws := us_X11_isBinary) B.pre
  have hown : s.vm.findClass RX11 = some m.cls := findClass_of_methodNamed B.named
  have hlocks := B.notSynchronized
  subst hsz
  have hD := hD0.self (sz := s.heap.size)
  generalize hAe : va_A (([] : va_W)) s.heap.size = A at hD ⊢
  have hA : ∀ q : Nat, s.heap.size ≤ q → A q := fun q h => by rw [← hAe]; exact Or.inr h
  clear hAe hD0
  have hS : va_S A s.heap s.heap [] := va_S.rf
  have hP : va_P (dC, dI) vwCl (([] : va_W)) s.heap := hP
  have hl := lv_entry ([.int i]) (n := 1) (Nat.le_of_ble_eq_true rfl)
  rw [lg_entry_eq]
  generalize (lg_sl ([.int i]) ++ List.replicate (1 - (lg_sl ([.int i])).length) Slot.unset).toArray = ls at hl ⊢
  have hl : lv_has ls 1 [(0, .int i)] := hl
  have k_0 : (0 : Int32).toInt = 0 := by decide
  have k_1 : (1 : Int32).toInt = 1 := by decide
  refine lv_iload_n hx hb dX11_isBinary_0 rfl (lv_at hl 0 rfl) ?_
  by_cases h_1_0 : i.toInt = 37 ∨ i.toInt = 42 ∨ i.toInt = 43 ∨ i.toInt = 45 ∨ i.toInt = 47 ∨ i.toInt = 60 ∨ i.toInt = 61
  · refine lv_tab (tgt := 116) hx hb dX11_isBinary_1 (Or.inr ⟨115, by omega, by omega, by rcases h_1_0 with h_1_0 | h_1_0 | h_1_0 | h_1_0 | h_1_0 | h_1_0 | h_1_0 <;> (rw [h_1_0]; decide), by decide⟩) ?_
    refine lv_iconst (v := 1) hx hb dX11_isBinary_116 (by decide) ?_
    have hP9 := hP
    have hD9 := hD
    exact W.zret (v := 1) hx hb hr rfl (fun t ht hW => ⟨⟨1, (), rfl, (by omega), ⟨by rw [ht]; exact hP9, hD9⟩⟩, hS.F ht⟩) hS.2.2 dX11_isBinary_117
  refine lv_tab (tgt := 118) hx hb dX11_isBinary_1 (by rcases (show (i.toInt < 37 ∨ 61 < i.toInt ∨ i.toInt = 38 ∨ i.toInt = 39 ∨ i.toInt = 40 ∨ i.toInt = 41 ∨ i.toInt = 44 ∨ i.toInt = 46 ∨ i.toInt = 48 ∨ i.toInt = 49 ∨ i.toInt = 50 ∨ i.toInt = 51 ∨ i.toInt = 52 ∨ i.toInt = 53 ∨ i.toInt = 54 ∨ i.toInt = 55 ∨ i.toInt = 56 ∨ i.toInt = 57 ∨ i.toInt = 58 ∨ i.toInt = 59) by omega) with h | h | h | h | h | h | h | h | h | h | h | h | h | h | h | h | h | h | h | h; exact Or.inl ⟨Or.inl h, by decide⟩; exact Or.inl ⟨Or.inr h, by decide⟩; all_goals exact Or.inr ⟨117, by omega, by omega, by rw [h]; decide, by decide⟩) ?_
  refine lv_iconst (v := 0) hx hb dX11_isBinary_118 (by decide) ?_
  have hP9 := hP
  have hD9 := hD
  exact W.zret (v := 0) hx hb hr rfl (fun t ht hW => ⟨⟨0, (), rfl, (by omega), ⟨by rw [ht]; exact hP9, hD9⟩⟩, hS.F ht⟩) hS.2.2 dX11_isBinary_119

def us_X11_isUnary : List Cond := .code yX11_isUnary cX11_isUnary 1 (some .boolean) :: []
set_option maxHeartbeats 8000000 in
set_option maxRecDepth 100000 in
/-- isUnary -/
theorem c_X11_isUnary (l : Launch) (dC : Nat → ClassId) (dI : Nat → Nat → Nat) (sz : Nat) (i : Int32) : Met l yX11_isUnary us_X11_isUnary ({ frames := 0, cells := 0, slots := 0, locals := 0 }) (va_Pc [.int i] (fun U => U.heap.size = sz ∧ va_P (dC, dI) vwCl (([] : va_W)) U.heap ∧ va_K (dC, dI) vwCl [] U ∧ va_D (fun _ => True) (([] : va_W)))) (va_Qi (fun (r : Int32) (u : Unit) => (r.toInt = 0 ∨ r.toInt = 1) ∧ (r.toInt = 1 ↔ i.toInt = 33 ∨ i.toInt = 110)) (fun (u : Unit) (t : State) => va_P (dC, dI) vwCl (([] : va_W)) t.heap ∧ va_D (va_A (([] : va_W)) sz) (([] : va_W))) (va_A (([] : va_W)) sz)) 0 0 (va_A (([] : va_W)) sz) := by
  refine Met.ofW (cc := cX11_isUnary) (maxL := 1) (ret := (some .boolean)) (by decide) rfl ?_
  intro p e s m args below meth c s₁ B hml hv
  obtain ⟨rfl, hsz, hP, hK, hD0⟩ := hv
  have hx := B.exec
  have hb := B.bytes
  have hr := B.returns
  have hts := atoms_spec (ws := us_X11_isUnary) B.pre
  have hown : s.vm.findClass RX11 = some m.cls := findClass_of_methodNamed B.named
  have hlocks := B.notSynchronized
  subst hsz
  have hD := hD0.self (sz := s.heap.size)
  generalize hAe : va_A (([] : va_W)) s.heap.size = A at hD ⊢
  have hA : ∀ q : Nat, s.heap.size ≤ q → A q := fun q h => by rw [← hAe]; exact Or.inr h
  clear hAe hD0
  have hS : va_S A s.heap s.heap [] := va_S.rf
  have hP : va_P (dC, dI) vwCl (([] : va_W)) s.heap := hP
  have hl := lv_entry ([.int i]) (n := 1) (Nat.le_of_ble_eq_true rfl)
  rw [lg_entry_eq]
  generalize (lg_sl ([.int i]) ++ List.replicate (1 - (lg_sl ([.int i])).length) Slot.unset).toArray = ls at hl ⊢
  have hl : lv_has ls 1 [(0, .int i)] := hl
  have k_0 : (0 : Int32).toInt = 0 := by decide
  have k_1 : (1 : Int32).toInt = 1 := by decide
  have k_33 : (33 : Int32).toInt = 33 := by decide
  have k_110 : (110 : Int32).toInt = 110 := by decide
  refine lv_iload_n hx hb dX11_isUnary_0 rfl (lv_at hl 0 rfl) ?_
  refine lv_bipush (v := 33) hx hb dX11_isUnary_1 (by decide) ?_
  refine lv_icmp_eq (tgt := 12) hx hb dX11_isUnary_3 (by decide) (fun c_1 => ?_) (fun c_1 => ?_)
  · rw [fa_eq, k_33] at c_1
    refine lv_iconst (v := 1) hx hb dX11_isUnary_12 (by decide) ?_
    refine lv_goto (tgt := 17) hx hb dX11_isUnary_13 (by decide) ?_
    have hP9 := hP
    have hD9 := hD
    exact W.zret (v := 1) hx hb hr rfl (fun t ht hW => ⟨⟨1, (), rfl, (by omega), ⟨by rw [ht]; exact hP9, hD9⟩⟩, hS.F ht⟩) hS.2.2 dX11_isUnary_17
  · rw [fa_eq, k_33] at c_1
    refine lv_iload_n hx hb dX11_isUnary_6 rfl (lv_at hl 0 rfl) ?_
    refine lv_bipush (v := 110) hx hb dX11_isUnary_7 (by decide) ?_
    refine lv_icmp_ne (tgt := 16) hx hb dX11_isUnary_9 (by decide) (fun c_2 => ?_) (fun c_2 => ?_)
    · rw [fa_eq, k_110] at c_2
      refine lv_iconst (v := 0) hx hb dX11_isUnary_16 (by decide) ?_
      have hP9 := hP
      have hD9 := hD
      exact W.zret (v := 0) hx hb hr rfl (fun t ht hW => ⟨⟨0, (), rfl, (by omega), ⟨by rw [ht]; exact hP9, hD9⟩⟩, hS.F ht⟩) hS.2.2 dX11_isUnary_17
    · rw [fa_eq, k_110] at c_2
      refine lv_iconst (v := 1) hx hb dX11_isUnary_12 (by decide) ?_
      refine lv_goto (tgt := 17) hx hb dX11_isUnary_13 (by decide) ?_
      have hP9 := hP
      have hD9 := hD
      exact W.zret (v := 1) hx hb hr rfl (fun t ht hW => ⟨⟨1, (), rfl, (by omega), ⟨by rw [ht]; exact hP9, hD9⟩⟩, hS.F ht⟩) hS.2.2 dX11_isUnary_17
