def R_law : String := "CodeLifterLaw"
def lw_P (b : Addr) (xs : List Int32) (args : Array Value) (s : State) : Prop := args = #[.ref b] ∧ s.IntsAt b xs ∧ xs.length ≤ 3584 ∧ (Jvm.Cond.and given_1 narrow_1).before args s = true
def lw_Q (_ : Array Value) (s : State) (o : Outcome) (t : State) : Prop := o = .returned (some (.int 1)) ∧ Framed s o t [] 601024 7293034
def lw_Z (below : List Frame) (a : Array Value) (s : State) : State → Prop := fun t => ∃ o, t.status = .running ∧ Ended t below o ∧ lw_Q a s o t
/-- the law's own end, with 1 on the stack, nothing written that was there before, its room as the claim has it -/
theorem lw_ret {p : Program} {l : Launch} {e : Env} {s : State} {m : MethodId} {below : List Frame} {meth : Method} {c : Code} {b : Nat} (hx : p.tables.exec = Jvm.exec) (hb : c.code = code) (hr : meth.sig.returnType = ret) (hlocks : meth.locks = false) {pc : Nat} {H : Heap} {ls : Array Slot} (hdg : decode code pc = .ok (.ireturn, 1)) : W p l e room_1 s m #[Value.ref b] below meth c H [] 601024 7293034 (lw_Z below #[Value.ref b] s) (F0 m pc ls [.int 1]) := by
  intro T hT X
  obtain ⟨fs, hret, hrun, hended, hW, hframe⟩ := X.leave (v := some (.int 1)) (hlocks := hlocks) (fun h => by rw [hr] at h; cases h)
  have hmeth' : T.vm.method? m = some meth := X.method'
  refine ⟨T.setFrames fs, ?_, .returned (some (.int 1)), hrun, hended, rfl, ⟨_, rfl⟩, hW, hframe⟩
  jvm_step X.here [X.here.top, hx, hb, hdg, hmeth', hr, ret, narrow_b1]
  (try refine ⟨rfl, ?_⟩); (try refine ⟨rfl, ?_⟩)
  first | (intro acts; rw [hret _ acts rfl rfl rfl]) | rw [hret _ _ rfl rfl rfl]
  exact Steps.refl _
/-- what holds at the law's entry: the machine, the code, the tables' words (any of lw_tbl by 'hts w (by decide +kernel)'), the script of L ints xs at the cell b, what the Statement gives of the start (any of its parts by flat_of_before) -/
def lw_At (p : Program) (s : State) (m : MethodId) (meth : Method) (c : Code) (b L : Nat) (xs : Nat → Int32) : Prop :=
  p.tables.exec = Jvm.exec ∧ c.code = code ∧ meth.sig.returnType = ret ∧ c.maxLocals = 7 ∧ s.vm.findClass R_law = some m.cls ∧ (∀ w ∈ lw_tbl, w.before #[Value.ref b] s = true) ∧ va_X b L xs s s.heap ∧ b < s.heap.size ∧ meth.locks = false ∧ (Jvm.Cond.and given_1 narrow_1).before #[Value.ref b] s = true


/-- the law's world: the reference's cells, the class's, the out array -/
abbrev LWd (y : Nat → ClassId) (om ox : Nat → Nat) (a3 : Nat) (τ σ : Sto) (f : Nat → Int64) : va_W := WM y om τ ++ (WX y ox σ ++ [(a3, .inl (y 3, 1, .inr (.inl f)))])
abbrev ALs (s : State) : Nat → Prop := fun q => s.heap.size ≤ q
/-- what stands at the law's start and is kept -/
def LEn (D : va_G) (y : Nat → ClassId) (ad av : Nat → Nat) (sa1 sa2 : Nat) (s : State) : Prop := va_K D vwCl (TYL y) s ∧ NW s ∧ SS ad av (ALs s) s s.heap ∧ xE sa1 198 "no such instruction" (ALs s) s s.heap ∧ xE sa2 220 "no such block" (ALs s) s s.heap
theorem vp_k {i : Int32} {L : Nat} (h0 : 0 ≤ i.toInt) (h1 : i.toInt + 7 ≤ (L : Int)) (hL : L ≤ 3584) (k : Int32) (hk : 0 ≤ k.toInt ∧ k.toInt ≤ 6) : vp_in (i + k) L := by
  have e : (i + k).toInt = i.toInt + k.toInt := by
    rw [Int32.toInt_add]
    exact Int.bmod_eq_of_le (by simp; omega) (by simp; omega)
  have z : (0 : Int32).toInt = 0 := by decide +kernel
  unfold vp_in
  intro h
  rcases h with h | h
  · rw [Int32.lt_iff_toInt_lt, e, z] at h
    omega
  · unfold Int32.toNatClampNeg at h
    rw [e] at h
    omega
theorem vp_0 {i : Int32} {L : Nat} (h0 : 0 ≤ i.toInt) (h1 : i.toInt + 7 ≤ (L : Int)) : vp_in i L := by
  have z : (0 : Int32).toInt = 0 := by decide +kernel
  unfold vp_in
  intro h
  rcases h with h | h
  · rw [Int32.lt_iff_toInt_lt, z] at h
    omega
  · unfold Int32.toNatClampNeg at h
    omega
theorem len7 {L : Nat} (hL : L ≤ 3584) : (Int32.ofNat L - 7).toInt = (L : Int) - 7 := by
  have e : (Int32.ofNat L).toInt = (L : Int) := nI_toInt (by omega)
  rw [Int32.toInt_sub, e]
  exact Int.bmod_eq_of_le (by simp; omega) (by simp; omega)
theorem add7 {i : Int32} (h0 : 0 ≤ i.toInt) (h1 : i.toInt ≤ 3584) : (i + Int32.ofInt 7).toInt = i.toInt + 7 := by
  have z : (Int32.ofInt 7).toInt = 7 := by decide +kernel
  rw [Int32.toInt_add, z]
  exact Int.bmod_eq_of_le (by simp; omega) (by simp; omega)
