/-- what a throw of NoSuchElementException needs: its text's place, two statics of Throwable, that it is itself, that three constructors are there -/
def xE (sa k : Nat) (tx : String) (A : Nat → Prop) (U : State) (H : Heap) : Prop := vk_R RX11 k tx sa U ∧ vx_Zq Bundle.tN "UNASSIGNED_STACK" Bundle.steD A U H ∧ vx_Zq Bundle.tN "SUPPRESSED_SENTINEL" Bundle.listD A U H ∧ va_Nw (.castable "java/util/NoSuchElementException" "java/util/NoSuchElementException") U ∧ va_Nw (.declares ⟨"java/lang/RuntimeException", "<init>", "(Ljava/lang/String;)V"⟩) U ∧ va_Nw (.declares ⟨"java/lang/Exception", "<init>", "(Ljava/lang/String;)V"⟩) U ∧ va_Nw (.declares ⟨"java/lang/Throwable", "<init>", "(Ljava/lang/String;)V"⟩) U
theorem xE.same {sa k : Nat} {tx : String} {A : Nat → Prop} {u U : State} {H : Heap} (hv : u.vm = U.vm) (h : xE sa k tx A u H) : xE sa k tx A U H := by
  obtain ⟨h1, h2, h3, h4, h5, h6, h7⟩ := h
  have ha : u.vm.Alike U.vm := by rw [← hv]; exact Vm.Alike.refl u.vm
  exact ⟨vk_R.same hv.symm h1, vx_Zq.moved ha h2, vx_Zq.moved ha h3, va_Nw.same rfl hv h4, va_Nw.same rfl hv h5, va_Nw.same rfl hv h6, va_Nw.same rfl hv h7⟩
theorem xE.warm {sa k : Nat} {tx : String} {A : Nat → Prop} {s U : State} {H : Heap} (hW : s.WarmedH U.vm) (h : xE sa k tx A s H) : xE sa k tx A U H := by
  obtain ⟨h1, h2, h3, h4, h5, h6, h7⟩ := h
  exact ⟨vk_R.warm hW h1, vx_Zq.moved hW.alike h2, vx_Zq.moved hW.alike h3, va_Nw.warmC hW h4, va_Nw.warmD hW h5, va_Nw.warmD hW h6, va_Nw.warmD hW h7⟩
theorem xE.kept {sa k : Nat} {tx : String} {A : Nat → Prop} {U : State} {H H1 : Heap} (h : xE sa k tx A U H) (hq : ∀ a : Nat, a < H.size → ¬ A a → H1[a]? = H[a]?) : xE sa k tx A U H1 := by
  obtain ⟨h1, h2, h3, h4⟩ := h
  exact ⟨h1, vx_Zq.kept h2 hq, vx_Zq.kept h3 hq, h4⟩
theorem xE.narrow {sa k : Nat} {tx : String} {A B : Nat → Prop} {U : State} {H : Heap} (h : xE sa k tx A U H) (hAB : ∀ q, B q → A q) : xE sa k tx B U H := by
  obtain ⟨h1, h2, h3, h4⟩ := h
  exact ⟨h1, vx_Zq.narrow h2 hAB, vx_Zq.narrow h3 hAB, h4⟩
/-- parts of a world -/
theorem pz_in {D : va_G} {cl : List vw_C} {w : va_W} {H : Heap} : va_P D cl w H ↔ ∀ q ∈ w, va_at D cl q H := by
  constructor
  · intro h q hq
    obtain ⟨k, hk⟩ := List.getElem?_of_mem hq
    exact h k q hk
  · intro h k q hk
    exact h q (List.mem_of_getElem? hk)
theorem dz_in {A : Nat → Prop} {w : va_W} : va_D A w ↔ (w.map (fun q => q.1)).Nodup ∧ ∀ q ∈ w, A q.1 := by
  constructor
  · intro h
    refine ⟨?_, fun q hq => ?_⟩
    · refine List.pairwise_iff_getElem.mpr fun i j hi hj hij e => ?_
      rw [List.getElem_map, List.getElem_map] at e
      rw [List.length_map] at hi hj
      have := h.1 i j _ _ (List.getElem?_eq_getElem hi) (List.getElem?_eq_getElem hj) e
      omega
    · obtain ⟨k, hk⟩ := List.getElem?_of_mem hq
      exact h.2 k q hk
  · intro h
    refine ⟨fun i j p q hi hj e => ?_, fun k q hk => h.2 q (List.mem_of_getElem? hk)⟩
    have hn := List.pairwise_iff_getElem.mp h.1
    obtain ⟨li, ei⟩ := List.getElem?_eq_some_iff.mp hi
    obtain ⟨lj, ej⟩ := List.getElem?_eq_some_iff.mp hj
    rcases Nat.lt_trichotomy i j with z | z | z
    · exact absurd (by rw [List.getElem_map, List.getElem_map, ei, ej]; exact e) (hn i j (by rw [List.length_map]; exact li) (by rw [List.length_map]; exact lj) z)
    · exact z
    · exact absurd (by rw [List.getElem_map, List.getElem_map, ei, ej]; exact e.symm) (hn j i (by rw [List.length_map]; exact lj) (by rw [List.length_map]; exact li) z)
theorem CZ.mid {D : va_G} {A : Nat → Prop} {s : State} {H : Heap} {locs : List Loc} {a b c : va_W} (h : CZ D A s H locs (a ++ (b ++ c))) : CZ D A s H locs b := by
  obtain ⟨h1, h2, h3⟩ := h
  rw [pz_in] at h1
  rw [dz_in] at h2
  refine ⟨pz_in.mpr fun q hq => h1 q (List.mem_append_right _ (List.mem_append_left _ hq)), dz_in.mpr ⟨?_, fun q hq => h2.2 q (List.mem_append_right _ (List.mem_append_left _ hq))⟩, h3⟩
  have h4 := h2.1
  rw [List.map_append, List.map_append] at h4
  exact (List.nodup_append.mp (List.nodup_append.mp h4).2.1).1
theorem CZ.back {D : va_G} {A : Nat → Prop} {s : State} {H H1 : Heap} {locs locs1 : List Loc} {a b c b1 : va_W} (h : CZ D A s H locs (a ++ (b ++ c))) (hA : ∀ q, s.heap.size ≤ q → A q) (hk : ∀ q : Nat, q < H.size → ¬ va_A b H.size q → H1[q]? = H[q]?) (hP1 : va_P D vwCl b1 H1) (hD1 : va_D (va_A b H.size) b1) (hS : va_S A s.heap H1 locs1) : CZ D A s H1 locs1 (a ++ (b1 ++ c)) := by
  have hm := CZ.mid h
  have hF := frZ hm hA
  obtain ⟨h1, h2, h3⟩ := h
  rw [pz_in] at h1
  have h2' := dz_in.mp h2
  have hn := h2'.1
  rw [List.map_append, List.map_append, List.nodup_append, List.nodup_append] at hn
  obtain ⟨n1, ⟨n2, n3, n4⟩, n5⟩ := hn
  have hd1 := dz_in.mp hD1
  have lt : ∀ q ∈ (a ++ (b ++ c)), q.1 < H.size := fun q hq => (h1 q hq).lt
  have ma : ∀ q ∈ a, q ∈ (a ++ (b ++ c)) := fun q hq => List.mem_append_left _ hq
  have mc : ∀ q ∈ c, q ∈ (a ++ (b ++ c)) := fun q hq => List.mem_append_right _ (List.mem_append_right _ hq)
  -- what is none of b's stands outside
  have na : ∀ q ∈ a, ¬ va_A b H.size q.1 := by
    intro q hq z
    rcases z with ⟨k, e, hk⟩ | z
    · exact n5 q.1 (List.mem_map_of_mem hq) q.1 (List.mem_append_left _ (List.mem_map.mpr ⟨(q.1, e), List.mem_of_getElem? hk, rfl⟩)) rfl
    · have := lt q (ma q hq); omega
  have nc : ∀ q ∈ c, ¬ va_A b H.size q.1 := by
    intro q hq z
    rcases z with ⟨k, e, hk⟩ | z
    · exact n4 q.1 (List.mem_map.mpr ⟨(q.1, e), List.mem_of_getElem? hk, rfl⟩) q.1 (List.mem_map_of_mem hq) rfl
    · have := lt q (mc q hq); omega
  refine ⟨pz_in.mpr fun q hq => ?_, dz_in.mpr ⟨?_, fun q hq => ?_⟩, hS⟩
  · rcases List.mem_append.mp hq with z | z
    · exact (h1 q (ma q z)).kept (hk q.1 (lt q (ma q z)) (na q z))
    · rcases List.mem_append.mp z with z | z
      · exact pz_in.mp hP1 q z
      · exact (h1 q (mc q z)).kept (hk q.1 (lt q (mc q z)) (nc q z))
  · rw [List.map_append, List.map_append, List.nodup_append, List.nodup_append]
    refine ⟨n1, ⟨hd1.1, n3, ?_⟩, ?_⟩
    · intro x hx z hz e
      obtain ⟨q, hq, rfl⟩ := List.mem_map.mp hx
      obtain ⟨r, hr, rfl⟩ := List.mem_map.mp hz
      exact nc r hr (by rw [← e]; exact hd1.2 q hq)
    · intro x hx z hz e
      obtain ⟨q, hq, rfl⟩ := List.mem_map.mp hx
      rcases List.mem_append.mp hz with y | y
      · obtain ⟨r, hr, rfl⟩ := List.mem_map.mp y
        exact na q hq (by rw [e]; exact hd1.2 r hr)
      · exact n5 q.1 (List.mem_map_of_mem hq) z (List.mem_append_right _ y) e
  · rcases List.mem_append.mp hq with z | z
    · exact h2'.2 q (ma q z)
    · rcases List.mem_append.mp z with z | z
      · exact hF q.1 (hd1.2 q z)
      · exact h2'.2 q (mc q z)
/-- the words of a throwing method -/
def ALX : List Cond := ALW ++ ([.classLink RX11 196 "java/util/NoSuchElementException", .initialized "java/util/NoSuchElementException"] ++ n13_at.filter goodWord)
theorem alx_w : ∀ w ∈ ALW, w ∈ ALX := fun _ h => List.mem_append_left _ h
theorem alx_1 : (.classLink RX11 196 "java/util/NoSuchElementException" : Cond) ∈ ALX := List.mem_append_right _ (List.mem_append_left _ (by decide +kernel))
theorem alx_2 : (.initialized "java/util/NoSuchElementException" : Cond) ∈ ALX := List.mem_append_right _ (List.mem_append_left _ (by decide +kernel))
theorem alx_3 : ∀ w ∈ n13_at.filter goodWord, w ∈ ALX := fun _ h => List.mem_append_right _ (List.mem_append_right _ h)
abbrev XZ (D : va_G) (w : va_W) (sz : Nat) : String → State → State → Prop := vx_X (fun (_ : Unit) => True) (fun E (_ : Unit) t => E = "java/util/NoSuchElementException" ∧ BZ D w w sz t) (va_A w sz)
abbrev FZ (w : va_W) (sz : Nat) : Array Value → State → Outcome → State → Prop := va_Qi (fun (_ : Int32) (_ : Unit) => False) (fun (_ : Unit) (_ : State) => True) (va_A w sz)
def PX (D : va_G) (y : Nat → ClassId) (ad av : Nat → Nat) (w : va_W) (sa k : Nat) (tx : String) (sz : Nat) (U : State) : Prop := PZ D y ad av w sz U ∧ xE sa k tx (va_A w sz) U U.heap
section TH
variable {p : Program} {l : Launch} {e : Env} {R : Room} {s : State} {m : MethodId} {args : Array Value} {below : List Frame} {meth : Method} {c : Code} {H : Heap} {locs : List Loc} {Q : State → Prop} {pc : Nat} {ls : Array Slot} {rest : List Value} {A : Nat → Prop} {cc : ByteArray} {D : va_G} {y : Nat → ClassId} {o : Nat → Nat} {σ : Sto}
end TH
set_option maxHeartbeats 8000000 in
set_option maxRecDepth 100000 in
theorem x_X11_instruction {D : va_G} {y : Nat → ClassId} {o : Nat → Nat} {ad av : Nat → Nat} {x1 x2 : Int32} {σ : Sto} {sa : Nat} (l : Launch) (hfl : l.stackTraces = false) (hn : ¬ XIN x1 x2 σ) (sz : Nat) : vx_Met l yX11_instruction (Cond.code yX11_instruction cX11_instruction 3 (some .int) :: ALX) { frames := 6, cells := 1, slots := 6, locals := 82 } (va_Pc [.ref (o 0), .int x1, .int x2] (PX D y ad av (WX y o σ) sa 198 "no such instruction" sz)) (FZ (WX y o σ) sz) (XZ D (WX y o σ) sz) 1 6 (va_A (WX y o σ) sz) := by
  refine vx_ofW (cc := cX11_instruction) (maxL := 3) (ret := (some .int)) (by decide) rfl ?_
  intro p e s m args below meth c s₁ B hml hT hv
  obtain ⟨rfl, ⟨hsz, hP, hK, hD0, hN, hV⟩, hE⟩ := hv
  have hx := B.exec
  have hb := B.bytes
  have hr := B.returns
  have hts := atoms_spec (ws := Cond.code yX11_instruction cX11_instruction 3 (some .int) :: ALX) B.pre
  have hta : ∀ w ∈ ALW, w.before _ s = true := fun w hw => hts w (List.mem_cons_of_mem _ (alx_w w hw))
  have hown : s.vm.findClass RX11 = some m.cls := findClass_of_methodNamed B.named
  have hlocks := B.notSynchronized
  subst hsz
  have hD := hD0.self (sz := s.heap.size)
  generalize hAe : va_A (WX y o σ) s.heap.size = A at hD hE hV ⊢
  have hA : ∀ q : Nat, s.heap.size ≤ q → A q := fun q h => by rw [← hAe]; exact Or.inr h
  have hC : CZ D A s s.heap [] (WX y o σ) := ⟨hP, hD, va_S.rf⟩
  have hl := lv_entry ([.ref (o 0), .int x1, .int x2]) (n := 3) (Nat.le_of_ble_eq_true rfl)
  rw [lg_entry_eq]
  generalize (lg_sl ([.ref (o 0), .int x1, .int x2]) ++ List.replicate (3 - (lg_sl ([.ref (o 0), .int x1, .int x2])).length) Slot.unset).toArray = ls at hl ⊢
  have hl : lv_has ls 3 [(0, .ref (o 0)), (1, .int x1), (2, .int x2)] := hl
  have go : W p l e (headSpec (Cond.code yX11_instruction cX11_instruction 3 (some .int) :: ALX) { frames := 6, cells := 1, slots := 6, locals := 82 }).room s m (([.ref (o 0), .int x1, .int x2] : List Value).toArray) below meth c s.heap [] 0 0 (vx_MQ below (FZ (WX y o σ) s.heap.size) (XZ D (WX y o σ) s.heap.size) (([.ref (o 0), .int x1, .int x2] : List Value).toArray) s 1 6 A) (F0 m 31 ls []) := by
    refine n13_make hx hb hfl (text := "no such instruction") (ik := 196) (is := 198) (sa := sa) (A := A) hown (hts _ (List.mem_cons_of_mem _ alx_1)) (hts _ (List.mem_cons_of_mem _ alx_2)) hE.1 (vx_hat (B := [.castable "java/util/NoSuchElementException" "java/util/NoSuchElementException", .declares ⟨"java/lang/RuntimeException", "<init>", "(Ljava/lang/String;)V"⟩, .declares ⟨"java/lang/Exception", "<init>", "(Ljava/lang/String;)V"⟩, .declares ⟨"java/lang/Throwable", "<init>", "(Ljava/lang/String;)V"⟩]) (fun w h => hts w (List.mem_cons_of_mem _ (alx_3 w h))) (by decide +kernel) (vx_c (hE.2.2.2.1.use rfl) (vx_c (hE.2.2.2.2.1.use rfl) (vx_c (hE.2.2.2.2.2.1.use rfl) (vx_c (hE.2.2.2.2.2.2.use rfl) vx_n))))) (by decide +kernel) hE.2.1 hE.2.2.1 hC.2.2 (by rw [hml]; exact hl.1) dX11_instruction_31 dX11_instruction_34 dX11_instruction_35 dX11_instruction_37 (Nat.le_of_ble_eq_true rfl) (Nat.le_of_ble_eq_true rfl) (Nat.le_of_ble_eq_true rfl) (Nat.le_of_ble_eq_true rfl) (fun q9 ce9 H1 hq9 hv9 hcl9 hz9 hk9 => ?_)
    refine vx_athrow hx hb dX11_instruction_40 ?_
    exact vx_out (fun x h => (hT x h).elim) hlocks hq9 hv9 hcl9 (fun t ht hal => ⟨(), trivial, ⟨rfl, by rw [ht]; exact hC.1.kept (fun k q hq => hk9 q.1 ((hC.1 k q hq).lt)), hD0.self⟩, by rw [ht]; exact hz9, fun q hq hn => by rw [ht]; exact hk9 q hq⟩) hC.2.2.2.2 (Nat.le_of_ble_eq_true rfl) (Nat.le_of_ble_eq_true rfl)
  refine lv_aload_n hx hb dX11_instruction_0 rfl (lv_at hl 0 rfl) ?_
  refine gt_X11_105_cl hx hb hta hown hK hC dX11_instruction_1 ?_
  refine lv_if_eq (tgt := 31) hx hb dX11_instruction_4 (by decide) (fun c_1 => go) (fun c_1 => ?_)
  refine lv_iload_n hx hb dX11_instruction_7 rfl (lv_at hl 1 rfl) ?_
  refine lv_if_lt (tgt := 31) hx hb dX11_instruction_8 (by decide) (fun c_2 => go) (fun c_2 => ?_)
  refine lv_iload_n hx hb dX11_instruction_11 rfl (lv_at hl 1 rfl) ?_
  refine lv_aload_n hx hb dX11_instruction_12 rfl (lv_at hl 0 rfl) ?_
  refine gt_X11_19_cl hx hb hta hown hK hC dX11_instruction_13 ?_
  refine gt_X11_138_listing hx hb hta hown hK hC dX11_instruction_16 ?_
  refine lv_icmp_ge (tgt := 31) hx hb dX11_instruction_19 (by decide) (fun c_3 => go) (fun c_3 => ?_)
  refine lv_iload_n hx hb dX11_instruction_22 rfl (lv_at hl 2 rfl) ?_
  refine lv_if_lt (tgt := 31) hx hb dX11_instruction_23 (by decide) (fun c_4 => go) (fun c_4 => ?_)
  refine lv_iload_n hx hb dX11_instruction_26 rfl (lv_at hl 2 rfl) ?_
  refine lv_iconst (v := 5) hx hb dX11_instruction_27 (by decide) ?_
  refine lv_icmp_le (tgt := 41) hx hb dX11_instruction_28 (by decide) (fun c_5 => absurd ⟨c_1, c_2, c_3, c_4, c_5⟩ hn) (fun c_5 => go)
set_option maxHeartbeats 8000000 in
set_option maxRecDepth 100000 in
theorem x_X11_block {D : va_G} {y : Nat → ClassId} {o : Nat → Nat} {ad av : Nat → Nat} {x1 x2 : Int32} {σ : Sto} {sa : Nat} (l : Launch) (hfl : l.stackTraces = false) (hB : BX σ) (hn : ¬ XBL x1 x2 σ) (sz : Nat) : vx_Met l yX11_block (Cond.code yX11_block cX11_block 3 (some .int) :: ALX) { frames := 6, cells := 1, slots := 6, locals := 82 } (va_Pc [.ref (o 0), .int x1, .int x2] (PX D y ad av (WX y o σ) sa 220 "no such block" sz)) (FZ (WX y o σ) sz) (XZ D (WX y o σ) sz) 1 6 (va_A (WX y o σ) sz) := by
  refine vx_ofW (cc := cX11_block) (maxL := 3) (ret := (some .int)) (by decide) rfl ?_
  intro p e s m args below meth c s₁ B hml hT hv
  obtain ⟨rfl, ⟨hsz, hP, hK, hD0, hN, hV⟩, hE⟩ := hv
  have hx := B.exec
  have hb := B.bytes
  have hr := B.returns
  have hts := atoms_spec (ws := Cond.code yX11_block cX11_block 3 (some .int) :: ALX) B.pre
  have hta : ∀ w ∈ ALW, w.before _ s = true := fun w hw => hts w (List.mem_cons_of_mem _ (alx_w w hw))
  have hown : s.vm.findClass RX11 = some m.cls := findClass_of_methodNamed B.named
  have hlocks := B.notSynchronized
  subst hsz
  have hD := hD0.self (sz := s.heap.size)
  generalize hAe : va_A (WX y o σ) s.heap.size = A at hD hE hV ⊢
  have hA : ∀ q : Nat, s.heap.size ≤ q → A q := fun q h => by rw [← hAe]; exact Or.inr h
  have hC : CZ D A s s.heap [] (WX y o σ) := ⟨hP, hD, va_S.rf⟩
  have hl := lv_entry ([.ref (o 0), .int x1, .int x2]) (n := 3) (Nat.le_of_ble_eq_true rfl)
  rw [lg_entry_eq]
  generalize (lg_sl ([.ref (o 0), .int x1, .int x2]) ++ List.replicate (3 - (lg_sl ([.ref (o 0), .int x1, .int x2])).length) Slot.unset).toArray = ls at hl ⊢
  have hl : lv_has ls 3 [(0, .ref (o 0)), (1, .int x1), (2, .int x2)] := hl
  have gg : ∀ {H : Heap} {locs : List Loc}, CZ D A s H locs (WX y o σ) → W p l e (headSpec (Cond.code yX11_block cX11_block 3 (some .int) :: ALX) { frames := 6, cells := 1, slots := 6, locals := 82 }).room s m (([.ref (o 0), .int x1, .int x2] : List Value).toArray) below meth c H locs 0 0 (vx_MQ below (FZ (WX y o σ) s.heap.size) (XZ D (WX y o σ) s.heap.size) (([.ref (o 0), .int x1, .int x2] : List Value).toArray) s 1 6 A) (F0 m 18 ls []) := by
    intro H locs hC
    refine n13_make hx hb hfl (text := "no such block") (ik := 196) (is := 220) (sa := sa) (A := A) hown (hts _ (List.mem_cons_of_mem _ alx_1)) (hts _ (List.mem_cons_of_mem _ alx_2)) hE.1 (vx_hat (B := [.castable "java/util/NoSuchElementException" "java/util/NoSuchElementException", .declares ⟨"java/lang/RuntimeException", "<init>", "(Ljava/lang/String;)V"⟩, .declares ⟨"java/lang/Exception", "<init>", "(Ljava/lang/String;)V"⟩, .declares ⟨"java/lang/Throwable", "<init>", "(Ljava/lang/String;)V"⟩]) (fun w h => hts w (List.mem_cons_of_mem _ (alx_3 w h))) (by decide +kernel) (vx_c (hE.2.2.2.1.use rfl) (vx_c (hE.2.2.2.2.1.use rfl) (vx_c (hE.2.2.2.2.2.1.use rfl) (vx_c (hE.2.2.2.2.2.2.use rfl) vx_n))))) (by decide +kernel) hE.2.1 hE.2.2.1 hC.2.2 (by rw [hml]; exact hl.1) dX11_block_18 dX11_block_21 dX11_block_22 dX11_block_24 (Nat.le_of_ble_eq_true rfl) (Nat.le_of_ble_eq_true rfl) (Nat.le_of_ble_eq_true rfl) (Nat.le_of_ble_eq_true rfl) (fun q9 ce9 H1 hq9 hv9 hcl9 hz9 hk9 => ?_)
    refine vx_athrow hx hb dX11_block_27 ?_
    exact vx_out (fun x h => (hT x h).elim) hlocks hq9 hv9 hcl9 (fun t ht hal => ⟨(), trivial, ⟨rfl, by rw [ht]; exact hC.1.kept (fun k q hq => hk9 q.1 ((hC.1 k q hq).lt)), hD0.self⟩, by rw [ht]; exact Nat.le_trans hC.2.2.1 hz9, fun q hq hn => by rw [ht]; exact (hk9 q (Nat.lt_of_lt_of_le hq hC.2.2.1)).trans (hC.2.2.2.1 q hq (by rw [← hAe]; exact hn))⟩) hC.2.2.2.2 (Nat.le_of_ble_eq_true rfl) (Nat.le_of_ble_eq_true rfl)
  obtain ⟨v, ev, -⟩ := s_X11_isBlock (x1 := x1) hB
  refine lv_aload_n hx hb dX11_block_0 rfl (lv_at hl 0 rfl) ?_
  refine lv_iload_n hx hb dX11_block_1 rfl (lv_at hl 1 rfl) ?_
  refine bhi (va_runV (As := [.int x1]) (rest := []) ⟨hx, hb, hml, hown, hta⟩ (r_X11_isBlock (D := D) (y := y) (o := o) (ad := ad) (av := av) ev l s.heap.size) (cwV 1 hta (gdV wq_848 wq_849 wq_850 wq_38 wq_839) rfl rfl rfl ⟨rfl, hd_X11_isBlock.1, hd_X11_isBlock.2.1, hd_X11_isBlock.2.2⟩ ⟨Nat.le_of_ble_eq_true rfl, Nat.le_of_ble_eq_true rfl⟩) ⟨blZ, va_recv hK hC.1 (ci := 11) (q0 := 0) rfl rfl, prZ hK hN hV hA hC⟩ rfl rfl hl.1 rfl (lv_room (Nat.le_of_ble_eq_true rfl)) dX11_block_2 ⟨Nat.le_of_ble_eq_true rfl, Nat.le_of_ble_eq_true rfl⟩) hA hC (fun H locs hC => ?_)
  have go := gg hC
  refine lv_if_eq (tgt := 18) hx hb dX11_block_5 (by decide) (fun c_1 => go) (fun c_1 => ?_)
  refine lv_iload_n hx hb dX11_block_8 rfl (lv_at hl 2 rfl) ?_
  refine lv_if_lt (tgt := 18) hx hb dX11_block_9 (by decide) (fun c_4 => go) (fun c_4 => ?_)
  refine lv_iload_n hx hb dX11_block_12 rfl (lv_at hl 2 rfl) ?_
  refine lv_bipush (v := 12) hx hb dX11_block_13 (by decide) ?_
  refine lv_icmp_le (tgt := 28) hx hb dX11_block_15 (by decide) (fun c_5 => absurd ⟨fun z => c_1 (Option.some.inj (ev.symm.trans z)), c_4, c_5⟩ hn) (fun c_5 => go)
