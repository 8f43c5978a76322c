abbrev mF (g : Nat → Nat) (thX leX atX coX haX : Int32) : List Value := [.int thX, .ref (g 0), .int leX, .int atX, .ref (g 1), .ref (g 2), .ref (g 3), .int coX, .int haX, .ref (g 4), .ref (g 5), .ref (g 6), .ref (g 7), .ref (g 8), .ref (g 9), .int 0, .int 0, .int 0, .int 0, .ref (g 10), .ref (g 11), .int 0, .ref (g 12), .ref (g 13), .ref (g 14), .ref (g 15), .int 0, .ref (g 16), .ref (g 17), .ref (g 18), .ref (g 19), .ref (g 20), .int 0, .ref (g 21), .ref (g 22), .ref (g 23), .ref (g 24), .int 0, .long 0, .int 0, .int 0, .ref (g 25), .ref (g 26), .ref (g 27), .int 0, .ref (g 28), .ref (g 29), .ref (g 30), .ref (g 31), .ref (g 32), .int 0, .int 0, .ref (g 33), .int 0, .int 0, .ref (g 34), .ref (g 35), .ref (g 36), .ref (g 37), .ref (g 38), .ref (g 39), .ref (g 40), .ref (g 41), .ref (g 42), .ref (g 43), .int 0, .int 0, .ref (g 44), .ref (g 45), .int 0, .ref (g 46), .int 0, .ref (g 47), .ref (g 48), .int 0, .int 0, .int 0, .int 0, .int 0, .int 0, .int 0, .int 0, .int 0, .ref (g 49), .int 0, .ref (g 50), .ref (g 51)]
def bt (x : Int32) (i : Nat) : Bool := x.toBitVec.getLsbD i
theorem b_ext {x y : Int32} (h : ∀ i, i < 32 → bt x i = bt y i) : x = y := Int32.toBitVec_inj.mp (BitVec.eq_of_getLsbD_eq (fun i hi => h i hi))
theorem b_and (x y : Int32) (i : Nat) : bt (x &&& y) i = (bt x i && bt y i) := by unfold bt; rw [Int32.toBitVec_and, BitVec.getLsbD_and]
theorem b_big {x : Int32} {i : Nat} (h : 32 ≤ i) : bt x i = false := BitVec.getLsbD_of_ge _ _ h
theorem b_255 (i : Nat) : bt 255 i = decide (i < 8) := by
  rcases Nat.lt_or_ge i 32 with h | h
  · exact (by decide +kernel : ∀ i, i < 32 → bt 255 i = decide (i < 8)) i h
  · rw [b_big h, decide_eq_false (by omega)]
theorem s_l : ∀ n, n < 32 → ((nI n &&& 31).toBitVec.smod 32).toNat = n := by decide +kernel
theorem s_u : ∀ n, n < 32 → (((nI n).toUInt32 &&& Int32.toUInt32 31).toBitVec % 32).toNat = n := by decide +kernel
theorem b_ushr (n : Nat) (hn : n < 32) (x : Int32) (i : Nat) : bt ((x.toUInt32 >>> ((nI n).toUInt32 &&& Int32.toUInt32 31)).toInt32) i = bt x (n + i) := by
  show (x.toUInt32 >>> ((nI n).toUInt32 &&& Int32.toUInt32 31)).toBitVec.getLsbD i = x.toUInt32.toBitVec.getLsbD (n + i)
  rw [UInt32.toBitVec_shiftRight]
  show (x.toUInt32.toBitVec >>> (((nI n).toUInt32 &&& Int32.toUInt32 31).toBitVec % 32).toNat).getLsbD i = _
  rw [s_u n hn, BitVec.getLsbD_ushiftRight]
theorem b_sshr (n : Nat) (hn : n < 32) (x : Int32) {i : Nat} (hi : i < 32) : bt (x >>> (nI n &&& 31)) i = if n + i < 32 then bt x (n + i) else bt x 31 := by
  unfold bt
  rw [Int32.toBitVec_shiftRight]
  show (x.toBitVec.sshiftRight ((nI n &&& 31).toBitVec.smod 32).toNat).getLsbD i = _
  rw [s_l n hn, BitVec.getLsbD_sshiftRight, BitVec.msb_eq_getLsbD_last]
  simp [hi]
/-- the shifts of four bytes, the last one first; 0: behind the end -/
def zs : Nat → Int32 | 0 => -8 | 1 => 0 | 2 => 8 | 3 => 16 | _ => 24
theorem zs_nn {n : Nat} (h : n < 4) : ¬ zs (n + 1) < 0 := by rcases (show n = 0 ∨ n = 1 ∨ n = 2 ∨ n = 3 by omega) with rfl | rfl | rfl | rfl <;> decide
theorem zs_dec {n : Nat} (h : n < 4) : zs (n + 1) + Int32.ofInt (-8) = zs n := by rcases (show n = 0 ∨ n = 1 ∨ n = 2 ∨ n = 3 by omega) with rfl | rfl | rfl | rfl <;> decide
theorem zs_mul {n : Nat} (h : n < 4) : 8 * nI n = zs (n + 1) := by rcases (show n = 0 ∨ n = 1 ∨ n = 2 ∨ n = 3 by omega) with rfl | rfl | rfl | rfl <;> decide
theorem zs_nI {n : Nat} (h : n < 4) : zs (n + 1) = nI (8 * n) := by rcases (show n = 0 ∨ n = 1 ∨ n = 2 ∨ n = 3 by omega) with rfl | rfl | rfl | rfl <;> decide
def zb (w : Int32) (n : Nat) : Int32 := (w.toUInt32 >>> ((zs n).toUInt32 &&& Int32.toUInt32 31)).toInt32 &&& 255
def zc (w : Int32) (n : Nat) : Int32 := (w >>> (zs n &&& 31)) &&& 255
theorem zb_zc (w : Int32) {n : Nat} (h : n < 4) : zb w (n + 1) = zc w (n + 1) := by
  unfold zb zc
  rw [zs_nI h]
  refine b_ext (fun i hi => ?_)
  rw [b_and, b_and, b_ushr (8 * n) (by omega), b_sshr (8 * n) (by omega) w hi, b_255]
  rcases Nat.lt_or_ge i 8 with q | q
  · rw [if_pos (by omega)]
  · rw [decide_eq_false (by omega), Bool.and_false, Bool.and_false]
/-- how many of the last n bytes are not 0 -/
def zn (w : Int32) : Nat → Nat | 0 => 0 | n + 1 => (if zb w (n + 1) = 0 then 0 else 1) + zn w n
theorem zn_0 {w : Int32} {n : Nat} (h : zb w (n + 1) = 0) : zn w (n + 1) = zn w n := by rw [zn, if_pos h, Nat.zero_add]
theorem zn_1 {w : Int32} {n : Nat} (h : ¬ zb w (n + 1) = 0) : zn w (n + 1) = 1 + zn w n := by rw [zn, if_neg h]
theorem zn_le (w : Int32) (n : Nat) : zn w n ≤ n := by
  induction n with
  | zero => exact Nat.le_refl 0
  | succ n h => rw [zn]; split <;> omega
set_option maxHeartbeats 4000000 in
theorem lp_bytesIn {p : Program} {l : Launch} {e : Env} {R : Room} {s : State} {m : MethodId} {args : Array Value} {below : List Frame} {meth : Method} {c : Code} {cells slots : Nat} {Q : State → Prop} {H : Heap} {locs : List Loc} (hx : p.tables.exec = Jvm.exec) (hb : c.code = cX11_bytesIn) (w : Int32) : ∀ (n : Nat), n ≤ 4 → ∀ (k : Nat) (ls : Array Slot), lv_has ls 3 [(0, .int w), (1, .int (nI k)), (2, .int (zs n))] → (∀ ls : Array Slot, lv_has ls 3 [(1, .int (nI (k + zn w n)))] → W p l e R s m args below meth c H locs cells slots Q (F0 m 28 ls [])) → W p l e R s m args below meth c H locs cells slots Q (F0 m 5 ls []) := by
  intro n
  induction n with
  | zero =>
    intro _ k ls hl K
    refine lv_iload_n hx hb dX11_bytesIn_5 rfl (lv_at hl 2 rfl) ?_
    refine lv_if_lt (tgt := 28) hx hb dX11_bytesIn_6 (by decide) (fun _ => ?_) (fun c_0 => absurd (by decide) c_0)
    exact K ls (lv_sub hl [1] rfl)
  | succ n ih =>
    intro hn k ls hl K
    have hn : n < 4 := hn
    refine lv_iload_n hx hb dX11_bytesIn_5 rfl (lv_at hl 2 rfl) ?_
    refine lv_if_lt (tgt := 28) hx hb dX11_bytesIn_6 (by decide) (fun c_0 => absurd c_0 (zs_nn hn)) (fun c_0 => ?_)
    refine lv_iload_n hx hb dX11_bytesIn_9 rfl (lv_at hl 0 rfl) ?_
    refine lv_iload_n hx hb dX11_bytesIn_10 rfl (lv_at hl 2 rfl) ?_
    refine lv_iushr hx hb dX11_bytesIn_11 rfl ?_
    refine lv_topi (fun v_1 e_1 => ?_)
    refine lv_sipush (v := 255) hx hb dX11_bytesIn_12 (by decide) ?_
    refine lv_iand hx hb dX11_bytesIn_15 ?_
    refine lv_topi (fun v_2 e_2 => ?_)
    refine lv_if_eq (tgt := 22) hx hb dX11_bytesIn_16 (by decide) (fun c_3 => ?_) (fun c_3 => ?_)
    · obtain ⟨v_4, e_4⟩ : ∃ y : Int32, y = (zs (n + 1)) + Int32.ofInt (-8) := ⟨_, rfl⟩
      refine lv_iinc (v := v_4) (lv' := [(2, .int v_4), (0, .int w), (1, .int (nI k))]) hx hb dX11_bytesIn_22 hl (k := 2) rfl e_4.symm (by decide) rfl (fun ls hl => ?_)
      refine lv_goto (tgt := 5) hx hb dX11_bytesIn_25 (by decide) ?_
      obtain rfl : v_4 = zs n := by rw [e_4]; exact zs_dec hn
      exact ih (by omega) k ls (lv_sub hl [1, 2, 0] rfl) (fun ls hl => K ls (by rw [zn_0 (show zb w (n + 1) = 0 by unfold zb; rw [← e_1, ← e_2]; exact c_3)]; exact hl))
    · obtain ⟨v_5, e_5⟩ : ∃ y : Int32, y = (nI k) + Int32.ofInt 1 := ⟨_, rfl⟩
      refine lv_iinc (v := v_5) (lv' := [(1, .int v_5), (0, .int w), (2, .int (zs (n + 1)))]) hx hb dX11_bytesIn_19 hl (k := 1) rfl e_5.symm (by decide) rfl (fun ls hl => ?_)
      obtain ⟨v_6, e_6⟩ : ∃ y : Int32, y = (zs (n + 1)) + Int32.ofInt (-8) := ⟨_, rfl⟩
      refine lv_iinc (v := v_6) (lv' := [(2, .int v_6), (1, .int v_5), (0, .int w)]) hx hb dX11_bytesIn_22 hl (k := 2) rfl e_6.symm (by decide) rfl (fun ls hl => ?_)
      refine lv_goto (tgt := 5) hx hb dX11_bytesIn_25 (by decide) ?_
      obtain rfl : v_6 = zs n := by rw [e_6]; exact zs_dec hn
      obtain rfl : v_5 = nI (k + 1) := by rw [e_5]; exact nI_1 k
      exact ih (by omega) (k + 1) ls (lv_sub hl [2, 1, 0] rfl) (fun ls hl => K ls (by rw [zn_1 (show ¬ zb w (n + 1) = 0 by unfold zb; rw [← e_1, ← e_2]; exact c_3), show k + (1 + zn w n) = k + 1 + zn w n by omega]; exact hl))

def us_X11_bytesIn : List Cond := .code yX11_bytesIn cX11_bytesIn 3 (some .int) :: []
set_option maxHeartbeats 8000000 in
set_option maxRecDepth 100000 in
/-- bytesIn: how many bytes of a word are not 0 -/
theorem c_X11_bytesIn (l : Launch) (dC : Nat → ClassId) (dI : Nat → Nat → Nat) (sz : Nat) (w : Int32) : Met l yX11_bytesIn us_X11_bytesIn ({ frames := 0, cells := 0, slots := 0, locals := 0 }) (va_Pc [.int w] (fun U => U.heap.size = sz ∧ va_P (dC, dI) vwCl [] U.heap ∧ va_K (dC, dI) vwCl [] U ∧ va_D (fun _ => True) [])) (va_Qi (fun (r : Int32) (u : Unit) => r = nI (zn w 4)) (fun (u : Unit) (t : State) => True) (va_A [] sz)) 0 0 (va_A [] sz) := by
  refine Met.ofW (cc := cX11_bytesIn) (maxL := 3) (ret := (some .int)) (by decide) rfl ?_
  intro p e s m args below meth c s₁ B hml hv
  obtain ⟨rfl, hsz, hP, hK, hD0⟩ := hv
  have hx := B.exec
  have hb := B.bytes
  have hr := B.returns
  have hts := atoms_spec (ws := us_X11_bytesIn) B.pre
  have hown : s.vm.findClass RX11 = some m.cls := findClass_of_methodNamed B.named
  have hlocks := B.notSynchronized
  subst hsz
  have hD := hD0.self (sz := s.heap.size)
  generalize hAe : va_A [] s.heap.size = A at hD ⊢
  have hA : ∀ q : Nat, s.heap.size ≤ q → A q := fun q h => by rw [← hAe]; exact Or.inr h
  have hS : va_S A s.heap s.heap [] := va_S.rf
  have hP : va_P (dC, dI) vwCl [] s.heap := hP
  have hl := lv_entry ([.int w]) (n := 3) (Nat.le_of_ble_eq_true rfl)
  rw [lg_entry_eq]
  generalize (lg_sl ([.int w]) ++ List.replicate (3 - (lg_sl ([.int w])).length) Slot.unset).toArray = ls at hl ⊢
  have hl : lv_has ls 3 [(0, .int w)] := hl
  refine lv_iconst (v := 0) hx hb dX11_bytesIn_0 (by decide) ?_
  refine lv_istore_n (lv' := [(1, .int 0), (0, .int w)]) hx hb dX11_bytesIn_1 rfl hl (by decide) rfl (fun ls hl => ?_)
  refine lv_bipush (v := 24) hx hb dX11_bytesIn_2 (by decide) ?_
  refine lv_istore_n (lv' := [(2, .int 24), (1, .int 0), (0, .int w)]) hx hb dX11_bytesIn_4 rfl hl (by decide) rfl (fun ls hl => ?_)
  refine lp_bytesIn hx hb w 4 (Nat.le_refl 4) 0 ls (lv_sub hl [2, 1, 0] rfl) (fun ls hl => ?_)
  refine lv_iload_n hx hb dX11_bytesIn_28 rfl (lv_at hl 0 rfl) ?_
  refine W.widen (k := 0) (n := 0) (Nat.le_of_ble_eq_true rfl) (Nat.le_of_ble_eq_true rfl) ?_
  exact W.iret (v := (nI (0 + zn w 4))) hx hb hr (fun t ht hW => ⟨⟨(nI (0 + zn w 4)), (), rfl, (by rw [Nat.zero_add]), trivial⟩, hS.F ht⟩) hS.2.2 dX11_bytesIn_29

def us_X9_append : List Cond := .code yX9_append cX9_append 4 none :: ([.fieldLink RX9 15 "CodeLifter$Tape" "length" "I", .fieldLink RX9 9 "CodeLifter$Tape" "bytes" "[B"] ++ wsX90)
theorem ui_X9_append_X9 : ∀ w ∈ wsX90, w ∈ us_X9_append := fun _ h => List.mem_cons_of_mem _ (List.mem_append_right _ h)
set_option maxHeartbeats 4000000 in
theorem lp_append {p : Program} {l : Launch} {e : Env} {R : Room} {s : State} {m : MethodId} {args : Array Value} {below : List Frame} {meth : Method} {c : Code} {cells slots : Nat} {Q : State → Prop} {dC : Nat → ClassId} {dI : Nat → Nat → Nat} {A : Nat → Prop} {H0 : Heap} {cB : ClassId} {h0 h1 : Nat} {a : Int32} (hx : p.tables.exec = Jvm.exec) (hb : c.code = cX9_append) (hts : ∀ w ∈ us_X9_append, w.before args s = true) (hown : s.vm.findClass RX9 = some m.cls) (hK : va_K (dC, dI) vwCl [(cB, .byte)] s) (w : Int32) : ∀ (n : Nat), n ≤ 4 → ∀ (k : Nat), k + n ≤ 240 → ∀ (f : Nat → Int32) (H : Heap) (locs : List Loc), va_P (dC, dI) vwCl [(h0, .inr (9, [.ref h1, .int (nI k), .int a])), (h1, .inl (cB, 240, .inl f))] H → va_D A [(h0, .inr (9, [.ref h1, .int (nI k), .int a])), (h1, .inl (cB, 240, .inl f))] → va_S A H0 H locs → ∀ (ls : Array Slot), lv_has ls 4 [(0, .ref h0), (1, .int w), (2, .int (zs n))] → (∀ (f : Nat → Int32) (H : Heap) (locs : List Loc), va_P (dC, dI) vwCl [(h0, .inr (9, [.ref h1, .int (nI (k + zn w n)), .int a])), (h1, .inl (cB, 240, .inl f))] H → va_D A [(h0, .inr (9, [.ref h1, .int (nI (k + zn w n)), .int a])), (h1, .inl (cB, 240, .inl f))] → va_S A H0 H locs → ∀ ls : Array Slot, W p l e R s m args below meth c H locs cells slots Q (F0 m 56 ls [])) → W p l e R s m args below meth c H locs cells slots Q (F0 m 3 ls []) := by
  intro n
  induction n with
  | zero =>
    intro _ k _ f H locs hP hD hS ls hl K
    refine lv_iload_n hx hb dX9_append_3 rfl (lv_at hl 2 rfl) ?_
    refine lv_if_lt (tgt := 56) hx hb dX9_append_4 (by decide) (fun _ => ?_) (fun c_0 => absurd (by decide) c_0)
    exact K f H locs hP hD hS ls
  | succ n ih =>
    intro hn k hk f H locs hP hD hS ls hl K
    have hn : n < 4 := hn
    refine lv_iload_n hx hb dX9_append_3 rfl (lv_at hl 2 rfl) ?_
    refine lv_if_lt (tgt := 56) hx hb dX9_append_4 (by decide) (fun c_0 => absurd c_0 (zs_nn hn)) (fun c_0 => ?_)
    refine lv_iload_n hx hb dX9_append_7 rfl (lv_at hl 1 rfl) ?_
    refine lv_iload_n hx hb dX9_append_8 rfl (lv_at hl 2 rfl) ?_
    refine lv_iushr hx hb dX9_append_9 rfl ?_
    refine lv_topi (fun v_1 e_1 => ?_)
    refine lv_sipush (v := 255) hx hb dX9_append_10 (by decide) ?_
    refine lv_iand hx hb dX9_append_13 ?_
    refine lv_topi (fun v_2 e_2 => ?_)
    refine lv_istore_n (lv' := [(3, .int v_2), (0, .ref h0), (1, .int w), (2, .int (zs (n + 1)))]) hx hb dX9_append_14 rfl hl (by decide) rfl (fun ls hl => ?_)
    refine lv_iload_n hx hb dX9_append_15 rfl (lv_at hl 0 rfl) ?_
    refine lv_if_eq (tgt := 50) hx hb dX9_append_16 (by decide) (fun c_3 => ?_) (fun c_3 => ?_)
    · obtain ⟨v_4, e_4⟩ : ∃ y : Int32, y = (zs (n + 1)) + Int32.ofInt (-8) := ⟨_, rfl⟩
      refine lv_iinc (v := v_4) (lv' := [(2, .int v_4), (3, .int v_2), (0, .ref h0), (1, .int w)]) hx hb dX9_append_50 hl (k := 3) rfl e_4.symm (by decide) rfl (fun ls hl => ?_)
      refine lv_goto (tgt := 3) hx hb dX9_append_53 (by decide) ?_
      obtain rfl : v_4 = zs n := by rw [e_4]; exact zs_dec hn
      exact ih (by omega) k (by omega) _ _ _ hP hD hS ls (lv_sub hl [2, 3, 0] rfl) (fun f H locs hP hD hS ls => K f H locs (by rw [zn_0 (show zb w (n + 1) = 0 by unfold zb; rw [← e_1, ← e_2]; exact c_3)]; exact hP) (by rw [zn_0 (show zb w (n + 1) = 0 by unfold zb; rw [← e_1, ← e_2]; exact c_3)]; exact hD) hS ls)
    · refine lv_aload_n hx hb dX9_append_19 rfl (lv_at hl 1 rfl) ?_
      refine va_get (D := (dC, dI)) (ci := 9) (v := .int (nI k)) (C := RX9) (T := TX9) (N := 3) hx hb hts ui_X9_append_X9 hown hK hP 0 rfl rfl 1 (by decide) (hts (.fieldLink RX9 15 "CodeLifter$Tape" "length" "I") (by decide +kernel)) (fun _ h9 => h9) rfl dX9_append_20 ?_
      refine lv_sipush (v := 240) hx hb dX9_append_23 (by decide) ?_
      refine lv_icmp_ge (tgt := 50) hx hb dX9_append_26 (by decide) (fun c_5 => absurd c_5 (nI_ge (b := 240) (by omega) (by omega))) (fun c_5 => ?_)
      refine lv_aload_n hx hb dX9_append_29 rfl (lv_at hl 1 rfl) ?_
      refine va_get (D := (dC, dI)) (ci := 9) (v := .ref h1) (C := RX9) (T := TX9) (N := 3) hx hb hts ui_X9_append_X9 hown hK hP 0 rfl rfl 0 (by decide) (hts (.fieldLink RX9 9 "CodeLifter$Tape" "bytes" "[B") (by decide +kernel)) (fun _ h9 => h9) rfl dX9_append_30 ?_
      refine lv_aload_n hx hb dX9_append_33 rfl (lv_at hl 1 rfl) ?_
      refine va_get (D := (dC, dI)) (ci := 9) (v := .int (nI k)) (C := RX9) (T := TX9) (N := 3) hx hb hts ui_X9_append_X9 hown hK hP 0 rfl rfl 1 (by decide) (hts (.fieldLink RX9 15 "CodeLifter$Tape" "length" "I") (by decide +kernel)) (fun _ h9 => h9) rfl dX9_append_34 ?_
      refine lv_iload_n hx hb dX9_append_37 rfl (lv_at hl 0 rfl) ?_
      refine lv_i2b hx hb dX9_append_38 rfl ?_
      refine lv_topi (fun v_6 e_6 => ?_)
      refine va_bast hx hb hK hP hD hS 1 0 rfl rfl (vp_in_nI (by omega) (by omega)) dX9_append_39 (fun H locs hP hD hS => ?_)
      generalize hf_7 : upd f _ _ = f_7 at hP hD
      have hP : va_P (dC, dI) vwCl [(h0, .inr (9, [.ref h1, .int (nI k), .int a])), (h1, .inl (cB, 240, .inl f_7))] H := hP
      have hD : va_D A [(h0, .inr (9, [.ref h1, .int (nI k), .int a])), (h1, .inl (cB, 240, .inl f_7))] := hD
      refine lv_aload_n hx hb dX9_append_40 rfl (lv_at hl 1 rfl) ?_
      refine lv_dup hx hb dX9_append_41 rfl ?_
      refine va_get (D := (dC, dI)) (ci := 9) (v := .int (nI k)) (C := RX9) (T := TX9) (N := 3) hx hb hts ui_X9_append_X9 hown hK hP 0 rfl rfl 1 (by decide) (hts (.fieldLink RX9 15 "CodeLifter$Tape" "length" "I") (by decide +kernel)) (fun _ h9 => h9) rfl dX9_append_42 ?_
      refine lv_iconst (v := 1) hx hb dX9_append_45 (by decide) ?_
      refine lv_iadd hx hb dX9_append_46 ?_
      refine lv_topi (fun v_8 e_8 => ?_)
      refine va_put (D := (dC, dI)) (ci := 9) (v := .int v_8) (ty := .int) (C := RX9) (T := TX9) (N := 3) hx hb hts ui_X9_append_X9 tyX9 tyX9_ok nmX9 hown hK hP hD hS 0 rfl rfl 1 (by decide) (hts (.fieldLink RX9 15 "CodeLifter$Tape" "length" "I") (by decide +kernel)) (fun _ h9 => h9) rfl (by decide +kernel) rfl rfl (Nat.le_of_ble_eq_true rfl) dX9_append_47 (fun H locs hP hD hS => ?_)
      have hP : va_P (dC, dI) vwCl [(h0, .inr (9, [.ref h1, .int v_8, .int a])), (h1, .inl (cB, 240, .inl f_7))] H := hP
      have hD : va_D A [(h0, .inr (9, [.ref h1, .int v_8, .int a])), (h1, .inl (cB, 240, .inl f_7))] := hD
      obtain ⟨v_9, e_9⟩ : ∃ y : Int32, y = (zs (n + 1)) + Int32.ofInt (-8) := ⟨_, rfl⟩
      refine lv_iinc (v := v_9) (lv' := [(2, .int v_9), (3, .int v_2), (0, .ref h0), (1, .int w)]) hx hb dX9_append_50 hl (k := 3) rfl e_9.symm (by decide) rfl (fun ls hl => ?_)
      refine lv_goto (tgt := 3) hx hb dX9_append_53 (by decide) ?_
      obtain rfl : v_9 = zs n := by rw [e_9]; exact zs_dec hn
      obtain rfl : v_8 = nI (k + 1) := by rw [e_8]; exact nI_1 k
      have hz : k + zn w (n + 1) = k + 1 + zn w n := by rw [zn_1 (show ¬ zb w (n + 1) = 0 by unfold zb; rw [← e_1, ← e_2]; exact c_3)]; omega
      exact ih (by omega) (k + 1) (by omega) _ _ _ hP hD hS ls (lv_sub hl [2, 3, 0] rfl) (fun f H locs hP hD hS ls => K f H locs (by rw [hz]; exact hP) (by rw [hz]; exact hD) hS ls)
set_option maxHeartbeats 8000000 in
set_option maxRecDepth 100000 in
/-- Tape.append: as many bytes more as are not 0 -/
theorem c_X9_append (l : Launch) (dC : Nat → ClassId) (dI : Nat → Nat → Nat) (sz : Nat) (h0 h1 k : Nat) (w a : Int32) (f : Nat → Int32) (cB : ClassId) (hk : k + 4 ≤ 240) : Met l yX9_append us_X9_append ({ frames := 0, cells := 0, slots := 0, locals := 0 }) (va_Pc [.ref h0, .int w] (fun U => U.heap.size = sz ∧ va_P (dC, dI) vwCl [(h0, .inr (9, [.ref h1, .int (nI k), .int a])), (h1, .inl (cB, 240, .inl f))] U.heap ∧ va_K (dC, dI) vwCl [(cB, .byte)] U ∧ va_D (fun _ => True) [(h0, .inr (9, [.ref h1, .int (nI k), .int a])), (h1, .inl (cB, 240, .inl f))])) (va_Qv (fun (u : Unit) => True) (fun (u : Unit) (t : State) => ∃ fn : Nat → Int32, va_P (dC, dI) vwCl [(h0, .inr (9, [.ref h1, .int (nI (k + zn w 4)), .int a])), (h1, .inl (cB, 240, .inl fn))] t.heap ∧ va_D (va_A [(h0, .inr (9, [.ref h1, .int (nI k), .int a])), (h1, .inl (cB, 240, .inl f))] sz) [(h0, .inr (9, [.ref h1, .int (nI (k + zn w 4)), .int a])), (h1, .inl (cB, 240, .inl fn))]) (va_A [(h0, .inr (9, [.ref h1, .int (nI k), .int a])), (h1, .inl (cB, 240, .inl f))] sz)) 0 0 (va_A [(h0, .inr (9, [.ref h1, .int (nI k), .int a])), (h1, .inl (cB, 240, .inl f))] sz) := by
  refine Met.ofW (cc := cX9_append) (maxL := 4) (ret := none) (by decide) rfl ?_
  intro p e s m args below meth c s₁ B hml hv
  obtain ⟨rfl, hsz, hP, hK, hD0⟩ := hv
  have hx := B.exec
  have hb := B.bytes
  have hr := B.returns
  have hts := atoms_spec (ws := us_X9_append) B.pre
  have hown : s.vm.findClass RX9 = some m.cls := findClass_of_methodNamed B.named
  have hlocks := B.notSynchronized
  subst hsz
  have hD := hD0.self (sz := s.heap.size)
  generalize hAe : va_A [(h0, .inr (9, [.ref h1, .int (nI k), .int a])), (h1, .inl (cB, 240, .inl f))] s.heap.size = A at hD ⊢
  have hA : ∀ q : Nat, s.heap.size ≤ q → A q := fun q h => by rw [← hAe]; exact Or.inr h
  have hS : va_S A s.heap s.heap [] := va_S.rf
  have hP : va_P (dC, dI) vwCl [(h0, .inr (9, [.ref h1, .int (nI k), .int a])), (h1, .inl (cB, 240, .inl f))] s.heap := hP
  have hl := lv_entry ([.ref h0, .int w]) (n := 4) (Nat.le_of_ble_eq_true rfl)
  rw [lg_entry_eq]
  generalize (lg_sl ([.ref h0, .int w]) ++ List.replicate (4 - (lg_sl ([.ref h0, .int w])).length) Slot.unset).toArray = ls at hl ⊢
  have hl : lv_has ls 4 [(0, .ref h0), (1, .int w)] := hl
  refine lv_bipush (v := 24) hx hb dX9_append_0 (by decide) ?_
  refine lv_istore_n (lv' := [(2, .int 24), (0, .ref h0), (1, .int w)]) hx hb dX9_append_2 rfl hl (by decide) rfl (fun ls hl => ?_)
  refine lp_append hx hb hts hown hK w 4 (Nat.le_refl 4) k hk f _ _ hP hD hS ls (lv_sub hl [1, 2, 0] rfl) (fun f H locs hP hD hS ls => ?_)
  have hP9 := hP
  have hD9 := hD
  refine W.widen (k := 0) (n := 0) (Nat.le_of_ble_eq_true rfl) (Nat.le_of_ble_eq_true rfl) ?_
  exact W.vret hx hb hr (fun t ht hW => ⟨⟨(), rfl, trivial, ⟨f, by rw [ht]; exact hP9, by first | exact hD9 | (rw [hAe]; exact hD9)⟩⟩, hS.F ht⟩) hS.2.2 dX9_append_56

set_option maxHeartbeats 4000000 in
theorem lp_bytesOf {p : Program} {l : Launch} {e : Env} {R : Room} {s : State} {m : MethodId} {args : Array Value} {below : List Frame} {meth : Method} {c : Code} {cells slots : Nat} {Q : State → Prop} {H : Heap} {locs : List Loc} (hx : p.tables.exec = Jvm.exec) (hb : c.code = cX12_bytesOf) (w : Int32) : ∀ (n : Nat), n ≤ 4 → ∀ (j : Nat), j + n = 4 → ∀ (ls : Array Slot), lv_has ls 3 [(0, .int w), (1, .int (nI (zn w j))), (2, .int (nI j))] → (∀ ls : Array Slot, lv_has ls 3 [(1, .int (nI (zn w 4)))] → W p l e R s m args below meth c H locs cells slots Q (F0 m 36 ls [])) → W p l e R s m args below meth c H locs cells slots Q (F0 m 4 ls []) := by
  intro n
  induction n with
  | zero =>
    intro _ j hj ls hl K
    obtain rfl : j = 4 := by omega
    refine lv_iload_n hx hb dX12_bytesOf_4 rfl (lv_at hl 2 rfl) ?_
    refine lv_iconst (v := 4) hx hb dX12_bytesOf_5 (by decide) ?_
    refine lv_icmp_ge (tgt := 36) hx hb dX12_bytesOf_6 (by decide) (fun _ => ?_) (fun c_0 => absurd (by decide) c_0)
    exact K ls (lv_sub hl [1] rfl)
  | succ n ih =>
    intro hn j hj ls hl K
    refine lv_iload_n hx hb dX12_bytesOf_4 rfl (lv_at hl 2 rfl) ?_
    refine lv_iconst (v := 4) hx hb dX12_bytesOf_5 (by decide) ?_
    refine lv_icmp_ge (tgt := 36) hx hb dX12_bytesOf_6 (by decide) (fun c_0 => absurd c_0 (nI_ge (b := 4) (by omega) (by omega))) (fun c_0 => ?_)
    refine lv_iload_n hx hb dX12_bytesOf_9 rfl (lv_at hl 1 rfl) ?_
    refine lv_iload_n hx hb dX12_bytesOf_10 rfl (lv_at hl 0 rfl) ?_
    refine lv_bipush (v := 8) hx hb dX12_bytesOf_11 (by decide) ?_
    refine lv_iload_n hx hb dX12_bytesOf_13 rfl (lv_at hl 2 rfl) ?_
    refine lv_imul hx hb dX12_bytesOf_14 ?_
    refine lv_topi (fun v_1 e_1 => ?_)
    refine lv_ishr hx hb dX12_bytesOf_15 ?_
    refine lv_topi (fun v_2 e_2 => ?_)
    refine lv_sipush (v := 255) hx hb dX12_bytesOf_16 (by decide) ?_
    refine lv_iand hx hb dX12_bytesOf_19 ?_
    refine lv_topi (fun v_3 e_3 => ?_)
    refine lv_if_ne (tgt := 27) hx hb dX12_bytesOf_20 (by decide) (fun c_4 => ?_) (fun c_4 => ?_)
    · refine lv_iconst (v := 1) hx hb dX12_bytesOf_27 (by decide) ?_
      refine lv_iadd hx hb dX12_bytesOf_28 ?_
      refine lv_topi (fun v_5 e_5 => ?_)
      refine lv_istore_n (lv' := [(1, .int v_5), (0, .int w), (2, .int (nI j))]) hx hb dX12_bytesOf_29 rfl hl (by decide) rfl (fun ls hl => ?_)
      obtain ⟨v_6, e_6⟩ : ∃ y : Int32, y = (nI j) + Int32.ofInt 1 := ⟨_, rfl⟩
      refine lv_iinc (v := v_6) (lv' := [(2, .int v_6), (1, .int v_5), (0, .int w)]) hx hb dX12_bytesOf_30 hl (k := 2) rfl e_6.symm (by decide) rfl (fun ls hl => ?_)
      refine lv_goto (tgt := 4) hx hb dX12_bytesOf_33 (by decide) ?_
      obtain rfl : v_6 = nI (j + 1) := by rw [e_6]; exact nI_1 j
      obtain rfl : v_5 = nI (zn w (j + 1)) := by rw [e_5]; exact (by rw [zn_1 (show ¬ zb w (j + 1) = 0 by rw [zb_zc w (by omega)]; unfold zc; rw [← zs_mul (by omega), ← e_1, ← e_2, ← e_3]; exact c_4), Nat.add_comm]; exact nI_1 _)
      exact ih (by omega) (j + 1) (by omega) ls (lv_sub hl [2, 1, 0] rfl) K
    · refine lv_iconst (v := 0) hx hb dX12_bytesOf_23 (by decide) ?_
      refine lv_goto (tgt := 28) hx hb dX12_bytesOf_24 (by decide) ?_
      refine lv_iadd hx hb dX12_bytesOf_28 ?_
      refine lv_topi (fun v_7 e_7 => ?_)
      refine lv_istore_n (lv' := [(1, .int v_7), (0, .int w), (2, .int (nI j))]) hx hb dX12_bytesOf_29 rfl hl (by decide) rfl (fun ls hl => ?_)
      obtain ⟨v_8, e_8⟩ : ∃ y : Int32, y = (nI j) + Int32.ofInt 1 := ⟨_, rfl⟩
      refine lv_iinc (v := v_8) (lv' := [(2, .int v_8), (1, .int v_7), (0, .int w)]) hx hb dX12_bytesOf_30 hl (k := 2) rfl e_8.symm (by decide) rfl (fun ls hl => ?_)
      refine lv_goto (tgt := 4) hx hb dX12_bytesOf_33 (by decide) ?_
      obtain rfl : v_8 = nI (j + 1) := by rw [e_8]; exact nI_1 j
      obtain rfl : v_7 = nI (zn w (j + 1)) := by rw [e_7]; exact (by rw [zn_0 (show zb w (j + 1) = 0 by rw [zb_zc w (by omega)]; unfold zc; rw [← zs_mul (by omega), ← e_1, ← e_2, ← e_3]; exact c_4)]; exact Int32.add_zero _)
      exact ih (by omega) (j + 1) (by omega) ls (lv_sub hl [2, 1, 0] rfl) K

def us_X12_bytesOf : List Cond := .code yX12_bytesOf cX12_bytesOf 3 (some .int) :: []
set_option maxHeartbeats 8000000 in
set_option maxRecDepth 100000 in
/-- bytesOf: how many bytes of a word are not 0 -/
theorem c_X12_bytesOf (l : Launch) (dC : Nat → ClassId) (dI : Nat → Nat → Nat) (sz : Nat) (w : Int32) : Met l yX12_bytesOf us_X12_bytesOf ({ frames := 0, cells := 0, slots := 0, locals := 0 }) (va_Pc [.int w] (fun U => U.heap.size = sz ∧ va_P (dC, dI) vwCl [] U.heap ∧ va_K (dC, dI) vwCl [] U ∧ va_D (fun _ => True) [])) (va_Qi (fun (r : Int32) (u : Unit) => r = nI (zn w 4)) (fun (u : Unit) (t : State) => True) (va_A [] sz)) 0 0 (va_A [] sz) := by
  refine Met.ofW (cc := cX12_bytesOf) (maxL := 3) (ret := (some .int)) (by decide) rfl ?_
  intro p e s m args below meth c s₁ B hml hv
  obtain ⟨rfl, hsz, hP, hK, hD0⟩ := hv
  have hx := B.exec
  have hb := B.bytes
  have hr := B.returns
  have hts := atoms_spec (ws := us_X12_bytesOf) B.pre
  have hown : s.vm.findClass RX12 = some m.cls := findClass_of_methodNamed B.named
  have hlocks := B.notSynchronized
  subst hsz
  have hD := hD0.self (sz := s.heap.size)
  generalize hAe : va_A [] s.heap.size = A at hD ⊢
  have hA : ∀ q : Nat, s.heap.size ≤ q → A q := fun q h => by rw [← hAe]; exact Or.inr h
  have hS : va_S A s.heap s.heap [] := va_S.rf
  have hP : va_P (dC, dI) vwCl [] s.heap := hP
  have hl := lv_entry ([.int w]) (n := 3) (Nat.le_of_ble_eq_true rfl)
  rw [lg_entry_eq]
  generalize (lg_sl ([.int w]) ++ List.replicate (3 - (lg_sl ([.int w])).length) Slot.unset).toArray = ls at hl ⊢
  have hl : lv_has ls 3 [(0, .int w)] := hl
  refine lv_iconst (v := 0) hx hb dX12_bytesOf_0 (by decide) ?_
  refine lv_istore_n (lv' := [(1, .int 0), (0, .int w)]) hx hb dX12_bytesOf_1 rfl hl (by decide) rfl (fun ls hl => ?_)
  refine lv_iconst (v := 0) hx hb dX12_bytesOf_2 (by decide) ?_
  refine lv_istore_n (lv' := [(2, .int 0), (1, .int 0), (0, .int w)]) hx hb dX12_bytesOf_3 rfl hl (by decide) rfl (fun ls hl => ?_)
  refine lp_bytesOf hx hb w 4 (Nat.le_refl 4) 0 rfl ls (lv_sub hl [2, 1, 0] rfl) (fun ls hl => ?_)
  refine lv_iload_n hx hb dX12_bytesOf_36 rfl (lv_at hl 0 rfl) ?_
  refine W.widen (k := 0) (n := 0) (Nat.le_of_ble_eq_true rfl) (Nat.le_of_ble_eq_true rfl) ?_
  exact W.iret (v := (nI (zn w 4))) hx hb hr (fun t ht hW => ⟨⟨(nI (zn w 4)), (), rfl, rfl, trivial⟩, hS.F ht⟩) hS.2.2 dX12_bytesOf_37

def us_X12_brings : List Cond := .code yX12_brings cX12_brings 4 none :: ([.fieldLink RX12 9 "CodeLifterModel" "tape" "[B", .fieldLink RX12 177 "CodeLifterModel" "length" "I"] ++ wsX120)
theorem ui_X12_brings_X12 : ∀ w ∈ wsX120, w ∈ us_X12_brings := fun _ h => List.mem_cons_of_mem _ (List.mem_append_right _ h)

set_option maxHeartbeats 4000000 in
theorem lp_brings {p : Program} {l : Launch} {e : Env} {R : Room} {s : State} {m : MethodId} {args : Array Value} {below : List Frame} {meth : Method} {c : Code} {cells slots : Nat} {Q : State → Prop} {dC : Nat → ClassId} {dI : Nat → Nat → Nat} {A : Nat → Prop} {H0 : Heap} {cB : ClassId} {h0 : Nat} {g : Nat → Nat} {nt a nc nh : Int32} (hx : p.tables.exec = Jvm.exec) (hb : c.code = cX12_brings) (hts : ∀ w ∈ us_X12_brings, w.before args s = true) (hown : s.vm.findClass RX12 = some m.cls) (hK : va_K (dC, dI) vwCl [(cB, .byte)] s) (w : Int32) : ∀ (n : Nat), n ≤ 4 → ∀ (k : Nat), k + n ≤ 240 → ∀ (f : Nat → Int32) (H : Heap) (locs : List Loc), va_P (dC, dI) vwCl [(h0, .inr (12, mF g nt (nI k) a nc nh)), ((g 0), .inl (cB, 240, .inl f))] H → va_D A [(h0, .inr (12, mF g nt (nI k) a nc nh)), ((g 0), .inl (cB, 240, .inl f))] → va_S A H0 H locs → ∀ (ls : Array Slot), lv_has ls 4 [(0, .ref h0), (1, .int w), (2, .int (zs n))] → (∀ (f : Nat → Int32) (H : Heap) (locs : List Loc), va_P (dC, dI) vwCl [(h0, .inr (12, mF g nt (nI (k + zn w n)) a nc nh)), ((g 0), .inl (cB, 240, .inl f))] H → va_D A [(h0, .inr (12, mF g nt (nI (k + zn w n)) a nc nh)), ((g 0), .inl (cB, 240, .inl f))] → va_S A H0 H locs → ∀ ls : Array Slot, W p l e R s m args below meth c H locs cells slots Q (F0 m 49 ls [])) → W p l e R s m args below meth c H locs cells slots Q (F0 m 3 ls []) := by
  intro n
  induction n with
  | zero =>
    intro _ k _ f H locs hP hD hS ls hl K
    refine lv_iload_n hx hb dX12_brings_3 rfl (lv_at hl 2 rfl) ?_
    refine lv_if_lt (tgt := 49) hx hb dX12_brings_4 (by decide) (fun _ => ?_) (fun c_0 => absurd (by decide) c_0)
    exact K f H locs hP hD hS ls
  | succ n ih =>
    intro hn k hk f H locs hP hD hS ls hl K
    have hn : n < 4 := hn
    refine lv_iload_n hx hb dX12_brings_3 rfl (lv_at hl 2 rfl) ?_
    refine lv_if_lt (tgt := 49) hx hb dX12_brings_4 (by decide) (fun c_0 => absurd c_0 (zs_nn hn)) (fun c_0 => ?_)
    refine lv_iload_n hx hb dX12_brings_7 rfl (lv_at hl 1 rfl) ?_
    refine lv_iload_n hx hb dX12_brings_8 rfl (lv_at hl 2 rfl) ?_
    refine lv_ishr hx hb dX12_brings_9 ?_
    refine lv_topi (fun v_1 e_1 => ?_)
    refine lv_sipush (v := 255) hx hb dX12_brings_10 (by decide) ?_
    refine lv_iand hx hb dX12_brings_13 ?_
    refine lv_topi (fun v_2 e_2 => ?_)
    refine lv_istore_n (lv' := [(3, .int v_2), (0, .ref h0), (1, .int w), (2, .int (zs (n + 1)))]) hx hb dX12_brings_14 rfl hl (by decide) rfl (fun ls hl => ?_)
    refine lv_iload_n hx hb dX12_brings_15 rfl (lv_at hl 0 rfl) ?_
    refine lv_if_ne (tgt := 22) hx hb dX12_brings_16 (by decide) (fun c_3 => ?_) (fun c_3 => ?_)
    · refine lv_aload_n hx hb dX12_brings_22 rfl (lv_at hl 1 rfl) ?_
      refine va_get (D := (dC, dI)) (ci := 12) (v := .ref (g 0)) (C := RX12) (T := TX12) (N := 87) hx hb hts ui_X12_brings_X12 hown hK hP 0 rfl rfl 1 (by decide) (hts (.fieldLink RX12 9 "CodeLifterModel" "tape" "[B") (by decide +kernel)) (fun _ h9 => h9) rfl dX12_brings_23 ?_
      refine lv_aload_n hx hb dX12_brings_26 rfl (lv_at hl 1 rfl) ?_
      refine va_get (D := (dC, dI)) (ci := 12) (v := .int (nI k)) (C := RX12) (T := TX12) (N := 87) hx hb hts ui_X12_brings_X12 hown hK hP 0 rfl rfl 2 (by decide) (hts (.fieldLink RX12 177 "CodeLifterModel" "length" "I") (by decide +kernel)) (fun _ h9 => h9) rfl dX12_brings_27 ?_
      refine lv_iload_n hx hb dX12_brings_30 rfl (lv_at hl 0 rfl) ?_
      refine lv_i2b hx hb dX12_brings_31 rfl ?_
      refine lv_topi (fun v_4 e_4 => ?_)
      refine va_bast hx hb hK hP hD hS 1 0 rfl rfl (vp_in_nI (by omega) (by omega)) dX12_brings_32 (fun H locs hP hD hS => ?_)
      generalize hf_5 : upd f _ _ = f_5 at hP hD
      have hP : va_P (dC, dI) vwCl [(h0, .inr (12, mF g nt (nI k) a nc nh)), ((g 0), .inl (cB, 240, .inl f_5))] H := hP
      have hD : va_D A [(h0, .inr (12, mF g nt (nI k) a nc nh)), ((g 0), .inl (cB, 240, .inl f_5))] := hD
      refine lv_aload_n hx hb dX12_brings_33 rfl (lv_at hl 1 rfl) ?_
      refine lv_dup hx hb dX12_brings_34 rfl ?_
      refine va_get (D := (dC, dI)) (ci := 12) (v := .int (nI k)) (C := RX12) (T := TX12) (N := 87) hx hb hts ui_X12_brings_X12 hown hK hP 0 rfl rfl 2 (by decide) (hts (.fieldLink RX12 177 "CodeLifterModel" "length" "I") (by decide +kernel)) (fun _ h9 => h9) rfl dX12_brings_35 ?_
      refine lv_iconst (v := 1) hx hb dX12_brings_38 (by decide) ?_
      refine lv_iadd hx hb dX12_brings_39 ?_
      refine lv_topi (fun v_6 e_6 => ?_)
      refine va_put (D := (dC, dI)) (ci := 12) (v := .int v_6) (ty := .int) (C := RX12) (T := TX12) (N := 87) hx hb hts ui_X12_brings_X12 tyX12 tyX12_ok nmX12 hown hK hP hD hS 0 rfl rfl 2 (by decide) (hts (.fieldLink RX12 177 "CodeLifterModel" "length" "I") (by decide +kernel)) (fun _ h9 => h9) rfl (by decide +kernel) rfl rfl (Nat.le_of_ble_eq_true rfl) dX12_brings_40 (fun H locs hP hD hS => ?_)
      have hP : va_P (dC, dI) vwCl [(h0, .inr (12, mF g nt v_6 a nc nh)), ((g 0), .inl (cB, 240, .inl f_5))] H := hP
      have hD : va_D A [(h0, .inr (12, mF g nt v_6 a nc nh)), ((g 0), .inl (cB, 240, .inl f_5))] := hD
      obtain ⟨v_7, e_7⟩ : ∃ y : Int32, y = (zs (n + 1)) + Int32.ofInt (-8) := ⟨_, rfl⟩
      refine lv_iinc (v := v_7) (lv' := [(2, .int v_7), (3, .int v_2), (0, .ref h0), (1, .int w)]) hx hb dX12_brings_43 hl (k := 3) rfl e_7.symm (by decide) rfl (fun ls hl => ?_)
      refine lv_goto (tgt := 3) hx hb dX12_brings_46 (by decide) ?_
      obtain rfl : v_7 = zs n := by rw [e_7]; exact zs_dec hn
      obtain rfl : v_6 = nI (k + 1) := by rw [e_6]; exact nI_1 k
      have hz : k + zn w (n + 1) = k + 1 + zn w n := by rw [zn_1 (show ¬ zb w (n + 1) = 0 by rw [zb_zc w hn]; unfold zc; rw [← e_1, ← e_2]; exact c_3)]; omega
      exact ih (by omega) (k + 1) (by omega) _ _ _ hP hD hS ls (lv_sub hl [2, 3, 0] rfl) (fun f H locs hP hD hS ls => K f H locs (by rw [hz]; exact hP) (by rw [hz]; exact hD) hS ls)
    · refine lv_goto (tgt := 43) hx hb dX12_brings_19 (by decide) ?_
      obtain ⟨v_8, e_8⟩ : ∃ y : Int32, y = (zs (n + 1)) + Int32.ofInt (-8) := ⟨_, rfl⟩
      refine lv_iinc (v := v_8) (lv' := [(2, .int v_8), (3, .int v_2), (0, .ref h0), (1, .int w)]) hx hb dX12_brings_43 hl (k := 3) rfl e_8.symm (by decide) rfl (fun ls hl => ?_)
      refine lv_goto (tgt := 3) hx hb dX12_brings_46 (by decide) ?_
      obtain rfl : v_8 = zs n := by rw [e_8]; exact zs_dec hn
      have hz : zn w (n + 1) = zn w n := zn_0 (show zb w (n + 1) = 0 by rw [zb_zc w hn]; unfold zc; rw [← e_1, ← e_2]; exact c_3)
      exact ih (by omega) k (by omega) _ _ _ hP hD hS ls (lv_sub hl [2, 3, 0] rfl) (fun f H locs hP hD hS ls => K f H locs (by rw [hz]; exact hP) (by rw [hz]; exact hD) hS ls)
set_option maxHeartbeats 8000000 in
set_option maxRecDepth 100000 in
/-- brings: as many bytes more as are not 0 -/
theorem c_X12_brings (l : Launch) (dC : Nat → ClassId) (dI : Nat → Nat → Nat) (sz : Nat) (h0 k : Nat) (g : Nat → Nat) (w nt a nc nh : Int32) (f : Nat → Int32) (cB : ClassId) (hk : k + 4 ≤ 240) : Met l yX12_brings us_X12_brings ({ frames := 0, cells := 0, slots := 0, locals := 0 }) (va_Pc [.ref h0, .int w] (fun U => U.heap.size = sz ∧ va_P (dC, dI) vwCl [(h0, .inr (12, mF g nt (nI k) a nc nh)), ((g 0), .inl (cB, 240, .inl f))] U.heap ∧ va_K (dC, dI) vwCl [(cB, .byte)] U ∧ va_D (fun _ => True) [(h0, .inr (12, mF g nt (nI k) a nc nh)), ((g 0), .inl (cB, 240, .inl f))])) (va_Qv (fun (u : Unit) => True) (fun (u : Unit) (t : State) => ∃ fn : Nat → Int32, va_P (dC, dI) vwCl [(h0, .inr (12, mF g nt (nI (k + zn w 4)) a nc nh)), ((g 0), .inl (cB, 240, .inl fn))] t.heap ∧ va_D (va_A [(h0, .inr (12, mF g nt (nI k) a nc nh)), ((g 0), .inl (cB, 240, .inl f))] sz) [(h0, .inr (12, mF g nt (nI (k + zn w 4)) a nc nh)), ((g 0), .inl (cB, 240, .inl fn))]) (va_A [(h0, .inr (12, mF g nt (nI k) a nc nh)), ((g 0), .inl (cB, 240, .inl f))] sz)) 0 0 (va_A [(h0, .inr (12, mF g nt (nI k) a nc nh)), ((g 0), .inl (cB, 240, .inl f))] sz) := by
  refine Met.ofW (cc := cX12_brings) (maxL := 4) (ret := none) (by decide) rfl ?_
  intro p e s m args below meth c s₁ B hml hv
  obtain ⟨rfl, hsz, hP, hK, hD0⟩ := hv
  have hx := B.exec
  have hb := B.bytes
  have hr := B.returns
  have hts := atoms_spec (ws := us_X12_brings) B.pre
  have hown : s.vm.findClass RX12 = some m.cls := findClass_of_methodNamed B.named
  have hlocks := B.notSynchronized
  subst hsz
  have hD := hD0.self (sz := s.heap.size)
  generalize hAe : va_A [(h0, .inr (12, mF g nt (nI k) a nc nh)), ((g 0), .inl (cB, 240, .inl f))] s.heap.size = A at hD ⊢
  have hA : ∀ q : Nat, s.heap.size ≤ q → A q := fun q h => by rw [← hAe]; exact Or.inr h
  have hS : va_S A s.heap s.heap [] := va_S.rf
  have hP : va_P (dC, dI) vwCl [(h0, .inr (12, mF g nt (nI k) a nc nh)), ((g 0), .inl (cB, 240, .inl f))] s.heap := hP
  have hl := lv_entry ([.ref h0, .int w]) (n := 4) (Nat.le_of_ble_eq_true rfl)
  rw [lg_entry_eq]
  generalize (lg_sl ([.ref h0, .int w]) ++ List.replicate (4 - (lg_sl ([.ref h0, .int w])).length) Slot.unset).toArray = ls at hl ⊢
  have hl : lv_has ls 4 [(0, .ref h0), (1, .int w)] := hl
  refine lv_bipush (v := 24) hx hb dX12_brings_0 (by decide) ?_
  refine lv_istore_n (lv' := [(2, .int 24), (0, .ref h0), (1, .int w)]) hx hb dX12_brings_2 rfl hl (by decide) rfl (fun ls hl => ?_)
  refine lp_brings hx hb hts hown hK w 4 (Nat.le_refl 4) k hk f _ _ hP hD hS ls (lv_sub hl [1, 2, 0] rfl) (fun f H locs hP hD hS ls => ?_)
  have hP9 := hP
  have hD9 := hD
  refine W.widen (k := 0) (n := 0) (Nat.le_of_ble_eq_true rfl) (Nat.le_of_ble_eq_true rfl) ?_
  exact W.vret hx hb hr (fun t ht hW => ⟨⟨(), rfl, trivial, ⟨f, by rw [ht]; exact hP9, by first | exact hD9 | (rw [hAe]; exact hD9)⟩⟩, hS.F ht⟩) hS.2.2 dX12_brings_49
