theorem bL_uN (x : Int64) (i : Nat) : bL x i = (uN x).testBit i := rfl
theorem bitc (x : Int64) : f_J13_bitCount_95d88 x = some (nI (fb_ct (bL x) 64)) := by
  have s1 : ((1 : Int32).toInt64.toUInt64 &&& Int64.toUInt64 63).toNat % 64 = 1 := by decide
  have s2 : ((2 : Int32).toInt64.toUInt64 &&& Int64.toUInt64 63).toNat % 64 = 2 := by decide
  have s4 : ((4 : Int32).toInt64.toUInt64 &&& Int64.toUInt64 63).toNat % 64 = 4 := by decide
  have s8 : ((8 : Int32).toInt64.toUInt64 &&& Int64.toUInt64 63).toNat % 64 = 8 := by decide
  have s16 : ((16 : Int32).toInt64.toUInt64 &&& Int64.toUInt64 63).toNat % 64 = 16 := by decide
  have s32 : ((32 : Int32).toInt64.toUInt64 &&& Int64.toUInt64 63).toNat % 64 = 32 := by decide
  have m5 : uN 6148914691236517205 = mkk 0x55 8 := by decide +kernel
  have m3 : uN 3689348814741910323 = mkk 0x33 8 := by decide +kernel
  have mf : uN 1085102592571150095 = mkk 0x0f 8 := by decide +kernel
  obtain ⟨c0, c1, c2, c3, c4, c5, c6, c7, x1, x2, x3, x4, x5, x6, x7, P, g1, g2, g3, g4, g5, g6, g7, C, l0, l1, l2, l3, l4, l5, l6, l7⟩ := pT_8 (uN x)
  obtain ⟨y, z, w, ey, ez, ew, hy, hz, hw, hm⟩ := pc_end P g1 g2 g3 g4 g5 g6 g7 l0 l1 l2 l3 l4 l5 l6 l7
  have hx := uN_lt x
  clear g1 g2 g3 g4 g5 g6 g7 P
  unfold f_J13_bitCount_95d88 lt
  generalize e1 : x - (((x.toUInt64 >>> ((1 : Int32).toInt64.toUInt64 &&& Int64.toUInt64 63)).toInt64) &&& 6148914691236517205) = x1
  have u1 : uN x1 = pT1 8 (uN x) := by
    have q : uN (((x.toUInt64 >>> ((1 : Int32).toInt64.toUInt64 &&& Int64.toUInt64 63)).toInt64) &&& 6148914691236517205) = uN x / 2 &&& mkk 0x55 8 := by rw [uN_and, uN_shr, s1, m5]
    have l : uN x / 2 &&& mkk 0x55 8 ≤ uN x / 2 := Nat.and_le_left
    rw [← e1, uN_sub (by rw [q]; omega), q]; rfl
  have b1 : uN x1 < 2 ^ 64 := uN_lt x1
  generalize e2 : (x1 &&& 3689348814741910323) + (((x1.toUInt64 >>> ((2 : Int32).toInt64.toUInt64 &&& Int64.toUInt64 63)).toInt64) &&& 3689348814741910323) = x2
  have u2 : uN x2 = pT2 8 (pT1 8 (uN x)) := by
    have n3 : mkk 0x33 8 = 3689348814741910323 := by decide
    have la : uN x1 &&& mkk 0x33 8 ≤ mkk 0x33 8 := Nat.and_le_right
    have lb : uN x1 / 4 &&& mkk 0x33 8 ≤ mkk 0x33 8 := Nat.and_le_right
    rw [← e2, uN_add, uN_and, uN_and, uN_shr, s2, m3, Nat.mod_eq_of_lt (by rw [show (2 : Nat) ^ 2 = 4 from rfl]; omega), u1]; rfl
  have b2 : uN x2 ≤ 2 * 3689348814741910323 := by
    rw [u2]
    have n3 : mkk 0x33 8 = 3689348814741910323 := by decide
    have la : pT1 8 (uN x) &&& mkk 0x33 8 ≤ mkk 0x33 8 := Nat.and_le_right
    have lb : pT1 8 (uN x) / 4 &&& mkk 0x33 8 ≤ mkk 0x33 8 := Nat.and_le_right
    unfold pT2; omega
  generalize e3 : (x2 + ((x2.toUInt64 >>> ((4 : Int32).toInt64.toUInt64 &&& Int64.toUInt64 63)).toInt64)) &&& 1085102592571150095 = x3
  have u3 : uN x3 = pT 8 (uN x) := by
    rw [← e3, uN_and, uN_add, uN_shr, s4, mf, Nat.mod_eq_of_lt (by rw [show (2 : Nat) ^ 4 = 16 from rfl]; omega), u2]; rfl
  generalize e4 : x3 + ((x3.toUInt64 >>> ((8 : Int32).toInt64.toUInt64 &&& Int64.toUInt64 63)).toInt64) = x4
  have u4 : uN x4 = y := by
    rw [← e4, uN_add, uN_shr, s8, u3, show (2 : Nat) ^ 8 = 256 from rfl, ← ey]; exact Nat.mod_eq_of_lt hy
  generalize e5 : x4 + ((x4.toUInt64 >>> ((16 : Int32).toInt64.toUInt64 &&& Int64.toUInt64 63)).toInt64) = x5
  have u5 : uN x5 = z := by
    rw [← e5, uN_add, uN_shr, s16, u4, show (2 : Nat) ^ 16 = 65536 from rfl, ← ez]; exact Nat.mod_eq_of_lt hz
  generalize e6 : x5 + ((x5.toUInt64 >>> ((32 : Int32).toInt64.toUInt64 &&& Int64.toUInt64 63)).toInt64) = x6
  have u6 : uN x6 = w := by
    rw [← e6, uN_add, uN_shr, s32, u5, show (2 : Nat) ^ 32 = 4294967296 from rfl, ← ew]; exact Nat.mod_eq_of_lt hw
  have fin : x6.toInt32 &&& 127 = nI (fb_ct (bL x) 64) := by
    apply Int32.toBitVec_inj.mp
    apply BitVec.eq_of_toNat_eq
    have a : (x6.toInt32 &&& 127).toBitVec.toNat = uN x6 % 2 ^ 32 &&& 127 := by
      show ((x6.toBitVec.signExtend 32) &&& 127#32).toNat = _
      rw [BitVec.toNat_and, BitVec.signExtend_eq_setWidth_of_le _ (by decide), BitVec.toNat_setWidth]; rfl
    have b : (nI (fb_ct (bL x) 64)).toBitVec.toNat = fb_ct (bL x) 64 := by
      show (BitVec.ofNat 32 _).toNat = _
      rw [BitVec.toNat_ofNat]; have := fb_ct_le (bL x) 64; omega
    have c : fb_ct (bL x) 64 = c0 + c1 + c2 + c3 + c4 + c5 + c6 + c7 := C
    have d : uN x6 % 2 ^ 32 &&& 127 = uN x6 % 2 ^ 32 % 128 := Nat.and_two_pow_sub_one_eq_mod _ 7
    rw [a, b, c, d, u6]; omega
  subst e6; subst e5; subst e4; subst e3; subst e2; subst e1
  exact congrArg some fin
/-! the lowest bit: as the JDK finds it -/
theorem lowb {a t : Nat} (ht : a.testBit t = true) (hl : ∀ i, i < t → a.testBit i = false) (i : Nat) : (a - 1).testBit i = (decide (i < t) || (decide (t < i) && a.testBit i)) := by
  have h0 : a % 2 ^ t = 0 := by
    apply Nat.eq_of_testBit_eq
    intro j
    rw [Nat.testBit_mod_two_pow, Nat.zero_testBit]
    by_cases q : j < t
    · rw [hl j q]; simp
    · simp [q]
  have h1 : a = 2 ^ t * (a / 2 ^ t) := by have := Nat.div_add_mod a (2 ^ t); omega
  have h2 : (a / 2 ^ t) % 2 = 1 := by
    have e : (a / 2 ^ t).testBit 0 = a.testBit t := by rw [Nat.testBit_div_two_pow, Nat.zero_add]
    rw [ht, Nat.testBit_zero] at e
    simpa using e
  obtain ⟨q, hq⟩ : ∃ q, a / 2 ^ t = 2 * q + 1 := ⟨a / 2 ^ t / 2, by omega⟩
  have hp : 0 < 2 ^ t := Nat.two_pow_pos t
  have h3 : a - 1 = 2 ^ t * (2 * q) + (2 ^ t - 1) := by rw [hq, Nat.mul_add, Nat.mul_one] at h1; omega
  rw [h3, Nat.testBit_two_pow_mul_add _ (by omega), Nat.testBit_two_pow_sub_one]
  by_cases c : i < t
  · simp [c]
  · rw [if_neg c]
    by_cases c2 : i = t
    · subst c2; simp
    · have e : a.testBit i = (2 * q + 1).testBit (i - t) := by
        rw [← hq, Nat.testBit_div_two_pow, show i - t + t = i by omega]
      obtain ⟨m, hm⟩ : ∃ m, i - t = m + 1 := ⟨i - t - 1, by omega⟩
      rw [e, hm, Nat.testBit_succ, Nat.testBit_succ, show 2 * q / 2 = q by omega, show (2 * q + 1) / 2 = q by omega]
      simp [c, show t < i by omega]
theorem ntz6_g : ∀ t, t < 32 → f_J6_numberOfTrailingZeros_0f7a4 (nI (2 ^ t)) = some (nI t) := by decide +kernel
theorem tb_two {t i : Nat} : (2 ^ t).testBit i = decide (t = i) := Nat.testBit_two_pow
theorem ntz6 {x : Int32} {t : Nat} (h32 : t < 32) (ht : x.toBitVec.getLsbD t = true) (hl : ∀ i, i < t → x.toBitVec.getLsbD i = false) : f_J6_numberOfTrailingZeros_0f7a4 x = some (nI t) := by
  rw [← ntz6_g t h32]
  have key : ∀ y : Int32, y.toBitVec.getLsbD t = true → (∀ i, i < t → y.toBitVec.getLsbD i = false) → ∀ i, i < 32 → ((y ^^^ (-1)) &&& (y - 1)).toBitVec.getLsbD i = decide (i < t) := by
    intro y h1 h2 i hi
    have a1 : y.toBitVec.toNat.testBit t = true := h1
    have a2 : ∀ j, j < t → y.toBitVec.toNat.testBit j = false := h2
    have pos : 1 ≤ y.toBitVec.toNat := by
      rcases Nat.eq_zero_or_pos y.toBitVec.toNat with z | z
      · rw [z, Nat.zero_testBit] at a1; exact absurd a1 (by decide)
      · exact z
    have e1 : (y - 1).toBitVec.toNat = y.toBitVec.toNat - 1 := by
      show (y.toBitVec - 1#32).toNat = _
      have hlt := y.toBitVec.isLt
      rw [BitVec.toNat_sub]; simp; omega
    have e2 : (y - 1).toBitVec.getLsbD i = (y.toBitVec.toNat - 1).testBit i := by
      show (y - 1).toBitVec.toNat.testBit i = _
      rw [e1]
    have e3 : (y ^^^ (-1)).toBitVec.getLsbD i = !(y.toBitVec.toNat.testBit i) := by
      show (y.toBitVec ^^^ BitVec.allOnes 32).getLsbD i = _
      rw [BitVec.getLsbD_xor, BitVec.getLsbD_allOnes]; simp [hi]; rfl
    show ((y ^^^ (-1)).toBitVec &&& (y - 1).toBitVec).getLsbD i = _
    rw [BitVec.getLsbD_and, e2, e3, lowb a1 a2]
    by_cases c : i < t
    · rw [a2 i c]; simp [c]
    · by_cases c2 : i = t
      · subst c2; rw [a1]; simp
      · cases y.toBitVec.toNat.testBit i <;> simp [c]
  have same : (x ^^^ (-1)) &&& (x - 1) = (nI (2 ^ t) ^^^ (-1)) &&& (nI (2 ^ t) - 1) := by
    apply Int32.toBitVec_inj.mp
    apply BitVec.eq_of_getLsbD_eq
    intro i hi
    have hb : ∀ j, j < 32 → (nI (2 ^ t)).toBitVec.getLsbD j = decide (t = j) := fun j hj => by
      show (BitVec.ofNat 32 (2 ^ t)).getLsbD j = _
      rw [BitVec.getLsbD_ofNat, tb_two]; simp [hj]
    rw [key x ht hl i hi, key (nI (2 ^ t)) (by rw [hb t h32]; simp) (fun j hj => by rw [hb j (by omega)]; simp; omega) i hi]
  unfold f_J6_numberOfTrailingZeros_0f7a4
  rw [same]
theorem ntzL {x : Int64} {p : Nat} (h64 : p < 64) (hp : bL x p = true) (hl : ∀ i, i < p → bL x i = false) : f_J13_numberOfTrailingZeros_95d88 x = some (nI p) := by
  have b1 : ∀ i, i < 32 → x.toInt32.toBitVec.getLsbD i = bL x i := fun i hi => by
    show (x.toBitVec.signExtend 32).getLsbD i = _
    rw [BitVec.signExtend_eq_setWidth_of_le _ (by decide), BitVec.getLsbD_setWidth]; simp [hi]; rfl
  have b2 : ∀ i, i < 32 → ((x.toUInt64 >>> ((32 : Int32).toInt64.toUInt64 &&& Int64.toUInt64 63)).toInt64).toInt32.toBitVec.getLsbD i = bL x (32 + i) := fun i hi => by
    have q : (((x.toUInt64 >>> ((32 : Int32).toInt64.toUInt64 &&& Int64.toUInt64 63)).toInt64).toBitVec.signExtend 32).getLsbD i = (uN (x.toUInt64 >>> ((32 : Int32).toInt64.toUInt64 &&& Int64.toUInt64 63)).toInt64).testBit i := by
      rw [BitVec.signExtend_eq_setWidth_of_le _ (by decide), BitVec.getLsbD_setWidth, decide_eq_true hi, Bool.true_and]; rfl
    show (((x.toUInt64 >>> ((32 : Int32).toInt64.toUInt64 &&& Int64.toUInt64 63)).toInt64).toBitVec.signExtend 32).getLsbD i = _
    rw [q, uN_s32, show (4294967296 : Nat) = 2 ^ 32 from rfl, Nat.testBit_div_two_pow, Nat.add_comm]; rfl
  unfold f_J13_numberOfTrailingZeros_95d88 lt
  by_cases c : p < 32
  · have ne : ¬ x.toInt32 = 0 := fun z => by
      have := b1 p c; rw [z, hp] at this
      exact absurd this (by rw [show (0 : Int32).toBitVec = 0#32 from rfl, BitVec.getLsbD_zero]; decide)
    show (if x.toInt32 = 0 then _ else _) = _
    rw [if_neg ne]
    rw [ntz6 c (by rw [b1 p c]; exact hp) (fun i hi => by rw [b1 i (by omega)]; exact hl i hi)]
    rfl
  · have z : x.toInt32 = 0 := by
      apply Int32.toBitVec_inj.mp
      apply BitVec.eq_of_getLsbD_eq
      intro i hi
      rw [b1 i hi, hl i (by omega), show (0 : Int32).toBitVec = 0#32 from rfl, BitVec.getLsbD_zero]
    show (if x.toInt32 = 0 then _ else _) = _
    rw [if_pos z]
    rw [ntz6 (t := p - 32) (by omega) (by rw [b2 _ (by omega), show 32 + (p - 32) = p by omega]; exact hp) (fun i hi => by rw [b2 i (by omega)]; exact hl _ (by omega))]
    show some ((32 : Int32) + nI (p - 32)) = _
    have : ∀ k, k < 32 → (32 : Int32) + nI k = nI (32 + k) := by decide +kernel
    rw [this _ (by omega), show 32 + (p - 32) = p by omega]
theorem clrL {x : Int64} {p : Nat} (h64 : p < 64) (hp : bL x p = true) (hl : ∀ i, i < p → bL x i = false) (i : Nat) (hi : i < 64) : bL (x &&& (x - 1)) i = (bL x i && decide (i ≠ p)) := by
  have a1 : (uN x).testBit p = true := hp
  have a2 : ∀ j, j < p → (uN x).testBit j = false := hl
  have pos : 1 ≤ uN x := by
    rcases Nat.eq_zero_or_pos (uN x) with z | z
    · rw [z, Nat.zero_testBit] at a1; exact absurd a1 (by decide)
    · exact z
  have e1 : uN (x - 1) = uN x - 1 := uN_sub (y := 1) pos
  rw [bL_and, bL_uN (x - 1), e1, lowb a1 a2, bL_uN]
  by_cases c : i < p
  · rw [a2 i c]; simp
  · by_cases c2 : i = p
    · subst c2; simp
    · cases (uN x).testBit i <;> simp [c, c2] <;> omega
/-- the lowest bit of those that are set -/
theorem lowL {x : Int64} {n : Nat} (h : 0 < fb_ct (bL x) n) : ∃ p, p < n ∧ bL x p = true ∧ ∀ i, i < p → bL x i = false := by
  obtain ⟨k, hk, hb⟩ := fb_ct_pos.mp h
  have a := fsP_le (bL x) n
  have b : fsP (bL x) n < n := by
    rcases Nat.lt_or_ge (fsP (bL x) n) n with z | z
    · exact z
    · have := fsP_no (p := bL x) (n := n) (i := k) (by omega)
      rw [hb] at this; exact absurd this (by decide)
  exact ⟨_, b, fsP_lt b, fun i hi => fsP_no hi⟩
theorem clr_ct {x : Int64} {p : Nat} (h64 : p < 64) (hp : bL x p = true) (hl : ∀ i, i < p → bL x i = false) : fb_ct (bL (x &&& (x - 1))) 64 + 1 = fb_ct (bL x) 64 := by
  have e := fb_ct_upd (bL x) false (i := p) (n := 64) h64
  have c : fb_ct (fun k => if k = p then false else bL x k) 64 = fb_ct (bL (x &&& (x - 1))) 64 := fb_ct_cong (fun k hk => by
    rw [clrL h64 hp hl k hk]
    by_cases q : k = p
    · simp [q]
    · simp [q])
  rw [c, hp] at e
  simp at e
  omega
/-- with one more set -/
theorem set_ct {x : Int64} {v : Int32} {n : Nat} (h0 : 0 ≤ v.toInt) (h1 : v.toInt < 64) (hn : v.toNatClampNeg < n) (hf : bL x v.toNatClampNeg = false) : fb_ct (bL (x ||| ((1 : Int64) <<< (v.toInt64 &&& 63)))) n = fb_ct (bL x) n + 1 := by
  have e := fb_ct_upd (bL x) true (i := v.toNatClampNeg) (n := n) hn
  have c : fb_ct (fun k => if k = v.toNatClampNeg then true else bL x k) n = fb_ct (bL (x ||| ((1 : Int64) <<< (v.toInt64 &&& 63)))) n := fb_ct_cong (fun k hk => by
    rw [bL_set h0 h1]
    by_cases q : k = v.toNatClampNeg
    · simp [q]
    · simp [q])
  rw [c, hf] at e
  simp at e
  omega
