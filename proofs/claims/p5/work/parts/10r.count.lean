/-! how many bits: as the JDK counts them -/
theorem uN_and (x y : Int64) : uN (x &&& y) = uN x &&& uN y := UInt64.toNat_and _ _
theorem uN_sub {x y : Int64} (h : uN y ≤ uN x) : uN (x - y) = uN x - uN y := by
  show (x.toUInt64 - y.toUInt64).toNat = _
  exact UInt64.toNat_sub_of_le _ _ (UInt64.le_iff_toNat_le.mpr h)
theorem and_lh {x m M : Nat} (hm : m < 256) : x &&& (m + 256 * M) = (x % 256 &&& m) + 256 * (x / 256 &&& M) := by
  have a : (x &&& (m + 256 * M)) % 2 ^ 8 = x % 2 ^ 8 &&& (m + 256 * M) % 2 ^ 8 := Nat.and_mod_two_pow
  have b : (x &&& (m + 256 * M)) / 2 ^ 8 = x / 2 ^ 8 &&& (m + 256 * M) / 2 ^ 8 := Nat.and_div_two_pow
  rw [show (m + 256 * M) % 2 ^ 8 = m by omega] at a
  rw [show (m + 256 * M) / 2 ^ 8 = M by omega] at b
  have c : x % 2 ^ 8 = x % 256 := rfl
  have d : x / 2 ^ 8 = x / 256 := rfl
  rw [c] at a; rw [d] at b
  omega
def mkk (m : Nat) : Nat → Nat
  | 0 => 0
  | n + 1 => m + 256 * mkk m n
def pT1 (n a : Nat) : Nat := a - (a / 2 &&& mkk 0x55 n)
def pT2 (n a : Nat) : Nat := (a &&& mkk 0x33 n) + (a / 4 &&& mkk 0x33 n)
def pT3 (n a : Nat) : Nat := (a + a / 16) &&& mkk 0x0f n
theorem bits_1 : ∀ d, d < 256 → ∀ r, r < 2 → ((d / 2 + 128 * r) &&& 0x55 = d / 2 &&& 0x55) ∧ (d / 2 &&& 0x55) ≤ d := by decide +kernel
theorem bits_2 : ∀ d, d < 256 → ∀ r, r < 4 → ((d / 4 + 64 * r) &&& 0x33 = d / 4 &&& 0x33) ∧ (d &&& 0x33) + (d / 4 &&& 0x33) < 256 ∧ ((d &&& 0x33) + (d / 4 &&& 0x33)) % 16 ≤ 6 := by decide +kernel
theorem bits_3 : ∀ d, d < 256 → (fun e => (fun f => ((f + f / 16) % 16 = fb_ct (fun i => d.testBit i) 8) ∧ f % 16 ≤ 4 ∧ f / 16 ≤ 4 ∧ f < 256) ((e &&& 0x33) + (e / 4 &&& 0x33))) (d - (d / 2 &&& 0x55)) := by decide +kernel
theorem pT1_s (n a : Nat) : pT1 (n + 1) a = (a % 256 - (a % 256 / 2 &&& 0x55)) + 256 * pT1 n (a / 256) := by
  unfold pT1
  have b := bits_1 (a % 256) (by omega) (a / 256 % 2) (by omega)
  have e : a / 2 &&& mkk 0x55 (n + 1) = (a % 256 / 2 &&& 0x55) + 256 * (a / 256 / 2 &&& mkk 0x55 n) := by
    show a / 2 &&& (0x55 + 256 * mkk 0x55 n) = _
    rw [and_lh (by decide), show a / 2 % 256 = a % 256 / 2 + 128 * (a / 256 % 2) by omega, show a / 2 / 256 = a / 256 / 2 by omega, b.1]
  have l : a / 256 / 2 &&& mkk 0x55 n ≤ a / 256 / 2 := Nat.and_le_left
  rw [e]; omega
theorem pT2_s (n a : Nat) : pT2 (n + 1) a = ((a % 256 &&& 0x33) + (a % 256 / 4 &&& 0x33)) + 256 * pT2 n (a / 256) := by
  unfold pT2
  have b := bits_2 (a % 256) (by omega) (a / 256 % 4) (by omega)
  have e1 : a &&& mkk 0x33 (n + 1) = (a % 256 &&& 0x33) + 256 * (a / 256 &&& mkk 0x33 n) := and_lh (by decide)
  have e2 : a / 4 &&& mkk 0x33 (n + 1) = (a % 256 / 4 &&& 0x33) + 256 * (a / 256 / 4 &&& mkk 0x33 n) := by
    show a / 4 &&& (0x33 + 256 * mkk 0x33 n) = _
    rw [and_lh (by decide), show a / 4 % 256 = a % 256 / 4 + 64 * (a / 256 % 4) by omega, show a / 4 / 256 = a / 256 / 4 by omega, b.1]
  rw [e1, e2]; omega
/-- all three steps -/
def pT (n a : Nat) : Nat := pT3 n (pT2 n (pT1 n a))
theorem pT_lo (n a : Nat) : pT2 n (pT1 n a) % 16 ≤ 4 := by
  cases n with
  | zero => show ((pT1 0 a &&& 0) + (pT1 0 a / 4 &&& 0)) % 16 ≤ 4; simp
  | succ n =>
    have b := bits_3 (a % 256) (by omega)
    have h1 : (a % 256 - (a % 256 / 2 &&& 0x55)) < 256 := by omega
    rw [pT1_s, pT2_s, show ((a % 256 - (a % 256 / 2 &&& 0x55)) + 256 * pT1 n (a / 256)) % 256 = a % 256 - (a % 256 / 2 &&& 0x55) by omega]
    simp only [] at b
    omega
theorem pT_s (n a : Nat) : pT (n + 1) a = fb_ct (fun i => (a % 256).testBit i) 8 + 256 * pT n (a / 256) := by
  have b := bits_3 (a % 256) (by omega)
  simp only [] at b
  have lo := pT_lo n (a / 256)
  have h1 : (a % 256 - (a % 256 / 2 &&& 0x55)) < 256 := by omega
  have e1 : pT2 (n + 1) (pT1 (n + 1) a) = ((a % 256 - (a % 256 / 2 &&& 0x55) &&& 0x33) + ((a % 256 - (a % 256 / 2 &&& 0x55)) / 4 &&& 0x33)) + 256 * pT2 n (pT1 n (a / 256)) := by
    rw [pT1_s, pT2_s, show ((a % 256 - (a % 256 / 2 &&& 0x55)) + 256 * pT1 n (a / 256)) % 256 = a % 256 - (a % 256 / 2 &&& 0x55) by omega, show ((a % 256 - (a % 256 / 2 &&& 0x55)) + 256 * pT1 n (a / 256)) / 256 = pT1 n (a / 256) by omega]
  unfold pT
  rw [e1]
  generalize ((a % 256 - (a % 256 / 2 &&& 0x55) &&& 0x33) + ((a % 256 - (a % 256 / 2 &&& 0x55)) / 4 &&& 0x33)) = f at b ⊢
  generalize pT2 n (pT1 n (a / 256)) = g at lo ⊢
  obtain ⟨b1, b2, b3, b4⟩ := b
  unfold pT3
  have e : (f + 256 * g + (f + 256 * g) / 16) &&& mkk 0x0f (n + 1) = ((f + 256 * g + (f + 256 * g) / 16) % 256 &&& 0x0f) + 256 * ((f + 256 * g + (f + 256 * g) / 16) / 256 &&& mkk 0x0f n) := and_lh (by decide)
  rw [e, show (f + 256 * g + (f + 256 * g) / 16) / 256 = g + g / 16 by omega]
  have m : ((f + 256 * g + (f + 256 * g) / 16) % 256 &&& 0x0f) = (f + 256 * g + (f + 256 * g) / 16) % 256 % 16 := Nat.and_two_pow_sub_one_eq_mod _ 4
  have k1 : (f + 256 * g) / 16 = f / 16 + 16 * g := by omega
  have k2 : (f + 256 * g + (f + 256 * g) / 16) % 256 % 16 = (f + f / 16) % 16 := by rw [k1]; omega
  rw [m, k2, b1]
