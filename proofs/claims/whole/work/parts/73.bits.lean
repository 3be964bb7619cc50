/-! BITS: Int32 operations on small numbers as operations on Nat. -/
theorem zN_bv (a : Nat) : (Int32.ofNat a).toBitVec = BitVec.ofNat 32 a := rfl
theorem zN_and (a b : Nat) : Int32.ofNat a &&& Int32.ofNat b = Int32.ofNat (a &&& b) := by
  apply Int32.toBitVec_inj.mp
  rw [Int32.toBitVec_and, zN_bv, zN_bv, zN_bv]
  apply BitVec.eq_of_toNat_eq
  simp [BitVec.toNat_and, BitVec.toNat_ofNat, Nat.and_mod_two_pow]
theorem zN_or (a b : Nat) : Int32.ofNat a ||| Int32.ofNat b = Int32.ofNat (a ||| b) := by
  apply Int32.toBitVec_inj.mp
  rw [Int32.toBitVec_or, zN_bv, zN_bv, zN_bv]
  apply BitVec.eq_of_toNat_eq
  simp [BitVec.toNat_or, BitVec.toNat_ofNat, Nat.or_mod_two_pow]
theorem zN_xor (a b : Nat) : Int32.ofNat a ^^^ Int32.ofNat b = Int32.ofNat (a ^^^ b) := by
  apply Int32.toBitVec_inj.mp
  rw [Int32.toBitVec_xor, zN_bv, zN_bv, zN_bv]
  apply BitVec.eq_of_toNat_eq
  simp [BitVec.toNat_xor, BitVec.toNat_ofNat, Nat.xor_mod_two_pow]
theorem zN_sm : ∀ k, k < 32 → ((Int32.ofNat k &&& (31 : Int32)).toBitVec.smod 32).toNat = k := by decide +kernel
theorem zN_sr {a k : Nat} (ha : a < 2147483648) (hk : k < 32) : zsr (Int32.ofNat a) (Int32.ofNat k) = Int32.ofNat (a >>> k) := by
  unfold zsr
  apply Int32.toBitVec_inj.mp
  show BitVec.sshiftRight' (Int32.ofNat a).toBitVec ((Int32.ofNat k &&& (31 : Int32)).toBitVec.smod 32) = _
  unfold BitVec.sshiftRight'
  rw [zN_sm k hk, zN_bv, zN_bv]
  have hm : (BitVec.ofNat 32 a).msb = false := by
    rw [BitVec.msb_eq_false_iff_two_mul_lt, BitVec.toNat_ofNat, Nat.mod_eq_of_lt (by omega)]
    omega
  rw [BitVec.sshiftRight_eq_of_msb_false hm]
  apply BitVec.eq_of_toNat_eq
  rw [BitVec.toNat_ushiftRight, BitVec.toNat_ofNat, BitVec.toNat_ofNat, Nat.mod_eq_of_lt (by omega), Nat.mod_eq_of_lt]
  exact Nat.lt_of_le_of_lt (Nat.shiftRight_le _ _) (by omega)
theorem zN_sl1 : ∀ k, k < 31 → zsl (1 : Int32) (Int32.ofNat k) = Int32.ofNat (1 <<< k) := by decide +kernel
/-- a test of all numbers below a power of two, by halves -/
def zck (t : Nat → Bool) : Nat → Nat → Bool
  | 0, lo => t lo
  | d + 1, lo => zck t d lo && zck t d (lo + 2 ^ d)
theorem zck_ok (t : Nat → Bool) : ∀ (d lo : Nat), zck t d lo = true → ∀ x, lo ≤ x → x < lo + 2 ^ d → t x = true
  | 0, lo, h, x, h1, h2 => by
    have : x = lo := by rw [Nat.pow_zero] at h2; omega
    rw [this]; exact h
  | d + 1, lo, h, x, h1, h2 => by
    have h : (zck t d lo && zck t d (lo + 2 ^ d)) = true := h
    rw [Bool.and_eq_true] at h
    rw [Nat.pow_succ] at h2
    by_cases h3 : x < lo + 2 ^ d
    · exact zck_ok t d lo h.1 x h1 h3
    · exact zck_ok t d (lo + 2 ^ d) h.2 x (by omega) (by omega)
/-- how many of the n lowest bits -/
def zpc (x : Nat) : Nat → Nat
  | 0 => 0
  | n + 1 => zpc x n + ((x >>> n) &&& 1)
theorem zN_bits {x : Nat} (hx : x < 2147483648) : v_D_bits (Int32.ofNat x) = Int32.ofNat (zpc x 31) := by
  unfold v_D_bits
  have key : ∀ n, n ≤ 31 → zf_for n (f_D_bits_1 (Int32.ofNat x)) (0 : Int32) = Int32.ofNat (zpc x n) := by
    intro n
    induction n with
    | zero => intro _; rfl
    | succ n ih =>
      intro hn
      show f_D_bits_1 (Int32.ofNat x) n (zf_for n (f_D_bits_1 (Int32.ofNat x)) (0 : Int32)) = _
      rw [ih (by omega)]
      unfold f_D_bits_1
      rw [zN_sr hx (by omega), show ((1 : Int32)) = Int32.ofNat 1 from rfl, zN_and, ← Int32.ofNat_add]
      rfl
  exact key 31 (Nat.le_refl _)
