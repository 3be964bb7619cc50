/-! rows of the log, packed and not -/
theorem zl_ix : ∀ t, t < 60 → ∀ g, g < 60 → zrm (((Int32.ofNat t + (60 : Int32)) - (1 : Int32)) - Int32.ofNat g) (60 : Int32) = Int32.ofNat ((t + 59 - g) % 60) := by decide +kernel
theorem zl_dec {a0 a1 a2 a3 : Nat} (h0 : a0 ≤ 9999) (h1 : a1 ≤ 5) (h2 : a2 ≤ 3) (h3 : a3 ≤ 15) : zsr (((Int32.ofNat a0 * 8 + Int32.ofNat a1) * 4 + Int32.ofNat a2) * 16 + Int32.ofNat a3) (9 : Int32) = Int32.ofNat a0 ∧ (zsr (((Int32.ofNat a0 * 8 + Int32.ofNat a1) * 4 + Int32.ofNat a2) * 16 + Int32.ofNat a3) (6 : Int32)) &&& (7 : Int32) = Int32.ofNat a1 ∧ (zsr (((Int32.ofNat a0 * 8 + Int32.ofNat a1) * 4 + Int32.ofNat a2) * 16 + Int32.ofNat a3) (4 : Int32)) &&& (3 : Int32) = Int32.ofNat a2 ∧ (((Int32.ofNat a0 * 8 + Int32.ofNat a1) * 4 + Int32.ofNat a2) * 16 + Int32.ofNat a3) &&& (15 : Int32) = Int32.ofNat a3 := by
  have e : ((Int32.ofNat a0 * 8 + Int32.ofNat a1) * 4 + Int32.ofNat a2) * 16 + Int32.ofNat a3 = Int32.ofNat (((a0 * 8 + a1) * 4 + a2) * 16 + a3) := by
    rw [Int32.ofNat_add, Int32.ofNat_mul, Int32.ofNat_add, Int32.ofNat_mul, Int32.ofNat_add, Int32.ofNat_mul]
    rfl
  rw [e, show (9 : Int32) = Int32.ofNat 9 from rfl, show (6 : Int32) = Int32.ofNat 6 from rfl, show (4 : Int32) = Int32.ofNat 4 from rfl, show (7 : Int32) = Int32.ofNat 7 from rfl, show (3 : Int32) = Int32.ofNat 3 from rfl, show (15 : Int32) = Int32.ofNat 15 from rfl, zN_sr (by omega) (by omega), zN_sr (by omega) (by omega), zN_sr (by omega) (by omega), zN_and, zN_and, zN_and]
  rw [show (7 : Nat) = 2 ^ 3 - 1 from rfl, show (3 : Nat) = 2 ^ 2 - 1 from rfl, show (15 : Nat) = 2 ^ 4 - 1 from rfl]
  simp only [Nat.shiftRight_eq_div_pow, Nat.and_two_pow_sub_one_eq_mod]
  refine ⟨congrArg _ ?_, congrArg _ ?_, congrArg _ ?_, congrArg _ ?_⟩
  · show (((a0 * 8 + a1) * 4 + a2) * 16 + a3) / 512 = a0
    omega
  · show (((a0 * 8 + a1) * 4 + a2) * 16 + a3) / 64 % 8 = a1
    omega
  · show (((a0 * 8 + a1) * 4 + a2) * 16 + a3) / 16 % 4 = a2
    omega
  · show (((a0 * 8 + a1) * 4 + a2) * 16 + a3) % 16 = a3
    omega
