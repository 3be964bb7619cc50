/-! BIT COUNTS: Integer.bitCount and the reference's bits are one, below 65536. -/
theorem zN_um : ∀ k, k < 32 → ((((Int32.ofNat k).toUInt32 &&& Int32.toUInt32 31) % 32).toBitVec).toNat = k := by decide +kernel
theorem zN_us {a k : Nat} (ha : a < 4294967296) (hk : k < 32) : zus (Int32.ofNat a) (Int32.ofNat k) = Int32.ofNat (a >>> k) := by
  unfold zus
  apply Int32.toBitVec_inj.mp
  show (Int32.ofNat a).toBitVec >>> ((((Int32.ofNat k).toUInt32 &&& Int32.toUInt32 31) % 32).toBitVec) = _
  rw [BitVec.ushiftRight_eq', zN_um k hk, zN_bv, zN_bv]
  apply BitVec.eq_of_toNat_eq
  rw [BitVec.toNat_ushiftRight, BitVec.toNat_ofNat, BitVec.toNat_ofNat, Nat.mod_eq_of_lt (by omega), Nat.mod_eq_of_lt]
  exact Nat.lt_of_le_of_lt (Nat.shiftRight_le _ _) (by omega)
theorem zN_sub {a b : Nat} (h : b ≤ a) : Int32.ofNat a - Int32.ofNat b = Int32.ofNat (a - b) := by
  rw [Int32.sub_eq_iff_eq_add, ← Int32.ofNat_add, Nat.sub_add_cancel h]
def zb1 (x : Int32) : Int32 := x - ((zus x (1 : Int32)) &&& (1431655765 : Int32))
def zb2 (x : Int32) : Int32 := (x &&& (858993459 : Int32)) + ((zus x (2 : Int32)) &&& (858993459 : Int32))
def zb3 (x : Int32) : Int32 := (x + (zus x (4 : Int32))) &&& (252645135 : Int32)
def zb4 (x : Int32) : Int32 := x + (zus x (8 : Int32))
def zb5 (x : Int32) : Int32 := x + (zus x (16 : Int32))
theorem zbc_all (x : Int32) : v_ji_bitCount x = (zb5 (zb4 (zb3 (zb2 (zb1 x))))) &&& (63 : Int32) := rfl
def zn1 (x : Nat) : Nat := x - ((x >>> 1) &&& 1431655765)
def zn2 (x : Nat) : Nat := (x &&& 858993459) + ((x >>> 2) &&& 858993459)
def zn3 (x : Nat) : Nat := (x + (x >>> 4)) &&& 252645135
def zn4 (x : Nat) : Nat := x + (x >>> 8)
def zn5 (x : Nat) : Nat := x + (x >>> 16)
theorem zn_sr (x k : Nat) : x >>> k ≤ x := Nat.shiftRight_le _ _
theorem zn_an (x k : Nat) : x &&& k ≤ x := Nat.and_le_left
theorem zb1_n {x : Nat} (h : x < 4294967296) : zb1 (Int32.ofNat x) = Int32.ofNat (zn1 x) := by
  unfold zb1 zn1
  rw [show (1 : Int32) = Int32.ofNat 1 from rfl, zN_us h (by omega), show (1431655765 : Int32) = Int32.ofNat 1431655765 from rfl, zN_and, zN_sub]
  have h1 := zn_sr x 1
  have h2 := zn_an (x >>> 1) 1431655765
  omega
theorem zb2_n {x : Nat} (h : x < 4294967296) : zb2 (Int32.ofNat x) = Int32.ofNat (zn2 x) := by
  unfold zb2 zn2
  rw [show (2 : Int32) = Int32.ofNat 2 from rfl, zN_us h (by omega), show (858993459 : Int32) = Int32.ofNat 858993459 from rfl, zN_and, zN_and, ← Int32.ofNat_add]
theorem zb3_n {x : Nat} (h : x < 4294967296) : zb3 (Int32.ofNat x) = Int32.ofNat (zn3 x) := by
  unfold zb3 zn3
  rw [show (4 : Int32) = Int32.ofNat 4 from rfl, zN_us h (by omega), show (252645135 : Int32) = Int32.ofNat 252645135 from rfl, ← Int32.ofNat_add, zN_and]
theorem zb4_n {x : Nat} (h : x < 4294967296) : zb4 (Int32.ofNat x) = Int32.ofNat (zn4 x) := by
  unfold zb4 zn4
  rw [show (8 : Int32) = Int32.ofNat 8 from rfl, zN_us h (by omega), ← Int32.ofNat_add]
theorem zb5_n {x : Nat} (h : x < 4294967296) : zb5 (Int32.ofNat x) = Int32.ofNat (zn5 x) := by
  unfold zb5 zn5
  rw [show (16 : Int32) = Int32.ofNat 16 from rfl, zN_us h (by omega), ← Int32.ofNat_add]
theorem zN_bc {x : Nat} (hx : x < 65536) : v_ji_bitCount (Int32.ofNat x) = Int32.ofNat ((zn5 (zn4 (zn3 (zn2 (zn1 x))))) &&& 63) := by
  have e1 : zn1 x ≤ x := Nat.sub_le _ _
  have e2 : zn2 (zn1 x) ≤ zn1 x + zn1 x := by
    have a := zn_an (zn1 x) 858993459
    have b := zn_an (zn1 x >>> 2) 858993459
    have c := zn_sr (zn1 x) 2
    show (zn1 x &&& 858993459) + ((zn1 x >>> 2) &&& 858993459) ≤ _
    omega
  have e3 : zn3 (zn2 (zn1 x)) ≤ zn2 (zn1 x) + zn2 (zn1 x) := by
    have a := zn_an (zn2 (zn1 x) + (zn2 (zn1 x) >>> 4)) 252645135
    have c := zn_sr (zn2 (zn1 x)) 4
    show (zn2 (zn1 x) + (zn2 (zn1 x) >>> 4)) &&& 252645135 ≤ _
    omega
  have e4 : zn4 (zn3 (zn2 (zn1 x))) ≤ zn3 (zn2 (zn1 x)) + zn3 (zn2 (zn1 x)) := by
    have c := zn_sr (zn3 (zn2 (zn1 x))) 8
    show zn3 (zn2 (zn1 x)) + (zn3 (zn2 (zn1 x)) >>> 8) ≤ _
    omega
  rw [zbc_all, zb1_n (by omega), zb2_n (by omega), zb3_n (by omega), zb4_n (by omega), zb5_n (by omega), show (63 : Int32) = Int32.ofNat 63 from rfl, zN_and]
def zct (x : Nat) : Bool := Nat.beq ((zn5 (zn4 (zn3 (zn2 (zn1 x))))) &&& 63) (zpc x 16)
theorem zct_0 : zck zct 12 0 = true := by decide +kernel
theorem zct_1 : zck zct 12 4096 = true := by decide +kernel
theorem zct_2 : zck zct 12 8192 = true := by decide +kernel
theorem zct_3 : zck zct 12 12288 = true := by decide +kernel
theorem zct_4 : zck zct 12 16384 = true := by decide +kernel
theorem zct_5 : zck zct 12 20480 = true := by decide +kernel
theorem zct_6 : zck zct 12 24576 = true := by decide +kernel
theorem zct_7 : zck zct 12 28672 = true := by decide +kernel
theorem zct_8 : zck zct 12 32768 = true := by decide +kernel
theorem zct_9 : zck zct 12 36864 = true := by decide +kernel
theorem zct_10 : zck zct 12 40960 = true := by decide +kernel
theorem zct_11 : zck zct 12 45056 = true := by decide +kernel
theorem zct_12 : zck zct 12 49152 = true := by decide +kernel
theorem zct_13 : zck zct 12 53248 = true := by decide +kernel
theorem zct_14 : zck zct 12 57344 = true := by decide +kernel
theorem zct_15 : zck zct 12 61440 = true := by decide +kernel
theorem zct_ok {x : Nat} (h : x < 65536) : zct x = true := by
  by_cases h0 : x < 4096
  · exact zck_ok zct 12 0 zct_0 x (by omega) (by show x < 0 + 4096; omega)
  by_cases h1 : x < 8192
  · exact zck_ok zct 12 4096 zct_1 x (by omega) (by show x < 4096 + 4096; omega)
  by_cases h2 : x < 12288
  · exact zck_ok zct 12 8192 zct_2 x (by omega) (by show x < 8192 + 4096; omega)
  by_cases h3 : x < 16384
  · exact zck_ok zct 12 12288 zct_3 x (by omega) (by show x < 12288 + 4096; omega)
  by_cases h4 : x < 20480
  · exact zck_ok zct 12 16384 zct_4 x (by omega) (by show x < 16384 + 4096; omega)
  by_cases h5 : x < 24576
  · exact zck_ok zct 12 20480 zct_5 x (by omega) (by show x < 20480 + 4096; omega)
  by_cases h6 : x < 28672
  · exact zck_ok zct 12 24576 zct_6 x (by omega) (by show x < 24576 + 4096; omega)
  by_cases h7 : x < 32768
  · exact zck_ok zct 12 28672 zct_7 x (by omega) (by show x < 28672 + 4096; omega)
  by_cases h8 : x < 36864
  · exact zck_ok zct 12 32768 zct_8 x (by omega) (by show x < 32768 + 4096; omega)
  by_cases h9 : x < 40960
  · exact zck_ok zct 12 36864 zct_9 x (by omega) (by show x < 36864 + 4096; omega)
  by_cases h10 : x < 45056
  · exact zck_ok zct 12 40960 zct_10 x (by omega) (by show x < 40960 + 4096; omega)
  by_cases h11 : x < 49152
  · exact zck_ok zct 12 45056 zct_11 x (by omega) (by show x < 45056 + 4096; omega)
  by_cases h12 : x < 53248
  · exact zck_ok zct 12 49152 zct_12 x (by omega) (by show x < 49152 + 4096; omega)
  by_cases h13 : x < 57344
  · exact zck_ok zct 12 53248 zct_13 x (by omega) (by show x < 53248 + 4096; omega)
  by_cases h14 : x < 61440
  · exact zck_ok zct 12 57344 zct_14 x (by omega) (by show x < 57344 + 4096; omega)
  by_cases h15 : x < 65536
  · exact zck_ok zct 12 61440 zct_15 x (by omega) (by show x < 61440 + 4096; omega)
  omega
theorem zpc_hi {x : Nat} (h : x < 65536) : ∀ k, zpc x (16 + k) = zpc x 16
  | 0 => rfl
  | k + 1 => by
    show zpc x (16 + k) + ((x >>> (16 + k)) &&& 1) = _
    have e : x >>> (16 + k) = 0 := by
      rw [Nat.shiftRight_eq_div_pow]
      refine Nat.div_eq_of_lt (Nat.lt_of_lt_of_le h ?_)
      rw [Nat.pow_add]
      exact Nat.le_mul_of_pos_right _ (Nat.pow_pos (by omega))
    rw [e, zpc_hi h k]
    rfl
/-- on kinds, places, deeds, people as bits -/
theorem zN_count {x : Int32} (h : zrg 0 65535 x) : v_ji_bitCount x = v_D_bits x := by
  obtain ⟨n, h1, h2, -⟩ := zr_ex h
  rw [h2, zN_bc (by omega), zN_bits (by omega), show (31 : Nat) = 16 + 15 from rfl, zpc_hi (by omega) 15]
  exact congrArg Int32.ofNat (Nat.eq_of_beq_eq_true (zct_ok (x := n) (by omega)))
