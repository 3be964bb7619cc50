/-! Long.bitCount by bytes -/
theorem z8and {lo a : Nat} (hi b : Nat) (h1 : lo < 2 ^ 8) (h2 : a < 2 ^ 8) : (2 ^ 8 * hi + lo) &&& (2 ^ 8 * b + a) = 2 ^ 8 * (hi &&& b) + (lo &&& a) := by
  apply Nat.eq_of_testBit_eq
  intro i
  have h3 : lo &&& a < 2 ^ 8 := Nat.lt_of_le_of_lt Nat.and_le_left h1
  rw [Nat.testBit_and, Nat.testBit_two_pow_mul_add hi h1, Nat.testBit_two_pow_mul_add b h2, Nat.testBit_two_pow_mul_add _ h3]
  by_cases c : i < 8
  · rw [if_pos c, if_pos c, if_pos c, Nat.testBit_and]
  · rw [if_neg c, if_neg c, if_neg c, Nat.testBit_and]
def z8m (b : Nat) : Nat → Nat
  | 0 => 0
  | n + 1 => 2 ^ 8 * z8m b n + b
def z8B : List Nat → Nat
  | [] => 0
  | b :: l => 2 ^ 8 * z8B l + b
def z8l : Nat → Nat → List Nat
  | 0, _ => []
  | n + 1, x => x % 2 ^ 8 :: z8l n (x / 2 ^ 8)
theorem z8_b : ∀ (n x : Nat), x < (2 ^ 8) ^ n → z8B (z8l n x) = x
  | 0, x, h => by
    rw [Nat.pow_zero] at h
    show 0 = x
    omega
  | n + 1, x, h => by
    show 2 ^ 8 * z8B (z8l n (x / 2 ^ 8)) + x % 2 ^ 8 = x
    rw [z8_b n (x / 2 ^ 8) (by rw [Nat.pow_succ] at h; exact Nat.div_lt_of_lt_mul (by rw [Nat.mul_comm]; exact h))]
    exact Nat.div_add_mod x (2 ^ 8)
theorem z8_len : ∀ (n x : Nat), (z8l n x).length = n
  | 0, _ => rfl
  | n + 1, x => by
    show (z8l n (x / 2 ^ 8)).length + 1 = n + 1
    rw [z8_len n]
theorem z8_lt : ∀ (n x : Nat), ∀ b, b ∈ z8l n x → b < 2 ^ 8
  | 0, _, b, h => by cases h
  | n + 1, x, b, h => by
    rcases List.mem_cons.mp h with e | e
    · rw [e]; exact Nat.mod_lt _ (by decide)
    · exact z8_lt n _ b e
def z8t1 (b : Nat) : Nat := b - ((b / 2) &&& 85)
def z8t2 (b : Nat) : Nat := (b &&& 51) + ((b / 4) &&& 51)
def z8t3 (b : Nat) : Nat := (b + b / 16) % 16
theorem z8c1 : ∀ c, c < 2 → ∀ l, l < 128 → (128 * c + l) &&& 85 = l &&& 85 := by decide +kernel
theorem z8c2 : ∀ c, c < 4 → ∀ l, l < 64 → (64 * c + l) &&& 51 = l &&& 51 := by decide +kernel
theorem z8s1 : ∀ (l : List Nat), (∀ b, b ∈ l → b < 2 ^ 8) → z8B l - ((z8B l / 2) &&& z8m 85 l.length) = z8B (l.map z8t1)
  | [], _ => rfl
  | b :: l, h => by
    have ih := z8s1 l (fun c hc => h c (List.mem_cons_of_mem _ hc))
    have hb := h b List.mem_cons_self
    show (2 ^ 8 * z8B l + b) - (((2 ^ 8 * z8B l + b) / 2) &&& (2 ^ 8 * z8m 85 l.length + 85)) = 2 ^ 8 * z8B (l.map z8t1) + z8t1 b
    rw [← ih]
    have e1 : (2 ^ 8 * z8B l + b) / 2 = 2 ^ 8 * (z8B l / 2) + (128 * (z8B l % 2) + b / 2) := by omega
    rw [e1, z8and _ _ (by omega) (by decide), z8c1 _ (by omega) _ (by omega)]
    have a1 : (z8B l / 2) &&& z8m 85 l.length ≤ z8B l / 2 := Nat.and_le_left
    have a2 : (b / 2) &&& 85 ≤ b / 2 := Nat.and_le_left
    unfold z8t1
    omega
theorem z8s2 : ∀ (l : List Nat), (∀ b, b ∈ l → b < 2 ^ 8) → (z8B l &&& z8m 51 l.length) + ((z8B l / 4) &&& z8m 51 l.length) = z8B (l.map z8t2)
  | [], _ => rfl
  | b :: l, h => by
    have ih := z8s2 l (fun c hc => h c (List.mem_cons_of_mem _ hc))
    have hb := h b List.mem_cons_self
    show ((2 ^ 8 * z8B l + b) &&& (2 ^ 8 * z8m 51 l.length + 51)) + (((2 ^ 8 * z8B l + b) / 4) &&& (2 ^ 8 * z8m 51 l.length + 51)) = 2 ^ 8 * z8B (l.map z8t2) + z8t2 b
    rw [← ih]
    have e1 : (2 ^ 8 * z8B l + b) / 4 = 2 ^ 8 * (z8B l / 4) + (64 * (z8B l % 4) + b / 4) := by omega
    rw [e1, z8and _ _ hb (by decide), z8and _ _ (by omega) (by decide), z8c2 _ (by omega) _ (by omega)]
    unfold z8t2
    omega
theorem z8n4 : ∀ (l : List Nat), (∀ b, b ∈ l → b % 16 ≤ 4 ∧ b / 16 ≤ 4) → z8B l % 16 ≤ 4
  | [], _ => by decide
  | b :: l, h => by
    have := (h b List.mem_cons_self).1
    show (2 ^ 8 * z8B l + b) % 16 ≤ 4
    omega
theorem z8a15 (x : Nat) : x &&& 15 = x % 16 := Nat.and_two_pow_sub_one_eq_mod x 4
theorem z8s3 : ∀ (l : List Nat), (∀ b, b ∈ l → b % 16 ≤ 4 ∧ b / 16 ≤ 4) → (z8B l + z8B l / 16) &&& z8m 15 l.length = z8B (l.map z8t3)
  | [], _ => rfl
  | b :: l, h => by
    have hl := (fun c hc => h c (List.mem_cons_of_mem _ hc) : ∀ c, c ∈ l → c % 16 ≤ 4 ∧ c / 16 ≤ 4)
    have ih := z8s3 l hl
    have hb := h b List.mem_cons_self
    have hn := z8n4 l hl
    show ((2 ^ 8 * z8B l + b) + (2 ^ 8 * z8B l + b) / 16) &&& (2 ^ 8 * z8m 15 l.length + 15) = 2 ^ 8 * z8B (l.map z8t3) + z8t3 b
    rw [← ih]
    have e1 : (2 ^ 8 * z8B l + b) + (2 ^ 8 * z8B l + b) / 16 = 2 ^ 8 * (z8B l + z8B l / 16) + (b + b / 16 + 16 * (z8B l % 16)) := by omega
    rw [e1, z8and _ _ (by omega) (by decide), z8a15]
    unfold z8t3
    omega
theorem z8tb : ∀ b, b < 256 → (z8t1 b < 2 ^ 8 ∧ z8t2 (z8t1 b) % 16 ≤ 4 ∧ z8t2 (z8t1 b) / 16 ≤ 4) ∧ z8t3 (z8t2 (z8t1 b)) = zpc b 8 ∧ zpc b 8 ≤ 8 := by decide +kernel
def z8q (b : Nat) : Nat := z8t3 (z8t2 (z8t1 b))
theorem z8all {x : Nat} (h : x < 18446744073709551616) (x1 x2 x3 : Nat) (h1 : x1 = x - ((x / 2) &&& 6148914691236517205)) (h2 : x2 = (x1 &&& 3689348814741910323) + ((x1 / 4) &&& 3689348814741910323)) (h3 : x3 = (x2 + x2 / 16) &&& 1085102592571150095) : x3 = z8B ((z8l 8 x).map (fun b => zpc b 8)) := by
  have h88 : (2 ^ 8) ^ 8 = 18446744073709551616 := by decide +kernel
  have hb := z8_b 8 x (by rw [h88]; exact h)
  have hl := z8_len 8 x
  have hlt := z8_lt 8 x
  generalize z8l 8 x = l at hb hl hlt ⊢
  have g1 := z8s1 l hlt
  rw [hl, hb, show z8m 85 8 = 6148914691236517205 by decide +kernel, ← h1] at g1
  have m1 : ∀ b, b ∈ l.map z8t1 → b < 2 ^ 8 := by
    intro b hb'
    obtain ⟨c, c1, c2⟩ := List.mem_map.mp hb'
    rw [← c2]; exact (z8tb c (hlt c c1)).1.1
  have g2 := z8s2 (l.map z8t1) m1
  rw [List.length_map, hl, ← g1, show z8m 51 8 = 3689348814741910323 by decide +kernel, ← h2, List.map_map] at g2
  have m2 : ∀ b, b ∈ l.map (z8t2 ∘ z8t1) → b % 16 ≤ 4 ∧ b / 16 ≤ 4 := by
    intro b hb'
    obtain ⟨c, c1, c2⟩ := List.mem_map.mp hb'
    rw [← c2]; exact (z8tb c (hlt c c1)).1.2
  have g3 := z8s3 (l.map (z8t2 ∘ z8t1)) m2
  rw [List.length_map, hl, ← g2, show z8m 15 8 = 1085102592571150095 by decide +kernel, ← h3, List.map_map] at g3
  rw [g3]
  congr 1
  exact List.map_congr_left (fun b hb' => (z8tb b (hlt b hb')).2.1)
theorem zpc_cg {x y : Nat} : ∀ n, (∀ k, k < n → x.testBit k = y.testBit k) → zpc x n = zpc y n
  | 0, _ => rfl
  | n + 1, h => by
    show zpc x n + ((x >>> n) &&& 1) = zpc y n + ((y >>> n) &&& 1)
    have e := h n (by omega)
    rw [zpc_cg n (fun k hk => h k (by omega)), Nat.and_one_is_mod, Nat.and_one_is_mod, Nat.shiftRight_eq_div_pow, Nat.shiftRight_eq_div_pow, ← Nat.toNat_testBit, ← Nat.toNat_testBit, e]
theorem zpc_8 (x : Nat) : ∀ n, zpc x (8 + n) = zpc (x % 2 ^ 8) 8 + zpc (x / 2 ^ 8) n
  | 0 => by
    show zpc x 8 = zpc (x % 2 ^ 8) 8 + 0
    rw [Nat.add_zero]
    refine zpc_cg 8 (fun k hk => ?_)
    rw [Nat.testBit_mod_two_pow, decide_eq_true hk, Bool.true_and]
  | n + 1 => by
    show zpc x (8 + n) + ((x >>> (8 + n)) &&& 1) = zpc (x % 2 ^ 8) 8 + (zpc (x / 2 ^ 8) n + (((x / 2 ^ 8) >>> n) &&& 1))
    rw [zpc_8 x n, Nat.shiftRight_add, Nat.shiftRight_eq_div_pow x 8, Nat.add_assoc]
theorem z8sum (x : Nat) : zpc x 64 = zpc (x % 2 ^ 8) 8 + (zpc (x / 2 ^ 8 % 2 ^ 8) 8 + (zpc (x / 2 ^ 8 / 2 ^ 8 % 2 ^ 8) 8 + (zpc (x / 2 ^ 8 / 2 ^ 8 / 2 ^ 8 % 2 ^ 8) 8 + (zpc (x / 2 ^ 8 / 2 ^ 8 / 2 ^ 8 / 2 ^ 8 % 2 ^ 8) 8 + (zpc (x / 2 ^ 8 / 2 ^ 8 / 2 ^ 8 / 2 ^ 8 / 2 ^ 8 % 2 ^ 8) 8 + (zpc (x / 2 ^ 8 / 2 ^ 8 / 2 ^ 8 / 2 ^ 8 / 2 ^ 8 / 2 ^ 8 % 2 ^ 8) 8 + (zpc (x / 2 ^ 8 / 2 ^ 8 / 2 ^ 8 / 2 ^ 8 / 2 ^ 8 / 2 ^ 8 / 2 ^ 8 % 2 ^ 8) 8 + 0))))))) := by
  rw [show (64 : Nat) = 8 + 56 from rfl, zpc_8, show (56 : Nat) = 8 + 48 from rfl, zpc_8, show (48 : Nat) = 8 + 40 from rfl, zpc_8, show (40 : Nat) = 8 + 32 from rfl, zpc_8, show (32 : Nat) = 8 + 24 from rfl, zpc_8, show (24 : Nat) = 8 + 16 from rfl, zpc_8, show (16 : Nat) = 8 + 8 from rfl, zpc_8, show zpc (x / 2 ^ 8 / 2 ^ 8 / 2 ^ 8 / 2 ^ 8 / 2 ^ 8 / 2 ^ 8 / 2 ^ 8) 8 = zpc (x / 2 ^ 8 / 2 ^ 8 / 2 ^ 8 / 2 ^ 8 / 2 ^ 8 / 2 ^ 8 / 2 ^ 8) (8 + 0) from rfl, zpc_8]
  rfl
theorem z8dv {x c k Y : Nat} (h : x = c + k * Y) (hc : c < k) : x / k = Y := by
  rw [h, Nat.add_mul_div_left _ _ (by omega), Nat.div_eq_of_lt hc, Nat.zero_add]
theorem z8fa {c0 c1 c2 c3 c4 c5 c6 c7 x3 : Nat} (h3 : x3 = c0 + 256 * c1 + 65536 * c2 + 16777216 * c3 + 4294967296 * c4 + 1099511627776 * c5 + 281474976710656 * c6 + 72057594037927936 * c7) : x3 = c0 + 256 * (c1 + 256 * c2 + 65536 * c3 + 16777216 * c4 + 4294967296 * c5 + 1099511627776 * c6 + 281474976710656 * c7) := by omega
theorem z8fb {c0 c1 c2 c3 c4 c5 c6 c7 x3 x4 : Nat} (h3 : x3 = c0 + 256 * c1 + 65536 * c2 + 16777216 * c3 + 4294967296 * c4 + 1099511627776 * c5 + 281474976710656 * c6 + 72057594037927936 * c7) (h4 : x4 = x3 + (c1 + 256 * c2 + 65536 * c3 + 16777216 * c4 + 4294967296 * c5 + 1099511627776 * c6 + 281474976710656 * c7)) : x4 = ((c0 + c1) + 256 * (c1 + c2)) + 65536 * ((c2 + c3) + 256 * (c3 + c4) + 65536 * (c4 + c5) + 16777216 * (c5 + c6) + 4294967296 * (c6 + c7) + 1099511627776 * c7) := by omega
theorem z8fc {c0 c1 c2 c3 c4 c5 c6 c7 x4 x5 : Nat} (h4 : x4 = ((c0 + c1) + 256 * (c1 + c2)) + 65536 * ((c2 + c3) + 256 * (c3 + c4) + 65536 * (c4 + c5) + 16777216 * (c5 + c6) + 4294967296 * (c6 + c7) + 1099511627776 * c7)) (h5 : x5 = x4 + ((c2 + c3) + 256 * (c3 + c4) + 65536 * (c4 + c5) + 16777216 * (c5 + c6) + 4294967296 * (c6 + c7) + 1099511627776 * c7)) : x5 = ((c0 + c1 + c2 + c3) + 256 * (c1 + c2 + c3 + c4) + 65536 * (c2 + c3 + c4 + c5) + 16777216 * (c3 + c4 + c5 + c6)) + 4294967296 * ((c4 + c5 + c6 + c7) + 256 * (c5 + c6 + c7) + 65536 * (c6 + c7) + 16777216 * c7) := by omega
theorem z8fd {S r x : Nat} (h : x = S + 128 * r) (hS : S < 128) : x % 128 = S := by
  rw [h, Nat.add_mul_mod_self_left, Nat.mod_eq_of_lt hS]
theorem z8fe {c0 c1 c2 c3 c4 c5 c6 c7 x5 x6 : Nat} (h5 : x5 = ((c0 + c1 + c2 + c3) + 256 * (c1 + c2 + c3 + c4) + 65536 * (c2 + c3 + c4 + c5) + 16777216 * (c3 + c4 + c5 + c6)) + 4294967296 * ((c4 + c5 + c6 + c7) + 256 * (c5 + c6 + c7) + 65536 * (c6 + c7) + 16777216 * c7)) (h6 : x6 = x5 + ((c4 + c5 + c6 + c7) + 256 * (c5 + c6 + c7) + 65536 * (c6 + c7) + 16777216 * c7)) : x6 = (c0 + c1 + c2 + c3 + c4 + c5 + c6 + c7) + 128 * (2 * (c1 + c2 + c3 + c4) + 512 * (c2 + c3 + c4 + c5) + 131072 * (c3 + c4 + c5 + c6) + 33554432 * ((c4 + c5 + c6 + c7) + 256 * (c5 + c6 + c7) + 65536 * (c6 + c7) + 16777216 * c7) + 2 * (c5 + c6 + c7) + 512 * (c6 + c7) + 131072 * c7) := by omega
theorem z8fin {c0 c1 c2 c3 c4 c5 c6 c7 x3 x4 x5 x6 : Nat} (b0 : c0 ≤ 8) (b1 : c1 ≤ 8) (b2 : c2 ≤ 8) (b3 : c3 ≤ 8) (b4 : c4 ≤ 8) (b5 : c5 ≤ 8) (b6 : c6 ≤ 8) (b7 : c7 ≤ 8) (h3 : x3 = c0 + 256 * c1 + 65536 * c2 + 16777216 * c3 + 4294967296 * c4 + 1099511627776 * c5 + 281474976710656 * c6 + 72057594037927936 * c7) (h4 : x4 = x3 + x3 / 256) (h5 : x5 = x4 + x4 / 65536) (h6 : x6 = x5 + x5 / 4294967296) : x6 % 128 = c0 + c1 + c2 + c3 + c4 + c5 + c6 + c7 := by
  have l1 : c0 < 256 := by clear h3 h4 h5 h6; omega
  have l2 : (c0 + c1) + 256 * (c1 + c2) < 65536 := by clear h3 h4 h5 h6; omega
  have l3 : (c0 + c1 + c2 + c3) + 256 * (c1 + c2 + c3 + c4) + 65536 * (c2 + c3 + c4 + c5) + 16777216 * (c3 + c4 + c5 + c6) < 4294967296 := by clear h3 h4 h5 h6; omega
  have l4 : c0 + c1 + c2 + c3 + c4 + c5 + c6 + c7 < 128 := by clear h3 h4 h5 h6; omega
  rw [z8dv (z8fa h3) l1] at h4
  have g4 := z8fb h3 h4
  rw [z8dv g4 l2] at h5
  have g5 := z8fc g4 h5
  rw [z8dv g5 l3] at h6
  exact z8fd (z8fe g5 h6) l4
theorem zM_um : ∀ k, k < 64 → ((((Int32.ofNat k).toInt64.toUInt64 &&& Int64.toUInt64 63) % 64).toBitVec).toNat = k := by decide +kernel
theorem zM_bv (a : Nat) : (Int64.ofNat a).toBitVec = BitVec.ofNat 64 a := rfl
theorem zM_lu {a k : Nat} (ha : a < 18446744073709551616) (hk : k < 64) : zlu (Int64.ofNat a) (Int32.ofNat k) = Int64.ofNat (a >>> k) := by
  unfold zlu
  apply Int64.toBitVec_inj.mp
  show (Int64.ofNat a).toBitVec >>> ((((Int32.ofNat k).toInt64.toUInt64 &&& Int64.toUInt64 63) % 64).toBitVec) = _
  rw [BitVec.ushiftRight_eq', zM_um k hk, zM_bv, zM_bv]
  apply BitVec.eq_of_toNat_eq
  rw [BitVec.toNat_ushiftRight, BitVec.toNat_ofNat, BitVec.toNat_ofNat, Nat.mod_eq_of_lt (by omega), Nat.mod_eq_of_lt]
  exact Nat.lt_of_le_of_lt (Nat.shiftRight_le _ _) (by omega)
theorem zM_and (a b : Nat) : Int64.ofNat a &&& Int64.ofNat b = Int64.ofNat (a &&& b) := by
  apply Int64.toBitVec_inj.mp
  rw [Int64.toBitVec_and, zM_bv, zM_bv, zM_bv]
  apply BitVec.eq_of_toNat_eq
  simp [BitVec.toNat_and, BitVec.toNat_ofNat, Nat.and_mod_two_pow]
theorem zM_rep (F : Int64) : F.toBitVec.toNat < 18446744073709551616 ∧ F = Int64.ofNat F.toBitVec.toNat := by
  refine ⟨F.toBitVec.isLt, ?_⟩
  apply Int64.toBitVec_inj.mp
  rw [zM_bv]
  apply BitVec.eq_of_toNat_eq
  rw [BitVec.toNat_ofNat, Nat.mod_eq_of_lt F.toBitVec.isLt]
def zq1 (x : Int64) : Int64 := x - ((zlu x (1 : Int32)) &&& (Int64.ofNat 6148914691236517205))
def zq2 (x : Int64) : Int64 := (x &&& (Int64.ofNat 3689348814741910323)) + ((zlu x (2 : Int32)) &&& (Int64.ofNat 3689348814741910323))
def zq3 (x : Int64) : Int64 := (x + (zlu x (4 : Int32))) &&& (Int64.ofNat 1085102592571150095)
def zq4 (x : Int64) : Int64 := x + (zlu x (8 : Int32))
def zq5 (x : Int64) : Int64 := x + (zlu x (16 : Int32))
def zq6 (x : Int64) : Int64 := x + (zlu x (32 : Int32))
theorem zjc_all (x : Int64) : v_jl_bitCount x = (zq6 (zq5 (zq4 (zq3 (zq2 (zq1 x)))))).toInt32 &&& (127 : Int32) := rfl
theorem z8fl (c0 c1 c2 c3 c4 c5 c6 c7 : Nat) : 2 ^ 8 * (2 ^ 8 * (2 ^ 8 * (2 ^ 8 * (2 ^ 8 * (2 ^ 8 * (2 ^ 8 * (2 ^ 8 * 0 + c7) + c6) + c5) + c4) + c3) + c2) + c1) + c0 = c0 + 256 * c1 + 65536 * c2 + 16777216 * c3 + 4294967296 * c4 + 1099511627776 * c5 + 281474976710656 * c6 + 72057594037927936 * c7 := by omega
theorem z8sh {x B : Nat} (k : Nat) (h : x ≤ B) : x + x / k ≤ 2 * B := by
  have := Nat.div_le_self x k
  omega
theorem z8q8 (b : Nat) : zpc (b % 2 ^ 8) 8 ≤ 8 := (z8tb (b % 2 ^ 8) (Nat.mod_lt _ (by decide))).2.2
theorem zpc_len (x : Nat) : ∀ n, zpc x n ≤ n
  | 0 => Nat.le_refl _
  | n + 1 => by
    have h1 := zpc_len x n
    have h2 : (x >>> n) &&& 1 ≤ 1 := Nat.and_le_right
    show zpc x n + ((x >>> n) &&& 1) ≤ n + 1
    omega
theorem zM_cnt (F : Int64) : v_jl_bitCount F = Int32.ofNat (zpc F.toBitVec.toNat 64) ∧ zpc F.toBitVec.toNat 64 ≤ 64 := by
  obtain ⟨hx, eF⟩ := zM_rep F
  generalize F.toBitVec.toNat = x at hx eF ⊢
  subst eF
  obtain ⟨x1, h1⟩ : ∃ x1, x1 = x - ((x / 2) &&& 6148914691236517205) := ⟨_, rfl⟩
  obtain ⟨x2, h2⟩ : ∃ x2, x2 = (x1 &&& 3689348814741910323) + ((x1 / 4) &&& 3689348814741910323) := ⟨_, rfl⟩
  obtain ⟨x3, h3⟩ : ∃ x3, x3 = (x2 + x2 / 16) &&& 1085102592571150095 := ⟨_, rfl⟩
  obtain ⟨x4, h4⟩ : ∃ x4, x4 = x3 + x3 / 256 := ⟨_, rfl⟩
  obtain ⟨x5, h5⟩ : ∃ x5, x5 = x4 + x4 / 65536 := ⟨_, rfl⟩
  obtain ⟨x6, h6⟩ : ∃ x6, x6 = x5 + x5 / 4294967296 := ⟨_, rfl⟩
  have l1 : (x / 2) &&& 6148914691236517205 ≤ x := Nat.le_trans Nat.and_le_left (Nat.div_le_self x 2)
  have t1 : x1 < 18446744073709551616 := by rw [h1]; exact Nat.lt_of_le_of_lt (Nat.sub_le _ _) hx
  have t2 : x2 < 18446744073709551616 := by rw [h2]; exact Nat.lt_of_le_of_lt (Nat.add_le_add Nat.and_le_right Nat.and_le_right) (by decide)
  have u3 : x3 ≤ 1085102592571150095 := by rw [h3]; exact Nat.and_le_right
  have t3 : x3 < 18446744073709551616 := Nat.lt_of_le_of_lt u3 (by decide)
  have u4 : x4 ≤ 2 * 1085102592571150095 := by rw [h4]; exact z8sh 256 u3
  have t4 : x4 < 18446744073709551616 := Nat.lt_of_le_of_lt u4 (by decide)
  have u5 : x5 ≤ 2 * (2 * 1085102592571150095) := by rw [h5]; exact z8sh 65536 u4
  have t5 : x5 < 18446744073709551616 := Nat.lt_of_le_of_lt u5 (by decide)
  have e1 : zq1 (Int64.ofNat x) = Int64.ofNat x1 := by
    unfold zq1
    rw [show (1 : Int32) = Int32.ofNat 1 from rfl, zM_lu hx (by decide), zM_and, Nat.shiftRight_eq_div_pow, show (2 : Nat) ^ 1 = 2 from rfl, h1, Int64.ofNat_sub _ _ l1]
  have e2 : zq2 (Int64.ofNat x1) = Int64.ofNat x2 := by
    unfold zq2
    rw [show (2 : Int32) = Int32.ofNat 2 from rfl, zM_lu t1 (by decide), zM_and, zM_and, Nat.shiftRight_eq_div_pow, show (2 : Nat) ^ 2 = 4 from rfl, h2, Int64.ofNat_add]
  have e3 : zq3 (Int64.ofNat x2) = Int64.ofNat x3 := by
    unfold zq3
    rw [show (4 : Int32) = Int32.ofNat 4 from rfl, zM_lu t2 (by decide), Nat.shiftRight_eq_div_pow, show (2 : Nat) ^ 4 = 16 from rfl, ← Int64.ofNat_add, zM_and, h3]
  have e4 : zq4 (Int64.ofNat x3) = Int64.ofNat x4 := by
    unfold zq4
    rw [show (8 : Int32) = Int32.ofNat 8 from rfl, zM_lu t3 (by decide), Nat.shiftRight_eq_div_pow, show (2 : Nat) ^ 8 = 256 from rfl, ← Int64.ofNat_add, h4]
  have e5 : zq5 (Int64.ofNat x4) = Int64.ofNat x5 := by
    unfold zq5
    rw [show (16 : Int32) = Int32.ofNat 16 from rfl, zM_lu t4 (by decide), Nat.shiftRight_eq_div_pow, show (2 : Nat) ^ 16 = 65536 from rfl, ← Int64.ofNat_add, h5]
  have e6 : zq6 (Int64.ofNat x5) = Int64.ofNat x6 := by
    unfold zq6
    rw [show (32 : Int32) = Int32.ofNat 32 from rfl, zM_lu t5 (by decide), Nat.shiftRight_eq_div_pow, show (2 : Nat) ^ 32 = 4294967296 from rfl, ← Int64.ofNat_add, h6]
  have h9 := z8all hx x1 x2 x3 h1 h2 h3
  have hs := z8sum x
  have f := z8fin (z8q8 x) (z8q8 _) (z8q8 _) (z8q8 _) (z8q8 _) (z8q8 _) (z8q8 _) (z8q8 _) (h9.trans (z8fl (zpc (x % 2 ^ 8) 8) (zpc (x / 2 ^ 8 % 2 ^ 8) 8) (zpc (x / 2 ^ 8 / 2 ^ 8 % 2 ^ 8) 8) (zpc (x / 2 ^ 8 / 2 ^ 8 / 2 ^ 8 % 2 ^ 8) 8) (zpc (x / 2 ^ 8 / 2 ^ 8 / 2 ^ 8 / 2 ^ 8 % 2 ^ 8) 8) (zpc (x / 2 ^ 8 / 2 ^ 8 / 2 ^ 8 / 2 ^ 8 / 2 ^ 8 % 2 ^ 8) 8) (zpc (x / 2 ^ 8 / 2 ^ 8 / 2 ^ 8 / 2 ^ 8 / 2 ^ 8 / 2 ^ 8 % 2 ^ 8) 8) (zpc (x / 2 ^ 8 / 2 ^ 8 / 2 ^ 8 / 2 ^ 8 / 2 ^ 8 / 2 ^ 8 / 2 ^ 8 % 2 ^ 8) 8))) h4 h5 h6
  have hz : zpc x 64 = x6 % 128 := by
    rw [f, hs, Nat.add_zero]
    simp only [Nat.add_assoc]
  refine ⟨?_, zpc_len x 64⟩
  rw [zjc_all, e1, e2, e3, e4, e5, e6, Int64.toInt32_ofNat', show (127 : Int32) = Int32.ofNat 127 from rfl, zN_and, show ∀ y, y &&& 127 = y % 128 from fun y => Nat.and_two_pow_sub_one_eq_mod y 7, hz]
