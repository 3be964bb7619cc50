/-! a state without its log -/
def zc_W (N : zMem) (s : Nat) (r : Nat → Int32) : Prop := zc_K N s r ∧ zc_P N s r ∧ ((N s 10 = r 3 ∧ N s 12 = r 4) ∧ (zrg 0 6 (N s 10) ∧ zrg 0 9999 (N s 12))) ∧ True
theorem zc_w {N : zMem} {s : Nat} {r : Nat → Int32} (h : zc_St N s r) : zc_W N s r := ⟨h.1, h.2.1, ⟨⟨h.2.2.1.1.1, h.2.2.1.1.2.2.1⟩, ⟨h.2.2.1.2.1, h.2.2.1.2.2.2.1⟩⟩, trivial⟩
theorem zw_of {N M' : zMem} {s p : Nat} (hS : zc_W N s (M' 195)) (hp : p < 6) : v_D_of M' (Int32.ofNat p) (0 : Int32) = N (s + 4) p ∧ v_D_of M' (Int32.ofNat p) (1 : Int32) = N (s + 5) p ∧ v_D_of M' (Int32.ofNat p) (2 : Int32) = N (s + 6) p ∧ v_D_of M' (Int32.ofNat p) (3 : Int32) = N (s + 7) p ∧ v_D_of M' (Int32.ofNat p) (4 : Int32) = N (s + 8) p ∧ v_D_of M' (Int32.ofNat p) (5 : Int32) = N (s + 9) p := by
  obtain ⟨⟨a0, a1, a2, a3, a4, a5⟩, -⟩ := hS.2.1 p hp
  have e : ∀ k, k < 6 → v_D_of M' (Int32.ofNat p) (Int32.ofNat k) = M' 195 (33 + 6 * p + k) := fun k hk => zd_of M' hp hk
  refine ⟨(e 0 (by omega)).trans a0.symm, (e 1 (by omega)).trans ?_, (e 2 (by omega)).trans ?_, (e 3 (by omega)).trans ?_, (e 4 (by omega)).trans ?_, (e 5 (by omega)).trans ?_⟩
  · rw [show 33 + 6 * p + 1 = 34 + 6 * p by omega]; exact a1.symm
  · rw [show 33 + 6 * p + 2 = 35 + 6 * p by omega]; exact a2.symm
  · rw [show 33 + 6 * p + 3 = 36 + 6 * p by omega]; exact a3.symm
  · rw [show 33 + 6 * p + 4 = 37 + 6 * p by omega]; exact a4.symm
  · rw [show 33 + 6 * p + 5 = 38 + 6 * p by omega]; exact a5.symm
theorem zw_kd {N M' : zMem} {s k : Nat} (hS : zc_W N s (M' 195)) (hk : k < 8) : v_D_ofKind M' (Int32.ofNat k) (0 : Int32) = N (s + 1) k ∧ v_D_ofKind M' (Int32.ofNat k) (1 : Int32) = N (s + 2) k ∧ v_D_ofKind M' (Int32.ofNat k) (2 : Int32) = N (s + 3) k := by
  obtain ⟨⟨a0, a1, a2⟩, -⟩ := hS.1 k hk
  have e : ∀ j, j < 3 → v_D_ofKind M' (Int32.ofNat k) (Int32.ofNat j) = M' 195 (9 + 3 * k + j) := fun j hj => zd_kd M' hk hj
  refine ⟨(e 0 (by omega)).trans a0.symm, (e 1 (by omega)).trans ?_, (e 2 (by omega)).trans ?_⟩
  · rw [show 9 + 3 * k + 1 = 10 + 3 * k by omega]; exact a1.symm
  · rw [show 9 + 3 * k + 2 = 11 + 3 * k by omega]; exact a2.symm
theorem zw_n {N M' : zMem} {s : Nat} (hS : zc_W N s (M' 195)) : ∃ n, n ≤ 6 ∧ (N s 10).toNatClampNeg = n ∧ (M' 195 3).toNatClampNeg = n ∧ N s 10 = Int32.ofNat n ∧ M' 195 3 = Int32.ofNat n := by
  obtain ⟨n, h1, h2, h3⟩ := zr_ex hS.2.2.1.2.1
  have e := hS.2.2.1.1.1
  exact ⟨n, by omega, h3, by rw [← e]; exact h3, h2, by rw [← e]; exact h2⟩
theorem zw_p {N M' : zMem} {s p : Nat} (hS : zc_W N s (M' 195)) (hp : p < 6) : (N (s + 4) p = -1 ∧ v_S_isPlain N s (Int32.ofNat p) = true ∧ v_D_isPlain M' (Int32.ofNat p) = true ∧ v_S_deedBitOf N s (Int32.ofNat p) = 0 ∧ v_D_deedOf M' (Int32.ofNat p) = -1 ∧ v_S_marksOf N s (Int32.ofNat p) = 0 ∧ v_D_marksOf M' (Int32.ofNat p) = 0) ∨ (∃ k d, k < 8 ∧ d < 8 ∧ N (s + 4) p = Int32.ofNat k ∧ v_S_isPlain N s (Int32.ofNat p) = false ∧ v_D_isPlain M' (Int32.ofNat p) = false ∧ N (s + 2) k = Int32.ofNat d ∧ v_S_deedBitOf N s (Int32.ofNat p) = Int32.ofNat (2 ^ d) ∧ v_D_deedOf M' (Int32.ofNat p) = Int32.ofNat d ∧ v_S_marksOf N s (Int32.ofNat p) = N (s + 1) k ∧ v_D_marksOf M' (Int32.ofNat p) = N (s + 1) k) := by
  have hu := (hS.2.1 p hp).2.1
  have e0 := (zw_of hS hp).1
  have a1 : v_S_isPlain N s (Int32.ofNat p) = decide (N (s + 4) p = -1) := by
    unfold v_S_isPlain
    rw [zi_nat (by omega)]
    exact zp_pl hu
  have a2 : v_D_isPlain M' (Int32.ofNat p) = decide (N (s + 4) p = -1) := by
    unfold v_D_isPlain
    rw [e0]
  unfold v_S_deedBitOf v_D_deedOf v_S_marksOf v_D_marksOf
  rw [a1, a2, e0, zi_nat (by omega)]
  by_cases h : N (s + 4) p = -1
  · rw [decide_eq_true h]
    exact Or.inl ⟨h, rfl, rfl, rfl, rfl, rfl, rfl⟩
  · rw [decide_eq_false h]
    obtain ⟨k, k1, k2, k3⟩ := zr_ex (zr_in hu h)
    obtain ⟨d, d1, d2, -⟩ := zr_ex (hS.1 k (by omega)).2.2.1
    obtain ⟨b0, b1, b2⟩ := zw_kd hS (k := k) (by omega)
    refine Or.inr ⟨k, d, by omega, by omega, k2, rfl, rfl, d2, ?_, ?_, ?_, ?_⟩
    · rw [zk_f, k3, d2, zN_sl1 d (by omega), Nat.one_shiftLeft]
    · rw [zk_f, k2, b1, d2]
    · rw [zk_f, k3]
    · rw [zk_f, k2, b0]
theorem zw_pok {N M' : zMem} {s p : Nat} (hS : zc_W N s (M' 195)) (hp : p < 6) : ok_S_isPlain N s (Int32.ofNat p) ∧ ok_D_isPlain M' (Int32.ofNat p) ∧ ok_S_deedBitOf N s (Int32.ofNat p) ∧ ok_D_deedOf M' (Int32.ofNat p) ∧ ok_S_marksOf N s (Int32.ofNat p) ∧ ok_D_marksOf M' (Int32.ofNat p) := by
  have i6 : zz_in (Int32.ofNat p) 6 = true := zi_in hp (by omega)
  have e0 := (zw_of hS hp).1
  have o0 := (zh_ok M' hp).1
  unfold ok_S_deedBitOf ok_D_deedOf ok_S_marksOf ok_D_marksOf
  rw [e0, zi_nat (by omega)]
  rcases zw_p hS hp with ⟨-, a, b, -⟩ | ⟨k, d, hk, hd, u, a, b, -⟩
  · rw [a, b]
    exact ⟨i6, o0, ⟨i6, fun h => by cases h⟩, ⟨o0, fun h => by cases h⟩, ⟨i6, fun h => by cases h⟩, ⟨o0, fun h => by cases h⟩⟩
  · have i8 : zz_in (N (s + 4) p) 8 = true := by rw [u]; exact zi_in hk (by omega)
    obtain ⟨k0, k1, -⟩ := zh_kok M' hk
    rw [u] at i8 ⊢
    exact ⟨i6, o0, ⟨i6, fun _ => ⟨i6, i8⟩⟩, ⟨o0, fun _ => ⟨o0, k1⟩⟩, ⟨i6, fun _ => ⟨i6, i8⟩⟩, ⟨o0, fun _ => ⟨o0, k0⟩⟩⟩
theorem zw_dn {N M' : zMem} {s p : Nat} (hS : zc_W N s (M' 195)) (hp : p < 6) : ∃ b, b ≤ 255 ∧ N (s + 8) p = Int32.ofNat b := by
  obtain ⟨b, h1, h2, -⟩ := zr_ex (hS.2.1 p hp).2.2.2.2.2.1
  exact ⟨b, by omega, h2⟩
theorem zw_rb {N M' : zMem} {s p : Nat} (hS : zc_W N s (M' 195)) (hp : p < 6) : ∃ b, b ≤ 65535 ∧ N (s + 5) p = Int32.ofNat b := by
  obtain ⟨b, h1, h2, -⟩ := zr_ex (hS.2.1 p hp).2.2.1
  exact ⟨b, by omega, h2⟩
theorem zw_hd {N M' : zMem} {s p : Nat} (hS : zc_W N s (M' 195)) (hp : p < 6) : v_S_hasDoneItsDeed N s (Int32.ofNat p) = (bif v_D_isPlain M' (Int32.ofNat p) then false else v_D_isOf (v_D_of M' (Int32.ofNat p) (4 : Int32)) (v_D_deedOf M' (Int32.ofNat p))) ∧ ok_S_hasDoneItsDeed N s (Int32.ofNat p) := by
  refine ⟨?_, zi_in hp (by omega), (zw_pok hS hp).2.2.1⟩
  unfold v_S_hasDoneItsDeed
  obtain ⟨bb, hb, eb⟩ := zw_dn hS hp
  rw [(zw_of hS hp).2.2.2.2.1, zi_nat (by omega), eb]
  rcases zw_p hS hp with ⟨-, a, b, c, -⟩ | ⟨k, d, hk, hd, u, a, b, t, c, e, -⟩
  · rw [b, c, zk_t, show (0 : Int32) = Int32.ofNat 0 from rfl, zN_and, Nat.and_zero, decide_eq_true rfl, zk_t]
  · rw [b, c, e, zk_f, ← Nat.one_shiftLeft, ← zN_sl1 d (by omega), zN_bit (by omega) (by omega), zN_isOf (by omega) (by omega)]
    cases bb.testBit d <;> rfl
theorem zw_dh {N M' : zMem} {s p : Nat} (hS : zc_W N s (M' 195)) (hp : p < 6) : v_S_deedsHad N s (Int32.ofNat p) = v_D_allOf M' (Int32.ofNat p) ∧ ok_S_deedsHad N s (Int32.ofNat p) ∧ ok_D_allOf M' (Int32.ofNat p) ∧ ∃ b, b ≤ 255 ∧ v_D_allOf M' (Int32.ofNat p) = Int32.ofNat b ∧ ∀ d, d < 8 → (b.testBit d = (bif (decide (v_D_deedOf M' (Int32.ofNat p) = Int32.ofNat d)) then true else v_D_isOf (v_D_of M' (Int32.ofNat p) (4 : Int32)) (Int32.ofNat d))) := by
  have hok := zw_pok hS hp
  have i6 : zz_in (Int32.ofNat p) 6 = true := zi_in hp (by omega)
  obtain ⟨bb, hb, eb⟩ := zw_dn hS hp
  unfold v_S_deedsHad v_D_allOf ok_S_deedsHad ok_D_allOf
  rw [(zw_of hS hp).2.2.2.2.1, zi_nat (by omega), eb]
  rcases zw_p hS hp with ⟨-, a, b, c, e, -⟩ | ⟨k, d, hk, hd, u, a, b, t, c, e, -⟩
  · rw [b, c, e]
    refine ⟨rfl, ⟨i6, hok.2.2.1⟩, ⟨(zh_ok M' hp).2.2.2.2.1, hok.2.1, fun h => by cases h⟩, _, hb, ?_, fun d hd => ?_⟩
    · rw [zk_t, zx_or]
    · rw [zN_isOf (by omega) (by omega), decide_eq_false, zk_f]
      intro h
      have := congrArg Int32.toInt h
      rw [zi_val (by omega)] at this
      have e9 : (-1 : Int32).toInt = -1 := rfl
      omega
  · rw [b, c, e, zk_f, zN_sl1 d (by omega), Nat.one_shiftLeft, zN_or]
    have h2 : (2 : Nat) ^ d < 2 ^ 8 := Nat.pow_lt_pow_right (by omega) hd
    refine ⟨rfl, ⟨i6, hok.2.2.1⟩, ⟨(zh_ok M' hp).2.2.2.2.1, hok.2.1, fun _ => hok.2.2.2.1⟩, _, Nat.le_of_lt_succ (Nat.or_lt_two_pow (n := 8) (by omega) h2), rfl, fun d' hd' => ?_⟩
    rw [zN_isOf (by omega) (by omega), Nat.testBit_or, Nat.testBit_two_pow, zN_eq (by omega) (by omega)]
    by_cases h : d = d'
    · rw [decide_eq_true h, zk_t, Bool.or_true]
    · rw [decide_eq_false h, zk_f, Bool.or_false]
theorem zw_fit {N M' : zMem} {s p : Nat} (hS : zc_W N s (M' 195)) (hp : p < 6) : v_S_fits N s (Int32.ofNat p) = v_D_fitting M' (Int32.ofNat p) ∧ ok_S_fits N s (Int32.ofNat p) ∧ ok_D_fitting M' (Int32.ofNat p) ∧ ∃ A, A < 256 ∧ v_D_fitting M' (Int32.ofNat p) = Int32.ofNat A := by
  have hok := zw_pok hS hp
  have i6 : zz_in (Int32.ofNat p) 6 = true := zi_in hp (by omega)
  have hof := zw_of hS hp
  have hk2 := zh_ok M' hp
  unfold v_S_fits v_D_fitting ok_S_fits ok_D_fitting
  rw [zi_nat (by omega)]
  rcases zw_p hS hp with ⟨-, a, b, -⟩ | ⟨k, d, hk, hd, u, a, b, t, c, e, f, g⟩
  · rw [a, b, zk_t, zk_t]
    exact ⟨rfl, ⟨hok.1, fun h => by cases h⟩, ⟨hok.2.1, fun h => by cases h⟩, 0, by omega, rfl⟩
  · rw [a, b, zk_f, zk_f, u]
    have hD : ∀ i, i < 8 → ∀ x, f_D_fitting_1 M' (Int32.ofNat p) i x = x ||| (bif (decide (((N (s + 1) i ^^^ N (s + 1) k) &&& N (s + 5) p) = 0)) then Int32.ofNat (2 ^ i) else 0) := by
      intro i hi x
      unfold f_D_fitting_1
      rw [(zw_kd hS hi).1, g, hof.2.1, zN_sl1 i (by omega), Nat.one_shiftLeft]
    refine ⟨?_, ⟨hok.1, fun _ => ⟨i6, fun i hi => zi_in hk (by omega)⟩⟩, ⟨hok.2.1, fun _ i hi => ⟨(zh_kok M' hi).1, hok.2.2.2.2.2, hk2.2.1⟩⟩, ?_⟩
    · unfold v_S_kindsLike
      refine zf_cg 8 _ fun i hi x => ?_
      rw [hD i hi x]
      unfold f_S_kindsLike_1
      rw [zi_nat (by omega), zN_sl1 i (by omega), Nat.one_shiftLeft, zx_sel]
    · obtain ⟨A, a1, a2, -⟩ := zor (fun i => decide (((N (s + 1) i ^^^ N (s + 1) k) &&& N (s + 5) p) = 0)) (fun i => i) 8 8 (fun i hi _ => hi)
      exact ⟨A, a1, by rw [← a2]; exact zf_cg 8 _ hD⟩
