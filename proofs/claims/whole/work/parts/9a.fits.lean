/-! what fits, fates, the next place to rub, shares -/
theorem zh_fit {N M' : zMem} {s p : Nat} (hS : zc_St N s (M' 195)) (hp : p < 6) : v_S_fits N s (Int32.ofNat p) = v_D_fitting M' (Int32.ofNat p) ∧ ok_S_fits N s (Int32.ofNat p) ∧ ok_D_fitting M' (Int32.ofNat p) ∧ ∃ A, A < 256 ∧ v_D_fitting M' (Int32.ofNat p) = Int32.ofNat A := by
  have hok := zh_pok hS hp
  have i6 : zz_in (Int32.ofNat p) 6 = true := zi_in hp (by omega)
  have hof := zh_of hS hp
  have hk2 := zh_ok M' hp
  unfold v_S_fits v_D_fitting ok_S_fits ok_D_fitting
  rw [zi_nat (by omega)]
  rcases zh_p hS hp with ⟨-, a, b, -⟩ | ⟨k, d, hk, hd, u, a, b, t, c, e, f, g⟩
  · rw [a, b, zk_t, zk_t]
    exact ⟨rfl, ⟨hok.1, fun h => by cases h⟩, ⟨hok.2.1, fun h => by cases h⟩, 0, by omega, rfl⟩
  · rw [a, b, zk_f, zk_f, u]
    have hD : ∀ i, i < 8 → ∀ x, f_D_fitting_1 M' (Int32.ofNat p) i x = x ||| (bif (decide (((N (s + 1) i ^^^ N (s + 1) k) &&& N (s + 5) p) = 0)) then Int32.ofNat (2 ^ i) else 0) := by
      intro i hi x
      unfold f_D_fitting_1
      rw [(zh_kd hS hi).1, g, hof.2.1, zN_sl1 i (by omega), Nat.one_shiftLeft]
    refine ⟨?_, ⟨hok.1, fun _ => ⟨i6, fun i hi => zi_in hk (by omega)⟩⟩, ⟨hok.2.1, fun _ i hi => ⟨(zh_kok M' hi).1, hok.2.2.2.2.2, hk2.2.1⟩⟩, ?_⟩
    · unfold v_S_kindsLike
      refine zf_cg 8 _ fun i hi x => ?_
      rw [hD i hi x]
      unfold f_S_kindsLike_1
      rw [zi_nat (by omega), zN_sl1 i (by omega), Nat.one_shiftLeft, zx_sel]
    · obtain ⟨A, a1, a2, -⟩ := zor (fun i => decide (((N (s + 1) i ^^^ N (s + 1) k) &&& N (s + 5) p) = 0)) (fun i => i) 8 8 (fun i hi _ => hi)
      exact ⟨A, a1, by rw [← a2]; exact zf_cg 8 _ hD⟩
theorem zh_fat {N M' : zMem} {s p : Nat} (hS : zc_St N s (M' 195)) (hp : p < 6) : v_S_fates N s (Int32.ofNat p) = v_D_fates M' (Int32.ofNat p) ∧ ok_S_fates N s (Int32.ofNat p) ∧ ok_D_fates M' (Int32.ofNat p) := by
  obtain ⟨h1, h2, h3, A, a1, a2⟩ := zh_fit hS hp
  refine ⟨?_, h2, fun i hi => ⟨h3, fun _ => (zh_kok M' hi).2.1⟩⟩
  unfold v_S_fates v_D_fates v_S_deedsOfKinds
  refine zf_cg 8 _ fun i hi x => ?_
  unfold f_S_deedsOfKinds_1 f_D_fates_1
  rw [h1, a2, zN_d0 A i (by omega) (by omega), zN_isOf (by omega) (by omega), (zh_kd hS hi).2.1]
  cases A.testBit i
  · rw [Bool.not_false, zk_t, zk_f, zx_or]
  · rw [Bool.not_true, zk_f, zk_t]
theorem zpc_h8 {x : Nat} (h : x < 256) : ∀ k, zpc x (8 + k) = zpc x 8
  | 0 => rfl
  | k + 1 => by
    show zpc x (8 + k) + ((x >>> (8 + k)) &&& 1) = _
    have e : x >>> (8 + k) = 0 := by
      rw [Nat.shiftRight_eq_div_pow]
      refine Nat.div_eq_of_lt (Nat.lt_of_lt_of_le h ?_)
      rw [Nat.pow_add]
      exact Nat.le_mul_of_pos_right _ (Nat.pow_pos (by omega))
    rw [e, zpc_h8 h k]
    rfl
theorem zpc_b (x n : Nat) : (x >>> n) &&& 1 = bif x.testBit n then 1 else 0 := by
  rw [Nat.and_one_is_mod, Nat.shiftRight_eq_div_pow]
  have h1 : x.testBit n = decide (x / 2 ^ n % 2 = 1) := Nat.testBit_eq_decide_div_mod_eq
  by_cases h : x / 2 ^ n % 2 = 1
  · rw [h1, decide_eq_true h, h, zk_t]
  · rw [h1, decide_eq_false h, zk_f]; omega
theorem zpc_le (x : Nat) : ∀ n, zpc x n ≤ n
  | 0 => Nat.le_refl 0
  | n + 1 => by
    have := zpc_le x n
    show zpc x n + ((x >>> n) &&& 1) ≤ n + 1
    rw [zpc_b]
    cases x.testBit n
    · rw [zk_f]; omega
    · rw [zk_t]; omega
theorem zN_bits8 {x : Nat} (hx : x < 256) : v_D_bits (Int32.ofNat x) = Int32.ofNat (zpc x 8) := by
  rw [zN_bits (by omega), show (31 : Nat) = 8 + 23 from rfl, zpc_h8 hx 23]
theorem zN_bcn {x : Nat} (hx : x < 256) : v_ji_bitCount (Int32.ofNat x) = Int32.ofNat (zpc x 8) := by
  rw [zN_count (zr_nn (by omega)), zN_bits8 hx]
/-- kinds marked at a place -/
theorem zh_km {N M' : zMem} {s l : Nat} (hS : zc_St N s (M' 195)) (hl : l < 16) : ∃ A, A < 256 ∧ v_S_kindsMarkedAt N s (Int32.ofNat l) = Int32.ofNat A ∧ ∀ d, d < 8 → ∃ m, m < 65536 ∧ N (s + 1) d = Int32.ofNat m ∧ A.testBit d = m.testBit l := by
  have hm : ∀ i, i < 8 → ∃ m, m < 65536 ∧ N (s + 1) i = Int32.ofNat m ∧ (N (s + 1) i).toNatClampNeg = m := fun i hi => by
    obtain ⟨m, m1, m2, m3⟩ := zr_ex (hS.1 i hi).2.1
    exact ⟨m, by omega, m2, m3⟩
  obtain ⟨A, a1, a2, a3⟩ := zor (fun i => (N (s + 1) i).toNatClampNeg.testBit l) (fun i => i) 8 8 (fun i hi _ => hi)
  refine ⟨A, a1, ?_, fun d hd => ?_⟩
  · rw [← a2]
    unfold v_S_kindsMarkedAt
    refine zf_cg 8 _ fun i hi x => ?_
    unfold f_S_kindsMarkedAt_1
    obtain ⟨m, m1, m2, m3⟩ := hm i hi
    rw [m3, m2, zN_b1 (by omega) (by omega)]
    cases m.testBit l
    · rw [zk_f, zk_f]
      congr 1
      exact (by decide +kernel : ∀ i, i < 8 → zsl (0 : Int32) (Int32.ofNat i) = 0) i hi
    · rw [zk_t, zk_t, zN_sl1 i (by omega), Nat.one_shiftLeft]
  · obtain ⟨m, m1, m2, m3⟩ := hm d hd
    refine ⟨m, m1, m2, ?_⟩
    apply Bool.eq_iff_iff.mpr
    rw [a3]
    refine ⟨fun ⟨i, b1, b2, b3⟩ => ?_, fun h => ⟨d, hd, ?_, rfl⟩⟩
    · have b3 : i = d := b3
      subst b3
      have b2 : (N (s + 1) i).toNatClampNeg.testBit l = true := b2
      rw [m3] at b2; exact b2
    · show (N (s + 1) d).toNatClampNeg.testBit l = true
      rw [m3]; exact h
theorem zh_thu {N M' : zMem} {s p : Nat} (hS : zc_St N s (M' 195)) (hp : p < 6) : v_S_thumb N s (Int32.ofNat p) = v_D_thumb M' (Int32.ofNat p) ∧ ok_S_thumb N s (Int32.ofNat p) ∧ ok_D_thumb M' (Int32.ofNat p) := by
  obtain ⟨h1, h2, h3, A, a1, a2⟩ := zh_fit hS hp
  obtain ⟨rb, rb1, rb2⟩ := zh_rb hS hp
  have hr := (zh_of hS hp).2.1
  have i6 : zz_in (Int32.ofNat p) 6 = true := zi_in hp (by omega)
  have hal := zpc_le A 8
  -- how many of the fitting are marked at a place
  have cnt : ∀ l, l < 16 → ∃ w, w ≤ zpc A 8 ∧ v_ji_bitCount ((v_S_fits N s (Int32.ofNat p)) &&& (v_S_kindsMarkedAt N s (Int32.ofNat l))) = Int32.ofNat w ∧ ∀ st, zf_for 8 (f_D_thumb_2 M' (Int32.ofNat p) l st) (0 : Int32) = Int32.ofNat w := by
    intro l hl
    obtain ⟨B, b1, b2, b3⟩ := zh_km hS hl
    have hlt : A &&& B < 256 := Nat.lt_of_le_of_lt Nat.and_le_left a1
    refine ⟨zpc (A &&& B) 8, ?_, ?_, fun st => ?_⟩
    · have : ∀ n, zpc (A &&& B) n ≤ zpc A n := by
        intro n
        induction n with
        | zero => exact Nat.le_refl 0
        | succ n ih =>
          show zpc (A &&& B) n + (((A &&& B) >>> n) &&& 1) ≤ zpc A n + ((A >>> n) &&& 1)
          rw [zpc_b, zpc_b, Nat.testBit_and]
          cases A.testBit n
          · rw [Bool.false_and, zk_f]; omega
          · cases B.testBit n
            · rw [Bool.and_false, zk_f, zk_t]; omega
            · rw [Bool.and_true, zk_t]; omega
      exact this 8
    · rw [h1, a2, b2, zN_and, zN_bcn hlt]
    · have key : ∀ n, n ≤ 8 → zf_for n (f_D_thumb_2 M' (Int32.ofNat p) l st) (0 : Int32) = Int32.ofNat (zpc (A &&& B) n) := by
        intro n
        induction n with
        | zero => intro _; rfl
        | succ n ih =>
          intro hn
          show f_D_thumb_2 M' (Int32.ofNat p) l st n (zf_for n (f_D_thumb_2 M' (Int32.ofNat p) l st) (0 : Int32)) = Int32.ofNat (zpc (A &&& B) n + (((A &&& B) >>> n) &&& 1))
          rw [ih (by omega)]
          unfold f_D_thumb_2
          obtain ⟨m, m1, m2, m3⟩ := b3 n (by omega)
          rw [a2, (zh_kd hS (show n < 8 by omega)).1, m2, zN_isOf (by omega) (by omega), zN_isOf (by omega) (by omega), zpc_b, Nat.testBit_and, m3]
          cases A.testBit n
          · rw [zk_f, Bool.false_and, zk_f, zb_f, Nat.add_zero, Int32.add_zero]
          · rw [zk_t, Bool.true_and]
            cases m.testBit l
            · rw [zk_f, zb_f, Nat.add_zero, Int32.add_zero]
            · rw [zk_t, zb_t, Int32.ofNat_add]; rfl
      exact key 8 (Nat.le_refl 8)
  have eb : v_D_bits (v_D_fitting M' (Int32.ofNat p)) = Int32.ofNat (zpc A 8) := by rw [a2]; exact zN_bits8 a1
  have ec : v_ji_bitCount (v_S_fits N s (Int32.ofNat p)) = Int32.ofNat (zpc A 8) := by rw [h1, a2]; exact zN_bcn a1
  unfold v_S_thumb ok_S_thumb v_D_thumb ok_D_thumb
  rw [ec]
  have e16 : ∀ i, i < 1000 → decide ((16 : Int32) ≤ Int32.ofNat i) = decide (16 ≤ i) := fun i hi => zi_len (n := 16) (by omega) hi
  have kD : ∀ i st, i ≤ 16 → kb_D_thumb_1 M' (Int32.ofNat p) i st := fun i st _ _ _ => ⟨(zh_ok M' hp).2.1, fun _ j hj _ => (zh_kok M' hj).1⟩
  have e2 : decide ((2 : Int32) ≤ Int32.ofNat (zpc A 8)) = decide (2 ≤ zpc A 8) := zi_len (n := 2) (by omega) (by omega)
  have e1 : decide (Int32.ofNat (zpc A 8) ≤ (1 : Int32)) = decide (zpc A 8 ≤ 1) := zi_len (i := 1) (by omega) (by omega)
  by_cases c : 2 ≤ zpc A 8
  · rw [e2, decide_eq_true c, zk_t]
    have cD : decide (v_D_bits (v_D_fitting M' (Int32.ofNat p)) ≤ (1 : Int32)) = false := by
      rw [eb, e1]; exact decide_eq_false (by omega)
    have lp := zf_wf (g := g_D_thumb_1 M' (Int32.ofNat p)) (f := fun i (a1 : Int32 × Int32) => ((bif (v_D_isOf (v_D_of M' (Int32.ofNat p) (1 : Int32)) (Int32.ofNat i)) then a1.1 else (bif (decide ((v_D_greater (zf_for 8 (f_D_thumb_2 M' (Int32.ofNat p) i a1) (0 : Int32)) ((v_D_bits (v_D_fitting M' (Int32.ofNat p))) - (zf_for 8 (f_D_thumb_2 M' (Int32.ofNat p) i a1) (0 : Int32)))) < a1.2)) then (Int32.ofNat i) else a1.1)), (bif (v_D_isOf (v_D_of M' (Int32.ofNat p) (1 : Int32)) (Int32.ofNat i)) then a1.2 else (bif (decide ((v_D_greater (zf_for 8 (f_D_thumb_2 M' (Int32.ofNat p) i a1) (0 : Int32)) ((v_D_bits (v_D_fitting M' (Int32.ofNat p))) - (zf_for 8 (f_D_thumb_2 M' (Int32.ofNat p) i a1) (0 : Int32)))) < a1.2)) then (v_D_greater (zf_for 8 (f_D_thumb_2 M' (Int32.ofNat p) i a1) (0 : Int32)) ((v_D_bits (v_D_fitting M' (Int32.ofNat p))) - (zf_for 8 (f_D_thumb_2 M' (Int32.ofNat p) i a1) (0 : Int32)))) else a1.2)))) (k := kb_D_thumb_1 M' (Int32.ofNat p)) (n := 16) (a := ((-1 : Int32), (2000000000 : Int32))) (fun i a hi => by
        unfold g_D_thumb_1
        rw [e16 i (by omega), decide_eq_false (show ¬ 16 ≤ i by omega), cD]
        simp only [zk_f]) (fun a => by
        unfold g_D_thumb_1
        rw [e16 16 (by omega), decide_eq_true (Nat.le_refl 16)]
        simp only [zk_t]) (fun i a hi => kD i a hi) 1000 0 (by omega) (by omega)
    refine ⟨?_, ⟨h2, fun _ i hi => i6⟩, h3, lp.2⟩
    refine Eq.trans ?_ (congrArg Prod.fst lp.1).symm
    have sim : (zf_for 16 (f_S_thumb_1 N s (Int32.ofNat p)) ((-1 : Int32), Int32.ofNat (zpc A 8) + (1 : Int32))).1 = (zf_for 16 (fun i (a1 : Int32 × Int32) => ((bif (v_D_isOf (v_D_of M' (Int32.ofNat p) (1 : Int32)) (Int32.ofNat i)) then a1.1 else (bif (decide ((v_D_greater (zf_for 8 (f_D_thumb_2 M' (Int32.ofNat p) i a1) (0 : Int32)) ((v_D_bits (v_D_fitting M' (Int32.ofNat p))) - (zf_for 8 (f_D_thumb_2 M' (Int32.ofNat p) i a1) (0 : Int32)))) < a1.2)) then (Int32.ofNat i) else a1.1)), (bif (v_D_isOf (v_D_of M' (Int32.ofNat p) (1 : Int32)) (Int32.ofNat i)) then a1.2 else (bif (decide ((v_D_greater (zf_for 8 (f_D_thumb_2 M' (Int32.ofNat p) i a1) (0 : Int32)) ((v_D_bits (v_D_fitting M' (Int32.ofNat p))) - (zf_for 8 (f_D_thumb_2 M' (Int32.ofNat p) i a1) (0 : Int32)))) < a1.2)) then (v_D_greater (zf_for 8 (f_D_thumb_2 M' (Int32.ofNat p) i a1) (0 : Int32)) ((v_D_bits (v_D_fitting M' (Int32.ofNat p))) - (zf_for 8 (f_D_thumb_2 M' (Int32.ofNat p) i a1) (0 : Int32)))) else a1.2)))) ((-1 : Int32), (2000000000 : Int32))).1 ∧ _ := zf_sim (fun _ (x y : Int32 × Int32) => x.1 = y.1 ∧ (x.2 = y.2 ∨ (x.2 = Int32.ofNat (zpc A 8) + (1 : Int32) ∧ y.2 = 2000000000))) 16 ⟨rfl, Or.inr ⟨rfl, rfl⟩⟩ (fun i x y hi ⟨e1, e2⟩ => by
        obtain ⟨w, w1, w2, w3⟩ := cnt i hi
        unfold f_S_thumb_1
        simp only []
        rw [w2, ec, eb, w3, zi_nat (by omega), hr, rb2, zN_d0 rb i (by omega) (by omega), zN_isOf (by omega) (by omega), zN_sub w1]
        have mx : v_jm_max (Int32.ofNat w) (Int32.ofNat (zpc A 8 - w)) = Int32.ofNat (max w (zpc A 8 - w)) ∧ v_D_greater (Int32.ofNat w) (Int32.ofNat (zpc A 8 - w)) = Int32.ofNat (max w (zpc A 8 - w)) := by
          have z1 : ∀ u, u ≤ 8 → ∀ v, v ≤ 8 → v_jm_max (Int32.ofNat u) (Int32.ofNat v) = Int32.ofNat (max u v) ∧ v_D_greater (Int32.ofNat u) (Int32.ofNat v) = Int32.ofNat (max u v) := by decide +kernel
          exact z1 w (by omega) _ (by omega)
        rw [mx.1, mx.2]
        cases rb.testBit i with
        | true =>
          rw [Bool.not_true, zk_f, zk_f, zk_t, zk_t]
          exact ⟨e1, e2⟩
        | false =>
          rw [Bool.not_false, zk_t, zk_t, zk_f, zk_f]
          rcases e2 with e2 | ⟨e2, e3⟩
          · rw [e2, e1, zi_lei, zi_lti]
            by_cases c2 : y.2.toInt ≤ (Int32.ofNat (max w (zpc A 8 - w))).toInt
            · rw [decide_eq_true c2, zk_t, zk_t, decide_eq_false (by omega), zk_f, zk_f]
              exact ⟨rfl, Or.inl rfl⟩
            · rw [decide_eq_false c2, zk_f, zk_f, decide_eq_true (by omega), zk_t, zk_t]
              exact ⟨rfl, Or.inl rfl⟩
          · have hz : Int32.ofNat (zpc A 8) + (1 : Int32) = Int32.ofNat (zpc A 8 + 1) := zi_ad (zpc A 8) 1
            rw [e2, e3, hz, zi_lei, zi_lti, zi_val (by omega), zi_val (by omega), show (2000000000 : Int32).toInt = 2000000000 from rfl, decide_eq_false (by omega), decide_eq_true (by omega), zk_f, zk_f, zk_t, zk_t]
            exact ⟨rfl, Or.inl rfl⟩)
    exact sim.1
  · rw [e2, decide_eq_false c, zk_f]
    have g0 : g_D_thumb_1 M' (Int32.ofNat p) 0 ((-1 : Int32), (2000000000 : Int32)) = (false, ((-1 : Int32), (2000000000 : Int32))) := by
      have cD : decide (v_D_bits (v_D_fitting M' (Int32.ofNat p)) ≤ (1 : Int32)) = true := by
        rw [eb, e1]; exact decide_eq_true (by omega)
      unfold g_D_thumb_1
      rw [e16 0 (by omega), decide_eq_false (show ¬ 16 ≤ 0 by omega), cD]
      simp only [zk_f, zk_t]
    refine ⟨?_, ⟨h2, (fun hh => by cases hh)⟩, h3, zf_k0 (n := 999) g0 (kD 0 _ (by omega))⟩
    rw [zf_w0 (n := 999) g0]
