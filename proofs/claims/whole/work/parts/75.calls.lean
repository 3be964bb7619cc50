/-! bits of sets; calls 7, 32, 39 -/
theorem zN_inj {a b : Nat} (ha : a < 2147483648) (hb : b < 2147483648) : Int32.ofNat a = Int32.ofNat b ↔ a = b := by
  refine ⟨fun h => ?_, fun h => by rw [h]⟩
  have := congrArg Int32.toInt h
  rw [zi_val ha, zi_val hb] at this
  omega
theorem zN_eq {a b : Nat} (ha : a < 2147483648) (hb : b < 2147483648) : decide (Int32.ofNat a = Int32.ofNat b) = decide (a = b) := decide_eq_decide.mpr (zN_inj ha hb)
theorem zN_isOf {x k : Nat} (hx : x < 2147483648) (hk : k < 31) : v_D_isOf (Int32.ofNat x) (Int32.ofNat k) = x.testBit k := by
  unfold v_D_isOf
  rw [zN_sr hx (by omega), show (1 : Int32) = Int32.ofNat 1 from rfl, zN_and, Nat.and_one_is_mod, zN_eq (by omega) (by omega), Nat.shiftRight_eq_div_pow, Nat.testBit_eq_decide_div_mod_eq]
theorem zN_tb (x k : Nat) : (x &&& 2 ^ k = 0) ↔ x.testBit k = false := by
  refine ⟨fun h => ?_, fun h => ?_⟩
  · have := congrArg (fun n => Nat.testBit n k) h
    simpa [Nat.testBit_and, Nat.testBit_two_pow_self] using this
  · apply Nat.eq_of_testBit_eq
    intro i
    rw [Nat.testBit_and, Nat.zero_testBit, Nat.testBit_two_pow]
    by_cases e : k = i
    · rw [← e, h]; rfl
    · simp [e]
theorem zN_bit {x k : Nat} (hx : x < 2147483648) (hk : k < 31) : decide ((Int32.ofNat x &&& zsl (1 : Int32) (Int32.ofNat k)) = 0) = !x.testBit k := by
  have h1 : x &&& 2 ^ k ≤ x := Nat.and_le_left
  rw [zN_sl1 k hk, zN_and, show (0 : Int32) = Int32.ofNat 0 from rfl, Nat.one_shiftLeft, zN_eq (by omega) (by omega), decide_eq_decide.mpr (zN_tb x k)]
  by_cases e : x.testBit k = false
  · rw [decide_eq_true e, e]; rfl
  · rw [decide_eq_false e, (by simpa using e : x.testBit k = true)]; rfl
theorem zr_and {a b : Int32} (ha : zrg 0 65535 a) (hb : zrg 0 65535 b) : zrg 0 65535 (a &&& b) := by
  obtain ⟨n, n1, n2, -⟩ := zr_ex ha
  obtain ⟨m, m1, m2, -⟩ := zr_ex hb
  rw [n2, m2, zN_and]
  have h1 : n &&& m ≤ n := Nat.and_le_left
  unfold zrg
  rw [zi_val (by omega)]
  omega
theorem zq_mkr {M : zMem} (hI : zv_Inv M) {p : Nat} (hp : p < 6) : zrg 0 65535 (v_S_marksOf M 4 (Int32.ofNat p)) := by
  unfold v_S_marksOf
  rw [(zq_pl hI (M' := M) rfl hp).1, zi_nat (by omega)]
  by_cases hu : M 8 p = -1
  · rw [decide_eq_true hu, zk_t]
    exact ⟨by decide, by decide⟩
  · rw [decide_eq_false hu, zk_f]
    obtain ⟨k, hk, u1, u2⟩ := zq_un hI hp hu
    show zrg 0 65535 (M 5 (M 8 p).toNatClampNeg)
    rw [u2]
    exact (zv_K hI hk).2.1
theorem zo7 : zo_7 zv_Inv := by
  intro M x y hI
  unfold ok_N_mark t_N_mark ok_D_mark v_N_mark v_D_mark w_D_mark w_D_isPlace
  rcases zg_p hI (M' := M) rfl x with ⟨p, hp, e, en, t, i⟩ | ⟨t, i⟩
  · rw [t, i, en]
    rcases zg_l y with ⟨k, hk, e2, -, t2, i2⟩ | ⟨t2, i2⟩
    · rw [t2, i2]
      subst e
      subst e2
      have h := zq_h M (zb (bif true then (bif true then false else true) else true))
      obtain ⟨m1, m2, m3⟩ := zq_mk hI h hp
      refine ⟨fun _ _ => ⟨zq_in hp, m2⟩, Or.inl rfl, fun _ => ⟨zd_ofk _ hp (k := 1) (by omega), m3⟩, rfl, fun _ => ?_, zv_th hI _⟩
      show (bif decide (((M 9 p &&& v_S_marksOf M 4 (Int32.ofNat p)) &&& zsl (1 : Int32) (Int32.ofNat k)) = 0) then false else true) = v_D_isOf (v_D_of (zz_up M 194 0 (zb (bif true then (bif true then false else true) else true))) (Int32.ofNat p) (1 : Int32) &&& v_D_marksOf (zz_up M 194 0 (zb (bif true then (bif true then false else true) else true))) (Int32.ofNat p)) (Int32.ofNat k)
      rw [← m1, show v_D_of (zz_up M 194 0 (zb (bif true then (bif true then false else true) else true))) (Int32.ofNat p) (1 : Int32) = M 9 p from zq_of hI h hp 1 (by omega)]
      obtain ⟨n, n1, n2, -⟩ := zr_ex (zr_and (zv_P hI hp).2.2.1 (zq_mkr hI hp))
      rw [n2, zN_bit (by omega) (by omega), zN_isOf (by omega) (by omega)]
      cases n.testBit k <;> rfl
    · rw [t2, i2]
      exact ⟨(fun _ h => by cases h), Or.inr rfl, (fun h => by cases h), rfl, (fun h => by cases h), zv_th hI _⟩
  · rw [t, i]
    exact ⟨(fun h => by cases h), Or.inr rfl, (fun h => by cases h), rfl, (fun h => by cases h), zv_th hI _⟩
theorem zo32 : zo_32 zv_Inv := by
  intro M x y hI
  unfold ok_N_kin t_N_kin ok_D_kin v_N_kin v_D_kin w_D_kin
  rcases zg_p hI (M' := M) rfl x with ⟨p, hp, e, en, t, i⟩ | ⟨t, i⟩
  · rw [t, i]
    rcases zg_p hI (M' := M) rfl y with ⟨q, hq, e2, en2, t2, i2⟩ | ⟨t2, i2⟩
    · rw [t2, i2]
      by_cases hxy : x = y
      · rw [decide_eq_true hxy]
        exact ⟨(fun _ _ h => by cases h), Or.inr (Or.inr rfl), (fun h => by cases h), rfl, (fun h => by cases h), zv_th hI _⟩
      · rw [decide_eq_false hxy]
        subst e
        subst e2
        have h := zq_h M (bif true then (bif true then (bif false then (2 : Int32) else 0) else 1) else 1)
        obtain ⟨m1, m2, m3⟩ := zq_mk hI h hp
        obtain ⟨k1, k2, k3⟩ := zq_mk hI h hq
        refine ⟨fun _ _ _ => ⟨m2, k2⟩, Or.inl rfl, fun _ => ⟨m3, k3⟩, rfl, fun _ => ?_, zv_th hI _⟩
        show v_ji_bitCount (v_S_marksOf M 4 (Int32.ofNat p) &&& v_S_marksOf M 4 (Int32.ofNat q)) = v_D_bits (v_D_marksOf _ (Int32.ofNat p) &&& v_D_marksOf _ (Int32.ofNat q))
        rw [← m1, ← k1]
        exact zN_count (zr_and (zq_mkr hI hp) (zq_mkr hI hq))
    · rw [t2, i2]
      exact ⟨(fun _ h => by cases h), Or.inr (Or.inl rfl), (fun h => by cases h), rfl, (fun h => by cases h), zv_th hI _⟩
  · rw [t, i]
    exact ⟨(fun h => by cases h), Or.inr (Or.inl rfl), (fun h => by cases h), rfl, (fun h => by cases h), zv_th hI _⟩
theorem zo39 : zo_39 zv_Inv := by
  intro M hI
  obtain ⟨n, hn, n1, n2, -, -⟩ := zq_n hI
  have h := zq_h M 0
  unfold ok_N_famous ok_D_famous v_N_famous v_D_famous
  rw [n1, n2]
  have key : ∀ k, k ≤ n → ((zf_for k (f_N_famous_1 M) (-1, 0)).1 = zf_for k (f_D_famous_1 M) (-1)) ∧ (((zf_for k (f_D_famous_1 M) (-1)) = -1 ∧ (zf_for k (f_N_famous_1 M) (-1, 0)).2 = 0) ∨ ∃ p, p < 6 ∧ zf_for k (f_D_famous_1 M) (-1) = Int32.ofNat p ∧ (zf_for k (f_N_famous_1 M) (-1, 0)).2 = M 13 p) := by
    intro k hk
    refine zf_sim (fun _ (x : Int32 × Int32) (y : Int32) => x.1 = y ∧ ((y = -1 ∧ x.2 = 0) ∨ ∃ p, p < 6 ∧ y = Int32.ofNat p ∧ x.2 = M 13 p)) k ⟨rfl, Or.inl ⟨rfl, rfl⟩⟩ (fun i x y hi ⟨hxy, hx⟩ => ?_)
    have e1 : v_D_of (zz_up M 194 0 0) (Int32.ofNat i) (5 : Int32) = M 13 i := zq_of hI h (by omega) 5 (by omega)
    have e2 : (bif decide (y = (-1 : Int32)) then (0 : Int32) else v_D_of (zz_up M 194 0 0) y (5 : Int32)) = x.2 := by
      rcases hx with ⟨a, b⟩ | ⟨p, hp, a, b⟩
      · rw [decide_eq_true a, b, zk_t]
      · have hne : ¬ y = -1 := by
          intro h3
          rw [a] at h3
          have := congrArg Int32.toInt h3
          rw [zi_val (by omega)] at this
          have e9 : (-1 : Int32).toInt = -1 := rfl
          omega
        rw [decide_eq_false hne, zk_f, b, a]
        exact zq_of hI h hp 5 (by omega)
    unfold f_N_famous_1 f_D_famous_1
    rw [e1, e2]
    cases hd : decide (M 13 i ≤ x.2) with
    | true =>
      simp only [zk_t]
      exact ⟨hxy, hx⟩
    | false =>
      simp only [zk_f]
      exact ⟨trivial, Or.inr ⟨i, by omega, rfl, rfl⟩⟩
  refine ⟨fun i hi => zq_in (by omega), fun i hi => ⟨zd_ofk _ (p := i) (k := 5) (by omega) (by omega), fun hd => ?_⟩, (key n (Nat.le_refl n)).1, zv_th hI 0⟩
  rcases (key i (by omega)).2 with ⟨a, -⟩ | ⟨p, hp, a, -⟩
  · rw [decide_eq_true a] at hd; cases hd
  · rw [a]; exact zd_ofk _ hp (k := 5) (by omega)
