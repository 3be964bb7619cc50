/-! call 29 -/
theorem zi_sub {a b : Int32} (h1 : -2147483648 ≤ a.toInt - b.toInt) (h2 : a.toInt - b.toInt < 2147483648) : (a - b).toInt = a.toInt - b.toInt := by
  rw [Int32.toInt_sub]
  exact Int.bmod_eq_of_le (by omega) (by omega)
theorem zi_lti (a b : Int32) : decide (a < b) = decide (a.toInt < b.toInt) := decide_eq_decide.mpr Int32.lt_iff_toInt_lt
theorem zi_lei (a b : Int32) : decide (a ≤ b) = decide (a.toInt ≤ b.toInt) := decide_eq_decide.mpr Int32.le_iff_toInt_le
theorem zi_max (a b : Int32) : (v_jm_max a b).toInt = max a.toInt b.toInt := by
  unfold v_jm_max
  rw [zi_lti]
  by_cases h : a.toInt < b.toInt
  · rw [decide_eq_true h, zk_t]; omega
  · rw [decide_eq_false h, zk_f]; omega
theorem zi_min (a b : Int32) : (v_jm_min a b).toInt = min a.toInt b.toInt := by
  unfold v_jm_min
  rw [zi_lti]
  by_cases h : b.toInt < a.toInt
  · rw [decide_eq_true h, zk_t]; omega
  · rw [decide_eq_false h, zk_f]; omega
theorem zi_les (a b : Int32) : (v_D_lesser a b).toInt = min a.toInt b.toInt := by
  unfold v_D_lesser
  rw [zi_lei]
  by_cases h : b.toInt ≤ a.toInt
  · rw [decide_eq_true h, zk_t]; omega
  · rw [decide_eq_false h, zk_f]; omega
theorem zi_eq {a b : Int32} (h : a.toInt = b.toInt) : a = b := Int32.toInt_inj.mp h
theorem zo29 : zo_29 zv_Inv := by
  intro M x hI
  obtain ⟨n, hn, n1, n2, n3, n4⟩ := zq_n hI
  unfold ok_N_old t_N_old ok_D_old v_N_old v_D_old w_D_old
  rw [zg_in, zg_lt0, zi_lei x 99]
  have e99 : (99 : Int32).toInt = 99 := rfl
  have e0 : (0 : Int32).toInt = 0 := rfl
  rw [e99, e0]
  by_cases h1 : x.toInt < 0
  · rw [decide_eq_true h1, show decide (0 ≤ x.toInt ∧ x.toInt ≤ 99) = false from decide_eq_false (by omega)]
    exact ⟨(fun h => by cases h), Or.inr rfl, (fun h => by cases h), rfl, (fun h => by cases h), zv_th hI _⟩
  · rw [decide_eq_false h1]
    by_cases h2 : x.toInt ≤ 99
    · rw [decide_eq_true h2, show decide (0 ≤ x.toInt ∧ x.toInt ≤ 99) = true from decide_eq_true (by omega), n1, n2]
      have hr : v_D_isIn x (0 : Int32) (99 : Int32) = true := by rw [zg_in]; exact decide_eq_true ⟨by rw [e0]; omega, by rw [e99]; omega⟩
      have h := zq_h M (zb (bif true then false else true))
      have key : (zf_for n (f_N_old_1 M x) 0).toInt = max 0 (x.toInt - (zf_for n (f_D_old_1 M x) 99).toInt) ∧ 0 ≤ (zf_for n (f_D_old_1 M x) 99).toInt ∧ (zf_for n (f_D_old_1 M x) 99).toInt ≤ 99 := by
        refine zf_sim (fun _ (a b : Int32) => a.toInt = max 0 (x.toInt - b.toInt) ∧ 0 ≤ b.toInt ∧ b.toInt ≤ 99) n ⟨by rw [e99, e0]; omega, by rw [e99]; omega, by rw [e99]; omega⟩ (fun i a b hi ⟨r1, r2, r3⟩ => ?_)
        unfold f_N_old_1 f_D_old_1
        rw [hr, show v_D_of (zz_up M 194 0 (zb (bif true then false else true))) (Int32.ofNat i) (2 : Int32) = M 10 i from zq_of hI h (by omega) 2 (by omega), zi_max, zi_les]
        have hg := (zv_P hI (show i < 6 by omega)).2.2.2.1
        have g1 := hg.1
        have g2 := hg.2
        rw [zi_sub (by omega) (by omega), r1]
        omega
      obtain ⟨k1, k2, k3⟩ := key
      refine ⟨fun _ _ i hi => zq_in (by omega), Or.inl rfl, fun _ i hi => ?_, rfl, fun _ => ?_, zv_th hI _⟩
      · unfold kb_D_old_1
        rw [hr]
        exact zd_ofk _ (p := i) (k := 2) (by omega) (by omega)
      · generalize zf_for n (f_N_old_1 M x) 0 = Z at k1 ⊢
        by_cases hn0 : n = 0
        · subst hn0
          have e3 : decide (M 195 3 = 0) = true := decide_eq_true (by rw [n4]; rfl)
          have e4 : (zf_for 0 (f_D_old_1 M x) 99).toInt = 99 := rfl
          rw [e4] at k1
          have eZ : Z = 0 := zi_eq (by rw [k1, e0]; omega)
          subst eZ
          rw [e3]
          rfl
        · generalize zf_for n (f_D_old_1 M x) 99 = l at k1 k2 k3 ⊢
          have e3 : decide (M 195 3 = 0) = false := decide_eq_false (by
            rw [n4]
            intro h9
            have := congrArg Int32.toInt h9
            rw [zi_val (by omega), e0] at this
            omega)
          have es := zi_sub (a := x) (b := l) (by omega) (by omega)
          have e60 : (60 : Int32).toInt = 60 := rfl
          rw [e3]
          show (bif decide ((60 : Int32) < Z) then (-1 : Int32) else Z) = (bif decide (l < x) then (bif decide ((60 : Int32) < x - l) then (-1 : Int32) else x - l) else 0)
          rw [zi_lti l x, zi_lti 60 Z, zi_lti 60 (x - l), es, k1, e60]
          by_cases hl : l.toInt < x.toInt
          · have eZ : Z = x - l := zi_eq (by rw [k1, es]; omega)
            rw [decide_eq_true hl, zk_t, eZ, show max 0 (x.toInt - l.toInt) = x.toInt - l.toInt by omega]
          · have eZ : Z = 0 := zi_eq (by rw [k1, e0]; omega)
            rw [decide_eq_false hl, zk_f, eZ, decide_eq_false (by omega), zk_f]
    · rw [decide_eq_false h2, show decide (0 ≤ x.toInt ∧ x.toInt ≤ 99) = false from decide_eq_false (by omega)]
      exact ⟨(fun _ h => by cases h), Or.inr rfl, (fun h => by cases h), rfl, (fun h => by cases h), zv_th hI _⟩
