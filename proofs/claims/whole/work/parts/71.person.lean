/-! PEOPLE: what the class and the reference read of a person; calls over all people. -/
theorem zq_h (M : zMem) (x : Int32) : (zz_up M 194 0 x) 195 = M 195 := rfl
theorem zq_of {M M' : zMem} (hI : zv_Inv M) (h : M' 195 = M 195) {p : Nat} (hp : p < 6) : ∀ k, k < 6 → v_D_of M' (Int32.ofNat p) (Int32.ofNat k) = M (8 + k) p := by
  intro k hk
  rw [zd_of M' hp hk, h]
  have hr := (zv_P hI hp).1
  match k, hk with
  | 0, _ => exact hr.1.symm
  | 1, _ => rw [show 33 + 6 * p + 1 = 34 + 6 * p by omega]; exact hr.2.1.symm
  | 2, _ => rw [show 33 + 6 * p + 2 = 35 + 6 * p by omega]; exact hr.2.2.1.symm
  | 3, _ => rw [show 33 + 6 * p + 3 = 36 + 6 * p by omega]; exact hr.2.2.2.1.symm
  | 4, _ => rw [show 33 + 6 * p + 4 = 37 + 6 * p by omega]; exact hr.2.2.2.2.1.symm
  | 5, _ => rw [show 33 + 6 * p + 5 = 38 + 6 * p by omega]; exact hr.2.2.2.2.2.symm
  | k + 6, hk => exact absurd hk (by omega)
theorem zq_kd {M M' : zMem} (hI : zv_Inv M) (h : M' 195 = M 195) {p : Nat} (hp : p < 8) : ∀ k, k < 3 → v_D_ofKind M' (Int32.ofNat p) (Int32.ofNat k) = M (5 + k) p := by
  intro k hk
  rw [zd_kd M' hp hk, h]
  have hr := (zv_K hI hp).1
  match k, hk with
  | 0, _ => exact hr.1.symm
  | 1, _ => rw [show 9 + 3 * p + 1 = 10 + 3 * p by omega]; exact hr.2.1.symm
  | 2, _ => rw [show 9 + 3 * p + 2 = 11 + 3 * p by omega]; exact hr.2.2.symm
  | k + 3, hk => exact absurd hk (by omega)
theorem zq_n {M : zMem} (hI : zv_Inv M) : ∃ n, n ≤ 6 ∧ (M 4 10).toNatClampNeg = n ∧ (M 195 3).toNatClampNeg = n ∧ M 4 10 = Int32.ofNat n ∧ M 195 3 = Int32.ofNat n := by
  have hr := zv_F hI
  obtain ⟨n, h1, h2, h3⟩ := zr_ex hr.2.1
  have e := hr.1.1
  exact ⟨n, by omega, h3, by rw [← e]; exact h3, h2, by rw [← e]; exact h2⟩
theorem zp_pl {u : Int32} (h : zrg (-1) 7 u) : (bif (decide (u < 0)) then true else (bif (decide (u < (8 : Int32))) then false else true)) = decide (u = (-1 : Int32)) := by
  have h1 := h.1
  have h2 := h.2
  have e8 : u < 8 := by
    rw [Int32.lt_iff_toInt_lt]
    show u.toInt < 8
    omega
  rw [decide_eq_true e8]
  by_cases hu : u = -1
  · subst hu; rfl
  · have e0 : ¬ u < 0 := by
      rw [Int32.lt_iff_toInt_lt]
      show ¬ u.toInt < 0
      intro h3
      apply hu
      apply Int32.toInt_inj.mp
      show u.toInt = -1
      omega
    rw [decide_eq_false e0, decide_eq_false hu]; rfl
theorem zq_in {p : Nat} (hp : p < 6) : zz_in (Int32.ofNat p) 6 = true := zi_in hp (by omega)
theorem zq_pl {M M' : zMem} (hI : zv_Inv M) (h : M' 195 = M 195) {p : Nat} (hp : p < 6) : v_S_isPlain M 4 (Int32.ofNat p) = decide (M 8 p = (-1 : Int32)) ∧ v_D_isPlain M' (Int32.ofNat p) = decide (M 8 p = (-1 : Int32)) ∧ ok_S_isPlain M 4 (Int32.ofNat p) ∧ ok_D_isPlain M' (Int32.ofNat p) := by
  refine ⟨?_, ?_, zq_in hp, zd_ofk M' hp (k := 0) (by omega)⟩
  · unfold v_S_isPlain
    rw [zi_nat (by omega)]
    exact zp_pl (zv_P hI hp).2.1
  · unfold v_D_isPlain
    rw [show v_D_of M' (Int32.ofNat p) (0 : Int32) = M 8 p from zq_of hI h hp 0 (by omega)]
theorem zq_un {M : zMem} (hI : zv_Inv M) {p : Nat} (hp : p < 6) (hne : M 8 p ≠ -1) : ∃ k, k < 8 ∧ M 8 p = Int32.ofNat k ∧ (M 8 p).toNatClampNeg = k := by
  have hr := (zv_P hI hp).2.1
  have h0 : zrg 0 7 (M 8 p) := by
    refine ⟨?_, hr.2⟩
    have h1 := hr.1
    by_cases h3 : (M 8 p).toInt = -1
    · exact absurd (Int32.toInt_inj.mp (show (M 8 p).toInt = (-1 : Int32).toInt from h3)) hne
    · omega
  obtain ⟨k, h1, h2, h3⟩ := zr_ex h0
  exact ⟨k, by omega, h2, h3⟩
theorem zq_mk {M M' : zMem} (hI : zv_Inv M) (h : M' 195 = M 195) {p : Nat} (hp : p < 6) : v_S_marksOf M 4 (Int32.ofNat p) = v_D_marksOf M' (Int32.ofNat p) ∧ ok_S_marksOf M 4 (Int32.ofNat p) ∧ ok_D_marksOf M' (Int32.ofNat p) := by
  obtain ⟨h1, h2, h3, h4⟩ := zq_pl hI h hp
  unfold v_S_marksOf v_D_marksOf ok_S_marksOf ok_D_marksOf
  rw [h1, h2, zi_nat (by omega)]
  have e0 : v_D_of M' (Int32.ofNat p) (0 : Int32) = M 8 p := zq_of hI h hp 0 (by omega)
  by_cases hu : M 8 p = -1
  · rw [decide_eq_true hu]
    exact ⟨rfl, ⟨h3, fun h => by cases h⟩, h4, fun h => by cases h⟩
  · rw [decide_eq_false hu, e0]
    obtain ⟨k, hk, u1, u2⟩ := zq_un hI hp hu
    have e1 : v_D_ofKind M' (M 8 p) (0 : Int32) = M 5 k := by rw [u1]; exact zq_kd hI h hk 0 (by omega)
    refine ⟨?_, ⟨h3, fun _ => ⟨zq_in hp, ?_⟩⟩, h4, fun _ => ⟨zd_ofk M' hp (k := 0) (by omega), ?_⟩⟩
    · show M 5 (M 8 p).toNatClampNeg = v_D_ofKind M' (M 8 p) 0
      rw [e1, u2]
    · show zz_in (M 8 p) 8 = true
      rw [u1]; exact zi_in hk (by omega)
    · rw [u1]; exact zd_kdk M' hk (k := 0) (by omega)
theorem zx_or (a : Int32) : a ||| 0 = a := by simp
theorem zx_sel (c : Bool) (a b : Int32) : (bif c then a ||| b else a) = a ||| (bif c then b else 0) := by
  cases c
  · exact (zx_or a).symm
  · rfl
theorem zq_plain {M M' : zMem} (hI : zv_Inv M) (h : M' 195 = M 195) : ok_S_plainOnes M 4 ∧ ok_D_plainOnes M' ∧ v_S_plainOnes M 4 = v_D_plainOnes M' := by
  obtain ⟨n, hn, n1, n2, -, -⟩ := zq_n hI
  unfold ok_S_plainOnes ok_D_plainOnes v_S_plainOnes v_D_plainOnes
  rw [h, n1, n2]
  refine ⟨fun i hi => (zq_pl hI h (by omega)).2.2.1, fun i hi => (zq_pl hI h (by omega)).2.2.2, zf_cg n _ fun i hi a => ?_⟩
  unfold f_S_plainOnes_1 f_D_plainOnes_1
  obtain ⟨h1, h2, -, -⟩ := zq_pl hI h (show i < 6 by omega)
  rw [h1, h2, zx_sel]
theorem zo35 : zo_35 zv_Inv := by
  intro M hI
  obtain ⟨a, b, c⟩ := zq_plain hI (zq_h M 0)
  exact ⟨a, b, c, zv_th hI 0⟩
theorem zq_fo {M M' : zMem} (hI : zv_Inv M) (h : M' 195 = M 195) {p : Nat} (hp : p < 6) : v_S_isFound M 4 (Int32.ofNat p) = decide (((v_D_marksOf M' (Int32.ofNat p)) &&& ((v_D_of M' (Int32.ofNat p) (1 : Int32)) ^^^ (-1 : Int32))) = 0) ∧ ok_S_isFound M 4 (Int32.ofNat p) := by
  obtain ⟨h1, h2, h3⟩ := zq_mk hI h hp
  have e1 : v_D_of M' (Int32.ofNat p) (1 : Int32) = M 9 p := zq_of hI h hp 1 (by omega)
  unfold v_S_isFound
  rw [h1, zi_nat (by omega), e1]
  exact ⟨rfl, h2, zq_in hp⟩
theorem zo36 : zo_36 zv_Inv := by
  intro M hI
  obtain ⟨n, hn, n1, n2, -, -⟩ := zq_n hI
  have h := zq_h M 0
  unfold ok_N_found ok_D_found v_N_found v_D_found
  rw [n1, n2]
  refine ⟨fun i hi => ⟨(zq_pl hI h (by omega)).2.2.1, fun _ => (zq_fo hI h (by omega)).2⟩, fun i hi => ⟨(zq_pl hI h (by omega)).2.2.2, fun _ => ⟨(zq_mk hI h (by omega)).2.2, zd_ofk _ (p := i) (k := 1) (by omega) (by omega)⟩⟩, zf_cg n _ fun i hi a => ?_, zv_th hI 0⟩
  unfold f_N_found_1 f_D_found_1
  obtain ⟨h1, h2, -, -⟩ := zq_pl hI h (show i < 6 by omega)
  rw [h1, h2, (zq_fo hI h (show i < 6 by omega)).1]
  cases decide (M 8 i = -1)
  · exact zx_sel _ _ _
  · exact (zx_or a).symm
theorem zo37 : zo_37 zv_Inv := by
  intro M hI
  obtain ⟨n, hn, n1, n2, -, -⟩ := zq_n hI
  have h := zq_h M 0
  unfold ok_N_soFar ok_D_soFar v_N_soFar v_D_soFar
  rw [n1, n2]
  refine ⟨fun i hi => zq_in (by omega), fun i hi => zd_ofk _ (p := i) (k := 4) (by omega) (by omega), zf_cg n _ fun i hi a => ?_, zv_th hI 0⟩
  unfold f_N_soFar_1 f_D_soFar_1
  rw [show v_D_of (zz_up M 194 0 0) (Int32.ofNat i) (4 : Int32) = M 12 i from zq_of hI h (by omega) 4 (by omega)]
