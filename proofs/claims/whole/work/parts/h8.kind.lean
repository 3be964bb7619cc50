/-! call 5 -/
theorem zq_same {M M' : zMem} (hI : zv_Inv M) (h : M' 195 = M 195) {k : Nat} (hk : k < 8) : v_S_kindsLike M 4 (Int32.ofNat k) (65535 : Int32) = v_D_same M' (Int32.ofNat k) ∧ ok_S_kindsLike M 4 (Int32.ofNat k) (65535 : Int32) ∧ ok_D_same M' (Int32.ofNat k) := by
  refine ⟨?_, fun i hi => zi_in hk (by omega), fun i hi => ⟨zd_kdk _ hi (k := 0) (by omega), zd_kdk _ hk (k := 0) (by omega)⟩⟩
  unfold v_S_kindsLike v_D_same
  refine zf_cg 8 _ (fun i hi a => ?_)
  unfold f_S_kindsLike_1 f_D_same_1
  obtain ⟨a1, a2⟩ := zfm_e hI hi
  obtain ⟨b1, b2⟩ := zfm_e hI hk
  rw [show v_D_ofKind M' (Int32.ofNat i) (0 : Int32) = M 5 i from zq_kd hI h hi 0 (by omega), show v_D_ofKind M' (Int32.ofNat k) (0 : Int32) = M 5 k from zq_kd hI h hk 0 (by omega), zi_nat (by omega), show M (4 + 1) i = M 5 i from rfl, show M (4 + 1) k = M 5 k from rfl, a2, b2]
  have hx : zfm M i ^^^ zfm M k < 65536 := Nat.xor_lt_two_pow (n := 16) a1 b1
  have e : decide (((Int32.ofNat (zfm M i) ^^^ Int32.ofNat (zfm M k)) &&& (65535 : Int32)) = 0) = decide (Int32.ofNat (zfm M i) = Int32.ofNat (zfm M k)) := by
    have hand : (zfm M i ^^^ zfm M k) &&& 65535 = zfm M i ^^^ zfm M k := zsu_and (fun q hq => by
      have e : ∀ q, q < 16 → (65535 : Nat).testBit q = true := by decide +kernel
      by_cases c : q < 16
      · exact e q c
      · rw [zhi hx c] at hq; cases hq)
    rw [zN_xor, show (65535 : Int32) = Int32.ofNat 65535 from rfl, zN_and, hand, show (0 : Int32) = Int32.ofNat 0 from rfl, zN_eq (by omega) (by omega), zN_eq (by omega) (by omega)]
    refine decide_eq_decide.mpr ⟨fun hh => ?_, fun hh => by rw [hh, Nat.xor_self]⟩
    apply Nat.eq_of_testBit_eq
    intro q
    have := congrArg (fun n => Nat.testBit n q) hh
    simp only [Nat.testBit_xor, Nat.zero_testBit] at this
    revert this
    cases (zfm M i).testBit q <;> cases (zfm M k).testBit q <;> decide
  rw [e]
  exact zx_sel _ _ _
theorem zq_bear {M M' : zMem} (hI : zv_Inv M) (h : M' 195 = M 195) (x : Int32) : v_S_bearers M 4 x = v_D_bearers M' x ∧ ok_S_bearers M 4 x ∧ ok_D_bearers M' x := by
  obtain ⟨n, hn, n1, n2, -, -⟩ := zq_n hI
  unfold v_S_bearers v_D_bearers ok_S_bearers ok_D_bearers
  rw [h, n1, n2]
  refine ⟨zf_cg n _ (fun i hi a => ?_), fun i hi => zq_in (by omega), fun i hi => zd_ofk _ (p := i) (k := 0) (by omega) (by omega)⟩
  unfold f_S_bearers_1 f_D_bearers_1
  rw [show v_D_of M' (Int32.ofNat i) (0 : Int32) = M 8 i from zq_of hI h (by omega) 0 (by omega)]
  exact zx_sel _ _ _
theorem zo5 : zo_5 zv_Inv := by
  intro M x y hI
  rcases zg_k x with ⟨p, hp, e, en, t, i⟩ | ⟨t, i⟩
  · subst e
    have i' : v_D_isKind (Int32.ofNat p) = true := i
    have i8 : zz_in (Int32.ofNat p) 8 = true := zi_in hp (by omega)
    have h := zq_h M 0
    obtain ⟨w1, w2, -, w4⟩ := zq_few hI hp M rfl
    have h3 : (zz_up (w_G_fewestPlaces M (Int32.ofNat p)) 194 0 0) 195 = M 195 := funext fun j => (zu_o (by omega)).trans (w4 195 j (by omega))
    obtain ⟨f1, f2, f3, f4⟩ := zq_few hI hp _ h3
    obtain ⟨s1, s2, s3⟩ := zq_same hI h hp
    obtain ⟨⟨p1, p2⟩, p3, p4⟩ := zq_pie hI h hp
    have hh1 := zq_hol hI h hp
    obtain ⟨d1, d2, d3⟩ := zq_dp hI h hp
    have a1 := (zE_all hI hp 0).1.trans (zD_wit hI h hp).1.symm
    have a2 := (zE_all hI hp 0).2
    have a3 := (zD_wit hI h hp).2
    obtain ⟨b1, b2, b3⟩ := zq_bear hI h (Int32.ofNat p)
    have k0 : ∀ N : zMem, ok_D_ofKind N (Int32.ofNat p) (0 : Int32) ∧ ok_D_ofKind N (Int32.ofNat p) (1 : Int32) ∧ ok_D_ofKind N (Int32.ofNat p) (2 : Int32) := fun N => zh_kok N hp
    have hkd := zh_kd (N := M) (M' := zz_up M 194 0 0) (s := 4) (zv_St hI) hp
    have okN : ∀ z, ok_N_kind M (Int32.ofNat p) z := fun z _ => ⟨i8, fun _ _ _ => ⟨fun _ => f2, fun _ => ⟨fun _ => s2, fun _ => ⟨fun _ => by rw [zi_nat (by omega)]; exact p2, fun _ => ⟨fun _ => by rw [zi_nat (by omega)]; exact p4, fun _ _ => ⟨fun _ => d2, fun _ => ⟨fun _ => a2, fun _ _ => b2⟩⟩⟩⟩⟩⟩⟩
    by_cases y0 : y = 0
    · subst y0
      have hw : w_N_kind M (Int32.ofNat p) 0 = M := by
        unfold w_N_kind
        simp only [t, show decide ((0 : Int32) = (1 : Int32)) = false from rfl, show decide ((0 : Int32) = (2 : Int32)) = false from rfl, show decide ((0 : Int32) = (3 : Int32)) = false from rfl, show decide ((0 : Int32) = (4 : Int32)) = false from rfl, show decide ((0 : Int32) = (5 : Int32)) = false from rfl, show decide ((0 : Int32) = (6 : Int32)) = false from rfl, show decide ((0 : Int32) = (7 : Int32)) = false from rfl, show decide ((0 : Int32) = (8 : Int32)) = false from rfl, show decide ((0 : Int32) = (9 : Int32)) = false from rfl, show decide ((0 : Int32) = (10 : Int32)) = false from rfl, show decide ((3 : Int32) ≤ (0 : Int32)) = false from rfl, show decide ((7 : Int32) ≤ (0 : Int32)) = false from rfl, show v_D_isIn (0 : Int32) (0 : Int32) (10 : Int32) = true from rfl, zn_0, zk_t, zk_f, decide_true]
      rw [hw]
      unfold t_N_kind v_N_kind v_D_kind w_D_kind ok_D_kind
      simp only [t, i', show decide ((0 : Int32) = (1 : Int32)) = false from rfl, show decide ((0 : Int32) = (2 : Int32)) = false from rfl, show decide ((0 : Int32) = (3 : Int32)) = false from rfl, show decide ((0 : Int32) = (4 : Int32)) = false from rfl, show decide ((0 : Int32) = (5 : Int32)) = false from rfl, show decide ((0 : Int32) = (6 : Int32)) = false from rfl, show decide ((0 : Int32) = (7 : Int32)) = false from rfl, show decide ((0 : Int32) = (8 : Int32)) = false from rfl, show decide ((0 : Int32) = (9 : Int32)) = false from rfl, show decide ((0 : Int32) = (10 : Int32)) = false from rfl, show decide ((3 : Int32) ≤ (0 : Int32)) = false from rfl, show decide ((7 : Int32) ≤ (0 : Int32)) = false from rfl, show v_D_isIn (0 : Int32) (0 : Int32) (10 : Int32) = true from rfl, zn_0, zk_t, zk_f, zd_0, decide_true]
      exact ⟨okN _, fun _ => (by first | rfl | trivial), Or.inl (by first | rfl | trivial), fun _ => ⟨(fun hh => by cases hh), fun _ => (k0 _).1⟩, (by first | rfl | trivial), fun _ => (by rw [zi_nat (by omega)]; exact (hkd.1).symm), zv_th hI 0⟩
    by_cases y1 : y = 1
    · subst y1
      have hw : w_N_kind M (Int32.ofNat p) 1 = M := by
        unfold w_N_kind
        simp only [t, show decide ((1 : Int32) = (0 : Int32)) = false from rfl, show decide ((1 : Int32) = (2 : Int32)) = false from rfl, show decide ((1 : Int32) = (3 : Int32)) = false from rfl, show decide ((1 : Int32) = (4 : Int32)) = false from rfl, show decide ((1 : Int32) = (5 : Int32)) = false from rfl, show decide ((1 : Int32) = (6 : Int32)) = false from rfl, show decide ((1 : Int32) = (7 : Int32)) = false from rfl, show decide ((1 : Int32) = (8 : Int32)) = false from rfl, show decide ((1 : Int32) = (9 : Int32)) = false from rfl, show decide ((1 : Int32) = (10 : Int32)) = false from rfl, show decide ((3 : Int32) ≤ (1 : Int32)) = false from rfl, show decide ((7 : Int32) ≤ (1 : Int32)) = false from rfl, show v_D_isIn (1 : Int32) (0 : Int32) (10 : Int32) = true from rfl, zn_0, zk_t, zk_f, decide_true]
      rw [hw]
      unfold t_N_kind v_N_kind v_D_kind w_D_kind ok_D_kind
      simp only [t, i', show decide ((1 : Int32) = (0 : Int32)) = false from rfl, show decide ((1 : Int32) = (2 : Int32)) = false from rfl, show decide ((1 : Int32) = (3 : Int32)) = false from rfl, show decide ((1 : Int32) = (4 : Int32)) = false from rfl, show decide ((1 : Int32) = (5 : Int32)) = false from rfl, show decide ((1 : Int32) = (6 : Int32)) = false from rfl, show decide ((1 : Int32) = (7 : Int32)) = false from rfl, show decide ((1 : Int32) = (8 : Int32)) = false from rfl, show decide ((1 : Int32) = (9 : Int32)) = false from rfl, show decide ((1 : Int32) = (10 : Int32)) = false from rfl, show decide ((3 : Int32) ≤ (1 : Int32)) = false from rfl, show decide ((7 : Int32) ≤ (1 : Int32)) = false from rfl, show v_D_isIn (1 : Int32) (0 : Int32) (10 : Int32) = true from rfl, zn_0, zk_t, zk_f, zd_0, decide_true]
      exact ⟨okN _, fun _ => (by first | rfl | trivial), Or.inl (by first | rfl | trivial), fun _ => ⟨(fun hh => by cases hh), fun _ => (k0 _).2.1⟩, (by first | rfl | trivial), fun _ => (by rw [zi_nat (by omega)]; exact (hkd.2.1).symm), zv_th hI 0⟩
    by_cases y2 : y = 2
    · subst y2
      have hw : w_N_kind M (Int32.ofNat p) 2 = M := by
        unfold w_N_kind
        simp only [t, show decide ((2 : Int32) = (0 : Int32)) = false from rfl, show decide ((2 : Int32) = (1 : Int32)) = false from rfl, show decide ((2 : Int32) = (3 : Int32)) = false from rfl, show decide ((2 : Int32) = (4 : Int32)) = false from rfl, show decide ((2 : Int32) = (5 : Int32)) = false from rfl, show decide ((2 : Int32) = (6 : Int32)) = false from rfl, show decide ((2 : Int32) = (7 : Int32)) = false from rfl, show decide ((2 : Int32) = (8 : Int32)) = false from rfl, show decide ((2 : Int32) = (9 : Int32)) = false from rfl, show decide ((2 : Int32) = (10 : Int32)) = false from rfl, show decide ((3 : Int32) ≤ (2 : Int32)) = false from rfl, show decide ((7 : Int32) ≤ (2 : Int32)) = false from rfl, show v_D_isIn (2 : Int32) (0 : Int32) (10 : Int32) = true from rfl, zn_0, zk_t, zk_f, decide_true]
      rw [hw]
      unfold t_N_kind v_N_kind v_D_kind w_D_kind ok_D_kind
      simp only [t, i', show decide ((2 : Int32) = (0 : Int32)) = false from rfl, show decide ((2 : Int32) = (1 : Int32)) = false from rfl, show decide ((2 : Int32) = (3 : Int32)) = false from rfl, show decide ((2 : Int32) = (4 : Int32)) = false from rfl, show decide ((2 : Int32) = (5 : Int32)) = false from rfl, show decide ((2 : Int32) = (6 : Int32)) = false from rfl, show decide ((2 : Int32) = (7 : Int32)) = false from rfl, show decide ((2 : Int32) = (8 : Int32)) = false from rfl, show decide ((2 : Int32) = (9 : Int32)) = false from rfl, show decide ((2 : Int32) = (10 : Int32)) = false from rfl, show decide ((3 : Int32) ≤ (2 : Int32)) = false from rfl, show decide ((7 : Int32) ≤ (2 : Int32)) = false from rfl, show v_D_isIn (2 : Int32) (0 : Int32) (10 : Int32) = true from rfl, zn_0, zk_t, zk_f, zd_0, decide_true]
      exact ⟨okN _, fun _ => (by first | rfl | trivial), Or.inl (by first | rfl | trivial), fun _ => ⟨(fun hh => by cases hh), fun _ => (k0 _).2.2⟩, (by first | rfl | trivial), fun _ => (by rw [zi_nat (by omega)]; exact (hkd.2.2).symm), zv_th hI 0⟩
    by_cases y3 : y = 3
    · subst y3
      have hw : w_N_kind M (Int32.ofNat p) 3 = w_G_fewestPlaces M (Int32.ofNat p) := by
        unfold w_N_kind
        simp only [t, show decide ((3 : Int32) = (0 : Int32)) = false from rfl, show decide ((3 : Int32) = (1 : Int32)) = false from rfl, show decide ((3 : Int32) = (2 : Int32)) = false from rfl, show decide ((3 : Int32) = (4 : Int32)) = false from rfl, show decide ((3 : Int32) = (5 : Int32)) = false from rfl, show decide ((3 : Int32) = (6 : Int32)) = false from rfl, show decide ((3 : Int32) = (7 : Int32)) = false from rfl, show decide ((3 : Int32) = (8 : Int32)) = false from rfl, show decide ((3 : Int32) = (9 : Int32)) = false from rfl, show decide ((3 : Int32) = (10 : Int32)) = false from rfl, show decide ((3 : Int32) ≤ (3 : Int32)) = true from rfl, show decide ((7 : Int32) ≤ (3 : Int32)) = false from rfl, show v_D_isIn (3 : Int32) (0 : Int32) (10 : Int32) = true from rfl, zn_0, zk_t, zk_f, decide_true]
      rw [hw]
      unfold t_N_kind v_N_kind v_D_kind w_D_kind ok_D_kind
      simp only [t, i', show decide ((3 : Int32) = (0 : Int32)) = false from rfl, show decide ((3 : Int32) = (1 : Int32)) = false from rfl, show decide ((3 : Int32) = (2 : Int32)) = false from rfl, show decide ((3 : Int32) = (4 : Int32)) = false from rfl, show decide ((3 : Int32) = (5 : Int32)) = false from rfl, show decide ((3 : Int32) = (6 : Int32)) = false from rfl, show decide ((3 : Int32) = (7 : Int32)) = false from rfl, show decide ((3 : Int32) = (8 : Int32)) = false from rfl, show decide ((3 : Int32) = (9 : Int32)) = false from rfl, show decide ((3 : Int32) = (10 : Int32)) = false from rfl, show decide ((3 : Int32) ≤ (3 : Int32)) = true from rfl, show decide ((7 : Int32) ≤ (3 : Int32)) = false from rfl, show v_D_isIn (3 : Int32) (0 : Int32) (10 : Int32) = true from rfl, zn_0, zk_t, zk_f, zd_0, decide_true]
      exact ⟨okN _, fun j => f4 0 j (by omega), Or.inl (by first | rfl | trivial), fun _ => ⟨fun _ => ⟨fun _ => f3, (fun hh => by cases hh)⟩, (fun hh => by cases hh)⟩, (by first | rfl | trivial), fun _ => (f1), zv_sc hI (fun a j hs => by have h9 := zs_o hs; rw [zu_o (by omega)]; exact f4 a j (by omega)) (by rw [zu_o (by omega)]; exact f4 194 15 (by omega)) (by rw [zu_o (by omega)]; exact f4 194 16 (by omega))⟩
    by_cases y4 : y = 4
    · subst y4
      have hw : w_N_kind M (Int32.ofNat p) 4 = M := by
        unfold w_N_kind
        simp only [t, show decide ((4 : Int32) = (0 : Int32)) = false from rfl, show decide ((4 : Int32) = (1 : Int32)) = false from rfl, show decide ((4 : Int32) = (2 : Int32)) = false from rfl, show decide ((4 : Int32) = (3 : Int32)) = false from rfl, show decide ((4 : Int32) = (5 : Int32)) = false from rfl, show decide ((4 : Int32) = (6 : Int32)) = false from rfl, show decide ((4 : Int32) = (7 : Int32)) = false from rfl, show decide ((4 : Int32) = (8 : Int32)) = false from rfl, show decide ((4 : Int32) = (9 : Int32)) = false from rfl, show decide ((4 : Int32) = (10 : Int32)) = false from rfl, show decide ((3 : Int32) ≤ (4 : Int32)) = true from rfl, show decide ((7 : Int32) ≤ (4 : Int32)) = false from rfl, show v_D_isIn (4 : Int32) (0 : Int32) (10 : Int32) = true from rfl, zn_0, zk_t, zk_f, decide_true]
      rw [hw]
      unfold t_N_kind v_N_kind v_D_kind w_D_kind ok_D_kind
      simp only [t, i', show decide ((4 : Int32) = (0 : Int32)) = false from rfl, show decide ((4 : Int32) = (1 : Int32)) = false from rfl, show decide ((4 : Int32) = (2 : Int32)) = false from rfl, show decide ((4 : Int32) = (3 : Int32)) = false from rfl, show decide ((4 : Int32) = (5 : Int32)) = false from rfl, show decide ((4 : Int32) = (6 : Int32)) = false from rfl, show decide ((4 : Int32) = (7 : Int32)) = false from rfl, show decide ((4 : Int32) = (8 : Int32)) = false from rfl, show decide ((4 : Int32) = (9 : Int32)) = false from rfl, show decide ((4 : Int32) = (10 : Int32)) = false from rfl, show decide ((3 : Int32) ≤ (4 : Int32)) = true from rfl, show decide ((7 : Int32) ≤ (4 : Int32)) = false from rfl, show v_D_isIn (4 : Int32) (0 : Int32) (10 : Int32) = true from rfl, zn_0, zk_t, zk_f, zd_0, decide_true]
      exact ⟨okN _, fun _ => (by first | rfl | trivial), Or.inl (by first | rfl | trivial), fun _ => ⟨fun _ => ⟨(fun hh => by cases hh), fun _ => ⟨fun _ => s3, (fun hh => by cases hh)⟩⟩, (fun hh => by cases hh)⟩, (by first | rfl | trivial), fun _ => (s1), zv_th hI 0⟩
    by_cases y5 : y = 5
    · subst y5
      have hw : w_N_kind M (Int32.ofNat p) 5 = M := by
        unfold w_N_kind
        simp only [t, show decide ((5 : Int32) = (0 : Int32)) = false from rfl, show decide ((5 : Int32) = (1 : Int32)) = false from rfl, show decide ((5 : Int32) = (2 : Int32)) = false from rfl, show decide ((5 : Int32) = (3 : Int32)) = false from rfl, show decide ((5 : Int32) = (4 : Int32)) = false from rfl, show decide ((5 : Int32) = (6 : Int32)) = false from rfl, show decide ((5 : Int32) = (7 : Int32)) = false from rfl, show decide ((5 : Int32) = (8 : Int32)) = false from rfl, show decide ((5 : Int32) = (9 : Int32)) = false from rfl, show decide ((5 : Int32) = (10 : Int32)) = false from rfl, show decide ((3 : Int32) ≤ (5 : Int32)) = true from rfl, show decide ((7 : Int32) ≤ (5 : Int32)) = false from rfl, show v_D_isIn (5 : Int32) (0 : Int32) (10 : Int32) = true from rfl, zn_0, zk_t, zk_f, decide_true]
      rw [hw]
      unfold t_N_kind v_N_kind v_D_kind w_D_kind ok_D_kind
      simp only [t, i', show decide ((5 : Int32) = (0 : Int32)) = false from rfl, show decide ((5 : Int32) = (1 : Int32)) = false from rfl, show decide ((5 : Int32) = (2 : Int32)) = false from rfl, show decide ((5 : Int32) = (3 : Int32)) = false from rfl, show decide ((5 : Int32) = (4 : Int32)) = false from rfl, show decide ((5 : Int32) = (6 : Int32)) = false from rfl, show decide ((5 : Int32) = (7 : Int32)) = false from rfl, show decide ((5 : Int32) = (8 : Int32)) = false from rfl, show decide ((5 : Int32) = (9 : Int32)) = false from rfl, show decide ((5 : Int32) = (10 : Int32)) = false from rfl, show decide ((3 : Int32) ≤ (5 : Int32)) = true from rfl, show decide ((7 : Int32) ≤ (5 : Int32)) = false from rfl, show v_D_isIn (5 : Int32) (0 : Int32) (10 : Int32) = true from rfl, zn_0, zk_t, zk_f, zd_0, decide_true]
      exact ⟨okN _, fun _ => (by first | rfl | trivial), Or.inl (by first | rfl | trivial), fun _ => ⟨fun _ => ⟨(fun hh => by cases hh), fun _ => ⟨(fun hh => by cases hh), fun _ => ⟨(fun hh => by cases hh), fun _ => (k0 _).1⟩⟩⟩, (fun hh => by cases hh)⟩, (by first | rfl | trivial), fun _ => (by rw [zi_nat (by omega)]; exact p1), zv_th hI 0⟩
    by_cases y6 : y = 6
    · subst y6
      have hw : w_N_kind M (Int32.ofNat p) 6 = M := by
        unfold w_N_kind
        simp only [t, show decide ((6 : Int32) = (0 : Int32)) = false from rfl, show decide ((6 : Int32) = (1 : Int32)) = false from rfl, show decide ((6 : Int32) = (2 : Int32)) = false from rfl, show decide ((6 : Int32) = (3 : Int32)) = false from rfl, show decide ((6 : Int32) = (4 : Int32)) = false from rfl, show decide ((6 : Int32) = (5 : Int32)) = false from rfl, show decide ((6 : Int32) = (7 : Int32)) = false from rfl, show decide ((6 : Int32) = (8 : Int32)) = false from rfl, show decide ((6 : Int32) = (9 : Int32)) = false from rfl, show decide ((6 : Int32) = (10 : Int32)) = false from rfl, show decide ((3 : Int32) ≤ (6 : Int32)) = true from rfl, show decide ((7 : Int32) ≤ (6 : Int32)) = false from rfl, show v_D_isIn (6 : Int32) (0 : Int32) (10 : Int32) = true from rfl, zn_0, zk_t, zk_f, decide_true]
      rw [hw]
      unfold t_N_kind v_N_kind v_D_kind w_D_kind ok_D_kind
      simp only [t, i', show decide ((6 : Int32) = (0 : Int32)) = false from rfl, show decide ((6 : Int32) = (1 : Int32)) = false from rfl, show decide ((6 : Int32) = (2 : Int32)) = false from rfl, show decide ((6 : Int32) = (3 : Int32)) = false from rfl, show decide ((6 : Int32) = (4 : Int32)) = false from rfl, show decide ((6 : Int32) = (5 : Int32)) = false from rfl, show decide ((6 : Int32) = (7 : Int32)) = false from rfl, show decide ((6 : Int32) = (8 : Int32)) = false from rfl, show decide ((6 : Int32) = (9 : Int32)) = false from rfl, show decide ((6 : Int32) = (10 : Int32)) = false from rfl, show decide ((3 : Int32) ≤ (6 : Int32)) = true from rfl, show decide ((7 : Int32) ≤ (6 : Int32)) = false from rfl, show v_D_isIn (6 : Int32) (0 : Int32) (10 : Int32) = true from rfl, zn_0, zk_t, zk_f, zd_0, decide_true]
      exact ⟨okN _, fun _ => (by first | rfl | trivial), Or.inl (by first | rfl | trivial), fun _ => ⟨fun _ => ⟨(fun hh => by cases hh), fun _ => ⟨(fun hh => by cases hh), fun _ => ⟨(fun hh => by cases hh), fun _ => (k0 _).1⟩⟩⟩, (fun hh => by cases hh)⟩, (by first | rfl | trivial), fun _ => (by rw [zi_nat (by omega)]; exact p3), zv_th hI 0⟩
    by_cases y7 : y = 7
    · subst y7
      have hw : w_N_kind M (Int32.ofNat p) 7 = M := by
        unfold w_N_kind
        simp only [t, show decide ((7 : Int32) = (0 : Int32)) = false from rfl, show decide ((7 : Int32) = (1 : Int32)) = false from rfl, show decide ((7 : Int32) = (2 : Int32)) = false from rfl, show decide ((7 : Int32) = (3 : Int32)) = false from rfl, show decide ((7 : Int32) = (4 : Int32)) = false from rfl, show decide ((7 : Int32) = (5 : Int32)) = false from rfl, show decide ((7 : Int32) = (6 : Int32)) = false from rfl, show decide ((7 : Int32) = (8 : Int32)) = false from rfl, show decide ((7 : Int32) = (9 : Int32)) = false from rfl, show decide ((7 : Int32) = (10 : Int32)) = false from rfl, show decide ((3 : Int32) ≤ (7 : Int32)) = true from rfl, show decide ((7 : Int32) ≤ (7 : Int32)) = true from rfl, show v_D_isIn (7 : Int32) (0 : Int32) (10 : Int32) = true from rfl, zn_0, zk_t, zk_f, decide_true]
      rw [hw]
      unfold t_N_kind v_N_kind v_D_kind w_D_kind ok_D_kind
      simp only [t, i', show decide ((7 : Int32) = (0 : Int32)) = false from rfl, show decide ((7 : Int32) = (1 : Int32)) = false from rfl, show decide ((7 : Int32) = (2 : Int32)) = false from rfl, show decide ((7 : Int32) = (3 : Int32)) = false from rfl, show decide ((7 : Int32) = (4 : Int32)) = false from rfl, show decide ((7 : Int32) = (5 : Int32)) = false from rfl, show decide ((7 : Int32) = (6 : Int32)) = false from rfl, show decide ((7 : Int32) = (8 : Int32)) = false from rfl, show decide ((7 : Int32) = (9 : Int32)) = false from rfl, show decide ((7 : Int32) = (10 : Int32)) = false from rfl, show decide ((3 : Int32) ≤ (7 : Int32)) = true from rfl, show decide ((7 : Int32) ≤ (7 : Int32)) = true from rfl, show v_D_isIn (7 : Int32) (0 : Int32) (10 : Int32) = true from rfl, zn_0, zk_t, zk_f, zd_0, decide_true]
      exact ⟨okN _, fun _ => (by first | rfl | trivial), Or.inl (by first | rfl | trivial), fun _ => ⟨fun _ => ⟨(fun hh => by cases hh), fun _ => ⟨(fun hh => by cases hh), fun _ => ⟨fun _ => ⟨fun _ => (k0 _).1, (fun hh => by cases hh)⟩, (fun hh => by cases hh)⟩⟩⟩, (fun hh => by cases hh)⟩, (by first | rfl | trivial), fun _ => (by rw [zi_nat (by omega)]; exact hh1), zv_th hI 0⟩
    by_cases y8 : y = 8
    · subst y8
      have hw : w_N_kind M (Int32.ofNat p) 8 = M := by
        unfold w_N_kind
        simp only [t, show decide ((8 : Int32) = (0 : Int32)) = false from rfl, show decide ((8 : Int32) = (1 : Int32)) = false from rfl, show decide ((8 : Int32) = (2 : Int32)) = false from rfl, show decide ((8 : Int32) = (3 : Int32)) = false from rfl, show decide ((8 : Int32) = (4 : Int32)) = false from rfl, show decide ((8 : Int32) = (5 : Int32)) = false from rfl, show decide ((8 : Int32) = (6 : Int32)) = false from rfl, show decide ((8 : Int32) = (7 : Int32)) = false from rfl, show decide ((8 : Int32) = (9 : Int32)) = false from rfl, show decide ((8 : Int32) = (10 : Int32)) = false from rfl, show decide ((3 : Int32) ≤ (8 : Int32)) = true from rfl, show decide ((7 : Int32) ≤ (8 : Int32)) = true from rfl, show v_D_isIn (8 : Int32) (0 : Int32) (10 : Int32) = true from rfl, zn_0, zk_t, zk_f, decide_true]
      rw [hw]
      unfold t_N_kind v_N_kind v_D_kind w_D_kind ok_D_kind
      simp only [t, i', show decide ((8 : Int32) = (0 : Int32)) = false from rfl, show decide ((8 : Int32) = (1 : Int32)) = false from rfl, show decide ((8 : Int32) = (2 : Int32)) = false from rfl, show decide ((8 : Int32) = (3 : Int32)) = false from rfl, show decide ((8 : Int32) = (4 : Int32)) = false from rfl, show decide ((8 : Int32) = (5 : Int32)) = false from rfl, show decide ((8 : Int32) = (6 : Int32)) = false from rfl, show decide ((8 : Int32) = (7 : Int32)) = false from rfl, show decide ((8 : Int32) = (9 : Int32)) = false from rfl, show decide ((8 : Int32) = (10 : Int32)) = false from rfl, show decide ((3 : Int32) ≤ (8 : Int32)) = true from rfl, show decide ((7 : Int32) ≤ (8 : Int32)) = true from rfl, show v_D_isIn (8 : Int32) (0 : Int32) (10 : Int32) = true from rfl, zn_0, zk_t, zk_f, zd_0, decide_true]
      exact ⟨okN _, fun _ => (by first | rfl | trivial), Or.inl (by first | rfl | trivial), fun _ => ⟨fun _ => ⟨(fun hh => by cases hh), fun _ => ⟨(fun hh => by cases hh), fun _ => ⟨fun _ => ⟨(fun hh => by cases hh), fun _ => ⟨fun _ => d3, (fun hh => by cases hh)⟩⟩, (fun hh => by cases hh)⟩⟩⟩, (fun hh => by cases hh)⟩, (by first | rfl | trivial), fun _ => (d1), zv_th hI 0⟩
    by_cases y9 : y = 9
    · subst y9
      have hw : w_N_kind M (Int32.ofNat p) 9 = M := by
        unfold w_N_kind
        simp only [t, show decide ((9 : Int32) = (0 : Int32)) = false from rfl, show decide ((9 : Int32) = (1 : Int32)) = false from rfl, show decide ((9 : Int32) = (2 : Int32)) = false from rfl, show decide ((9 : Int32) = (3 : Int32)) = false from rfl, show decide ((9 : Int32) = (4 : Int32)) = false from rfl, show decide ((9 : Int32) = (5 : Int32)) = false from rfl, show decide ((9 : Int32) = (6 : Int32)) = false from rfl, show decide ((9 : Int32) = (7 : Int32)) = false from rfl, show decide ((9 : Int32) = (8 : Int32)) = false from rfl, show decide ((9 : Int32) = (10 : Int32)) = false from rfl, show decide ((3 : Int32) ≤ (9 : Int32)) = true from rfl, show decide ((7 : Int32) ≤ (9 : Int32)) = true from rfl, show v_D_isIn (9 : Int32) (0 : Int32) (10 : Int32) = true from rfl, zn_0, zk_t, zk_f, decide_true]
      rw [hw]
      unfold t_N_kind v_N_kind v_D_kind w_D_kind ok_D_kind
      simp only [t, i', show decide ((9 : Int32) = (0 : Int32)) = false from rfl, show decide ((9 : Int32) = (1 : Int32)) = false from rfl, show decide ((9 : Int32) = (2 : Int32)) = false from rfl, show decide ((9 : Int32) = (3 : Int32)) = false from rfl, show decide ((9 : Int32) = (4 : Int32)) = false from rfl, show decide ((9 : Int32) = (5 : Int32)) = false from rfl, show decide ((9 : Int32) = (6 : Int32)) = false from rfl, show decide ((9 : Int32) = (7 : Int32)) = false from rfl, show decide ((9 : Int32) = (8 : Int32)) = false from rfl, show decide ((9 : Int32) = (10 : Int32)) = false from rfl, show decide ((3 : Int32) ≤ (9 : Int32)) = true from rfl, show decide ((7 : Int32) ≤ (9 : Int32)) = true from rfl, show v_D_isIn (9 : Int32) (0 : Int32) (10 : Int32) = true from rfl, zn_0, zk_t, zk_f, zd_0, decide_true]
      exact ⟨okN _, fun _ => (by first | rfl | trivial), Or.inl (by first | rfl | trivial), fun _ => ⟨fun _ => ⟨(fun hh => by cases hh), fun _ => ⟨(fun hh => by cases hh), fun _ => ⟨fun _ => ⟨(fun hh => by cases hh), fun _ => ⟨(fun hh => by cases hh), fun _ => ⟨fun _ => a3, (fun hh => by cases hh)⟩⟩⟩, (fun hh => by cases hh)⟩⟩⟩, (fun hh => by cases hh)⟩, (by first | rfl | trivial), fun _ => (a1), zv_th hI 0⟩
    by_cases y10 : y = 10
    · subst y10
      have hw : w_N_kind M (Int32.ofNat p) 10 = M := by
        unfold w_N_kind
        simp only [t, show decide ((10 : Int32) = (0 : Int32)) = false from rfl, show decide ((10 : Int32) = (1 : Int32)) = false from rfl, show decide ((10 : Int32) = (2 : Int32)) = false from rfl, show decide ((10 : Int32) = (3 : Int32)) = false from rfl, show decide ((10 : Int32) = (4 : Int32)) = false from rfl, show decide ((10 : Int32) = (5 : Int32)) = false from rfl, show decide ((10 : Int32) = (6 : Int32)) = false from rfl, show decide ((10 : Int32) = (7 : Int32)) = false from rfl, show decide ((10 : Int32) = (8 : Int32)) = false from rfl, show decide ((10 : Int32) = (9 : Int32)) = false from rfl, show decide ((3 : Int32) ≤ (10 : Int32)) = true from rfl, show decide ((7 : Int32) ≤ (10 : Int32)) = true from rfl, show v_D_isIn (10 : Int32) (0 : Int32) (10 : Int32) = true from rfl, zn_0, zk_t, zk_f, decide_true]
      rw [hw]
      unfold t_N_kind v_N_kind v_D_kind w_D_kind ok_D_kind
      simp only [t, i', show decide ((10 : Int32) = (0 : Int32)) = false from rfl, show decide ((10 : Int32) = (1 : Int32)) = false from rfl, show decide ((10 : Int32) = (2 : Int32)) = false from rfl, show decide ((10 : Int32) = (3 : Int32)) = false from rfl, show decide ((10 : Int32) = (4 : Int32)) = false from rfl, show decide ((10 : Int32) = (5 : Int32)) = false from rfl, show decide ((10 : Int32) = (6 : Int32)) = false from rfl, show decide ((10 : Int32) = (7 : Int32)) = false from rfl, show decide ((10 : Int32) = (8 : Int32)) = false from rfl, show decide ((10 : Int32) = (9 : Int32)) = false from rfl, show decide ((3 : Int32) ≤ (10 : Int32)) = true from rfl, show decide ((7 : Int32) ≤ (10 : Int32)) = true from rfl, show v_D_isIn (10 : Int32) (0 : Int32) (10 : Int32) = true from rfl, zn_0, zk_t, zk_f, zd_0, decide_true]
      exact ⟨okN _, fun _ => (by first | rfl | trivial), Or.inl (by first | rfl | trivial), fun _ => ⟨fun _ => ⟨(fun hh => by cases hh), fun _ => ⟨(fun hh => by cases hh), fun _ => ⟨fun _ => ⟨(fun hh => by cases hh), fun _ => ⟨(fun hh => by cases hh), fun _ => ⟨(fun hh => by cases hh), fun _ => b3⟩⟩⟩, (fun hh => by cases hh)⟩⟩⟩, (fun hh => by cases hh)⟩, (by first | rfl | trivial), fun _ => (b1), zv_th hI 0⟩
    have hin : v_D_isIn y (0 : Int32) (10 : Int32) = false := by
      rw [zg_in]
      refine decide_eq_false (fun hh => ?_)
      have e0 : (0 : Int32).toInt = 0 := rfl
      have e10 : (10 : Int32).toInt = 10 := rfl
      rcases (show y.toInt = 0 ∨ y.toInt = 1 ∨ y.toInt = 2 ∨ y.toInt = 3 ∨ y.toInt = 4 ∨ y.toInt = 5 ∨ y.toInt = 6 ∨ y.toInt = 7 ∨ y.toInt = 8 ∨ y.toInt = 9 ∨ y.toInt = 10 by omega) with h | h | h | h | h | h | h | h | h | h | h
      · exact y0 (zi_eq (by rw [h]; rfl))
      · exact y1 (zi_eq (by rw [h]; rfl))
      · exact y2 (zi_eq (by rw [h]; rfl))
      · exact y3 (zi_eq (by rw [h]; rfl))
      · exact y4 (zi_eq (by rw [h]; rfl))
      · exact y5 (zi_eq (by rw [h]; rfl))
      · exact y6 (zi_eq (by rw [h]; rfl))
      · exact y7 (zi_eq (by rw [h]; rfl))
      · exact y8 (zi_eq (by rw [h]; rfl))
      · exact y9 (zi_eq (by rw [h]; rfl))
      · exact y10 (zi_eq (by rw [h]; rfl))
    have hw : w_N_kind M (Int32.ofNat p) y = M := by
      unfold w_N_kind
      simp only [t, decide_eq_false y0, decide_eq_false y1, decide_eq_false y2, decide_eq_false y3, decide_eq_false y4, decide_eq_false y5, decide_eq_false y6, decide_eq_false y7, decide_eq_false y8, decide_eq_false y9, decide_eq_false y10, zn_0, zk_t, zk_f]
    rw [hw]
    unfold t_N_kind v_N_kind v_D_kind w_D_kind ok_D_kind
    simp only [t, i', hin, decide_eq_false y0, decide_eq_false y1, decide_eq_false y2, decide_eq_false y3, decide_eq_false y4, decide_eq_false y5, decide_eq_false y6, decide_eq_false y7, decide_eq_false y8, decide_eq_false y9, decide_eq_false y10, zn_0, zk_t, zk_f]
    exact ⟨okN _, fun _ => (by first | rfl | trivial), Or.inr (Or.inr (by first | rfl | trivial)), (fun hh => by cases hh), (by first | rfl | trivial), (fun hh => by cases hh), zv_th hI _⟩
  · have i' : v_D_isKind x = false := i
    have hw : w_N_kind M x y = M := by
      unfold w_N_kind
      simp only [t, show Nat.beq 3 0 = false from rfl, zk_f]
    rw [hw]
    unfold ok_N_kind t_N_kind v_N_kind v_D_kind w_D_kind ok_D_kind
    simp only [t, i', show Nat.beq 3 0 = false from rfl, zk_f]
    exact ⟨(fun hh => by cases hh), fun _ => (by first | rfl | trivial), Or.inr (Or.inl (by first | rfl | trivial)), (fun hh => by cases hh), (by first | rfl | trivial), (fun hh => by cases hh), zv_th hI _⟩
