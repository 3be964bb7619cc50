/-! the sure year, the share; call 6 -/
theorem zS_c {M : zMem} (hI : zv_Inv M) {p : Nat} (hp : p < 6) : ((∃ k, k ≤ 60 ∧ (zf_wh 1000 (g_N_sureYear_1 M (Int32.ofNat p)) 0 (false, 0, (w_S_copyFrom M 15 4))).1 = true ∧ (zf_wh 1000 (g_N_sureYear_1 M (Int32.ofNat p)) 0 (false, 0, (w_S_copyFrom M 15 4))).2.1 = Int32.ofNat k ∧ (zf_wh 1000 (g_N_sureYear_1 M (Int32.ofNat p)) 0 (false, 0, (w_S_copyFrom M 15 4))).2.2 = zCk M k ∧ v_S_hasDoneItsDeed (zCk M k) 15 (Int32.ofNat p) = true ∧ ∀ j, j < k → v_S_hasDoneItsDeed (zCk M j) 15 (Int32.ofNat p) = false) ∨ ((zf_wh 1000 (g_N_sureYear_1 M (Int32.ofNat p)) 0 (false, 0, (w_S_copyFrom M 15 4))).1 = false ∧ (zf_wh 1000 (g_N_sureYear_1 M (Int32.ofNat p)) 0 (false, 0, (w_S_copyFrom M 15 4))).2.2 = zCk M 61 ∧ ∀ j, j < 61 → v_S_hasDoneItsDeed (zCk M j) 15 (Int32.ofNat p) = false)) ∧ zf_wk 1000 (g_N_sureYear_1 M (Int32.ofNat p)) (kb_N_sureYear_1 M (Int32.ofNat p)) 0 (false, 0, (w_S_copyFrom M 15 4)) := by
  have V := zV_k (zv_St hI) (zv_al hI).2.1 hI.2.1 hI.2.2
  refine zf_wq (g := g_N_sureYear_1 M (Int32.ofNat p)) (k := kb_N_sureYear_1 M (Int32.ofNat p)) (fun i (s : Bool × Int32 × zMem) => i ≤ 61 ∧ s.2.2 = zCk M i ∧ ∀ j, j < i → v_S_hasDoneItsDeed (zCk M j) 15 (Int32.ofNat p) = false) (fun (s : Bool × Int32 × zMem) => (∃ k, k ≤ 60 ∧ s.1 = true ∧ s.2.1 = Int32.ofNat k ∧ s.2.2 = zCk M k ∧ v_S_hasDoneItsDeed (zCk M k) 15 (Int32.ofNat p) = true ∧ ∀ j, j < k → v_S_hasDoneItsDeed (zCk M j) 15 (Int32.ofNat p) = false) ∨ (s.1 = false ∧ s.2.2 = zCk M 61 ∧ ∀ j, j < 61 → v_S_hasDoneItsDeed (zCk M j) 15 (Int32.ofNat p) = false)) 61 (fun i s ⟨hi, h1, h2⟩ => ?_) 1000 0 (false, 0, (w_S_copyFrom M 15 4)) ⟨by omega, rfl, fun j hj => by omega⟩ (by omega)
  unfold g_N_sureYear_1 kb_N_sureYear_1
  rw [h1, show (60 : Int32) = Int32.ofNat 60 from rfl, zi_lt' (by omega) (by omega)]
  by_cases c : 60 < i
  · have e : i = 61 := by omega
    subst e
    rw [decide_eq_true c]
    exact ⟨hi, (fun hh => by cases hh), (fun hh => by cases hh), fun _ => Or.inr ⟨rfl, (by simp only [zk_t]), h2⟩⟩
  · rw [decide_eq_false c]
    cases hd : v_S_hasDoneItsDeed (zCk M i) 15 (Int32.ofNat p) with
    | true =>
      simp only [zk_f, zk_t]
      exact ⟨hi, fun _ => ⟨(zw_hd (V i).1.1 hp).2, (fun hh => by cases hh)⟩, (fun hh => by cases hh), fun _ => Or.inl ⟨i, by omega, (by first | rfl | trivial), rfl, rfl, hd, h2⟩⟩
    | false =>
      simp only [zk_f]
      refine ⟨hi, fun _ => ⟨(zw_hd (V i).1.1 hp).2, fun _ => (V i).2.1⟩, fun _ => ⟨by omega, rfl, fun j hj => ?_⟩, (fun hh => by cases hh)⟩
      by_cases e : j = i
      · rw [e]; exact hd
      · exact h2 j (by omega)
theorem zS_d {M R : zMem} (hI : zv_Inv M) {p : Nat} (hp : p < 6) (r4 : R 195 = M 195) (b15 : zz_b01 (R 194 15) = true) (b16 : zz_b01 (R 194 16) = true) (hu : ¬ M 8 p = -1) (M0 : zMem) : ((∃ i, (zf_wh 1000 (g_D_sureOf_1 M0 (Int32.ofNat p)) 0 ((-1 : Int32), R)).2 = zDk R i) ∧ ((∃ k, k ≤ 60 ∧ (zf_wh 1000 (g_D_sureOf_1 M0 (Int32.ofNat p)) 0 ((-1 : Int32), R)).1 = Int32.ofNat k ∧ v_S_hasDoneItsDeed (zCk M k) 15 (Int32.ofNat p) = true ∧ ∀ j, j < k → v_S_hasDoneItsDeed (zCk M j) 15 (Int32.ofNat p) = false) ∨ ((zf_wh 1000 (g_D_sureOf_1 M0 (Int32.ofNat p)) 0 ((-1 : Int32), R)).1 = -1 ∧ ∀ j, j < 61 → v_S_hasDoneItsDeed (zCk M j) 15 (Int32.ofNat p) = false))) ∧ zf_wk 1000 (g_D_sureOf_1 M0 (Int32.ofNat p)) (kb_D_sureOf_1 M0 (Int32.ofNat p)) 0 ((-1 : Int32), R) := by
  have V := zV_k (N := M) (R := R) (by rw [r4]; exact zv_St hI) (by rw [r4]; exact (zv_al hI).2.1) b15 b16
  have hh : ∀ k, v_D_isOf (v_D_of (zDk R k) (Int32.ofNat p) (4 : Int32)) (v_D_deedOf (zDk R k) (Int32.ofNat p)) = v_S_hasDoneItsDeed (zCk M k) 15 (Int32.ofNat p) := by
    intro k
    rw [(zw_hd (V k).1.1 hp).1]
    rcases zw_p (V k).1.1 hp with ⟨a, -⟩ | ⟨k', d, -, -, -, -, b, -⟩
    · exact absurd ((zC_fr hI k).2 p ▸ a) hu
    · rw [b, zk_f]
  refine zf_wq (g := g_D_sureOf_1 M0 (Int32.ofNat p)) (k := kb_D_sureOf_1 M0 (Int32.ofNat p)) (fun i (s : Int32 × zMem) => i ≤ 61 ∧ s.2 = zDk R i ∧ ((s.1 = -1 ∧ ∀ j, j < i → v_S_hasDoneItsDeed (zCk M j) 15 (Int32.ofNat p) = false) ∨ (∃ k, k ≤ 60 ∧ s.1 = Int32.ofNat k ∧ v_S_hasDoneItsDeed (zCk M k) 15 (Int32.ofNat p) = true ∧ ∀ j, j < k → v_S_hasDoneItsDeed (zCk M j) 15 (Int32.ofNat p) = false))) (fun (s : Int32 × zMem) => (∃ i, s.2 = zDk R i) ∧ ((∃ k, k ≤ 60 ∧ s.1 = Int32.ofNat k ∧ v_S_hasDoneItsDeed (zCk M k) 15 (Int32.ofNat p) = true ∧ ∀ j, j < k → v_S_hasDoneItsDeed (zCk M j) 15 (Int32.ofNat p) = false) ∨ (s.1 = -1 ∧ ∀ j, j < 61 → v_S_hasDoneItsDeed (zCk M j) 15 (Int32.ofNat p) = false))) 61 (fun i s ⟨hi, h1, h2⟩ => ?_) 1000 0 ((-1 : Int32), R) ⟨by omega, rfl, Or.inl ⟨rfl, fun j hj => by omega⟩⟩ (by omega)
  unfold g_D_sureOf_1 kb_D_sureOf_1
  rw [h1, hh i, show (60 : Int32) = Int32.ofNat 60 from rfl, zi_lt' (by omega) (by omega)]
  by_cases c : 60 < i
  · have e : i = 61 := by omega
    subst e
    rw [decide_eq_true c]
    refine ⟨hi, (fun hh => by cases hh), (fun hh => by cases hh), fun _ => ⟨⟨61, rfl⟩, ?_⟩⟩
    rcases h2 with h2 | h2
    · exact Or.inr h2
    · exact Or.inl h2
  · rw [decide_eq_false c]
    rcases h2 with ⟨e1, h2⟩ | ⟨k, k1, k2, k3, k4⟩
    · rw [e1, show decide ((-1 : Int32) = -1) = true from rfl]
      simp only [zk_f, zk_t]
      refine ⟨hi, fun _ _ => ⟨(zh_ok _ hp).2.2.2.2.1, (zw_pok (V i).1.1 hp).2.2.2.1, (V i).2.2⟩, fun _ => ⟨by omega, rfl, ?_⟩, (fun hh => by cases hh)⟩
      cases hd : v_S_hasDoneItsDeed (zCk M i) 15 (Int32.ofNat p) with
      | true =>
        rw [zk_t]
        exact Or.inr ⟨i, by omega, rfl, hd, h2⟩
      | false =>
        rw [zk_f]
        refine Or.inl ⟨rfl, fun j hj => ?_⟩
        by_cases e : j = i
        · rw [e]; exact hd
        · exact h2 j (by omega)
    · have ne : decide (s.1 = (-1 : Int32)) = false := by
        refine decide_eq_false (fun hh => ?_)
        rw [k2] at hh
        have := congrArg Int32.toInt hh
        rw [zi_val (by omega)] at this
        have e1 : (-1 : Int32).toInt = -1 := by decide
        omega
      rw [ne]
      simp only [zk_f]
      exact ⟨hi, (fun _ hh => by cases hh), (fun hh => by cases hh), fun _ => ⟨⟨i, rfl⟩, Or.inl ⟨k, k1, k2, k3, k4⟩⟩⟩
theorem zq_sure {M : zMem} (hI : zv_Inv M) {p : Nat} (hp : p < 6) : ok_N_sureYear M (Int32.ofNat p) ∧ (∀ i, w_N_sureYear M (Int32.ofNat p) 0 i = M 0 i) ∧ ok_D_sureOf (zz_up (w_N_sureYear M (Int32.ofNat p)) 194 0 0) (Int32.ofNat p) ∧ v_D_thrown (w_D_sureOf (zz_up (w_N_sureYear M (Int32.ofNat p)) 194 0 0) (Int32.ofNat p)) = 0 ∧ v_N_sureYear M (Int32.ofNat p) = v_D_sureOf (zz_up (w_N_sureYear M (Int32.ofNat p)) 194 0 0) (Int32.ofNat p) ∧ zv_Inv (w_D_sureOf (zz_up (w_N_sureYear M (Int32.ofNat p)) 194 0 0) (Int32.ofNat p)) ∧ (w_N_sureYear M (Int32.ofNat p)) 195 = M 195 := by
  have i6 : zz_in (Int32.ofNat p) 6 = true := zi_in hp (by omega)
  unfold ok_N_sureYear w_N_sureYear v_N_sureYear
  rcases zh_p (N := M) (M' := M) (s := 4) (zv_St hI) hp with ⟨a0, a1, a2, -⟩ | ⟨k, d, hk, hd, a0, a1, a2, -⟩
  · rw [a1]
    simp only [zk_t]
    have e : v_D_isPlain (zz_up M 194 0 0) (Int32.ofNat p) = true := a2
    unfold ok_D_sureOf w_D_sureOf v_D_sureOf
    rw [e]
    simp only [zk_t]
    exact ⟨⟨i6, (fun hh => by cases hh)⟩, fun _ => (by first | rfl | trivial), ⟨(zh_ok _ hp).1, (fun hh => by cases hh)⟩, rfl, (by first | rfl | trivial), zv_th hI 0, (by first | rfl | trivial)⟩
  · rw [a1]
    simp only [zk_f]
    have hu : ¬ M 8 p = -1 := by
      intro hh
      have a0 : M 8 p = Int32.ofNat k := a0
      rw [a0] at hh
      have := congrArg Int32.toInt hh
      rw [zi_val (by omega)] at this
      have e1 : (-1 : Int32).toInt = -1 := by decide
      omega
    obtain ⟨c1, c2⟩ := zS_c hI hp
    obtain ⟨S, hS⟩ : ∃ S, S = zf_wh 1000 (g_N_sureYear_1 M (Int32.ofNat p)) 0 (false, 0, (w_S_copyFrom M 15 4)) := ⟨_, rfl⟩
    rw [← hS] at c1 ⊢
    have hC : ∃ k, S.2.2 = zCk M k := by
      rcases c1 with ⟨k, -, -, -, h, -⟩ | ⟨-, h, -⟩
      · exact ⟨k, h⟩
      · exact ⟨61, h⟩
    obtain ⟨kk, hC⟩ := hC
    have hf : ∀ a i, ¬ (15 ≤ a ∧ a ≤ 25) → a ≠ 42 → a ≠ 43 → S.2.2 a i = M a i := by rw [hC]; exact (zC_fr hI kk).1
    obtain ⟨r1, r2, r3, r4⟩ := zB_R hf 0
    have s195 : S.2.2 195 = M 195 := funext fun i => hf 195 i (by omega) (by omega) (by omega)
    have e : v_D_isPlain (zz_up S.2.2 194 0 0) (Int32.ofNat p) = false := by
      rcases zh_p (N := M) (M' := zz_up S.2.2 194 0 0) (s := 4) (by rw [show (zz_up S.2.2 194 0 0) 195 = M 195 from s195]; exact zv_St hI) hp with ⟨b0, -⟩ | ⟨-, -, -, -, -, -, b, -⟩
      · exact absurd b0 hu
      · exact b
    unfold ok_D_sureOf w_D_sureOf v_D_sureOf
    rw [e]
    simp only [zk_f]
    obtain ⟨R, hR⟩ : ∃ R, R = w_D_putsAside (zz_up S.2.2 194 0 0) := ⟨_, rfl⟩
    rw [← hR] at r1 r2 r3 r4 ⊢
    obtain ⟨⟨⟨i, d1⟩, d2⟩, d3⟩ := zS_d (M := M) (R := R) hI hp r4 (by rw [r1 194 15 (by omega) (by omega) (by omega) (by omega) (by omega)]; exact hI.2.1) (by rw [r1 194 16 (by omega) (by omega) (by omega) (by omega) (by omega)]; exact hI.2.2) hu (zz_up S.2.2 194 0 0)
    have V := (zV_k (N := M) (R := R) (by rw [r4]; exact zv_St hI) (by rw [r4]; exact (zv_al hI).2.1) (by rw [r1 194 15 (by omega) (by omega) (by omega) (by omega) (by omega)]; exact hI.2.1) (by rw [r1 194 16 (by omega) (by omega) (by omega) (by omega) (by omega)]; exact hI.2.2) i).1
    obtain ⟨b1, b2⟩ := zB_fin (G := zDk R i) hI 0 hf (by rw [← hR]; exact V.2.2.1) V.2.2.2.1.1 V.2.2.2.1.2
    rw [d1]
    refine ⟨⟨i6, fun _ => c2⟩, fun j => hf 0 j (by omega) (by omega) (by omega), ⟨(zh_ok _ hp).1, fun _ => d3⟩, b2, ?_, b1, s195⟩
    rcases c1 with ⟨k, k1, k2, k3, -, k4, k5⟩ | ⟨k2, -, k5⟩
    · rw [k2, zk_t, k3]
      rcases d2 with ⟨j, j1, j2, j3, j4⟩ | ⟨j2, j4⟩
      · rw [j2]
        refine congrArg Int32.ofNat ?_
        by_cases c : k < j
        · rw [j4 k c] at k4; cases k4
        · by_cases c' : j < k
          · rw [k5 j c'] at j3; cases j3
          · omega
      · rw [j4 k (by omega)] at k4; cases k4
    · rw [k2, zk_f]
      rcases d2 with ⟨j, j1, j2, j3, j4⟩ | ⟨j2, j4⟩
      · rw [k5 j (by omega)] at j3; cases j3
      · exact j2.symm
theorem zq_come {M : zMem} (hI : zv_Inv M) {p : Nat} (hp : p < 6) : ok_L_comes M 4 (Int32.ofNat p) ∧ (∀ i, w_L_comes M 4 (Int32.ofNat p) 0 i = M 0 i) ∧ ok_D_comesOf (zz_up (w_L_comes M 4 (Int32.ofNat p)) 194 0 0) (Int32.ofNat p) ∧ v_D_thrown (w_D_comesOf (zz_up (w_L_comes M 4 (Int32.ofNat p)) 194 0 0) (Int32.ofNat p)) = 0 ∧ v_L_comes M 4 (Int32.ofNat p) = v_D_comesOf (zz_up (w_L_comes M 4 (Int32.ofNat p)) 194 0 0) (Int32.ofNat p) ∧ zv_Inv (w_D_comesOf (zz_up (w_L_comes M 4 (Int32.ofNat p)) 194 0 0) (Int32.ofNat p)) ∧ (w_L_comes M 4 (Int32.ofNat p)) 195 = M 195 := by
  obtain ⟨-, q4, -⟩ := zL_asks (M' := M) (zc_w (zv_St hI)) (zv_al hI).2.1 hp (by omega)
  have s195 : (w_L_comes M 4 (Int32.ofNat p)) 195 = M 195 := funext fun i => q4 195 i (by omega) (by omega)
  obtain ⟨N1, hN1⟩ : ∃ N, N = w_L_comes M 4 (Int32.ofNat p) := ⟨_, rfl⟩
  rw [← hN1] at q4 s195 ⊢
  have e195 : (zz_up N1 194 0 0) 195 = M 195 := s195
  obtain ⟨⟨a1, a2, a3⟩, a4, a5, a6, -⟩ := zL_asks (N := M) (M' := zz_up N1 194 0 0) (by rw [e195]; exact zc_w (zv_St hI)) (by rw [e195]; exact (zv_al hI).2.1) hp (by omega)
  have g := a6 (by rw [show zz_up N1 194 0 0 194 15 = N1 194 15 from rfl, q4 194 15 (by omega) (by omega)]; exact hI.2.1) (by rw [show zz_up N1 194 0 0 194 16 = N1 194 16 from rfl, q4 194 16 (by omega) (by omega)]; exact hI.2.2)
  unfold ok_D_comesOf w_D_comesOf v_D_comesOf
  refine ⟨a1, fun i => q4 0 i (by omega) (by omega), a2, ?_, a3, zv_mk (zc_AllC (fun a i hs => ?_) (zv_al hI)) g.1 g.2, s195⟩
  · unfold v_D_thrown
    rw [a5 194 0 (by omega) (by omega)]
    rfl
  · obtain ⟨z1, z2, z3⟩ := zs_o hs
    rw [a5 a i (by omega) (by omega), zu_o (by omega)]
    exact q4 a i (by omega) (by omega)
theorem zq_fr {M : zMem} (hI : zv_Inv M) : 0 ≤ (v_S_fameOfAll M 4).toInt := by
  obtain ⟨n, hn, n1, -⟩ := zq_n hI
  unfold v_S_fameOfAll
  rw [n1]
  have := zf_ind (f := f_S_fameOfAll_1 M 4) (fun i (a : Int32) => 0 ≤ a.toInt ∧ a.toInt ≤ 999 * (i : Int)) (a := (0 : Int32)) n ⟨by decide, by decide⟩ (fun i x hi ⟨h1, h2⟩ => ?_)
  · exact this.1
  · unfold f_S_fameOfAll_1
    have hr := (zv_P hI (show i < 6 by omega)).2.2.2.2.2.2
    have r1 := hr.1
    have r2 := hr.2
    have e : (x + M 13 i).toInt = x.toInt + (M 13 i).toInt := by
      rw [Int32.toInt_add]
      exact Int.bmod_eq_of_le (by omega) (by omega)
    show 0 ≤ (x + M 13 i).toInt ∧ (x + M 13 i).toInt ≤ 999 * ((i + 1 : Nat) : Int)
    rw [e]
    omega
theorem zq_shr {M : zMem} (hI : zv_Inv M) {p : Nat} (hp : p < 6) : v_S_share M 4 (Int32.ofNat p) = (bif (decide ((v_D_fameOfAll (zz_up M 194 0 0)) = 0)) then (0 : Int32) else (((100 : Int32) * (v_D_of (zz_up M 194 0 0) (Int32.ofNat p) (5 : Int32))) / (v_D_fameOfAll (zz_up M 194 0 0)))) ∧ ok_S_share M 4 (Int32.ofNat p) := by
  obtain ⟨f1, f2, f3⟩ := zq_fame hI (zq_h M 0)
  have h0 := zq_fr hI
  have e5 : v_D_of (zz_up M 194 0 0) (Int32.ofNat p) (5 : Int32) = M 13 p := zq_of hI (zq_h M 0) hp 5 (by omega)
  unfold v_S_share ok_S_share
  rw [← f1, e5, zi_nat (by omega), zi_lti, show (0 : Int32).toInt = 0 from rfl]
  by_cases c : v_S_fameOfAll M 4 = 0
  · rw [c]
    exact ⟨rfl, f2, (fun hh => absurd hh (by decide))⟩
  · have hne : ¬ (v_S_fameOfAll M 4).toInt = 0 := fun hh => c (zi_eq (by rw [hh]; rfl))
    rw [decide_eq_true (show 0 < (v_S_fameOfAll M 4).toInt by omega), decide_eq_false c, zk_t, zk_f, Int32.mul_comm]
    exact ⟨rfl, f2, fun _ => ⟨zi_in hp (by omega), rfl⟩⟩
theorem zo6 : zo_6 zv_Inv := by
  intro M x y hI
  rcases zg_p hI (M' := M) rfl x with ⟨p, hp, e, en, t, i⟩ | ⟨t, i⟩
  · subst e
    have i6 : zz_in (Int32.ofNat p) 6 = true := zi_in hp (by omega)
    have hS : zc_St M 4 ((zz_up M 194 0 0) 195) := zv_St hI
    obtain ⟨s1, s2, s3, s4, s5, s6, s7⟩ := zq_sure hI hp
    obtain ⟨c1, c2, c3, c4, c5, c6, c7⟩ := zq_come hI hp
    obtain ⟨h1, h2⟩ := zq_shr hI hp
    obtain ⟨f1, f2, f3, -⟩ := zh_fit hS hp
    obtain ⟨g1, g2, g3⟩ := zh_fat hS hp
    obtain ⟨u1, u2, u3⟩ := zh_thu hS hp
    obtain ⟨m1, m2, m3⟩ := zq_fame hI (zq_h M 0)
    have hof := zh_of hS hp
    have hok := zh_ok (zz_up M 194 0 0) hp
    have okN : ∀ z, ok_N_person M (Int32.ofNat p) z := fun z _ => ⟨fun _ => i6, fun _ => ⟨fun _ => i6, fun _ => ⟨fun _ => i6, fun _ => ⟨fun _ => i6, fun _ => ⟨fun _ => i6, fun _ => ⟨fun _ => i6, fun _ => ⟨fun _ => c1, fun _ => ⟨fun _ => f2, fun _ => ⟨fun _ => u2, fun _ => ⟨fun _ => s1, fun _ => ⟨fun _ => g2, fun _ _ => h2⟩⟩⟩⟩⟩⟩⟩⟩⟩⟩⟩
    by_cases y0 : y = 0
    · subst y0
      have hw : w_N_person M (Int32.ofNat p) 0 = M := by
        unfold w_N_person
        simp only [t, show decide ((0 : Int32) = (0 : Int32)) = true from rfl, show decide ((6 : Int32) ≤ (0 : Int32)) = false from rfl, show v_D_isIn (0 : Int32) (0 : Int32) (11 : Int32) = true from rfl, zn_0, zk_t, zk_f, decide_true]
      rw [hw]
      unfold t_N_person v_N_person v_D_person w_D_person ok_D_person
      simp only [t, i, show decide ((0 : Int32) = (0 : Int32)) = true from rfl, show decide ((6 : Int32) ≤ (0 : Int32)) = false from rfl, show v_D_isIn (0 : Int32) (0 : Int32) (11 : Int32) = true from rfl, zn_0, zk_t, zk_f, zd_0, decide_true]
      exact ⟨okN _, fun _ => (by first | rfl | trivial), Or.inl (by first | rfl | trivial), fun _ => ⟨(fun hh => by cases hh), fun _ => hok.1⟩, (by first | rfl | trivial), fun _ => by rw [zi_nat (by omega)]; exact (hof.1).symm, zv_th hI 0⟩
    by_cases y1 : y = 1
    · subst y1
      have hw : w_N_person M (Int32.ofNat p) 1 = M := by
        unfold w_N_person
        simp only [t, show decide ((1 : Int32) = (0 : Int32)) = false from rfl, show decide ((1 : Int32) = (1 : Int32)) = true from rfl, show decide ((6 : Int32) ≤ (1 : Int32)) = false from rfl, show v_D_isIn (1 : Int32) (0 : Int32) (11 : Int32) = true from rfl, zn_0, zk_t, zk_f, decide_true]
      rw [hw]
      unfold t_N_person v_N_person v_D_person w_D_person ok_D_person
      simp only [t, i, show decide ((1 : Int32) = (0 : Int32)) = false from rfl, show decide ((1 : Int32) = (1 : Int32)) = true from rfl, show decide ((6 : Int32) ≤ (1 : Int32)) = false from rfl, show v_D_isIn (1 : Int32) (0 : Int32) (11 : Int32) = true from rfl, zn_0, zk_t, zk_f, zd_0, decide_true]
      exact ⟨okN _, fun _ => (by first | rfl | trivial), Or.inl (by first | rfl | trivial), fun _ => ⟨(fun hh => by cases hh), fun _ => hok.2.1⟩, (by first | rfl | trivial), fun _ => by rw [zi_nat (by omega)]; exact (hof.2.1).symm, zv_th hI 0⟩
    by_cases y2 : y = 2
    · subst y2
      have hw : w_N_person M (Int32.ofNat p) 2 = M := by
        unfold w_N_person
        simp only [t, show decide ((2 : Int32) = (0 : Int32)) = false from rfl, show decide ((2 : Int32) = (1 : Int32)) = false from rfl, show decide ((2 : Int32) = (2 : Int32)) = true from rfl, show decide ((6 : Int32) ≤ (2 : Int32)) = false from rfl, show v_D_isIn (2 : Int32) (0 : Int32) (11 : Int32) = true from rfl, zn_0, zk_t, zk_f, decide_true]
      rw [hw]
      unfold t_N_person v_N_person v_D_person w_D_person ok_D_person
      simp only [t, i, show decide ((2 : Int32) = (0 : Int32)) = false from rfl, show decide ((2 : Int32) = (1 : Int32)) = false from rfl, show decide ((2 : Int32) = (2 : Int32)) = true from rfl, show decide ((6 : Int32) ≤ (2 : Int32)) = false from rfl, show v_D_isIn (2 : Int32) (0 : Int32) (11 : Int32) = true from rfl, zn_0, zk_t, zk_f, zd_0, decide_true]
      exact ⟨okN _, fun _ => (by first | rfl | trivial), Or.inl (by first | rfl | trivial), fun _ => ⟨(fun hh => by cases hh), fun _ => hok.2.2.1⟩, (by first | rfl | trivial), fun _ => by rw [zi_nat (by omega)]; exact (hof.2.2.1).symm, zv_th hI 0⟩
    by_cases y3 : y = 3
    · subst y3
      have hw : w_N_person M (Int32.ofNat p) 3 = M := by
        unfold w_N_person
        simp only [t, show decide ((3 : Int32) = (0 : Int32)) = false from rfl, show decide ((3 : Int32) = (1 : Int32)) = false from rfl, show decide ((3 : Int32) = (2 : Int32)) = false from rfl, show decide ((3 : Int32) = (3 : Int32)) = true from rfl, show decide ((6 : Int32) ≤ (3 : Int32)) = false from rfl, show v_D_isIn (3 : Int32) (0 : Int32) (11 : Int32) = true from rfl, zn_0, zk_t, zk_f, decide_true]
      rw [hw]
      unfold t_N_person v_N_person v_D_person w_D_person ok_D_person
      simp only [t, i, show decide ((3 : Int32) = (0 : Int32)) = false from rfl, show decide ((3 : Int32) = (1 : Int32)) = false from rfl, show decide ((3 : Int32) = (2 : Int32)) = false from rfl, show decide ((3 : Int32) = (3 : Int32)) = true from rfl, show decide ((6 : Int32) ≤ (3 : Int32)) = false from rfl, show v_D_isIn (3 : Int32) (0 : Int32) (11 : Int32) = true from rfl, zn_0, zk_t, zk_f, zd_0, decide_true]
      exact ⟨okN _, fun _ => (by first | rfl | trivial), Or.inl (by first | rfl | trivial), fun _ => ⟨(fun hh => by cases hh), fun _ => hok.2.2.2.1⟩, (by first | rfl | trivial), fun _ => by rw [zi_nat (by omega)]; exact (hof.2.2.2.1).symm, zv_th hI 0⟩
    by_cases y4 : y = 4
    · subst y4
      have hw : w_N_person M (Int32.ofNat p) 4 = M := by
        unfold w_N_person
        simp only [t, show decide ((4 : Int32) = (0 : Int32)) = false from rfl, show decide ((4 : Int32) = (1 : Int32)) = false from rfl, show decide ((4 : Int32) = (2 : Int32)) = false from rfl, show decide ((4 : Int32) = (3 : Int32)) = false from rfl, show decide ((4 : Int32) = (4 : Int32)) = true from rfl, show decide ((6 : Int32) ≤ (4 : Int32)) = false from rfl, show v_D_isIn (4 : Int32) (0 : Int32) (11 : Int32) = true from rfl, zn_0, zk_t, zk_f, decide_true]
      rw [hw]
      unfold t_N_person v_N_person v_D_person w_D_person ok_D_person
      simp only [t, i, show decide ((4 : Int32) = (0 : Int32)) = false from rfl, show decide ((4 : Int32) = (1 : Int32)) = false from rfl, show decide ((4 : Int32) = (2 : Int32)) = false from rfl, show decide ((4 : Int32) = (3 : Int32)) = false from rfl, show decide ((4 : Int32) = (4 : Int32)) = true from rfl, show decide ((6 : Int32) ≤ (4 : Int32)) = false from rfl, show v_D_isIn (4 : Int32) (0 : Int32) (11 : Int32) = true from rfl, zn_0, zk_t, zk_f, zd_0, decide_true]
      exact ⟨okN _, fun _ => (by first | rfl | trivial), Or.inl (by first | rfl | trivial), fun _ => ⟨(fun hh => by cases hh), fun _ => hok.2.2.2.2.1⟩, (by first | rfl | trivial), fun _ => by rw [zi_nat (by omega)]; exact (hof.2.2.2.2.1).symm, zv_th hI 0⟩
    by_cases y5 : y = 5
    · subst y5
      have hw : w_N_person M (Int32.ofNat p) 5 = M := by
        unfold w_N_person
        simp only [t, show decide ((5 : Int32) = (0 : Int32)) = false from rfl, show decide ((5 : Int32) = (1 : Int32)) = false from rfl, show decide ((5 : Int32) = (2 : Int32)) = false from rfl, show decide ((5 : Int32) = (3 : Int32)) = false from rfl, show decide ((5 : Int32) = (4 : Int32)) = false from rfl, show decide ((5 : Int32) = (5 : Int32)) = true from rfl, show decide ((6 : Int32) ≤ (5 : Int32)) = false from rfl, show v_D_isIn (5 : Int32) (0 : Int32) (11 : Int32) = true from rfl, zn_0, zk_t, zk_f, decide_true]
      rw [hw]
      unfold t_N_person v_N_person v_D_person w_D_person ok_D_person
      simp only [t, i, show decide ((5 : Int32) = (0 : Int32)) = false from rfl, show decide ((5 : Int32) = (1 : Int32)) = false from rfl, show decide ((5 : Int32) = (2 : Int32)) = false from rfl, show decide ((5 : Int32) = (3 : Int32)) = false from rfl, show decide ((5 : Int32) = (4 : Int32)) = false from rfl, show decide ((5 : Int32) = (5 : Int32)) = true from rfl, show decide ((6 : Int32) ≤ (5 : Int32)) = false from rfl, show v_D_isIn (5 : Int32) (0 : Int32) (11 : Int32) = true from rfl, zn_0, zk_t, zk_f, zd_0, decide_true]
      exact ⟨okN _, fun _ => (by first | rfl | trivial), Or.inl (by first | rfl | trivial), fun _ => ⟨(fun hh => by cases hh), fun _ => hok.2.2.2.2.2⟩, (by first | rfl | trivial), fun _ => by rw [zi_nat (by omega)]; exact (hof.2.2.2.2.2).symm, zv_th hI 0⟩
    by_cases y6 : y = 6
    · subst y6
      have hw : w_N_person M (Int32.ofNat p) 6 = w_L_comes M 4 (Int32.ofNat p) := by
        unfold w_N_person
        simp only [t, show decide ((6 : Int32) = (0 : Int32)) = false from rfl, show decide ((6 : Int32) = (1 : Int32)) = false from rfl, show decide ((6 : Int32) = (2 : Int32)) = false from rfl, show decide ((6 : Int32) = (3 : Int32)) = false from rfl, show decide ((6 : Int32) = (4 : Int32)) = false from rfl, show decide ((6 : Int32) = (5 : Int32)) = false from rfl, show decide ((6 : Int32) = (6 : Int32)) = true from rfl, show decide ((6 : Int32) ≤ (6 : Int32)) = true from rfl, show v_D_isIn (6 : Int32) (0 : Int32) (11 : Int32) = true from rfl, zn_0, zk_t, zk_f, decide_true]
      rw [hw]
      have i' : v_D_isOne (w_L_comes M 4 (Int32.ofNat p)) (Int32.ofNat p) = true := by rw [zi_one (Int32.ofNat p) _ c7]; exact i
      unfold t_N_person v_N_person v_D_person w_D_person ok_D_person
      simp only [t, i', show decide ((6 : Int32) = (0 : Int32)) = false from rfl, show decide ((6 : Int32) = (1 : Int32)) = false from rfl, show decide ((6 : Int32) = (2 : Int32)) = false from rfl, show decide ((6 : Int32) = (3 : Int32)) = false from rfl, show decide ((6 : Int32) = (4 : Int32)) = false from rfl, show decide ((6 : Int32) = (5 : Int32)) = false from rfl, show decide ((6 : Int32) = (6 : Int32)) = true from rfl, show decide ((6 : Int32) ≤ (6 : Int32)) = true from rfl, show v_D_isIn (6 : Int32) (0 : Int32) (11 : Int32) = true from rfl, zn_0, zk_t, zk_f, zd_0, decide_true]
      exact ⟨okN _, c2, Or.inl (by first | rfl | trivial), fun _ => ⟨fun _ => ⟨fun _ => c3, (fun hh => by cases hh)⟩, (fun hh => by cases hh)⟩, c4, fun _ => c5, c6⟩
    by_cases y7 : y = 7
    · subst y7
      have hw : w_N_person M (Int32.ofNat p) 7 = M := by
        unfold w_N_person
        simp only [t, show decide ((7 : Int32) = (0 : Int32)) = false from rfl, show decide ((7 : Int32) = (1 : Int32)) = false from rfl, show decide ((7 : Int32) = (2 : Int32)) = false from rfl, show decide ((7 : Int32) = (3 : Int32)) = false from rfl, show decide ((7 : Int32) = (4 : Int32)) = false from rfl, show decide ((7 : Int32) = (5 : Int32)) = false from rfl, show decide ((7 : Int32) = (6 : Int32)) = false from rfl, show decide ((7 : Int32) = (7 : Int32)) = true from rfl, show decide ((6 : Int32) ≤ (7 : Int32)) = true from rfl, show v_D_isIn (7 : Int32) (0 : Int32) (11 : Int32) = true from rfl, zn_0, zk_t, zk_f, decide_true]
      rw [hw]
      unfold t_N_person v_N_person v_D_person w_D_person ok_D_person
      simp only [t, i, show decide ((7 : Int32) = (0 : Int32)) = false from rfl, show decide ((7 : Int32) = (1 : Int32)) = false from rfl, show decide ((7 : Int32) = (2 : Int32)) = false from rfl, show decide ((7 : Int32) = (3 : Int32)) = false from rfl, show decide ((7 : Int32) = (4 : Int32)) = false from rfl, show decide ((7 : Int32) = (5 : Int32)) = false from rfl, show decide ((7 : Int32) = (6 : Int32)) = false from rfl, show decide ((7 : Int32) = (7 : Int32)) = true from rfl, show decide ((6 : Int32) ≤ (7 : Int32)) = true from rfl, show v_D_isIn (7 : Int32) (0 : Int32) (11 : Int32) = true from rfl, zn_0, zk_t, zk_f, zd_0, decide_true]
      exact ⟨okN _, fun _ => (by first | rfl | trivial), Or.inl (by first | rfl | trivial), fun _ => ⟨fun _ => ⟨(fun hh => by cases hh), fun _ => ⟨fun _ => f3, (fun hh => by cases hh)⟩⟩, (fun hh => by cases hh)⟩, (by first | rfl | trivial), fun _ => f1, zv_th hI 0⟩
    by_cases y8 : y = 8
    · subst y8
      have hw : w_N_person M (Int32.ofNat p) 8 = M := by
        unfold w_N_person
        simp only [t, show decide ((8 : Int32) = (0 : Int32)) = false from rfl, show decide ((8 : Int32) = (1 : Int32)) = false from rfl, show decide ((8 : Int32) = (2 : Int32)) = false from rfl, show decide ((8 : Int32) = (3 : Int32)) = false from rfl, show decide ((8 : Int32) = (4 : Int32)) = false from rfl, show decide ((8 : Int32) = (5 : Int32)) = false from rfl, show decide ((8 : Int32) = (6 : Int32)) = false from rfl, show decide ((8 : Int32) = (7 : Int32)) = false from rfl, show decide ((8 : Int32) = (8 : Int32)) = true from rfl, show decide ((6 : Int32) ≤ (8 : Int32)) = true from rfl, show v_D_isIn (8 : Int32) (0 : Int32) (11 : Int32) = true from rfl, zn_0, zk_t, zk_f, decide_true]
      rw [hw]
      unfold t_N_person v_N_person v_D_person w_D_person ok_D_person
      simp only [t, i, show decide ((8 : Int32) = (0 : Int32)) = false from rfl, show decide ((8 : Int32) = (1 : Int32)) = false from rfl, show decide ((8 : Int32) = (2 : Int32)) = false from rfl, show decide ((8 : Int32) = (3 : Int32)) = false from rfl, show decide ((8 : Int32) = (4 : Int32)) = false from rfl, show decide ((8 : Int32) = (5 : Int32)) = false from rfl, show decide ((8 : Int32) = (6 : Int32)) = false from rfl, show decide ((8 : Int32) = (7 : Int32)) = false from rfl, show decide ((8 : Int32) = (8 : Int32)) = true from rfl, show decide ((6 : Int32) ≤ (8 : Int32)) = true from rfl, show v_D_isIn (8 : Int32) (0 : Int32) (11 : Int32) = true from rfl, zn_0, zk_t, zk_f, zd_0, decide_true]
      exact ⟨okN _, fun _ => (by first | rfl | trivial), Or.inl (by first | rfl | trivial), fun _ => ⟨fun _ => ⟨(fun hh => by cases hh), fun _ => ⟨(fun hh => by cases hh), fun _ => ⟨fun _ => u3, (fun hh => by cases hh)⟩⟩⟩, (fun hh => by cases hh)⟩, (by first | rfl | trivial), fun _ => u1, zv_th hI 0⟩
    by_cases y9 : y = 9
    · subst y9
      have hw : w_N_person M (Int32.ofNat p) 9 = w_N_sureYear M (Int32.ofNat p) := by
        unfold w_N_person
        simp only [t, show decide ((9 : Int32) = (0 : Int32)) = false from rfl, show decide ((9 : Int32) = (1 : Int32)) = false from rfl, show decide ((9 : Int32) = (2 : Int32)) = false from rfl, show decide ((9 : Int32) = (3 : Int32)) = false from rfl, show decide ((9 : Int32) = (4 : Int32)) = false from rfl, show decide ((9 : Int32) = (5 : Int32)) = false from rfl, show decide ((9 : Int32) = (6 : Int32)) = false from rfl, show decide ((9 : Int32) = (7 : Int32)) = false from rfl, show decide ((9 : Int32) = (8 : Int32)) = false from rfl, show decide ((9 : Int32) = (9 : Int32)) = true from rfl, show decide ((6 : Int32) ≤ (9 : Int32)) = true from rfl, show v_D_isIn (9 : Int32) (0 : Int32) (11 : Int32) = true from rfl, zn_0, zk_t, zk_f, decide_true]
      rw [hw]
      have i' : v_D_isOne (w_N_sureYear M (Int32.ofNat p)) (Int32.ofNat p) = true := by rw [zi_one (Int32.ofNat p) _ s7]; exact i
      unfold t_N_person v_N_person v_D_person w_D_person ok_D_person
      simp only [t, i', show decide ((9 : Int32) = (0 : Int32)) = false from rfl, show decide ((9 : Int32) = (1 : Int32)) = false from rfl, show decide ((9 : Int32) = (2 : Int32)) = false from rfl, show decide ((9 : Int32) = (3 : Int32)) = false from rfl, show decide ((9 : Int32) = (4 : Int32)) = false from rfl, show decide ((9 : Int32) = (5 : Int32)) = false from rfl, show decide ((9 : Int32) = (6 : Int32)) = false from rfl, show decide ((9 : Int32) = (7 : Int32)) = false from rfl, show decide ((9 : Int32) = (8 : Int32)) = false from rfl, show decide ((9 : Int32) = (9 : Int32)) = true from rfl, show decide ((6 : Int32) ≤ (9 : Int32)) = true from rfl, show v_D_isIn (9 : Int32) (0 : Int32) (11 : Int32) = true from rfl, zn_0, zk_t, zk_f, zd_0, decide_true]
      exact ⟨okN _, s2, Or.inl (by first | rfl | trivial), fun _ => ⟨fun _ => ⟨(fun hh => by cases hh), fun _ => ⟨(fun hh => by cases hh), fun _ => ⟨(fun hh => by cases hh), fun _ => ⟨fun _ => s3, (fun hh => by cases hh)⟩⟩⟩⟩, (fun hh => by cases hh)⟩, s4, fun _ => s5, s6⟩
    by_cases y10 : y = 10
    · subst y10
      have hw : w_N_person M (Int32.ofNat p) 10 = M := by
        unfold w_N_person
        simp only [t, show decide ((10 : Int32) = (0 : Int32)) = false from rfl, show decide ((10 : Int32) = (1 : Int32)) = false from rfl, show decide ((10 : Int32) = (2 : Int32)) = false from rfl, show decide ((10 : Int32) = (3 : Int32)) = false from rfl, show decide ((10 : Int32) = (4 : Int32)) = false from rfl, show decide ((10 : Int32) = (5 : Int32)) = false from rfl, show decide ((10 : Int32) = (6 : Int32)) = false from rfl, show decide ((10 : Int32) = (7 : Int32)) = false from rfl, show decide ((10 : Int32) = (8 : Int32)) = false from rfl, show decide ((10 : Int32) = (9 : Int32)) = false from rfl, show decide ((10 : Int32) = (10 : Int32)) = true from rfl, show decide ((6 : Int32) ≤ (10 : Int32)) = true from rfl, show v_D_isIn (10 : Int32) (0 : Int32) (11 : Int32) = true from rfl, zn_0, zk_t, zk_f, decide_true]
      rw [hw]
      unfold t_N_person v_N_person v_D_person w_D_person ok_D_person
      simp only [t, i, show decide ((10 : Int32) = (0 : Int32)) = false from rfl, show decide ((10 : Int32) = (1 : Int32)) = false from rfl, show decide ((10 : Int32) = (2 : Int32)) = false from rfl, show decide ((10 : Int32) = (3 : Int32)) = false from rfl, show decide ((10 : Int32) = (4 : Int32)) = false from rfl, show decide ((10 : Int32) = (5 : Int32)) = false from rfl, show decide ((10 : Int32) = (6 : Int32)) = false from rfl, show decide ((10 : Int32) = (7 : Int32)) = false from rfl, show decide ((10 : Int32) = (8 : Int32)) = false from rfl, show decide ((10 : Int32) = (9 : Int32)) = false from rfl, show decide ((10 : Int32) = (10 : Int32)) = true from rfl, show decide ((6 : Int32) ≤ (10 : Int32)) = true from rfl, show v_D_isIn (10 : Int32) (0 : Int32) (11 : Int32) = true from rfl, zn_0, zk_t, zk_f, zd_0, decide_true]
      exact ⟨okN _, fun _ => (by first | rfl | trivial), Or.inl (by first | rfl | trivial), fun _ => ⟨fun _ => ⟨(fun hh => by cases hh), fun _ => ⟨(fun hh => by cases hh), fun _ => ⟨(fun hh => by cases hh), fun _ => ⟨(fun hh => by cases hh), fun _ => ⟨fun _ => g3, (fun hh => by cases hh)⟩⟩⟩⟩⟩, (fun hh => by cases hh)⟩, (by first | rfl | trivial), fun _ => g1, zv_th hI 0⟩
    by_cases y11 : y = 11
    · subst y11
      have hw : w_N_person M (Int32.ofNat p) 11 = M := by
        unfold w_N_person
        simp only [t, show decide ((11 : Int32) = (0 : Int32)) = false from rfl, show decide ((11 : Int32) = (1 : Int32)) = false from rfl, show decide ((11 : Int32) = (2 : Int32)) = false from rfl, show decide ((11 : Int32) = (3 : Int32)) = false from rfl, show decide ((11 : Int32) = (4 : Int32)) = false from rfl, show decide ((11 : Int32) = (5 : Int32)) = false from rfl, show decide ((11 : Int32) = (6 : Int32)) = false from rfl, show decide ((11 : Int32) = (7 : Int32)) = false from rfl, show decide ((11 : Int32) = (8 : Int32)) = false from rfl, show decide ((11 : Int32) = (9 : Int32)) = false from rfl, show decide ((11 : Int32) = (10 : Int32)) = false from rfl, show decide ((11 : Int32) = (11 : Int32)) = true from rfl, show decide ((6 : Int32) ≤ (11 : Int32)) = true from rfl, show v_D_isIn (11 : Int32) (0 : Int32) (11 : Int32) = true from rfl, zn_0, zk_t, zk_f, decide_true]
      rw [hw]
      unfold t_N_person v_N_person v_D_person w_D_person ok_D_person
      simp only [t, i, show decide ((11 : Int32) = (0 : Int32)) = false from rfl, show decide ((11 : Int32) = (1 : Int32)) = false from rfl, show decide ((11 : Int32) = (2 : Int32)) = false from rfl, show decide ((11 : Int32) = (3 : Int32)) = false from rfl, show decide ((11 : Int32) = (4 : Int32)) = false from rfl, show decide ((11 : Int32) = (5 : Int32)) = false from rfl, show decide ((11 : Int32) = (6 : Int32)) = false from rfl, show decide ((11 : Int32) = (7 : Int32)) = false from rfl, show decide ((11 : Int32) = (8 : Int32)) = false from rfl, show decide ((11 : Int32) = (9 : Int32)) = false from rfl, show decide ((11 : Int32) = (10 : Int32)) = false from rfl, show decide ((11 : Int32) = (11 : Int32)) = true from rfl, show decide ((6 : Int32) ≤ (11 : Int32)) = true from rfl, show v_D_isIn (11 : Int32) (0 : Int32) (11 : Int32) = true from rfl, zn_0, zk_t, zk_f, zd_0, decide_true]
      exact ⟨okN _, fun _ => (by first | rfl | trivial), Or.inl (by first | rfl | trivial), fun _ => ⟨fun _ => ⟨(fun hh => by cases hh), fun _ => ⟨(fun hh => by cases hh), fun _ => ⟨(fun hh => by cases hh), fun _ => ⟨(fun hh => by cases hh), fun _ => ⟨(fun hh => by cases hh), fun _ => ⟨m3, fun hz => ⟨hok.2.2.2.2.2, hz⟩⟩⟩⟩⟩⟩⟩, (fun hh => by cases hh)⟩, (by first | rfl | trivial), fun _ => h1, zv_th hI 0⟩
    have hin : v_D_isIn y (0 : Int32) (11 : Int32) = false := by
      rw [zg_in]
      refine decide_eq_false (fun hh => ?_)
      have e0 : (0 : Int32).toInt = 0 := rfl
      have e11 : (11 : Int32).toInt = 11 := rfl
      rcases (show y.toInt = 0 ∨ y.toInt = 1 ∨ y.toInt = 2 ∨ y.toInt = 3 ∨ y.toInt = 4 ∨ y.toInt = 5 ∨ y.toInt = 6 ∨ y.toInt = 7 ∨ y.toInt = 8 ∨ y.toInt = 9 ∨ y.toInt = 10 ∨ y.toInt = 11 by omega) with h | h | h | h | h | h | h | h | h | h | h | h
      · exact y0 (zi_eq (by rw [h]; rfl))
      · exact y1 (zi_eq (by rw [h]; rfl))
      · exact y2 (zi_eq (by rw [h]; rfl))
      · exact y3 (zi_eq (by rw [h]; rfl))
      · exact y4 (zi_eq (by rw [h]; rfl))
      · exact y5 (zi_eq (by rw [h]; rfl))
      · exact y6 (zi_eq (by rw [h]; rfl))
      · exact y7 (zi_eq (by rw [h]; rfl))
      · exact y8 (zi_eq (by rw [h]; rfl))
      · exact y9 (zi_eq (by rw [h]; rfl))
      · exact y10 (zi_eq (by rw [h]; rfl))
      · exact y11 (zi_eq (by rw [h]; rfl))
    have hw : w_N_person M (Int32.ofNat p) y = M := by
      unfold w_N_person
      simp only [t, decide_eq_false y0, decide_eq_false y1, decide_eq_false y2, decide_eq_false y3, decide_eq_false y4, decide_eq_false y5, decide_eq_false y6, decide_eq_false y7, decide_eq_false y8, decide_eq_false y9, decide_eq_false y10, decide_eq_false y11, zn_0, zk_t, zk_f]
    rw [hw]
    unfold t_N_person v_N_person v_D_person w_D_person ok_D_person
    simp only [t, i, hin, decide_eq_false y0, decide_eq_false y1, decide_eq_false y2, decide_eq_false y3, decide_eq_false y4, decide_eq_false y5, decide_eq_false y6, decide_eq_false y7, decide_eq_false y8, decide_eq_false y9, decide_eq_false y10, decide_eq_false y11, zn_0, zk_t, zk_f]
    exact ⟨okN _, fun _ => (by first | rfl | trivial), Or.inr (Or.inr (by first | rfl | trivial)), (fun hh => by cases hh), (by first | rfl | trivial), (fun hh => by cases hh), zv_th hI _⟩
  · have hw : w_N_person M x y = M := by
      unfold w_N_person
      simp only [t, show Nat.beq 3 0 = false from rfl, zk_f]
    rw [hw]
    unfold ok_N_person t_N_person v_N_person v_D_person w_D_person ok_D_person
    simp only [t, i, show Nat.beq 3 0 = false from rfl, zk_f]
    exact ⟨(fun hh => by cases hh), fun _ => (by first | rfl | trivial), Or.inr (Or.inl (by first | rfl | trivial)), (fun hh => by cases hh), (by first | rfl | trivial), (fun hh => by cases hh), zv_th hI _⟩
