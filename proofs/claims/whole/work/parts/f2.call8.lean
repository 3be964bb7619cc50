/-! call 8 -/
theorem zv_actY {M N2 M2 : zMem} (hI : zv_Inv M) (h1 : ∀ a i, ¬ (4 ≤ a ∧ a ≤ 14) → ¬ (a = 194 ∧ i = 0) → a ≠ 42 → a ≠ 43 → N2 a i = w_A_remember M a i) (h2 : ∀ a i, (zs_scr a i = false ∨ (a = 194 ∧ (i = 15 ∨ i = 16))) → ¬ (4 ≤ a ∧ a ≤ 14) → (a = 195 → (i = 1 ∨ i = 2 ∨ 309 ≤ i)) → M2 a i = w_D_remembers N2 a i) (hS : zc_St M2 4 (M2 195)) : zv_Inv M2 := by
  obtain ⟨t, k, ht, hk, t2, k2, k3, -, w1, w2, w3, w4⟩ := zr_N hI
  have k6 : N2 194 6 = Int32.ofNat k := by rw [h1 194 6 (by omega) (by omega) (by omega) (by omega), w3 194 6 (by omega) (by omega)]; exact k3
  obtain ⟨⟨d1, d2, d3⟩, -⟩ := zra_ok hk k6
  have r195 : N2 195 = M 195 := by
    funext i
    rw [h1 195 i (by omega) (by omega) (by omega) (by omega), w3 195 i (by omega) (by omega)]
  have r198 : N2 198 = M 198 := by
    funext i
    rw [h1 198 i (by omega) (by omega) (by omega) (by omega), w3 198 i (by omega) (by omega)]
  obtain ⟨-, hL, hT, hF, -, hK⟩ := zv_al hI
  have same : ∀ a i, (zs_scr a i = false ∨ (a = 194 ∧ (i = 15 ∨ i = 16))) → ¬ (4 ≤ a ∧ a ≤ 14) → a ≠ 58 → ¬ (60 ≤ a ∧ a ≤ 191) → a ≠ 198 → ¬ (a = 194 ∧ i = 6) → (a = 195 → (i = 1 ∨ i = 2 ∨ 309 ≤ i)) → M2 a i = M a i := by
    intro a i hs q1 q2 q3 q4 q5 q6
    have hne : ¬ (a = 194 ∧ i = 0) := by
      rcases hs with hs | hs
      · have := (zs_o hs).2.2
        omega
      · omega
    have h42 : a ≠ 42 ∧ a ≠ 43 := by
      rcases hs with hs | hs
      · have := (zs_o hs).1
        omega
      · omega
    rw [h2 a i hs q1 q6, d3 a i q4 q5, h1 a i q1 hne h42.1 h42.2]
    exact w3 a i q2 (by omega)
  have row : ∀ a, (a ≠ 0 ∧ (a < 15 ∨ 25 < a) ∧ (a < 42 ∨ 50 < a) ∧ a ≠ 56 ∧ a ≠ 57 ∧ a ≠ 193 ∧ a ≠ 197 ∧ (a < 200 ∨ 203 < a)) → a ≠ 2 → a ≠ 194 → ¬ (4 ≤ a ∧ a ≤ 14) → a ≠ 58 → ¬ (60 ≤ a ∧ a ≤ 191) → a ≠ 198 → a ≠ 195 → M2 a = M a := fun a ha p2 p3 q1 q2 q3 q4 q5 => by
    funext i
    exact same a i (Or.inl (zs_i ha p2 p3)) q1 q2 q3 q4 (by omega) (by omega)
  have e1 : M2 1 = M 1 := row 1 (by omega) (by omega) (by omega) (by omega) (by omega) (by omega) (by omega) (by omega)
  have e3 : M2 3 = M 3 := row 3 (by omega) (by omega) (by omega) (by omega) (by omega) (by omega) (by omega) (by omega)
  have e196 : M2 196 = M 196 := row 196 (by omega) (by omega) (by omega) (by omega) (by omega) (by omega) (by omega) (by omega)
  have e199 : M2 199 = M 199 := row 199 (by omega) (by omega) (by omega) (by omega) (by omega) (by omega) (by omega) (by omega)
  have c5 : ∀ i, (i = 1 ∨ i = 2 ∨ 309 ≤ i) → M2 195 i = M 195 i := fun i hi => same 195 i (Or.inl rfl) (by omega) (by omega) (by omega) (by omega) (by omega) (fun _ => hi)
  have f : ∀ i, (i = 3 ∨ i = 8 ∨ i = 12 ∨ i = 15 ∨ i = 16) → M2 194 i = M 194 i := by
    intro i hi
    refine same 194 i ?_ (by omega) (by omega) (by omega) (by omega) (by omega) (by omega)
    rcases hi with e | e | e | e | e
    · subst e; exact Or.inl rfl
    · subst e; exact Or.inl rfl
    · subst e; exact Or.inl rfl
    · exact Or.inr ⟨rfl, Or.inl e⟩
    · exact Or.inr ⟨rfl, Or.inr e⟩
  have e21 : M2 2 1 = M 2 1 := same 2 1 (Or.inl rfl) (by omega) (by omega) (by omega) (by omega) (by omega) (by omega)
  refine zv_mk ⟨hS, zc_LwC (fun j hj => row _ (by omega) (by omega) (by omega) (by omega) (by omega) (by omega) (by omega) (by omega)) (fun i hi => c5 i (by omega)) hL, ?_, by rw [e1, f 12 (by omega)]; exact hF, ?_, ?_⟩ (by rw [f 15 (by omega)]; exact hI.2.1) (by rw [f 16 (by omega)]; exact hI.2.2)
  · unfold zc_T
    rw [e21, f 8 (by omega), e3, e199]; exact hT
  · refine zr_A hI hk k3 (fun j => ?_) ?_ (fun a i ha => ?_) (c5 1 (by omega)) (c5 2 (by omega))
    · rw [h2 198 j (Or.inl rfl) (by omega) (by omega), d1, r195, r198]
    · rw [h2 194 6 (Or.inl rfl) (by omega) (by omega), d2]
    · rw [h2 a i (Or.inl (zs_i (by omega) (by omega) (by omega))) (by omega) (by omega), d3 a i (by omega) (by omega)]
      exact h1 a i (by omega) (by omega) (by omega) (by omega)
  · unfold zc_I
    rw [e1, f 3 (by omega), e196]
    refine ⟨hK.1, hK.2.1, fun hh => ?_⟩
    obtain ⟨b1, b2⟩ := hK.2.2 hh
    exact ⟨zc_cg (fun j hj => row _ (by omega) (by omega) (by omega) (by omega) (by omega) (by omega) (by omega) (by omega)) (fun i _ => rfl) b1, zc_LwC (fun j hj => row _ (by omega) (by omega) (by omega) (by omega) (by omega) (by omega) (by omega) (by omega)) (fun i _ => rfl) b2⟩

theorem zA_yr {M N1 N2 : zMem} (hI : zv_Inv M) (hC : ∀ a i, ¬ (4 ≤ a ∧ a ≤ 14) → a ≠ 42 → a ≠ 43 → N1 a i = w_A_remember M a i) (h1 : ∀ a i, ¬ (a = 194 ∧ i = 0) → N2 a i = N1 a i) : (∀ i, N1 0 i = M 0 i) ∧ N1 195 = M 195 ∧ ok_A_remember M ∧ ok_D_remembers N2 ∧ (∀ a i, 4 ≤ a → a ≤ 14 → w_A_remember M a i = M a i) ∧ (∀ i, w_D_remembers N2 195 i = M 195 i) ∧ w_D_remembers N2 194 0 = N2 194 0 ∧ zc_St (w_A_remember M) 4 (w_D_remembers N2 195) ∧ (zz_b01 (w_D_remembers N2 194 15) = true ∧ zz_b01 (w_D_remembers N2 194 16) = true) ∧ (∀ M2 : zMem, (∀ a i, ¬ (a = 195 ∧ i ≠ 1 ∧ i ≠ 2 ∧ i < 309) → a ≠ 200 → ¬ (a = 194 ∧ (i = 9 ∨ i = 10 ∨ i = 11 ∨ i = 13 ∨ i = 15 ∨ i = 16 ∨ i = 17 ∨ i = 18)) → M2 a i = w_D_remembers N2 a i) → zz_b01 (M2 194 15) = true → zz_b01 (M2 194 16) = true → zc_St N1 4 (M2 195) → zv_Inv M2) := by
  obtain ⟨t, k, ht, hk, t2, k2, k3, ok, w1, w2, w3, w4⟩ := zr_N hI
  have k6 : N2 194 6 = Int32.ofNat k := by rw [h1 194 6 (by omega), hC 194 6 (by omega) (by omega) (by omega), w3 194 6 (by omega) (by omega)]; exact k3
  obtain ⟨⟨d1, d2, d3⟩, d4⟩ := zra_ok hk k6
  have e5 : ∀ i, w_D_remembers N2 195 i = M 195 i := by
    intro i
    rw [d3 195 i (by omega) (by omega), h1 195 i (by omega), hC 195 i (by omega) (by omega) (by omega)]
    exact w3 195 i (by omega) (by omega)
  refine ⟨fun i => ?_, ?_, ok, d4, fun a i a1 a2 => w3 a i (by omega) (by omega), e5, d3 194 0 (by omega) (by omega), ?_, ⟨?_, ?_⟩, fun M2 h2 b1 b2 hS => ?_⟩
  · rw [hC 0 i (by omega) (by omega) (by omega)]; exact w3 0 i (by omega) (by omega)
  · funext i
    rw [hC 195 i (by omega) (by omega) (by omega)]; exact w3 195 i (by omega) (by omega)
  · exact zc_pt (fun a i a1 a2 _ => w3 a i (by omega) (by omega)) (fun i _ => e5 i) (zv_St hI)
  · rw [d3 194 15 (by omega) (by omega), h1 194 15 (by omega), hC 194 15 (by omega) (by omega) (by omega), w3 194 15 (by omega) (by omega)]; exact hI.2.1
  · rw [d3 194 16 (by omega) (by omega), h1 194 16 (by omega), hC 194 16 (by omega) (by omega) (by omega), w3 194 16 (by omega) (by omega)]; exact hI.2.2
  · obtain ⟨M3, hM3⟩ : ∃ N, N = zz_up (zz_up M2 194 15 (w_D_remembers N2 194 15)) 194 16 (w_D_remembers N2 194 16) := ⟨_, rfl⟩
    have f3 : ∀ a i, ¬ (a = 194 ∧ (i = 15 ∨ i = 16)) → M3 a i = M2 a i := fun a i hh => by rw [hM3, zu_o (by omega), zu_o (by omega)]
    have I3 : zv_Inv M3 := by
      refine zv_actY (N2 := N2) hI (fun a i q1 q2 q3 q4 => ?_) (fun a i hs q1 q => ?_) ?_
      · rw [h1 a i q2]; exact hC a i q1 q3 q4
      · rcases hs with hs | ⟨rfl, hs⟩
        · obtain ⟨z1, z2, z3⟩ := zs_o hs
          rw [f3 a i (by omega)]
          exact h2 a i (by omega) (by omega) (by omega)
        · rw [hM3]
          rcases hs with rfl | rfl
          · rw [zu_o (by omega), zu_at rfl rfl]
          · rw [zu_at rfl rfl]
      · refine zc_pt (fun a i a1 a2 _ => ?_) (fun i _ => f3 195 i (by omega)) hS
        rw [f3 a i (by omega), h2 a i (by omega) (by omega) (by omega), d3 a i (by omega) (by omega)]
        exact h1 a i (by omega)
    refine zv_mk (zc_AllC (fun a i hs => ?_) (zv_al I3)) b1 b2
    have z := (zs_o hs).2.2
    exact (f3 a i (by omega)).symm
theorem zo8 : zo_8 zv_Inv := by
  intro M x hI
  have hx : (v_D_isIn x 1 60 = true ∧ decide ((1 : Int32) ≤ x) = true ∧ t_N_needYears x 60 = 0) ∨ (v_D_isIn x 1 60 = false ∧ t_N_years M x = 1 ∧ w_N_years M x = M ∧ ok_N_years M x) := by
    have e1 : (1 : Int32).toInt = 1 := by decide
    have e60 : (60 : Int32).toInt = 60 := by decide
    unfold t_N_years w_N_years ok_N_years t_N_needYears
    rw [zg_in, zi_lei 1 x, zi_lei x 60, zg_lt0, e1, e60]
    by_cases h1 : 1 ≤ x.toInt
    · rw [decide_eq_true h1, decide_eq_false (show ¬ x.toInt < 0 by omega)]
      by_cases h2 : x.toInt ≤ 60
      · rw [decide_eq_true h2, decide_eq_true (show 1 ≤ x.toInt ∧ x.toInt ≤ 60 from ⟨h1, h2⟩)]
        exact Or.inl ⟨rfl, rfl, rfl⟩
      · rw [decide_eq_false h2, decide_eq_false (show ¬ (1 ≤ x.toInt ∧ x.toInt ≤ 60) by omega)]
        exact Or.inr ⟨rfl, rfl, rfl, fun _ hh => by cases hh⟩
    · rw [decide_eq_false h1, decide_eq_false (show ¬ (1 ≤ x.toInt ∧ x.toInt ≤ 60) by omega)]
      exact Or.inr ⟨rfl, rfl, rfl, fun hh => by cases hh⟩
  rcases hx with ⟨i, c, t⟩ | ⟨i, t, w, ok⟩
  · obtain ⟨tt, k, ht, hk, -, -, -, -, -, -, w3, -⟩ := zr_N hI
    have hLm : zc_Lw M 37 (M 195) := (zv_al hI).2.1
    have hL0 : zc_Lw (w_A_remember M) 37 (w_A_remember M 195) := zLw_c (fun a i x y => w3 a i (by omega) (by omega)) (w3 195 1 (by omega) (by omega)) (w3 195 2 (by omega) (by omega)) (fun i => w3 195 (309 + i) (by omega) (by omega)) hLm
    have Y0 : zY (w_A_remember M) (w_A_remember M) 4 (w_A_remember M) (w_A_remember M) := by
      refine ⟨zc_pt (fun a i a1 a2 _ => w3 a i (by omega) (by omega)) (fun i _ => w3 195 i (by omega) (by omega)) (zv_St hI), fun _ _ _ _ _ => rfl, fun _ _ _ _ _ => rfl, ?_, ?_⟩
      · rw [w3 194 15 (by omega) (by omega)]; exact hI.2.1
      · rw [w3 194 16 (by omega) (by omega)]; exact hI.2.2
    have F0 := fun n => zY_for (by omega) hL0 Y0 (f_N_years_1 M x) (f_D_goes_1 M x true) (fun _ _ => rfl) (fun _ _ => rfl) n
    obtain ⟨N1, hN1⟩ : ∃ N, N = (zf_for x.toNatClampNeg (f_N_years_1 M x) ((0 : Int32), (w_A_remember M))).2 := ⟨_, rfl⟩
    have e1 : w_N_years M x = N1 := by
      unfold w_N_years
      rw [c, t, hN1]
      simp only [zn_0, zk_t]
    obtain ⟨N2, hN2⟩ : ∃ N, N = zz_up N1 194 0 0 := ⟨_, rfl⟩
    obtain ⟨r0, r195, o1, o2, rA, rD, r194, hS, ⟨b15, b16⟩, fin⟩ := zA_yr (N1 := N1) (N2 := N2) hI (fun a j h p q => by rw [hN1]; exact (F0 x.toNatClampNeg).2.2.1 a j h p q) (fun a j h => by rw [hN2, zu_o h])
    have hL1 : zc_Lw (w_A_remember M) 37 (w_D_remembers N2 195) := zLw_c (fun a i x y => w3 a i (by omega) (by omega)) (rD 1) (rD 2) (fun i => rD (309 + i)) hLm
    have Y1 : zY (w_A_remember M) (w_D_remembers N2) 4 (w_A_remember M) (w_D_remembers N2) := ⟨hS, fun _ _ _ _ _ => rfl, fun _ _ _ _ _ => rfl, b15, b16⟩
    have F1 := fun n => zY_for (by omega) hL1 Y1 (f_N_years_1 M x) (f_D_goes_1 (w_D_remembers N2) x true) (fun _ _ => rfl) (fun _ _ => rfl) n
    obtain ⟨g1, g2⟩ := F1 x.toNatClampNeg
    have e2 : w_D_years N1 x = w_D_goes (w_D_remembers N2) x true := by
      unfold w_D_years
      simp only [i, zk_t, zb_f, zd_0]
      rw [hN2]
    rw [e1]
    unfold ok_N_years t_N_years ok_D_years v_N_years v_D_years
    rw [e2]
    simp only [i, c, t, zn_0, zk_t, zb_f, zd_0]
    rw [← hN2]
    refine ⟨fun _ _ => ⟨o1, fun j hj => (zY_pass (by omega) hL1 (F1 j).2).1⟩, r0, Or.inl trivial, fun _ => ⟨o2, fun j hj => (zY_pass (by omega) hL1 (F1 j).2).2.1⟩, ?_, fun _ => g1, fin _ (fun a j p q r => g2.2.2.1 a j p q r) g2.2.2.2.1 g2.2.2.2.2 ?_⟩
    · unfold v_D_thrown
      refine (g2.2.2.1 194 0 (by omega) (by omega) (by omega)).trans ?_
      rw [r194, hN2, zu_eq]; rfl
    · rw [hN1]
      exact g2.1
  · rw [w, t]
    unfold ok_D_years v_N_years v_D_years w_D_years
    simp only [i, zk_f, zb_t, zd_1]
    exact ⟨ok, fun _ => trivial, Or.inr trivial, (fun h => by cases h), rfl, (fun h => by cases h), zv_th hI _⟩
