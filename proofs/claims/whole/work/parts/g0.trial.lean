/-! trials: years that pass in the spare state -/
theorem zw_done {N M' : zMem} {s : Nat} (hS : zc_W N s (M' 195)) : v_S_deedsOfAll N s = v_D_bitsOfAll M' (4 : Int32) ∧ ok_S_deedsOfAll N s ∧ ok_D_bitsOfAll M' (4 : Int32) := by
  obtain ⟨n, hn, n1, n2, n3, n4⟩ := zw_n hS
  have key := zf_wf (g := g_S_membersOfAll_1 N s (s + 8)) (f := fun i a => a + v_ji_bitCount (N (s + 8) i)) (k := kb_S_membersOfAll_1 N s (s + 8)) (n := n) (a := (0 : Int32)) (fun i x hi => by
      unfold g_S_membersOfAll_1
      rw [n3, zi_len (by omega) (by omega), zi_len (by omega) (by omega), decide_eq_false (show ¬ n ≤ i by omega), decide_eq_false (show ¬ 6 ≤ i by omega), zi_nat (by omega)]
      simp only [zk_f]) (fun x => by
      unfold g_S_membersOfAll_1
      rw [n3, zi_len (by omega) (by omega), decide_eq_true (show n ≤ n by omega)]
      simp only [zk_t]) (fun i x hi => by
      intro _ hd
      rw [zi_len (by omega) (by omega)] at hd
      exact zi_in (by have := of_decide_eq_false hd; omega) (by omega)) 1000 0 (by omega) (by omega)
  refine ⟨?_, key.2, ?_⟩
  · unfold v_S_deedsOfAll v_S_membersOfAll v_D_bitsOfAll
    refine Eq.trans key.1 ?_
    rw [n2]
    refine zf_cg n _ fun i hi a => ?_
    unfold f_D_bitsOfAll_1
    rw [(zw_of hS (show i < 6 by omega)).2.2.2.2.1, zN_count (zr_w (hS.2.1 i (by omega)).2.2.2.2.2.1 (by omega))]
  · unfold ok_D_bitsOfAll
    rw [n2]
    exact fun i hi => (zh_ok M' (p := i) (by omega)).2.2.2.2.1
theorem zw_fame {N M' : zMem} {s : Nat} (hS : zc_W N s (M' 195)) : v_S_fameOfAll N s = v_D_fameOfAll M' ∧ ok_S_fameOfAll N s ∧ ok_D_fameOfAll M' := by
  obtain ⟨n, hn, n1, n2, -, -⟩ := zw_n hS
  unfold v_S_fameOfAll v_D_fameOfAll ok_S_fameOfAll ok_D_fameOfAll
  rw [n1, n2]
  refine ⟨zf_cg n _ fun i hi a => ?_, fun i hi => zi_in (show i < 6 by omega) (by omega), fun i hi => (zh_ok M' (p := i) (by omega)).2.2.2.2.2⟩
  unfold f_S_fameOfAll_1 f_D_fameOfAll_1
  rw [(zw_of hS (show i < 6 by omega)).2.2.2.2.2]
theorem zT_for {N0 R0 N R : zMem} {s : Nat} (h4 : s + 10 < 37) (hL : zc_Lw N0 37 (R0 195)) (h : zY N0 R0 s N R) (f : Nat → zMem → zMem) (f' : Nat → Int32 × zMem → Int32 × zMem) (hf : ∀ i a, f i a = w_S_passYear a s) (hf' : ∀ i a, f' i a = ((a.1 + (v_D_passes a.2 true)), (w_D_passes a.2 true))) : ∀ n, zY N0 R0 s (zf_for n f N) (zf_for n f' ((0 : Int32), R)).2
  | 0 => h
  | n + 1 => by
    have i2 := zT_for h4 hL h f f' hf hf' n
    show zY N0 R0 s (f n (zf_for n f N)) (f' n (zf_for n f' ((0 : Int32), R))).2
    rw [hf, hf']
    exact (zY_pass h4 hL i2).2.2.2
/-- years tried, on both sides -/
theorem zT_try {N R : zMem} {x y : Int32} (hS : zc_St N 4 (R 195)) (hL : zc_Lw N 37 (R 195)) (b15 : zz_b01 (R 194 15) = true) (b16 : zz_b01 (R 194 16) = true) (R1 : zMem) (hR : R1 = zz_up R 195 8 y) : ok_N_tryYears N x y ∧ ok_D_goes R1 x true ∧ zc_St (w_N_tryYears N x y) 15 ((w_D_goes R1 x true) 195) ∧ (∀ a i, ¬ (15 ≤ a ∧ a ≤ 25) → a ≠ 42 → a ≠ 43 → w_N_tryYears N x y a i = N a i) ∧ (∀ a i, ¬ (a = 195 ∧ i ≠ 1 ∧ i ≠ 2 ∧ i < 309) → a ≠ 200 → ¬ (a = 194 ∧ (i = 9 ∨ i = 10 ∨ i = 11 ∨ i = 13 ∨ i = 15 ∨ i = 16 ∨ i = 17 ∨ i = 18)) → (w_D_goes R1 x true) a i = R a i) ∧ zz_b01 ((w_D_goes R1 x true) 194 15) = true ∧ zz_b01 ((w_D_goes R1 x true) 194 16) = true := by
  have cp := zcp_all N (s := 15) (r := 4) (by omega)
  obtain ⟨P, hP⟩ : ∃ P, P = zz_up (w_S_copyFrom N 15 4) 15 14 y := ⟨_, rfl⟩
  have S0 : zc_St P 15 (R1 195) := by
    rw [hP, hR]
    exact zc_uF14 (zcp_St cp hS) trivial
  have fP : ∀ a i, ¬ (15 ≤ a ∧ a ≤ 25) → P a i = N a i := fun a i hh => by
    rw [hP, zu_o (by omega)]
    exact cp.1 a i (by omega)
  have fR : ∀ a i, ¬ (a = 195 ∧ i = 8) → R1 a i = R a i := fun a i hh => by rw [hR, zu_o hh]
  have L0 : zc_Lw P 37 (R1 195) := zLw_c (fun a i x y => fP a i (by omega)) (fR 195 1 (by omega)) (fR 195 2 (by omega)) (fun i => fR 195 (309 + i) (by omega)) hL
  have Y0 : zY P R1 15 P R1 := ⟨S0, fun _ _ _ _ _ => rfl, fun _ _ _ _ _ => rfl, by rw [fR 194 15 (by omega)]; exact b15, by rw [fR 194 16 (by omega)]; exact b16⟩
  have F := fun n => zT_for (by omega) L0 Y0 (f_N_tryYears_1 N x y) (f_D_goes_1 R1 x true) (fun _ _ => rfl) (fun _ _ => rfl) n
  have g := F x.toNatClampNeg
  unfold ok_N_tryYears w_N_tryYears ok_D_goes w_D_goes
  rw [← hP]
  exact ⟨fun j hj => (zY_pass (by omega) L0 (F j)).1, fun j hj => (zY_pass (by omega) L0 (F j)).2.1, g.1, fun a i p q r => (g.2.1 a i (by omega) q r).trans (fP a i p), fun a i p q r => (g.2.2.1 a i p q r).trans (fR a i (by omega)), g.2.2.2.1, g.2.2.2.2⟩
theorem zo43 : zo_43 zv_Inv := by
  intro M x b hI
  have hx : (v_D_isIn x 0 60 = true ∧ t_N_needYears x 60 = 0) ∨ (v_D_isIn x 0 60 = false ∧ t_N_needYears x 60 = 1) := by
    have e0 : (0 : Int32).toInt = 0 := by decide
    have e60 : (60 : Int32).toInt = 60 := by decide
    unfold t_N_needYears
    rw [zg_in, zi_lei x 60, zg_lt0, e0, e60]
    by_cases h1 : x.toInt < 0
    · rw [decide_eq_true h1, decide_eq_false (show ¬ (0 ≤ x.toInt ∧ x.toInt ≤ 60) by omega)]
      exact Or.inr ⟨rfl, rfl⟩
    · rw [decide_eq_false h1]
      by_cases h2 : x.toInt ≤ 60
      · rw [decide_eq_true h2, decide_eq_true (show 0 ≤ x.toInt ∧ x.toInt ≤ 60 by omega)]
        exact Or.inl ⟨rfl, rfl⟩
      · rw [decide_eq_false h2, decide_eq_false (show ¬ (0 ≤ x.toInt ∧ x.toInt ≤ 60) by omega)]
        exact Or.inr ⟨rfl, rfl⟩
  rcases hx with ⟨i, t⟩ | ⟨i, t⟩
  · obtain ⟨N1, hN1⟩ : ∃ N, N = w_N_tryYears M x (M 4 14) := ⟨_, rfl⟩
    have e1 : w_N_trial M x b = N1 := by
      unfold w_N_trial
      rw [t, hN1]
      simp only [zn_0, zk_t]
    have hLm : zc_Lw M 37 (M 195) := (zv_al hI).2.1
    have eM : M = zz_up M 195 8 (M 4 14) := by
      funext a i
      by_cases h : a = 195 ∧ i = 8
      · obtain ⟨rfl, rfl⟩ := h
        rw [zu_at rfl rfl]
        exact (zv_St hI).2.2.1.1.2.2.2.2.1.symm
      · rw [zu_o h]
    have T0 := zT_try (x := x) (y := M 4 14) (zv_St hI) hLm hI.2.1 hI.2.2 M eM
    rw [← hN1] at T0
    obtain ⟨N2, hN2⟩ : ∃ N, N = zz_up N1 194 0 0 := ⟨_, rfl⟩
    obtain ⟨R, hR⟩ : ∃ N, N = w_D_putsAside N2 := ⟨_, rfl⟩
    obtain ⟨k1, k2⟩ := zcl (q := 197) (r := 195) (by omega) (f := f_D_putsAside_1 N2) (fun i a => rfl) N2 309
    have fR : ∀ a i, a ≠ 197 → R a i = N2 a i := fun a i hh => by rw [hR]; exact k2 a i hh
    have f12 : ∀ a i, ¬ (a = 194 ∧ i = 0) → N2 a i = N1 a i := fun a i hh => by rw [hN2, zu_o hh]
    have fRM : ∀ a i, ¬ (15 ≤ a ∧ a ≤ 25) → a ≠ 42 → a ≠ 43 → a ≠ 197 → ¬ (a = 194 ∧ i = 0) → R a i = M a i := fun a i p q r u v => by rw [fR a i u, f12 a i v]; exact T0.2.2.2.1 a i p q r
    have R195 : R 195 = M 195 := funext fun i => fRM 195 i (by omega) (by omega) (by omega) (by omega) (by omega)
    have eR : R = zz_up R 195 8 (M 4 14) := by
      funext a i
      by_cases h : a = 195 ∧ i = 8
      · obtain ⟨rfl, rfl⟩ := h
        rw [zu_at rfl rfl, R195]
        exact (zv_St hI).2.2.1.1.2.2.2.2.1.symm
      · rw [zu_o h]
    obtain ⟨o1, o2, o3, o4, o5, o6, o7⟩ := zT_try (N := M) (R := R) (x := x) (y := M 4 14) (by rw [R195]; exact zv_St hI) (by rw [R195]; exact hLm) (by rw [fRM 194 15 (by omega) (by omega) (by omega) (by omega) (by omega)]; exact hI.2.1) (by rw [fRM 194 16 (by omega) (by omega) (by omega) (by omega) (by omega)]; exact hI.2.2) R eR
    rw [← hN1] at o3 o4
    obtain ⟨G, hG⟩ : ∃ N, N = w_D_goes R x true := ⟨_, rfl⟩
    rw [← hG] at o3 o5 o6 o7
    have W := zc_w o3
    obtain ⟨m1, m2⟩ := zcl (q := 195) (r := 197) (by omega) (f := f_D_comesBack_1 G) (fun i a => rfl) G 309
    have e2 : w_D_trial N1 x b = w_D_comesBack G := by
      unfold w_D_trial
      simp only [i, zk_t, zb_f, zd_0]
      rw [hG, hR, hN2]
    have fin : ∀ a i, ¬ (15 ≤ a ∧ a ≤ 25) → a ≠ 42 → a ≠ 43 → a ≠ 197 → a ≠ 200 → ¬ (a = 194 ∧ (i = 0 ∨ i = 9 ∨ i = 10 ∨ i = 11 ∨ i = 13 ∨ i = 15 ∨ i = 16 ∨ i = 17 ∨ i = 18)) → w_D_comesBack G a i = M a i := by
      intro a i p1 p2 p3 p4 p5 p6
      by_cases h : a = 195
      · subst h
        refine (m1 i).trans ?_
        by_cases hi : i < 309
        · rw [decide_eq_true hi, zk_t, o5 197 i (by omega) (by omega) (by omega), hR]
          refine (k1 i).trans ?_
          rw [decide_eq_true hi, zk_t, f12 195 i (by omega)]
          exact T0.2.2.2.1 195 i (by omega) (by omega) (by omega)
        · rw [decide_eq_false hi, zk_f, o5 195 i (by omega) (by omega) (by omega), R195]
      · refine (m2 a i h).trans ?_
        rw [o5 a i (by omega) p5 (by omega)]
        exact fRM a i p1 p2 p3 p4 (by omega)
    have hInv : zv_Inv (w_D_comesBack G) := by
      refine zv_mk (zc_AllC (fun a i hs => ?_) (zv_al hI)) ?_ ?_
      · obtain ⟨z1, z2, z3⟩ := zs_o hs
        exact fin a i (by omega) (by omega) (by omega) (by omega) (by omega) (by omega)
      · rw [show w_D_comesBack G 194 15 = G 194 15 from m2 194 15 (by omega)]; exact o6
      · rw [show w_D_comesBack G 194 16 = G 194 16 from m2 194 16 (by omega)]; exact o7
    have hth : v_D_thrown (w_D_comesBack G) = 0 := by
      unfold v_D_thrown
      refine (m2 194 0 (by omega)).trans ?_
      rw [o5 194 0 (by omega) (by omega) (by omega), fR 194 0 (by omega), hN2, zu_eq]
    rw [e1]
    unfold ok_N_trial t_N_trial ok_D_trial v_N_trial v_D_trial
    rw [e2]
    simp only [i, t, zn_0, zk_t, zb_f, zd_0]
    rw [← hN1, ← hN2, ← hR, ← hG]
    refine ⟨fun _ => ⟨o1, fun _ => (zw_fame W).2.1, fun _ => (zw_done W).2.1⟩, fun j => T0.2.2.2.1 0 j (by omega) (by omega) (by omega), Or.inl trivial, fun _ => ⟨o2, fun _ => (zw_fame W).2.2, fun _ => (zw_done W).2.2⟩, hth, fun _ => ?_, hInv⟩
    rw [(zw_fame W).1, (zw_done W).1]
  · unfold ok_N_trial t_N_trial ok_D_trial v_N_trial v_D_trial w_D_trial w_N_trial
    simp only [i, t, zk_f, zb_t, zd_1]
    exact ⟨(fun h => by cases h), fun _ => rfl, Or.inr rfl, (fun h => by cases h), rfl, (fun h => by cases h), zv_th hI _⟩
