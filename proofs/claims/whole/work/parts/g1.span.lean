/-! call 44 -/
def zQ (M N R : zMem) : Prop := (∀ a i, ¬ (15 ≤ a ∧ a ≤ 25) → a ≠ 42 → a ≠ 43 → N a i = M a i) ∧ (∀ a i, ¬ (15 ≤ a ∧ a ≤ 25) → a ≠ 42 → a ≠ 43 → a ≠ 197 → a ≠ 200 → ¬ (a = 194 ∧ (i = 0 ∨ i = 9 ∨ i = 10 ∨ i = 11 ∨ i = 13 ∨ i = 15 ∨ i = 16 ∨ i = 17 ∨ i = 18)) → R a i = M a i) ∧ (∀ i, i < 309 → R 197 i = M 195 i) ∧ zz_b01 (R 194 15) = true ∧ zz_b01 (R 194 16) = true ∧ R 194 0 = 0
theorem zQ_step {M N R : zMem} (hI : zv_Inv M) (h : zQ M N R) (x y : Int32) : ok_N_tryYears N x y ∧ ok_D_goes (zz_up R 195 8 y) x true ∧ zc_W (w_N_tryYears N x y) 15 ((w_D_goes (zz_up R 195 8 y) x true) 195) ∧ zQ M (w_N_tryYears N x y) (w_D_comesBack (w_D_goes (zz_up R 195 8 y) x true)) := by
  obtain ⟨h1, h2, h3, h4, h5, h6⟩ := h
  have R195 : ∀ i, R 195 i = M 195 i := fun i => h2 195 i (by omega) (by omega) (by omega) (by omega) (by omega) (by omega)
  have hS : zc_St N 4 (R 195) := zc_pt (fun a i a1 a2 _ => h1 a i (by omega) (by omega) (by omega)) (fun i _ => R195 i) (zv_St hI)
  have hL : zc_Lw N 37 (R 195) := zLw_c (fun a i x y => h1 a i (by omega) (by omega) (by omega)) (R195 1) (R195 2) (fun i => R195 (309 + i)) (zv_al hI).2.1
  obtain ⟨o1, o2, o3, o4, o5, o6, o7⟩ := zT_try (x := x) (y := y) hS hL h4 h5 _ rfl
  obtain ⟨G, hG⟩ : ∃ N, N = w_D_goes (zz_up R 195 8 y) x true := ⟨_, rfl⟩
  rw [← hG] at o3 o5 o6 o7 ⊢
  obtain ⟨m1, m2⟩ := zcl (q := 195) (r := 197) (by omega) (f := f_D_comesBack_1 G) (fun i a => rfl) G 309
  refine ⟨o1, o2, zc_w o3, fun a i p q r => (o4 a i p q r).trans (h1 a i p q r), ?_, ?_, ?_, ?_, ?_⟩
  · intro a i p1 p2 p3 p4 p5 p6
    by_cases h : a = 195
    · subst h
      refine (m1 i).trans ?_
      by_cases hi : i < 309
      · rw [decide_eq_true hi, zk_t, o5 197 i (by omega) (by omega) (by omega)]
        exact h3 i hi
      · rw [decide_eq_false hi, zk_f, o5 195 i (by omega) (by omega) (by omega)]
        exact R195 i
    · refine (m2 a i h).trans ?_
      rw [o5 a i (by omega) p5 (by omega)]
      exact h2 a i p1 p2 p3 p4 p5 p6
  · intro i hi
    refine (m2 197 i (by omega)).trans ?_
    rw [o5 197 i (by omega) (by omega) (by omega)]
    exact h3 i hi
  · rw [show w_D_comesBack G 194 15 = G 194 15 from m2 194 15 (by omega)]; exact o6
  · rw [show w_D_comesBack G 194 16 = G 194 16 from m2 194 16 (by omega)]; exact o7
  · rw [show w_D_comesBack G 194 0 = G 194 0 from m2 194 0 (by omega), o5 194 0 (by omega) (by omega) (by omega)]; exact h6
theorem zQ_inv {M N R : zMem} (hI : zv_Inv M) (h : zQ M N R) : zv_Inv R := by
  refine zv_mk (zc_AllC (fun a i hs => ?_) (zv_al hI)) h.2.2.2.1 h.2.2.2.2.1
  obtain ⟨z1, z2, z3⟩ := zs_o hs
  exact h.2.1 a i (by omega) (by omega) (by omega) (by omega) (by omega) (by omega)
theorem zQ_0 {M N : zMem} (hI : zv_Inv M) (h1 : ∀ a i, ¬ (15 ≤ a ∧ a ≤ 25) → a ≠ 42 → a ≠ 43 → N a i = M a i) : zQ M M (w_D_putsAside (zz_up N 194 0 0)) := by
  obtain ⟨k1, k2⟩ := zcl (q := 197) (r := 195) (by omega) (f := f_D_putsAside_1 (zz_up N 194 0 0)) (fun i a => rfl) (zz_up N 194 0 0) 309
  refine ⟨fun _ _ _ _ _ => rfl, fun a i p1 p2 p3 p4 p5 p6 => ?_, fun i hi => ?_, ?_, ?_, ?_⟩
  · refine (k2 a i p4).trans ?_
    rw [zu_o (by omega)]; exact h1 a i p1 p2 p3
  · refine (k1 i).trans ?_
    rw [decide_eq_true hi, zk_t, zu_o (by omega)]; exact h1 195 i (by omega) (by omega) (by omega)
  · rw [show w_D_putsAside (zz_up N 194 0 0) 194 15 = _ from k2 194 15 (by omega), zu_o (by omega), h1 194 15 (by omega) (by omega) (by omega)]; exact hI.2.1
  · rw [show w_D_putsAside (zz_up N 194 0 0) 194 16 = _ from k2 194 16 (by omega), zu_o (by omega), h1 194 16 (by omega) (by omega) (by omega)]; exact hI.2.2
  · rw [show w_D_putsAside (zz_up N 194 0 0) 194 0 = _ from k2 194 0 (by omega), zu_eq]
theorem zsp_g (a d : Int32) : (bif decide (d ≤ a) then a else d) = v_D_greater a d := by
  unfold v_D_greater
  apply zi_eq
  rw [zi_lei, zi_lei]
  by_cases h1 : d.toInt ≤ a.toInt
  · by_cases h2 : a.toInt ≤ d.toInt
    · rw [decide_eq_true h1, decide_eq_true h2, zk_t, zk_t]; omega
    · rw [decide_eq_true h1, decide_eq_false h2, zk_t, zk_f]
  · rw [decide_eq_false h1, decide_eq_true (show a.toInt ≤ d.toInt by omega), zk_f, zk_t]
theorem zsp_l (a d : Int32) : (bif decide (a ≤ d) then a else d) = v_D_lesser a d := by
  unfold v_D_lesser
  apply zi_eq
  rw [zi_lei, zi_lei]
  by_cases h1 : a.toInt ≤ d.toInt
  · by_cases h2 : d.toInt ≤ a.toInt
    · rw [decide_eq_true h1, decide_eq_true h2, zk_t, zk_t]; omega
    · rw [decide_eq_true h1, decide_eq_false h2, zk_t, zk_f]
  · rw [decide_eq_false h1, decide_eq_true (show d.toInt ≤ a.toInt by omega), zk_f, zk_t]
theorem zSp {M B : zMem} (hI : zv_Inv M) (hB : zQ M M B) (M1 M2 : zMem) (x : Int32) (b : Bool) : ∀ n, (zf_for n (f_N_span_1 M1 x b) ((-1 : Int32), M)).1 = (zf_for n (f_D_span_1 M2 x b) ((-1 : Int32), B)).1 ∧ zQ M (zf_for n (f_N_span_1 M1 x b) ((-1 : Int32), M)).2 (zf_for n (f_D_span_1 M2 x b) ((-1 : Int32), B)).2
  | 0 => ⟨rfl, hB⟩
  | n + 1 => by
    obtain ⟨i1, i2⟩ := zSp hI hB M1 M2 x b n
    show (f_N_span_1 M1 x b n (zf_for n (f_N_span_1 M1 x b) ((-1 : Int32), M))).1 = (f_D_span_1 M2 x b n (zf_for n (f_D_span_1 M2 x b) ((-1 : Int32), B))).1 ∧ zQ M (f_N_span_1 M1 x b n (zf_for n (f_N_span_1 M1 x b) ((-1 : Int32), M))).2 (f_D_span_1 M2 x b n (zf_for n (f_D_span_1 M2 x b) ((-1 : Int32), B))).2
    generalize zf_for n (f_N_span_1 M1 x b) ((-1 : Int32), M) = p at i1 i2
    generalize zf_for n (f_D_span_1 M2 x b) ((-1 : Int32), B) = q at i1 i2
    obtain ⟨s1, s2, s3, s4⟩ := zQ_step hI i2 x (Int32.ofNat (n + 1))
    unfold f_N_span_1 f_D_span_1
    rw [(zw_done s3).1, i1, zsp_g, zsp_l]
    exact ⟨rfl, s4⟩
theorem zo44 : zo_44 zv_Inv := by
  intro M x b hI
  have hx : (v_D_isIn x 0 60 = true ∧ t_N_needYears x 60 = 0) ∨ (v_D_isIn x 0 60 = false ∧ t_N_needYears x 60 = 1) := by
    have e0 : (0 : Int32).toInt = 0 := by decide
    have e60 : (60 : Int32).toInt = 60 := by decide
    unfold t_N_needYears
    rw [zg_in, zi_lei x 60, zg_lt0, e0, e60]
    by_cases h1 : x.toInt < 0
    · rw [decide_eq_true h1, decide_eq_false (show ¬ (0 ≤ x.toInt ∧ x.toInt ≤ 60) by omega)]
      exact Or.inr ⟨rfl, rfl⟩
    · rw [decide_eq_false h1]
      by_cases h2 : x.toInt ≤ 60
      · rw [decide_eq_true h2, decide_eq_true (show 0 ≤ x.toInt ∧ x.toInt ≤ 60 by omega)]
        exact Or.inl ⟨rfl, rfl⟩
      · rw [decide_eq_false h2, decide_eq_false (show ¬ (0 ≤ x.toInt ∧ x.toInt ≤ 60) by omega)]
        exact Or.inr ⟨rfl, rfl⟩
  rcases hx with ⟨i, t⟩ | ⟨i, t⟩
  · have A := zSp hI (zQ_0 hI (N := M) (fun _ _ _ _ _ => rfl)) M M x b
    obtain ⟨N1, hN1⟩ : ∃ N, N = (zf_for 6 (f_N_span_1 M x b) ((-1 : Int32), M)).2 := ⟨_, rfl⟩
    have e1 : w_N_span M x b = N1 := by
      unfold w_N_span
      rw [t, hN1]
      simp only [zn_0, zk_t]
    have fN : ∀ a i, ¬ (15 ≤ a ∧ a ≤ 25) → a ≠ 42 → a ≠ 43 → N1 a i = M a i := by rw [hN1]; exact (A 6).2.1
    have B := zSp hI (zQ_0 hI fN) M N1 x b
    obtain ⟨R, hR⟩ : ∃ N, N = w_D_putsAside (zz_up N1 194 0 0) := ⟨_, rfl⟩
    rw [← hR] at B
    have e2 : w_D_span N1 x b = (zf_for 6 (f_D_span_1 N1 x b) ((-1 : Int32), R)).2 := by
      unfold w_D_span
      simp only [i, zk_t, zb_f, zd_0]
      rw [hR]
    rw [e1]
    unfold ok_N_span t_N_span ok_D_span v_N_span v_D_span
    rw [e2]
    simp only [i, t, zn_0, zk_t, zb_f, zd_0]
    rw [← hR]
    refine ⟨fun _ j hj => ?_, fun j => fN 0 j (by omega) (by omega) (by omega), Or.inl trivial, fun _ j hj => ?_, (B 6).2.2.2.2.2.2, fun _ => (B 6).1, zQ_inv hI (B 6).2⟩
    · obtain ⟨s1, s2, s3, s4⟩ := zQ_step hI (B j).2 x (Int32.ofNat (j + 1))
      exact ⟨s1, (zw_done s3).2.1⟩
    · obtain ⟨s1, s2, s3, s4⟩ := zQ_step hI (B j).2 x (Int32.ofNat (j + 1))
      exact ⟨s2, (zw_done s3).2.2⟩
  · unfold ok_N_span t_N_span ok_D_span v_N_span v_D_span w_D_span w_N_span
    simp only [i, t, zk_f, zb_t, zd_1]
    exact ⟨(fun h => by cases h), fun _ => rfl, Or.inr rfl, (fun h => by cases h), rfl, (fun h => by cases h), zv_th hI _⟩
