/-! ACTS that set a number: calls 11, 12, 13, 14, 15, 16. -/
theorem zd_0 : decide ((0 : Int32) ≤ 0) = true := rfl
theorem zd_1 : decide ((1 : Int32) ≤ 0) = false := rfl
theorem zd_2 : decide ((2 : Int32) ≤ 0) = false := rfl
theorem zn_0 : Nat.beq 0 0 = true := rfl
theorem zn_3 : Nat.beq 3 0 = false := rfl
theorem zA_set {M N1 N2 : zMem} (hI : zv_Inv M) (hC : ∀ a i, ¬ (4 ≤ a ∧ a ≤ 14) → N1 a i = w_A_remember M a i) (h1 : ∀ a i, ¬ (a = 194 ∧ i = 0) → N2 a i = N1 a i) : (∀ i, N1 0 i = M 0 i) ∧ N1 195 = M 195 ∧ ok_A_remember M ∧ ok_D_remembers N2 ∧ (∀ a i, 4 ≤ a → a ≤ 14 → w_A_remember M a i = M a i) ∧ (∀ i, w_D_remembers N2 195 i = M 195 i) ∧ w_D_remembers N2 194 0 = N2 194 0 ∧ zc_St (w_A_remember M) 4 (w_D_remembers N2 195) ∧ (∀ M2 : zMem, (∀ a i, ¬ (a = 195 ∧ i ≠ 1 ∧ i ≠ 2 ∧ i < 309) → M2 a i = w_D_remembers N2 a i) → zc_St N1 4 (M2 195) → zv_Inv M2) := by
  obtain ⟨t, k, ht, hk, t2, k2, k3, ok, w1, w2, w3, w4⟩ := zr_N hI
  have k6 : N2 194 6 = Int32.ofNat k := by rw [h1 194 6 (by omega), hC 194 6 (by omega), w3 194 6 (by omega) (by omega)]; exact k3
  obtain ⟨⟨d1, d2, d3⟩, d4⟩ := zra_ok hk k6
  have e5 : ∀ i, w_D_remembers N2 195 i = M 195 i := by
    intro i
    rw [d3 195 i (by omega) (by omega), h1 195 i (by omega), hC 195 i (by omega)]
    exact w3 195 i (by omega) (by omega)
  refine ⟨fun i => ?_, ?_, ok, d4, fun a i a1 a2 => w3 a i (by omega) (by omega), e5, d3 194 0 (by omega) (by omega), ?_, fun M2 h2 hS => ?_⟩
  · rw [hC 0 i (by omega)]; exact w3 0 i (by omega) (by omega)
  · funext i
    rw [hC 195 i (by omega)]; exact w3 195 i (by omega) (by omega)
  · exact zc_pt (fun a i a1 a2 _ => w3 a i (by omega) (by omega)) (fun i _ => e5 i) (zv_St hI)
  · refine zv_act (N2 := N2) hI (fun a i q1 q2 => ?_) (fun a i _ _ q => h2 a i (by omega)) ?_
    · rw [h1 a i q2]; exact hC a i q1
    · refine zc_pt (fun a i a1 a2 _ => ?_) (fun i _ => rfl) hS
      rw [h2 a i (by omega), d3 a i (by omega) (by omega)]
      exact h1 a i (by omega)
theorem zi_one {M : zMem} (x : Int32) (N : zMem) (h : N 195 = M 195) : v_D_isOne N x = v_D_isOne M x := by
  unfold v_D_isOne
  rw [h]
theorem zi_f1 {p k : Nat} (hp : p < 6) (hk : k < 6) : (((33 : Int32) + ((6 : Int32) * Int32.ofNat p)) + Int32.ofNat k).toNatClampNeg = 33 + 6 * p + k ∧ zz_in (((33 : Int32) + ((6 : Int32) * Int32.ofNat p)) + Int32.ofNat k) 709 = true := ⟨zx_of p hp k hk, zx_ofi p hp k hk⟩
theorem zo11 : zo_11 zv_Inv := by
  intro M x hI
  rcases zg_p hI (M' := M) rfl x with ⟨p, hp, e, en, t, i⟩ | ⟨t, i⟩
  · subst e
    obtain ⟨N1, hN1⟩ : ∃ N, N = zz_up (w_A_remember M) (4 + 4 + 1) p 0 := ⟨_, rfl⟩
    have e1 : w_N_wash M (Int32.ofNat p) = N1 := by
      unfold w_N_wash
      rw [t, en, hN1]
      simp only [zn_0, zk_t]
    obtain ⟨N2, hN2⟩ : ∃ N, N = zz_up N1 194 0 0 := ⟨_, rfl⟩
    obtain ⟨r0, r195, o1, o2, rA, rD, r194, hS, fin⟩ := zA_set (N1 := N1) (N2 := N2) hI (fun a j h => by rw [hN1, zu_o (by omega)]) (fun a j h => by rw [hN2, zu_o h])
    have hi := (zi_one (Int32.ofNat p) N1 r195).trans i
    obtain ⟨ix, iy⟩ := zi_f1 hp (k := 1) (by omega)
    have ix : (((33 : Int32) + ((6 : Int32) * Int32.ofNat p)) + (1 : Int32)).toNatClampNeg = 33 + 6 * p + 1 := ix
    have e2 : w_D_wash N1 (Int32.ofNat p) = zz_up (w_D_remembers N2) 195 (33 + 6 * p + 1) 0 := by
      unfold w_D_wash w_D_sets
      simp only [hi, zk_t, zb_f, zd_0, ix]
      rw [hN2]
    rw [e1]
    unfold ok_N_wash t_N_wash ok_D_wash v_N_wash v_D_wash ok_D_sets v_D_sets
    rw [e2]
    simp only [t, hi, zn_0, zk_t, zb_f, zd_0, ix]
    rw [← hN2, en]
    refine ⟨fun _ => ⟨o1, zq_in hp⟩, r0, Or.inl trivial, fun _ => ⟨o2, iy⟩, ?_, fun _ => ?_, fin _ (fun a j h => zu_o (by omega)) ?_⟩
    · unfold v_D_thrown
      rw [zu_o (by omega), r194, hN2, zu_eq]; rfl
    · rw [rA 9 p (by omega) (by omega), rD]
      exact ((zc_Pj (zv_St hI).2.1) p hp 1 (by omega)).1
    · rw [hN1]
      exact zc_uP hS hp (by omega) (show zrg 0 65535 0 from ⟨by decide, by decide⟩)
  · unfold ok_N_wash t_N_wash ok_D_wash v_N_wash v_D_wash w_D_wash w_N_wash
    simp only [t, i, zn_3, zk_f, zb_t, zd_1]
    exact ⟨(fun h => by cases h), fun _ => trivial, Or.inr trivial, (fun h => by cases h), rfl, (fun h => by cases h), zv_th hI _⟩
