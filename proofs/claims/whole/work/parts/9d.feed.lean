/-! call 0 -/
def zby (x : Int32) (k : Nat) : Int32 := (zus x (Int32.ofNat (24 - 8 * k))) &&& (255 : Int32)
theorem zby_r (x : Int32) (k : Nat) : zrg 0 255 (zby x k) := by
  obtain ⟨n, h1, h2⟩ := zN_255 (zus x (Int32.ofNat (24 - 8 * k)))
  unfold zby
  rw [h2]
  exact ⟨by rw [zi_val (by omega)]; omega, by rw [zi_val (by omega)]; omega⟩
theorem zput {M : zMem} {z : Nat} (x : Int32) (hz : M 2 1 = Int32.ofNat z) (h : z + 4 ≤ 400) : (w_T_put M x 2 1 = Int32.ofNat (z + 4) ∧ (∀ j, z ≤ j → j < z + 4 → w_T_put M x 3 j = zby x (j - z)) ∧ (∀ a i, ¬ (a = 3 ∧ z ≤ i ∧ i < z + 4) → ¬ (a = 2 ∧ i = 1) → w_T_put M x a i = M a i)) ∧ ok_T_put M x := by
  unfold w_T_put ok_T_put
  refine zf_wq (g := g_T_put_1 M x) (k := kb_T_put_1 M x) (fun i (s : Int32 × zMem) => i ≤ 4 ∧ s.1.toInt = 24 - 8 * (i : Int) ∧ s.2 2 1 = Int32.ofNat (z + i) ∧ (∀ j, z ≤ j → j < z + i → s.2 3 j = zby x (j - z)) ∧ (∀ a j, ¬ (a = 3 ∧ z ≤ j ∧ j < z + i) → ¬ (a = 2 ∧ j = 1) → s.2 a j = M a j)) (fun (s : Int32 × zMem) => s.2 2 1 = Int32.ofNat (z + 4) ∧ (∀ j, z ≤ j → j < z + 4 → s.2 3 j = zby x (j - z)) ∧ (∀ a i, ¬ (a = 3 ∧ z ≤ i ∧ i < z + 4) → ¬ (a = 2 ∧ i = 1) → s.2 a i = M a i)) 4 (fun i s ⟨hi, h1, h2, h3, h4⟩ => ?_) 1000 0 ((24 : Int32), M) ⟨by omega, rfl, hz, fun j j1 j2 => by omega, fun a j _ _ => rfl⟩ (by omega)
  have e400 : (400 : Int32).toInt = 400 := rfl
  have d1 : decide (s.1 < 0) = decide (4 ≤ i) := by
    rw [zg_lt0]; exact decide_eq_decide.mpr (by omega)
  unfold g_T_put_1 kb_T_put_1
  rw [d1, h2]
  by_cases c : 4 ≤ i
  · rw [decide_eq_true c]
    have e : i = 4 := by omega
    subst e
    exact ⟨by omega, (fun hh => by cases hh), (fun hh => by cases hh), fun _ => ⟨h2, h3, h4⟩⟩
  · have d2 : decide ((400 : Int32) ≤ Int32.ofNat (z + i)) = false := by
      rw [zi_lei, zi_val (by omega), e400]; exact decide_eq_false (by omega)
    rw [decide_eq_false c, d2, zi_nat (by omega)]
    have es : s.1 = Int32.ofNat (24 - 8 * i) := zi_eq (by rw [h1, zi_val (by omega)]; omega)
    refine ⟨by omega, fun _ _ => zi_in (by omega) (by omega), fun _ => ⟨by omega, ?_, ?_, fun j j1 j2 => ?_, fun a j j1 j2 => ?_⟩, (fun hh => by cases hh)⟩
    · show (s.1 + (-8 : Int32)).toInt = _
      rw [Int32.toInt_add, show (-8 : Int32).toInt = -8 from rfl, h1, Int.bmod_eq_of_le (by omega) (by omega)]
      omega
    · show zz_up (zz_up s.2 3 (z + i) (zus x s.1 &&& (255 : Int32))) 2 1 (Int32.ofNat (z + i) + (1 : Int32)) 2 1 = _
      rw [zu_eq]; exact zi_ad (z + i) 1
    · show zz_up (zz_up s.2 3 (z + i) (zus x s.1 &&& (255 : Int32))) 2 1 (Int32.ofNat (z + i) + (1 : Int32)) 3 j = _
      rw [zu_o (by omega)]
      by_cases ej : j = z + i
      · subst ej
        rw [zu_eq, es]
        unfold zby
        rw [show z + i - z = i by omega]
      · rw [zu_o (by omega)]; exact h3 j j1 (by omega)
    · show zz_up (zz_up s.2 3 (z + i) (zus x s.1 &&& (255 : Int32))) 2 1 (Int32.ofNat (z + i) + (1 : Int32)) a j = _
      rw [zu_o (by omega), zu_o (by omega)]; exact h4 a j (by omega) j2
def zfx (x0 x1 x2 x3 x4 : Int32) (i : Nat) : Int32 := bif decide (4 ≤ i) then (bif decide (8 ≤ i) then (bif decide (12 ≤ i) then (bif decide (16 ≤ i) then x4 else x3) else x2) else x1) else x0
theorem zi_24 : ∀ i, i < 20 → (24 : Int32) - ((8 : Int32) * (zrm (Int32.ofNat i) (4 : Int32))) = Int32.ofNat (24 - 8 * (i % 4)) := by decide +kernel
theorem zD_feed {M : zMem} {z : Nat} (x0 x1 x2 x3 x4 : Int32) (M0 : zMem) (hz : M 194 8 = Int32.ofNat z) (h : z + 20 ≤ 400) : ∀ n, n ≤ 20 → (zf_for n (f_D_feed_1 M0 x0 x1 x2 x3 x4) M 194 8 = Int32.ofNat (z + n) ∧ (∀ j, z ≤ j → j < z + n → zf_for n (f_D_feed_1 M0 x0 x1 x2 x3 x4) M 199 j = zby (zfx x0 x1 x2 x3 x4 (j - z)) ((j - z) % 4)) ∧ (∀ a i, ¬ (a = 199 ∧ z ≤ i ∧ i < z + n) → ¬ (a = 194 ∧ i = 8) → zf_for n (f_D_feed_1 M0 x0 x1 x2 x3 x4) M a i = M a i)) := by
  intro n
  induction n with
  | zero => exact fun _ => ⟨hz, fun j j1 j2 => by omega, fun a i _ _ => rfl⟩
  | succ n ih =>
    intro hn
    obtain ⟨h1, h2, h3⟩ := ih (by omega)
    have e : zf_for (n + 1) (f_D_feed_1 M0 x0 x1 x2 x3 x4) M = zz_up (zz_up (zf_for n (f_D_feed_1 M0 x0 x1 x2 x3 x4) M) 199 (z + n) (zby (zfx x0 x1 x2 x3 x4 n) (n % 4))) 194 8 (Int32.ofNat (z + n) + (1 : Int32)) := by
      show f_D_feed_1 M0 x0 x1 x2 x3 x4 n (zf_for n (f_D_feed_1 M0 x0 x1 x2 x3 x4) M) = _
      generalize zf_for n (f_D_feed_1 M0 x0 x1 x2 x3 x4) M = Z at h1 ⊢
      unfold f_D_feed_1
      rw [h1, zi_nat (by omega), zi_24 n (by omega), show decide ((4 : Int32) ≤ Int32.ofNat n) = decide (4 ≤ n) from zi_len (n := 4) (by omega) (by omega), show decide ((8 : Int32) ≤ Int32.ofNat n) = decide (8 ≤ n) from zi_len (n := 8) (by omega) (by omega), show decide ((12 : Int32) ≤ Int32.ofNat n) = decide (12 ≤ n) from zi_len (n := 12) (by omega) (by omega), show decide ((16 : Int32) ≤ Int32.ofNat n) = decide (16 ≤ n) from zi_len (n := 16) (by omega) (by omega)]
      rfl
    rw [e]
    refine ⟨by rw [zu_eq]; exact zi_ad (z + n) 1, fun j j1 j2 => ?_, fun a i a1 a2 => ?_⟩
    · rw [zu_o (by omega)]
      by_cases c : j = z + n
      · subst c
        rw [zu_eq, show z + n - z = n by omega]
      · rw [zu_o (by omega)]; exact h2 j j1 (by omega)
    · rw [zu_o (by omega), zu_o (by omega)]; exact h3 a i (by omega) a2
/-- five numbers put -/
theorem zN_feed {M : zMem} {z : Nat} (x0 x1 x2 x3 x4 : Int32) (z2 : M 2 1 = Int32.ofNat z) (c : z + 20 ≤ 400) : ∃ N5 : zMem, w_T_put (w_T_put (w_T_put (w_T_put (w_T_put M x0) x1) x2) x3) x4 = N5 ∧ (ok_T_put M x0 ∧ (ok_T_put (w_T_put M x0) x1 ∧ (ok_T_put (w_T_put (w_T_put M x0) x1) x2 ∧ (ok_T_put (w_T_put (w_T_put (w_T_put M x0) x1) x2) x3 ∧ ok_T_put (w_T_put (w_T_put (w_T_put (w_T_put M x0) x1) x2) x3) x4)))) ∧ N5 2 1 = Int32.ofNat (z + 20) ∧ (∀ a i, a ≠ 3 → ¬ (a = 2 ∧ i = 1) → N5 a i = M a i) ∧ (∀ j, z ≤ j → j < z + 20 → N5 3 j = zby (zfx x0 x1 x2 x3 x4 (j - z)) ((j - z) % 4)) ∧ (∀ j, ¬ (z ≤ j ∧ j < z + 20) → N5 3 j = M 3 j) := by
  obtain ⟨⟨a1, a2, a3⟩, a4⟩ := zput x0 z2 (by omega)
  generalize w_T_put M x0 = N1 at a1 a2 a3 ⊢
  obtain ⟨⟨b1, b2, b3⟩, b4⟩ := zput x1 a1 (by omega)
  generalize w_T_put N1 x1 = N2 at b1 b2 b3 ⊢
  obtain ⟨⟨c1, c2, c3⟩, c4⟩ := zput x2 b1 (by omega)
  generalize w_T_put N2 x2 = N3 at c1 c2 c3 ⊢
  obtain ⟨⟨d1, d2, d3⟩, d4⟩ := zput x3 c1 (by omega)
  generalize w_T_put N3 x3 = N4 at d1 d2 d3 ⊢
  obtain ⟨⟨e1, e2, e3⟩, e4⟩ := zput x4 d1 (by omega)
  generalize w_T_put N4 x4 = N5 at e1 e2 e3 ⊢
  refine ⟨N5, rfl, ⟨a4, b4, c4, d4, e4⟩, by rw [e1], fun a i h1 h2 => ?_, fun j j1 j2 => ?_, fun j hj => ?_⟩
  · rw [e3 a i (by omega) h2, d3 a i (by omega) h2, c3 a i (by omega) h2, b3 a i (by omega) h2, a3 a i (by omega) h2]
  · unfold zfx
    by_cases q4 : z + 16 ≤ j
    · rw [e2 j (by omega) (by omega), decide_eq_true (show 4 ≤ j - z by omega), decide_eq_true (show 8 ≤ j - z by omega), decide_eq_true (show 12 ≤ j - z by omega), decide_eq_true (show 16 ≤ j - z by omega), zk_t, zk_t, zk_t, zk_t]
      exact congrArg (zby x4) (by omega)
    · rw [e3 3 j (by omega) (by omega)]
      by_cases q3 : z + 12 ≤ j
      · rw [d2 j (by omega) (by omega), decide_eq_true (show 4 ≤ j - z by omega), decide_eq_true (show 8 ≤ j - z by omega), decide_eq_true (show 12 ≤ j - z by omega), decide_eq_false (show ¬ 16 ≤ j - z by omega), zk_t, zk_t, zk_t, zk_f]
        exact congrArg (zby x3) (by omega)
      · rw [d3 3 j (by omega) (by omega)]
        by_cases q2 : z + 8 ≤ j
        · rw [c2 j (by omega) (by omega), decide_eq_true (show 4 ≤ j - z by omega), decide_eq_true (show 8 ≤ j - z by omega), decide_eq_false (show ¬ 12 ≤ j - z by omega), zk_t, zk_t, zk_f]
          exact congrArg (zby x2) (by omega)
        · rw [c3 3 j (by omega) (by omega)]
          by_cases q1 : z + 4 ≤ j
          · rw [b2 j (by omega) (by omega), decide_eq_true (show 4 ≤ j - z by omega), decide_eq_false (show ¬ 8 ≤ j - z by omega), zk_t, zk_f]
            exact congrArg (zby x1) (by omega)
          · rw [b3 3 j (by omega) (by omega), a2 j (by omega) (by omega), decide_eq_false (show ¬ 4 ≤ j - z by omega), zk_f]
            exact congrArg (zby x0) (by omega)
  · rw [e3 3 j (by omega) (by omega), d3 3 j (by omega) (by omega), c3 3 j (by omega) (by omega), b3 3 j (by omega) (by omega), a3 3 j (by omega) (by omega)]
theorem zI_feed {M N5 M2 : zMem} {z : Nat} {x0 x1 x2 x3 x4 : Int32} (hI : zv_Inv M) (c : z + 20 ≤ 400) (e1 : N5 2 1 = Int32.ofNat (z + 20)) (hN : ∀ a i, a ≠ 3 → ¬ (a = 2 ∧ i = 1) → N5 a i = M a i) (hb : ∀ j, z ≤ j → j < z + 20 → N5 3 j = zby (zfx x0 x1 x2 x3 x4 (j - z)) ((j - z) % 4)) (hb3 : ∀ j, ¬ (z ≤ j ∧ j < z + 20) → N5 3 j = M 3 j) (f1 : M2 194 8 = Int32.ofNat (z + 20)) (f2 : ∀ j, z ≤ j → j < z + 20 → M2 199 j = zby (zfx x0 x1 x2 x3 x4 (j - z)) ((j - z) % 4)) (g : ∀ a i, ¬ (a = 199 ∧ z ≤ i ∧ i < z + 20) → ¬ (a = 194 ∧ (i = 8 ∨ i = 0)) → M2 a i = N5 a i) : zv_Inv M2 := by
  obtain ⟨t1, t2, t3⟩ := zv_Tp hI
  have T : zc_T M2 := by
    refine ⟨?_, ?_, fun j hj => ?_⟩
    · rw [f1, g 2 1 (by omega) (by omega), e1]
    · rw [g 2 1 (by omega) (by omega), e1]
      exact ⟨by rw [zi_val (by omega)]; omega, by rw [zi_val (by omega)]; omega⟩
    · rw [g 3 j (by omega) (by omega)]
      by_cases q : z ≤ j ∧ j < z + 20
      · rw [f2 j q.1 q.2, hb j q.1 q.2]
        exact ⟨rfl, zby_r _ _⟩
      · rw [g 199 j (by omega) (by omega), hb3 j q, hN 199 j (by omega) (by omega)]
        exact t3 j hj
  refine zv_tp hI (fun a i hs p1 p2 p3 p4 => ?_) (zc_TC (zs_at rfl) (zs_at rfl) (fun i _ => ⟨zs_at rfl, zs_at rfl⟩) T) ?_ ?_
  · have := (zs_o hs).2.2
    rw [g a i (by omega) (by omega)]
    exact hN a i p2 p1
  · rw [g 194 15 (by omega) (by omega)]; exact hN 194 15 (by omega) (by omega)
  · rw [g 194 16 (by omega) (by omega)]; exact hN 194 16 (by omega) (by omega)
theorem zo0 : zo_0 zv_Inv := by
  intro M x0 x1 x2 x3 x4 hI
  obtain ⟨t1, t2, t3⟩ := zv_Tp hI
  obtain ⟨z, z1, z2, -⟩ := zr_ex t2
  have hdec : decide (Int32.ofNat z + (20 : Int32) ≤ (400 : Int32)) = decide (z + 20 ≤ 400) := by
    rw [show Int32.ofNat z + (20 : Int32) = Int32.ofNat (z + 20) from zi_ad z 20, zi_lei, zi_val (by omega)]
    have e400 : (400 : Int32).toInt = 400 := rfl
    exact decide_eq_decide.mpr (by omega)
  have hz8 : M 194 8 = Int32.ofNat z := by rw [← t1]; exact z2
  unfold ok_N_feed v_N_feed w_N_feed v_T_size ok_D_feed v_D_feed w_D_feed
  rw [z2, hdec]
  by_cases c : z + 20 ≤ 400
  · rw [decide_eq_true c, zk_t, zk_t]
    obtain ⟨N5, eN, okN, e1, hN, hb, hb3⟩ := zN_feed x0 x1 x2 x3 x4 z2 c
    rw [eN]
    have h8 : N5 194 8 = Int32.ofNat z := by rw [hN 194 8 (by omega) (by omega)]; exact hz8
    rw [h8, hdec, decide_eq_true c, zk_t, zk_t]
    have hz9 : (zz_up N5 194 0 0) 194 8 = Int32.ofNat z := by rw [zu_o (by omega)]; exact h8
    have loop := zD_feed x0 x1 x2 x3 x4 N5 hz9 c
    obtain ⟨f1, f2, f3⟩ := loop 20 (by omega)
    refine ⟨fun _ => okN, fun i => hN 0 i (by omega) (by omega), fun _ i hi => ?_, ?_, ?_⟩
    · unfold kb_D_feed_1
      rw [(loop i (by omega)).1]
      exact zi_in (by omega) (by omega)
    · rw [f1, e1]
    · exact zI_feed hI c e1 hN hb hb3 f1 f2 (fun a i h1 h2 => by rw [f3 a i h1 (by omega), zu_o (by omega)])
  · rw [decide_eq_false c, zk_f, zk_f, hz8, hdec, decide_eq_false c, zk_f, zk_f]
    exact ⟨(fun h => by cases h), fun _ => rfl, (fun h => by cases h), rfl, zv_th hI 0⟩
