/-! ACTS: what is remembered, on both sides. -/
theorem zs_i {a i : Nat} (h : a ≠ 0 ∧ (a < 15 ∨ 25 < a) ∧ (a < 42 ∨ 50 < a) ∧ a ≠ 56 ∧ a ≠ 57 ∧ a ≠ 193 ∧ a ≠ 197 ∧ (a < 200 ∨ 203 < a)) (h2 : a ≠ 2) (h194 : a ≠ 194) : zs_scr a i = false := by
  have e : zs_scr a i = ((Nat.beq a 0 || (Nat.beq a 15 || (Nat.beq a 16 || (Nat.beq a 17 || (Nat.beq a 18 || (Nat.beq a 19 || (Nat.beq a 20 || (Nat.beq a 21 || (Nat.beq a 22 || (Nat.beq a 23 || (Nat.beq a 24 || (Nat.beq a 25 || (Nat.beq a 42 || (Nat.beq a 43 || (Nat.beq a 44 || (Nat.beq a 45 || (Nat.beq a 46 || (Nat.beq a 47 || (Nat.beq a 48 || (Nat.beq a 49 || (Nat.beq a 50 || (Nat.beq a 56 || (Nat.beq a 57 || (Nat.beq a 193 || (Nat.beq a 197 || (Nat.beq a 200 || (Nat.beq a 201 || (Nat.beq a 202 || (Nat.beq a 203 || false))))))))))))))))))))))))))))) || ((Nat.beq a 2 && Nat.ble 2 i) || (Nat.beq a 194 && !([3, 6, 8, 12].any (Nat.beq i))))) := rfl
  rw [e, zb_ne (show ¬ a = 0 by omega), zb_ne (show ¬ a = 15 by omega), zb_ne (show ¬ a = 16 by omega), zb_ne (show ¬ a = 17 by omega), zb_ne (show ¬ a = 18 by omega), zb_ne (show ¬ a = 19 by omega), zb_ne (show ¬ a = 20 by omega), zb_ne (show ¬ a = 21 by omega), zb_ne (show ¬ a = 22 by omega), zb_ne (show ¬ a = 23 by omega), zb_ne (show ¬ a = 24 by omega), zb_ne (show ¬ a = 25 by omega), zb_ne (show ¬ a = 42 by omega), zb_ne (show ¬ a = 43 by omega), zb_ne (show ¬ a = 44 by omega), zb_ne (show ¬ a = 45 by omega), zb_ne (show ¬ a = 46 by omega), zb_ne (show ¬ a = 47 by omega), zb_ne (show ¬ a = 48 by omega), zb_ne (show ¬ a = 49 by omega), zb_ne (show ¬ a = 50 by omega), zb_ne (show ¬ a = 56 by omega), zb_ne (show ¬ a = 57 by omega), zb_ne (show ¬ a = 193 by omega), zb_ne (show ¬ a = 197 by omega), zb_ne (show ¬ a = 200 by omega), zb_ne (show ¬ a = 201 by omega), zb_ne (show ¬ a = 202 by omega), zb_ne (show ¬ a = 203 by omega), zb_ne (show ¬ a = 2 by omega), zb_ne (show ¬ a = 194 by omega)]
  rfl
/-- the invariant's body rests on unmasked cells alone -/
theorem zc_AllC {N N' : zMem} (h : ∀ a i, zs_scr a i = false → N' a i = N a i) (hN : zc_All N) : zc_All N' := by
  have row : ∀ a, (a ≠ 0 ∧ (a < 15 ∨ 25 < a) ∧ (a < 42 ∨ 50 < a) ∧ a ≠ 56 ∧ a ≠ 57 ∧ a ≠ 193 ∧ a ≠ 197 ∧ (a < 200 ∨ 203 < a)) → a ≠ 2 → a ≠ 194 → N' a = N a := fun a ha h2 h3 => by
    funext i
    exact h a i (zs_i ha h2 h3)
  obtain ⟨hS, hL, hT, hF, hA, hK⟩ := hN
  have e195 : N' 195 = N 195 := row 195 (by omega) (by omega) (by omega)
  have e196 : N' 196 = N 196 := row 196 (by omega) (by omega) (by omega)
  have e198 : N' 198 = N 198 := row 198 (by omega) (by omega) (by omega)
  have e199 : N' 199 = N 199 := row 199 (by omega) (by omega) (by omega)
  have e1 : N' 1 = N 1 := row 1 (by omega) (by omega) (by omega)
  have e3 : N' 3 = N 3 := row 3 (by omega) (by omega) (by omega)
  have e58 : N' 58 = N 58 := row 58 (by omega) (by omega) (by omega)
  have e21 : N' 2 1 = N 2 1 := h 2 1 rfl
  have f3 : N' 194 3 = N 194 3 := h 194 3 rfl
  have f6 : N' 194 6 = N 194 6 := h 194 6 rfl
  have f8 : N' 194 8 = N 194 8 := h 194 8 rfl
  have f12 : N' 194 12 = N 194 12 := h 194 12 rfl
  refine ⟨zc_cg (fun j hj => row _ (by omega) (by omega) (by omega)) (fun i _ => by rw [e195]) hS, zc_LwC (fun j hj => row _ (by omega) (by omega) (by omega)) (fun i _ => by rw [e195]) hL, ?_, by rw [e1, f12]; exact hF, ⟨?_, fun b hb => ?_⟩, ?_⟩
  · unfold zc_T
    rw [e21, f8, e3, e199]; exact hT
  · rw [e58, f6]; exact hA.1
  · rw [e58] at hb
    obtain ⟨a1, a2, a3⟩ := hA.2 b hb
    have hm : ((N 58 1).toInt.toNat + 11 - b) % 12 < 12 := Nat.mod_lt _ (by omega)
    rw [e58, e195]
    refine ⟨zc_cg (fun j hj => row _ (by omega) (by omega) (by omega)) (fun i _ => by rw [e198]) a1, ?_, ?_⟩
    · rw [e198]; exact a2
    · rw [e198]; exact a3
  · unfold zc_I
    rw [e1, f3, e196]
    refine ⟨hK.1, hK.2.1, fun hh => ?_⟩
    obtain ⟨b1, b2⟩ := hK.2.2 hh
    exact ⟨zc_cg (fun j hj => row _ (by omega) (by omega) (by omega)) (fun i _ => rfl) b1, zc_LwC (fun j hj => row _ (by omega) (by omega) (by omega)) (fun i _ => rfl) b2⟩
theorem zv_al {M : zMem} (hI : zv_Inv M) : zc_All M := zc_AllC (fun a i hs => (zs_at hs).symm) hI.1
theorem zv_mk {M : zMem} (h : zc_All M) (h1 : zz_b01 (M 194 15) = true) (h2 : zz_b01 (M 194 16) = true) : zv_Inv M := ⟨zc_AllC (fun a i hs => zs_at hs) h, h1, h2⟩
/-- what the reference remembers -/
def zra (k : Nat) (m acts : Nat → Int32) : Nat → Int32 := fun j => bif Nat.beq k 12 then (bif decide (j < 3399) then acts (j + 309) else (bif decide (j < 3708) then m (j - 3399) else acts j)) else (bif (decide (309 * k ≤ j) && decide (j < 309 * k + 309)) then m (j - 309 * k) else acts j)
theorem zi_mad {k i : Nat} : ((309 : Int32) * Int32.ofNat k) + Int32.ofNat i = Int32.ofNat (309 * k + i) := by
  rw [Int32.ofNat_add, Int32.ofNat_mul]; rfl
theorem zi_ad (i : Nat) (j : Nat) : Int32.ofNat i + Int32.ofNat j = Int32.ofNat (i + j) := (Int32.ofNat_add i j).symm
theorem zra_1 (N : zMem) : ∀ n, n ≤ 3399 → (∀ j, zf_for n (f_D_remembers_1 N) N 198 j = (bif decide (j < n) then N 198 (j + 309) else N 198 j)) ∧ (∀ a i, a ≠ 198 → zf_for n (f_D_remembers_1 N) N a i = N a i) := by
  intro n
  induction n with
  | zero => exact fun _ => ⟨fun j => rfl, fun a i _ => rfl⟩
  | succ n ih =>
    intro hn
    obtain ⟨h1, h2⟩ := ih (by omega)
    have e : zf_for (n + 1) (f_D_remembers_1 N) N = zz_up (zf_for n (f_D_remembers_1 N) N) 198 n (zf_for n (f_D_remembers_1 N) N 198 (n + 309)) := by
      show f_D_remembers_1 N n (zf_for n (f_D_remembers_1 N) N) = _
      unfold f_D_remembers_1
      rw [show (Int32.ofNat n) + (309 : Int32) = Int32.ofNat (n + 309) from zi_ad n 309, zi_nat (by omega)]
    rw [e]
    refine ⟨fun j => ?_, fun a i ha => ?_⟩
    · by_cases c : j = n
      · subst c
        rw [zu_eq, h1, decide_eq_false (show ¬ j + 309 < j by omega), zk_f, decide_eq_true (show j < j + 1 by omega), zk_t]
      · rw [zu_o (by omega), h1]
        by_cases c2 : j < n
        · rw [decide_eq_true c2, decide_eq_true (show j < n + 1 by omega)]
        · rw [decide_eq_false c2, decide_eq_false (show ¬ j < n + 1 by omega)]
    · rw [zu_o (by omega)]; exact h2 a i ha
theorem zra_2 (N0 N : zMem) (k : Nat) (hk : k ≤ 11) (h6 : N 194 6 = Int32.ofNat k) : ∀ n, n ≤ 309 → (∀ j, zf_for n (f_D_remembers_2 N0) N 198 j = (bif (decide (309 * k ≤ j) && decide (j < 309 * k + n)) then N 195 (j - 309 * k) else N 198 j)) ∧ (∀ a i, a ≠ 198 → zf_for n (f_D_remembers_2 N0) N a i = N a i) := by
  intro n
  induction n with
  | zero =>
    refine fun _ => ⟨fun j => ?_, fun a i _ => rfl⟩
    by_cases c : 309 * k ≤ j
    · rw [decide_eq_true c, decide_eq_false (show ¬ j < 309 * k + 0 by omega)]; rfl
    · rw [decide_eq_false c]; rfl
  | succ n ih =>
    intro hn
    obtain ⟨h1, h2⟩ := ih (by omega)
    have e : zf_for (n + 1) (f_D_remembers_2 N0) N = zz_up (zf_for n (f_D_remembers_2 N0) N) 198 (309 * k + n) (N 195 n) := by
      show zz_up (zf_for n (f_D_remembers_2 N0) N) 198 (((309 : Int32) * (zf_for n (f_D_remembers_2 N0) N 194 6)) + (Int32.ofNat n)).toNatClampNeg (zf_for n (f_D_remembers_2 N0) N 195 n) = _
      rw [h2 194 6 (by omega), h6, zi_mad, zi_nat (by omega), h2 195 n (by omega)]
    rw [e]
    refine ⟨fun j => ?_, fun a i ha => ?_⟩
    · by_cases c : j = 309 * k + n
      · subst c
        rw [zu_eq, decide_eq_true (show 309 * k ≤ 309 * k + n by omega), decide_eq_true (show 309 * k + n < 309 * k + (n + 1) by omega), Bool.and_self, zk_t, show 309 * k + n - 309 * k = n by omega]
      · rw [zu_o (by omega), h1]
        by_cases c1 : 309 * k ≤ j
        · by_cases c2 : j < 309 * k + n
          · rw [decide_eq_true c1, decide_eq_true c2, decide_eq_true (show j < 309 * k + (n + 1) by omega)]
          · rw [decide_eq_true c1, decide_eq_false c2, decide_eq_false (show ¬ j < 309 * k + (n + 1) by omega)]
        · rw [decide_eq_false c1, Bool.false_and, Bool.false_and]
    · rw [zu_o (by omega)]; exact h2 a i ha
theorem zi_inn {i n : Nat} (h : i < n) (hn : n ≤ 100000) : zz_in (Int32.ofNat i) n = true := zi_in h hn
theorem zra_ok {N : zMem} {k : Nat} (hk : k ≤ 12) (h6 : N 194 6 = Int32.ofNat k) : ((∀ j, w_D_remembers N 198 j = zra k (N 195) (N 198) j) ∧ w_D_remembers N 194 6 = Int32.ofNat (min (k + 1) 12) ∧ (∀ a i, a ≠ 198 → ¬ (a = 194 ∧ i = 6) → w_D_remembers N a i = N a i)) ∧ ok_D_remembers N := by
  unfold w_D_remembers ok_D_remembers
  have ed : decide (N 194 6 = (12 : Int32)) = decide (k = 12) := by
    rw [h6]
    exact zN_eq (a := k) (b := 12) (by omega) (by omega)
  rw [ed]
  by_cases c : k = 12
  · subst c
    rw [decide_eq_true rfl, zk_t]
    obtain ⟨a1, a2⟩ := zra_1 N 3399 (by omega)
    have e6 : (zz_up (zf_for 3399 (f_D_remembers_1 N) N) 194 6 (zf_for 3399 (f_D_remembers_1 N) N 194 6 - (1 : Int32))) 194 6 = Int32.ofNat 11 := by
      rw [zu_eq, a2 194 6 (by omega), h6]; rfl
    obtain ⟨b1, b2⟩ := zra_2 N _ 11 (by omega) e6 309 (by omega)
    refine ⟨⟨fun j => ?_, ?_, fun a i ha hi => ?_⟩, fun _ i hi => ?_, fun i hi => ?_⟩
    · rw [zu_o (by omega), b1, zu_o (by omega), zu_o (by omega), a1, a2 195 _ (by omega)]
      unfold zra
      rw [Nat.beq_refl, zk_t]
      by_cases c1 : j < 3399
      · rw [decide_eq_true c1, decide_eq_false (show ¬ 309 * 11 ≤ j by omega)]; rfl
      · rw [decide_eq_false c1, decide_eq_true (show 309 * 11 ≤ j by omega)]
        by_cases c2 : j < 3708
        · rw [decide_eq_true c2]; rfl
        · rw [decide_eq_false c2]; rfl
    · rw [zu_eq, b2 194 6 (by omega), e6]; rfl
    · rw [zu_o (by omega), b2 a i ha, zu_o (by omega), a2 a i ha]
    · unfold kb_D_remembers_1
      rw [show (Int32.ofNat i) + (309 : Int32) = Int32.ofNat (i + 309) from zi_ad i 309]
      exact zi_in (by omega) (by omega)
    · unfold kb_D_remembers_2
      obtain ⟨-, c2⟩ := zra_2 N _ 11 (by omega) e6 i (by omega)
      rw [c2 194 6 (by omega), e6, zi_mad]
      exact zi_in (by omega) (by omega)
  · rw [decide_eq_false c, zk_f]
    obtain ⟨b1, b2⟩ := zra_2 N N k (by omega) h6 309 (by omega)
    refine ⟨⟨fun j => ?_, ?_, fun a i ha hi => ?_⟩, (fun h => by cases h), fun i hi => ?_⟩
    · rw [zu_o (by omega), b1]
      unfold zra
      rw [zb_ne c, zk_f]
    · rw [zu_eq, b2 194 6 (by omega), h6, show min (k + 1) 12 = k + 1 by omega]
      exact zi_ad k 1
    · rw [zu_o (by omega), b2 a i ha]
    · unfold kb_D_remembers_2
      obtain ⟨-, c2⟩ := zra_2 N N k (by omega) h6 i (by omega)
      rw [c2 194 6 (by omega), h6, zi_mad]
      exact zi_in (by omega) (by omega)
theorem zi_r12 : ∀ t, t < 12 → zrm (Int32.ofNat t + (1 : Int32)) (12 : Int32) = Int32.ofNat ((t + 1) % 12) := by decide +kernel
theorem zi_m12 : ∀ k, k ≤ 12 → v_jm_min (Int32.ofNat k + (1 : Int32)) (12 : Int32) = Int32.ofNat (min (k + 1) 12) := by decide +kernel
/-- what the class remembers -/
theorem zr_N {M : zMem} (hI : zv_Inv M) : ∃ t k, t < 12 ∧ k ≤ 12 ∧ M 58 1 = Int32.ofNat t ∧ M 58 2 = Int32.ofNat k ∧ M 194 6 = Int32.ofNat k ∧ ok_A_remember M ∧ w_A_remember M 58 1 = Int32.ofNat ((t + 1) % 12) ∧ w_A_remember M 58 2 = Int32.ofNat (min (k + 1) 12) ∧ (∀ a i, a ≠ 58 → ¬ (60 + 11 * t ≤ a ∧ a ≤ 70 + 11 * t) → w_A_remember M a i = M a i) ∧ zc_St (w_A_remember M) (60 + 11 * t) (M 195) := by
  have hA := (zv_al hI).2.2.2.2.1.1
  obtain ⟨k, k1, k2, -⟩ := zr_ex hA.2.1
  obtain ⟨t, t1, t2, t3⟩ := zr_ex hA.2.2
  have ht : t < 12 := by omega
  have hc := zcp_all M (s := 60 + 11 * t) (r := 4) (by omega)
  have q1 : decide (Int32.ofNat t < 0) = false := by
    rw [zg_lt0, zi_val (by omega)]; exact decide_eq_false (by omega)
  have q2 : decide (Int32.ofNat t < (12 : Int32)) = true := by
    rw [zi_lti, zi_val (by omega)]
    exact decide_eq_true (by show (t : Int) < 12; omega)
  have ew : w_A_remember M = zz_up (zz_up (w_S_copyFrom M (60 + 11 * t) 4) 58 1 (Int32.ofNat ((t + 1) % 12))) 58 2 (Int32.ofNat (min (k + 1) 12)) := by
    unfold w_A_remember
    rw [t3, t2, q1, q2, zk_f, zk_t]
    show zz_up (zz_up (w_S_copyFrom M (60 + 11 * t) 4) 58 1 (zrm ((w_S_copyFrom M (60 + 11 * t) 4) 58 1 + (1 : Int32)) (12 : Int32))) 58 2 _ = _
    rw [hc.1 58 1 (by omega), hc.1 58 2 (by omega), t2, k2, zi_r12 t ht, zi_m12 k (by omega)]
  refine ⟨t, k, ht, by omega, t2, k2, by rw [← hA.1]; exact k2, ?_, ?_, ?_, fun a i h1 h2 => ?_, ?_⟩
  · unfold ok_A_remember
    rw [t2]
    exact fun _ _ => zi_in ht (by omega)
  · rw [ew, zu_o (by omega), zu_eq]
  · rw [ew, zu_eq]
  · rw [ew, zu_o (by omega), zu_o (by omega)]
    exact hc.1 a i (by omega)
  · refine zc_pt (fun a i h1 h2 _ => ?_) (fun i _ => rfl) (zcp_St hc (zv_St hI))
    rw [ew, zu_o (by omega), zu_o (by omega)]
/-- both remember -/
theorem zr_A {M M2 : zMem} (hI : zv_Inv M) {k : Nat} (hk : k ≤ 12) (h6 : M 194 6 = Int32.ofNat k) (a1 : ∀ j, M2 198 j = zra k (M 195) (M 198) j) (a2 : M2 194 6 = Int32.ofNat (min (k + 1) 12)) (a3 : ∀ a i, (a = 58 ∨ (60 ≤ a ∧ a ≤ 191)) → M2 a i = w_A_remember M a i) (b1 : M2 195 1 = M 195 1) (b2 : M2 195 2 = M 195 2) : zc_A M2 := by
  obtain ⟨t, k', ht, hk', t2, k2, k3, -, w1, w2, w3, w4⟩ := zr_N hI
  have ek : k' = k := (zN_inj (by omega) (by omega)).mp (k3.symm.trans h6)
  subst ek
  have hA := (zv_al hI).2.2.2.2.1.2
  have m1 : M2 58 1 = Int32.ofNat ((t + 1) % 12) := by rw [a3 58 1 (Or.inl rfl)]; exact w1
  have m2 : M2 58 2 = Int32.ofNat (min (k' + 1) 12) := by rw [a3 58 2 (Or.inl rfl)]; exact w2
  have hm : (t + 1) % 12 < 12 := Nat.mod_lt _ (by omega)
  have n1 : (M2 58 1).toInt.toNat = (t + 1) % 12 := by rw [m1, zi_val (by omega)]; rfl
  have n2 : (M2 58 2).toInt = ((min (k' + 1) 12 : Nat) : Int) := by rw [m2, zi_val (by omega)]
  have o1 : (M 58 1).toInt.toNat = t := by rw [t2, zi_val (by omega)]; rfl
  have o2 : (M 58 2).toInt = (k' : Int) := by rw [k2, zi_val (by omega)]
  refine ⟨⟨by rw [m2, a2], ⟨by rw [n2]; omega, by rw [n2]; omega⟩, ⟨by rw [m1, zi_val (by omega)]; omega, by rw [m1, zi_val (by omega)]; omega⟩⟩, fun b hb => ?_⟩
  rw [n2] at hb ⊢
  rw [n1, b1, b2, Int.toNat_natCast]
  have hb2 : b < min (k' + 1) 12 := by omega
  by_cases c : b = 0
  · subst c
    have hz : ∀ i, i < 309 → M2 198 (309 * (min (k' + 1) 12 - 1 - 0) + i) = M 195 i := by
      intro i hi
      rw [a1]
      unfold zra
      by_cases c12 : k' = 12
      · subst c12
        rw [Nat.beq_refl, zk_t, decide_eq_false (by omega), zk_f, decide_eq_true (by omega), zk_t]
        exact congrArg (M 195) (by omega)
      · rw [zb_ne c12, zk_f, decide_eq_true (by omega), decide_eq_true (by omega), Bool.and_self, zk_t]
        exact congrArg (M 195) (by omega)
    have ei : 60 + 11 * (((t + 1) % 12 + 11 - 0) % 12) = 60 + 11 * t := by omega
    rw [ei]
    refine ⟨zc_pt (fun a i h1 h2 _ => a3 a i (Or.inr ⟨by omega, by omega⟩)) hz w4, hz 1 (by omega), hz 2 (by omega)⟩
  · have hb3 : ((b - 1 : Nat) : Int) < (M 58 2).toInt := by rw [o2]; omega
    obtain ⟨c1, c2, c3⟩ := hA (b - 1) hb3
    rw [o1, o2, Int.toNat_natCast] at c1
    rw [o2, Int.toNat_natCast] at c2 c3
    have hz : ∀ i, i < 309 → M2 198 (309 * (min (k' + 1) 12 - 1 - b) + i) = M 198 (309 * (k' - 1 - (b - 1)) + i) := by
      intro i hi
      rw [a1]
      unfold zra
      by_cases c12 : k' = 12
      · subst c12
        rw [Nat.beq_refl, zk_t, decide_eq_true (by omega), zk_t]
        exact congrArg (M 198) (by omega)
      · rw [zb_ne c12, zk_f, decide_eq_false (by omega), Bool.false_and, zk_f]
        exact congrArg (M 198) (by omega)
    have ei : ((t + 1) % 12 + 11 - b) % 12 = (t + 11 - (b - 1)) % 12 := by omega
    have hu : (t + 11 - (b - 1)) % 12 < 12 := Nat.mod_lt _ (by omega)
    have hne : ¬ (t + 11 - (b - 1)) % 12 = t := by omega
    rw [ei]
    generalize (t + 11 - (b - 1)) % 12 = u at c1 hu hne ⊢
    refine ⟨zc_pt (fun a i h1 h2 _ => ?_) hz c1, ?_, ?_⟩
    · rw [a3 a i (Or.inr ⟨by omega, by omega⟩)]
      exact w3 a i (by omega) (by omega)
    · rw [hz 1 (by omega)]; exact c2
    · rw [hz 2 (by omega)]; exact c3
/-- an act -/
theorem zv_act {M N2 M2 : zMem} (hI : zv_Inv M) (h1 : ∀ a i, ¬ (4 ≤ a ∧ a ≤ 14) → ¬ (a = 194 ∧ i = 0) → N2 a i = w_A_remember M a i) (h2 : ∀ a i, (zs_scr a i = false ∨ (a = 194 ∧ (i = 15 ∨ i = 16))) → ¬ (4 ≤ a ∧ a ≤ 14) → (a = 195 → (i = 1 ∨ i = 2 ∨ 309 ≤ i)) → M2 a i = w_D_remembers N2 a i) (hS : zc_St M2 4 (M2 195)) : zv_Inv M2 := by
  obtain ⟨t, k, ht, hk, t2, k2, k3, -, w1, w2, w3, w4⟩ := zr_N hI
  have k6 : N2 194 6 = Int32.ofNat k := by rw [h1 194 6 (by omega) (by omega), w3 194 6 (by omega) (by omega)]; exact k3
  obtain ⟨⟨d1, d2, d3⟩, -⟩ := zra_ok hk k6
  have r195 : N2 195 = M 195 := by
    funext i
    rw [h1 195 i (by omega) (by omega), w3 195 i (by omega) (by omega)]
  have r198 : N2 198 = M 198 := by
    funext i
    rw [h1 198 i (by omega) (by omega), w3 198 i (by omega) (by omega)]
  obtain ⟨-, hL, hT, hF, -, hK⟩ := zv_al hI
  have same : ∀ a i, (zs_scr a i = false ∨ (a = 194 ∧ (i = 15 ∨ i = 16))) → ¬ (4 ≤ a ∧ a ≤ 14) → a ≠ 58 → ¬ (60 ≤ a ∧ a ≤ 191) → a ≠ 198 → ¬ (a = 194 ∧ i = 6) → (a = 195 → (i = 1 ∨ i = 2 ∨ 309 ≤ i)) → M2 a i = M a i := by
    intro a i hs q1 q2 q3 q4 q5 q6
    have hne : ¬ (a = 194 ∧ i = 0) := by
      rcases hs with hs | hs
      · have := (zs_o hs).2.2
        omega
      · omega
    rw [h2 a i hs q1 q6, d3 a i q4 q5, h1 a i q1 hne]
    exact w3 a i q2 (by omega)
  have row : ∀ a, (a ≠ 0 ∧ (a < 15 ∨ 25 < a) ∧ (a < 42 ∨ 50 < a) ∧ a ≠ 56 ∧ a ≠ 57 ∧ a ≠ 193 ∧ a ≠ 197 ∧ (a < 200 ∨ 203 < a)) → a ≠ 2 → a ≠ 194 → ¬ (4 ≤ a ∧ a ≤ 14) → a ≠ 58 → ¬ (60 ≤ a ∧ a ≤ 191) → a ≠ 198 → a ≠ 195 → M2 a = M a := fun a ha p2 p3 q1 q2 q3 q4 q5 => by
    funext i
    exact same a i (Or.inl (zs_i ha p2 p3)) q1 q2 q3 q4 (by omega) (by omega)
  have e1 : M2 1 = M 1 := row 1 (by omega) (by omega) (by omega) (by omega) (by omega) (by omega) (by omega) (by omega)
  have e3 : M2 3 = M 3 := row 3 (by omega) (by omega) (by omega) (by omega) (by omega) (by omega) (by omega) (by omega)
  have e196 : M2 196 = M 196 := row 196 (by omega) (by omega) (by omega) (by omega) (by omega) (by omega) (by omega) (by omega)
  have e199 : M2 199 = M 199 := row 199 (by omega) (by omega) (by omega) (by omega) (by omega) (by omega) (by omega) (by omega)
  have c5 : ∀ i, (i = 1 ∨ i = 2 ∨ 309 ≤ i) → M2 195 i = M 195 i := fun i hi => same 195 i (Or.inl rfl) (by omega) (by omega) (by omega) (by omega) (by omega) (fun _ => hi)
  have f : ∀ i, (i = 3 ∨ i = 8 ∨ i = 12 ∨ i = 15 ∨ i = 16) → M2 194 i = M 194 i := by
    intro i hi
    refine same 194 i ?_ (by omega) (by omega) (by omega) (by omega) (by omega) (by omega)
    rcases hi with e | e | e | e | e
    · subst e; exact Or.inl rfl
    · subst e; exact Or.inl rfl
    · subst e; exact Or.inl rfl
    · exact Or.inr ⟨rfl, Or.inl e⟩
    · exact Or.inr ⟨rfl, Or.inr e⟩
  have e21 : M2 2 1 = M 2 1 := same 2 1 (Or.inl rfl) (by omega) (by omega) (by omega) (by omega) (by omega) (by omega)
  refine zv_mk ⟨hS, zc_LwC (fun j hj => row _ (by omega) (by omega) (by omega) (by omega) (by omega) (by omega) (by omega) (by omega)) (fun i hi => c5 i (by omega)) hL, ?_, by rw [e1, f 12 (by omega)]; exact hF, ?_, ?_⟩ (by rw [f 15 (by omega)]; exact hI.2.1) (by rw [f 16 (by omega)]; exact hI.2.2)
  · unfold zc_T
    rw [e21, f 8 (by omega), e3, e199]; exact hT
  · refine zr_A hI hk k3 (fun j => ?_) ?_ (fun a i ha => ?_) (c5 1 (by omega)) (c5 2 (by omega))
    · rw [h2 198 j (Or.inl rfl) (by omega) (by omega), d1, r195, r198]
    · rw [h2 194 6 (Or.inl rfl) (by omega) (by omega), d2]
    · rw [h2 a i (Or.inl (zs_i (by omega) (by omega) (by omega))) (by omega) (by omega), d3 a i (by omega) (by omega)]
      exact h1 a i (by omega) (by omega)
  · unfold zc_I
    rw [e1, f 3 (by omega), e196]
    refine ⟨hK.1, hK.2.1, fun hh => ?_⟩
    obtain ⟨b1, b2⟩ := hK.2.2 hh
    exact ⟨zc_cg (fun j hj => row _ (by omega) (by omega) (by omega) (by omega) (by omega) (by omega) (by omega) (by omega)) (fun i _ => rfl) b1, zc_LwC (fun j hj => row _ (by omega) (by omega) (by omega) (by omega) (by omega) (by omega) (by omega) (by omega)) (fun i _ => rfl) b2⟩
