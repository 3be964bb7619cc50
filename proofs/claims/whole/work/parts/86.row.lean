/-! a row's part, on both sides -/
theorem zq_row {M : zMem} (hI : zv_Inv M) {g : Nat} (hg : (g : Int) < (M 4 16).toInt) : ∀ k, k < 4 → v_S_rowPart M 4 (Int32.ofNat g) (Int32.ofNat k) = M 195 (69 + 4 * g + k) ∧ ok_S_rowPart M 4 (Int32.ofNat g) (Int32.ofNat k) := by
  intro k hk
  have hF := (zv_F hI).2
  have c1 := hF.2.2.2.2.2.1.2
  obtain ⟨t, t1, t2, -⟩ := zr_ex hF.2.2.2.2.2.2
  have hG : (zrg 0 9999 (M 195 (69 + 4 * g)) ∧ zrg 0 5 (M 195 (70 + 4 * g)) ∧ zrg 0 3 (M 195 (71 + 4 * g)) ∧ zrg 0 15 (M 195 (72 + 4 * g))) ∧ M 14 (((M 4 17).toInt.toNat + 59 - g) % 60) = ((M 195 (69 + 4 * g) * 8 + M 195 (70 + 4 * g)) * 4 + M 195 (71 + 4 * g)) * 16 + M 195 (72 + 4 * g) := hI.1.1.2.2.2 g hg
  obtain ⟨⟨r0, r1, r2, r3⟩, hp⟩ := hG
  obtain ⟨a0, b0, s0, -⟩ := zr_ex r0
  obtain ⟨a1, b1, s1, -⟩ := zr_ex r1
  obtain ⟨a2, b2, s2, -⟩ := zr_ex r2
  obtain ⟨a3, b3, s3, -⟩ := zr_ex r3
  have ht : (M 4 17).toInt.toNat = t := by rw [t2, zi_val (by omega)]; rfl
  rw [ht, s0, s1, s2, s3] at hp
  have hm : (t + 59 - g) % 60 < 60 := Nat.mod_lt _ (by omega)
  obtain ⟨d0, d1, d2, d3⟩ := zl_dec (a0 := a0) (a1 := a1) (a2 := a2) (a3 := a3) (by omega) (by omega) (by omega) (by omega)
  rw [← hp] at d0 d1 d2 d3
  have e0 : (0 : Int32).toInt = 0 := rfl
  have q1 : decide (Int32.ofNat g < 0) = false := by rw [zi_lti, zi_val (by omega), e0]; exact decide_eq_false (by omega)
  have q2 : decide (Int32.ofNat g < M 4 16) = true := by rw [zi_lti, zi_val (by omega)]; exact decide_eq_true hg
  have q3 : decide (0 ≤ Int32.ofNat ((t + 59 - g) % 60)) = true := by rw [zi_lei, zi_val (by omega), e0]; exact decide_eq_true (by omega)
  have q4 : zz_in (Int32.ofNat ((t + 59 - g) % 60)) 60 = true := zi_in hm (by omega)
  unfold v_S_rowPart ok_S_rowPart
  rw [q1, q2, t2, zl_ix t (by omega) g (by omega), q3, zi_nat (by omega), zk_f, zk_t, zk_t]
  refine ⟨?_, fun _ _ _ => ⟨fun _ => q4, fun _ => ⟨fun _ => q4, fun _ => ⟨fun _ => q4, fun _ => q4⟩⟩⟩⟩
  match k, hk with
  | 0, _ =>
    rw [show decide (Int32.ofNat 0 = (0 : Int32)) = true from by decide, zk_t]
    exact d0.trans s0.symm
  | 1, _ =>
    rw [show decide (Int32.ofNat 1 = (0 : Int32)) = false from by decide, show decide (Int32.ofNat 1 = (1 : Int32)) = true from by decide, zk_f, zk_t, show 69 + 4 * g + 1 = 70 + 4 * g by omega]
    exact d1.trans s1.symm
  | 2, _ =>
    rw [show decide (Int32.ofNat 2 = (0 : Int32)) = false from by decide, show decide (Int32.ofNat 2 = (1 : Int32)) = false from by decide, show decide (Int32.ofNat 2 = (2 : Int32)) = true from by decide, zk_f, zk_f, zk_t, show 69 + 4 * g + 2 = 71 + 4 * g by omega]
    exact d2.trans s2.symm
  | 3, _ =>
    rw [show decide (Int32.ofNat 3 = (0 : Int32)) = false from by decide, show decide (Int32.ofNat 3 = (1 : Int32)) = false from by decide, show decide (Int32.ofNat 3 = (2 : Int32)) = false from by decide, zk_f, zk_f, zk_f, show 69 + 4 * g + 3 = 72 + 4 * g by omega]
    exact d3.trans s3.symm
  | k + 4, hk => exact absurd hk (by omega)
