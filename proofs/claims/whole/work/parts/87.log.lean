/-! call 46 -/
theorem zl_lx : ∀ g, g < 60 → ∀ k, k < 4 → (((69 : Int32) + ((4 : Int32) * Int32.ofNat g)) + Int32.ofNat k).toNatClampNeg = 69 + 4 * g + k ∧ zz_in (((69 : Int32) + ((4 : Int32) * Int32.ofNat g)) + Int32.ofNat k) 709 = true := by decide +kernel
theorem zo46 : zo_46 zv_Inv := by
  intro M x y hI
  have e0 : (0 : Int32).toInt = 0 := rfl
  have e3 : (3 : Int32).toInt = 3 := rfl
  have hF := zv_F hI
  have hc := hF.1.2.2.2.2.2.2
  have c1 := hF.2.2.2.2.2.2.1
  obtain ⟨c, d1, d2, -⟩ := zr_ex c1
  have hsub : (M 195 7 - (1 : Int32)).toInt = (M 4 16).toInt - 1 := by
    rw [← hc]
    have e1 : (1 : Int32).toInt = 1 := rfl
    have f1 := c1.1
    have f2 := c1.2
    rw [zi_sub (by omega) (by omega), e1]
  unfold ok_N_log t_N_log ok_D_log v_N_log v_D_log w_D_log
  rw [zg_in y, zg_in x, zg_lt0 y, zi_lei y 3, e0, e3, hsub]
  by_cases h1 : y.toInt < 0
  · rw [decide_eq_true h1, show decide (0 ≤ y.toInt ∧ y.toInt ≤ 3) = false from decide_eq_false (by omega)]
    exact ⟨(fun h => by cases h), Or.inr rfl, (fun h => by cases h), rfl, (fun h => by cases h), zv_th hI _⟩
  · rw [decide_eq_false h1]
    by_cases h2 : y.toInt ≤ 3
    · rw [decide_eq_true h2, show decide (0 ≤ y.toInt ∧ y.toInt ≤ 3) = true from decide_eq_true (by omega)]
      obtain ⟨k, k1, k2, -⟩ := zr_ex (x := y) (hi := 3) ⟨by omega, h2⟩
      subst k2
      by_cases h3 : 0 ≤ x.toInt ∧ x.toInt ≤ (M 4 16).toInt - 1
      · rw [decide_eq_true h3]
        have f2 := c1.2
        obtain ⟨g, g1, g2, -⟩ := zr_ex (x := x) (hi := 59) ⟨h3.1, by omega⟩
        subst g2
        have h4 := h3.2
        rw [zi_val (by omega)] at h4
        obtain ⟨v, o⟩ := zq_row hI (g := g) (by omega) k (by omega)
        obtain ⟨l1, l2⟩ := zl_lx g (by omega) k (by omega)
        refine ⟨fun _ _ => o, Or.inl rfl, fun _ _ => l2, rfl, fun _ => ?_, zv_th hI _⟩
        show v_S_rowPart M 4 (Int32.ofNat g) (Int32.ofNat k) = M 195 (((69 : Int32) + ((4 : Int32) * Int32.ofNat g)) + Int32.ofNat k).toNatClampNeg
        rw [v, l1]
      · rw [decide_eq_false h3]
        have hr : (decide (x < 0) = false → decide (x < M 4 16) = true → False) := by
          intro u1 u2
          rw [zg_lt0] at u1
          rw [zi_lti] at u2
          have u1 := of_decide_eq_false u1
          have u2 := of_decide_eq_true u2
          omega
        refine ⟨fun _ _ u1 u2 => (hr u1 u2).elim, Or.inl rfl, (fun _ h => by cases h), rfl, fun _ => ?_, zv_th hI _⟩
        show v_S_rowPart M 4 x (Int32.ofNat k) = -1
        unfold v_S_rowPart
        cases u1 : decide (x < 0) with
        | true => rw [zk_t]
        | false =>
          rw [zk_f]
          cases u2 : decide (x < M 4 16) with
          | true => exact (hr u1 u2).elim
          | false => rw [zk_f]
    · rw [decide_eq_false h2, show decide (0 ≤ y.toInt ∧ y.toInt ≤ 3) = false from decide_eq_false (by omega)]
      exact ⟨(fun _ h => by cases h), Or.inr rfl, (fun h => by cases h), rfl, (fun h => by cases h), zv_th hI _⟩
