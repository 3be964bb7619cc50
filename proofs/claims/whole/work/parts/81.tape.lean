/-! call 1 -/
theorem zv_tp {M M' : zMem} (hI : zv_Inv M) (h : ∀ a i, zs_scr a i = false → ¬ (a = 2 ∧ i = 1) → a ≠ 3 → a ≠ 199 → ¬ (a = 194 ∧ i = 8) → M' a i = M a i) (hT : zc_T (zs_mk M')) (h15 : M' 194 15 = M 194 15) (h16 : M' 194 16 = M 194 16) : zv_Inv M' := by
  obtain ⟨hN, b1, b2⟩ := hI
  refine ⟨zc_tp (N := zs_mk M) (fun a a1 a2 a3 a4 => ?_) ?_ ?_ ?_ hT hN, by rw [h15]; exact b1, by rw [h16]; exact b2⟩
  · funext i
    unfold zs_mk
    cases hs : zs_scr a i with
    | true => rfl
    | false => exact h a i hs (fun e => a1 e.1) a2 a3 (fun e => a4 e.1)
  · exact h 194 3 rfl (by omega) (by omega) (by omega) (by omega)
  · exact h 194 6 rfl (by omega) (by omega) (by omega) (by omega)
  · exact h 194 12 rfl (by omega) (by omega) (by omega) (by omega)
theorem zo1 : zo_1 zv_Inv := by
  intro M x hI
  obtain ⟨t1, t2, t3⟩ := zv_Tp hI
  have r1 := t2.1
  have r2 := t2.2
  have e0 : (0 : Int32).toInt = 0 := rfl
  have hd : ∀ M1 : zMem, M1 194 8 = M 194 8 → v_D_isIn x (0 : Int32) (M1 194 8) = decide (0 ≤ x.toInt ∧ x.toInt ≤ (M 2 1).toInt) := by
    intro M1 h
    rw [zg_in, h, ← t1, e0]
  unfold v_N_end v_D_end w_N_end w_D_end v_T_size
  rw [zg_lt0, zi_lei]
  by_cases h1 : x.toInt < 0
  · rw [decide_eq_true h1, zk_t, zk_t, hd M rfl, show decide (0 ≤ x.toInt ∧ x.toInt ≤ (M 2 1).toInt) = false from decide_eq_false (by omega), zk_f]
    exact ⟨fun _ => rfl, rfl, zv_th hI 0⟩
  · rw [decide_eq_false h1, zk_f, zk_f]
    by_cases h2 : x.toInt ≤ (M 2 1).toInt
    · have ec : w_T_cut M x = zz_up M 2 1 x := by
        unfold w_T_cut
        rw [show v_jm_max (0 : Int32) (v_jm_min x (M 2 1)) = x from zi_eq (by rw [zi_max, zi_min, e0]; omega)]
      rw [decide_eq_true h2, zk_t, ec, hd (zz_up M 2 1 x) rfl, show decide (0 ≤ x.toInt ∧ x.toInt ≤ (M 2 1).toInt) = true from decide_eq_true (by omega), zk_t]
      refine ⟨fun _ => rfl, rfl, zv_tp hI (fun a i hs a1 a2 a3 a4 => ?_) ⟨rfl, ⟨by show 0 ≤ x.toInt; omega, by show x.toInt ≤ 400; omega⟩, fun i hi => t3 i hi⟩ rfl rfl⟩
      have b1 : zz_up (zz_up (zz_up M 2 1 x) 194 0 0) 194 8 x a i = zz_up (zz_up M 2 1 x) 194 0 0 a i := by
        by_cases c : a = 194
        · exact zu_nk (by cases e : Nat.beq i 8 with | false => rfl | true => exact absurd ⟨c, Nat.eq_of_beq_eq_true e⟩ a4)
        · exact zu_ne (by cases e : Nat.beq a 194 with | false => rfl | true => exact absurd (Nat.eq_of_beq_eq_true e) c)
      have b2 : zz_up (zz_up M 2 1 x) 194 0 0 a i = zz_up M 2 1 x a i := by
        by_cases c : a = 194
        · subst c
          exact zu_nk (by cases e : Nat.beq i 0 with | false => rfl | true => rw [Nat.eq_of_beq_eq_true e] at hs; cases hs)
        · exact zu_ne (by cases e : Nat.beq a 194 with | false => rfl | true => exact absurd (Nat.eq_of_beq_eq_true e) c)
      have b3 : zz_up M 2 1 x a i = M a i := by
        by_cases c : a = 2
        · exact zu_nk (by cases e : Nat.beq i 1 with | false => rfl | true => exact absurd ⟨c, Nat.eq_of_beq_eq_true e⟩ a1)
        · exact zu_ne (by cases e : Nat.beq a 2 with | false => rfl | true => exact absurd (Nat.eq_of_beq_eq_true e) c)
      rw [b1, b2, b3]
    · rw [decide_eq_false h2, zk_f, hd M rfl, show decide (0 ≤ x.toInt ∧ x.toInt ≤ (M 2 1).toInt) = false from decide_eq_false (by omega), zk_f]
      exact ⟨fun _ => rfl, rfl, zv_th hI 0⟩
