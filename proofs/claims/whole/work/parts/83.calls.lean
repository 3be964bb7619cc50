/-! call 51 -/
theorem zo51 : zo_51 zv_Inv := by
  intro M x hI
  have h := zq_h M 0
  obtain ⟨d1, d2, d3⟩ := zq_done hI h
  obtain ⟨f1, f2, f3⟩ := zq_fame hI h
  obtain ⟨r1, r2, r3⟩ := zq_rub hI h
  have hF := (zv_F hI).1
  have hL : M 37 0 = M 195 1 := hI.1.2.1.1
  have hA : M 58 2 = M 194 6 := hI.1.2.2.2.2.1.1.1
  have hin : v_D_isIn x (3 : Int32) (5 : Int32) = true → x = 3 ∨ x = 4 ∨ x = 5 := by
    intro hh
    rw [zg_in] at hh
    have h9 : (3 : Int32).toInt ≤ x.toInt ∧ x.toInt ≤ (5 : Int32).toInt := of_decide_eq_true hh
    have e3 : (3 : Int32).toInt = 3 := rfl
    have e4 : (4 : Int32).toInt = 4 := rfl
    have e5 : (5 : Int32).toInt = 5 := rfl
    rcases (show x.toInt = 3 ∨ x.toInt = 4 ∨ x.toInt = 5 by omega) with e | e | e
    · exact Or.inl (zi_eq (by rw [e, e3]))
    · exact Or.inr (Or.inl (zi_eq (by rw [e, e4])))
    · exact Or.inr (Or.inr (zi_eq (by rw [e, e5])))
  refine ⟨fun _ _ _ _ _ _ => ⟨fun _ => d2, fun _ => ⟨fun _ => f2, fun _ _ => r2⟩⟩, fun _ _ _ => ⟨fun hh => ?_, fun _ => ⟨fun _ => d3, fun _ => ⟨fun _ => f3, fun _ _ => r3⟩⟩⟩, ?_, zv_th hI 0⟩
  · rcases hin hh with e | e | e
    · subst e; decide
    · subst e; decide
    · subst e; decide
  · by_cases e0 : x = 0
    · subst e0
      exact hF.1
    by_cases e1 : x = 1
    · subst e1
      exact hF.2.2.2.2.2.1
    by_cases e2 : x = 2
    · subst e2
      exact hL
    by_cases e3 : x = 3
    · subst e3
      exact hF.2.2.1
    by_cases e4 : x = 4
    · subst e4
      exact hF.2.1
    by_cases e5 : x = 5
    · subst e5
      exact hF.2.2.2.1
    by_cases e6 : x = 6
    · subst e6
      exact d1
    by_cases e7 : x = 7
    · subst e7
      exact f1
    by_cases e8 : x = 8
    · subst e8
      exact r1
    by_cases e9 : x = 9
    · subst e9
      exact hF.2.2.2.2.2.2
    by_cases e10 : x = 10
    · subst e10
      exact hA
    unfold v_N_count v_D_count
    have hn : v_D_isIn x (3 : Int32) (5 : Int32) = false := by
      cases hc : v_D_isIn x (3 : Int32) (5 : Int32) with
      | false => rfl
      | true =>
        rcases hin hc with e | e | e
        · exact absurd e e3
        · exact absurd e e4
        · exact absurd e e5
    simp only [decide_eq_false e0, decide_eq_false e1, decide_eq_false e2, decide_eq_false e3, decide_eq_false e4, decide_eq_false e5, decide_eq_false e6, decide_eq_false e7, decide_eq_false e8, decide_eq_false e9, decide_eq_false e10, hn, zk_f]
