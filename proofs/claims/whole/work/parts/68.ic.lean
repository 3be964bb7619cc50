/-! THE START of the law's loop: zo_init out of Inv of the memory behind the constructors. -/
theorem zi_Rout (a i : Nat) : ∀ (l : List (Nat × Nat × Nat)) (R : zRef), l.all (fun w => !Nat.beq a w.1 || !Nat.beq i w.2.1) = true → (l.foldl (fun R w => zz_up R w.1 w.2.1 (some w.2.2)) R) a i = R a i
  | [], R, _ => rfl
  | w :: l, R, h2 => by
    rw [List.all_cons, Bool.and_eq_true] at h2
    show (l.foldl (fun R w => zz_up R w.1 w.2.1 (some w.2.2)) (zz_up R w.1 w.2.1 (some w.2.2))) a i = R a i
    rw [zi_Rout a i l _ h2.2]
    have h3 := h2.1
    rw [Bool.or_eq_true] at h3
    rcases h3 with h3 | h3
    · exact zu_ne (by cases e : Nat.beq a w.1 with | false => rfl | true => rw [e] at h3; cases h3)
    · exact zu_nk (by cases e : Nat.beq i w.2.1 with | false => rfl | true => rw [e] at h3; cases h3)
theorem zi_rb : ∀ w ∈ zi_rl, w.1 < 205 ∧ w.2.1 < 22 := by decide +kernel
theorem zi_tb : ∀ l ∈ zt_Rl, l.length ≤ 22 := by decide +kernel
theorem zi_tl : zt_Rl.length = 205 := by decide +kernel
theorem zi_rin : ∀ a, a < 205 → ∀ i, i < 22 → zi_R 201 a i = zt_R a i := by decide +kernel
theorem zi_Req : zi_R 201 = zt_R := by
  funext a i
  by_cases ha : a < 205
  · by_cases hi : i < 22
    · exact zi_rin a ha i hi
    · have e1 : zi_R 201 a i = none := by
        refine (zi_Rout a i _ _ ?_).trans rfl
        rw [List.all_eq_true]
        intro w hw
        have := (zi_rb w (List.mem_of_mem_take hw)).2
        rw [Bool.or_eq_true]
        refine Or.inr ?_
        cases e : Nat.beq i w.2.1 with
        | false => rfl
        | true => have := Nat.eq_of_beq_eq_true e; omega
      rw [e1]
      unfold zt_R
      have h1 : a < zt_Rl.length := by rw [zi_tl]; exact ha
      rw [List.getD_eq_getElem?_getD, List.getElem?_eq_getElem h1]
      have h2 := zi_tb _ (List.getElem_mem h1)
      show none = (zt_Rl[a]).getD i none
      rw [List.getD_eq_getElem?_getD, List.getElem?_eq_none (by omega)]
      rfl
  · have e1 : zi_R 201 a i = none := by
      refine (zi_Rout a i _ _ ?_).trans rfl
      rw [List.all_eq_true]
      intro w hw
      have := (zi_rb w (List.mem_of_mem_take hw)).1
      rw [Bool.or_eq_true]
      refine Or.inl ?_
      cases e : Nat.beq a w.1 with
      | false => rfl
      | true => have := Nat.eq_of_beq_eq_true e; omega
    rw [e1]
    unfold zt_R
    rw [List.getD_eq_getElem?_getD, List.getElem?_eq_none (by rw [zi_tl]; omega)]
    rfl
theorem zi_Teq (L : Nat) : zi_T L 205 = zt_T L := by
  unfold zi_T zt_T
  have e1 : zt_Tl.length = 204 := by decide +kernel
  rw [List.take_of_length_le (by omega)]
/-- the memory behind the constructors -/
def zi_M0 (xs : Nat → Int32) : zMem := zi_M xs 296
theorem zo_start (Inv : zMem → Prop) (h : ∀ xs, Inv (zi_M0 xs)) : zo_init Inv := by
  intro L xs hL
  refine ⟨zi_M0 xs, fun _ _ => 0, h xs, fun z hz => ?_⟩
  have e0 : zi_H L xs 1 0 0 = zb_h0 L xs := rfl
  have e1 : zi_H L xs 205 201 296 = (zt_T L, zt_R, zi_M0 xs, (fun _ _ => 0), 0) := by
    unfold zi_H zi_M0
    rw [zi_Teq, zi_Req]
  have h2 := ic_main L xs 807 (z := some z) (by rw [e1]; exact hz)
  rw [e0] at h2
  exact h2
theorem zo_claim (Inv : zMem → Prop) (h : ∀ xs, Inv (zi_M0 xs)) (ho : zo_all Inv) : Claimed_1_1 ∧ Claimed_1_2 := zb_vc (zo_E Inv ho (zo_start Inv h))
