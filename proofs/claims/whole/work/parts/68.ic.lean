/-! THE START of the law's loop: zo_init out of Inv of the memory behind the constructors. -/
theorem zi_Rout (a i : Nat) : ∀ (l : List (Nat × Nat × Nat)) (R : zRef), l.all (fun w => !Nat.beq a w.1 || !Nat.beq i w.2.1) = true → (l.foldl (fun R w => zz_up R w.1 w.2.1 (some w.2.2)) R) a i = R a i
  | [], R, _ => rfl
  | w :: l, R, h2 => by
    rw [List.all_cons, Bool.and_eq_true] at h2
    show (l.foldl (fun R w => zz_up R w.1 w.2.1 (some w.2.2)) (zz_up R w.1 w.2.1 (some w.2.2))) a i = R a i
    rw [zi_Rout a i l _ h2.2]
    have h3 := h2.1
    rw [Bool.or_eq_true] at h3
    rcases h3 with h3 | h3
    · exact zu_ne (by cases e : Nat.beq a w.1 with | false => rfl | true => rw [e] at h3; cases h3)
    · exact zu_nk (by cases e : Nat.beq i w.2.1 with | false => rfl | true => rw [e] at h3; cases h3)
def zi_c1 (a : Nat) : Nat → List (Option Nat) → Bool
  | _, [] => true
  | i, none :: r => zi_c1 a (i + 1) r
  | i, some _ :: r => zi_rl.any (fun w => Nat.beq w.1 a && Nat.beq w.2.1 i) && zi_c1 a (i + 1) r
def zi_c2 : Nat → List (List (Option Nat)) → Bool
  | _, [] => true
  | a, l :: r => zi_c1 a 0 l && zi_c2 (a + 1) r
theorem zi_c1s (a : Nat) : ∀ (l : List (Option Nat)) (i : Nat), zi_c1 a i l = true → ∀ k v, l.getD k none = some v → ∃ w ∈ zi_rl, w.1 = a ∧ w.2.1 = i + k
  | [], i, _, k, v, h => by simp at h
  | none :: r, i, h, 0, v, h2 => by simp at h2
  | none :: r, i, h, k + 1, v, h2 => by
    obtain ⟨w, a1, a2, a3⟩ := zi_c1s a r (i + 1) h k v (by simpa using h2)
    exact ⟨w, a1, a2, by omega⟩
  | some x :: r, i, h, 0, v, h2 => by
    have h : (zi_rl.any (fun w => Nat.beq w.1 a && Nat.beq w.2.1 i) && zi_c1 a (i + 1) r) = true := h
    rw [Bool.and_eq_true, List.any_eq_true] at h
    obtain ⟨w, a1, a2⟩ := h.1
    rw [Bool.and_eq_true] at a2
    exact ⟨w, a1, Nat.eq_of_beq_eq_true a2.1, Nat.eq_of_beq_eq_true a2.2⟩
  | some x :: r, i, h, k + 1, v, h2 => by
    have h : (zi_rl.any (fun w => Nat.beq w.1 a && Nat.beq w.2.1 i) && zi_c1 a (i + 1) r) = true := h
    rw [Bool.and_eq_true] at h
    obtain ⟨w, a1, a2, a3⟩ := zi_c1s a r (i + 1) h.2 k v (by simpa using h2)
    exact ⟨w, a1, a2, by omega⟩
theorem zi_c2s : ∀ (l : List (List (Option Nat))) (a : Nat), zi_c2 a l = true → ∀ k, zi_c1 (a + k) 0 (l.getD k []) = true
  | [], a, _, k => by
    rw [List.getD_eq_getElem?_getD, List.getElem?_nil]
    rfl
  | x :: r, a, h, 0 => by
    have h : (zi_c1 a 0 x && zi_c2 (a + 1) r) = true := h
    rw [Bool.and_eq_true] at h
    exact h.1
  | x :: r, a, h, k + 1 => by
    have h : (zi_c1 a 0 x && zi_c2 (a + 1) r) = true := h
    rw [Bool.and_eq_true] at h
    have := zi_c2s r (a + 1) h.2 k
    have e : a + (k + 1) = a + 1 + k := by omega
    rw [e]
    exact this
theorem zi_F1 (a i : Nat) : ∀ (l : List (Nat × Nat × Nat)) (R : zRef), (∃ w ∈ l, w.1 = a ∧ w.2.1 = i) → ∃ w ∈ l, w.1 = a ∧ w.2.1 = i ∧ (l.foldl (fun R w => zz_up R w.1 w.2.1 (some w.2.2)) R) a i = some w.2.2
  | [], R, ⟨w, h, _⟩ => by cases h
  | x :: l, R, ⟨w, h, h1, h2⟩ => by
    by_cases hx : ∃ w ∈ l, w.1 = a ∧ w.2.1 = i
    · obtain ⟨w, a1, a2, a3, a4⟩ := zi_F1 a i l (zz_up R x.1 x.2.1 (some x.2.2)) hx
      exact ⟨w, List.mem_cons_of_mem _ a1, a2, a3, a4⟩
    · rcases List.mem_cons.mp h with e | h
      · subst e
        refine ⟨w, List.mem_cons_self, h1, h2, ?_⟩
        show (l.foldl (fun R w => zz_up R w.1 w.2.1 (some w.2.2)) (zz_up R w.1 w.2.1 (some w.2.2))) a i = _
        rw [zi_Rout a i l _ ?_]
        · rw [← h1, ← h2]
          exact zu_eq
        · rw [List.all_eq_true]
          intro y hy
          rw [Bool.or_eq_true]
          cases e1 : Nat.beq a y.1 with
          | false => exact Or.inl rfl
          | true =>
            cases e2 : Nat.beq i y.2.1 with
            | false => exact Or.inr rfl
            | true => exact absurd ⟨y, hy, (Nat.eq_of_beq_eq_true e1).symm, (Nat.eq_of_beq_eq_true e2).symm⟩ hx
      · exact absurd ⟨w, h, h1, h2⟩ hx
theorem zi_rt : ∀ w ∈ zi_rl, zt_R w.1 w.2.1 = some w.2.2 := by decide +kernel
theorem zi_tc : zi_c2 0 zt_Rl = true := by decide +kernel
theorem zi_rlen : zi_rl.length = 201 := by decide +kernel
theorem zi_Req : zi_R 201 = zt_R := by
  funext a i
  have e0 : zi_R 201 = zi_Rf zi_rl := by
    unfold zi_R
    rw [List.take_of_length_le (by rw [zi_rlen]; omega)]
  rw [e0]
  by_cases hx : ∃ w ∈ zi_rl, w.1 = a ∧ w.2.1 = i
  · obtain ⟨w, a1, a2, a3, a4⟩ := zi_F1 a i zi_rl (fun _ _ => none) hx
    have h1 := zi_rt w a1
    rw [a2, a3] at h1
    rw [h1]
    exact a4
  · have e1 : zi_Rf zi_rl a i = none := by
      refine (zi_Rout a i _ _ ?_).trans rfl
      rw [List.all_eq_true]
      intro y hy
      rw [Bool.or_eq_true]
      cases e1 : Nat.beq a y.1 with
      | false => exact Or.inl rfl
      | true =>
        cases e2 : Nat.beq i y.2.1 with
        | false => exact Or.inr rfl
        | true => exact absurd ⟨y, hy, (Nat.eq_of_beq_eq_true e1).symm, (Nat.eq_of_beq_eq_true e2).symm⟩ hx
    rw [e1]
    cases e2 : zt_R a i with
    | none => rfl
    | some v =>
      have h1 := zi_c2s zt_Rl 0 zi_tc a
      rw [Nat.zero_add] at h1
      obtain ⟨w, b1, b2, b3⟩ := zi_c1s a _ 0 h1 i v e2
      exact absurd ⟨w, b1, b2, by omega⟩ hx
theorem zi_Teq (L : Nat) : zi_T L 205 = zt_T L := by
  unfold zi_T zt_T
  have e1 : zt_Tl.length = 204 := by decide +kernel
  rw [List.take_of_length_le (by omega)]
/-- the memory behind the constructors -/
def zi_M0 (xs : Nat → Int32) : zMem := zi_M xs 296
theorem zo_start (Inv : zMem → Prop) (h : ∀ xs, Inv (zi_M0 xs)) : zo_init Inv := by
  intro L xs hL
  refine ⟨zi_M0 xs, fun _ _ => 0, h xs, fun z hz => ?_⟩
  have e0 : zi_H L xs 1 0 0 = zb_h0 L xs := rfl
  have e1 : zi_H L xs 205 201 296 = (zt_T L, zt_R, zi_M0 xs, (fun _ _ => 0), 0) := by
    unfold zi_H zi_M0
    rw [zi_Teq, zi_Req]
  have h2 := ic_main L xs 807 (z := some z) (by rw [e1]; exact hz)
  rw [e0] at h2
  exact h2
theorem zo_claim (Inv : zMem → Prop) (h : ∀ xs, Inv (zi_M0 xs)) (ho : zo_all Inv) : Claimed_1_1 ∧ Claimed_1_2 := zb_vc (zo_E Inv ho (zo_start Inv h))
