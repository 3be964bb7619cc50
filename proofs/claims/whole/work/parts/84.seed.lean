/-! only the state changes; call 47 -/
theorem zc_ch {N N' : zMem} (hr : ∀ a, (a < 4 ∨ 14 < a) → a ≠ 195 → N' a = N a) (hm5 : ∀ i, (i = 1 ∨ i = 2 ∨ (309 ≤ i ∧ i < 709)) → N' 195 i = N 195 i) (hS : zc_St N' 4 (N' 195)) (hN : zc_All N) : zc_All N' := by
  obtain ⟨-, hL, hT, hF, hA, hK⟩ := hN
  have h1 : N' 195 1 = N 195 1 := hm5 1 (Or.inl rfl)
  have h2 : N' 195 2 = N 195 2 := hm5 2 (Or.inr (Or.inl rfl))
  have e194 : N' 194 = N 194 := hr 194 (by omega) (by omega)
  have e196 : N' 196 = N 196 := hr 196 (by omega) (by omega)
  have e198 : N' 198 = N 198 := hr 198 (by omega) (by omega)
  have e199 : N' 199 = N 199 := hr 199 (by omega) (by omega)
  have e1 : N' 1 = N 1 := hr 1 (by omega) (by omega)
  have e2 : N' 2 = N 2 := hr 2 (by omega) (by omega)
  have e3 : N' 3 = N 3 := hr 3 (by omega) (by omega)
  have e58 : N' 58 = N 58 := hr 58 (by omega) (by omega)
  have e37 : N' 37 = N 37 := hr 37 (by omega) (by omega)
  have e51 : N' 51 = N 51 := hr 51 (by omega) (by omega)
  refine ⟨hS, ?_, ?_, by rw [e1, e194]; exact hF, ⟨?_, fun b hb => ?_⟩, ?_⟩
  · exact zc_LwC (fun j hj => hr _ (by omega) (by omega)) hm5 hL
  · unfold zc_T
    rw [e2, e3, e194, e199]
    exact hT
  · rw [e58, e194]; exact hA.1
  · rw [e58] at hb
    obtain ⟨a1, a2, a3⟩ := hA.2 b hb
    have hm : ((N 58 1).toInt.toNat + 11 - b) % 12 < 12 := Nat.mod_lt _ (by omega)
    rw [e58, h1, h2]
    refine ⟨zc_cg (fun j hj => hr _ (by omega) (by omega)) (fun i _ => by rw [e198]) a1, ?_, ?_⟩
    · rw [e198]; exact a2
    · rw [e198]; exact a3
  · unfold zc_I
    rw [e1, e194, e196]
    refine ⟨hK.1, hK.2.1, fun hh => ?_⟩
    obtain ⟨b1, b2⟩ := hK.2.2 hh
    exact ⟨zc_cg (fun j hj => hr _ (by omega) (by omega)) (fun i _ => rfl) b1, zc_LwC (fun j hj => hr _ (by omega) (by omega)) (fun i _ => rfl) b2⟩
theorem zo47 : zo_47 zv_Inv := by
  intro M x hI
  have hF := (zv_F hI).1
  refine ⟨fun _ => rfl, hF.2.2.2.2.1, ?_⟩
  obtain ⟨hN, b1, b2⟩ := hI
  have hz : zs_mk (w_D_seed (w_N_seed M x) x) = zs_mk (zz_up (zz_up M 4 14 x) 195 8 x) := by
    refine zs_fr fun a i hs => ?_
    show zz_up (zz_up (zz_up M 4 14 x) 194 0 0) 195 8 x a i = zz_up (zz_up M 4 14 x) 195 8 x a i
    have e : zz_up (zz_up M 4 14 x) 194 0 0 a i = zz_up M 4 14 x a i := by
      by_cases c : a = 194
      · subst c
        exact zu_nk (by cases e : Nat.beq i 0 with | false => rfl | true => rw [Nat.eq_of_beq_eq_true e] at hs; cases hs)
      · exact zu_ne (by cases e : Nat.beq a 194 with | false => rfl | true => exact absurd (Nat.eq_of_beq_eq_true e) c)
    show (bif Nat.beq a 195 then (bif Nat.beq i 8 then x else zz_up (zz_up M 4 14 x) 194 0 0 a i) else zz_up (zz_up M 4 14 x) 194 0 0 a i) = (bif Nat.beq a 195 then (bif Nat.beq i 8 then x else zz_up M 4 14 x a i) else zz_up M 4 14 x a i)
    rw [e]
  refine ⟨?_, b1, b2⟩
  rw [hz]
  have hrow : ∀ i, i ≠ 8 → zs_mk (zz_up (zz_up M 4 14 x) 195 8 x) 195 i = zs_mk M 195 i := fun i hi => by
    show zz_up (zz_up M 4 14 x) 195 8 x 195 i = M 195 i
    rw [zu_nk (by cases e : Nat.beq i 8 with | false => rfl | true => exact absurd (Nat.eq_of_beq_eq_true e) hi)]
    exact zu_ne rfl
  have h4 : ∀ i, i ≠ 14 → zs_mk (zz_up (zz_up M 4 14 x) 195 8 x) 4 i = zs_mk M 4 i := fun i hi => by
    show zz_up (zz_up M 4 14 x) 195 8 x 4 i = M 4 i
    refine (zu_ne rfl).trans ?_
    exact zu_nk (by cases e : Nat.beq i 14 with | false => rfl | true => exact absurd (Nat.eq_of_beq_eq_true e) hi)
  refine zc_ch (N := zs_mk M) (fun a ha hb => ?_) (fun i hi => hrow i (by omega)) ?_ hN
  · funext i
    unfold zs_mk
    cases zs_scr a i with
    | true => rfl
    | false =>
      show zz_up (zz_up M 4 14 x) 195 8 x a i = M a i
      rw [zu_ne (by cases e : Nat.beq a 195 with | false => rfl | true => exact absurd (Nat.eq_of_beq_eq_true e) hb), zu_ne (by cases e : Nat.beq a 4 with | false => rfl | true => have := Nat.eq_of_beq_eq_true e; omega)]
  · obtain ⟨⟨hK, hP, hFF, hG⟩, -⟩ := hN
    refine ⟨fun k hk => ?_, fun p hp => ?_, ⟨?_, ?_⟩, fun g hg => ?_⟩
    · rw [hrow (9 + 3 * k) (by omega), hrow (10 + 3 * k) (by omega), hrow (11 + 3 * k) (by omega)]
      exact hK k hk
    · rw [hrow (33 + 6 * p) (by omega), hrow (34 + 6 * p) (by omega), hrow (35 + 6 * p) (by omega), hrow (36 + 6 * p) (by omega), hrow (37 + 6 * p) (by omega), hrow (38 + 6 * p) (by omega)]
      exact hP p hp
    · exact ⟨hFF.1.1, hFF.1.2.1, hFF.1.2.2.1, hFF.1.2.2.2.1, rfl, hFF.1.2.2.2.2.2.1, hFF.1.2.2.2.2.2.2⟩
    · exact hFF.2
    · rw [h4 16 (by omega)] at hg
      rw [h4 17 (by omega), hrow (69 + 4 * g) (by omega), hrow (70 + 4 * g) (by omega), hrow (71 + 4 * g) (by omega), hrow (72 + 4 * g) (by omega)]
      exact hG g hg
