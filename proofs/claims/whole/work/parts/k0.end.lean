/-! THE START: the invariant behind the constructors; all calls; the claim. -/
theorem zi_xl : ∀ (l : List (Nat × Nat × Int32)) (M M' : zMem), (∀ a i, a ≠ 0 → M a i = M' a i) → ∀ a i, a ≠ 0 → (l.foldl (fun M w => zz_up M w.1 w.2.1 w.2.2) M) a i = (l.foldl (fun M w => zz_up M w.1 w.2.1 w.2.2) M') a i
  | [], _, _, h => h
  | w :: l, M, M', h => zi_xl l (zz_up M w.1 w.2.1 w.2.2) (zz_up M' w.1 w.2.1 w.2.2) (fun a i ha => by
      by_cases c : a = w.1 ∧ i = w.2.1
      · rw [zu_at c.1 c.2, zu_at c.1 c.2]
      · rw [zu_o c, zu_o c]
        exact h a i ha)
theorem zi_x (xs : Nat → Int32) {a : Nat} (i : Nat) (ha : a ≠ 0) : zi_M0 xs a i = zi_M0 (fun _ => 0) a i := by
  unfold zi_M0 zi_M zi_Mf
  refine zi_xl _ _ _ (fun a i ha => ?_) a i ha
  show (bif Nat.beq a 0 then xs i else (0 : Int32)) = (bif Nat.beq a 0 then (0 : Int32) else 0)
  rw [zb_ne ha, zk_f, zk_f]
theorem zi_Mo (a i : Nat) : ∀ (l : List (Nat × Nat × Int32)) (M : zMem), l.all (fun w => !Nat.beq a w.1) = true → (l.foldl (fun M w => zz_up M w.1 w.2.1 w.2.2) M) a i = M a i
  | [], _, _ => rfl
  | w :: l, M, h2 => by
    rw [List.all_cons, Bool.and_eq_true] at h2
    show (l.foldl (fun M w => zz_up M w.1 w.2.1 w.2.2) (zz_up M w.1 w.2.1 w.2.2)) a i = M a i
    rw [zi_Mo a i l _ h2.2]
    have h3 := h2.1
    exact zu_ne (by cases e : Nat.beq a w.1 with | false => rfl | true => rw [e] at h3; cases h3)
theorem zi_M3 : (zi_wl.take 296).all (fun w => !Nat.beq 3 w.1) = true := by decide +kernel
theorem zi_M199 : (zi_wl.take 296).all (fun w => !Nat.beq 199 w.1) = true := by decide +kernel
theorem zi_ro (a i : Nat) (ha : a ≠ 0) (h : (zi_wl.take 296).all (fun w => !Nat.beq a w.1) = true) : zi_M0 (fun _ => 0) a i = 0 := by
  unfold zi_M0 zi_M zi_Mf
  rw [zi_Mo a i _ _ h]
  show (bif Nat.beq a 0 then (0 : Int32) else 0) = 0
  rw [zb_ne ha, zk_f]
theorem zi_iK : zc_K (zi_M0 (fun _ => 0)) 4 (zi_M0 (fun _ => 0) 195) := by
  unfold zc_K zrg
  decide +kernel
theorem zi_iP : zc_P (zi_M0 (fun _ => 0)) 4 (zi_M0 (fun _ => 0) 195) := by
  unfold zc_P zrg
  decide +kernel
theorem zi_iF : zc_F (zi_M0 (fun _ => 0)) 4 (zi_M0 (fun _ => 0) 195) := by
  unfold zc_F zrg
  decide +kernel
theorem zi_i16 : ((zi_M0 (fun _ => 0)) 4 16).toInt = 0 := by decide +kernel
theorem zi_iL1 : (zi_M0 (fun _ => 0)) 37 0 = (zi_M0 (fun _ => 0)) 195 1 := by decide +kernel
theorem zi_iL2 : zrg (-1) 12 ((zi_M0 (fun _ => 0)) 195 1) := by
  unfold zrg
  decide +kernel
theorem zi_iL3 : zrg 0 400 ((zi_M0 (fun _ => 0)) 195 2) := by
  unfold zrg
  decide +kernel
theorem zi_iL4 : ¬ 1 ≤ ((zi_M0 (fun _ => 0)) 195 1).toInt := by decide +kernel
theorem zi_iT1 : (zi_M0 (fun _ => 0)) 2 1 = (zi_M0 (fun _ => 0)) 194 8 := by decide +kernel
theorem zi_iT2 : zrg 0 400 ((zi_M0 (fun _ => 0)) 2 1) := by
  unfold zrg
  decide +kernel
theorem zi_iW : (zi_M0 (fun _ => 0)) 1 1 = (zi_M0 (fun _ => 0)) 194 12 := by decide +kernel
theorem zi_iA1 : (zi_M0 (fun _ => 0)) 58 2 = (zi_M0 (fun _ => 0)) 194 6 := by decide +kernel
theorem zi_iA2 : zrg 0 12 ((zi_M0 (fun _ => 0)) 58 2) := by
  unfold zrg
  decide +kernel
theorem zi_iA3 : zrg 0 11 ((zi_M0 (fun _ => 0)) 58 1) := by
  unfold zrg
  decide +kernel
theorem zi_iA4 : ((zi_M0 (fun _ => 0)) 58 2).toInt = 0 := by decide +kernel
theorem zi_iI1 : (zi_M0 (fun _ => 0)) 1 8 = (zi_M0 (fun _ => 0)) 194 3 := by decide +kernel
theorem zi_iI2 : zz_b01 ((zi_M0 (fun _ => 0)) 1 8) = true := by decide +kernel
theorem zi_iI3 : (zi_M0 (fun _ => 0)) 1 8 = 0 := by decide +kernel
theorem zi_iB1 : zz_b01 ((zi_M0 (fun _ => 0)) 194 15) = true := by decide +kernel
theorem zi_iB2 : zz_b01 ((zi_M0 (fun _ => 0)) 194 16) = true := by decide +kernel
theorem zi_r255 : zrg 0 255 0 := by
  unfold zrg
  decide +kernel
theorem zi_all : zc_All (zi_M0 (fun _ => 0)) := by
  refine ⟨⟨zi_iK, zi_iP, zi_iF, fun g hg => ?_⟩, ⟨zi_iL1, zi_iL2, zi_iL3, fun h => absurd h zi_iL4⟩, ⟨zi_iT1, zi_iT2, fun i _ => ?_⟩, zi_iW, ⟨⟨zi_iA1, zi_iA2, zi_iA3⟩, fun b hb => ?_⟩, zi_iI1, zi_iI2, fun h => absurd zi_iI3 h⟩
  · rw [zi_i16] at hg
    omega
  · rw [zi_ro 3 i (by omega) zi_M3, zi_ro 199 i (by omega) zi_M199]
    exact ⟨rfl, zi_r255⟩
  · rw [zi_iA4] at hb
    omega
theorem zi_inv (xs : Nat → Int32) : zv_Inv (zi_M0 xs) := by
  refine zv_mk (zc_AllC (fun a i hs => zi_x xs i (fun e => ?_)) zi_all) ?_ ?_
  · subst e
    have h2 : zs_scr 0 i = true := rfl
    rw [h2] at hs
    cases hs
  · rw [zi_x xs 15 (by omega)]
    exact zi_iB1
  · rw [zi_x xs 16 (by omega)]
    exact zi_iB2
theorem zo_al : zo_all zv_Inv := ⟨zo0, zo1, zo2, zo3, zo4, zo5, zo6, zo7, zo8, zo9, zo10, zo11, zo12, zo13, zo14, zo15, zo16, zo17, zo18, zo19, zo20, zo21, zo22, zo23, zo24, zo25, zo26, zo27, zo28, zo29, zo30, zo31, zo32, zo33, zo34, zo35, zo36, zo37, zo38, zo39, zo40, zo41, zo42, zo43, zo44, zo45, zo46, zo47, zo48, zo49, zo50, zo51⟩
theorem i_vc : Claimed_1_1 ∧ Claimed_1_2 := zo_claim zv_Inv zi_inv zo_al
