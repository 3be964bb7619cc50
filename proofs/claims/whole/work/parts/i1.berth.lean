/-- a cell of the reference's table -/
theorem zi_64 (k U : Nat) : (((64 : Int32) * Int32.ofNat k) + (64 : Int32)) + Int32.ofNat U = Int32.ofNat (64 * (k + 1) + U) := by
  rw [show ((64 : Int32) * Int32.ofNat k) + (64 : Int32) = Int32.ofNat (64 * k + 64) from zix k 64, zi_ad, show 64 * k + 64 + U = 64 * (k + 1) + U by omega]
theorem zb_dl {N A a : zMem} {n nb j k T : Nat} {B : Nat → Nat} {c : Nat → Nat → Bool} (hG : zbG N n nb B c) (hk : k + 1 + j = nb) (h195 : a 195 = N 195) (h199 : a 199 k = Int32.ofNat (B k)) (hr : ∀ U, U < 64 → a 202 (64 * (k + 1) + U) = Int32.ofNat (zbT c n nb j U)) (hT : T < 64) (M0 : zMem) (x0 : Int32) (i2 : Nat) : ∀ p, p ≤ n → zf_for p (f_D_berths_5 M0 x0 i2 (Int32.ofNat k, A) T a) (a 202 (64 * (k + 1) + T)) = Int32.ofNat (zbS (c k) (zbT c n nb j) T p (zbT c n nb j T)) ∧ (p < n → kb_D_berths_5 M0 x0 i2 (Int32.ofNat k, A) T a p (zf_for p (f_D_berths_5 M0 x0 i2 (Int32.ofNat k, A) T a) (a 202 (64 * (k + 1) + T)))) := by
  obtain ⟨g1, g2, g3, g4, g5, g6, g7⟩ := hG
  have ec : ∀ p, v_D_canBerth a (Int32.ofNat p) (Int32.ofNat (B k)) = c k p := fun p => by rw [zcb_c h195, ← g7 k p]
  have hS : zc_St N 4 (a 195) := by rw [h195]; exact g3
  have kb : ∀ p, p < n → ∀ v, kb_D_berths_5 M0 x0 i2 (Int32.ofNat k, A) T a p v := fun p hp v => by
    have h64 : T ||| 2 ^ p < 64 := zbo2 (n := 6) hT (by omega)
    have ok := zh_pok hS (show p < 6 by omega)
    have okk := zh_ok a (show p < 6 by omega)
    unfold kb_D_berths_5
    refine fun _ => ⟨zi_in (show k < 400 by omega) (by omega), ⟨ok.2.2.2.1, fun _ => okk.2.2.2.2.1⟩, fun _ => ?_⟩
    show zz_in ((((64 : Int32) * Int32.ofNat k) + (64 : Int32)) + (Int32.ofNat T ||| zsl (1 : Int32) (Int32.ofNat p))) 448 = true
    rw [zN_sl1 p (by omega), Nat.one_shiftLeft, zN_or, zi_64]
    exact zi_in (by omega) (by omega)
  intro p
  induction p with
  | zero => exact fun _ => ⟨hr T hT, fun h => kb 0 h _⟩
  | succ p ih =>
    intro hp
    have h64 : T ||| 2 ^ p < 64 := zbo2 (n := 6) hT (by omega)
    refine ⟨?_, fun h => kb _ h _⟩
    show f_D_berths_5 M0 x0 i2 (Int32.ofNat k, A) T a p (zf_for p (f_D_berths_5 M0 x0 i2 (Int32.ofNat k, A) T a) (a 202 (64 * (k + 1) + T))) = Int32.ofNat (bif T.testBit p then zbS (c k) (zbT c n nb j) T p (zbT c n nb j T) else (bif c k p then max (zbS (c k) (zbT c n nb j) T p (zbT c n nb j T)) (1 + zbT c n nb j (T ||| 2 ^ p)) else zbS (c k) (zbT c n nb j) T p (zbT c n nb j T)))
    rw [(ih (by omega)).1]
    have bd := zbS_le (c := c k) (T := T) (zbT_le c n nb j T) (zbT_le c n nb j) p
    have bd2 := zbT_le c n nb j (T ||| 2 ^ p)
    generalize zbS (c k) (zbT c n nb j) T p (zbT c n nb j T) = v at bd ⊢
    show (bif v_D_isOf (Int32.ofNat T) (Int32.ofNat p) then Int32.ofNat v else (bif v_D_canBerth a (Int32.ofNat p) (a 199 (Int32.ofNat k).toNatClampNeg) then v_D_greater (Int32.ofNat v) ((1 : Int32) + a 202 ((((64 : Int32) * Int32.ofNat k) + (64 : Int32)) + (Int32.ofNat T ||| zsl (1 : Int32) (Int32.ofNat p))).toNatClampNeg) else Int32.ofNat v)) = _
    rw [zN_isOf (by omega) (by omega), zi_nat (show k < 2147483648 by omega), h199, ec, zN_sl1 p (by omega), Nat.one_shiftLeft, zN_or, zi_64, zi_nat (by omega), hr _ h64, ← zi_mg, show (1 : Int32) = Int32.ofNat 1 from rfl, zi_ad, zi_mx (by omega) (by omega)]
    cases T.testBit p with
    | true => rw [zk_t, zk_t]
    | false =>
      rw [zk_f, zk_f]
      cases c k p with
      | true => rw [zk_t, zk_t]
      | false => rw [zk_f, zk_f]
theorem zb_dr {N A : zMem} {n nb j k : Nat} {B : Nat → Nat} {c : Nat → Nat → Bool} (hG : zbG N n nb B c) (hk : k + 1 + j = nb) (h195 : A 195 = N 195) (h199 : A 199 k = Int32.ofNat (B k)) (hr : ∀ U, U < 64 → A 202 (64 * (k + 1) + U) = Int32.ofNat (zbT c n nb j U)) (M0 : zMem) (x0 : Int32) (i2 : Nat) : ∀ i, i ≤ 64 → (∀ T, T < i → (zf_for i (f_D_berths_4 M0 x0 i2 (Int32.ofNat k, A)) A) 202 (64 * k + T) = Int32.ofNat (zbT c n nb (j + 1) T)) ∧ (∀ r q, ¬ (r = 202 ∧ 64 * k ≤ q ∧ q < 64 * k + 64) → (zf_for i (f_D_berths_4 M0 x0 i2 (Int32.ofNat k, A)) A) r q = A r q) ∧ (i < 64 → kb_D_berths_4 M0 x0 i2 (Int32.ofNat k, A) i (zf_for i (f_D_berths_4 M0 x0 i2 (Int32.ofNat k, A)) A)) := by
  have hG' := hG
  obtain ⟨g1, g2, g3, g4, g5, g6, g7⟩ := hG'
  have kb : ∀ i a, i < 64 → (∀ r q, ¬ (r = 202 ∧ 64 * k ≤ q ∧ q < 64 * k + 64) → a r q = A r q) → kb_D_berths_4 M0 x0 i2 (Int32.ofNat k, A) i a ∧ f_D_berths_4 M0 x0 i2 (Int32.ofNat k, A) i a = zz_up a 202 (64 * k + i) (Int32.ofNat (zbT c n nb (j + 1) i)) := by
    intro i a hi h2
    have a195 : a 195 = N 195 := by rw [← h195]; exact funext fun q => h2 195 q (by omega)
    have en : (a 195 3).toNatClampNeg = n := by rw [a195, g5, zi_nat (by omega)]
    have cell := zb_dl (A := A) (T := i) hG hk a195 ((h2 199 k (by omega)).trans h199) (fun U hU => (h2 202 _ (by omega)).trans (hr U hU)) hi M0 x0 i2
    have e1 : ((((64 : Int32) * Int32.ofNat k) + (64 : Int32)) + Int32.ofNat i).toNatClampNeg = 64 * (k + 1) + i := by rw [zi_64, zi_nat (by omega)]
    have e2 : (((64 : Int32) * Int32.ofNat k) + Int32.ofNat i).toNatClampNeg = 64 * k + i := by rw [zix, zi_nat (by omega)]
    unfold kb_D_berths_4 f_D_berths_4
    simp only []
    rw [e1, e2, en, (cell n (Nat.le_refl _)).1, zi_64, zix]
    refine ⟨⟨zi_in (by omega) (by omega), fun p hp => (cell p (by omega)).2 hp, zi_in (by omega) (by omega)⟩, ?_⟩
    show _ = zz_up a 202 (64 * k + i) (Int32.ofNat (zbS (c (nb - 1 - j)) (zbT c n nb j) i n (zbT c n nb j i)))
    rw [show nb - 1 - j = k by omega]
  intro i
  induction i with
  | zero => exact fun _ => ⟨fun T hT => by omega, fun _ _ _ => rfl, fun h => (kb 0 A h (fun _ _ _ => rfl)).1⟩
  | succ i ih =>
    intro hi
    obtain ⟨h1, h2, -⟩ := ih (by omega)
    have es : zf_for (i + 1) (f_D_berths_4 M0 x0 i2 (Int32.ofNat k, A)) A = f_D_berths_4 M0 x0 i2 (Int32.ofNat k, A) i (zf_for i (f_D_berths_4 M0 x0 i2 (Int32.ofNat k, A)) A) := rfl
    rw [es]
    generalize zf_for i (f_D_berths_4 M0 x0 i2 (Int32.ofNat k, A)) A = a at h1 h2 ⊢
    rw [(kb i a (by omega) h2).2]
    have f2 : ∀ r q, ¬ (r = 202 ∧ 64 * k ≤ q ∧ q < 64 * k + 64) → zz_up a 202 (64 * k + i) (Int32.ofNat (zbT c n nb (j + 1) i)) r q = A r q := fun r q hq => by
      rw [zu_o (by omega)]; exact h2 r q hq
    refine ⟨fun T hT => ?_, f2, fun h => (kb _ _ h f2).1⟩
    by_cases e : T = i
    · rw [e, zu_at rfl rfl]
    · rw [zu_o (by omega)]; exact h1 T (by omega)
/-- the reference's table -/
theorem zb_dt {N W R0 : zMem} {n nb : Nat} {B : Nat → Nat} {c : Nat → Nat → Bool} (hG : zbG N n nb B c) (h8 : W 194 8 = Int32.ofNat nb) (h195 : R0 195 = N 195) (h199 : ∀ k, k < nb → R0 199 k = Int32.ofNat (B k)) (x0 : Int32) : (∀ i, i < 64 → kb_D_berths_2 W x0 i (zf_for i (f_D_berths_2 W x0) R0)) ∧ ((∀ j, j ≤ nb → ∀ T, T < 64 → (zf_wh 1000 (g_D_berths_3 W x0) 0 ((W 194 8) - (1 : Int32), zf_for 64 (f_D_berths_2 W x0) R0)).2 202 (64 * (nb - j) + T) = Int32.ofNat (zbT c n nb j T)) ∧ (∀ r q, r ≠ 202 → (zf_wh 1000 (g_D_berths_3 W x0) 0 ((W 194 8) - (1 : Int32), zf_for 64 (f_D_berths_2 W x0) R0)).2 r q = R0 r q)) ∧ zf_wk 1000 (g_D_berths_3 W x0) (kb_D_berths_3 W x0) 0 ((W 194 8) - (1 : Int32), zf_for 64 (f_D_berths_2 W x0) R0) := by
  have hG' := hG
  obtain ⟨g1, g2, g3, g4, g5, g6, g7⟩ := hG'
  have key := zf_ind (f := f_D_berths_2 W x0) (fun i (a : zMem) => (∀ T, T < i → a 202 (64 * nb + T) = 0) ∧ (∀ r q, r ≠ 202 → a r q = R0 r q)) (a := R0) 64 ⟨fun T hT => by omega, fun _ _ _ => rfl⟩ (fun i a hi ⟨h1, h2⟩ => by
    have e : f_D_berths_2 W x0 i a = zz_up a 202 (64 * nb + i) 0 := by
      unfold f_D_berths_2
      rw [h8, zix, zi_nat (by omega)]
    rw [e]
    refine ⟨fun T hT => ?_, fun r q hr => ?_⟩
    · by_cases e : T = i
      · rw [e, zu_at rfl rfl]
      · rw [zu_o (by omega)]; exact h1 T (by omega)
    · rw [zu_o (by omega)]; exact h2 r q hr)
  refine ⟨fun i hi => ?_, ?_⟩
  · unfold kb_D_berths_2
    rw [h8, zix]; exact zi_in (by omega) (by omega)
  generalize zf_for 64 (f_D_berths_2 W x0) R0 = A0 at key ⊢
  rw [h8]
  refine zf_wq (g := g_D_berths_3 W x0) (k := kb_D_berths_3 W x0) (fun i (s : Int32 × zMem) => i ≤ nb ∧ s.1.toInt = (nb : Int) - 1 - i ∧ (∀ j, j ≤ i → ∀ T, T < 64 → s.2 202 (64 * (nb - j) + T) = Int32.ofNat (zbT c n nb j T)) ∧ (∀ r q, r ≠ 202 → s.2 r q = R0 r q)) (fun (s : Int32 × zMem) => (∀ j, j ≤ nb → ∀ T, T < 64 → s.2 202 (64 * (nb - j) + T) = Int32.ofNat (zbT c n nb j T)) ∧ (∀ r q, r ≠ 202 → s.2 r q = R0 r q)) nb (fun i s ⟨hi, h1, h2, h3⟩ => ?_) 1000 0 ((Int32.ofNat nb) - (1 : Int32), A0) ⟨by omega, ?_, fun j hj T hT => ?_, key.2⟩ (by omega)
  · unfold g_D_berths_3 kb_D_berths_3
    rw [zg_lt0, h1]
    by_cases hc : (nb : Int) - 1 - i < 0
    · have e : i = nb := by omega
      subst e
      rw [decide_eq_true hc]
      exact ⟨hi, (fun h => by cases h), (fun h => by cases h), fun _ => ⟨h2, h3⟩⟩
    · rw [decide_eq_false hc]
      have es : s = (Int32.ofNat (nb - 1 - i), s.2) := by
        have : s.1 = Int32.ofNat (nb - 1 - i) := zi_eq (by rw [h1, zi_val (by omega)]; omega)
        rw [← this]
      have row := zb_dr (A := s.2) (j := i) (k := nb - 1 - i) hG (by omega) (by rw [← h195]; exact funext fun q => h3 195 q (by omega)) (by rw [h3 199 _ (by omega)]; exact h199 _ (by omega)) (fun U hU => by rw [show 64 * (nb - 1 - i + 1) = 64 * (nb - i) by omega]; exact h2 i (Nat.le_refl _) U hU) W x0 i
      rw [← es] at row
      obtain ⟨r1, r2, -⟩ := row 64 (Nat.le_refl _)
      refine ⟨hi, fun _ p hp => (row p (by omega)).2.2 hp, fun _ => ⟨by omega, ?_, fun j hj T hT => ?_, fun r q hr => ?_⟩, (fun h => by cases h)⟩
      · show (bif false then s.1 else s.1 + (-1 : Int32)).toInt = _
        rw [zk_f, zi_dn h1 (by omega)]
        omega
      · show (bif false then s.2 else zf_for 64 (f_D_berths_4 W x0 i s) s.2) 202 (64 * (nb - j) + T) = _
        rw [zk_f]
        by_cases e : j = i + 1
        · rw [e, show 64 * (nb - (i + 1)) = 64 * (nb - 1 - i) by omega]; exact r1 T hT
        · rw [r2 _ _ (by omega)]; exact h2 j (by omega) T hT
      · show (bif false then s.2 else zf_for 64 (f_D_berths_4 W x0 i s) s.2) r q = _
        rw [zk_f, r2 r q (by omega)]; exact h3 r q hr
  · rw [Int32.toInt_sub, zi_val (by omega), show (1 : Int32).toInt = 1 from rfl, Int.bmod_eq_of_le (by omega) (by omega)]
    omega
  · have e : j = 0 := by omega
    subst e
    show A0 202 (64 * (nb - 0) + T) = _
    rw [Nat.sub_zero, key.1 T (by omega)]; rfl
