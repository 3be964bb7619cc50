/-- the reference finds the person of a berth -/
def zbZ (M : zMem) (x0 : Int32) : zMem := (zf_wh 1000 (g_D_berths_3 M x0) 0 (((M 194 8) - (1 : Int32)), (zf_for 64 (f_D_berths_2 M x0) (zz_up (zz_up M 194 8 (0 : Int32)) 194 0 (zb (bif (zf_wh 1000 (g_D_berths_1 M x0) 0 (bif (decide ((6 : Int32) < (M 194 8))) then false else true)) then false else true)))))).2
theorem z7e (W : zMem) (x0 : Int32) (k : Nat) (a6 : Int32 × Int32) (i7 : Nat) (a7 : Int32 × Int32) : g_D_berths_7 W x0 k a6 i7 a7 = ((bif (decide (a7.2 < 0)) then false else true), ((bif (decide (a7.2 < 0)) then a7.1 else (bif (v_D_isOf a6.1 a7.2) then a7.1 else (bif (v_D_canBerth (zbZ W x0) a7.2 ((zbZ W x0) 199 (Int32.ofNat k).toNatClampNeg)) then (bif (decide (((1 : Int32) + ((zbZ W x0) 202 ((((64 : Int32) * (Int32.ofNat k)) + (64 : Int32)) + (a6.1 ||| (zsl (1 : Int32) a7.2))).toNatClampNeg)) = ((zbZ W x0) 202 (((64 : Int32) * (Int32.ofNat k)) + a6.1).toNatClampNeg))) then a7.2 else a7.1) else a7.1))), (bif (decide (a7.2 < 0)) then a7.2 else (a7.2 + (-1 : Int32))))) := by
  unfold g_D_berths_7 zbZ
  rfl
theorem z7k (W : zMem) (x0 : Int32) (k : Nat) (a6 : Int32 × Int32) (i7 : Nat) (a7 : Int32 × Int32) : kb_D_berths_7 W x0 k a6 i7 a7 = ((decide (a7.2 < 0)) = false → ((v_D_isOf a6.1 a7.2) = false → (zz_in (Int32.ofNat k) 400 = true ∧ (ok_D_canBerth (zbZ W x0) a7.2 ((zbZ W x0) 199 (Int32.ofNat k).toNatClampNeg) ∧ ((v_D_canBerth (zbZ W x0) a7.2 ((zbZ W x0) 199 (Int32.ofNat k).toNatClampNeg)) = true → zz_in ((((64 : Int32) * (Int32.ofNat k)) + (64 : Int32)) + (a6.1 ||| (zsl (1 : Int32) a7.2))) 448 = true))))) := by
  unfold kb_D_berths_7 zbZ
  rfl
theorem zi_1a (v : Nat) : (1 : Int32) + Int32.ofNat v = Int32.ofNat (1 + v) := zi_ad 1 v
theorem zb_7 {N Z : zMem} {n nb k T : Nat} {B : Nat → Nat} {c : Nat → Nat → Bool} (hG : zbG N n nb B c) (hk : k < nb) (hT : T < 2 ^ n) (hZ : ∀ j, j ≤ nb → ∀ T, T < 64 → Z 202 (64 * (nb - j) + T) = Int32.ofNat (zbT c n nb j T)) (h195 : Z 195 = N 195) (h199 : ∀ k, k < nb → Z 199 k = Int32.ofNat (B k)) (a6 : Int32 × Int32) (ha : a6.1 = Int32.ofNat T) (hne : ¬ zbT c n nb (nb - 1 - k) T = zbT c n nb (nb - k) T) (g : Nat → Int32 × Int32 → Bool × (Int32 × Int32)) (kb : Nat → Int32 × Int32 → Prop) (z7e : ∀ i7 a7, g i7 a7 = ((bif (decide (a7.2 < 0)) then false else true), ((bif (decide (a7.2 < 0)) then a7.1 else (bif (v_D_isOf a6.1 a7.2) then a7.1 else (bif (v_D_canBerth Z a7.2 (Z 199 (Int32.ofNat k).toNatClampNeg)) then (bif (decide (((1 : Int32) + (Z 202 ((((64 : Int32) * (Int32.ofNat k)) + (64 : Int32)) + (a6.1 ||| (zsl (1 : Int32) a7.2))).toNatClampNeg)) = (Z 202 (((64 : Int32) * (Int32.ofNat k)) + a6.1).toNatClampNeg))) then a7.2 else a7.1) else a7.1))), (bif (decide (a7.2 < 0)) then a7.2 else (a7.2 + (-1 : Int32)))))) (z7k : ∀ i7 a7, kb i7 a7 = ((decide (a7.2 < 0)) = false → ((v_D_isOf a6.1 a7.2) = false → (zz_in (Int32.ofNat k) 400 = true ∧ (ok_D_canBerth Z a7.2 (Z 199 (Int32.ofNat k).toNatClampNeg) ∧ ((v_D_canBerth Z a7.2 (Z 199 (Int32.ofNat k).toNatClampNeg)) = true → zz_in ((((64 : Int32) * (Int32.ofNat k)) + (64 : Int32)) + (a6.1 ||| (zsl (1 : Int32) a7.2))) 448 = true)))))) : zbA c n nb k T (zf_wh 1000 g 0 ((-1 : Int32), (Z 195 3) - (1 : Int32))).1 ∧ zf_wk 1000 g kb 0 ((-1 : Int32), (Z 195 3) - (1 : Int32)) := by
  obtain ⟨g1, g2, g3, g4, g5, g6, g7⟩ := hG
  have h64 := z264 g1
  have e3 : Z 195 3 = Int32.ofNat n := by rw [h195]; exact g5
  have w1 : ∀ U, U < 64 → Z 202 (64 * (k + 1) + U) = Int32.ofNat (zbT c n nb (nb - 1 - k) U) := fun U hU => by
    rw [← hZ (nb - 1 - k) (by omega) U hU, show nb - (nb - 1 - k) = k + 1 by omega]
  have w0 : Z 202 (64 * k + T) = Int32.ofNat (zbT c n nb (nb - k) T) := by
    rw [← hZ (nb - k) (by omega) T (by omega), show nb - (nb - k) = k by omega]
  have l0 := zbT_le c n nb (nb - k) T
  have hS : zc_St N 4 (Z 195) := by rw [h195]; exact g3
  have lp := zf_wq (g := g) (k := kb) (fun i (s : Int32 × Int32) => i ≤ n ∧ s.2.toInt = (n : Int) - 1 - i ∧ ((s.1 = -1 ∧ ∀ p, n - i ≤ p → p < n → ¬ zbP c n nb k T p) ∨ (∃ p, n - i ≤ p ∧ p < n ∧ s.1 = Int32.ofNat p ∧ zbP c n nb k T p ∧ ∀ p', n - i ≤ p' → p' < p → ¬ zbP c n nb k T p'))) (fun (s : Int32 × Int32) => (s.1 = -1 ∧ ∀ p, p < n → ¬ zbP c n nb k T p) ∨ (∃ p, p < n ∧ s.1 = Int32.ofNat p ∧ zbP c n nb k T p ∧ ∀ p', p' < p → ¬ zbP c n nb k T p')) n (fun i s ⟨hi, h1, h2⟩ => by
    have e0 : decide (s.2 < 0) = decide ((n : Int) - 1 - i < 0) := by rw [zg_lt0, h1]
    by_cases hc : (n : Int) - 1 - i < 0
    · have e : i = n := by omega
      subst e
      rw [decide_eq_true hc] at e0
      rw [z7e, z7k, e0]
      refine ⟨hi, (fun h => by cases h), (fun h => by cases h), fun _ => ?_⟩
      rcases h2 with ⟨b1, b2⟩ | ⟨p, p0, p1, p2, p3, p4⟩
      · exact Or.inl ⟨b1, fun p hp => b2 p (by omega) hp⟩
      · exact Or.inr ⟨p, p1, p2, p3, fun p' hp' => p4 p' (by omega) hp'⟩
    · rw [decide_eq_false hc] at e0
      obtain ⟨q, hq⟩ : ∃ q, q = n - 1 - i := ⟨_, rfl⟩
      have es : s.2 = Int32.ofNat q := zi_eq (by rw [h1, zi_val (by omega)]; omega)
      have hq6 : q < 6 := by omega
      have hU : T ||| 2 ^ q < 64 := zbo2 (n := 6) (by omega) hq6
      have lq := zbT_le c n nb (nb - 1 - k) (T ||| 2 ^ q)
      have ok := zh_pok hS hq6
      have okk := zh_ok Z hq6
      have ea : v_D_isOf a6.1 s.2 = T.testBit q := by rw [ha, es]; exact zN_isOf (by omega) (by omega)
      have ec : v_D_canBerth Z s.2 (Z 199 (Int32.ofNat k).toNatClampNeg) = c k q := by
        rw [es, zi_nat (show k < 2147483648 by omega), h199 k hk, zcb_c h195, g7 k q]
      have ex : (((64 : Int32) * (Int32.ofNat k)) + (64 : Int32)) + (a6.1 ||| (zsl (1 : Int32) s.2)) = Int32.ofNat (64 * (k + 1) + (T ||| 2 ^ q)) := by
        rw [ha, es, zN_sl1 q (by omega), Nat.one_shiftLeft, zN_or]
        exact zi_64 k _
      have ey : ((64 : Int32) * (Int32.ofNat k)) + a6.1 = Int32.ofNat (64 * k + T) := by
        rw [ha]; exact zix k T
      have ed : decide (((1 : Int32) + (Z 202 ((((64 : Int32) * (Int32.ofNat k)) + (64 : Int32)) + (a6.1 ||| (zsl (1 : Int32) s.2))).toNatClampNeg)) = (Z 202 (((64 : Int32) * (Int32.ofNat k)) + a6.1).toNatClampNeg)) = decide (1 + zbT c n nb (nb - 1 - k) (T ||| 2 ^ q) = zbT c n nb (nb - k) T) := by
        rw [ex, ey, zi_nat (by omega), zi_nat (by omega), w1 _ hU, w0, zi_1a]
        exact zN_eq (by omega) (by omega)
      have eg : g i s = (true, ((bif T.testBit q then s.1 else (bif c k q then (bif decide (1 + zbT c n nb (nb - 1 - k) (T ||| 2 ^ q) = zbT c n nb (nb - k) T) then s.2 else s.1) else s.1)), (s.2 + (-1 : Int32)))) := by
        rw [z7e, e0, ea, ec, ed, zk_f, zk_f, zk_f]
      have hV : ((bif T.testBit q then s.1 else (bif c k q then (bif decide (1 + zbT c n nb (nb - 1 - k) (T ||| 2 ^ q) = zbT c n nb (nb - k) T) then s.2 else s.1) else s.1)) = s.1 ∧ ¬ zbP c n nb k T q) ∨ ((bif T.testBit q then s.1 else (bif c k q then (bif decide (1 + zbT c n nb (nb - 1 - k) (T ||| 2 ^ q) = zbT c n nb (nb - k) T) then s.2 else s.1) else s.1)) = Int32.ofNat q ∧ zbP c n nb k T q) := by
        unfold zbP
        cases ht : T.testBit q with
        | true => exact Or.inl ⟨zk_t _ _, fun h => by cases h.1⟩
        | false =>
          cases hcc : c k q with
          | false =>
            rw [zk_f, zk_f]
            exact Or.inl ⟨rfl, fun h => by cases h.2.1⟩
          | true =>
            rw [zk_f, zk_t]
            by_cases hd : 1 + zbT c n nb (nb - 1 - k) (T ||| 2 ^ q) = zbT c n nb (nb - k) T
            · rw [decide_eq_true hd, zk_t]
              exact Or.inr ⟨es, rfl, rfl, hd⟩
            · rw [decide_eq_false hd, zk_f]
              exact Or.inl ⟨rfl, fun h => hd h.2.2⟩
      have hdn : (s.2 + (-1 : Int32)).toInt = (n : Int) - 1 - ((i + 1 : Nat) : Int) := by
        rw [zi_dn h1 (by omega)]; omega
      have hkb : kb i s := by
        rw [z7k, es]
        refine fun _ _ => ⟨zi_in (by omega) (by omega), ⟨ok.2.2.2.1, fun _ => okk.2.2.2.2.1⟩, fun _ => ?_⟩
        rw [← es, ex]
        exact zi_in (by omega) (by omega)
      rw [eg]
      clear eg ed ec ea ex ey
      generalize (bif T.testBit q then s.1 else (bif c k q then (bif decide (1 + zbT c n nb (nb - 1 - k) (T ||| 2 ^ q) = zbT c n nb (nb - k) T) then s.2 else s.1) else s.1)) = v at hV ⊢
      generalize s.2 + (-1 : Int32) = v2 at hdn ⊢
      refine ⟨hi, hkb, fun _ => ⟨by omega, hdn, ?_⟩, (fun h => by cases h)⟩
      show (v = -1 ∧ ∀ p, n - (i + 1) ≤ p → p < n → ¬ zbP c n nb k T p) ∨ (∃ p, n - (i + 1) ≤ p ∧ p < n ∧ v = Int32.ofNat p ∧ zbP c n nb k T p ∧ ∀ p', n - (i + 1) ≤ p' → p' < p → ¬ zbP c n nb k T p')
      rcases hV with ⟨hv, hn⟩ | ⟨hv, hn⟩
      · rcases h2 with ⟨b1, b2⟩ | ⟨p, p0, p1, p2, p3, p4⟩
        · refine Or.inl ⟨by rw [hv]; exact b1, fun p hp hp2 => ?_⟩
          by_cases e : p = q
          · rw [e]; exact hn
          · exact b2 p (by omega) hp2
        · refine Or.inr ⟨p, by omega, p1, by rw [hv]; exact p2, p3, fun p' hp' hp2 => ?_⟩
          by_cases e : p' = q
          · rw [e]; exact hn
          · exact p4 p' (by omega) hp2
      · exact Or.inr ⟨q, by omega, by omega, hv, hn, fun p' h1' h2' => by omega⟩) 1000 0 ((-1 : Int32), (Z 195 3) - (1 : Int32)) ⟨by omega, by
      show (Z 195 3 - (1 : Int32)).toInt = _
      rw [e3, Int32.toInt_sub, zi_val (by omega), show (1 : Int32).toInt = 1 from rfl, Int.bmod_eq_of_le (by omega) (by omega)]
      omega, Or.inl ⟨rfl, fun p hp hp2 => by omega⟩⟩ (by omega)
  refine ⟨?_, lp.2⟩
  rcases lp.1 with ⟨-, b⟩ | ⟨p, p1, p2, p3, p4⟩
  · obtain ⟨p, p1, p2⟩ := zbP_ex hk hne
    exact absurd p2 (b p p1)
  · exact Or.inr ⟨hne, p, p1, p2, p3, p4⟩
theorem z6e (M : zMem) (x0 : Int32) (i6 : Nat) (a6 : Int32 × Int32) : g_D_berths_6 M x0 i6 a6 = ((bif (decide (x0 < (Int32.ofNat i6))) then false else (bif (decide ((M 194 8) ≤ (Int32.ofNat i6))) then false else true)), ((bif (decide (x0 < (Int32.ofNat i6))) then a6.1 else (bif (decide ((M 194 8) ≤ (Int32.ofNat i6))) then a6.1 else (bif (decide (((zbZ M x0) 202 ((((64 : Int32) * (Int32.ofNat i6)) + (64 : Int32)) + a6.1).toNatClampNeg) = ((zbZ M x0) 202 (((64 : Int32) * (Int32.ofNat i6)) + a6.1).toNatClampNeg))) then a6.1 else (a6.1 ||| (zsl (1 : Int32) (zf_wh 1000 (g_D_berths_7 M x0 i6 a6) 0 ((-1 : Int32), (((zbZ M x0) 195 3) - (1 : Int32)))).1))))), (bif (decide (x0 < (Int32.ofNat i6))) then a6.2 else (bif (decide ((M 194 8) ≤ (Int32.ofNat i6))) then a6.2 else (bif (decide (((zbZ M x0) 202 ((((64 : Int32) * (Int32.ofNat i6)) + (64 : Int32)) + a6.1).toNatClampNeg) = ((zbZ M x0) 202 (((64 : Int32) * (Int32.ofNat i6)) + a6.1).toNatClampNeg))) then (-1 : Int32) else (zf_wh 1000 (g_D_berths_7 M x0 i6 a6) 0 ((-1 : Int32), (((zbZ M x0) 195 3) - (1 : Int32)))).1))))) := by
  unfold g_D_berths_6 zbZ
  rfl
theorem z6k (M : zMem) (x0 : Int32) (i6 : Nat) (a6 : Int32 × Int32) : kb_D_berths_6 M x0 i6 a6 = ((decide (x0 < (Int32.ofNat i6))) = false → ((decide ((M 194 8) ≤ (Int32.ofNat i6))) = false → (zz_in (((64 : Int32) * (Int32.ofNat i6)) + a6.1) 448 = true ∧ (zz_in ((((64 : Int32) * (Int32.ofNat i6)) + (64 : Int32)) + a6.1) 448 = true ∧ ((decide (((zbZ M x0) 202 ((((64 : Int32) * (Int32.ofNat i6)) + (64 : Int32)) + a6.1).toNatClampNeg) = ((zbZ M x0) 202 (((64 : Int32) * (Int32.ofNat i6)) + a6.1).toNatClampNeg))) = false → (zf_wk 1000 (g_D_berths_7 M x0 i6 a6) (kb_D_berths_7 M x0 i6 a6) 0 ((-1 : Int32), (((zbZ M x0) 195 3) - (1 : Int32))))))))) := by
  unfold kb_D_berths_6 zbZ
  rfl
theorem zv27 (M : zMem) (x0 : Int32) : v_D_berths M x0 = (bif (decide ((zb (bif (zf_wh 1000 (g_D_berths_1 M x0) 0 (bif (decide ((6 : Int32) < (M 194 8))) then false else true)) then false else true)) ≤ 0)) then (bif (decide (x0 = (-1 : Int32))) then ((zbZ M x0) 202 0) else (bif (v_D_isIn x0 (0 : Int32) ((M 194 8) - (1 : Int32))) then (zf_wh 1000 (g_D_berths_6 M x0) 0 ((0 : Int32), (-1 : Int32))).2 else (-1 : Int32))) else (0 : Int32)) := by
  unfold v_D_berths zbZ
  rfl
theorem zw27 (M : zMem) (x0 : Int32) : w_D_berths M x0 = (bif (decide ((zb (bif (zf_wh 1000 (g_D_berths_1 M x0) 0 (bif (decide ((6 : Int32) < (M 194 8))) then false else true)) then false else true)) ≤ 0)) then (zbZ M x0) else (zz_up (zz_up M 194 8 (0 : Int32)) 194 0 (zb (bif (zf_wh 1000 (g_D_berths_1 M x0) 0 (bif (decide ((6 : Int32) < (M 194 8))) then false else true)) then false else true)))) := by
  unfold w_D_berths zbZ
  rfl
theorem zb_6 {N W : zMem} {n nb : Nat} {B : Nat → Nat} {c : Nat → Nat → Bool} {x0 : Int32} (hG : zbG N n nb B c) (hW : ∀ j, j ≤ nb → ∀ T, T < 2 ^ n → W 193 (64 * (nb - j) + T) = Int32.ofNat (zbT c n nb j T)) (hf : ∀ r q, r ≠ 193 → W r q = N r q) (h8 : W 194 8 = Int32.ofNat nb) (hZ : ∀ j, j ≤ nb → ∀ T, T < 64 → (zbZ W x0) 202 (64 * (nb - j) + T) = Int32.ofNat (zbT c n nb j T)) (h195 : (zbZ W x0) 195 = N 195) (h199 : ∀ k, k < nb → (zbZ W x0) 199 k = Int32.ofNat (B k)) : (∀ w, w < nb → x0 = Int32.ofNat w → (zf_wh 1000 (g_D_berths_6 W x0) 0 ((0 : Int32), (-1 : Int32))).2 = v_G_firstForBerth W (Int32.ofNat (B w)) (Int32.ofNat w) (Int32.ofNat (zbK W B w))) ∧ zf_wk 1000 (g_D_berths_6 W x0) (kb_D_berths_6 W x0) 0 ((0 : Int32), (-1 : Int32)) := by
  have g1 := hG.1
  have g2 := hG.2.1
  have h64 := z264 g1
  refine zf_wq (g := g_D_berths_6 W x0) (k := kb_D_berths_6 W x0) (fun i (s : Int32 × Int32) => i ≤ nb ∧ s.1 = Int32.ofNat (zbK W B i) ∧ (∀ j, i = j + 1 → s.2 = v_G_firstForBerth W (Int32.ofNat (B j)) (Int32.ofNat j) (Int32.ofNat (zbK W B j))) ∧ (∀ w, w < nb → x0 = Int32.ofNat w → i ≤ w + 1)) (fun (s : Int32 × Int32) => ∀ w, w < nb → x0 = Int32.ofNat w → s.2 = v_G_firstForBerth W (Int32.ofNat (B w)) (Int32.ofNat w) (Int32.ofNat (zbK W B w))) nb (fun i s ⟨hi, h1, h2, h3⟩ => ?_) 1000 0 ((0 : Int32), (-1 : Int32)) ⟨by omega, rfl, fun j hj => by omega, fun w _ _ => by omega⟩ (by omega)
  have hlt : ∀ w, w < nb → x0 = Int32.ofNat w → decide (x0 < Int32.ofNat i) = decide (w < i) := fun w hw e => by
    rw [e]; exact zi_lt' (by omega) (by omega)
  by_cases hx : x0 < Int32.ofNat i
  · have eg : g_D_berths_6 W x0 i s = (false, (s.1, s.2)) := by
      rw [z6e, decide_eq_true hx, zk_t, zk_t, zk_t]
    have ek : kb_D_berths_6 W x0 i s := by
      rw [z6k, decide_eq_true hx]
      exact fun h => by cases h
    rw [eg]
    refine ⟨hi, ek, (fun h => by cases h), fun _ w hw e => ?_⟩
    have h9 := hlt w hw e
    rw [decide_eq_true hx] at h9
    have h10 := of_decide_eq_true h9.symm
    have h11 := h3 w hw e
    exact h2 w (by omega)
  · have e8 : decide (W 194 8 ≤ Int32.ofNat i) = decide (nb ≤ i) := by rw [h8]; exact zi_le (by omega) (by omega)
    have hxw : ∀ w, w < nb → x0 = Int32.ofNat w → i ≤ w := fun w hw e => by
      have h9 := hlt w hw e
      rw [decide_eq_false hx] at h9
      have h10 := of_decide_eq_false h9.symm
      omega
    by_cases hc : nb ≤ i
    · rw [decide_eq_true hc] at e8
      have eg : g_D_berths_6 W x0 i s = (false, (s.1, s.2)) := by
        rw [z6e, decide_eq_false hx, e8]
        simp only [zk_f, zk_t]
      have ek : kb_D_berths_6 W x0 i s := by
        rw [z6k, e8]
        exact fun _ h => by cases h
      rw [eg]
      refine ⟨hi, ek, (fun h => by cases h), fun _ w hw e => ?_⟩
      have := hxw w hw e
      omega
    · rw [decide_eq_false hc] at e8
      have hK := zbK_lt hG hW hf i (by omega)
      obtain ⟨ca, -⟩ := zb_cf hG (show i < nb by omega) hK hW hf
      have eK : zbK W B (i + 1) = (bif decide (v_G_firstForBerth W (Int32.ofNat (B i)) (Int32.ofNat i) (Int32.ofNat (zbK W B i)) = (-1 : Int32)) then zbK W B i else zbK W B i ||| 2 ^ (v_G_firstForBerth W (Int32.ofNat (B i)) (Int32.ofNat i) (Int32.ofNat (zbK W B i))).toNatClampNeg) := rfl
      have h7 := fun hne => zb_7 hG (show i < nb by omega) hK hZ h195 h199 s h1 hne (g_D_berths_7 W x0 i s) (kb_D_berths_7 W x0 i s) (z7e W x0 i s) (z7k W x0 i s)
      have hnx : ∀ w, w < nb → x0 = Int32.ofNat w → i + 1 ≤ w + 1 := fun w hw e => by have := hxw w hw e; omega
      obtain ⟨F, hFe⟩ : ∃ F, F = v_G_firstForBerth W (Int32.ofNat (B i)) (Int32.ofNat i) (Int32.ofNat (zbK W B i)) := ⟨_, rfl⟩
      rw [← hFe] at ca eK
      have ex : (((64 : Int32) * (Int32.ofNat i)) + (64 : Int32)) + s.1 = Int32.ofNat (64 * (i + 1) + zbK W B i) := by rw [h1]; exact zi_64 i _
      have ey : ((64 : Int32) * (Int32.ofNat i)) + s.1 = Int32.ofNat (64 * i + zbK W B i) := by rw [h1]; exact zix i _
      have w1 : (zbZ W x0) 202 (64 * (i + 1) + zbK W B i) = Int32.ofNat (zbT c n nb (nb - 1 - i) (zbK W B i)) := by
        rw [← hZ (nb - 1 - i) (by omega) (zbK W B i) (by omega), show nb - (nb - 1 - i) = i + 1 by omega]
      have w0 : (zbZ W x0) 202 (64 * i + zbK W B i) = Int32.ofNat (zbT c n nb (nb - i) (zbK W B i)) := by
        rw [← hZ (nb - i) (by omega) (zbK W B i) (by omega), show nb - (nb - i) = i by omega]
      have l0 := zbT_le c n nb (nb - i) (zbK W B i)
      have l1 := zbT_le c n nb (nb - 1 - i) (zbK W B i)
      have eA : decide (((zbZ W x0) 202 ((((64 : Int32) * (Int32.ofNat i)) + (64 : Int32)) + s.1).toNatClampNeg) = ((zbZ W x0) 202 (((64 : Int32) * (Int32.ofNat i)) + s.1).toNatClampNeg)) = decide (zbT c n nb (nb - 1 - i) (zbK W B i) = zbT c n nb (nb - i) (zbK W B i)) := by
        rw [ex, ey, zi_nat (by omega), zi_nat (by omega), w1, w0]
        exact zN_eq (by omega) (by omega)
      have ekb : kb_D_berths_6 W x0 i s := by
        rw [z6k]
        refine fun _ _ => ⟨by rw [ey]; exact zi_in (by omega) (by omega), by rw [ex]; exact zi_in (by omega) (by omega), fun h => ?_⟩
        rw [eA] at h
        exact (h7 (of_decide_eq_false h)).2
      by_cases hd : zbT c n nb (nb - 1 - i) (zbK W B i) = zbT c n nb (nb - i) (zbK W B i)
      · rw [decide_eq_true hd] at eA
        have eF : F = -1 := by
          rcases ca with ⟨-, b⟩ | ⟨a, -⟩
          · exact b
          · exact absurd hd a
        have eg : g_D_berths_6 W x0 i s = (true, (s.1, (-1 : Int32))) := by
          rw [z6e, decide_eq_false hx, e8, eA]
          simp only [zk_f, zk_t]
        rw [eg]
        refine ⟨hi, ekb, fun _ => ⟨by omega, ?_, fun j hj => ?_, hnx⟩, (fun h => by cases h)⟩
        · show s.1 = Int32.ofNat (zbK W B (i + 1))
          rw [h1, eK, eF, decide_eq_true rfl, zk_t]
        · have e : j = i := by omega
          subst e
          show (-1 : Int32) = _
          rw [← hFe, eF]
      · rw [decide_eq_false hd] at eA
        obtain ⟨q7, -⟩ := h7 hd
        have eg : g_D_berths_6 W x0 i s = (true, ((s.1 ||| (zsl (1 : Int32) (zf_wh 1000 (g_D_berths_7 W x0 i s) 0 ((-1 : Int32), (((zbZ W x0) 195 3) - (1 : Int32)))).1)), (zf_wh 1000 (g_D_berths_7 W x0 i s) 0 ((-1 : Int32), (((zbZ W x0) 195 3) - (1 : Int32)))).1)) := by
          rw [z6e, decide_eq_false hx, e8, eA]
          simp only [zk_f, zk_t]
        generalize (zf_wh 1000 (g_D_berths_7 W x0 i s) 0 ((-1 : Int32), (((zbZ W x0) 195 3) - (1 : Int32)))).1 = X at q7 eg
        have eF : F = X := zbA_u ca q7
        rcases q7 with ⟨a, -⟩ | ⟨-, p, p1, p2, -⟩
        · exact absurd a hd
        rw [eg]
        refine ⟨hi, ekb, fun _ => ⟨by omega, ?_, fun j hj => ?_, hnx⟩, (fun h => by cases h)⟩
        · show s.1 ||| zsl (1 : Int32) X = Int32.ofNat (zbK W B (i + 1))
          rw [h1, eK, eF, p2, decide_eq_false (zne1 (by omega)), zk_f, zi_nat (by omega), zN_sl1 p (by omega), Nat.one_shiftLeft, zN_or]
        · have e : j = i := by omega
          subst e
          show X = _
          rw [← hFe, eF]
/-- are the bytes deeds -/
theorem zb_n1 {N : zMem} {z : Nat} (hz : z ≤ 6) : (zf_wh 1000 (g_N_needBerths_1 N (Int32.ofNat z)) 0 false = false ↔ ∀ j, j < z → (N 3 j).toInt < 8) ∧ zf_wk 1000 (g_N_needBerths_1 N (Int32.ofNat z)) (kb_N_needBerths_1 N (Int32.ofNat z)) 0 false := by
  refine zf_wq (g := g_N_needBerths_1 N (Int32.ofNat z)) (k := kb_N_needBerths_1 N (Int32.ofNat z)) (fun i (s : Bool) => i ≤ z ∧ ∀ j, j < i → (N 3 j).toInt < 8) (fun (s : Bool) => (s = false ↔ ∀ j, j < z → (N 3 j).toInt < 8)) z (fun i s ⟨hi, h2⟩ => ?_) 1000 0 false ⟨by omega, fun j hj => by omega⟩ (by omega)
  unfold g_N_needBerths_1 kb_N_needBerths_1
  rw [zi_le (by omega) (by omega)]
  by_cases c : z ≤ i
  · have e : i = z := by omega
    subst e
    rw [decide_eq_true c]
    exact ⟨hi, (fun h => by cases h), (fun h => by cases h), fun _ => ⟨fun _ => h2, fun _ => rfl⟩⟩
  · rw [decide_eq_false c]
    obtain ⟨a1, a2⟩ := zby_at (N := N) (i := i) (by omega)
    have e8 : (8 : Int32).toInt = 8 := rfl
    rw [a1, zi_lti, e8]
    by_cases d : (N 3 i).toInt < 8
    · rw [decide_eq_true d]
      refine ⟨hi, fun _ => a2, fun _ => ⟨by omega, fun j hj => ?_⟩, (fun h => by cases h)⟩
      by_cases e : j = i
      · rw [e]; exact d
      · exact h2 j (by omega)
    · rw [decide_eq_false d]
      exact ⟨hi, fun _ => a2, (fun h => by cases h), fun _ => ⟨(fun h => by cases h), fun h => absurd (h i (by omega)) d⟩⟩
theorem zb_d1 {N : zMem} {z : Nat} (x0 : Int32) (hz : z ≤ 6) (h8 : N 194 8 = Int32.ofNat z) (hB : ∀ i, i < 400 → zrg 0 255 (N 199 i)) : (zf_wh 1000 (g_D_berths_1 N x0) 0 true = true ↔ ∀ j, j < z → (N 199 j).toInt < 8) ∧ zf_wk 1000 (g_D_berths_1 N x0) (kb_D_berths_1 N x0) 0 true := by
  refine zf_wq (g := g_D_berths_1 N x0) (k := kb_D_berths_1 N x0) (fun i (b : Bool) => i ≤ z ∧ (b = true ↔ ∀ j, j < i → (N 199 j).toInt < 8)) (fun (b : Bool) => (b = true ↔ ∀ j, j < z → (N 199 j).toInt < 8)) z (fun i b ⟨hi, h2⟩ => ?_) 1000 0 true ⟨by omega, fun _ j hj => by omega, fun _ => rfl⟩ (by omega)
  unfold g_D_berths_1 kb_D_berths_1
  rw [h8, zi_le (by omega) (by omega), zi_nat (by omega)]
  by_cases c : i = z
  · subst c
    rw [decide_eq_true (Nat.le_refl _)]
    exact ⟨hi, (fun h => by cases h), (fun h => by cases h), fun _ => h2⟩
  · rw [decide_eq_false (show ¬ z ≤ i by omega)]
    cases b with
    | false =>
      refine ⟨hi, (fun _ h => by cases h), (fun h => by cases h), fun _ => ⟨(fun h => by cases h), fun h => ?_⟩⟩
      exact absurd (h2.mpr (fun j hj => h j (by omega))) (by decide)
    | true =>
      refine ⟨hi, fun _ _ => zi_in (by omega) (by omega), fun _ => ⟨by omega, ?_⟩, (fun h => by cases h)⟩
      show (bif false then true else (bif true then v_D_isIn (N 199 i) (0 : Int32) (7 : Int32) else true)) = true ↔ _
      rw [zk_f, zk_t, zg_in]
      have e0 : (0 : Int32).toInt = 0 := rfl
      have e7 : (7 : Int32).toInt = 7 := rfl
      rw [e0, e7]
      have hr := (hB i (by omega)).1
      refine ⟨fun h j hj => ?_, fun h => decide_eq_true ?_⟩
      · have := of_decide_eq_true h
        by_cases e : j = i
        · subst e; omega
        · exact h2.mp rfl j (by omega)
      · have := h i (by omega)
        omega
theorem zb_d0 (N : zMem) (x0 : Int32) : zf_wh 1000 (g_D_berths_1 N x0) 0 false = false ∧ zf_wk 1000 (g_D_berths_1 N x0) (kb_D_berths_1 N x0) 0 false := by
  have e : g_D_berths_1 N x0 0 false = (false, false) := by
    unfold g_D_berths_1
    cases decide (N 194 8 ≤ Int32.ofNat 0) <;> rfl
  exact ⟨zf_w0 (n := 999) e, zf_k0 e (fun _ h => by cases h)⟩
theorem zo27 : zo_27 zv_Inv := by
  intro M x0 hI
  obtain ⟨t1, t2, t3⟩ := zv_Tp hI
  obtain ⟨z, z1, z2, -⟩ := zr_ex t2
  have z1 : z ≤ 400 := by omega
  have hu : v_T_useUp M = Int32.ofNat z := z2
  obtain ⟨N, hN⟩ : ∃ N, N = w_T_useUp M := ⟨_, rfl⟩
  have n8 : N 194 8 = Int32.ofNat z := by rw [hN, ← z2]; exact t1.symm
  have nf : ∀ a i, ¬ (a = 2 ∧ i = 1) → N a i = M a i := fun a i h => by rw [hN]; exact zu_o h
  have n0 : N 2 1 = 0 := by rw [hN]; rfl
  have h199 : ∀ i, i < 400 → N 3 i = N 199 i := fun i hi => by rw [nf 3 i (by omega), nf 199 i (by omega)]; exact (t3 i hi).1
  have hB3 : ∀ i, i < 400 → zrg 0 255 (N 3 i) := fun i hi => by rw [nf 3 i (by omega)]; exact (t3 i hi).2
  have n195 : N 195 = M 195 := funext fun i => nf 195 i (by omega)
  have hS : zc_St N 4 (N 195) := by
    rw [n195]
    exact zc_cg (fun j hj => funext fun i => nf _ i (by omega)) (fun i _ => rfl) (zv_St hI)
  obtain ⟨n, hn1, hn2, -⟩ := zr_ex (zv_F hI).2.1
  have h410 : N 4 10 = Int32.ofNat n := by rw [nf 4 10 (by omega)]; exact hn2
  have h3 : N 195 3 = Int32.ofNat n := by
    rw [n195, ← hn2]; exact (zv_F hI).1.1.symm
  have hInv : ∀ R : zMem, (∀ b q, ¬ b = 202 → ¬ b = 193 → ¬ (b = 194 ∧ q = 0) → ¬ (b = 194 ∧ q = 8) → R b q = N b q) → R 194 8 = 0 → zv_Inv R := fun R hR h8 => zv_use hI (fun a i hs a1 a2 => by
    have h9 := zs_o hs
    rw [hR a i (by omega) (by omega) (by omega) (by omega)]
    exact nf a i (by omega)) (by rw [hR _ _ (by omega) (by omega) (by omega) (by omega)]; exact n0) h8 (by rw [hR _ _ (by omega) (by omega) (by omega) (by omega)]; exact nf _ _ (by omega)) (by rw [hR _ _ (by omega) (by omega) (by omega) (by omega)]; exact nf _ _ (by omega))
  have hbad : t_N_needBerths N (Int32.ofNat z) = 1 → ok_N_needBerths N (Int32.ofNat z) → zf_wh 1000 (g_D_berths_1 N x0) 0 (bif (decide ((6 : Int32) < (N 194 8))) then false else true) = false → zf_wk 1000 (g_D_berths_1 N x0) (kb_D_berths_1 N x0) 0 (bif (decide ((6 : Int32) < (N 194 8))) then false else true) → (ok_N_berths M x0 ∧ (∀ i, (w_N_berths M x0) 0 i = M 0 i) ∧ ((t_N_berths M x0) = 0 ∨ (t_N_berths M x0) = 1) ∧ ok_D_berths (w_N_berths M x0) x0 ∧ v_D_thrown (w_D_berths (w_N_berths M x0) x0) = zcd [0] (t_N_berths M x0) ∧ ((t_N_berths M x0) = 0 → (v_N_berths M x0) = (v_D_berths (w_N_berths M x0) x0)) ∧ zv_Inv (w_D_berths (w_N_berths M x0) x0)) := by
    intro b1 b2 b3 b4
    have ew : w_N_berths M x0 = N := by
      unfold w_N_berths
      rw [hu, ← hN, b1]
      exact zk_f _ _
    have et : t_N_berths M x0 = 1 := by
      unfold t_N_berths
      rw [hu, ← hN, b1]
      exact zk_f _ _
    have ewd : w_D_berths N x0 = zz_up (zz_up N 194 8 (0 : Int32)) 194 0 (zb true) := by
      rw [zw27, b3]
      exact zk_f _ _
    rw [ew, et, ewd]
    refine ⟨?_, fun i => nf 0 i (by omega), Or.inr rfl, ?_, rfl, (fun h => by cases h), hInv _ (fun b q _ _ q1 q2 => ?_) rfl⟩
    · unfold ok_N_berths
      rw [hu, ← hN, b1]
      exact ⟨b2, (fun h => by cases h)⟩
    · unfold ok_D_berths
      refine ⟨b4, fun h => ?_⟩
      rw [b3] at h
      cases h
    · rw [zu_o q1, zu_o q2]
  by_cases h6 : z ≤ 6
  · have hstart : (bif (decide ((6 : Int32) < (N 194 8))) then false else true) = true := by
      rw [n8, show (6 : Int32) = Int32.ofNat 6 from rfl, zi_lt' (by omega) (by omega), decide_eq_false (by omega)]; rfl
    have e6 : decide (Int32.ofNat z ≤ (6 : Int32)) = true := by
      rw [show (6 : Int32) = Int32.ofNat 6 from rfl, zi_le (by omega) (by omega)]; exact decide_eq_true h6
    obtain ⟨p1, p2⟩ := zb_n1 (N := N) h6
    have okn : ok_N_needBerths N (Int32.ofNat z) := fun _ => p2
    by_cases hg : ∀ j, j < z → (N 3 j).toInt < 8
    · have et0 : t_N_needBerths N (Int32.ofNat z) = 0 := by
        unfold t_N_needBerths
        rw [e6, p1.mpr hg]; rfl
      have hG : zbG N n z (fun k => (N 3 k).toNatClampNeg) (fun k p => v_D_canBerth N (Int32.ofNat p) (Int32.ofNat (N 3 k).toNatClampNeg)) := by
        refine ⟨by omega, h6, hS, h410, h3, fun k hk => ?_, fun k p => rfl⟩
        obtain ⟨u, u1, u2, -⟩ := zr_ex (hB3 k (by omega))
        have hk8 := hg k hk
        rw [u2, zi_val (by omega)] at hk8
        refine ⟨?_, ?_, ?_⟩
        · show (N 3 k).toNatClampNeg < 8
          rw [u2, zi_nat (by omega)]; omega
        · show N 3 k = Int32.ofNat (N 3 k).toNatClampNeg
          rw [u2, zi_nat (by omega)]
        · show N 199 k = Int32.ofNat (N 3 k).toNatClampNeg
          rw [← h199 k (by omega), u2, zi_nat (by omega)]
      generalize (fun k => (N 3 k).toNatClampNeg) = B at hG
      generalize (fun k p => v_D_canBerth N (Int32.ofNat p) (Int32.ofNat (N 3 k).toNatClampNeg)) = c at hG
      obtain ⟨⟨c1, c2⟩, c3⟩ := zb_ct hG
      have ew : w_N_berths M x0 = w_G_fillBerths N (Int32.ofNat z) := by
        unfold w_N_berths
        rw [hu, ← hN, et0]
        exact zk_t _ _
      have et : t_N_berths M x0 = 0 := by
        unfold t_N_berths
        rw [hu, ← hN, et0]
        exact zk_t _ _
      have ev : v_N_berths M x0 = (bif (decide (x0 = (-1 : Int32))) then (v_G_berthsFilled (w_G_fillBerths N (Int32.ofNat z))) else (v_G_berthPerson (w_G_fillBerths N (Int32.ofNat z)) (Int32.ofNat z) x0)) := by
        unfold v_N_berths
        rw [hu, ← hN, et0]
        exact zk_t _ _
      obtain ⟨cp1, cp2⟩ := zb_cp hG c1 c2 x0
      have okN : ok_N_berths M x0 := by
        unfold ok_N_berths
        rw [hu, ← hN]
        exact ⟨okn, fun _ => ⟨c3, fun _ => cp2⟩⟩
      rw [ew, et, ev]
      generalize w_G_fillBerths N (Int32.ofNat z) = W at c1 c2 cp1 cp2 ⊢
      have w8 : W 194 8 = Int32.ofNat z := by rw [c2 194 8 (by omega)]; exact n8
      have w199 : ∀ k, k < z → W 199 k = Int32.ofNat (B k) := fun k hk => by rw [c2 199 k (by omega)]; exact (hG.2.2.2.2.2.1 k hk).2.2
      have hsW : (bif (decide ((6 : Int32) < (W 194 8))) then false else true) = true := by rw [w8, ← n8]; exact hstart
      obtain ⟨d1, d2⟩ := zb_d1 (N := W) x0 h6 w8 (fun i hi => by rw [c2 199 i (by omega), ← h199 i hi]; exact hB3 i hi)
      have dL : zf_wh 1000 (g_D_berths_1 W x0) 0 (bif (decide ((6 : Int32) < (W 194 8))) then false else true) = true := by
        rw [hsW]
        refine d1.mpr (fun j hj => ?_)
        rw [c2 199 j (by omega), ← h199 j (by omega)]; exact hg j hj
      have dk : zf_wk 1000 (g_D_berths_1 W x0) (kb_D_berths_1 W x0) 0 (bif (decide ((6 : Int32) < (W 194 8))) then false else true) := by rw [hsW]; exact d2
      obtain ⟨r1, ⟨r2, r3⟩, r4⟩ := zb_dt (W := W) (R0 := zz_up (zz_up W 194 8 (0 : Int32)) 194 0 (zb (bif (zf_wh 1000 (g_D_berths_1 W x0) 0 (bif (decide ((6 : Int32) < (W 194 8))) then false else true)) then false else true))) hG w8 (funext fun q => by rw [zu_o (by omega), zu_o (by omega)]; exact c2 195 q (by omega)) (fun k hk => by rw [zu_o (by omega), zu_o (by omega)]; exact w199 k hk) x0
      have eZ : (zf_wh 1000 (g_D_berths_3 W x0) 0 (((W 194 8) - (1 : Int32)), (zf_for 64 (f_D_berths_2 W x0) (zz_up (zz_up W 194 8 (0 : Int32)) 194 0 (zb (bif (zf_wh 1000 (g_D_berths_1 W x0) 0 (bif (decide ((6 : Int32) < (W 194 8))) then false else true)) then false else true)))))).2 = zbZ W x0 := by
        unfold zbZ
        rfl
      rw [eZ] at r2 r3
      have z195 : (zbZ W x0) 195 = N 195 := funext fun q => by rw [r3 195 q (by omega), zu_o (by omega), zu_o (by omega)]; exact c2 195 q (by omega)
      have z199 : ∀ k, k < z → (zbZ W x0) 199 k = Int32.ofNat (B k) := fun k hk => by rw [r3 199 k (by omega), zu_o (by omega), zu_o (by omega)]; exact w199 k hk
      obtain ⟨s1, s2⟩ := zb_6 (x0 := x0) hG c1 c2 w8 r2 z195 z199
      have ewd : w_D_berths W x0 = zbZ W x0 := by
        rw [zw27, dL]
        exact zk_t _ _
      have evd : v_D_berths W x0 = (bif (decide (x0 = (-1 : Int32))) then ((zbZ W x0) 202 0) else (bif (v_D_isIn x0 (0 : Int32) ((W 194 8) - (1 : Int32))) then (zf_wh 1000 (g_D_berths_6 W x0) 0 ((0 : Int32), (-1 : Int32))).2 else (-1 : Int32))) := by
        rw [zv27, dL]
        exact zk_t _ _
      have okD : ok_D_berths W x0 := by
        unfold ok_D_berths
        exact ⟨dk, fun _ => ⟨r1, r4, fun _ => s2⟩⟩
      have th : v_D_thrown (zbZ W x0) = 0 := by
        show (zbZ W x0) 194 0 = 0
        rw [r3 194 0 (by omega), zu_at rfl rfl, dL]
        rfl
      rw [ewd, evd]
      refine ⟨okN, fun i => ?_, Or.inl rfl, okD, th, fun _ => ?_, hInv _ (fun b q b1 b2 b3 b4 => ?_) ?_⟩
      · rw [c2 0 i (by omega)]; exact nf 0 i (by omega)
      · by_cases hm : x0 = (-1 : Int32)
        · rw [decide_eq_true hm, zk_t, zk_t]
          show W 193 0 = _
          have a1 := c1 z (Nat.le_refl _) 0 (Nat.pow_pos (by omega))
          have a2 := r2 z (Nat.le_refl _) 0 (by omega)
          rw [Nat.sub_self] at a1 a2
          exact a1.trans a2.symm
        · rw [decide_eq_false hm, zk_f, zk_f, w8, zg_in]
          have e0 : (0 : Int32).toInt = 0 := rfl
          have e1 : (Int32.ofNat z - (1 : Int32)).toInt = (z : Int) - 1 := by
            rw [Int32.toInt_sub, zi_val (by omega), show (1 : Int32).toInt = 1 from rfl, Int.bmod_eq_of_le (by omega) (by omega)]
          rw [e0, e1]
          by_cases hin : 0 ≤ x0.toInt ∧ x0.toInt ≤ (z : Int) - 1
          · rw [decide_eq_true hin, zk_t]
            have ex : x0 = Int32.ofNat x0.toInt.toNat := zi_eq (by rw [zi_val (by omega)]; omega)
            rw [s1 _ (by omega) ex]
            exact cp1.1 _ (by omega) ex
          · rw [decide_eq_false hin, zk_f]
            refine cp1.2 (fun w hw e => hin ?_)
            rw [e, zi_val (by omega)]
            omega
      · rw [r3 b q b1, zu_o b3, zu_o b4]; exact c2 b q b2
      · rw [r3 194 8 (by omega), zu_o (by omega), zu_at rfl rfl]
    · have et1 : t_N_needBerths N (Int32.ofNat z) = 1 := by
        unfold t_N_needBerths
        rw [e6]
        cases hc : zf_wh 1000 (g_N_needBerths_1 N (Int32.ofNat z)) 0 false with
        | false => exact absurd (p1.mp hc) hg
        | true => rfl
      obtain ⟨d1, d2⟩ := zb_d1 (N := N) x0 h6 n8 (fun i hi => by rw [← h199 i hi]; exact hB3 i hi)
      refine hbad et1 okn ?_ (by rw [hstart]; exact d2)
      rw [hstart]
      cases hc : zf_wh 1000 (g_D_berths_1 N x0) 0 true with
      | false => rfl
      | true => exact absurd (fun j hj => by rw [h199 j (by omega)]; exact d1.mp hc j hj) hg
  · have hstart : (bif (decide ((6 : Int32) < (N 194 8))) then false else true) = false := by
      rw [n8, show (6 : Int32) = Int32.ofNat 6 from rfl, zi_lt' (by omega) (by omega), decide_eq_true (by omega)]; rfl
    have e6 : decide (Int32.ofNat z ≤ (6 : Int32)) = false := by
      rw [show (6 : Int32) = Int32.ofNat 6 from rfl, zi_le (by omega) (by omega)]; exact decide_eq_false h6
    obtain ⟨d1, d2⟩ := zb_d0 N x0
    refine hbad (by unfold t_N_needBerths; rw [e6]; rfl) (fun h => ?_) (by rw [hstart]; exact d1) (by rw [hstart]; exact d2)
    rw [e6] at h
    cases h
