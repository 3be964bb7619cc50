/-! YEARS AHEAD: the class keeps no log of them -/
theorem zw_uP {N R : zMem} {s : Nat} (hS : zc_W N s (R 195)) {p f : Nat} (hp : p < 6) (hf : f < 6) {v : Int32} (hv : zrf f v) : zc_W (zz_up N (s + 4 + f) p v) s ((zz_up R 195 (33 + 6 * p + f) v) 195) := by
  obtain ⟨hK, hP, hF, -⟩ := hS
  have hK := zc_Kj hK
  have hP := zc_Pj hP
  refine ⟨zc_jK fun q hq j hj => ?_, zc_jP fun q hq j hj => ?_, ⟨⟨?_, ?_⟩, ?_, ?_⟩, trivial⟩
  · rw [zu_o (by omega), zu_o (by omega)]
    exact hK q hq j hj
  · by_cases c : q = p ∧ j = f
    · obtain ⟨c1, c2⟩ := c
      subst c1
      subst c2
      rw [zu_eq, zu_eq]
      exact ⟨rfl, hv⟩
    · rw [zu_o (by omega), zu_o (by omega)]
      exact hP q hq j hj
  · rw [zu_o (by omega), zu_o (by omega)]; exact hF.1.1
  · rw [zu_o (by omega), zu_o (by omega)]; exact hF.1.2
  · rw [zu_o (by omega)]; exact hF.2.1
  · rw [zu_o (by omega)]; exact hF.2.2
theorem zw_u12 {N R : zMem} {s : Nat} (hS : zc_W N s (R 195)) {v : Int32} (hv : zrg 0 9999 v) : zc_W (zz_up N s 12 v) s ((zz_up R 195 4 v) 195) := by
  obtain ⟨hK, hP, hF, -⟩ := hS
  have hK := zc_Kj hK
  have hP := zc_Pj hP
  refine ⟨zc_jK fun q hq j hj => ?_, zc_jP fun q hq j hj => ?_, ⟨⟨?_, ?_⟩, ?_, ?_⟩, trivial⟩
  · rw [zu_o (by omega), zu_o (by omega)]
    exact hK q hq j hj
  · rw [zu_o (by omega), zu_o (by omega)]
    exact hP q hq j hj
  · rw [zu_o (by omega), zu_o (by omega)]; exact hF.1.1
  · rw [zu_eq, zu_eq]
  · rw [zu_o (by omega)]; exact hF.2.1
  · rw [zu_eq]; exact hv
theorem zw_r {N : zMem} {s : Nat} {r r' : Nat → Int32} (e : ∀ i, i < 69 → i ≠ 7 → r' i = r i) (h : zc_W N s r) : zc_W N s r' := by
  refine ⟨fun q hq => ?_, fun q hq => ?_, ?_, trivial⟩
  · rw [e (9 + 3 * q) (by omega) (by omega), e (10 + 3 * q) (by omega) (by omega), e (11 + 3 * q) (by omega) (by omega)]; exact h.1 q hq
  · rw [e (33 + 6 * q) (by omega) (by omega), e (34 + 6 * q) (by omega) (by omega), e (35 + 6 * q) (by omega) (by omega), e (36 + 6 * q) (by omega) (by omega), e (37 + 6 * q) (by omega) (by omega), e (38 + 6 * q) (by omega) (by omega)]; exact h.2.1 q hq
  · rw [e 3 (by omega) (by omega), e 4 (by omega) (by omega)]; exact h.2.2.1
def zV (N0 R0 : zMem) (s : Nat) (N R : zMem) : Prop := zc_W N s (R 195) ∧ (∀ a i, ¬ (s ≤ a ∧ a ≤ s + 10) → a ≠ 42 → a ≠ 43 → N a i = N0 a i) ∧ (∀ a i, ¬ (a = 195 ∧ i ≠ 1 ∧ i ≠ 2 ∧ i < 309) → a ≠ 200 → ¬ (a = 194 ∧ (i = 9 ∨ i = 10 ∨ i = 11 ∨ i = 13 ∨ i = 15 ∨ i = 16 ∨ i = 17 ∨ i = 18)) → R a i = R0 a i) ∧ (zz_b01 (R 194 15) = true ∧ zz_b01 (R 194 16) = true) ∧ ∀ i, N (s + 4) i = N0 (s + 4) i
theorem zV_up {N0 R0 N R N' R' : zMem} {s : Nat} (h : zV N0 R0 s N R) (hS : zc_W N' s (R' 195)) (h1 : ∀ a i, ¬ (s ≤ a ∧ a ≤ s + 10) → a ≠ 42 → a ≠ 43 → N' a i = N a i) (h2 : ∀ a i, ¬ (a = 195 ∧ i ≠ 1 ∧ i ≠ 2 ∧ i < 309) → a ≠ 200 → ¬ (a = 194 ∧ (i = 9 ∨ i = 10 ∨ i = 11 ∨ i = 13 ∨ i = 17 ∨ i = 18)) → R' a i = R a i) (h3 : ∀ i, N' (s + 4) i = N (s + 4) i) : zV N0 R0 s N' R' := by
  obtain ⟨a, b, c, ⟨d, e⟩, f⟩ := h
  refine ⟨hS, fun x i p q r => (h1 x i p q r).trans (b x i p q r), fun x i p q r => (h2 x i p q (by omega)).trans (c x i p q r), ⟨?_, ?_⟩, fun i => (h3 i).trans (f i)⟩
  · rw [h2 194 15 (by omega) (by omega) (by omega)]; exact d
  · rw [h2 194 16 (by omega) (by omega) (by omega)]; exact e
theorem zV_lw {N0 R0 N R : zMem} {s : Nat} (h4 : s + 10 < 37) (h : zV N0 R0 s N R) (hL : zc_Lw N0 37 (R0 195)) : zc_Lw N 37 (R 195) := zLw_c (fun a i x y => h.2.1 a i (by omega) (by omega) (by omega)) (h.2.2.1 195 1 (by omega) (by omega) (by omega)) (h.2.2.1 195 2 (by omega) (by omega) (by omega)) (fun i => h.2.2.1 195 (309 + i) (by omega) (by omega) (by omega)) hL
theorem zV_n {N0 R0 N R : zMem} {s : Nat} (h : zV N0 R0 s N R) (i : Nat) (hi : i ≤ 6) : ∃ n, n ≤ 6 ∧ decide (N s 10 ≤ Int32.ofNat i) = decide (n ≤ i) ∧ decide (R 195 3 ≤ Int32.ofNat i) = decide (n ≤ i) ∧ N s 10 = Int32.ofNat n := by
  obtain ⟨n, n1, -, -, n2, n3⟩ := zw_n h.1
  exact ⟨n, n1, by rw [n2]; exact zi_le (by omega) (by omega), by rw [n3]; exact zi_le (by omega) (by omega), n2⟩
theorem zV_old {N0 R0 N R : zMem} {s : Nat} (b0 : Bool) (h : zV N0 R0 s N R) : ok_S_growOld N s ∧ (zf_wk 1000 (g_D_passes_1 R b0) (kb_D_passes_1 R b0) 0 R) ∧ zV N0 R0 s (w_S_growOld N s) (zf_wh 1000 (g_D_passes_1 R b0) 0 R) := by
  have key := zf_w2 (g := g_S_growOld_1 N s) (g' := g_D_passes_1 R b0) (k := kb_S_growOld_1 N s) (k' := kb_D_passes_1 R b0) (fun i a b => i ≤ 6 ∧ zV N0 R0 s a b) 6 (by
    intro i a b hP
    obtain ⟨hi, hY⟩ := hP
    obtain ⟨n, n1, c1, c2, -⟩ := zV_n hY i hi
    unfold g_S_growOld_1 g_D_passes_1 kb_S_growOld_1 kb_D_passes_1
    rw [c1, c2]
    by_cases hc : n ≤ i
    · rw [decide_eq_true hc]
      simp only [zk_t]
      exact ⟨hi, (fun hh => by cases hh), (fun hh => by cases hh), trivial, (fun hh => by cases hh), fun _ => ⟨trivial, trivial⟩⟩
    · rw [decide_eq_false hc]
      simp only [zk_f]
      have hi6 : i < 6 := by omega
      have hof := zw_of hY.1 hi6
      obtain ⟨y, y1, y2, -⟩ := zr_ex (hY.1.2.1 i hi6).2.2.2.1
      obtain ⟨ix, iy⟩ := zi_f1 hi6 (k := 2) (by omega)
      have ix : (((33 : Int32) + ((6 : Int32) * Int32.ofNat i)) + (2 : Int32)).toNatClampNeg = 33 + 6 * i + 2 := ix
      refine ⟨hi, fun _ => zi_in hi6 (by omega), fun _ => ⟨(zh_ok b hi6).2.2.1, iy⟩, trivial, fun _ => ⟨by omega, ?_⟩, (fun hh => by cases hh)⟩
      unfold w_D_lays
      rw [ix, hof.2.2.1, zi_nat (by omega), y2, (zm_99 y (by omega)).1, (zm_99 y (by omega)).2]
      refine zV_up hY (zw_uP hY.1 hi6 (f := 2) (by omega) (show zrg 0 99 _ from ⟨by rw [zi_val (by omega)]; omega, by rw [zi_val (by omega)]; omega⟩)) (fun a j p q r => zu_o (by omega)) (fun a j p q r => zu_o (by omega)) (fun j => zu_o (by omega))) 1000 0 N R ⟨by omega, h⟩ (by omega)
  obtain ⟨⟨j, -, k1⟩, k2, k3⟩ := key
  exact ⟨k2, k3, k1⟩
theorem zV_end {N0 R0 N R : zMem} {s : Nat} (h : zV N0 R0 s N R) : zV N0 R0 s (w_S_endYear N s) (zz_up R 195 4 (v_D_lesser (9999 : Int32) (R 195 4 + (1 : Int32)))) := by
  unfold w_S_endYear
  obtain ⟨e1, e2⟩ := zm_yr h.1.2.2.1.2.2
  rw [e1, ← h.1.2.2.1.1.2]
  exact zV_up h (zw_u12 h.1 e2) (fun a j p q r => zu_o (by omega)) (fun a j p q r => zu_o (by omega)) (fun j => zu_o (by omega))
theorem zV_de {N0 R0 N R : zMem} {s p : Nat} (h4 : s + 10 < 37) (hL : zc_Lw N0 37 (R0 195)) (h : zV N0 R0 s N R) (hp : p < 6) : (ok_S_awaitsDeed N s (Int32.ofNat p) ∧ ((v_S_awaitsDeed N s (Int32.ofNat p)) = true → (ok_L_comes N s (Int32.ofNat p) ∧ ((decide ((v_L_comes N s (Int32.ofNat p)) = (100 : Int32))) = true → (zz_in (Int32.ofNat p) 6 = true ∧ ok_S_deedBitOf (w_L_comes N s (Int32.ofNat p)) s (Int32.ofNat p)))))) ∧ ok_D_deeds R (Int32.ofNat p) false ∧ zV N0 R0 s (bif (v_S_awaitsDeed N s (Int32.ofNat p)) then (bif (decide ((v_L_comes N s (Int32.ofNat p)) = (100 : Int32))) then (zz_up (w_L_comes N s (Int32.ofNat p)) (s + 8) (Int32.ofNat p).toNatClampNeg (((w_L_comes N s (Int32.ofNat p)) (s + 8) (Int32.ofNat p).toNatClampNeg) ||| (v_S_deedBitOf (w_L_comes N s (Int32.ofNat p)) s (Int32.ofNat p)))) else (w_L_comes N s (Int32.ofNat p))) else N) (w_D_deeds R (Int32.ofNat p) false) := by
  have hpo := zw_pok h.1 hp
  have ho := zh_ok R hp
  have hof := zw_of h.1 hp
  have i6 : zz_in (Int32.ofNat p) 6 = true := zi_in hp (by omega)
  unfold ok_S_awaitsDeed v_S_awaitsDeed ok_D_deeds w_D_deeds ok_S_hasDoneItsDeed v_S_hasDoneItsDeed
  simp only [zk_f]
  rcases zw_p h.1 hp with ⟨-, a, b, -, e, -⟩ | ⟨k, d, hk, hd, u, a, b, t, cc, e, f, g⟩
  · rw [a, e, show decide ((-1 : Int32) = -1) = true from rfl]
    simp only [zk_t, zk_f]
    exact ⟨⟨⟨hpo.1, (fun hh => by cases hh)⟩, (fun hh => by cases hh)⟩, ⟨hpo.2.2.2.1, (fun hh => by cases hh)⟩, h⟩
  · obtain ⟨bb, b1, b2⟩ := zw_dn h.1 hp
    have ed : decide (Int32.ofNat d = (-1 : Int32)) = false := by
      refine decide_eq_false (fun hh => ?_)
      have := congrArg Int32.toInt hh
      rw [zi_val (by omega)] at this
      have e1 : (-1 : Int32).toInt = -1 := by decide
      omega
    rw [a, e, ed, cc, hof.2.2.2.2.1, zi_nat (by omega), b2, zN_isOf (by omega) (by omega), ← Nat.one_shiftLeft, ← zN_sl1 d (by omega), zN_bit (by omega) (by omega)]
    cases hb : bb.testBit d with
    | true =>
      simp only [Bool.not_true, zk_t, zk_f]
      exact ⟨⟨⟨hpo.1, fun _ => ⟨i6, hpo.2.2.1⟩⟩, (fun hh => by cases hh)⟩, ⟨hpo.2.2.2.1, fun _ => ⟨ho.2.2.2.2.1, (fun hh => by cases hh)⟩⟩, h⟩
    | false =>
      simp only [Bool.not_false, zk_t, zk_f]
      have hLw := zV_lw h4 h hL
      obtain ⟨⟨q1, q2, q3⟩, q4, q5, q6, -⟩ := zL_asks h.1 hLw hp h4
      have ebit : v_S_deedBitOf (w_L_comes N s (Int32.ofNat p)) s (Int32.ofNat p) = Int32.ofNat (2 ^ d) := by
        rw [← cc]
        unfold v_S_deedBitOf v_S_isPlain
        rw [zi_nat (by omega), q4 (s + 4) p (by omega) (by omega), q4 (s + 2) _ (by omega) (by omega)]
      obtain ⟨N2, hN2⟩ : ∃ N', N' = w_L_comes N s (Int32.ofNat p) := ⟨_, rfl⟩
      rw [← hN2] at q4 ebit ⊢
      obtain ⟨R1, hR1⟩ : ∃ N', N' = w_D_asks R (Int32.ofNat p) := ⟨_, rfl⟩
      rw [← hR1] at q3 q5 q6 ⊢
      have e195 : R1 195 = R 195 := funext fun i => q5 195 i (by omega) (by omega)
      have W2 : zc_W N2 s (R1 195) := by rw [e195]; exact zw_c (fun a j x y => q4 a j (by omega) (by omega)) h.1
      have Y2 : zV N0 R0 s N2 R1 := by
        refine ⟨W2, fun a i x y z => ?_, fun a i x y z => ?_, ⟨?_, ?_⟩, fun i => ?_⟩
        · rw [q4 a i y z]; exact h.2.1 a i x y z
        · rw [q5 a i y z]; exact h.2.2.1 a i x y z
        · exact (q6 h.2.2.2.1.1 h.2.2.2.1.2).1
        · exact (q6 h.2.2.2.1.1 h.2.2.2.1.2).2
        · rw [q4 (s + 4) i (by omega) (by omega)]; exact h.2.2.2.2 i
      have ok2 : ok_S_deedBitOf N2 s (Int32.ofNat p) := (zw_pok W2 hp).2.2.1
      rw [q3]
      cases hc : decide (R1 194 17 = (100 : Int32)) with
      | false =>
        simp only [zk_f]
        exact ⟨⟨⟨hpo.1, fun _ => ⟨i6, hpo.2.2.1⟩⟩, fun _ => ⟨q1, (fun hh => by cases hh)⟩⟩, ⟨hpo.2.2.2.1, fun _ => ⟨ho.2.2.2.2.1, fun _ => ⟨q2, (fun hh => by cases hh), (fun hh => by cases hh)⟩⟩⟩, Y2⟩
      | true =>
        simp only [zk_t]
        have b3 : N2 (s + 8) p = Int32.ofNat bb := by rw [q4 _ _ (by omega) (by omega)]; exact b2
        have hlt : bb ||| 2 ^ d < 256 := Nat.or_lt_two_pow (n := 8) (by omega) (Nat.pow_lt_pow_right (by omega) hd)
        have hr : zrg 0 255 (Int32.ofNat (bb ||| 2 ^ d)) := ⟨by rw [zi_val (by omega)]; omega, by rw [zi_val (by omega)]; omega⟩
        have S4 := zw_uP W2 hp (f := 4) (by omega) (v := Int32.ofNat (bb ||| 2 ^ d)) hr
        have lD := zl_D (zz_up R1 195 (33 + 6 * p + 4) (Int32.ofNat (bb ||| 2 ^ d))) (Int32.ofNat 0) (Int32.ofNat p) (Int32.ofNat d)
        obtain ⟨ix4, iy4⟩ := zi_f1 hp (k := 4) (by omega)
        have ix4 : (((33 : Int32) + ((6 : Int32) * Int32.ofNat p)) + (4 : Int32)).toNatClampNeg = 33 + 6 * p + 4 := ix4
        have of5 := (zw_of W2 hp).2.2.2.2.1
        have es : Int32.ofNat bb ||| zsl (1 : Int32) (Int32.ofNat d) = Int32.ofNat (bb ||| 2 ^ d) := by rw [zN_sl1 d (by omega), Nat.one_shiftLeft, zN_or]
        unfold w_D_lays ok_D_lays
        rw [ix4, of5, b3, es, ebit, zN_or]
        refine ⟨⟨⟨hpo.1, fun _ => ⟨i6, hpo.2.2.1⟩⟩, fun _ => ⟨q1, fun _ => ⟨i6, ok2⟩⟩⟩, ⟨hpo.2.2.2.1, fun _ => ⟨ho.2.2.2.2.1, fun _ => ⟨q2, (fun hh => by cases hh), fun _ => ⟨(fun hh => by cases hh), (zh_ok _ hp).2.2.2.2.1, iy4, lD.2⟩⟩⟩⟩, ?_⟩
        refine zV_up Y2 (zw_r (fun i i1 i2 => lD.1.2.2.2.2.2.2 195 i (by omega)) S4) (fun a j x y z => zu_o (by omega)) (fun a j x y z => ?_) (fun j => zu_o (by omega))
        exact (lD.1.2.2.2.2.2.2 a j (by omega)).trans (zu_o (by omega))
theorem zV_d2 {N0 R0 N R : zMem} {s : Nat} (h4 : s + 10 < 37) (hL : zc_Lw N0 37 (R0 195)) (h : zV N0 R0 s N R) (N1 R1 : zMem) (c : Int32) : (zf_wk 1000 (g_S_passYearAhead_1 N1 s) (kb_S_passYearAhead_1 N1 s) 0 N) ∧ (zf_wk 1000 (g_D_passes_2 R1 false) (kb_D_passes_2 R1 false) 0 (c, R)) ∧ zV N0 R0 s (zf_wh 1000 (g_S_passYearAhead_1 N1 s) 0 N) (zf_wh 1000 (g_D_passes_2 R1 false) 0 (c, R)).2 := by
  have key := zf_w2 (g := g_S_passYearAhead_1 N1 s) (g' := g_D_passes_2 R1 false) (k := kb_S_passYearAhead_1 N1 s) (k' := kb_D_passes_2 R1 false) (fun i a b => i ≤ 6 ∧ zV N0 R0 s a b.2) 6 (by
    intro i a b hP
    obtain ⟨hi, hY⟩ := hP
    obtain ⟨n, n1, c1, c2, -⟩ := zV_n hY i hi
    unfold g_S_passYearAhead_1 g_D_passes_2 kb_S_passYearAhead_1 kb_D_passes_2
    rw [c1, c2]
    by_cases hc : n ≤ i
    · rw [decide_eq_true hc]
      simp only [zk_t]
      exact ⟨hi, (fun hh => by cases hh), (fun hh => by cases hh), (by first | rfl | trivial), (fun hh => by cases hh), fun _ => ⟨(by first | rfl | trivial), (by first | rfl | trivial)⟩⟩
    · rw [decide_eq_false hc]
      simp only [zk_f]
      have hi6 : i < 6 := by omega
      obtain ⟨t1, t2, t4⟩ := zV_de h4 hL hY hi6
      exact ⟨hi, fun _ => t1, fun _ => t2, (by first | rfl | trivial), fun _ => ⟨by omega, t4⟩, (fun hh => by cases hh)⟩) 1000 0 N (c, R) ⟨by omega, h⟩ (by omega)
  obtain ⟨⟨j, -, k1⟩, k2, k3⟩ := key
  exact ⟨k2, k3, k1⟩
theorem zV_pass {N0 R0 N R : zMem} {s : Nat} (h4 : s + 10 < 37) (hL : zc_Lw N0 37 (R0 195)) (h : zV N0 R0 s N R) : ok_S_passYearAhead N s ∧ ok_D_passes R false ∧ zV N0 R0 s (w_S_passYearAhead N s) (w_D_passes R false) := by
  obtain ⟨a1, a2, a3⟩ := zV_old false h
  obtain ⟨b1, b2, b4⟩ := zV_d2 h4 hL a3 N R 0
  have e3 : ∀ Z : zMem, g_D_passes_3 R false 0 Z = (false, Z) := by
    intro Z
    unfold g_D_passes_3
    cases decide (Z 195 3 ≤ Int32.ofNat 0) <;> simp only [zk_t, zk_f]
  unfold ok_S_passYearAhead ok_D_passes w_S_passYearAhead w_D_passes
  have e4 : ∀ Z : zMem, zf_wh 1000 (g_D_passes_3 R false) 0 Z = Z := fun Z => zf_w0 (n := 999) (e3 Z)
  rw [e4]
  exact ⟨⟨a1, b1⟩, ⟨a2, b2, zf_k0 (e3 _) (fun _ hh => by cases hh)⟩, zV_end b4⟩
def zCk (N : zMem) (k : Nat) : zMem := zf_for k (fun _ a => w_S_passYearAhead a 15) (w_S_copyFrom N 15 4)
def zDk (R : zMem) (k : Nat) : zMem := zf_for k (fun _ a => w_D_passes a false) R
theorem zV_k {N R : zMem} (hS : zc_St N 4 (R 195)) (hL : zc_Lw N 37 (R 195)) (b15 : zz_b01 (R 194 15) = true) (b16 : zz_b01 (R 194 16) = true) : ∀ k, zV (w_S_copyFrom N 15 4) R 15 (zCk N k) (zDk R k) ∧ ok_S_passYearAhead (zCk N k) 15 ∧ ok_D_passes (zDk R k) false := by
  have cp := zcp_all N (s := 15) (r := 4) (by omega)
  have L0 : zc_Lw (w_S_copyFrom N 15 4) 37 (R 195) := zLw_c (fun a i x y => cp.1 a i (by omega)) rfl rfl (fun _ => rfl) hL
  have V : ∀ k, zV (w_S_copyFrom N 15 4) R 15 (zCk N k) (zDk R k) := by
    intro k
    induction k with
    | zero => exact ⟨zc_w (zcp_St cp hS), fun _ _ _ _ _ => rfl, fun _ _ _ _ _ => rfl, ⟨b15, b16⟩, fun _ => rfl⟩
    | succ k ih => exact (zV_pass (by omega) L0 ih).2.2
  exact fun k => ⟨V k, (zV_pass (by omega) L0 (V k)).1, (zV_pass (by omega) L0 (V k)).2.1⟩
theorem zD_go (R : zMem) (x : Int32) : ∀ k, (zf_for k (f_D_goes_1 R x false) ((0 : Int32), R)).2 = zDk R k
  | 0 => rfl
  | k + 1 => by
    show w_D_passes (zf_for k (f_D_goes_1 R x false) ((0 : Int32), R)).2 false = w_D_passes (zDk R k) false
    rw [zD_go R x k]
/-- all is put aside, and comes back -/
theorem zB_R {M N1 : zMem} (hN : ∀ a i, ¬ (15 ≤ a ∧ a ≤ 25) → a ≠ 42 → a ≠ 43 → N1 a i = M a i) (x : Int32) : (∀ a i, ¬ (15 ≤ a ∧ a ≤ 25) → a ≠ 42 → a ≠ 43 → a ≠ 197 → ¬ (a = 194 ∧ i = 0) → w_D_putsAside (zz_up N1 194 0 x) a i = M a i) ∧ (∀ i, i < 309 → w_D_putsAside (zz_up N1 194 0 x) 197 i = M 195 i) ∧ w_D_putsAside (zz_up N1 194 0 x) 194 0 = x ∧ w_D_putsAside (zz_up N1 194 0 x) 195 = M 195 := by
  obtain ⟨k1, k2⟩ := zcl (q := 197) (r := 195) (by omega) (f := f_D_putsAside_1 (zz_up N1 194 0 x)) (fun i a => rfl) (zz_up N1 194 0 x) 309
  have f1 : ∀ a i, ¬ (15 ≤ a ∧ a ≤ 25) → a ≠ 42 → a ≠ 43 → a ≠ 197 → ¬ (a = 194 ∧ i = 0) → w_D_putsAside (zz_up N1 194 0 x) a i = M a i := fun a i p q r u v => (k2 a i u).trans ((zu_o v).trans (hN a i p q r))
  refine ⟨f1, fun i hi => ?_, (k2 194 0 (by omega)).trans (zu_at rfl rfl), funext fun i => f1 195 i (by omega) (by omega) (by omega) (by omega) (by omega)⟩
  refine (k1 i).trans ?_
  rw [decide_eq_true hi, zk_t, zu_o (by omega)]
  exact hN 195 i (by omega) (by omega) (by omega)
theorem zB_fin {M N1 G : zMem} (hI : zv_Inv M) (x : Int32) (hN : ∀ a i, ¬ (15 ≤ a ∧ a ≤ 25) → a ≠ 42 → a ≠ 43 → N1 a i = M a i) (hG : ∀ a i, ¬ (a = 195 ∧ i ≠ 1 ∧ i ≠ 2 ∧ i < 309) → a ≠ 200 → ¬ (a = 194 ∧ (i = 9 ∨ i = 10 ∨ i = 11 ∨ i = 13 ∨ i = 15 ∨ i = 16 ∨ i = 17 ∨ i = 18)) → G a i = w_D_putsAside (zz_up N1 194 0 x) a i) (b15 : zz_b01 (G 194 15) = true) (b16 : zz_b01 (G 194 16) = true) : zv_Inv (w_D_comesBack G) ∧ v_D_thrown (w_D_comesBack G) = x := by
  obtain ⟨r1, r2, r3, -⟩ := zB_R hN x
  obtain ⟨m1, m2⟩ := zcl (q := 195) (r := 197) (by omega) (f := f_D_comesBack_1 G) (fun i a => rfl) G 309
  have fin : ∀ a i, ¬ (15 ≤ a ∧ a ≤ 25) → a ≠ 42 → a ≠ 43 → a ≠ 197 → a ≠ 200 → ¬ (a = 194 ∧ (i = 0 ∨ i = 9 ∨ i = 10 ∨ i = 11 ∨ i = 13 ∨ i = 15 ∨ i = 16 ∨ i = 17 ∨ i = 18)) → w_D_comesBack G a i = M a i := by
    intro a i p1 p2 p3 p4 p5 p6
    by_cases h : a = 195
    · subst h
      refine (m1 i).trans ?_
      by_cases hi : i < 309
      · rw [decide_eq_true hi, zk_t, hG 197 i (by omega) (by omega) (by omega)]
        exact r2 i hi
      · rw [decide_eq_false hi, zk_f, hG 195 i (by omega) (by omega) (by omega)]
        exact r1 195 i (by omega) (by omega) (by omega) (by omega) (by omega)
    · refine (m2 a i h).trans ?_
      rw [hG a i (by omega) p5 (by omega)]
      exact r1 a i p1 p2 p3 p4 (by omega)
  refine ⟨zv_mk (zc_AllC (fun a i hs => ?_) (zv_al hI)) ?_ ?_, ?_⟩
  · obtain ⟨z1, z2, z3⟩ := zs_o hs
    exact fin a i (by omega) (by omega) (by omega) (by omega) (by omega) (by omega)
  · rw [show w_D_comesBack G 194 15 = G 194 15 from m2 194 15 (by omega)]; exact b15
  · rw [show w_D_comesBack G 194 16 = G 194 16 from m2 194 16 (by omega)]; exact b16
  · unfold v_D_thrown
    refine (m2 194 0 (by omega)).trans ?_
    rw [hG 194 0 (by omega) (by omega) (by omega), r3]
theorem zC_fr {M : zMem} (hI : zv_Inv M) (k : Nat) : (∀ a i, ¬ (15 ≤ a ∧ a ≤ 25) → a ≠ 42 → a ≠ 43 → zCk M k a i = M a i) ∧ (∀ i, zCk M k 19 i = M 8 i) := by
  have cp := zcp_all M (s := 15) (r := 4) (by omega)
  have V := (zV_k (zv_St hI) (zv_al hI).2.1 hI.2.1 hI.2.2 k).1
  exact ⟨fun a i p q r => (V.2.1 a i (by omega) q r).trans (cp.1 a i (by omega)), fun i => (V.2.2.2.2 i).trans (cp.2.1 4 i (by omega) (by omega))⟩
theorem zg_y (x : Int32) : (v_D_isIn x 0 60 = true ∧ t_N_needYears x 60 = 0) ∨ (v_D_isIn x 0 60 = false ∧ t_N_needYears x 60 = 1) := by
  have e0 : (0 : Int32).toInt = 0 := by decide
  have e60 : (60 : Int32).toInt = 60 := by decide
  unfold t_N_needYears
  rw [zg_in, zi_lei x 60, zg_lt0, e0, e60]
  by_cases h1 : x.toInt < 0
  · rw [decide_eq_true h1, decide_eq_false (show ¬ (0 ≤ x.toInt ∧ x.toInt ≤ 60) by omega)]
    exact Or.inr ⟨rfl, rfl⟩
  · rw [decide_eq_false h1]
    by_cases h2 : x.toInt ≤ 60
    · rw [decide_eq_true h2, decide_eq_true (show 0 ≤ x.toInt ∧ x.toInt ≤ 60 by omega)]
      exact Or.inl ⟨rfl, rfl⟩
    · rw [decide_eq_false h2, decide_eq_false (show ¬ (0 ≤ x.toInt ∧ x.toInt ≤ 60) by omega)]
      exact Or.inr ⟨rfl, rfl⟩
theorem zA_42 {M : zMem} (hI : zv_Inv M) (n : Int32) {p : Nat} (hp : p < 6) (C : zMem) (hC : C = zCk M n.toNatClampNeg) : ok_D_goes (w_D_putsAside (zz_up C 194 0 0)) n false ∧ (∀ j, ok_S_passYearAhead (zCk M j) 15) ∧ v_D_of (w_D_goes (w_D_putsAside (zz_up C 194 0 0)) n false) (Int32.ofNat p) (2 : Int32) = C 21 p ∧ v_D_of (w_D_goes (w_D_putsAside (zz_up C 194 0 0)) n false) (Int32.ofNat p) (4 : Int32) = C 23 p ∧ zv_Inv (w_D_comesBack (w_D_goes (w_D_putsAside (zz_up C 194 0 0)) n false)) ∧ v_D_thrown (w_D_comesBack (w_D_goes (w_D_putsAside (zz_up C 194 0 0)) n false)) = 0 ∧ (∀ a i, ¬ (15 ≤ a ∧ a ≤ 25) → a ≠ 42 → a ≠ 43 → C a i = M a i) := by
  have hf := (zC_fr hI n.toNatClampNeg).1
  rw [← hC] at hf
  obtain ⟨r1, r2, r3, r4⟩ := zB_R hf 0
  obtain ⟨R, hR⟩ : ∃ R, R = w_D_putsAside (zz_up C 194 0 0) := ⟨_, rfl⟩
  rw [← hR] at r1 r2 r3 r4
  have V := zV_k (N := M) (R := R) (by rw [r4]; exact zv_St hI) (by rw [r4]; exact (zv_al hI).2.1) (by rw [r1 194 15 (by omega) (by omega) (by omega) (by omega) (by omega)]; exact hI.2.1) (by rw [r1 194 16 (by omega) (by omega) (by omega) (by omega) (by omega)]; exact hI.2.2)
  have hG : w_D_goes R n false = zDk R n.toNatClampNeg := zD_go R n _
  have Vk := (V n.toNatClampNeg).1
  rw [← hC] at Vk
  have hof := zw_of Vk.1 hp
  rw [← hR, hG]
  obtain ⟨b1, b2⟩ := zB_fin (G := zDk R n.toNatClampNeg) hI 0 hf (by rw [← hR]; exact Vk.2.2.1) Vk.2.2.2.1.1 Vk.2.2.2.1.2
  refine ⟨fun j hj => ?_, fun j => (V j).2.1, hof.2.2.1, hof.2.2.2.2.1, b1, b2, hf⟩
  show ok_D_passes (zf_for j (f_D_goes_1 R n false) ((0 : Int32), R)).2 false
  rw [zD_go]
  exact (V j).2.2
theorem zo42 : zo_42 zv_Inv := by
  intro M x n q hI
  have hq : (q = 0 ∧ decide (q = 0) = true ∧ v_D_isIn q 0 1 = true) ∨ (q = 1 ∧ decide (q = 0) = false ∧ decide (q = 1) = true ∧ v_D_isIn q 0 1 = true) ∨ (decide (q = 0) = false ∧ decide (q = 1) = false ∧ v_D_isIn q 0 1 = false) := by
    by_cases h0 : q = 0
    · subst h0; exact Or.inl ⟨rfl, rfl, rfl⟩
    · by_cases h1 : q = 1
      · subst h1; exact Or.inr (Or.inl ⟨rfl, rfl, rfl, rfl⟩)
      · refine Or.inr (Or.inr ⟨decide_eq_false h0, decide_eq_false h1, ?_⟩)
        rw [zg_in]
        refine decide_eq_false (fun hh => ?_)
        have e0 : (0 : Int32).toInt = 0 := rfl
        have e1 : (1 : Int32).toInt = 1 := rfl
        rcases (show q.toInt = 0 ∨ q.toInt = 1 by omega) with e | e
        · exact h0 (zi_eq (by rw [e, e0]))
        · exact h1 (zi_eq (by rw [e, e1]))
  rcases zg_p hI (M' := M) rfl x with ⟨p, hp, e, en, t, i⟩ | ⟨t, i⟩
  · rcases zg_y n with ⟨i2, t2⟩ | ⟨i2, t2⟩
    · obtain ⟨C, hC⟩ : ∃ C, C = zCk M n.toNatClampNeg := ⟨_, rfl⟩
      obtain ⟨a1, a2, a3, a4, a5, a6, a7⟩ := zA_42 hI n hp C hC
      have c195 : C 195 = M 195 := funext fun j => a7 195 j (by omega) (by omega) (by omega)
      have i' : v_D_isOne C x = true := by rw [zi_one x C c195]; exact i
      have o2 := (zh_ok (w_D_goes (w_D_putsAside (zz_up C 194 0 0)) n false) hp).2.2.1
      have o4 := (zh_ok (w_D_goes (w_D_putsAside (zz_up C 194 0 0)) n false) hp).2.2.2.2.1
      have i6 : zz_in x 6 = true := by rw [e]; exact zi_in hp (by omega)
      rcases hq with ⟨q0, q1, q2⟩ | ⟨q0, q1, q2, q3⟩ | ⟨q1, q2, q3⟩
      · have hw : w_N_ahead M x n q = C := by
          unfold w_N_ahead
          simp only [t, t2, q1, zn_0, zk_t]
          rw [hC]; rfl
        rw [hw]
        unfold ok_N_ahead t_N_ahead ok_D_ahead v_N_ahead v_D_ahead w_D_ahead
        simp only [t, t2, q1, q2, i', i2, zn_0, zk_t, zd_0]
        rw [← e] at a3 o2
        refine ⟨fun _ _ => ⟨fun _ => ⟨fun j _ => a2 j, fun _ => i6, fun _ => i6⟩, (fun hh => by cases hh)⟩, fun j => a7 0 j (by omega) (by omega) (by omega), Or.inl (by first | rfl | trivial), fun _ => ⟨a1, o2⟩, a6, fun _ => ?_, a5⟩
        rw [a3, en, hC]; rfl
      · have hw : w_N_ahead M x n q = C := by
          unfold w_N_ahead
          simp only [t, t2, q1, q2, zn_0, zk_t, zk_f]
          rw [hC]; rfl
        rw [hw]
        unfold ok_N_ahead t_N_ahead ok_D_ahead v_N_ahead v_D_ahead w_D_ahead
        simp only [t, t2, q1, q2, q3, i', i2, zn_0, zk_t, zk_f, zd_0]
        rw [← e] at a4 o4
        refine ⟨fun _ _ => ⟨(fun hh => by cases hh), fun _ _ => ⟨fun j _ => a2 j, fun _ => i6, fun _ => i6⟩⟩, fun j => a7 0 j (by omega) (by omega) (by omega), Or.inl (by first | rfl | trivial), fun _ => ⟨a1, o4⟩, a6, fun _ => ?_, a5⟩
        rw [a4, en, hC]; rfl
      · have hw : w_N_ahead M x n q = M := by
          unfold w_N_ahead
          simp only [t, t2, q1, q2, zn_0, zk_t, zk_f]
        rw [hw]
        unfold ok_N_ahead t_N_ahead ok_D_ahead v_N_ahead v_D_ahead w_D_ahead
        simp only [t, t2, q1, q2, q3, i, i2, zn_0, zk_t, zk_f]
        exact ⟨fun _ _ => ⟨(fun hh => by cases hh), (fun _ hh => by cases hh)⟩, fun _ => (by first | rfl | trivial), Or.inr (Or.inr (Or.inr (by first | rfl | trivial))), (fun hh => by cases hh), (by first | rfl | trivial), (fun hh => by cases hh), zv_th hI _⟩
    · have hw : w_N_ahead M x n q = M := by
        unfold w_N_ahead
        simp only [t, t2, zn_0, show Nat.beq 1 0 = false from rfl, zk_t, zk_f]
      rw [hw]
      unfold ok_N_ahead t_N_ahead ok_D_ahead v_N_ahead v_D_ahead w_D_ahead
      simp only [t, t2, i, i2, zn_0, show Nat.beq 1 0 = false from rfl, zk_t, zk_f]
      exact ⟨(fun _ hh => by cases hh), fun _ => (by first | rfl | trivial), Or.inr (Or.inr (Or.inl (by first | rfl | trivial))), (fun hh => by cases hh), (by first | rfl | trivial), (fun hh => by cases hh), zv_th hI _⟩
  · have hw : w_N_ahead M x n q = M := by
      unfold w_N_ahead
      simp only [t, show Nat.beq 3 0 = false from rfl, zk_f]
    rw [hw]
    unfold ok_N_ahead t_N_ahead ok_D_ahead v_N_ahead v_D_ahead w_D_ahead
    simp only [t, i, show Nat.beq 3 0 = false from rfl, zk_f]
    exact ⟨(fun hh => by cases hh), fun _ => (by first | rfl | trivial), Or.inr (Or.inl (by first | rfl | trivial)), (fun hh => by cases hh), (by first | rfl | trivial), (fun hh => by cases hh), zv_th hI _⟩
