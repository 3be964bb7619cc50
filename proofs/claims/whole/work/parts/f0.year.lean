/-! a year, on both sides -/
theorem zf_w2 {α β : Type} {g : Nat → α → Bool × α} {g' : Nat → β → Bool × β} {k : Nat → α → Prop} {k' : Nat → β → Prop} (P : Nat → α → β → Prop) (n : Nat) (h : ∀ i a b, P i a b → i ≤ n ∧ k i a ∧ k' i b ∧ (g i a).1 = (g' i b).1 ∧ ((g i a).1 = true → P (i + 1) (g i a).2 (g' i b).2) ∧ ((g i a).1 = false → (g i a).2 = a ∧ (g' i b).2 = b)) : ∀ (N i : Nat) (a : α) (b : β), P i a b → n < N + i → (∃ j, P j (zf_wh N g i a) (zf_wh N g' i b)) ∧ zf_wk N g k i a ∧ zf_wk N g' k' i b
  | 0, i, a, b, hP, hn => by
    have := (h i a b hP).1
    omega
  | N + 1, i, a, b, hP, hn => by
    obtain ⟨h1, h2, h3, h4, h5, h6⟩ := h i a b hP
    cases hc : (g i a).1 with
    | false =>
      have e1 : g i a = (false, (g i a).2) := by rw [← hc]
      have e2 : g' i b = (false, (g' i b).2) := by rw [← hc, h4]
      rw [zf_w0 e1, zf_w0 e2, (h6 hc).1, (h6 hc).2]
      exact ⟨⟨i, hP⟩, zf_k0 e1 h2, zf_k0 e2 h3⟩
    | true =>
      have e1 : g i a = (true, (g i a).2) := by rw [← hc]
      have e2 : g' i b = (true, (g' i b).2) := by rw [← hc, h4]
      rw [zf_w1 e1, zf_w1 e2]
      obtain ⟨i1, i2, i3⟩ := zf_w2 P n h N (i + 1) _ _ (h5 hc) (by omega)
      exact ⟨i1, zf_k1 e1 h2 i2, zf_k1 e2 h3 i3⟩
theorem zN_dv {m k : Nat} (hm : m < 32768) (hk : k < 32768) : Int32.ofNat m / Int32.ofNat k = Int32.ofNat (m / k) := by
  apply Int32.toInt_inj.mp
  have h := Nat.div_le_self m k
  rw [Int32.toInt_div, zi_val (by omega), zi_val (by omega), zi_val (by omega), ← Int.ofNat_tdiv]
  generalize m / k = q at h
  exact Int.bmod_eq_of_le (by omega) (by omega)
theorem zN_rm {m k : Nat} (hm : m < 32768) (hk : k < 32768) : zrm (Int32.ofNat m) (Int32.ofNat k) = Int32.ofNat (m % k) := by
  unfold zrm
  have h := Nat.div_mul_le_self m k
  rw [zN_dv hm hk, ← Int32.ofNat_mul, zN_sub h]
  congr 1
  have h2 := Nat.div_add_mod m k
  rw [Nat.mul_comm] at h2
  omega
theorem zN_dr (y : Int32) : ∃ m, m < 32768 ∧ (zus y (16 : Int32)) &&& (32767 : Int32) = Int32.ofNat m := by
  have e : y = Int32.ofNat y.toBitVec.toNat := by
    apply Int32.toBitVec_inj.mp
    rw [zN_bv, BitVec.ofNat_toNat, BitVec.setWidth_eq]
  rw [e, show (16 : Int32) = Int32.ofNat 16 from rfl, zN_us y.toBitVec.isLt (by omega), show (32767 : Int32) = Int32.ofNat 32767 from rfl, zN_and]
  exact ⟨_, Nat.lt_of_le_of_lt Nat.and_le_right (by omega), rfl⟩
/-- a class's memory and the reference's while years pass -/
def zY (N0 R0 : zMem) (s : Nat) (N R : zMem) : Prop := zc_St N s (R 195) ∧ (∀ a i, ¬ (s ≤ a ∧ a ≤ s + 10) → a ≠ 42 → a ≠ 43 → N a i = N0 a i) ∧ (∀ a i, ¬ (a = 195 ∧ i ≠ 1 ∧ i ≠ 2 ∧ i < 309) → a ≠ 200 → ¬ (a = 194 ∧ (i = 9 ∨ i = 10 ∨ i = 11 ∨ i = 13 ∨ i = 15 ∨ i = 16 ∨ i = 17 ∨ i = 18)) → R a i = R0 a i) ∧ zz_b01 (R 194 15) = true ∧ zz_b01 (R 194 16) = true
theorem zY_up {N0 R0 N R N' R' : zMem} {s : Nat} (h : zY N0 R0 s N R) (hS : zc_St N' s (R' 195)) (h1 : ∀ a i, ¬ (s ≤ a ∧ a ≤ s + 10) → a ≠ 42 → a ≠ 43 → N' a i = N a i) (h2 : ∀ a i, ¬ (a = 195 ∧ i ≠ 1 ∧ i ≠ 2 ∧ i < 309) → a ≠ 200 → ¬ (a = 194 ∧ (i = 9 ∨ i = 10 ∨ i = 11 ∨ i = 13 ∨ i = 17 ∨ i = 18)) → R' a i = R a i) : zY N0 R0 s N' R' := by
  obtain ⟨a, b, c, d, e⟩ := h
  refine ⟨hS, fun x i p q r => (h1 x i p q r).trans (b x i p q r), fun x i p q r => (h2 x i p q (by omega)).trans (c x i p q r), ?_, ?_⟩
  · rw [h2 194 15 (by omega) (by omega) (by omega)]; exact d
  · rw [h2 194 16 (by omega) (by omega) (by omega)]; exact e
theorem zpEnc_c5 {N W : zMem} {L : List (Int32 × Int32 × List Int32)} (h : ∀ a i, 37 ≤ a → a ≤ 41 → W a i = N a i) (hE : zpEnc N 37 L) : zpEnc W 37 L := by
  obtain ⟨⟨a1, a2, a3, a4⟩, b, c⟩ := hE
  refine ⟨⟨(h 37 0 (by omega) (by omega)).trans a1, a2, (h 37 1 (by omega) (by omega)).trans a3, a4⟩, fun i hi => ?_, fun j hj => (h 41 j (by omega) (by omega)).trans (c j hj)⟩
  obtain ⟨b1, b2, b3⟩ := b i hi
  exact ⟨(h 38 i (by omega) (by omega)).trans b1, (h 39 i (by omega) (by omega)).trans b2, (h 40 i (by omega) (by omega)).trans b3⟩
theorem zLw_c {N W : zMem} {r r' : Nat → Int32} (h : ∀ a i, 37 ≤ a → a ≤ 41 → W a i = N a i) (h1 : r' 1 = r 1) (h2 : r' 2 = r 2) (h3 : ∀ i, r' (309 + i) = r (309 + i)) (hL : zc_Lw N 37 r) : zc_Lw W 37 r' := by
  obtain ⟨a, b, c, d⟩ := hL
  have e : (fun i => r' (309 + i)) = (fun i => r (309 + i)) := funext h3
  refine ⟨?_, ?_, ?_, ?_⟩
  · rw [h 37 0 (by omega) (by omega), h1]; exact a
  · rw [h1]; exact b
  · rw [h2]; exact c
  · rw [h1, h2, e]
    exact fun hh => ⟨(d hh).1, zpEnc_c5 h (d hh).2⟩
theorem zY_lw {N0 R0 N R : zMem} {s : Nat} (h4 : s + 10 < 37) (h : zY N0 R0 s N R) (hL : zc_Lw N0 37 (R0 195)) : zc_Lw N 37 (R 195) := zLw_c (fun a i x y => h.2.1 a i (by omega) (by omega) (by omega)) (h.2.2.1 195 1 (by omega) (by omega) (by omega)) (h.2.2.1 195 2 (by omega) (by omega) (by omega)) (fun i => h.2.2.1 195 (309 + i) (by omega) (by omega) (by omega)) hL
theorem zm_99 : ∀ n, n ≤ 99 → v_jm_min (Int32.ofNat n + (1 : Int32)) (99 : Int32) = Int32.ofNat (min (n + 1) 99) ∧ v_D_lesser (99 : Int32) (Int32.ofNat n + (1 : Int32)) = Int32.ofNat (min (n + 1) 99) := by decide +kernel
theorem zm_yr {x : Int32} (h : zrg 0 9999 x) : v_jm_min (x + (1 : Int32)) (9999 : Int32) = v_D_lesser (9999 : Int32) (x + (1 : Int32)) ∧ zrg 0 9999 (v_D_lesser (9999 : Int32) (x + (1 : Int32))) := by
  obtain ⟨n, n1, n2, -⟩ := zr_ex h
  have e : x + (1 : Int32) = Int32.ofNat (n + 1) := by rw [n2]; exact zi_ad n 1
  have e9 : (9999 : Int32).toInt = 9999 := by decide
  have e1 : (Int32.ofNat (n + 1)).toInt = n + 1 := by rw [zi_val (by omega)]; omega
  rw [e]
  refine ⟨zi_eq ?_, ?_⟩
  · rw [zi_min, zi_les]; omega
  · unfold zrg
    rw [zi_les, e9, e1]; omega
theorem zY_n {N0 R0 N R : zMem} {s : Nat} (h : zY N0 R0 s N R) (i : Nat) (hi : i ≤ 6) : ∃ n, n ≤ 6 ∧ decide (N s 10 ≤ Int32.ofNat i) = decide (n ≤ i) ∧ decide (R 195 3 ≤ Int32.ofNat i) = decide (n ≤ i) ∧ N s 10 = Int32.ofNat n := by
  obtain ⟨n, n1, -, -, n2, n3⟩ := zh_n h.1
  exact ⟨n, n1, by rw [n2]; exact zi_le (by omega) (by omega), by rw [n3]; exact zi_le (by omega) (by omega), n2⟩
theorem zY_old {N0 R0 N R : zMem} {s : Nat} (b0 : Bool) (h : zY N0 R0 s N R) : ok_S_growOld N s ∧ (zf_wk 1000 (g_D_passes_1 R b0) (kb_D_passes_1 R b0) 0 R) ∧ zY N0 R0 s (w_S_growOld N s) (zf_wh 1000 (g_D_passes_1 R b0) 0 R) := by
  have key := zf_w2 (g := g_S_growOld_1 N s) (g' := g_D_passes_1 R b0) (k := kb_S_growOld_1 N s) (k' := kb_D_passes_1 R b0) (fun i a b => i ≤ 6 ∧ zY N0 R0 s a b) 6 (by
    intro i a b hP
    obtain ⟨hi, hY⟩ := hP
    obtain ⟨n, n1, c1, c2, -⟩ := zY_n hY i hi
    unfold g_S_growOld_1 g_D_passes_1 kb_S_growOld_1 kb_D_passes_1
    rw [c1, c2]
    by_cases hc : n ≤ i
    · rw [decide_eq_true hc]
      simp only [zk_t]
      exact ⟨hi, (fun hh => by cases hh), (fun hh => by cases hh), trivial, (fun hh => by cases hh), fun _ => ⟨trivial, trivial⟩⟩
    · rw [decide_eq_false hc]
      simp only [zk_f]
      have hi6 : i < 6 := by omega
      have hof := zh_of hY.1 hi6
      obtain ⟨y, y1, y2, -⟩ := zr_ex (hY.1.2.1 i hi6).2.2.2.1
      obtain ⟨ix, iy⟩ := zi_f1 hi6 (k := 2) (by omega)
      have ix : (((33 : Int32) + ((6 : Int32) * Int32.ofNat i)) + (2 : Int32)).toNatClampNeg = 33 + 6 * i + 2 := ix
      refine ⟨hi, fun _ => zi_in hi6 (by omega), fun _ => ⟨(zh_ok b hi6).2.2.1, iy⟩, trivial, fun _ => ⟨by omega, ?_⟩, (fun hh => by cases hh)⟩
      unfold w_D_lays
      rw [ix, hof.2.2.1, zi_nat (by omega), y2, (zm_99 y (by omega)).1, (zm_99 y (by omega)).2]
      refine zY_up hY (zc_uP hY.1 hi6 (f := 2) (by omega) (show zrg 0 99 _ from ⟨by rw [zi_val (by omega)]; omega, by rw [zi_val (by omega)]; omega⟩)) (fun a j p q r => zu_o (by omega)) (fun a j p q r => zu_o (by omega))) 1000 0 N R ⟨by omega, h⟩ (by omega)
  obtain ⟨⟨j, -, k1⟩, k2, k3⟩ := key
  exact ⟨k2, k3, k1⟩
theorem zY_end {N0 R0 N R : zMem} {s : Nat} (h : zY N0 R0 s N R) : zY N0 R0 s (w_S_endYear N s) (zz_up R 195 4 (v_D_lesser (9999 : Int32) (R 195 4 + (1 : Int32)))) := by
  unfold w_S_endYear
  obtain ⟨e1, e2⟩ := zm_yr h.1.2.2.1.2.2.2.1
  rw [e1, ← h.1.2.2.1.1.2.2.1]
  exact zY_up h (zc_uF12 h.1 e2) (fun a j p q r => zu_o (by omega)) (fun a j p q r => zu_o (by omega))
theorem zY_dr {N0 R0 N R : zMem} {s : Nat} (h : zY N0 R0 s N R) (k : Int32) : zY N0 R0 s (w_S_draw N s) (w_D_draw R k) ∧ ∃ m, m < 32768 ∧ v_S_draw N s = Int32.ofNat m ∧ v_D_draw R k = zrm (Int32.ofNat m) k := by
  have e := h.1.2.2.1.1.2.2.2.2.1
  unfold w_S_draw w_D_draw v_S_draw v_D_draw
  rw [e]
  obtain ⟨m, m1, m2⟩ := zN_dr (((1103515245 : Int32) * (R 195 8)) + (12345 : Int32))
  rw [m2]
  exact ⟨zY_up h (zc_uF14 h.1 trivial) (fun a j p q r => zu_o (by omega)) (fun a j p q r => zu_o (by omega)), m, m1, rfl, rfl⟩
theorem zY_th {N0 R0 N R : zMem} {s p : Nat} (h : zY N0 R0 s N R) (hp : p < 6) (n : Int32) : ok_D_thumbs R (Int32.ofNat p) ∧ ((decide (((w_S_draw N s) s 11) ≤ (zrm (v_S_draw N s) (100 : Int32)))) = false → ok_S_shakeOver (w_S_draw (w_S_draw N s) s) s (Int32.ofNat p) (zrm (v_S_draw (w_S_draw N s) s) (16 : Int32))) ∧ zY N0 R0 s (bif (decide (((w_S_draw N s) s 11) ≤ (zrm (v_S_draw N s) (100 : Int32)))) then (w_S_draw N s) else (w_S_shakeOver (w_S_draw (w_S_draw N s) s) s (Int32.ofNat p) (zrm (v_S_draw (w_S_draw N s) s) (16 : Int32)))) (w_D_thumbs R (Int32.ofNat p)) := by
  obtain ⟨d1, m, m1, m2, m3⟩ := zY_dr h (100 : Int32)
  obtain ⟨f1, t, t1, t2, t3⟩ := zY_dr d1 (16 : Int32)
  unfold ok_D_thumbs w_D_thumbs
  have esh : (w_S_draw N s) s 11 = (w_D_draw R 100) 195 5 := d1.1.2.2.1.1.2.1
  rw [m3, t3, ← esh, m2, t2, show (16 : Int32) = Int32.ofNat 16 from rfl, zN_rm t1 (by omega)]
  rw [show Int32.ofNat 16 = (16 : Int32) from rfl]
  generalize hz : zrm (Int32.ofNat m) (100 : Int32) = z
  generalize hw : (w_S_draw N s) s 11 = w
  have ec : decide (z < w) = !decide (w ≤ z) := by
    rw [zi_lti, zi_lei]
    by_cases hh : w.toInt ≤ z.toInt
    · rw [decide_eq_true hh, decide_eq_false (by omega)]; rfl
    · rw [decide_eq_false hh, decide_eq_true (by omega)]; rfl
  rw [ec]
  have od : ∀ (M : zMem), ok_D_draw M (100 : Int32) ∧ ok_D_draw M (16 : Int32) := fun M => ⟨(show decide ((100 : Int32) = 0) = false from by decide), (show decide ((16 : Int32) = 0) = false from by decide)⟩
  have ht : t % 16 < 16 := Nat.mod_lt _ (by omega)
  generalize t % 16 = v at ht
  obtain ⟨b, b1, b2⟩ := zh_rb f1.1 hp
  have hof := (zh_of f1.1 hp).2.1
  obtain ⟨ix, iy⟩ := zi_f1 hp (k := 1) (by omega)
  have ix : (((33 : Int32) + ((6 : Int32) * Int32.ofNat p)) + (1 : Int32)).toNatClampNeg = 33 + 6 * p + 1 := ix
  cases hc : decide (w ≤ z) with
  | true =>
    rw [Bool.not_true, zk_t, zk_f]
    exact ⟨⟨(od _).1, (fun hh => by cases hh)⟩, (fun hh => by cases hh), d1⟩
  | false =>
    rw [Bool.not_false, zk_t, zk_f, hof, b2, zN_isOf (by omega) (by omega)]
    unfold ok_S_shakeOver w_S_shakeOver
    rw [zi_nat (by omega), b2, zN_bit (by omega) (by omega), zN_sl1 v (by omega), Nat.one_shiftLeft, zN_or]
    have i6 : zz_in (Int32.ofNat p) 6 = true := zi_in hp (by omega)
    cases hb : b.testBit v with
    | true =>
      rw [Bool.not_true, zk_t, zk_f]
      exact ⟨⟨(od _).1, fun _ => ⟨(od _).2, (zh_ok _ hp).2.1, (fun hh => by cases hh)⟩⟩, fun _ => ⟨i6, (fun hh => by cases hh)⟩, f1⟩
    | false =>
      rw [Bool.not_false, zk_t, zk_f]
      have hlt : b ||| 2 ^ v < 65536 := Nat.or_lt_two_pow (n := 16) (by omega) (Nat.pow_lt_pow_right (by omega) ht)
      have hr : zrg 0 65535 (Int32.ofNat (b ||| 2 ^ v)) := ⟨by rw [zi_val (by omega)]; omega, by rw [zi_val (by omega)]; omega⟩
      have sP := zc_uP f1.1 hp (f := 1) (by omega) (v := Int32.ofNat (b ||| 2 ^ v)) hr
      have sG := zc_uG (q := 2) (p := p) (v := v) sP (by omega) (by omega) (by omega)
      obtain ⟨y1, y2, -, -, -, -, oA, eA⟩ := zl_N sP.2.2.1 (Int32.ofNat p) (Int32.ofNat 2) (Int32.ofNat v)
      have lD := zl_D (zz_up (w_D_draw (w_D_draw R 100) 16) 195 (33 + 6 * p + 1) (Int32.ofNat (b ||| 2 ^ v))) (Int32.ofNat 2) (Int32.ofNat p) (Int32.ofNat v)
      unfold w_D_lays
      rw [ix]
      refine ⟨⟨(od _).1, fun _ => ⟨(od _).2, (zh_ok _ hp).2.1, fun _ => ⟨iy, lD.2⟩⟩⟩, fun _ => ⟨i6, fun _ => oA⟩, ?_⟩
      refine zY_up f1 sG (fun a j p q r => ?_) (fun a j p q r => ?_)
      · rw [show (2 : Int32) = Int32.ofNat 2 from rfl, eA, zu_o (by omega), zu_o (by omega), zu_o (by omega), zu_o (by omega)]
      · exact (lD.1.2.2.2.2.2.2 a j (by omega)).trans (zu_o (by omega))

theorem zY_th2 {N0 R0 N R : zMem} {s : Nat} (h : zY N0 R0 s N R) (N1 R1 : zMem) : (zf_wk 1000 (g_S_passYear_2 N1 s) (kb_S_passYear_2 N1 s) 0 N) ∧ (zf_wk 1000 (g_D_passes_3 R1 true) (kb_D_passes_3 R1 true) 0 R) ∧ zY N0 R0 s (zf_wh 1000 (g_S_passYear_2 N1 s) 0 N) (zf_wh 1000 (g_D_passes_3 R1 true) 0 R) := by
  have key := zf_w2 (g := g_S_passYear_2 N1 s) (g' := g_D_passes_3 R1 true) (k := kb_S_passYear_2 N1 s) (k' := kb_D_passes_3 R1 true) (fun i a b => i ≤ 6 ∧ zY N0 R0 s a b) 6 (by
    intro i a b hP
    obtain ⟨hi, hY⟩ := hP
    obtain ⟨n, n1, c1, c2, -⟩ := zY_n hY i hi
    unfold g_S_passYear_2 g_D_passes_3 kb_S_passYear_2 kb_D_passes_3
    rw [c1, c2]
    by_cases hc : n ≤ i
    · rw [decide_eq_true hc, zk_t, zk_t, zk_t]
      exact ⟨hi, (fun hh => by cases hh), (fun hh => by cases hh), rfl, (fun hh => by cases hh), fun _ => ⟨rfl, rfl⟩⟩
    · rw [decide_eq_false hc, zk_f, zk_f, zk_f, zk_t]
      have hi6 : i < 6 := by omega
      obtain ⟨t1, t2, t3⟩ := zY_th hY hi6 0
      exact ⟨hi, fun _ => t2, fun _ _ => t1, rfl, fun _ => ⟨by omega, t3⟩, (fun hh => by cases hh)⟩) 1000 0 N R ⟨by omega, h⟩ (by omega)
  obtain ⟨⟨j, -, k1⟩, k2, k3⟩ := key
  exact ⟨k2, k3, k1⟩
