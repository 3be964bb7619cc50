/-! PAIRS: call 31 -/
def zpl (L : Nat) : Nat := bif L.testBit 0 then 0 else (bif L.testBit 1 then 1 else (bif L.testBit 2 then 2 else (bif L.testBit 3 then 3 else (bif L.testBit 4 then 4 else 5))))
theorem zq_t1 : ∀ L, L < 64 → L ≠ 0 → zpl L < 6 ∧ L.testBit (zpl L) = true ∧ ∀ q, q < zpl L → L.testBit q = false := by decide +kernel
theorem zq_t2a : ∀ L, L < 64 → ∀ q, q < 6 → L.testBit q = true → 2 ^ q ≤ L ∧ Int32.ofNat L &&& ((zsl (1 : Int32) (Int32.ofNat q)) ^^^ (-1 : Int32)) = Int32.ofNat (L - 2 ^ q) ∧ (L - 2 ^ q).testBit q = false := by decide +kernel
theorem zq_t2b : ∀ L, L < 64 → ∀ q, q < 6 → ∀ r, r < 6 → (!L.testBit q || (decide (r = q) || ((L - 2 ^ q).testBit r == L.testBit r))) = true := by decide +kernel
theorem zq_t2 (L : Nat) (hL : L < 64) (q : Nat) (hq : q < 6) (h : L.testBit q = true) : 2 ^ q ≤ L ∧ Int32.ofNat L &&& ((zsl (1 : Int32) (Int32.ofNat q)) ^^^ (-1 : Int32)) = Int32.ofNat (L - 2 ^ q) ∧ (L - 2 ^ q).testBit q = false ∧ ∀ r, r < 6 → r ≠ q → (L - 2 ^ q).testBit r = L.testBit r := by
  obtain ⟨a, b, c⟩ := zq_t2a L hL q hq h
  refine ⟨a, b, c, fun r hr hne => ?_⟩
  have e := zq_t2b L hL q hq r hr
  rw [h, decide_eq_false hne] at e
  exact eq_of_beq e
theorem zq_t3 : ∀ n, n < 7 → ∀ L, L < 2 ^ n → ∀ q, q < n → (2 ^ n - 1 - L).testBit q = !L.testBit q ∧ (L.testBit q = true → (2 ^ n - 1 - L) ||| 2 ^ q = 2 ^ n - 1 - (L - 2 ^ q)) := by decide +kernel
theorem zq_t4a : ∀ n, n < 7 → ∀ L, L < 2 ^ n → ∀ p, p < n → ∀ q, q < n → (!L.testBit p || (decide (p = q) || (decide ((2 ^ n - 1 - L) &&& (2 ^ p ||| 2 ^ q) = 0) == L.testBit q))) = true := by decide +kernel
theorem zq_t4b : ∀ n, n < 7 → ∀ L, L < 2 ^ n → ∀ p, p < n → ∀ q, q < n → (!L.testBit p || (decide (p = q) || (!L.testBit q || ((2 ^ n - 1 - L) ||| (2 ^ p ||| 2 ^ q) == 2 ^ n - 1 - (L - 2 ^ p - 2 ^ q))))) = true := by decide +kernel
theorem zq_t4 (n : Nat) (hn : n < 7) (L : Nat) (hL : L < 2 ^ n) (p : Nat) (hp : p < n) (q : Nat) (hq : q < n) (h : L.testBit p = true) (hne : p ≠ q) : decide ((2 ^ n - 1 - L) &&& (2 ^ p ||| 2 ^ q) = 0) = L.testBit q ∧ (L.testBit q = true → (2 ^ n - 1 - L) ||| (2 ^ p ||| 2 ^ q) = 2 ^ n - 1 - (L - 2 ^ p - 2 ^ q)) := by
  have e1 := zq_t4a n hn L hL p hp q hq
  have e2 := zq_t4b n hn L hL p hp q hq
  rw [h, decide_eq_false hne] at e1 e2
  refine ⟨eq_of_beq e1, fun h2 => ?_⟩
  rw [h2] at e2
  exact eq_of_beq e2
theorem zq_t5 : ∀ n, n < 7 → ∀ L, L < 2 ^ n → (L ≠ 0 → zpl L < n) ∧ ((∀ q, q < n → L.testBit q = false) → L = 0) := by decide +kernel
theorem zq_low {L p : Nat} (hL : L < 64) (hp6 : p < 6) (hp : L.testBit p = true) (h0 : ∀ q, q < p → L.testBit q = false) : v_D_lowest (Int32.ofNat L) = Int32.ofNat p ∧ ok_D_lowest (Int32.ofNat L) := by
  unfold v_D_lowest ok_D_lowest
  refine zf_wq (g := g_D_lowest_1 (Int32.ofNat L)) (k := kb_D_lowest_1 (Int32.ofNat L)) (fun i (s : Int32) => i ≤ p ∧ s = Int32.ofNat i) (fun (s : Int32) => s = Int32.ofNat p) p (fun i s ⟨hi, h1⟩ => ?_) 1000 0 (0 : Int32) ⟨by omega, rfl⟩ (by omega)
  unfold g_D_lowest_1 kb_D_lowest_1
  rw [h1, zN_isOf (by omega) (by omega)]
  by_cases c : i = p
  · subst c
    rw [hp]
    refine ⟨hi, trivial, (fun h => by cases h), fun _ => ?_⟩
    show (bif true then Int32.ofNat i else Int32.ofNat i + (1 : Int32)) = _
    rw [zk_t]
  · rw [h0 i (by omega)]
    refine ⟨hi, trivial, fun _ => ⟨by omega, ?_⟩, (fun h => by cases h)⟩
    show (bif false then Int32.ofNat i else Int32.ofNat i + (1 : Int32)) = _
    rw [zk_f, zi_succ]
theorem zq_uns {S p : Nat} (hS : S < 64) (hp6 : p < 6) (hp : S.testBit p = false) (h0 : ∀ q, q < p → S.testBit q = true) : v_G_firstUnsettled (Int32.ofNat S) = Int32.ofNat p ∧ ok_G_firstUnsettled (Int32.ofNat S) := by
  unfold v_G_firstUnsettled ok_G_firstUnsettled
  refine zf_wq (g := g_G_firstUnsettled_1 (Int32.ofNat S)) (k := kb_G_firstUnsettled_1 (Int32.ofNat S)) (fun i (s : Int32) => i ≤ p ∧ s = Int32.ofNat i) (fun (s : Int32) => s = Int32.ofNat p) p (fun i s ⟨hi, h1⟩ => ?_) 1000 0 (0 : Int32) ⟨by omega, rfl⟩ (by omega)
  unfold g_G_firstUnsettled_1 kb_G_firstUnsettled_1
  rw [h1, zN_d0 S i (by omega) (by omega), show decide ((5 : Int32) ≤ Int32.ofNat i) = decide (5 ≤ i) from zi_len (n := 5) (by omega) (by omega)]
  by_cases c : i = p
  · subst c
    rw [hp]
    by_cases c5 : 5 ≤ i
    · rw [decide_eq_true c5]
      refine ⟨hi, trivial, (fun h => by cases h), fun _ => ?_⟩
      show (bif true then Int32.ofNat i else (bif (!false) then Int32.ofNat i else Int32.ofNat i + (1 : Int32))) = _
      rw [zk_t]
    · rw [decide_eq_false c5]
      refine ⟨hi, trivial, (fun h => by cases h), fun _ => ?_⟩
      show (bif false then Int32.ofNat i else (bif (!false) then Int32.ofNat i else Int32.ofNat i + (1 : Int32))) = _
      rw [zk_f, Bool.not_false, zk_t]
  · rw [h0 i (by omega), decide_eq_false (show ¬ 5 ≤ i by omega)]
    refine ⟨hi, trivial, fun _ => ⟨by omega, ?_⟩, (fun h => by cases h)⟩
    show (bif false then Int32.ofNat i else (bif (!true) then Int32.ofNat i else Int32.ofNat i + (1 : Int32))) = _
    rw [zk_f, Bool.not_true, zk_f, zi_succ]
theorem zap_c {R R' : zMem} (h : R' 195 = R 195) (x y : Int32) : v_D_apart R' x y = v_D_apart R x y := by
  unfold v_D_apart v_D_allOf v_D_deedOf v_D_isPlain v_D_of v_D_ofKind
  rw [h]
theorem zq_ap {W R : zMem} {p q : Nat} (hS : zc_St W 4 (R 195)) (hp : p < 6) (hq : q < 6) : v_ji_bitCount ((v_S_deedsHad W 4 (Int32.ofNat p)) ^^^ (v_S_deedsHad W 4 (Int32.ofNat q))) = v_D_apart R (Int32.ofNat p) (Int32.ofNat q) ∧ zrg 0 31 (v_D_apart R (Int32.ofNat p) (Int32.ofNat q)) ∧ ok_D_apart R (Int32.ofNat p) (Int32.ofNat q) ∧ ok_S_deedsHad W 4 (Int32.ofNat p) ∧ ok_S_deedsHad W 4 (Int32.ofNat q) := by
  obtain ⟨a1, a2, a3, u, u1, u2, -⟩ := zh_dh hS hp
  obtain ⟨b1, b2, b3, v, v1, v2, -⟩ := zh_dh hS hq
  have hx : u ^^^ v < 256 := Nat.xor_lt_two_pow (n := 8) (by omega) (by omega)
  have e : v_D_apart R (Int32.ofNat p) (Int32.ofNat q) = v_D_bits (Int32.ofNat (u ^^^ v)) := by
    unfold v_D_apart
    rw [u2, v2, zN_xor]
  rw [a1, b1, e, u2, v2, zN_xor]
  refine ⟨zN_count ⟨?_, ?_⟩, ⟨?_, ?_⟩, ⟨a3, b3⟩, a2, b2⟩
  · rw [zi_val (by omega)]; omega
  · rw [zi_val (by omega)]; omega
  · rw [zN_bits (by omega), zi_val (by have := zpc_le2 (u ^^^ v) 31; omega)]; omega
  · have := zpc_le2 (u ^^^ v) 31
    rw [zN_bits (by omega), zi_val (by omega)]; omega
/-- the best of a set of people, out of the smaller sets -/
def zqM (d : Nat → Nat → Int32) (t : Nat → Int32) (L p : Nat) : Nat → Int32
  | 0 => t (L - 2 ^ p)
  | k + 1 => bif L.testBit (p + 1 + k) then v_D_greater (zqM d t L p k) (d p (p + 1 + k) + t (L - 2 ^ p - 2 ^ (p + 1 + k))) else zqM d t L p k
theorem zqM_c {d : Nat → Nat → Int32} {t t' : Nat → Int32} {L p : Nat} (hL : L ≠ 0) (h : ∀ x, x < L → t x = t' x) : ∀ k, zqM d t L p k = zqM d t' L p k
  | 0 => h _ (by have : 0 < 2 ^ p := Nat.pow_pos (by omega); omega)
  | k + 1 => by
    have : 0 < 2 ^ p := Nat.pow_pos (by omega)
    have : 0 < 2 ^ (p + 1 + k) := Nat.pow_pos (by omega)
    show (bif L.testBit (p + 1 + k) then v_D_greater (zqM d t L p k) (d p (p + 1 + k) + t (L - 2 ^ p - 2 ^ (p + 1 + k))) else zqM d t L p k) = (bif L.testBit (p + 1 + k) then v_D_greater (zqM d t' L p k) (d p (p + 1 + k) + t' (L - 2 ^ p - 2 ^ (p + 1 + k))) else zqM d t' L p k)
    rw [zqM_c hL h k, h _ (by omega)]
theorem zgr_i (a b : Int32) : v_D_greater a b = a ∨ v_D_greater a b = b := by
  unfold v_D_greater
  cases decide (a ≤ b) with
  | true => exact Or.inr (zk_t _ _)
  | false => exact Or.inl (zk_f _ _)
theorem zqM_n {d : Nat → Nat → Int32} {t : Nat → Int32} {L p : Nat} (hL : L ≠ 0) (hL6 : L < 64) (hd : ∀ q, q < 6 → zrg 0 31 (d p q)) (h : ∀ x, x < L → zrg 0 (31 * (x : Int)) (t x)) : ∀ k, p + 1 + k ≤ 6 → zrg 0 (31 * (L : Int)) (zqM d t L p k)
  | 0, _ => by
    have : 0 < 2 ^ p := Nat.pow_pos (by omega)
    have h9 := h (L - 2 ^ p) (by omega)
    show zrg 0 (31 * (L : Int)) (t (L - 2 ^ p))
    exact ⟨h9.1, by have := h9.2; omega⟩
  | k + 1, hk => by
    have : 0 < 2 ^ p := Nat.pow_pos (by omega)
    have : 0 < 2 ^ (p + 1 + k) := Nat.pow_pos (by omega)
    show zrg 0 (31 * (L : Int)) (bif L.testBit (p + 1 + k) then v_D_greater (zqM d t L p k) (d p (p + 1 + k) + t (L - 2 ^ p - 2 ^ (p + 1 + k))) else zqM d t L p k)
    have ih := zqM_n hL hL6 hd h k (by omega)
    cases L.testBit (p + 1 + k) with
    | false => rw [zk_f]; exact ih
    | true =>
      rw [zk_t]
      rcases zgr_i (zqM d t L p k) (d p (p + 1 + k) + t (L - 2 ^ p - 2 ^ (p + 1 + k))) with e | e
      · rw [e]; exact ih
      · rw [e]
        have h1 := hd (p + 1 + k) (by omega)
        have h2 := h (L - 2 ^ p - 2 ^ (p + 1 + k)) (by omega)
        obtain ⟨x1, x2⟩ := h1
        obtain ⟨y1, y2⟩ := h2
        have hb : ((L - 2 ^ p - 2 ^ (p + 1 + k) : Nat) : Int) + 1 ≤ L := by omega
        have es : (d p (p + 1 + k) + t (L - 2 ^ p - 2 ^ (p + 1 + k))).toInt = (d p (p + 1 + k)).toInt + (t (L - 2 ^ p - 2 ^ (p + 1 + k))).toInt := by
          rw [Int32.toInt_add, Int.bmod_eq_of_le (by omega) (by omega)]
        unfold zrg
        rw [es]
        exact ⟨by omega, by omega⟩
/-- a table of the best -/
def zqB (n : Nat) (d : Nat → Nat → Int32) (t : Nat → Int32) : Prop := t 0 = 0 ∧ ∀ L, L ≠ 0 → L < 2 ^ n → t L = zqM d t L (zpl L) (n - 1 - zpl L)
theorem zqB_n {n : Nat} {d : Nat → Nat → Int32} {t : Nat → Int32} (hn : n ≤ 6) (hd : ∀ p q, p < 6 → q < 6 → zrg 0 31 (d p q)) (hB : zqB n d t) (L : Nat) : L < 2 ^ n → zrg 0 (31 * (L : Int)) (t L) := by
  induction L using Nat.strongRecOn with
  | ind L ih =>
    intro hL
    have h64 := z264 hn
    by_cases h0 : L = 0
    · subst h0
      rw [hB.1]
      exact ⟨by decide, by decide⟩
    · have hp := (zq_t5 n (by omega) L hL).1 h0
      rw [hB.2 L h0 hL]
      exact zqM_n h0 (by omega) (fun q hq => hd _ q (by omega) hq) (fun x hx => ih x hx (by omega)) _ (by omega)
/-- a row of the reference's -/
theorem zq_d2 {M N R r : zMem} {n i : Nat} (hn : n ≤ 6) (hL : i + 1 < 2 ^ n) (h195 : r 195 = R 195) (h3 : R 195 3 = Int32.ofNat n) (hS : zc_St N 4 (R 195)) : ((zf_wh 1000 (g_D_allBest_2 M i r) 0 (Int32.ofNat (zpl (i + 1)) + (1 : Int32), zz_up r 203 (i + 1) (r 203 (i + 1 - 2 ^ zpl (i + 1))))).2 203 (i + 1) = zqM (fun p q => v_D_apart R (Int32.ofNat p) (Int32.ofNat q)) (r 203) (i + 1) (zpl (i + 1)) (n - 1 - zpl (i + 1)) ∧ ∀ a q, ¬ (a = 203 ∧ q = i + 1) → (zf_wh 1000 (g_D_allBest_2 M i r) 0 (Int32.ofNat (zpl (i + 1)) + (1 : Int32), zz_up r 203 (i + 1) (r 203 (i + 1 - 2 ^ zpl (i + 1))))).2 a q = r a q) ∧ zf_wk 1000 (g_D_allBest_2 M i r) (kb_D_allBest_2 M i r) 0 (Int32.ofNat (zpl (i + 1)) + (1 : Int32), zz_up r 203 (i + 1) (r 203 (i + 1 - 2 ^ zpl (i + 1)))) := by
  have h64 := z264 hn
  obtain ⟨t1, t2, t3⟩ := zq_t1 (i + 1) (by omega) (by omega)
  have tn := (zq_t5 n (by omega) (i + 1) hL).1 (by omega)
  obtain ⟨low, -⟩ := zq_low (L := i + 1) (by omega) t1 t2 t3
  obtain ⟨u1, u2, u3, u4⟩ := zq_t2 (i + 1) (by omega) (zpl (i + 1)) t1 t2
  generalize zpl (i + 1) = p at t1 t2 t3 tn low u1 u2 u3 u4 ⊢
  refine zf_wq (g := g_D_allBest_2 M i r) (k := kb_D_allBest_2 M i r) (fun k (s : Int32 × zMem) => k ≤ n - 1 - p ∧ s.1 = Int32.ofNat (p + 1 + k) ∧ s.2 203 (i + 1) = zqM (fun p q => v_D_apart R (Int32.ofNat p) (Int32.ofNat q)) (r 203) (i + 1) p k ∧ ∀ a q, ¬ (a = 203 ∧ q = i + 1) → s.2 a q = r a q) (fun (s : Int32 × zMem) => s.2 203 (i + 1) = zqM (fun p q => v_D_apart R (Int32.ofNat p) (Int32.ofNat q)) (r 203) (i + 1) p (n - 1 - p) ∧ ∀ a q, ¬ (a = 203 ∧ q = i + 1) → s.2 a q = r a q) (n - 1 - p) (fun k s ⟨hk, h1, h2, hf⟩ => ?_) 1000 0 _ ⟨by omega, zi_succ p, (show zz_up r 203 (i + 1) (r 203 (i + 1 - 2 ^ p)) 203 (i + 1) = r 203 (i + 1 - 2 ^ p) from zu_at rfl rfl), fun a q h => zu_o h⟩ (by omega)
  have s195 : s.2 195 = R 195 := by rw [← h195]; exact funext fun q => hf 195 q (by omega)
  have ec : decide ((s.2 195 3) ≤ s.1) = decide (n ≤ p + 1 + k) := by
    rw [s195, h3, h1]; exact zi_le (by omega) (by omega)
  by_cases hc : n ≤ p + 1 + k
  · rw [decide_eq_true hc] at ec
    have eg : g_D_allBest_2 M i r k s = (false, (s.1, s.2)) := by
      unfold g_D_allBest_2
      rw [ec, zk_t, zk_t, zk_t]
    have ek : kb_D_allBest_2 M i r k s := by
      unfold kb_D_allBest_2
      rw [ec]
      exact fun h => by cases h
    rw [eg]
    refine ⟨hk, ek, (fun h => by cases h), fun _ => ⟨?_, hf⟩⟩
    show s.2 203 (i + 1) = _
    rw [h2, show k = n - 1 - p by omega]
  · rw [decide_eq_false hc] at ec
    have eE : (Int32.ofNat (i + 1)) &&& ((zsl (1 : Int32) (v_D_lowest (Int32.ofNat (i + 1)))) ^^^ (-1 : Int32)) = Int32.ofNat (i + 1 - 2 ^ p) := by
      rw [low]; exact u2
    have hl1 : i + 1 - 2 ^ p < 64 := Nat.lt_of_le_of_lt (Nat.sub_le _ _) (by omega)
    have hl2 : i + 1 - 2 ^ p - 2 ^ (p + 1 + k) < 64 := Nat.lt_of_le_of_lt (Nat.sub_le _ _) hl1
    have eo : v_D_isOf (Int32.ofNat (i + 1 - 2 ^ p)) s.1 = (i + 1).testBit (p + 1 + k) := by
      rw [h1, zN_isOf (Nat.lt_trans hl1 (by omega)) (by omega)]
      exact u4 _ (by omega) (by omega)
    have hS2 : zc_St N 4 (s.2 195) := by rw [s195]; exact hS
    obtain ⟨-, -, okA, -⟩ := zq_ap (p := p) (q := p + 1 + k) hS2 (by omega) (by omega)
    have ei : (Int32.ofNat (i + 1)).toNatClampNeg = i + 1 := zi_nat (by omega)
    have es : s.1 + (1 : Int32) = Int32.ofNat (p + 1 + (k + 1)) := by rw [h1, zi_succ]; rfl
    cases hb : (i + 1).testBit (p + 1 + k) with
    | false =>
      rw [hb] at eo
      have eg : g_D_allBest_2 M i r k s = (true, (s.1 + (1 : Int32), s.2)) := by
        unfold g_D_allBest_2
        rw [ec, eE, eo, zk_f, zk_f, zk_f, zk_f]
      have ek : kb_D_allBest_2 M i r k s := by
        unfold kb_D_allBest_2
        rw [eE, eo]
        exact fun _ h => by cases h
      rw [eg]
      refine ⟨hk, ek, fun _ => ⟨by omega, es, ?_, hf⟩, (fun h => by cases h)⟩
      show s.2 203 (i + 1) = (bif (i + 1).testBit (p + 1 + k) then _ else _)
      rw [hb, zk_f]
      exact h2
    | true =>
      rw [hb] at eo
      have hx : (i + 1 - 2 ^ p).testBit (p + 1 + k) = true := by rw [u4 _ (by omega) (by omega)]; exact hb
      obtain ⟨v1, v2, -⟩ := zq_t2 (i + 1 - 2 ^ p) hl1 (p + 1 + k) (by omega) hx
      have eF : (Int32.ofNat (i + 1 - 2 ^ p)) &&& ((zsl (1 : Int32) s.1) ^^^ (-1 : Int32)) = Int32.ofNat (i + 1 - 2 ^ p - 2 ^ (p + 1 + k)) := by rw [h1]; exact v2
      have ea : v_D_apart s.2 (v_D_lowest (Int32.ofNat (i + 1))) s.1 = v_D_apart R (Int32.ofNat p) (Int32.ofNat (p + 1 + k)) := by
        rw [low, h1]; exact zap_c s195 _ _
      have hpp : 0 < 2 ^ p := Nat.pow_pos (by omega)
      have hl3 : i + 1 - 2 ^ p - 2 ^ (p + 1 + k) < i + 1 := Nat.lt_of_le_of_lt (Nat.sub_le _ _) (by omega)
      have eg : g_D_allBest_2 M i r k s = (true, (s.1 + (1 : Int32), zz_up s.2 203 (i + 1) (v_D_greater (s.2 203 (i + 1)) (v_D_apart R (Int32.ofNat p) (Int32.ofNat (p + 1 + k)) + s.2 203 (i + 1 - 2 ^ p - 2 ^ (p + 1 + k)))))) := by
        unfold g_D_allBest_2
        rw [ea, eE, eF, ec, eo, zk_f, zk_f, zk_f, zk_t, ei, zi_nat (Nat.lt_trans hl2 (by omega))]
      have ek : kb_D_allBest_2 M i r k s := by
        unfold kb_D_allBest_2
        rw [eE, eF, low, h1]
        exact fun _ _ => ⟨zi_in (by omega) (by omega), okA, zi_in hl2 (by omega)⟩
      rw [eg]
      refine ⟨hk, ek, fun _ => ⟨by omega, es, ?_, fun a q h => ?_⟩, (fun h => by cases h)⟩
      · show zz_up s.2 203 (i + 1) (v_D_greater (s.2 203 (i + 1)) (v_D_apart R (Int32.ofNat p) (Int32.ofNat (p + 1 + k)) + s.2 203 (i + 1 - 2 ^ p - 2 ^ (p + 1 + k)))) 203 (i + 1) = (bif (i + 1).testBit (p + 1 + k) then v_D_greater (zqM (fun p q => v_D_apart R (Int32.ofNat p) (Int32.ofNat q)) (r 203) (i + 1) p k) (v_D_apart R (Int32.ofNat p) (Int32.ofNat (p + 1 + k)) + r 203 (i + 1 - 2 ^ p - 2 ^ (p + 1 + k))) else zqM (fun p q => v_D_apart R (Int32.ofNat p) (Int32.ofNat q)) (r 203) (i + 1) p k)
        rw [hb, zk_t, zu_at rfl rfl, h2, hf 203 _ (fun h => Nat.ne_of_lt hl3 h.2)]
      · show zz_up s.2 203 (i + 1) _ a q = r a q
        rw [zu_o h]; exact hf a q h
/-- the reference's table -/
theorem zq_dt {N R : zMem} {n : Nat} (hn : n ≤ 6) (h3 : R 195 3 = Int32.ofNat n) (hS : zc_St N 4 (R 195)) : (zqB n (fun p q => v_D_apart R (Int32.ofNat p) (Int32.ofNat q)) ((w_D_allBest R) 203) ∧ ∀ a q, a ≠ 203 → (w_D_allBest R) a q = R a q) ∧ ok_D_allBest R := by
  have h64 := z264 hn
  have hpos : 0 < 2 ^ n := Nat.pow_pos (by omega)
  unfold w_D_allBest ok_D_allBest
  refine zf_wq (g := g_D_allBest_1 R) (k := kb_D_allBest_1 R) (fun i (r : zMem) => i + 1 ≤ 2 ^ n ∧ (r 203 0 = 0 ∧ ∀ L, L ≠ 0 → L < i + 1 → r 203 L = zqM (fun p q => v_D_apart R (Int32.ofNat p) (Int32.ofNat q)) (r 203) L (zpl L) (n - 1 - zpl L)) ∧ ∀ a q, a ≠ 203 → r a q = R a q) (fun (r : zMem) => zqB n (fun p q => v_D_apart R (Int32.ofNat p) (Int32.ofNat q)) (r 203) ∧ ∀ a q, a ≠ 203 → r a q = R a q) (2 ^ n) (fun i r ⟨hi, ⟨h0, h1⟩, hf⟩ => ?_) 1000 0 _ ⟨by omega, ⟨zu_at rfl rfl, fun L a b => by omega⟩, fun a q h => zu_o (by omega)⟩ (by omega)
  have r195 : r 195 = R 195 := funext fun q => hf 195 q (by omega)
  have ez : zsl (1 : Int32) (r 195 3) = Int32.ofNat (2 ^ n) := by
    rw [r195, h3, zN_sl1 n (by omega), Nat.one_shiftLeft]
  have ec : decide ((zsl (1 : Int32) (r 195 3)) ≤ (Int32.ofNat (i + 1))) = decide (2 ^ n ≤ i + 1) := by
    rw [ez]; exact zi_le (by omega) (by omega)
  by_cases hc : 2 ^ n ≤ i + 1
  · rw [decide_eq_true hc] at ec
    have eg : g_D_allBest_1 R i r = (false, r) := by
      unfold g_D_allBest_1
      rw [ec, zk_t, zk_t]
    have ek : kb_D_allBest_1 R i r := by
      unfold kb_D_allBest_1
      rw [ec]
      exact fun h => by cases h
    rw [eg]
    exact ⟨by omega, ek, (fun h => by cases h), fun _ => ⟨⟨h0, fun L a b => h1 L a (by omega)⟩, hf⟩⟩
  · rw [decide_eq_false hc] at ec
    obtain ⟨t1, t2, t3⟩ := zq_t1 (i + 1) (by omega) (by omega)
    obtain ⟨low, lok⟩ := zq_low (L := i + 1) (by omega) t1 t2 t3
    obtain ⟨u1, u2, -⟩ := zq_t2 (i + 1) (by omega) (zpl (i + 1)) t1 t2
    have eE : (Int32.ofNat (i + 1)) &&& ((zsl (1 : Int32) (v_D_lowest (Int32.ofNat (i + 1)))) ^^^ (-1 : Int32)) = Int32.ofNat (i + 1 - 2 ^ zpl (i + 1)) := by
      rw [low]; exact u2
    have hlt : i + 1 - 2 ^ zpl (i + 1) < 64 := Nat.lt_of_le_of_lt (Nat.sub_le _ _) (by omega)
    have ei : (Int32.ofNat (i + 1)).toNatClampNeg = i + 1 := zi_nat (by omega)
    have ej : (Int32.ofNat (i + 1 - 2 ^ zpl (i + 1))).toNatClampNeg = i + 1 - 2 ^ zpl (i + 1) := zi_nat (Nat.lt_trans hlt (by omega))
    obtain ⟨⟨q1, q2⟩, q3⟩ := zq_d2 (M := R) (r := r) (i := i) hn (by omega) r195 h3 hS
    have eg : g_D_allBest_1 R i r = (true, (zf_wh 1000 (g_D_allBest_2 R i r) 0 (Int32.ofNat (zpl (i + 1)) + (1 : Int32), zz_up r 203 (i + 1) (r 203 (i + 1 - 2 ^ zpl (i + 1))))).2) := by
      unfold g_D_allBest_1
      rw [ec, eE, low, ei, ej, zk_f, zk_f]
    have ek : kb_D_allBest_1 R i r := by
      unfold kb_D_allBest_1
      rw [eE, low, ei, ej]
      exact fun _ => ⟨lok, zi_in hlt (by omega), zi_in (by omega) (by omega), q3⟩
    rw [eg]
    generalize (zf_wh 1000 (g_D_allBest_2 R i r) 0 (Int32.ofNat (zpl (i + 1)) + (1 : Int32), zz_up r 203 (i + 1) (r 203 (i + 1 - 2 ^ zpl (i + 1))))).2 = r' at q1 q2
    refine ⟨by omega, ek, fun _ => ⟨by omega, ⟨?_, fun L a b => ?_⟩, fun a q h => ?_⟩, (fun h => by cases h)⟩
    · show r' 203 0 = 0
      rw [q2 203 0 (by omega)]; exact h0
    · show r' 203 L = zqM _ (r' 203) L (zpl L) (n - 1 - zpl L)
      rw [zqM_c (t := r' 203) (t' := r 203) a (fun x hx => q2 203 x (by omega))]
      by_cases e : L = i + 1
      · rw [e]; exact q1
      · rw [q2 203 L (by omega)]; exact h1 L a (by omega)
    · show r' a q = R a q
      rw [q2 a q (by omega)]; exact hf a q h
