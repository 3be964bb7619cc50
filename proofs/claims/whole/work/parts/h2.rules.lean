/-! RULES: pairs as bits of a long; calls 23, 24, 25 -/
def zLb (F : Int64) (j : Nat) : Bool := F.toBitVec.toNat.testBit j
theorem zLb_or (F G : Int64) (j : Nat) : zLb (F ||| G) j = (zLb F j || zLb G j) := by
  unfold zLb
  rw [Int64.toBitVec_or, BitVec.toNat_or, Nat.testBit_or]
theorem zLb_and (F G : Int64) (j : Nat) : zLb (F &&& G) j = (zLb F j && zLb G j) := by
  unfold zLb
  rw [Int64.toBitVec_and, BitVec.toNat_and, Nat.testBit_and]
theorem zLb_of {x j : Nat} (hx : x < 18446744073709551616) : zLb (Int64.ofNat x) j = x.testBit j := by
  unfold zLb
  rw [zM_bv, BitVec.toNat_ofNat, Nat.mod_eq_of_lt (by omega)]
theorem zll1 : ∀ q, q < 64 → zll (Int64.ofNat 1) (Int32.ofNat q) = Int64.ofNat (2 ^ q) := by decide +kernel
def zRq (k d a : Nat) : Nat := 8 * a + (d + 64 - a * k) % 8
theorem zRq_i : ∀ a, a < 8 → ∀ k, k < 8 → ∀ d, d < 8 → ((8 : Int32) * (Int32.ofNat a)) + ((Int32.ofNat d - ((Int32.ofNat a) * Int32.ofNat k)) &&& (7 : Int32)) = Int32.ofNat (zRq k d a) ∧ zRq k d a < 64 := by decide +kernel
def zRa (k d p : Nat) : Nat → Bool
  | 0 => false
  | n + 1 => zRa k d p n || decide (zRq k d n = p)
theorem zRu : ∀ p, p < 64 → ∀ k, k < 8 → v_D_ruled (Int32.ofNat p) (Int32.ofNat k) = Int32.ofNat ((p / 8 * k + p % 8) % 8) := by decide +kernel
theorem zRa_8 : ∀ p, p < 64 → ∀ k, k < 8 → ∀ d, d < 8 → zRa k d p 8 = decide ((p / 8 * k + p % 8) % 8 = d) := by decide +kernel
theorem zRn {F : Int64} {k d p : Nat} (hk : k < 8) (hd : d < 8) (hp : p < 64) : zLb (v_U_narrowed F (Int32.ofNat k) (Int32.ofNat d)) p = (zLb F p && decide (v_D_ruled (Int32.ofNat p) (Int32.ofNat k) = Int32.ofNat d)) := by
  have key : ∀ n, n ≤ 8 → zLb (zf_for n (f_U_narrowed_1 F (Int32.ofNat k) (Int32.ofNat d)) (Int64.ofNat 0)) p = (zLb F p && zRa k d p n) := by
    intro n
    induction n with
    | zero =>
      intro _
      show zLb (Int64.ofNat 0) p = (zLb F p && false)
      rw [zLb_of (by omega), Nat.zero_testBit, Bool.and_false]
    | succ n ih =>
      intro hn
      show zLb (f_U_narrowed_1 F (Int32.ofNat k) (Int32.ofNat d) n (zf_for n (f_U_narrowed_1 F (Int32.ofNat k) (Int32.ofNat d)) (Int64.ofNat 0))) p = (zLb F p && (zRa k d p n || decide (zRq k d n = p)))
      have e := ih (by omega)
      generalize zf_for n (f_U_narrowed_1 F (Int32.ofNat k) (Int32.ofNat d)) (Int64.ofNat 0) = Z at e ⊢
      unfold f_U_narrowed_1
      obtain ⟨q1, q2⟩ := zRq_i n (by omega) k hk d hd
      have hp2 : 2 ^ zRq k d n < 2 ^ 64 := Nat.pow_lt_pow_right (by omega) q2
      rw [q1, zll1 _ q2, zLb_or, zLb_and, e, zLb_of (by exact hp2), Nat.testBit_two_pow, Bool.and_or_distrib_left]
  have e := key 8 (Nat.le_refl 8)
  rw [zRa_8 p hp k hk d hd] at e
  rw [zRu p hp k hk, zN_eq (by omega) (by omega)]
  exact e
def zFt (B : Nat → Int32) (p : Nat) : Nat → Bool
  | 0 => true
  | j + 1 => zFt B p j && decide (v_D_ruled (Int32.ofNat p) (B (2 * j)) = B (2 * j + 1))
theorem zF_all {p : Nat} (hp : p < 64) : zLb (Int64.ofNat 18446744073709551615) p = true := by
  rw [zLb_of (by omega), show (18446744073709551615 : Nat) = 2 ^ 64 - 1 from rfl, Nat.testBit_two_pow_sub_one]
  exact decide_eq_true hp
theorem zR_fit {N : zMem} {n : Nat} (hn : n ≤ 20) (hB : ∀ i, i < 400 → zrg 0 255 (N 3 i)) (hg : zRG (N 3) 8 8 n) : (∀ p, p < 64 → zLb (v_U_fittingRows N (Int32.ofNat (2 * n))) p = zFt (N 3) p n) ∧ ok_U_fittingRows N (Int32.ofNat (2 * n)) := by
  unfold v_U_fittingRows ok_U_fittingRows
  refine zf_wq (g := g_U_fittingRows_1 N (Int32.ofNat (2 * n))) (k := kb_U_fittingRows_1 N (Int32.ofNat (2 * n))) (fun i (s : Int64 × Int32) => i ≤ n ∧ s.2 = Int32.ofNat (2 * i) ∧ ∀ p, p < 64 → zLb s.1 p = zFt (N 3) p i) (fun (s : Int64 × Int32) => ∀ p, p < 64 → zLb s.1 p = zFt (N 3) p n) n (fun i s ⟨hi, h1, h2⟩ => ?_) 1000 0 ((Int64.ofNat 18446744073709551615), (0 : Int32)) ⟨by omega, rfl, fun p hp => zF_all hp⟩ (by omega)
  obtain ⟨a1, a2⟩ := zby_at (N := N) (i := 2 * i) (by omega)
  obtain ⟨b1, b2⟩ := zby_at (N := N) (i := 2 * i + 1) (by omega)
  unfold g_U_fittingRows_1 kb_U_fittingRows_1
  rw [h1, zi_succ (2 * i), zad2 (2 * i), a1, b1, zi_le (by omega) (by omega)]
  by_cases c : i = n
  · subst c
    rw [decide_eq_true (show 2 * i ≤ 2 * i + 1 by omega)]
    exact ⟨hi, (fun h => by cases h), (fun h => by cases h), fun _ => h2⟩
  · rw [decide_eq_false (show ¬ 2 * n ≤ 2 * i + 1 by omega)]
    refine ⟨hi, fun _ => ⟨a2, b2⟩, fun _ => ⟨by omega, ?_, fun p hp => ?_⟩, (fun h => by cases h)⟩
    · show (bif false then Int32.ofNat (2 * i) else Int32.ofNat (2 * i + 2)) = _
      rw [zk_f, show 2 * i + 2 = 2 * (i + 1) by omega]
    · show zLb (bif false then s.1 else v_U_narrowed s.1 (N 3 (2 * i)) (N 3 (2 * i + 1))) p = (zFt (N 3) p i && decide (v_D_ruled (Int32.ofNat p) (N 3 (2 * i)) = N 3 (2 * i + 1)))
      obtain ⟨g1, g2⟩ := hg i (by omega)
      have e8 : (8 : Int32).toInt = 8 := rfl
      obtain ⟨u, u1, u2, -⟩ := zr_ex (hB (2 * i) (by omega))
      obtain ⟨v, v1, v2, -⟩ := zr_ex (hB (2 * i + 1) (by omega))
      rw [u2, zi_val (by omega)] at g1
      rw [v2, zi_val (by omega)] at g2
      rw [zk_f, u2, v2, zRn (by omega) (by omega) hp, h2 p hp]
theorem zR_h1 {N : zMem} {n : Nat} (hn : n ≤ 20) (h8 : N 194 8 = Int32.ofNat (2 * n)) (hB : ∀ i, i < 400 → zrg 0 255 (N 199 i)) : (zf_wh 1000 (g_D_heard_1 N) 0 true = true ↔ zRG (N 199) 8 8 n) ∧ zf_wk 1000 (g_D_heard_1 N) (kb_D_heard_1 N) 0 true := by
  have q := zf_wq (g := g_D_heard_1 N) (k := kb_D_heard_1 N) (fun i (b : Bool) => i ≤ 2 * n ∧ (b = true ↔ ∀ j, j < i → (N 199 j).toInt < 8)) (fun (b : Bool) => (b = true ↔ ∀ j, j < 2 * n → (N 199 j).toInt < 8)) (2 * n) (fun i b ⟨hi, h2⟩ => ?_) 1000 0 true ⟨by omega, fun _ j hj => by omega, fun _ => rfl⟩ (by omega)
  · refine ⟨q.1.trans ⟨fun h j hj => ⟨h (2 * j) (by omega), h (2 * j + 1) (by omega)⟩, fun h j hj => ?_⟩, q.2⟩
    have e8 : (8 : Int32).toInt = 8 := rfl
    have hh := h (j / 2) (by omega)
    rcases (show j = 2 * (j / 2) ∨ j = 2 * (j / 2) + 1 by omega) with e | e
    · rw [e]; have := hh.1; omega
    · rw [e]; have := hh.2; omega
  · unfold g_D_heard_1 kb_D_heard_1
    rw [h8, zi_le (by omega) (by omega), zi_nat (by omega)]
    by_cases c : i = 2 * n
    · subst c
      rw [decide_eq_true (Nat.le_refl _)]
      exact ⟨hi, (fun h => by cases h), (fun h => by cases h), fun _ => h2⟩
    · rw [decide_eq_false (show ¬ 2 * n ≤ i by omega)]
      cases b with
      | false =>
        refine ⟨hi, (fun _ h => by cases h), (fun h => by cases h), fun _ => ⟨(fun h => by cases h), fun h => ?_⟩⟩
        exact absurd (h2.mpr (fun j hj => h j (by omega))) (by decide)
      | true =>
        refine ⟨hi, fun _ _ => zi_in (by omega) (by omega), fun _ => ⟨by omega, ?_⟩, (fun h => by cases h)⟩
        show (bif false then true else (bif true then v_D_isIn (N 199 i) (0 : Int32) (7 : Int32) else true)) = true ↔ _
        rw [zk_f, zk_t, zg_in]
        have e0 : (0 : Int32).toInt = 0 := rfl
        have e7 : (7 : Int32).toInt = 7 := rfl
        rw [e0, e7]
        have hr := (hB i (by omega)).1
        refine ⟨fun h j hj => ?_, fun h => decide_eq_true ?_⟩
        · have := of_decide_eq_true h
          by_cases e : j = i
          · subst e; omega
          · exact h2.mp rfl j (by omega)
        · have := h i (by omega)
          omega
theorem zR_h0 (N : zMem) : zf_wh 1000 (g_D_heard_1 N) 0 false = false ∧ zf_wk 1000 (g_D_heard_1 N) (kb_D_heard_1 N) 0 false := by
  have e : g_D_heard_1 N 0 false = (false, false) := by
    unfold g_D_heard_1
    cases decide (N 194 8 ≤ Int32.ofNat 0) <;> rfl
  exact ⟨zf_w0 (n := 999) e, zf_k0 e (fun _ h => by cases h)⟩
/-- one pair: all rows -/
theorem zR_h3 {N a : zMem} {n i : Nat} (hn : n ≤ 20) (hi : i < 64) (h8 : N 194 8 = Int32.ofNat (2 * n)) : ((zf_wh 1000 (g_D_heard_3 N i a) 0 ((0 : Int32), zz_up a 201 i (1 : Int32))).2 201 i = zb (zFt (a 199) i n) ∧ (∀ b q, ¬ (b = 201 ∧ q = i) → (zf_wh 1000 (g_D_heard_3 N i a) 0 ((0 : Int32), zz_up a 201 i (1 : Int32))).2 b q = a b q)) ∧ zf_wk 1000 (g_D_heard_3 N i a) (kb_D_heard_3 N i a) 0 ((0 : Int32), zz_up a 201 i (1 : Int32)) := by
  refine zf_wq (g := g_D_heard_3 N i a) (k := kb_D_heard_3 N i a) (fun j (s : Int32 × zMem) => j ≤ n ∧ s.1 = Int32.ofNat (2 * j) ∧ s.2 201 i = zb (zFt (a 199) i j) ∧ ∀ b q, ¬ (b = 201 ∧ q = i) → s.2 b q = a b q) (fun (s : Int32 × zMem) => s.2 201 i = zb (zFt (a 199) i n) ∧ ∀ b q, ¬ (b = 201 ∧ q = i) → s.2 b q = a b q) n (fun j s ⟨hj, h1, h2, h3⟩ => ?_) 1000 0 ((0 : Int32), zz_up a 201 i (1 : Int32)) ⟨by omega, rfl, (show zz_up a 201 i (1 : Int32) 201 i = (1 : Int32) from zu_at rfl rfl), fun b q hh => zu_o hh⟩ (by omega)
  unfold g_D_heard_3 kb_D_heard_3
  rw [h1, h8, zi_succ (2 * j), zad2 (2 * j), zi_nat (show i < 2147483648 by omega), zi_nat (show 2 * j < 2147483648 by omega), zi_nat (show 2 * j + 1 < 2147483648 by omega), zi_le (by omega) (by omega)]
  by_cases c : j = n
  · subst c
    rw [decide_eq_true (Nat.le_refl _)]
    exact ⟨hj, (fun h => by cases h), (fun h => by cases h), fun _ => ⟨h2, h3⟩⟩
  · rw [decide_eq_false (show ¬ 2 * n ≤ 2 * j by omega)]
    refine ⟨hj, fun _ => ⟨zi_in (by omega) (by omega), fun _ => ⟨zi_in (by omega) (by omega), zi_in (by omega) (by omega)⟩⟩, fun _ => ⟨by omega, ?_, ?_, fun b q hbq => ?_⟩, (fun h => by cases h)⟩
    · show (bif false then Int32.ofNat (2 * j) else Int32.ofNat (2 * j + 2)) = _
      rw [zk_f, show 2 * j + 2 = 2 * (j + 1) by omega]
    · show (bif false then s.2 else zz_up s.2 201 i (zb (bif decide (s.2 201 i = 0) then false else decide (v_D_ruled (Int32.ofNat i) (s.2 199 (2 * j)) = s.2 199 (2 * j + 1))))) 201 i = zb (zFt (a 199) i j && decide (v_D_ruled (Int32.ofNat i) (a 199 (2 * j)) = a 199 (2 * j + 1)))
      rw [zk_f, zu_at rfl rfl, h3 199 _ (by omega), h3 199 _ (by omega), h2]
      cases zFt (a 199) i j <;> rfl
    · show (bif false then s.2 else zz_up s.2 201 i (zb (bif decide (s.2 201 i = 0) then false else decide (v_D_ruled (Int32.ofNat i) (s.2 199 (2 * j)) = s.2 199 (2 * j + 1))))) b q = a b q
      rw [zk_f, zu_o hbq]
      exact h3 b q hbq
theorem zR_h2 {N : zMem} {n : Nat} (hn : n ≤ 20) (h8 : N 194 8 = Int32.ofNat (2 * n)) (hv : v_D_heard N = true) : ((∀ p, p < 64 → (w_D_heard N) 201 p = zb (zFt (N 199) p n)) ∧ (∀ b q, ¬ b = 201 → (w_D_heard N) b q = zz_up N 194 8 0 b q)) ∧ zf_wk 1000 (g_D_heard_2 N) (kb_D_heard_2 N) 0 (zz_up N 194 8 (0 : Int32)) := by
  unfold w_D_heard
  unfold v_D_heard at hv
  refine zf_wq (g := g_D_heard_2 N) (k := kb_D_heard_2 N) (fun i (a : zMem) => i ≤ 64 ∧ (∀ p, p < i → a 201 p = zb (zFt (N 199) p n)) ∧ ∀ b q, ¬ b = 201 → a b q = zz_up N 194 8 0 b q) (fun (a : zMem) => (∀ p, p < 64 → a 201 p = zb (zFt (N 199) p n)) ∧ ∀ b q, ¬ b = 201 → a b q = zz_up N 194 8 0 b q) 64 (fun i a ⟨hi, h1, h2⟩ => ?_) 1000 0 (zz_up N 194 8 (0 : Int32)) ⟨by omega, fun p hp => by omega, fun b q _ => rfl⟩ (by omega)
  unfold g_D_heard_2 kb_D_heard_2
  rw [hv, zi_nat (show i < 2147483648 by omega), show decide ((64 : Int32) ≤ Int32.ofNat i) = decide (64 ≤ i) from zi_len (n := 64) (by omega) (by omega)]
  by_cases c : 64 ≤ i
  · have e : i = 64 := by omega
    subst e
    rw [decide_eq_true c]
    exact ⟨hi, (fun h => by cases h), (fun h => by cases h), fun _ => ⟨h1, h2⟩⟩
  · rw [decide_eq_false c]
    obtain ⟨⟨q1, q2⟩, q3⟩ := zR_h3 (N := N) (a := a) hn (show i < 64 by omega) h8
    have e199 : a 199 = N 199 := by
      funext q
      rw [h2 199 q (by omega)]
      exact zu_o (by omega)
    rw [e199] at q1
    refine ⟨hi, fun _ _ => ⟨zi_in (by omega) (by omega), q3⟩, fun _ => ⟨by omega, fun p hp => ?_, fun b q hb => ?_⟩, (fun h => by cases h)⟩
    · show (bif false then a else (bif true then (zf_wh 1000 (g_D_heard_3 N i a) 0 ((0 : Int32), zz_up a 201 i (1 : Int32))).2 else a)) 201 p = _
      rw [zk_f, zk_t]
      by_cases e : p = i
      · subst e; exact q1
      · rw [q2 201 p (by omega)]; exact h1 p (by omega)
    · show (bif false then a else (bif true then (zf_wh 1000 (g_D_heard_3 N i a) 0 ((0 : Int32), zz_up a 201 i (1 : Int32))).2 else a)) b q = _
      rw [zk_f, zk_t, q2 b q (by omega)]
      exact h2 b q hb
theorem zR_h4 {N : zMem} (hv : v_D_heard N = false) : w_D_heard N = zz_up N 194 8 0 ∧ zf_wk 1000 (g_D_heard_2 N) (kb_D_heard_2 N) 0 (zz_up N 194 8 (0 : Int32)) := by
  unfold w_D_heard
  unfold v_D_heard at hv
  have e : g_D_heard_2 N 0 (zz_up N 194 8 (0 : Int32)) = (false, zz_up N 194 8 (0 : Int32)) := by
    unfold g_D_heard_2
    rw [hv]
    cases decide ((64 : Int32) ≤ Int32.ofNat 0) <;> simp only [zk_t, zk_f]
  refine ⟨zf_w0 (n := 999) e, zf_k0 e (fun _ h => ?_)⟩
  rw [hv] at h
  cases h
theorem zL_tst (F : Int64) {p : Nat} (hp : p < 64) : decide ((lg_cmp ((zlu F (Int32.ofNat p)) &&& (Int64.ofNat 1)) (Int64.ofNat 0)) = 0) = !zLb F p := by
  obtain ⟨hx, eF⟩ := zM_rep F
  unfold zLb
  have e : (zlu F (Int32.ofNat p)) &&& (Int64.ofNat 1) = Int64.ofNat (F.toBitVec.toNat.testBit p).toNat := by
    rw [Nat.toNat_testBit]
    generalize F.toBitVec.toNat = x at hx eF ⊢
    rw [eF, zM_lu hx hp, zM_and, Nat.and_one_is_mod, Nat.shiftRight_eq_div_pow]
  rw [e]
  cases F.toBitVec.toNat.testBit p
  · decide
  · decide
/-- the first pair: both sides -/
theorem zR_first {F : Int64} {R : zMem} (h : ∀ p, p < 64 → R 201 p = zb (zLb F p)) : v_U_first F = v_D_firstFit R ∧ ok_U_first F ∧ ok_D_firstFit R := by
  have key : ∀ i (s : Bool × Int32), i ≤ 64 → g_U_first_1 F i s = g_D_firstFit_1 R i s ∧ kb_D_firstFit_1 R i s ∧ ((g_U_first_1 F i s).1 = true → i + 1 ≤ 64) := by
    intro i s hi
    unfold g_U_first_1 g_D_firstFit_1 kb_D_firstFit_1
    rw [zi_nat (by omega), show decide ((64 : Int32) ≤ Int32.ofNat i) = decide (64 ≤ i) from zi_len (n := 64) (by omega) (by omega)]
    by_cases c : 64 ≤ i
    · rw [decide_eq_true c]
      exact ⟨by simp only [zk_t], (fun h => by cases h), (fun h => by cases h)⟩
    · rw [decide_eq_false c, zL_tst F (by omega), h i (by omega)]
      have e : decide (zb (zLb F i) = 0) = !zLb F i := by cases zLb F i <;> rfl
      rw [e]
      exact ⟨rfl, fun _ => zi_in (by omega) (by omega), fun _ => by omega⟩
  have l1 := zf_wcg (fun i (s : Bool × Int32) => i ≤ 64) (fun i s hh => ⟨(key i s hh).1, (key i s hh).2.2⟩) 1000 0 (false, (0 : Int32)) (by omega)
  have l2 := zf_wke (g := g_U_first_1 F) (k := kb_U_first_1 F) (fun i (s : Bool × Int32) => i ≤ 64) 64 (fun i s hh => hh) (fun i s hh => ⟨trivial, (key i s hh).2.2⟩) 1000 0 (false, (0 : Int32)) (by omega) (by omega)
  have l3 := zf_wke (g := g_D_firstFit_1 R) (k := kb_D_firstFit_1 R) (fun i (s : Bool × Int32) => i ≤ 64) 64 (fun i s hh => hh) (fun i s hh => ⟨(key i s hh).2.1, by rw [← (key i s hh).1]; exact (key i s hh).2.2⟩) 1000 0 (false, (0 : Int32)) (by omega) (by omega)
  refine ⟨?_, l2, l3⟩
  unfold v_U_first v_D_firstFit
  rw [l1]
/-- sums of tests -/
theorem zcnt {F : Int64} {f : Nat → Int32 → Int32} (h : ∀ i a, i < 64 → f i a = a + zb (zLb F i)) : zf_for 64 f (0 : Int32) = v_jl_bitCount F := by
  rw [(zM_cnt F).1]
  have key : ∀ n, n ≤ 64 → zf_for n f (0 : Int32) = Int32.ofNat (zpc F.toBitVec.toNat n) := by
    intro n
    induction n with
    | zero => intro _; rfl
    | succ n ih =>
      intro hn
      show f n (zf_for n f (0 : Int32)) = Int32.ofNat (zpc F.toBitVec.toNat n + ((F.toBitVec.toNat >>> n) &&& 1))
      rw [ih (by omega), h n _ (by omega), Int32.ofNat_add, Nat.and_one_is_mod, Nat.shiftRight_eq_div_pow, ← Nat.toNat_testBit]
      unfold zLb
      cases F.toBitVec.toNat.testBit n <;> rfl
  exact key 64 (Nat.le_refl _)
theorem zR_many {F : Int64} {R : zMem} (h : ∀ p, p < 64 → R 201 p = zb (zLb F p)) : v_D_fitMany R = v_jl_bitCount F := by
  unfold v_D_fitMany
  refine zcnt (fun i a hi => ?_)
  unfold f_D_fitMany_1
  rw [h i hi]
  cases zLb F i <;> rfl
/-- what heard and needRows say, side by side -/
theorem zR_all {M : zMem} (hI : zv_Inv M) : ok_N_needRows (w_T_useUp M) (v_T_useUp M) (8 : Int32) (8 : Int32) ∧ ok_D_heard (w_T_useUp M) ∧ (∀ x, zv_Inv (zz_up (w_D_heard (w_T_useUp M)) 194 0 x)) ∧ ((t_N_needRows (w_T_useUp M) (v_T_useUp M) (8 : Int32) (8 : Int32) = 1 ∧ v_D_heard (w_T_useUp M) = false) ∨ (t_N_needRows (w_T_useUp M) (v_T_useUp M) (8 : Int32) (8 : Int32) = 0 ∧ v_D_heard (w_T_useUp M) = true ∧ ok_U_fittingRows (w_T_useUp M) (v_T_useUp M) ∧ ∀ p, p < 64 → (w_D_heard (w_T_useUp M)) 201 p = zb (zLb (v_U_fittingRows (w_T_useUp M) (v_T_useUp M)) p))) := by
  obtain ⟨t1, t2, t3⟩ := zv_Tp hI
  obtain ⟨z, z1, z2, -⟩ := zr_ex t2
  have z1 : z ≤ 400 := by omega
  have e8 : (w_T_useUp M) 194 8 = Int32.ofNat z := by rw [← z2]; exact t1.symm
  have hu : v_T_useUp M = Int32.ofNat z := z2
  have h199 : ∀ i, i < 400 → (w_T_useUp M) 3 i = (w_T_useUp M) 199 i := fun i hi => (t3 i hi).1
  have hB3 : ∀ i, i < 400 → zrg 0 255 ((w_T_useUp M) 3 i) := fun i hi => (t3 i hi).2
  have hB : ∀ i, i < 400 → zrg 0 255 ((w_T_useUp M) 199 i) := fun i hi => by rw [← h199 i hi]; exact hB3 i hi
  have hInv : ∀ R : zMem, (∀ b q, ¬ b = 201 → R b q = zz_up (w_T_useUp M) 194 8 0 b q) → ∀ x, zv_Inv (zz_up R 194 0 x) := fun R hR x => zv_use hI (fun a i hs a1 a2 => by
    have h9 := zs_o hs
    rw [zu_o (by omega), hR a i (by omega), zu_o (by omega)]
    exact zu_o (by omega)) (by rw [zu_o (by omega), hR _ _ (by omega)]; rfl) (by rw [zu_o (by omega), hR _ _ (by omega)]; rfl) (by rw [zu_o (by omega), hR _ _ (by omega)]; rfl) (by rw [zu_o (by omega), hR _ _ (by omega)]; rfl)
  have hbad : zf_wk 1000 (g_D_heard_1 (w_T_useUp M)) (kb_D_heard_1 (w_T_useUp M)) 0 (zb40 ((w_T_useUp M) 194 8)) → v_D_heard (w_T_useUp M) = false → (ok_D_heard (w_T_useUp M) ∧ ∀ x, zv_Inv (zz_up (w_D_heard (w_T_useUp M)) 194 0 x)) := by
    intro q2 hv
    obtain ⟨r1, r2⟩ := zR_h4 hv
    exact ⟨⟨q2, r2⟩, hInv _ (fun b q _ => by rw [r1])⟩
  rw [hu]
  rcases zR_t (N := w_T_useUp M) z1 8 8 with ⟨n, zn, hn, g1, g2, g3, g4⟩ | ⟨g1, g2, g3⟩
  · subst zn
    obtain ⟨q1, q2⟩ := zR_h1 hn e8 hB
    have ev : v_D_heard (w_T_useUp M) = zf_wh 1000 (g_D_heard_1 (w_T_useUp M)) 0 true := by
      show zf_wh 1000 (g_D_heard_1 (w_T_useUp M)) 0 (zb40 ((w_T_useUp M) 194 8)) = _
      rw [e8, g4]
    have q2' : zf_wk 1000 (g_D_heard_1 (w_T_useUp M)) (kb_D_heard_1 (w_T_useUp M)) 0 (zb40 ((w_T_useUp M) 194 8)) := by rw [e8, g4]; exact q2
    by_cases hg : zRG ((w_T_useUp M) 3) 8 8 n
    · have hv : v_D_heard (w_T_useUp M) = true := by rw [ev]; exact q1.mpr ((zRG_eq hn h199).mp hg)
      obtain ⟨⟨r1, r2⟩, r3⟩ := zR_h2 hn e8 hv
      obtain ⟨f1, f2⟩ := zR_fit hn hB3 hg
      refine ⟨g3, ⟨q2', r3⟩, hInv _ r2, Or.inr ⟨g1 hg, hv, f2, fun p hp => ?_⟩⟩
      rw [r1 p hp, f1 p hp]
      have cg : ∀ j, j ≤ n → zFt ((w_T_useUp M) 199) p j = zFt ((w_T_useUp M) 3) p j := by
        intro j
        induction j with
        | zero => intro _; rfl
        | succ j ih =>
          intro hj
          show (zFt ((w_T_useUp M) 199) p j && _) = (zFt ((w_T_useUp M) 3) p j && _)
          rw [ih (by omega), h199 (2 * j) (by omega), h199 (2 * j + 1) (by omega)]
      rw [cg n (Nat.le_refl _)]
    · have hv : v_D_heard (w_T_useUp M) = false := by
        rw [ev]
        cases hc : zf_wh 1000 (g_D_heard_1 (w_T_useUp M)) 0 true with
        | false => rfl
        | true => exact absurd ((zRG_eq hn h199).mpr (q1.mp hc)) hg
      obtain ⟨k1, k2⟩ := hbad q2' hv
      exact ⟨g3, k1, k2, Or.inl ⟨g2 hg, hv⟩⟩
  · obtain ⟨q1, q2⟩ := zR_h0 (w_T_useUp M)
    have hv : v_D_heard (w_T_useUp M) = false := by
      show zf_wh 1000 (g_D_heard_1 (w_T_useUp M)) 0 (zb40 ((w_T_useUp M) 194 8)) = _
      rw [e8, g3]; exact q1
    obtain ⟨k1, k2⟩ := hbad (by rw [e8, g3]; exact q2) hv
    exact ⟨g2, k1, k2, Or.inl ⟨g1, hv⟩⟩
theorem zo23 : zo_23 zv_Inv := by
  intro M b hI
  obtain ⟨a1, a2, a3, a4⟩ := zR_all hI
  unfold ok_N_rules t_N_rules ok_D_rules v_N_rules v_D_rules w_D_rules
  have ew : w_N_rules M b = w_T_useUp M := rfl
  rw [ew]
  rcases a4 with ⟨h1, h2⟩ | ⟨h1, h2, h3, h4⟩
  · rw [h1, h2]
    exact ⟨⟨a1, (fun h => by cases h)⟩, fun i => rfl, Or.inr rfl, ⟨a2, (fun h => by cases h)⟩, rfl, (fun h => by cases h), a3 _⟩
  · rw [h1, h2]
    have hR : ∀ p, p < 64 → (zz_up (w_D_heard (w_T_useUp M)) 194 0 (zb (bif true then false else true))) 201 p = zb (zLb (v_U_fittingRows (w_T_useUp M) (v_T_useUp M)) p) := fun p hp => by
      rw [zu_o (by omega)]; exact h4 p hp
    obtain ⟨f1, f2, f3⟩ := zR_first hR
    have f4 := zR_many hR
    refine ⟨⟨a1, fun _ => ⟨h3, fun _ => f2⟩⟩, fun i => rfl, Or.inl rfl, ⟨a2, fun _ _ => f3⟩, rfl, fun _ => ?_, a3 _⟩
    show (bif b then v_U_first (v_U_fittingRows (w_T_useUp M) (v_T_useUp M)) else v_jl_bitCount (v_U_fittingRows (w_T_useUp M) (v_T_useUp M))) = (bif b then v_D_firstFit (zz_up (w_D_heard (w_T_useUp M)) 194 0 (zb (bif true then false else true))) else v_D_fitMany (zz_up (w_D_heard (w_T_useUp M)) 194 0 (zb (bif true then false else true))))
    rw [f1, f4]
theorem zi_mg (a b : Int32) : v_jm_max a b = v_D_greater a b := by
  apply zi_eq
  rw [zi_max]
  unfold v_D_greater
  rw [zi_lei]
  by_cases h : a.toInt ≤ b.toInt
  · rw [decide_eq_true h, zk_t]; omega
  · rw [decide_eq_false h, zk_f]; omega
theorem zi_mx {u v : Nat} (hu : u ≤ 64) (hv : v ≤ 64) : v_jm_max (Int32.ofNat u) (Int32.ofNat v) = Int32.ofNat (max u v) := by
  apply zi_eq
  rw [zi_max, zi_val (by omega), zi_val (by omega), zi_val (by omega)]
  omega
theorem zo24 : zo_24 zv_Inv := by
  intro M hI
  obtain ⟨a1, a2, a3, a4⟩ := zR_all hI
  unfold ok_N_ask t_N_ask ok_D_ask v_N_ask v_D_ask w_D_ask
  have ew : w_N_ask M = w_T_useUp M := rfl
  rw [ew]
  rcases a4 with ⟨h1, h2⟩ | ⟨h1, h2, h3, h4⟩
  · rw [h1, h2]
    exact ⟨⟨a1, (fun h => by cases h)⟩, fun i => rfl, Or.inr rfl, ⟨a2, (fun h => by cases h)⟩, rfl, (fun h => by cases h), a3 _⟩
  · have hR : ∀ p, p < 64 → (zz_up (w_D_heard (w_T_useUp M)) 194 0 (zb (bif true then false else true))) 201 p = zb (zLb (v_U_fittingRows (w_T_useUp M) (v_T_useUp M)) p) := fun p hp => by
      rw [zu_o (by omega)]; exact h4 p hp
    have f4 := zR_many hR
    have f5 := zM_cnt (v_U_fittingRows (w_T_useUp M) (v_T_useUp M))
    -- the greatest part of a kind
    have part : ∀ k, k < 8 → ∀ s : Int32 × Int32, zf_for 8 (f_D_ask_2 (w_T_useUp M) k s) (0 : Int32) = v_U_greatestPart (v_U_fittingRows (w_T_useUp M) (v_T_useUp M)) (Int32.ofNat k) := by
      intro k hk s
      unfold v_U_greatestPart
      refine zf_cg 8 _ (fun d hd a => ?_)
      unfold f_D_ask_2 f_U_greatestPart_1
      rw [zi_mg]
      refine congrArg (v_D_greater a) (zcnt (fun p a' hp => ?_))
      unfold f_D_ask_3
      rw [h4 p hp, zRn hk hd hp]
      cases zLb (v_U_fittingRows (w_T_useUp M) (v_T_useUp M)) p <;> rfl
    have pb : ∀ k, ∃ u, u ≤ 64 ∧ v_U_greatestPart (v_U_fittingRows (w_T_useUp M) (v_T_useUp M)) (Int32.ofNat k) = Int32.ofNat u := by
      intro k
      unfold v_U_greatestPart
      refine zf_ind (fun _ a => ∃ u, u ≤ 64 ∧ a = Int32.ofNat u) 8 ⟨0, by omega, rfl⟩ (fun i a hi ⟨u, u1, u2⟩ => ?_)
      unfold f_U_greatestPart_1
      obtain ⟨c1, c2⟩ := zM_cnt (v_U_narrowed (v_U_fittingRows (w_T_useUp M) (v_T_useUp M)) (Int32.ofNat k) (Int32.ofNat i))
      rw [u2, c1, zi_mx u1 c2]
      exact ⟨_, by omega, rfl⟩
    generalize v_U_fittingRows (w_T_useUp M) (v_T_useUp M) = F at h4 hR f4 f5 part pb ⊢
    obtain ⟨c1, c2⟩ := f5
    generalize zpc F.toBitVec.toNat 64 = c at c1 c2
    have e1 : decide (v_D_fitMany (zz_up (w_D_heard (w_T_useUp M)) 194 0 (zb (bif true then false else true))) ≤ (1 : Int32)) = decide (c ≤ 1) := by
      rw [f4, c1, show (1 : Int32) = Int32.ofNat 1 from rfl, zi_le (by omega) (by omega)]
    have e2 : decide ((2 : Int32) ≤ v_jl_bitCount F) = decide (2 ≤ c) := by
      rw [c1, show (2 : Int32) = Int32.ofNat 2 from rfl, zi_le (by omega) (by omega)]
    by_cases hc : c ≤ 1
    · have g0 : g_D_ask_1 (w_T_useUp M) 0 ((-1 : Int32), (2000000000 : Int32)) = (false, ((-1 : Int32), (2000000000 : Int32))) := by
        unfold g_D_ask_1
        rw [h2, e1, decide_eq_true hc]
        cases decide ((8 : Int32) ≤ Int32.ofNat 0) <;> simp only [zk_t, zk_f]
      rw [h1, h2]
      refine ⟨⟨a1, fun _ => h3⟩, fun i => rfl, Or.inl rfl, ⟨a2, fun _ => zf_k0 g0 trivial⟩, rfl, fun _ => ?_, a3 _⟩
      show v_U_bestQuestion F = (zf_wh 1000 (g_D_ask_1 (w_T_useUp M)) 0 ((-1 : Int32), (2000000000 : Int32))).1
      rw [show (1000 : Nat) = 999 + 1 from rfl, zf_w0 g0]
      unfold v_U_bestQuestion
      rw [e2, decide_eq_false (show ¬ 2 ≤ c by omega), zk_f]
    · have lp := zf_wf (g := g_D_ask_1 (w_T_useUp M)) (f := fun i (a : Int32 × Int32) => ((bif (decide ((v_U_greatestPart F (Int32.ofNat i)) < a.2)) then (Int32.ofNat i) else a.1), (bif (decide ((v_U_greatestPart F (Int32.ofNat i)) < a.2)) then (v_U_greatestPart F (Int32.ofNat i)) else a.2))) (k := kb_D_ask_1 (w_T_useUp M)) (n := 8) (a := ((-1 : Int32), (2000000000 : Int32))) (fun i x hi => by
          unfold g_D_ask_1
          rw [h2, e1, decide_eq_false hc, zi_8i (by omega), decide_eq_false (show ¬ 8 ≤ i by omega), part i hi]
          simp only [zk_f]) (fun x => by
          unfold g_D_ask_1
          rw [zi_8i (by omega), decide_eq_true (Nat.le_refl 8)]
          simp only [zk_t]) (fun i x hi => trivial) 1000 0 (by omega) (by omega)
      rw [h1, h2]
      refine ⟨⟨a1, fun _ => h3⟩, fun i => rfl, Or.inl rfl, ⟨a2, fun _ => lp.2⟩, rfl, fun _ => ?_, a3 _⟩
      show v_U_bestQuestion F = (zf_wh 1000 (g_D_ask_1 (w_T_useUp M)) 0 ((-1 : Int32), (2000000000 : Int32))).1
      refine Eq.trans ?_ (congrArg Prod.fst lp.1.symm)
      unfold v_U_bestQuestion
      rw [e2, decide_eq_true (show 2 ≤ c by omega), zk_t]
      have sim := zf_sim (f := f_U_bestQuestion_1 F) (g := fun i (a : Int32 × Int32) => ((bif (decide ((v_U_greatestPart F (Int32.ofNat i)) < a.2)) then (Int32.ofNat i) else a.1), (bif (decide ((v_U_greatestPart F (Int32.ofNat i)) < a.2)) then (v_U_greatestPart F (Int32.ofNat i)) else a.2))) (fun i (x y : Int32 × Int32) => x.1 = y.1 ∧ ((i = 0 ∧ x.2 = 65 ∧ y.2 = 2000000000) ∨ x.2 = y.2)) (a := ((-1 : Int32), (65 : Int32))) (b := ((-1 : Int32), (2000000000 : Int32))) 8 ⟨rfl, Or.inl ⟨rfl, rfl, rfl⟩⟩ (fun i x y hi ⟨hx1, hx2⟩ => ?_)
      · exact sim.1
      · obtain ⟨u, u1, u2⟩ := pb i
        unfold f_U_bestQuestion_1
        rw [u2]
        rcases hx2 with ⟨-, b1, b2⟩ | b
        · rw [b1, b2, show (65 : Int32) = Int32.ofNat 65 from rfl, zi_le (by omega) (by omega), decide_eq_false (show ¬ 65 ≤ u by omega), zi_lti, zi_val (by omega), show (2000000000 : Int32).toInt = 2000000000 from rfl, decide_eq_true (show (u : Int) < 2000000000 by omega)]
          simp only [zk_t, zk_f]
          exact ⟨(by first | rfl | trivial), Or.inr (by first | rfl | trivial)⟩
        · rw [b, hx1, zi_lei, zi_lti]
          by_cases d : y.2.toInt ≤ (Int32.ofNat u).toInt
          · rw [decide_eq_true d, decide_eq_false (show ¬ (Int32.ofNat u).toInt < y.2.toInt by omega)]
            simp only [zk_t, zk_f]
            exact ⟨(by first | rfl | trivial), Or.inr (by first | rfl | trivial)⟩
          · rw [decide_eq_false d, decide_eq_true (show (Int32.ofNat u).toInt < y.2.toInt by omega)]
            simp only [zk_t, zk_f]
            exact ⟨(by first | rfl | trivial), Or.inr (by first | rfl | trivial)⟩
def zFk (B : Nat → Int32) (p : Nat) : Nat → Bool
  | 0 => true
  | j + 1 => zFk B p j && decide (v_D_ruled (Int32.ofNat p) (Int32.ofNat j) = B j)
theorem zo25 : zo_25 zv_Inv := by
  intro M hI
  have h := zq_h M 0
  have hF : ∀ n, n ≤ 8 → ∀ p, p < 64 → zLb (zf_for n (f_U_fittingKinds_1 M) (Int64.ofNat 18446744073709551615)) p = zFk (M 6) p n := by
    intro n
    induction n with
    | zero => exact fun _ p hp => zF_all hp
    | succ n ih =>
      intro hn p hp
      show zLb (v_U_narrowed (zf_for n (f_U_fittingKinds_1 M) (Int64.ofNat 18446744073709551615)) (Int32.ofNat n) (M 6 n)) p = (zFk (M 6) p n && decide (v_D_ruled (Int32.ofNat p) (Int32.ofNat n) = M 6 n))
      obtain ⟨d, d1, d2, -⟩ := zr_ex (zv_K hI (show n < 8 by omega)).2.2.1
      rw [d2, zRn (by omega) (by omega) hp, ih (by omega) p hp]
  have hF8 := hF 8 (Nat.le_refl _)
  have eF : zf_for 8 (f_U_fittingKinds_1 M) (Int64.ofNat 18446744073709551615) = v_U_fittingKinds M := rfl
  rw [eF] at hF8
  unfold ok_N_now v_N_now
  generalize v_U_fittingKinds M = F at hF8 ⊢
  have hR : ∀ i (s : Bool × Int32), i < 64 → zf_for 8 (f_D_now_2 M i s) true = zLb F i := by
    intro i s hi
    rw [hF8 i hi]
    have key : ∀ n, n ≤ 8 → zf_for n (f_D_now_2 M i s) true = zFk (M 6) i n := by
      intro n
      induction n with
      | zero => exact fun _ => rfl
      | succ n ih =>
        intro hn
        show f_D_now_2 M i s n (zf_for n (f_D_now_2 M i s) true) = (zFk (M 6) i n && decide (v_D_ruled (Int32.ofNat i) (Int32.ofNat n) = M 6 n))
        rw [ih (by omega)]
        unfold f_D_now_2
        rw [show v_D_ofKind (zz_up M 194 0 0) (Int32.ofNat n) (1 : Int32) = M 6 n from zq_kd hI h (by omega) 1 (by omega)]
        cases zFk (M 6) i n <;> rfl
    exact key 8 (Nat.le_refl _)
  have key : ∀ i (s : Bool × Int32), i ≤ 64 → g_U_first_1 F i s = g_D_now_1 M i s ∧ kb_D_now_1 M i s ∧ ((g_U_first_1 F i s).1 = true → i + 1 ≤ 64) := by
    intro i s hi
    unfold g_U_first_1 g_D_now_1 kb_D_now_1
    rw [show decide ((64 : Int32) ≤ Int32.ofNat i) = decide (64 ≤ i) from zi_len (n := 64) (by omega) (by omega)]
    by_cases c : 64 ≤ i
    · rw [decide_eq_true c]
      exact ⟨by simp only [zk_t], (fun h => by cases h), (fun h => by cases h)⟩
    · rw [decide_eq_false c, zL_tst F (by omega), hR i s (by omega)]
      refine ⟨?_, fun _ k hk _ => zd_kdk _ hk (k := 1) (by omega), fun _ => by omega⟩
      cases zLb F i <;> simp only [Bool.not_true, Bool.not_false, zk_t, zk_f]
  have l1 := zf_wcg (fun i (s : Bool × Int32) => i ≤ 64) (fun i s hh => ⟨(key i s hh).1, (key i s hh).2.2⟩) 1000 0 (false, (0 : Int32)) (by omega)
  have l2 := zf_wke (g := g_U_first_1 F) (k := kb_U_first_1 F) (fun i (s : Bool × Int32) => i ≤ 64) 64 (fun i s hh => hh) (fun i s hh => ⟨trivial, (key i s hh).2.2⟩) 1000 0 (false, (0 : Int32)) (by omega) (by omega)
  have l3 := zf_wke (g := g_D_now_1 M) (k := kb_D_now_1 M) (fun i (s : Bool × Int32) => i ≤ 64) 64 (fun i s hh => hh) (fun i s hh => ⟨(key i s hh).2.1, by rw [← (key i s hh).1]; exact (key i s hh).2.2⟩) 1000 0 (false, (0 : Int32)) (by omega) (by omega)
  refine ⟨l2, l3, ?_, zv_th hI 0⟩
  unfold v_U_first v_D_now
  rw [l1]
