/-! PIECES: whats 5 and 6 of call 5 -/
theorem zbs_b (n q : Nat) : ∀ k, (zbs n k).testBit q = true ↔ ∃ p, p < k ∧ n.testBit p = true ∧ (zbq p).testBit q = true
  | 0 => by
    refine ⟨fun h => ?_, fun ⟨p, hp, _⟩ => by omega⟩
    have h : (0 : Nat).testBit q = true := h
    rw [Nat.zero_testBit] at h
    cases h
  | k + 1 => by
    have ih := zbs_b n q k
    show (bif n.testBit k then zbs n k ||| zbq k else zbs n k).testBit q = true ↔ _
    cases hk : n.testBit k with
    | false =>
      rw [zk_f, ih]
      refine ⟨fun ⟨p, h1, h2⟩ => ⟨p, by omega, h2⟩, fun ⟨p, h1, h2⟩ => ?_⟩
      by_cases e : p = k
      · rw [e, hk] at h2; cases h2.1
      · exact ⟨p, by omega, h2⟩
    | true =>
      rw [zk_t, Nat.testBit_or, Bool.or_eq_true, ih]
      refine ⟨fun h => ?_, fun ⟨p, h1, h2⟩ => ?_⟩
      · rcases h with ⟨p, h1, h2⟩ | h
        · exact ⟨p, by omega, h2⟩
        · exact ⟨k, by omega, hk, h⟩
      · by_cases e : p = k
        · rw [e] at h2; exact Or.inr h2.2
        · exact Or.inl ⟨p, by omega, h2⟩
theorem zgr_t {n : Nat} (h : n < 65536) (q : Nat) : (zgr n).testBit q = true ↔ (n.testBit q = true ∨ ∃ p, p < 16 ∧ n.testBit p = true ∧ (zbq p).testBit q = true) := by
  rw [(zgr_b h).1, Nat.testBit_or, Bool.or_eq_true, zbs_b]
theorem zbq_s : ∀ p, p < 16 → ∀ q, q < 16 → (zbq p).testBit q = (zbq q).testBit p := by decide +kernel
theorem zbq_l : ∀ p, p < 16 → zbq p < 65536 := by decide +kernel
theorem zhi {n q : Nat} (h : n < 65536) (hq : ¬ q < 16) : n.testBit q = false := Nat.testBit_lt_two_pow (Nat.lt_of_lt_of_le h (Nat.pow_le_pow_right (n := 2) (i := 16) (by omega) (by omega)))
def zsu (a b : Nat) : Prop := ∀ q, a.testBit q = true → b.testBit q = true
theorem zsu_and {a b : Nat} (h : zsu a b) : a &&& b = a := by
  apply Nat.eq_of_testBit_eq
  intro i
  rw [Nat.testBit_and]
  have := h i
  cases ha : a.testBit i with
  | false => rfl
  | true => rw [this ha]; rfl
/-- what grows within w -/
theorem zsp_in {w r : Nat} (h : zsu r w) : ∀ k, zsu (zsp w k r) w
  | 0 => h
  | k + 1 => fun q hq => by
    have hq : (zgr (zsp w k r) &&& w).testBit q = true := hq
    rw [Nat.testBit_and, Bool.and_eq_true] at hq
    exact hq.2
theorem zsp_up {w r : Nat} (hw : w < 65536) (hr : r < 65536) (h : zsu r w) (k : Nat) : zsu (zsp w k r) (zsp w (k + 1) r) := by
  intro q hq
  show (zgr (zsp w k r) &&& w).testBit q = true
  rw [Nat.testBit_and, Bool.and_eq_true]
  exact ⟨(zgr_t (zsp_lt hw hr k) q).mpr (Or.inl hq), zsp_in h k q hq⟩
theorem zpc_m {a b : Nat} : ∀ n, (∀ q, q < n → a.testBit q = true → b.testBit q = true) → zpc a n ≤ zpc b n ∧ (zpc a n = zpc b n → ∀ q, q < n → a.testBit q = b.testBit q)
  | 0, _ => ⟨Nat.le_refl _, fun _ q hq => by omega⟩
  | n + 1, h => by
    obtain ⟨i1, i2⟩ := zpc_m n (fun q hq => h q (by omega))
    have hn := h n (by omega)
    show zpc a n + ((a >>> n) &&& 1) ≤ zpc b n + ((b >>> n) &&& 1) ∧ (zpc a n + ((a >>> n) &&& 1) = zpc b n + ((b >>> n) &&& 1) → _)
    rw [Nat.and_one_is_mod, Nat.and_one_is_mod, Nat.shiftRight_eq_div_pow, Nat.shiftRight_eq_div_pow, ← Nat.toNat_testBit, ← Nat.toNat_testBit]
    have hle : (a.testBit n).toNat ≤ (b.testBit n).toNat := by
      cases ha : a.testBit n with
      | false => exact Nat.zero_le _
      | true => rw [hn ha]; exact Nat.le_refl _
    refine ⟨by omega, fun e q hq => ?_⟩
    by_cases c : q = n
    · subst c
      have e2 : (a.testBit q).toNat = (b.testBit q).toNat := by omega
      revert e2
      cases a.testBit q <;> cases b.testBit q <;> decide
    · exact i2 (by omega) q (by omega)
theorem zpc_le2 (x : Nat) : ∀ n, zpc x n ≤ n
  | 0 => Nat.le_refl _
  | n + 1 => by
    have := zpc_le2 x n
    show zpc x n + ((x >>> n) &&& 1) ≤ n + 1
    have h2 : (x >>> n) &&& 1 ≤ 1 := Nat.and_le_right
    omega
theorem zeq16 {a b : Nat} (ha : a < 65536) (hb : b < 65536) (h : ∀ q, q < 16 → a.testBit q = b.testBit q) : a = b := by
  apply Nat.eq_of_testBit_eq
  intro q
  by_cases c : q < 16
  · exact h q c
  · rw [zhi ha c, zhi hb c]
/-- sixteen steps are enough -/
theorem zsp_fix {w r : Nat} (hw : w < 65536) (hr : r < 65536) (h : zsu r w) : zgr (zsp w 16 r) &&& w = zsp w 16 r := by
  have key : ∀ k, zsp w (k + 1) r = zsp w k r ∨ k + 1 ≤ zpc (zsp w (k + 1) r) 16 := by
    intro k
    have m := zpc_m (a := zsp w k r) (b := zsp w (k + 1) r) 16 (fun q _ => zsp_up hw hr h k q)
    have e : zpc (zsp w k r) 16 = zpc (zsp w (k + 1) r) 16 → zsp w (k + 1) r = zsp w k r := fun e => (zeq16 (zsp_lt hw hr k) (zsp_lt hw hr (k + 1)) (m.2 e)).symm
    induction k with
    | zero =>
      by_cases c : zpc (zsp w 0 r) 16 = zpc (zsp w (0 + 1) r) 16
      · exact Or.inl (e c)
      · exact Or.inr (by omega)
    | succ k ih =>
      have m' := zpc_m (a := zsp w k r) (b := zsp w (k + 1) r) 16 (fun q _ => zsp_up hw hr h k q)
      rcases ih m' (fun e => (zeq16 (zsp_lt hw hr k) (zsp_lt hw hr (k + 1)) (m'.2 e)).symm) with i | i
      · left
        show zgr (zsp w (k + 1) r) &&& w = zgr (zsp w k r) &&& w
        rw [i]
      · by_cases c : zpc (zsp w (k + 1) r) 16 = zpc (zsp w (k + 1 + 1) r) 16
        · exact Or.inl (e c)
        · exact Or.inr (by omega)
  rcases key 16 with h1 | h1
  · exact h1
  · have := zpc_le2 (zsp w (16 + 1) r) 16
    omega
/-- closed within w -/
def zcd' (s w : Nat) : Prop := ∀ p q, p < 16 → s.testBit p = true → (zbq p).testBit q = true → w.testBit q = true → s.testBit q = true
theorem zsp_cl {w l r : Nat} (hw : w < 65536) (hl : l < 65536) (h1 : zsu l w) (h2 : zcd' l w) (h3 : zsu r l) (hr : r < 65536) : ∀ k, zsp l k r = zsp w k r ∧ zsu (zsp w k r) l
  | 0 => ⟨rfl, h3⟩
  | k + 1 => by
    obtain ⟨i1, i2⟩ := zsp_cl hw hl h1 h2 h3 hr k
    have hlt := zsp_lt hw hr k
    have e : zgr (zsp w k r) &&& l = zgr (zsp w k r) &&& w := by
      apply Nat.eq_of_testBit_eq
      intro q
      rw [Nat.testBit_and, Nat.testBit_and]
      cases hg : (zgr (zsp w k r)).testBit q with
      | false => rfl
      | true =>
        rw [Bool.true_and, Bool.true_and]
        cases hq : w.testBit q with
        | false =>
          cases hlq : l.testBit q with
          | false => rfl
          | true => rw [h1 q hlq] at hq; cases hq
        | true =>
          rcases (zgr_t hlt q).mp hg with a | ⟨p, p1, p2, p3⟩
          · exact i2 q a
          · exact h2 p q p1 (i2 p p2) p3 hq
    refine ⟨?_, ?_⟩
    · show zgr (zsp l k r) &&& l = zgr (zsp w k r) &&& w
      rw [i1, e]
    · show zsu (zgr (zsp w k r) &&& w) l
      rw [← e]
      intro q hq
      rw [Nat.testBit_and, Bool.and_eq_true] at hq
      exact hq.2
def zmi (l P : Nat) : Nat := l &&& (P ^^^ 4294967295)
theorem zmi_b {l P : Nat} (hl : l < 65536) (q : Nat) : (zmi l P).testBit q = (l.testBit q && !P.testBit q) := by
  unfold zmi
  rw [Nat.testBit_and, Nat.testBit_xor]
  by_cases c : q < 16
  · have e : ∀ q, q < 16 → (4294967295 : Nat).testBit q = true := by decide +kernel
    rw [e q c]
    cases P.testBit q <;> rfl
  · rw [zhi hl c, Bool.false_and, Bool.false_and]
theorem zmi_lt {l P : Nat} (hl : l < 65536) : zmi l P < 65536 := Nat.lt_of_le_of_lt Nat.and_le_left hl
theorem zcd_mi {w l r : Nat} (hw : w < 65536) (hl : l < 65536) (h1 : zsu l w) (h2 : zcd' l w) (hr : r < 65536) (h3 : zsu r w) : zsu (zmi l (zsp w 16 r)) w ∧ zcd' (zmi l (zsp w 16 r)) w := by
  refine ⟨fun q hq => ?_, fun p q hp hpl hpq hq => ?_⟩
  · rw [zmi_b hl, Bool.and_eq_true] at hq
    exact h1 q hq.1
  · rw [zmi_b hl, Bool.and_eq_true] at hpl ⊢
    refine ⟨h2 p q hp hpl.1 hpq hq, ?_⟩
    cases hc : (zsp w 16 r).testBit q with
    | false => rfl
    | true =>
      have hq16 : q < 16 := by
        by_cases c : q < 16
        · exact c
        · rw [zhi hw c] at hq; cases hq
      have hf : (zsp w 16 r).testBit p = true := by
        rw [← zsp_fix hw hr h3, Nat.testBit_and, Bool.and_eq_true]
        refine ⟨(zgr_t (zsp_lt hw hr 16) p).mpr (Or.inr ⟨q, hq16, hc, ?_⟩), h1 p hpl.1⟩
        rw [← zbq_s p hp q hq16]; exact hpq
      rw [hf] at hpl
      cases hpl.2
theorem zlow {l p : Nat} (hl : l < 65536) (h0 : ∀ q, q < p → l.testBit q = false) (h1 : l.testBit p = true) : Int32.ofNat l &&& (-(Int32.ofNat l)) = Int32.ofNat (2 ^ p) := by
  have hp16 : p < 16 := by
    by_cases c : p < 16
    · exact c
    · rw [zhi hl c] at h1; cases h1
  have hpos : 0 < l := by
    by_cases c : l = 0
    · rw [c, Nat.zero_testBit] at h1; cases h1
    · omega
  have en : -(Int32.ofNat l) = Int32.ofNat (4294967296 - l) := by
    apply Int32.toBitVec_inj.mp
    rw [Int32.toBitVec_neg, zN_bv, zN_bv]
    apply BitVec.eq_of_toNat_eq
    rw [BitVec.toNat_neg, BitVec.toNat_ofNat, BitVec.toNat_ofNat, Nat.mod_eq_of_lt (show l < 2 ^ 32 by omega)]
  rw [en, zN_and]
  congr 1
  -- l = 2^p * (2 c + 1)
  have hd : l = 2 ^ p * (l / 2 ^ p) + 0 := by
    have hm : l % 2 ^ p = 0 := by
      apply Nat.eq_of_testBit_eq
      intro i
      rw [Nat.testBit_mod_two_pow, Nat.zero_testBit]
      by_cases c : i < p
      · rw [h0 i c, Bool.and_false]
      · rw [decide_eq_false c, Bool.false_and]
    have := Nat.div_add_mod l (2 ^ p)
    omega
  have ho : l / 2 ^ p % 2 = 1 := by
    have := Nat.toNat_testBit l p
    rw [h1] at this
    exact this.symm
  obtain ⟨c, hc⟩ : ∃ c, l / 2 ^ p = 2 * c + 1 := ⟨l / 2 ^ p / 2, by omega⟩
  have hpp : 0 < 2 ^ p := Nat.pow_pos (by omega)
  have e1 : l = 2 ^ p * (2 * c + 1) + 0 := by rw [← hc]; exact hd
  have e2 : l - 1 = 2 ^ p * (2 * c) + (2 ^ p - 1) := by
    rw [e1, Nat.mul_add]
    omega
  have e3 : 4294967296 - l = 2 ^ 32 - ((l - 1) + 1) := by omega
  apply Nat.eq_of_testBit_eq
  intro i
  rw [Nat.testBit_and, e3, Nat.testBit_two_pow_sub_succ (by omega), Nat.testBit_two_pow]
  have b1 : l.testBit i = (if i < p then (0 : Nat).testBit i else (2 * c + 1).testBit (i - p)) := by
    conv => lhs; rw [e1]
    exact Nat.testBit_two_pow_mul_add _ hpp i
  have b2 : (l - 1).testBit i = (if i < p then (2 ^ p - 1).testBit i else (2 * c).testBit (i - p)) := by
    rw [e2]
    exact Nat.testBit_two_pow_mul_add _ (by omega) i
  rw [b1, b2]
  by_cases c1 : i < p
  · rw [if_pos c1, if_pos c1, Nat.zero_testBit, Bool.false_and, decide_eq_false (by omega)]
  · rw [if_neg c1, if_neg c1]
    by_cases c2 : i = p
    · subst c2
      rw [Nat.sub_self, decide_eq_true rfl, Nat.testBit_zero, Nat.testBit_zero, decide_eq_true (show (2 * c + 1) % 2 = 1 by omega), decide_eq_false (show ¬ (2 * c) % 2 = 1 by omega), decide_eq_true (show i < 32 by omega)]
      rfl
    · obtain ⟨j, hj⟩ : ∃ j, i - p = j + 1 := ⟨i - p - 1, by omega⟩
      rw [hj, Nat.testBit_add_one, Nat.testBit_add_one, show (2 * c + 1) / 2 = c by omega, show (2 * c) / 2 = c by omega, decide_eq_false (show ¬ p = i by omega)]
      cases c.testBit j
      · rfl
      · rw [Bool.not_true, Bool.and_false, Bool.and_false]
theorem zf_wu {α : Type} {g : Nat → α → Bool × α} {f : Nat → α → α} {k : Nat → α → Prop} {n : Nat} {a : α} (h1 : ∀ i, i < n → g i (zf_for i f a) = (true, f i (zf_for i f a))) (h0 : g n (zf_for n f a) = (false, zf_for n f a)) (hk : ∀ i, i ≤ n → k i (zf_for i f a)) : ∀ (N i : Nat), i ≤ n → n < N + i → zf_wh N g i (zf_for i f a) = zf_for n f a ∧ zf_wk N g k i (zf_for i f a)
  | 0, i, hi, hn => by omega
  | N + 1, i, hi, hn => by
    by_cases h : i < n
    · obtain ⟨b1, b2⟩ := zf_wu h1 h0 hk N (i + 1) (by omega) (by omega)
      refine ⟨?_, zf_k1 (h1 i h) (hk i hi) b2⟩
      rw [zf_w1 (h1 i h)]
      exact b1
    · have e : i = n := by omega
      subst e
      exact ⟨zf_w0 h0, zf_k0 h0 (hk i hi)⟩
def zfP (x : Int32) (_ : Nat) (a : Int32 × Int32) : Int32 × Int32 := (a.1 &&& ((v_F_spread (a.1 &&& (-a.1)) x) ^^^ (-1 : Int32)), a.2 + (1 : Int32))
def zfL (x : Int32) (_ : Nat) (a : Int32 × Int32) : Int32 × Int32 := (a.1 &&& ((v_F_spread (a.1 &&& (-a.1)) x) ^^^ (-1 : Int32)), v_jm_max a.2 (v_ji_bitCount (v_F_spread (a.1 &&& (-a.1)) x)))
theorem zpie {w : Nat} (hw : w < 65536) (M : zMem) (x0 : Int32) (b : Bool) : ∀ p, p ≤ 16 → ∃ j l, j ≤ p ∧ l < 65536 ∧ (zf_for p (f_D_pieces_1 M x0 b) (Int32.ofNat w, (0 : Int32), (0 : Int32))).1 = Int32.ofNat l ∧ zf_for j (zfP (Int32.ofNat w)) (Int32.ofNat w, (0 : Int32)) = (Int32.ofNat l, (zf_for p (f_D_pieces_1 M x0 b) (Int32.ofNat w, (0 : Int32), (0 : Int32))).2.1) ∧ zf_for j (zfL (Int32.ofNat w)) (Int32.ofNat w, (0 : Int32)) = (Int32.ofNat l, (zf_for p (f_D_pieces_1 M x0 b) (Int32.ofNat w, (0 : Int32), (0 : Int32))).2.2) ∧ (∀ i, i < j → ¬ (zf_for i (zfP (Int32.ofNat w)) (Int32.ofNat w, (0 : Int32))).1 = 0 ∧ ¬ (zf_for i (zfL (Int32.ofNat w)) (Int32.ofNat w, (0 : Int32))).1 = 0) ∧ zsu l w ∧ zcd' l w ∧ ∀ q, q < p → l.testBit q = false
  | 0, _ => ⟨0, w, Nat.le_refl _, hw, rfl, rfl, rfl, fun i hi => by omega, fun q hq => hq, fun p q _ _ _ h => h, fun q hq => by omega⟩
  | p + 1, hp => by
    obtain ⟨j, l, h1, h2, h3, h4, h5, h6, h7, h8, h9⟩ := zpie hw M x0 b p (by omega)
    have es : zf_for (p + 1) (f_D_pieces_1 M x0 b) (Int32.ofNat w, (0 : Int32), (0 : Int32)) = f_D_pieces_1 M x0 b p (zf_for p (f_D_pieces_1 M x0 b) (Int32.ofNat w, (0 : Int32), (0 : Int32))) := rfl
    rw [es]
    generalize zf_for p (f_D_pieces_1 M x0 b) (Int32.ofNat w, (0 : Int32), (0 : Int32)) = s at h3 h4 h5 ⊢
    unfold f_D_pieces_1
    rw [h3, zN_isOf (by omega) (by omega)]
    cases hb : l.testBit p with
    | false =>
      simp only [zk_f]
      refine ⟨j, l, by omega, h2, (by first | rfl | trivial), h4, h5, h6, h7, h8, fun q hq => ?_⟩
      by_cases e : q = p
      · rw [e]; exact hb
      · exact h9 q (by omega)
    | true =>
      simp only [zk_t]
      have hp2 : 2 ^ p < 65536 := Nat.pow_lt_pow_right (a := 2) (n := 16) (by omega) (by omega)
      have hsl : zsu (2 ^ p) l := fun q hq => by
        rw [Nat.testBit_two_pow] at hq
        have := of_decide_eq_true hq
        rw [← this]; exact hb
      have hsw : zsu (2 ^ p) w := fun q hq => h7 q (hsl q hq)
      obtain ⟨c1, c2⟩ := zsp_cl hw h2 h7 h8 hsl hp2 16
      have ef : v_D_floods (zsl (1 : Int32) (Int32.ofNat p)) (Int32.ofNat l) = Int32.ofNat (zsp w 16 (2 ^ p)) := by
        rw [zN_sl1 p (by omega), Nat.one_shiftLeft, zD_fl h2, zsu_and hsl, c1]
      have ec : v_F_spread (Int32.ofNat l &&& (-(Int32.ofNat l))) (Int32.ofNat w) = Int32.ofNat (zsp w 16 (2 ^ p)) := by
        rw [zlow h2 h9 hb, zF_sp hw hp2]
      have hlt := zsp_lt hw hp2 16
      have em : Int32.ofNat l &&& (Int32.ofNat (zsp w 16 (2 ^ p)) ^^^ (-1 : Int32)) = Int32.ofNat (zmi l (zsp w 16 (2 ^ p))) := by
        rw [show (-1 : Int32) = Int32.ofNat 4294967295 from rfl, zN_xor, zN_and]
        rfl
      obtain ⟨k1, k2⟩ := zcd_mi hw h2 h7 h8 hp2 hsw
      have hne : ¬ Int32.ofNat l = 0 := by
        rw [show (0 : Int32) = Int32.ofNat 0 from rfl, zN_inj (by omega) (by omega)]
        intro e
        rw [e, Nat.zero_testBit] at hb
        cases hb
      rw [ef, em]
      refine ⟨j + 1, zmi l (zsp w 16 (2 ^ p)), by omega, zmi_lt h2, rfl, ?_, ?_, fun i hi => ?_, k1, k2, fun q hq => ?_⟩
      · show zfP (Int32.ofNat w) j (zf_for j (zfP (Int32.ofNat w)) (Int32.ofNat w, (0 : Int32))) = _
        rw [h4]
        unfold zfP
        simp only []
        rw [ec, em]
      · show zfL (Int32.ofNat w) j (zf_for j (zfL (Int32.ofNat w)) (Int32.ofNat w, (0 : Int32))) = _
        rw [h5]
        unfold zfL
        simp only []
        rw [ec, em, zi_mg, zN_count (zr_nn (by omega))]
      · by_cases e : i = j
        · rw [e, h4, h5]
          exact ⟨hne, hne⟩
        · exact h6 i (by omega)
      · rw [zmi_b h2]
        by_cases e : q = p
        · rw [e]
          have hin : ∀ k, (zsp w k (2 ^ p)).testBit p = true := by
            intro k
            induction k with
            | zero => exact Nat.testBit_two_pow_self
            | succ k ih => exact zsp_up hw hp2 hsw k p ih
          rw [hin 16, Bool.not_true, Bool.and_false]
        · rw [h9 q (by omega), Bool.false_and]
theorem zq_pie {M M' : zMem} (hI : zv_Inv M) (h : M' 195 = M 195) {k : Nat} (hk : k < 8) : (v_F_pieces (M 5 k) = v_D_pieces M' (Int32.ofNat k) false ∧ ok_F_pieces (M 5 k)) ∧ (v_F_largestPiece (M 5 k) = v_D_pieces M' (Int32.ofNat k) true ∧ ok_F_largestPiece (M 5 k)) := by
  obtain ⟨w, hw, e⟩ := zr_ofk hI hk
  have e0 : v_D_ofKind M' (Int32.ofNat k) (0 : Int32) = Int32.ofNat w := by
    rw [show v_D_ofKind M' (Int32.ofNat k) (0 : Int32) = M 5 k from zq_kd hI h hk 0 (by omega)]; exact e
  rw [e]
  have l0 : ∀ l, l < 65536 → (∀ q, q < 16 → l.testBit q = false) → Int32.ofNat l = 0 := fun l hl hq => by
    have : l = 0 := zeq16 hl (by omega) (fun q h => by rw [hq q h, Nat.zero_testBit])
    rw [this]; rfl
  refine ⟨?_, ?_⟩
  · obtain ⟨j, l, h1, h2, h3, h4, h5, h6, -, -, h9⟩ := zpie hw M' (Int32.ofNat k) false 16 (Nat.le_refl _)
    have hz := l0 l h2 h9
    have u := zf_wu (g := g_F_pieces_1 (Int32.ofNat w)) (f := zfP (Int32.ofNat w)) (k := kb_F_pieces_1 (Int32.ofNat w)) (n := j) (a := (Int32.ofNat w, (0 : Int32))) (fun i hi => by
      have hne := (h6 i hi).1
      generalize zf_for i (zfP (Int32.ofNat w)) (Int32.ofNat w, (0 : Int32)) = s at hne ⊢
      unfold g_F_pieces_1 zfP
      rw [show decide ((16 : Int32) ≤ Int32.ofNat i) = decide (16 ≤ i) from zi_len (n := 16) (by omega) (by omega), decide_eq_false (show ¬ 16 ≤ i by omega), decide_eq_false hne]
      simp only [zk_f]) (by
      rw [h4, hz]
      unfold g_F_pieces_1
      cases decide ((16 : Int32) ≤ Int32.ofNat j) <;> simp only [decide_true, zk_f, zk_t]) (fun i _ => trivial) 1000 0 (by omega) (by omega)
    refine ⟨?_, u.2⟩
    unfold v_F_pieces v_D_pieces
    rw [e0, zk_f]
    refine Eq.trans (congrArg Prod.snd u.1) ?_
    rw [h4]
  · obtain ⟨j, l, h1, h2, h3, h4, h5, h6, -, -, h9⟩ := zpie hw M' (Int32.ofNat k) true 16 (Nat.le_refl _)
    have hz := l0 l h2 h9
    have u := zf_wu (g := g_F_largestPiece_1 (Int32.ofNat w)) (f := zfL (Int32.ofNat w)) (k := kb_F_largestPiece_1 (Int32.ofNat w)) (n := j) (a := (Int32.ofNat w, (0 : Int32))) (fun i hi => by
      have hne := (h6 i hi).2
      generalize zf_for i (zfL (Int32.ofNat w)) (Int32.ofNat w, (0 : Int32)) = s at hne ⊢
      unfold g_F_largestPiece_1 zfL
      rw [show decide ((16 : Int32) ≤ Int32.ofNat i) = decide (16 ≤ i) from zi_len (n := 16) (by omega) (by omega), decide_eq_false (show ¬ 16 ≤ i by omega), decide_eq_false hne]
      simp only [zk_f]) (by
      rw [h5, hz]
      unfold g_F_largestPiece_1
      cases decide ((16 : Int32) ≤ Int32.ofNat j) <;> simp only [decide_true, zk_f, zk_t]) (fun i _ => trivial) 1000 0 (by omega) (by omega)
    refine ⟨?_, u.2⟩
    unfold v_F_largestPiece v_D_pieces
    rw [e0, zk_t]
    refine Eq.trans (congrArg Prod.snd u.1) ?_
    rw [h5]
