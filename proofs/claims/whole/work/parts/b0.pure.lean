/-! THE TEXT, read purely: its laws; what the class's tape does. -/
theorem zpSkF_le (t : Nat → Int32) (n : Nat) : ∀ f p, p ≤ n → zpSkF t n f p ≤ n ∧ p ≤ zpSkF t n f p
  | 0, p, h => ⟨h, Nat.le_refl p⟩
  | f + 1, p, h => by
    show (bif (decide (p < n) && decide (t p = 32)) then zpSkF t n f (p + 1) else p) ≤ n ∧ p ≤ (bif (decide (p < n) && decide (t p = 32)) then zpSkF t n f (p + 1) else p)
    by_cases c : p < n
    · rw [decide_eq_true c, Bool.true_and]
      cases decide (t p = 32)
      · rw [zk_f]; exact ⟨h, Nat.le_refl p⟩
      · rw [zk_t]
        obtain ⟨a, b⟩ := zpSkF_le t n f (p + 1) (by omega)
        exact ⟨a, by omega⟩
    · rw [decide_eq_false c, Bool.false_and, zk_f]; exact ⟨h, Nat.le_refl p⟩
theorem zpSk_le {t : Nat → Int32} {n p : Nat} (h : p ≤ n) : zpSk t n p ≤ n ∧ p ≤ zpSk t n p := zpSkF_le t n 1000 p h
/-- behind skipping there is no blank -/
theorem zpSkF_at (t : Nat → Int32) (n : Nat) : ∀ f p, p ≤ n → n < f + p → (zpSkF t n f p < n → ¬ t (zpSkF t n f p) = 32)
  | 0, p, h, hf => by omega
  | f + 1, p, h, hf => by
    show (bif (decide (p < n) && decide (t p = 32)) then zpSkF t n f (p + 1) else p) < n → ¬ t (bif (decide (p < n) && decide (t p = 32)) then zpSkF t n f (p + 1) else p) = 32
    by_cases c : p < n
    · rw [decide_eq_true c, Bool.true_and]
      by_cases c2 : t p = 32
      · rw [decide_eq_true c2, zk_t]
        exact zpSkF_at t n f (p + 1) (by omega) (by omega)
      · rw [decide_eq_false c2, zk_f]
        exact fun _ => c2
    · rw [decide_eq_false c, Bool.false_and, zk_f]
      exact fun h2 => absurd h2 c
theorem zpSk_at {t : Nat → Int32} {n p : Nat} (h : p ≤ n) (hn : n ≤ 400) : zpSk t n p < n → ¬ t (zpSk t n p) = 32 := zpSkF_at t n 1000 p h (by omega)
/-- no blank: nothing is skipped -/
theorem zpSk_id {t : Nat → Int32} {n p : Nat} (h : p < n → ¬ t p = 32) : zpSk t n p = p := by
  show (bif (decide (p < n) && decide (t p = 32)) then zpSkF t n 999 (p + 1) else p) = p
  by_cases c : p < n
  · rw [decide_eq_true c, Bool.true_and, decide_eq_false (h c), zk_f]
  · rw [decide_eq_false c, Bool.false_and, zk_f]
theorem zpSk_id2 {t : Nat → Int32} {n p : Nat} (h : p ≤ n) (hn : n ≤ 400) : zpSk t n (zpSk t n p) = zpSk t n p := zpSk_id (zpSk_at h hn)
theorem zpRnF_le (t : Nat → Int32) (n : Nat) (lo hi : Int32) : ∀ f p, p ≤ n → zpRnF t n lo hi f p ≤ n ∧ p ≤ zpRnF t n lo hi f p
  | 0, p, h => ⟨h, Nat.le_refl p⟩
  | f + 1, p, h => by
    show (bif (decide (p < n) && (decide (lo ≤ t p) && decide (t p ≤ hi))) then zpRnF t n lo hi f (p + 1) else p) ≤ n ∧ p ≤ (bif (decide (p < n) && (decide (lo ≤ t p) && decide (t p ≤ hi))) then zpRnF t n lo hi f (p + 1) else p)
    by_cases c : p < n
    · rw [decide_eq_true c, Bool.true_and]
      cases (decide (lo ≤ t p) && decide (t p ≤ hi))
      · rw [zk_f]; exact ⟨h, Nat.le_refl p⟩
      · rw [zk_t]
        obtain ⟨a, b⟩ := zpRnF_le t n lo hi f (p + 1) (by omega)
        exact ⟨a, by omega⟩
    · rw [decide_eq_false c, Bool.false_and, zk_f]; exact ⟨h, Nat.le_refl p⟩
theorem zpRn_le {t : Nat → Int32} {n p : Nat} {lo hi : Int32} (h : p ≤ n) : zpRn t n lo hi p ≤ n ∧ p ≤ zpRn t n lo hi p := zpRnF_le t n lo hi 1000 p h
theorem zu_uu {M : zMem} {a i : Nat} {x y : Int32} : zz_up (zz_up M a i x) a i y = zz_up M a i y := by
  funext b j
  by_cases h : b = a ∧ j = i
  · rw [zu_at h.1 h.2, zu_at h.1 h.2]
  · rw [zu_o h, zu_o h, zu_o h]
theorem zu_id {M : zMem} {a i : Nat} {x : Int32} (h : M a i = x) : zz_up M a i x = M := by
  funext b j
  by_cases c : b = a ∧ j = i
  · rw [zu_at c.1 c.2, c.1, c.2, h]
  · rw [zu_o c]
/-- the class's tape stands at s -/
def zT (M : zMem) (t : Nat → Int32) (n : Nat) (s : Nat × Int32) : Prop := M 2 2 = Int32.ofNat n ∧ n ≤ 400 ∧ (∀ i, i < n → M 3 i = t i) ∧ M 2 3 = Int32.ofNat s.1 ∧ s.1 ≤ n ∧ M 2 4 = s.2
theorem zi_le {a b : Nat} (ha : a ≤ 100000) (hb : b ≤ 100000) : decide (Int32.ofNat a ≤ Int32.ofNat b) = decide (a ≤ b) := by
  rw [zi_lei, zi_val (by omega), zi_val (by omega)]
  exact decide_eq_decide.mpr (by omega)
theorem zi_lt' {a b : Nat} (ha : a ≤ 100000) (hb : b ≤ 100000) : decide (Int32.ofNat a < Int32.ofNat b) = decide (a < b) := by
  rw [zi_lti, zi_val (by omega), zi_val (by omega)]
  exact decide_eq_decide.mpr (by omega)
theorem zT_mvF {M : zMem} {t : Nat → Int32} {n : Nat} (h2 : M 2 2 = Int32.ofNat n) (hn : n ≤ 400) (ht : ∀ i, i < n → M 3 i = t i) (x : Int32) : ∀ f i q, q ≤ n → n < f + q → zf_wh f (g_T_moveTo_1 M x) i (zz_up M 2 3 (Int32.ofNat q)) = zz_up M 2 3 (Int32.ofNat (zpSkF t n f q)) ∧ zf_wk f (g_T_moveTo_1 M x) (kb_T_moveTo_1 M x) i (zz_up M 2 3 (Int32.ofNat q))
  | 0, i, q, hq, hf => by omega
  | f + 1, i, q, hq, hf => by
    have e22 : (zz_up M 2 3 (Int32.ofNat q)) 2 2 = Int32.ofNat n := by rw [zu_o (by omega)]; exact h2
    have e23 : (zz_up M 2 3 (Int32.ofNat q)) 2 3 = Int32.ofNat q := zu_eq
    have e3 : (zz_up M 2 3 (Int32.ofNat q)) 3 q = M 3 q := zu_o (by omega)
    have ek : kb_T_moveTo_1 M x i (zz_up M 2 3 (Int32.ofNat q)) := by
      unfold kb_T_moveTo_1
      rw [e22, e23, zi_le (by omega) (by omega)]
      intro hd
      have := of_decide_eq_false hd
      exact zi_in (by omega) (by omega)
    have eg : g_T_moveTo_1 M x i (zz_up M 2 3 (Int32.ofNat q)) = (bif (decide (q < n) && decide (t q = 32)) then (true, zz_up M 2 3 (Int32.ofNat (q + 1))) else (false, zz_up M 2 3 (Int32.ofNat q))) := by
      unfold g_T_moveTo_1
      rw [e22, e23, zi_le (by omega) (by omega), zi_nat (by omega), e3]
      by_cases c : q < n
      · rw [decide_eq_false (show ¬ n ≤ q by omega), decide_eq_true c, ht q c, Bool.true_and]
        cases decide (t q = 32)
        · simp only [zk_f]
        · simp only [zk_f, zk_t, zu_uu]
          rw [show Int32.ofNat q + (1 : Int32) = Int32.ofNat (q + 1) from zi_ad q 1]
      · rw [decide_eq_true (show n ≤ q by omega), decide_eq_false c, Bool.false_and]
        simp only [zk_f, zk_t]
    show _ = zz_up M 2 3 (Int32.ofNat (bif (decide (q < n) && decide (t q = 32)) then zpSkF t n f (q + 1) else q)) ∧ _
    cases hc : (decide (q < n) && decide (t q = 32)) with
    | false =>
      rw [hc, zk_f] at eg
      rw [zk_f]
      exact ⟨zf_w0 eg, zf_k0 eg ek⟩
    | true =>
      rw [hc, zk_t] at eg
      rw [zk_t]
      rw [Bool.and_eq_true] at hc
      have hq2 := of_decide_eq_true hc.1
      obtain ⟨a, b⟩ := zT_mvF h2 hn ht x f (i + 1) (q + 1) (by omega) (by omega)
      exact ⟨by rw [zf_w1 eg]; exact a, zf_k1 eg ek b⟩
theorem zT_mv {M : zMem} {t : Nat → Int32} {n q : Nat} (h2 : M 2 2 = Int32.ofNat n) (hn : n ≤ 400) (ht : ∀ i, i < n → M 3 i = t i) (hq : q ≤ n) : w_T_moveTo M (Int32.ofNat q) = zz_up M 2 3 (Int32.ofNat (zpSk t n q)) ∧ ok_T_moveTo M (Int32.ofNat q) := zT_mvF h2 hn ht (Int32.ofNat q) 1000 0 q hq (by omega)
theorem zT_rnF {M : zMem} {t : Nat → Int32} {n : Nat} (h2 : M 2 2 = Int32.ofNat n) (hn : n ≤ 400) (ht : ∀ i, i < n → M 3 i = t i) (lo hi : Int32) : ∀ f i q, q ≤ n → n < f + q → zf_wh f (g_T_runEnd_1 M lo hi) i (Int32.ofNat q) = Int32.ofNat (zpRnF t n lo hi f q) ∧ zf_wk f (g_T_runEnd_1 M lo hi) (kb_T_runEnd_1 M lo hi) i (Int32.ofNat q)
  | 0, i, q, hq, hf => by omega
  | f + 1, i, q, hq, hf => by
    have ek : kb_T_runEnd_1 M lo hi i (Int32.ofNat q) := by
      unfold kb_T_runEnd_1
      rw [h2, zi_le (by omega) (by omega)]
      intro hd
      have := of_decide_eq_false hd
      exact zi_in (by omega) (by omega)
    have eg : g_T_runEnd_1 M lo hi i (Int32.ofNat q) = (bif (decide (q < n) && (decide (lo ≤ t q) && decide (t q ≤ hi))) then (true, Int32.ofNat (q + 1)) else (false, Int32.ofNat q)) := by
      unfold g_T_runEnd_1
      rw [h2, zi_le (by omega) (by omega), zi_nat (by omega)]
      by_cases c : q < n
      · rw [decide_eq_false (show ¬ n ≤ q by omega), decide_eq_true c, ht q c, Bool.true_and, zi_lti (t q) lo, zi_lti hi (t q), zi_lei lo (t q), zi_lei (t q) hi]
        by_cases c1 : (t q).toInt < lo.toInt
        · rw [decide_eq_true c1, decide_eq_false (show ¬ lo.toInt ≤ (t q).toInt by omega), Bool.false_and]
          simp only [zk_f, zk_t]
        · rw [decide_eq_false c1, decide_eq_true (show lo.toInt ≤ (t q).toInt by omega), Bool.true_and]
          by_cases c2 : hi.toInt < (t q).toInt
          · rw [decide_eq_true c2, decide_eq_false (show ¬ (t q).toInt ≤ hi.toInt by omega)]
            simp only [zk_f, zk_t]
          · rw [decide_eq_false c2, decide_eq_true (show (t q).toInt ≤ hi.toInt by omega)]
            simp only [zk_f, zk_t]
            rw [show Int32.ofNat q + (1 : Int32) = Int32.ofNat (q + 1) from zi_ad q 1]
      · rw [decide_eq_true (show n ≤ q by omega), decide_eq_false c, Bool.false_and]
        simp only [zk_f, zk_t]
    show _ = Int32.ofNat (bif (decide (q < n) && (decide (lo ≤ t q) && decide (t q ≤ hi))) then zpRnF t n lo hi f (q + 1) else q) ∧ _
    cases hc : (decide (q < n) && (decide (lo ≤ t q) && decide (t q ≤ hi))) with
    | false =>
      rw [hc, zk_f] at eg
      rw [zk_f]
      exact ⟨zf_w0 eg, zf_k0 eg ek⟩
    | true =>
      rw [hc, zk_t] at eg
      rw [zk_t]
      rw [Bool.and_eq_true] at hc
      have hq2 := of_decide_eq_true hc.1
      obtain ⟨a, b⟩ := zT_rnF h2 hn ht lo hi f (i + 1) (q + 1) (by omega) (by omega)
      exact ⟨by rw [zf_w1 eg]; exact a, zf_k1 eg ek b⟩
theorem zT_rn {M : zMem} {t : Nat → Int32} {n : Nat} {s : Nat × Int32} (h : zT M t n s) (lo hi : Int32) : v_T_runEnd M lo hi = Int32.ofNat (zpRn t n lo hi s.1) ∧ ok_T_runEnd M lo hi := by
  obtain ⟨h2, hn, ht, h3, hp, h4⟩ := h
  unfold v_T_runEnd ok_T_runEnd
  rw [h3]
  exact zT_rnF h2 hn ht lo hi 1000 0 s.1 hp (by omega)
/-- the tape moves on -/
theorem zT_up {M : zMem} {t : Nat → Int32} {n q : Nat} {s : Nat × Int32} (h : zT M t n s) (hq : q ≤ n) : zT (zz_up M 2 3 (Int32.ofNat q)) t n (q, s.2) := by
  obtain ⟨h2, hn, ht, h3, hp, h4⟩ := h
  exact ⟨by rw [zu_o (by omega)]; exact h2, hn, fun i hi => by rw [zu_o (by omega)]; exact ht i hi, zu_eq, hq, by rw [zu_o (by omega)]; exact h4⟩
theorem zT_to {M : zMem} {t : Nat → Int32} {n q : Nat} {s : Nat × Int32} (h : zT M t n s) (hq : q ≤ n) : w_T_moveTo M (Int32.ofNat q) = zz_up M 2 3 (Int32.ofNat (zpSk t n q)) ∧ ok_T_moveTo M (Int32.ofNat q) ∧ zT (zz_up M 2 3 (Int32.ofNat (zpSk t n q))) t n (zpSk t n q, s.2) := by
  obtain ⟨a, b⟩ := zT_mv h.1 h.2.1 h.2.2.1 hq
  exact ⟨a, b, zT_up h (zpSk_le hq).1⟩
theorem zT_fl {M : zMem} {t : Nat → Int32} {n : Nat} {s : Nat × Int32} (h : zT M t n s) : w_T_fail M = zz_up (zz_up M 2 4 (zpFail n s).2) 2 3 (Int32.ofNat n) ∧ zT (w_T_fail M) t n (zpFail n s) := by
  obtain ⟨h2, hn, ht, h3, hp, h4⟩ := h
  have e : w_T_fail M = zz_up (zz_up M 2 4 (zpFail n s).2) 2 3 (Int32.ofNat n) := by
    unfold w_T_fail zy_l zpFail
    rw [h4, h3]
    by_cases c : s.2 = -1
    · rw [decide_eq_true c, zk_t, zk_t]
      show zz_up (zz_up M 2 4 (Int32.ofNat s.1)) 2 3 ((zz_up M 2 4 (Int32.ofNat s.1)) 2 2) = zz_up (zz_up M 2 4 (Int32.ofNat s.1)) 2 3 (Int32.ofNat n)
      rw [zu_o (by omega), h2]
    · rw [decide_eq_false c, zk_f, zk_f]
      show zz_up M 2 3 (M 2 2) = zz_up (zz_up M 2 4 s.2) 2 3 (Int32.ofNat n)
      rw [h2, zu_id h4]
  refine ⟨e, ?_⟩
  rw [e]
  exact ⟨by rw [zu_o (by omega), zu_o (by omega)]; exact h2, hn, fun i hi => by rw [zu_o (by omega), zu_o (by omega)]; exact ht i hi, zu_eq, Nat.le_refl n, by rw [zu_o (by omega), zu_eq]⟩
theorem zT_sg {M : zMem} {t : Nat → Int32} {n : Nat} {s : Nat × Int32} (h : zT M t n s) (c : Int32) : v_T_takeSign M c = zpSg t n c s ∧ w_T_takeSign M c = (bif zpSg t n c s then zz_up M 2 3 (Int32.ofNat (zpNx t n s).1) else M) ∧ ok_T_takeSign M c ∧ zT (w_T_takeSign M c) t n (bif zpSg t n c s then zpNx t n s else s) := by
  have h0 := h
  obtain ⟨h2, hn, ht, h3, hp, h4⟩ := h
  unfold v_T_takeSign w_T_takeSign ok_T_takeSign zpSg
  rw [h2, h3, zi_le (by omega) (by omega), zi_nat (by omega)]
  by_cases q : s.1 < n
  · obtain ⟨m1, m2, m3⟩ := zT_to h0 (q := s.1 + 1) (by omega)
    rw [decide_eq_false (show ¬ n ≤ s.1 by omega), decide_eq_true q, ht s.1 q, Bool.true_and, zk_f, zk_f, show Int32.ofNat s.1 + (1 : Int32) = Int32.ofNat (s.1 + 1) from zi_ad s.1 1, m1]
    refine ⟨rfl, rfl, fun _ => ⟨zi_in (by omega) (by omega), fun _ => m2⟩, ?_⟩
    cases decide (t s.1 = c)
    · rw [zk_f, zk_f]; exact h0
    · rw [zk_t, zk_t]; exact m3
  · rw [decide_eq_true (show n ≤ s.1 by omega), decide_eq_false q, Bool.false_and, zk_t, zk_t, zk_f, zk_f]
    exact ⟨rfl, rfl, (fun hh => by cases hh), h0⟩
theorem zT_ns {M : zMem} {t : Nat → Int32} {n : Nat} {s : Nat × Int32} (h : zT M t n s) (c : Int32) : zT (w_T_needSign M c) t n (zpNeed t n c s) ∧ ok_T_needSign M c ∧ (∀ a i, ¬ (a = 2 ∧ (i = 3 ∨ i = 4)) → w_T_needSign M c a i = M a i) := by
  obtain ⟨a, b, d, e⟩ := zT_sg h c
  unfold w_T_needSign ok_T_needSign zpNeed
  rw [a]
  cases hc : zpSg t n c s with
  | true =>
    rw [hc, zk_t] at b e
    rw [zk_t, zk_t]
    exact ⟨e, d, fun a i hi => by rw [b, zu_o (by omega)]⟩
  | false =>
    rw [hc, zk_f] at b e
    rw [zk_f, zk_f, b]
    obtain ⟨f1, f2⟩ := zT_fl h
    exact ⟨f2, d, fun a i hi => by rw [f1, zu_o (by omega), zu_o (by omega)]⟩
