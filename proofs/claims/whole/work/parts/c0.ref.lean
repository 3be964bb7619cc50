/-! THE REFERENCE reads the same text. -/
def zRt (M : zMem) (t : Nat → Int32) (n : Nat) : Prop := n ≤ 400 ∧ M 194 10 = Int32.ofNat n ∧ ((M 194 9 = -1 ∧ ∀ i, i < n → M 199 i = t i) ∨ (M 194 9 = 309 ∧ ∀ i, i < n → M 195 (309 + i) = t i))
def zR (M : zMem) (t : Nat → Int32) (n : Nat) (s : Nat × Int32) (d : Nat) : Prop := zRt M t n ∧ M 194 12 = s.2 ∧ (M 194 13 = Int32.ofNat d ∧ d ≤ 6) ∧ ∃ q, M 194 11 = Int32.ofNat q ∧ q ≤ n + (7 - d) ∧ (s.2 = -1 → q ≤ n ∧ zpSk t n q = s.1)
def zRf (M M' : zMem) : Prop := ∀ a i, ¬ (a = 194 ∧ (i = 11 ∨ i = 12 ∨ i = 13)) → M' a i = M a i
theorem zRf_rf (M : zMem) : zRf M M := fun _ _ _ => rfl
theorem zRf_tr {M N P : zMem} (a : zRf M N) (b : zRf N P) : zRf M P := fun x i h => (b x i h).trans (a x i h)
theorem zRf_u {M : zMem} {i : Nat} {x : Int32} (h : i = 11 ∨ i = 12 ∨ i = 13) : zRf M (zz_up M 194 i x) := fun a j hj => zu_o (by omega)
theorem zRt_f {M M' : zMem} {t : Nat → Int32} {n : Nat} (h : zRt M t n) (f : zRf M M') : zRt M' t n := by
  obtain ⟨a, b, c⟩ := h
  refine ⟨a, by rw [f 194 10 (by omega)]; exact b, ?_⟩
  rcases c with ⟨c1, c2⟩ | ⟨c1, c2⟩
  · exact Or.inl ⟨by rw [f 194 9 (by omega)]; exact c1, fun i hi => by rw [f 199 i (by omega)]; exact c2 i hi⟩
  · exact Or.inr ⟨by rw [f 194 9 (by omega)]; exact c1, fun i hi => by rw [f 195 _ (by omega)]; exact c2 i hi⟩
theorem zR_lt {M : zMem} {t : Nat → Int32} {n k : Nat} (h : zRt M t n) (hk : k < n) : v_D_letter M (Int32.ofNat k) = t k ∧ ok_D_letter M (Int32.ofNat k) := by
  obtain ⟨a, b, c⟩ := h
  unfold v_D_letter ok_D_letter
  rcases c with ⟨c1, c2⟩ | ⟨c1, c2⟩
  · rw [c1, decide_eq_true (show (-1 : Int32) = -1 from rfl), zk_t, zi_nat (by omega)]
    exact ⟨c2 k hk, fun _ => zi_in (by omega) (by omega), (fun hh => by cases hh)⟩
  · have e : (309 : Int32) + Int32.ofNat k = Int32.ofNat (309 + k) := zi_ad 309 k
    rw [c1, show decide ((309 : Int32) = (-1 : Int32)) = false from by decide, zk_f, e, zi_nat (by omega)]
    exact ⟨c2 k hk, (fun hh => by cases hh), fun _ => zi_in (by omega) (by omega)⟩
theorem zR_skF {M0 : zMem} {t : Nat → Int32} {n : Nat} (M1 : zMem) (h : zRt M0 t n) : ∀ f i q, q ≤ n + 100 → n + 100 < f + q → zf_wh f (g_D_skip_1 M1) i (zz_up M0 194 11 (Int32.ofNat q)) = zz_up M0 194 11 (Int32.ofNat (zpSkF t n f q)) ∧ zf_wk f (g_D_skip_1 M1) (kb_D_skip_1 M1) i (zz_up M0 194 11 (Int32.ofNat q))
  | 0, i, q, hq, hf => by omega
  | f + 1, i, q, hq, hf => by
    have hn := h.1
    have h2 : zRt (zz_up M0 194 11 (Int32.ofNat q)) t n := zRt_f h (zRf_u (Or.inl rfl))
    have e11 : (zz_up M0 194 11 (Int32.ofNat q)) 194 11 = Int32.ofNat q := zu_eq
    have ek : kb_D_skip_1 M1 i (zz_up M0 194 11 (Int32.ofNat q)) := by
      unfold kb_D_skip_1
      rw [h2.2.1, e11, zi_le (by omega) (by omega)]
      intro hd
      exact (zR_lt h2 (by have := of_decide_eq_false hd; omega)).2
    have eg : g_D_skip_1 M1 i (zz_up M0 194 11 (Int32.ofNat q)) = (bif (decide (q < n) && decide (t q = 32)) then (true, zz_up M0 194 11 (Int32.ofNat (q + 1))) else (false, zz_up M0 194 11 (Int32.ofNat q))) := by
      unfold g_D_skip_1
      rw [h2.2.1, e11, zi_le (by omega) (by omega)]
      by_cases c : q < n
      · rw [decide_eq_false (show ¬ n ≤ q by omega), decide_eq_true c, (zR_lt h2 c).1, Bool.true_and]
        cases decide (t q = 32)
        · simp only [zk_f]
        · simp only [zk_f, zk_t, zu_uu]
          rw [show Int32.ofNat q + (1 : Int32) = Int32.ofNat (q + 1) from zi_ad q 1]
      · rw [decide_eq_true (show n ≤ q by omega), decide_eq_false c, Bool.false_and]
        simp only [zk_f, zk_t]
    show _ = zz_up M0 194 11 (Int32.ofNat (bif (decide (q < n) && decide (t q = 32)) then zpSkF t n f (q + 1) else q)) ∧ _
    cases hc : (decide (q < n) && decide (t q = 32)) with
    | false =>
      rw [hc, zk_f] at eg
      rw [zk_f]
      exact ⟨zf_w0 eg, zf_k0 eg ek⟩
    | true =>
      rw [hc, zk_t] at eg
      rw [zk_t]
      rw [Bool.and_eq_true] at hc
      have hq2 := of_decide_eq_true hc.1
      obtain ⟨a, b⟩ := zR_skF M1 h f (i + 1) (q + 1) (by omega) (by omega)
      exact ⟨by rw [zf_w1 eg]; exact a, zf_k1 eg ek b⟩
/-- skipping -/
theorem zR_sk {M : zMem} {t : Nat → Int32} {n d : Nat} {s : Nat × Int32} (h : zR M t n s d) : zR (w_D_skip M) t n s d ∧ ok_D_skip M ∧ zRf M (w_D_skip M) ∧ (s.2 = -1 → w_D_skip M = zz_up M 194 11 (Int32.ofNat s.1) ∧ s.1 ≤ n ∧ zpSk t n s.1 = s.1) := by
  obtain ⟨h1, h2, h3, q, h4, h5, h6⟩ := h
  have hn := h1.1
  obtain ⟨a, b⟩ := zR_skF M h1 1000 0 q (by omega) (by omega)
  rw [zu_id h4] at a b
  have ew : w_D_skip M = zz_up M 194 11 (Int32.ofNat (zpSk t n q)) := a
  have f : zRf M (w_D_skip M) := by rw [ew]; exact zRf_u (Or.inl rfl)
  have hle : zpSk t n q ≤ n + (7 - d) := by
    by_cases c : q ≤ n
    · have := (zpSk_le (t := t) c).1
      omega
    · rw [zpSk_id (fun hh => by omega)]; exact h5
  refine ⟨⟨zRt_f h1 f, by rw [ew, zu_o (by omega)]; exact h2, by rw [ew, zu_o (by omega)]; exact h3, zpSk t n q, by rw [ew, zu_eq], hle, fun hh => ?_⟩, b, f, fun hh => ?_⟩
  · obtain ⟨u1, u2⟩ := h6 hh
    exact ⟨(zpSk_le u1).1, by rw [zpSk_id2 u1 h1.1]; exact u2⟩
  · obtain ⟨u1, u2⟩ := h6 hh
    rw [← u2]
    exact ⟨ew, (zpSk_le u1).1, zpSk_id2 u1 h1.1⟩
/-- behind skipping, in a good state -/
theorem zR_at {M : zMem} {t : Nat → Int32} {n d : Nat} {s : Nat × Int32} (h : zR M t n s d) (hs : s.2 = -1) : (w_D_skip M) 194 11 = Int32.ofNat s.1 ∧ (w_D_skip M) 194 10 = Int32.ofNat n ∧ s.1 ≤ n := by
  obtain ⟨a, b, c, e⟩ := zR_sk h
  obtain ⟨e1, e2, e3⟩ := e hs
  exact ⟨by rw [e1, zu_eq], a.1.2.1, e2⟩
theorem zR_to {M : zMem} {t : Nat → Int32} {n d q : Nat} {s s' : Nat × Int32} (h : zR M t n s d) (hs : s'.2 = s.2) (hq : q ≤ n) (hk : zpSk t n q = s'.1) : zR (zz_up M 194 11 (Int32.ofNat q)) t n s' d := by
  obtain ⟨h1, h2, h3, -⟩ := h
  exact ⟨zRt_f h1 (zRf_u (Or.inl rfl)), by rw [zu_o (by omega), hs]; exact h2, by rw [zu_o (by omega)]; exact h3, q, zu_eq, by omega, fun _ => ⟨hq, hk⟩⟩
theorem zR_sg {M : zMem} {t : Nat → Int32} {n d : Nat} {s : Nat × Int32} (h : zR M t n s d) (hs : s.2 = -1) (c : Int32) : v_D_isSign M c = zpSg t n c s ∧ ok_D_isSign M c ∧ zR (w_D_isSign M c) t n s d ∧ zRf M (w_D_isSign M c) ∧ (w_D_isSign M c) 194 11 = Int32.ofNat s.1 ∧ (zpSg t n c s = true → zR (zz_up (w_D_isSign M c) 194 11 ((w_D_isSign M c) 194 11 + (1 : Int32))) t n (zpNx t n s) d ∧ zRf M (zz_up (w_D_isSign M c) 194 11 ((w_D_isSign M c) 194 11 + (1 : Int32)))) := by
  obtain ⟨a1, a2, a3, -⟩ := zR_sk h
  obtain ⟨b1, b2, b3⟩ := zR_at h hs
  have hn := h.1.1
  have hv : v_D_isSign M c = zpSg t n c s := by
    unfold v_D_isSign zpSg
    rw [b1, b2, zi_le (by omega) (by omega)]
    by_cases q : s.1 < n
    · rw [decide_eq_false (show ¬ n ≤ s.1 by omega), decide_eq_true q, zk_f, Bool.true_and, (zR_lt a1.1 q).1]
    · rw [decide_eq_true (show n ≤ s.1 by omega), decide_eq_false q, zk_t, Bool.false_and]
  refine ⟨hv, ⟨a2, fun hd => ?_⟩, a1, a3, b1, fun hh => ?_⟩
  · rw [b1, b2, zi_le (by omega) (by omega)] at hd
    rw [b1]
    exact (zR_lt a1.1 (by have := of_decide_eq_false hd; omega)).2
  · unfold zpSg at hh
    rw [Bool.and_eq_true] at hh
    have hq := of_decide_eq_true hh.1
    show zR (zz_up (w_D_skip M) 194 11 ((w_D_skip M) 194 11 + (1 : Int32))) t n (zpNx t n s) d ∧ zRf M (zz_up (w_D_skip M) 194 11 ((w_D_skip M) 194 11 + (1 : Int32)))
    rw [b1, show Int32.ofNat s.1 + (1 : Int32) = Int32.ofNat (s.1 + 1) from zi_ad s.1 1]
    exact ⟨zR_to a1 rfl (by omega) rfl, zRf_tr a3 (zRf_u (Or.inl rfl))⟩
theorem zg_inn (x a b : Int32) : v_D_isIn x a b = (decide (a ≤ x) && decide (x ≤ b)) := by
  rw [zg_in, zi_lei, zi_lei]
  by_cases h1 : a.toInt ≤ x.toInt
  · by_cases h2 : x.toInt ≤ b.toInt
    · rw [decide_eq_true h1, decide_eq_true h2, decide_eq_true ⟨h1, h2⟩]; rfl
    · rw [decide_eq_false h2, decide_eq_false (by omega), Bool.and_false]
  · rw [decide_eq_false h1, decide_eq_false (by omega), Bool.false_and]
theorem zR_rnF {M0 : zMem} {t : Nat → Int32} {n : Nat} (M : zMem) (k : Nat) (h2 : zRt (w_D_skip M) t n) : ∀ f i q, q ≤ n → n < f + q → zf_wh f (g_D_has_1 M k) i (Int32.ofNat q) = Int32.ofNat (zpRnF t n 97 122 f q) ∧ zf_wk f (g_D_has_1 M k) (kb_D_has_1 M k) i (Int32.ofNat q)
  | 0, i, q, hq, hf => by omega
  | f + 1, i, q, hq, hf => by
    have hn := h2.1
    have ek : kb_D_has_1 M k i (Int32.ofNat q) := by
      unfold kb_D_has_1
      rw [h2.2.1, zi_le (by omega) (by omega)]
      intro hd
      exact (zR_lt h2 (by have := of_decide_eq_false hd; omega)).2
    have eg : g_D_has_1 M k i (Int32.ofNat q) = (bif (decide (q < n) && (decide ((97 : Int32) ≤ t q) && decide (t q ≤ (122 : Int32)))) then (true, Int32.ofNat (q + 1)) else (false, Int32.ofNat q)) := by
      unfold g_D_has_1
      rw [h2.2.1, zi_le (by omega) (by omega)]
      by_cases c : q < n
      · rw [decide_eq_false (show ¬ n ≤ q by omega), decide_eq_true c, (zR_lt h2 c).1, Bool.true_and, zg_inn]
        cases (decide ((97 : Int32) ≤ t q) && decide (t q ≤ (122 : Int32)))
        · simp only [zk_f]
        · simp only [zk_f, zk_t]
          rw [show Int32.ofNat q + (1 : Int32) = Int32.ofNat (q + 1) from zi_ad q 1]
      · rw [decide_eq_true (show n ≤ q by omega), decide_eq_false c, Bool.false_and]
        simp only [zk_f, zk_t]
    show _ = Int32.ofNat (bif (decide (q < n) && (decide ((97 : Int32) ≤ t q) && decide (t q ≤ (122 : Int32)))) then zpRnF t n 97 122 f (q + 1) else q) ∧ _
    cases hc : (decide (q < n) && (decide ((97 : Int32) ≤ t q) && decide (t q ≤ (122 : Int32)))) with
    | false =>
      rw [hc, zk_f] at eg
      rw [zk_f]
      exact ⟨zf_w0 eg, zf_k0 eg ek⟩
    | true =>
      rw [hc, zk_t] at eg
      rw [zk_t]
      rw [Bool.and_eq_true] at hc
      have hq2 := of_decide_eq_true hc.1
      obtain ⟨a, b⟩ := zR_rnF (M0 := M0) M k h2 f (i + 1) (q + 1) (by omega) (by omega)
      exact ⟨by rw [zf_w1 eg]; exact a, zf_k1 eg ek b⟩
/-- words -/
theorem zR_wd {M : zMem} {t : Nat → Int32} {n d : Nat} {s : Nat × Int32} (h : zR M t n s d) (hs : s.2 = -1) (k j : Nat) (hW : zpW j = zpW k) (hk : (zpW k).length ≤ 100) : v_D_has M j = zpHas t n k s ∧ ok_D_has M j ∧ (zpHas t n k s = true → zR (w_D_has M j) t n (zpAft t n k s) d) ∧ (zpHas t n k s = false → zR (w_D_has M j) t n s d ∧ (w_D_has M j) 194 11 = Int32.ofNat s.1) ∧ zRf M (w_D_has M j) := by
  obtain ⟨a1, a2, a3, -⟩ := zR_sk h
  obtain ⟨b1, b2, b3⟩ := zR_at h hs
  have hn := h.1.1
  obtain ⟨r1, r2⟩ := zR_rnF (M0 := M) M j a1.1 1000 0 s.1 b3 (by omega)
  have l := zpRn_le (t := t) (lo := 97) (hi := 122) b3
  have r1 : zf_wh 1000 (g_D_has_1 M j) 0 (Int32.ofNat s.1) = Int32.ofNat (zpRn t n 97 122 s.1) := r1
  have hJ : (zz_S.getD j []) = zpW k := hW
  unfold v_D_has w_D_has ok_D_has zpHas zpIs
  rw [b1, r1, hJ, zN_sub l.2, zN_eq (by omega) (by omega)]
  by_cases c : zpRn t n 97 122 s.1 = s.1 + (zpW k).length
  · rw [decide_eq_true (show zpRn t n 97 122 s.1 - s.1 = (zpW k).length by omega), decide_eq_true c, Bool.true_and, zk_t, zk_t]
    have loop := zf_wq (g := g_D_has_2 M j) (k := kb_D_has_2 M j) (fun i (a : Bool × Bool) => i ≤ (zpW k).length ∧ a = (false, false) ∧ ∀ x, x < i → t (s.1 + x) = (zpW k).getD x 0) (fun a => a.1 = !zpEq t (zpW k) s.1 ∧ (a.1 = true → a.2 = false)) (zpW k).length (fun i a ⟨hi, ha, hj⟩ => by
      subst ha
      unfold g_D_has_2 kb_D_has_2
      simp only []
      rw [b1, hJ, zi_le (by omega) (by omega), show Int32.ofNat s.1 + Int32.ofNat i = Int32.ofNat (s.1 + i) from zi_ad s.1 i, zi_nat (by omega)]
      by_cases q : (zpW k).length ≤ i
      · rw [decide_eq_true q]
        simp only [zk_t]
        refine ⟨hi, (fun hh => by cases hh), (fun hh => by cases hh), fun _ => ⟨?_, (fun hh => by cases hh)⟩⟩
        rw [(zpEq_iff t (zpW k) s.1).mpr (fun x hx => hj x (by omega))]
        rfl
      · have hlt : s.1 + i < n := by omega
        rw [decide_eq_false q, (zR_lt a1.1 hlt).1]
        have hok := (zR_lt a1.1 hlt).2
        by_cases q2 : t (s.1 + i) = (zpW k).getD i 0
        · rw [decide_eq_true q2]
          simp only [zk_t, zk_f]
          refine ⟨hi, fun _ => ⟨hok, zi_in (by omega) (by omega)⟩, fun _ => ⟨by omega, trivial, fun x hx => ?_⟩, (fun hh => by cases hh)⟩
          by_cases e : x = i
          · rw [e]; exact q2
          · exact hj x (by omega)
        · rw [decide_eq_false q2]
          simp only [zk_f]
          refine ⟨hi, fun _ => ⟨hok, zi_in (by omega) (by omega)⟩, (fun hh => by cases hh), fun _ => ⟨?_, fun _ => trivial⟩⟩
          cases he : zpEq t (zpW k) s.1 with
          | false => rfl
          | true => exact absurd ((zpEq_iff t (zpW k) s.1).mp he i (by omega)) q2) 1000 0 ((false, false) : Bool × Bool) ⟨by omega, rfl, fun x hx => by omega⟩ (by omega)
    obtain ⟨⟨q1, q2⟩, q3⟩ := loop
    cases he : zpEq t (zpW k) s.1 with
    | true =>
      rw [he] at q1
      have q1 : _ = false := q1
      rw [q1, zk_f, zk_f]
      refine ⟨rfl, ⟨a2, r2, fun _ => q3⟩, fun _ => ?_, (fun hh => by cases hh), zRf_tr a3 (zRf_u (Or.inl rfl))⟩
      refine zR_to a1 rfl l.1 ?_
      show _ = zpSk t n (s.1 + (zpW k).length)
      rw [c]
    | false =>
      rw [he] at q1
      have q1 : _ = true := q1
      rw [q1, zk_t, zk_t, q2 q1]
      exact ⟨rfl, ⟨a2, r2, fun _ => q3⟩, (fun hh => by cases hh), fun _ => ⟨a1, b1⟩, a3⟩
  · rw [decide_eq_false (show ¬ zpRn t n 97 122 s.1 - s.1 = (zpW k).length by omega), decide_eq_false c, Bool.false_and, zk_f, zk_f]
    exact ⟨rfl, ⟨a2, r2, (fun hh => by cases hh)⟩, (fun hh => by cases hh), fun _ => ⟨a1, b1⟩, a3⟩
/-- wrong, where the reader stands -/
theorem zR_wr {M : zMem} {t : Nat → Int32} {n d p : Nat} {s : Nat × Int32} (h : zR M t n s d) (hs : s.2 = -1) (hp : p = s.1) : zR (w_D_wrong M (Int32.ofNat p)) t n (zpFail n s) d ∧ zRf M (w_D_wrong M (Int32.ofNat p)) := by
  obtain ⟨h1, h2, h3, q, h4, h5, h6⟩ := h
  have hn := h1.1
  have hs1 : s.1 ≤ n := by
    obtain ⟨u1, u2⟩ := h6 hs
    rw [← u2]; exact (zpSk_le u1).1
  have ew : w_D_wrong M (Int32.ofNat p) = zz_up M 194 12 (Int32.ofNat p) := by
    unfold w_D_wrong
    rw [h2, decide_eq_true hs, zk_t]
  have f : zRf M (zz_up M 194 12 (Int32.ofNat p)) := zRf_u (Or.inr (Or.inl rfl))
  rw [ew]
  refine ⟨⟨zRt_f h1 f, ?_, by rw [zu_o (by omega)]; exact h3, q, by rw [zu_o (by omega)]; exact h4, h5, fun hh => absurd hh (zpFl_ne hn hs1)⟩, f⟩
  rw [zu_eq]
  unfold zpFail
  rw [decide_eq_true hs, hp]; rfl
/-- figures stand where a run of them is -/
theorem zpRnF_in (t : Nat → Int32) (n : Nat) (lo hi : Int32) : ∀ f p, ∀ j, p ≤ j → j < zpRnF t n lo hi f p → (j < n ∧ lo ≤ t j ∧ t j ≤ hi)
  | 0, p, j, h1, h2 => by
    have h2 : j < p := h2
    omega
  | f + 1, p, j, h1, h2 => by
    have h2 : j < (bif (decide (p < n) && (decide (lo ≤ t p) && decide (t p ≤ hi))) then zpRnF t n lo hi f (p + 1) else p) := h2
    cases hc : (decide (p < n) && (decide (lo ≤ t p) && decide (t p ≤ hi))) with
    | false => rw [hc, zk_f] at h2; omega
    | true =>
      rw [hc, zk_t] at h2
      rw [Bool.and_eq_true, Bool.and_eq_true] at hc
      by_cases e : j = p
      · subst e
        exact ⟨of_decide_eq_true hc.1, of_decide_eq_true hc.2.1, of_decide_eq_true hc.2.2⟩
      · exact zpRnF_in t n lo hi f (p + 1) j (by omega) h2
/-- and its end is an end -/
theorem zpRnF_out (t : Nat → Int32) (n : Nat) (lo hi : Int32) : ∀ f p, p ≤ n → n < f + p → (zpRnF t n lo hi f p < n → ¬ (lo ≤ t (zpRnF t n lo hi f p) ∧ t (zpRnF t n lo hi f p) ≤ hi))
  | 0, p, h, hf => by omega
  | f + 1, p, h, hf => by
    show (bif (decide (p < n) && (decide (lo ≤ t p) && decide (t p ≤ hi))) then zpRnF t n lo hi f (p + 1) else p) < n → ¬ (lo ≤ t (bif (decide (p < n) && (decide (lo ≤ t p) && decide (t p ≤ hi))) then zpRnF t n lo hi f (p + 1) else p) ∧ t (bif (decide (p < n) && (decide (lo ≤ t p) && decide (t p ≤ hi))) then zpRnF t n lo hi f (p + 1) else p) ≤ hi)
    cases hc : (decide (p < n) && (decide (lo ≤ t p) && decide (t p ≤ hi))) with
    | false =>
      rw [zk_f]
      intro hp ⟨u, v⟩
      rw [decide_eq_true hp, decide_eq_true u, decide_eq_true v] at hc
      cases hc
    | true =>
      rw [zk_t]
      rw [Bool.and_eq_true] at hc
      have hp := of_decide_eq_true hc.1
      exact zpRnF_out t n lo hi f (p + 1) (by omega) (by omega)
theorem zpDg_r {t : Nat → Int32} {p : Nat} : ∀ k, k ≤ 4 → (∀ j, j < k → (48 : Int32) ≤ t (p + j) ∧ t (p + j) ≤ 57) → 0 ≤ (zpDg t p k).toInt ∧ (zpDg t p k).toInt < 10 ^ k
  | 0, _, _ => ⟨by show (0 : Int32).toInt ≥ 0; decide, by show (0 : Int32).toInt < 1; decide⟩
  | k + 1, hk, h => by
    obtain ⟨a, b⟩ := zpDg_r k (by omega) (fun j hj => h j (by omega))
    obtain ⟨c1, c2⟩ := h k (by omega)
    rw [Int32.le_iff_toInt_le] at c1 c2
    have e1 : (48 : Int32).toInt = 48 := rfl
    have e2 : (57 : Int32).toInt = 57 := rfl
    have e3 : (10 : Int32).toInt = 10 := rfl
    have hp : (10 : Int) ^ k ≤ 1000 := by
      match k, hk with
      | 0, _ => decide
      | 1, _ => decide
      | 2, _ => decide
      | 3, _ => decide
      | k + 4, hk => omega
    have m : (zpDg t p k * 10).toInt = (zpDg t p k).toInt * 10 := by
      rw [Int32.toInt_mul, e3]
      exact Int.bmod_eq_of_le (by omega) (by omega)
    have ad : (zpDg t p k * 10 + t (p + k)).toInt = (zpDg t p k).toInt * 10 + (t (p + k)).toInt := by
      rw [Int32.toInt_add, m]
      exact Int.bmod_eq_of_le (by omega) (by omega)
    show 0 ≤ (zpDg t p k * 10 + t (p + k) - 48).toInt ∧ (zpDg t p k * 10 + t (p + k) - 48).toInt < 10 ^ (k + 1)
    rw [zi_sub (by omega) (by omega), ad, e1, Int.pow_succ]
    omega
