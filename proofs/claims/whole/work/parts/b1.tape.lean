/-! words, numbers and lines on the class's tape -/
theorem zpEq_iff (t : Nat → Int32) : ∀ (w : List Int32) (p : Nat), zpEq t w p = true ↔ ∀ j, j < w.length → t (p + j) = w.getD j 0
  | [], p => ⟨(fun _ j hj => by cases hj), fun _ => rfl⟩
  | c :: w, p => by
    show (decide (t p = c) && zpEq t w (p + 1)) = true ↔ _
    rw [Bool.and_eq_true, decide_eq_true_iff, zpEq_iff t w (p + 1)]
    refine ⟨fun ⟨h1, h2⟩ j hj => ?_, fun h => ⟨h 0 (by show 0 < w.length + 1; omega), fun j hj => ?_⟩⟩
    · match j, hj with
      | 0, _ => exact h1
      | j + 1, hj =>
        have hj : j + 1 < w.length + 1 := hj
        have := h2 j (by omega)
        rw [show p + (j + 1) = p + 1 + j by omega]
        exact this
    · have := h (j + 1) (by show j + 1 < w.length + 1; omega)
      rw [show p + (j + 1) = p + 1 + j by omega] at this
      exact this
theorem zT_wd {M : zMem} {t : Nat → Int32} {n : Nat} {s : Nat × Int32} (h : zT M t n s) (k : Nat) (hk : (zpW k).length ≤ 100) : v_T_takeWord M k = zpHas t n k s ∧ w_T_takeWord M k = (bif zpHas t n k s then zz_up M 2 3 (Int32.ofNat (zpAft t n k s).1) else M) ∧ ok_T_takeWord M k ∧ zT (w_T_takeWord M k) t n (bif zpHas t n k s then zpAft t n k s else s) := by
  have h0 := h
  obtain ⟨h2, hn, ht, h3, hp, h4⟩ := h
  obtain ⟨r1, r2⟩ := zT_rn h0 (97 : Int32) (122 : Int32)
  obtain ⟨l1, l2⟩ := zpRn_le (t := t) (lo := 97) (hi := 122) hp
  have hW : (zz_S.getD k []) = zpW k := rfl
  unfold v_T_takeWord w_T_takeWord ok_T_takeWord zpHas zpIs
  rw [r1, h3, hW, zN_sub l2, zN_eq (by omega) (by omega)]
  by_cases c : zpRn t n 97 122 s.1 = s.1 + (zpW k).length
  · rw [decide_eq_true (show zpRn t n 97 122 s.1 - s.1 = (zpW k).length by omega), decide_eq_true c, Bool.true_and, zk_t, zk_t]
    have loop := zf_wq (g := g_T_takeWord_1 M k) (k := kb_T_takeWord_1 M k) (fun i (a : Int32 × Bool × Bool) => i ≤ (zpW k).length ∧ a = (Int32.ofNat (s.1 + i), false, false) ∧ ∀ j, j < i → t (s.1 + j) = (zpW k).getD j 0) (fun a => a.2.1 = !zpEq t (zpW k) s.1 ∧ (a.2.1 = true → a.2.2 = false)) (zpW k).length (fun i a ⟨hi, ha, hj⟩ => by
      subst ha
      unfold g_T_takeWord_1 kb_T_takeWord_1
      simp only []
      rw [r1, h3, hW, zi_le (by omega) (by omega), zi_nat (by omega), zN_sub (by omega), zi_nat (by omega), show s.1 + i - s.1 = i by omega]
      by_cases q : zpRn t n 97 122 s.1 ≤ s.1 + i
      · rw [decide_eq_true q]
        simp only [zk_t]
        refine ⟨hi, (fun hh => by cases hh), (fun hh => by cases hh), fun _ => ⟨?_, (fun hh => by cases hh)⟩⟩
        rw [(zpEq_iff t (zpW k) s.1).mpr (fun j hjl => hj j (by omega))]
        rfl
      · rw [decide_eq_false q, ht (s.1 + i) (by omega)]
        by_cases q2 : t (s.1 + i) = (zpW k).getD i 0
        · rw [decide_eq_true q2]
          simp only [zk_t, zk_f]
          refine ⟨hi, fun _ => ⟨zi_in (by omega) (by omega), zi_in (by omega) (by omega)⟩, fun _ => ⟨by omega, ?_, fun j hjl => ?_⟩, (fun hh => by cases hh)⟩
          · rw [show Int32.ofNat (s.1 + i) + (1 : Int32) = Int32.ofNat (s.1 + i + 1) from zi_ad (s.1 + i) 1]; rfl
          · by_cases e : j = i
            · rw [e]; exact q2
            · exact hj j (by omega)
        · rw [decide_eq_false q2]
          simp only [zk_f]
          refine ⟨hi, fun _ => ⟨zi_in (by omega) (by omega), zi_in (by omega) (by omega)⟩, (fun hh => by cases hh), fun _ => ⟨?_, fun _ => trivial⟩⟩
          cases he : zpEq t (zpW k) s.1 with
          | false => rfl
          | true => exact absurd ((zpEq_iff t (zpW k) s.1).mp he i (by omega)) q2) 1000 0 (Int32.ofNat s.1, false, false) ⟨by omega, rfl, fun j hj => by omega⟩ (by omega)
    obtain ⟨⟨q1, q2⟩, q3⟩ := loop
    obtain ⟨m1, m2, m3⟩ := zT_to h0 (q := zpRn t n 97 122 s.1) l1
    have ea : (zpAft t n k s).1 = zpSk t n (zpRn t n 97 122 s.1) := by unfold zpAft; rw [c]
    have eb : zpAft t n k s = (zpSk t n (zpRn t n 97 122 s.1), s.2) := by unfold zpAft; rw [c]
    rw [m1, ea, eb]
    cases he : zpEq t (zpW k) s.1 with
    | true =>
      rw [he] at q1
      have q1 : _ = false := q1
      rw [q1, zk_f, zk_f, zk_t, zk_t]
      exact ⟨rfl, rfl, ⟨r2, fun _ => ⟨q3, fun _ => m2⟩⟩, m3⟩
    | false =>
      rw [he] at q1
      have q1 : _ = true := q1
      rw [q1, zk_t, zk_t, zk_f, zk_f, q2 q1]
      exact ⟨rfl, rfl, ⟨r2, fun _ => ⟨q3, (fun hh => by cases hh)⟩⟩, h0⟩
  · rw [decide_eq_false (show ¬ zpRn t n 97 122 s.1 - s.1 = (zpW k).length by omega), decide_eq_false c, Bool.false_and, zk_f, zk_f, zk_f, zk_f]
    exact ⟨rfl, rfl, ⟨r2, (fun hh => by cases hh)⟩, h0⟩
theorem zT_nm {M : zMem} {t : Nat → Int32} {n : Nat} {s : Nat × Int32} (h : zT M t n s) (most : Int32) : v_T_takeNumber M most = (zpNum t n most s).1 ∧ zT (w_T_takeNumber M most) t n (zpNum t n most s).2 ∧ ok_T_takeNumber M most ∧ (∀ a i, ¬ (a = 2 ∧ (i = 3 ∨ i = 4)) → w_T_takeNumber M most a i = M a i) := by
  have h0 := h
  obtain ⟨h2, hn, ht, h3, hp, h4⟩ := h
  obtain ⟨r1, r2⟩ := zT_rn h0 (48 : Int32) (57 : Int32)
  obtain ⟨l1, l2⟩ := zpRn_le (t := t) (lo := 48) (hi := 57) hp
  obtain ⟨m1, m2, m3⟩ := zT_to h0 (q := zpRn t n 48 57 s.1) l1
  obtain ⟨f1, f2⟩ := zT_fl h0
  have loop := zf_wq (g := g_T_takeNumber_1 M most) (k := kb_T_takeNumber_1 M most) (fun i (a : Int32 × Int32) => i ≤ 3 ∧ s.1 + i ≤ zpRn t n 48 57 s.1 ∧ a = (zpDg t s.1 i, Int32.ofNat (s.1 + i))) (fun a => a.1 = zpDg t s.1 (min (zpRn t n 48 57 s.1 - s.1) 3)) 3 (fun i a ⟨hi, hi2, ha⟩ => by
    subst ha
    unfold g_T_takeNumber_1 kb_T_takeNumber_1
    simp only []
    rw [r1, h3, show Int32.ofNat s.1 + (3 : Int32) = Int32.ofNat (s.1 + 3) from zi_ad s.1 3, zi_le (by omega) (by omega), zi_le (by omega) (by omega), zi_nat (by omega)]
    by_cases q : zpRn t n 48 57 s.1 ≤ s.1 + i
    · rw [decide_eq_true q]
      simp only [zk_t]
      refine ⟨hi, (fun hh => by cases hh), (fun hh => by cases hh), fun _ => ?_⟩
      rw [show min (zpRn t n 48 57 s.1 - s.1) 3 = i by omega]
    · rw [decide_eq_false q]
      by_cases q2 : s.1 + 3 ≤ s.1 + i
      · rw [decide_eq_true q2]
        simp only [zk_t, zk_f]
        refine ⟨hi, (fun _ hh => by cases hh), (fun hh => by cases hh), fun _ => ?_⟩
        rw [show min (zpRn t n 48 57 s.1 - s.1) 3 = i by omega]
      · rw [decide_eq_false q2]
        simp only [zk_f]
        refine ⟨hi, fun _ _ => zi_in (by omega) (by omega), fun _ => ⟨by omega, by omega, ?_⟩, (fun hh => by cases hh)⟩
        rw [ht (s.1 + i) (by omega), show Int32.ofNat (s.1 + i) + (1 : Int32) = Int32.ofNat (s.1 + i + 1) from zi_ad (s.1 + i) 1]
        rfl) 1000 0 ((0 : Int32), Int32.ofNat s.1) ⟨by omega, by omega, rfl⟩ (by omega)
  obtain ⟨q1, q3⟩ := loop
  unfold v_T_takeNumber w_T_takeNumber ok_T_takeNumber zpNum zpNumOk
  rw [r1, h3, q1, m1, zN_sub l2, zN_eq (by omega) (by omega), show decide ((3 : Int32) < Int32.ofNat (zpRn t n 48 57 s.1 - s.1)) = decide (3 < zpRn t n 48 57 s.1 - s.1) from zi_lt' (a := 3) (by omega) (by omega)]
  have frF : ∀ a i, ¬ (a = 2 ∧ (i = 3 ∨ i = 4)) → w_T_fail M a i = M a i := fun a i hi => by rw [f1, zu_o (by omega), zu_o (by omega)]
  by_cases c1 : zpRn t n 48 57 s.1 = s.1
  · rw [decide_eq_true c1, decide_eq_false (show ¬ s.1 < zpRn t n 48 57 s.1 by omega), Bool.false_and, zk_t, zk_t, zk_f]
    exact ⟨rfl, f2, ⟨r2, q3, (fun hh => by cases hh)⟩, frF⟩
  · rw [decide_eq_false c1, decide_eq_true (show s.1 < zpRn t n 48 57 s.1 by omega), Bool.true_and, zk_f, zk_f]
    by_cases c2 : 3 < zpRn t n 48 57 s.1 - s.1
    · rw [decide_eq_true c2, decide_eq_false (show ¬ zpRn t n 48 57 s.1 ≤ s.1 + 3 by omega), Bool.false_and, zk_t, zk_t, zk_f]
      exact ⟨rfl, f2, ⟨r2, q3, (fun _ hh => by cases hh)⟩, frF⟩
    · rw [decide_eq_false c2, decide_eq_true (show zpRn t n 48 57 s.1 ≤ s.1 + 3 by omega), Bool.true_and, zk_f, zk_f, show min (zpRn t n 48 57 s.1 - s.1) 3 = zpRn t n 48 57 s.1 - s.1 by omega]
      cases decide (zpDg t s.1 (zpRn t n 48 57 s.1 - s.1) ≤ most)
      · rw [zk_f, zk_f, zk_f]
        exact ⟨rfl, f2, ⟨r2, q3, (fun _ _ hh => by cases hh)⟩, frF⟩
      · rw [zk_t, zk_t, zk_t]
        exact ⟨rfl, m3, ⟨r2, q3, fun _ _ _ => m2⟩, fun a i hi => by rw [zu_o (by omega)]⟩
/-- the state behind the question whether a line comes -/
def zpLn (t : Nat → Int32) (n i most : Nat) (s : Nat × Int32) : Nat × Int32 := bif zpCome t n i s then (bif decide (i < most) then zpStep t n i s else zpFail n (zpStep t n i s)) else (bif decide (s.1 < n) then zpFail n s else s)
theorem zT_ln {M : zMem} {t : Nat → Int32} {n i most : Nat} {s : Nat × Int32} (h : zT M t n s) (hi : i ≤ 1000) (hm : most ≤ 1000) : v_T_takeLine M (Int32.ofNat i) (Int32.ofNat most) = (zpCome t n i s && decide (i < most)) ∧ zT (w_T_takeLine M (Int32.ofNat i) (Int32.ofNat most)) t n (zpLn t n i most s) ∧ ok_T_takeLine M (Int32.ofNat i) (Int32.ofNat most) ∧ (∀ a j, ¬ (a = 2 ∧ (j = 3 ∨ j = 4)) → w_T_takeLine M (Int32.ofNat i) (Int32.ofNat most) a j = M a j) := by
  have h0 := h
  obtain ⟨h2, hn, ht, h3, hp, h4⟩ := h
  have e0 : decide (Int32.ofNat i = 0) = decide (i = 0) := zN_eq (a := i) (b := 0) (by omega) (by omega)
  unfold v_T_takeLine w_T_takeLine ok_T_takeLine zpLn zpCome zpStep
  rw [e0, zi_lt' (by omega) (by omega)]
  by_cases c : i = 0
  · subst c
    obtain ⟨f1, f2⟩ := zT_fl h0
    have frF : ∀ a j, ¬ (a = 2 ∧ (j = 3 ∨ j = 4)) → w_T_fail M a j = M a j := fun a j hj => by rw [f1, zu_o (by omega), zu_o (by omega)]
    rw [decide_eq_true (rfl : (0 : Nat) = 0), Nat.beq_refl, zk_t, zk_t, zk_t, h2, h3, zi_le (by omega) (by omega)]
    by_cases q : s.1 < n
    · rw [decide_eq_false (show ¬ n ≤ s.1 by omega), decide_eq_true q]
      simp only [zk_t, zk_f]
      cases decide (0 < most)
      · exact ⟨rfl, f2, (fun hh => by cases hh), frF⟩
      · exact ⟨rfl, h0, (fun hh => by cases hh), fun _ _ _ => rfl⟩
    · rw [decide_eq_true (show n ≤ s.1 by omega), decide_eq_false q]
      simp only [zk_t, zk_f]
      exact ⟨rfl, h0, (fun hh => by cases hh), fun _ _ _ => trivial⟩
  · obtain ⟨a1, a2, a3, a4⟩ := zT_sg h0 (59 : Int32)
    rw [decide_eq_false c, zb_ne c]
    simp only [zk_f]
    rw [a1]
    cases hc : zpSg t n 59 s with
    | true =>
      rw [hc, zk_t] at a2 a4
      simp only [zk_t]
      obtain ⟨f1, f2⟩ := zT_fl a4
      cases decide (i < most)
      · exact ⟨rfl, f2, fun _ => a3, fun a j hj => by
          show w_T_fail (w_T_takeSign M 59) a j = M a j
          rw [f1, zu_o (by omega), zu_o (by omega), a2, zu_o (by omega)]⟩
      · exact ⟨rfl, a4, fun _ => a3, fun a j hj => by
          show w_T_takeSign M 59 a j = M a j
          rw [a2, zu_o (by omega)]⟩
    | false =>
      rw [hc, zk_f] at a2 a4
      simp only [zk_f]
      rw [a2, h2, h3, zi_le (by omega) (by omega)]
      obtain ⟨f1, f2⟩ := zT_fl h0
      by_cases q : s.1 < n
      · rw [decide_eq_false (show ¬ n ≤ s.1 by omega), decide_eq_true q]
        exact ⟨rfl, f2, fun _ => a3, fun a j hj => by
          show w_T_fail M a j = M a j
          rw [f1, zu_o (by omega), zu_o (by omega)]⟩
      · rw [decide_eq_true (show n ≤ s.1 by omega), decide_eq_false q]
        exact ⟨rfl, h0, fun _ => a3, fun a j hj => rfl⟩
