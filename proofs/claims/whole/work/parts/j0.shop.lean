/-! THE SHOP's text: a kind's letter, four figures, a word that must come; the class -/
def zpKdOk (t : Nat → Int32) (n p : Nat) : Bool := decide (zpRn t n 97 122 p = p + 1) && decide (t p < 105)
def zpKd (t : Nat → Int32) (n : Nat) (s : Nat × Int32) : Int32 × Nat × Int32 := bif zpKdOk t n s.1 then (t s.1 - 97, zpSk t n (s.1 + 1), s.2) else (-1, zpFail n s)
def zpFv (t : Nat → Int32) (p : Nat) : Nat → Int32
  | 0 => 0
  | k + 1 => zpFv t p k ||| zsl (t (p + k) - 48) (Int32.ofNat k)
def zpFr (t : Nat → Int32) (p : Nat) : Nat → Bool
  | 0 => true
  | k + 1 => zpFr t p k && !decide ((49 : Int32) < t (p + k))
theorem zpFr_m {t : Nat → Int32} {p i : Nat} (h : zpFr t p i = false) : ∀ m, zpFr t p (i + m) = false
  | 0 => h
  | m + 1 => by
    show (zpFr t p (i + m) && !decide ((49 : Int32) < t (p + (i + m)))) = false
    rw [zpFr_m h m]; rfl
def zpFgOk (t : Nat → Int32) (n p : Nat) : Bool := decide (zpRn t n 48 57 p = p + 4) && zpFr t p 4
def zpFg (t : Nat → Int32) (n : Nat) (s : Nat × Int32) : Int32 × Nat × Int32 := bif zpFgOk t n s.1 then (zpFv t s.1 4, zpSk t n (s.1 + 4), s.2) else (0, zpFail n s)
def zpNW (t : Nat → Int32) (n k : Nat) (s : Nat × Int32) : Nat × Int32 := bif zpHas t n k s then zpAft t n k s else zpFail n s
theorem zT_kd {M : zMem} {t : Nat → Int32} {n : Nat} {s : Nat × Int32} (h : zT M t n s) : v_T_takeKind M = (zpKd t n s).1 ∧ zT (w_T_takeKind M) t n (zpKd t n s).2 ∧ ok_T_takeKind M ∧ (∀ a i, ¬ (a = 2 ∧ (i = 3 ∨ i = 4)) → w_T_takeKind M a i = M a i) := by
  have h0 := h
  obtain ⟨h2, hn, ht, h3, hp, h4⟩ := h
  obtain ⟨r1, r2⟩ := zT_rn h0 (97 : Int32) (122 : Int32)
  obtain ⟨l1, l2⟩ := zpRn_le (t := t) (lo := 97) (hi := 122) hp
  obtain ⟨m1, m2, m3⟩ := zT_to h0 (q := zpRn t n 97 122 s.1) l1
  obtain ⟨f1, f2⟩ := zT_fl h0
  have frF : ∀ a i, ¬ (a = 2 ∧ (i = 3 ∨ i = 4)) → w_T_fail M a i = M a i := fun a i hi => by rw [f1, zu_o (by omega), zu_o (by omega)]
  unfold v_T_takeKind w_T_takeKind ok_T_takeKind zpKd zpKdOk
  rw [r1, h3, m1, zN_sub l2, show decide (Int32.ofNat (zpRn t n 97 122 s.1 - s.1) = (1 : Int32)) = decide (zpRn t n 97 122 s.1 - s.1 = 1) from zN_eq (b := 1) (by omega) (by omega), zi_nat (by omega)]
  by_cases c1 : zpRn t n 97 122 s.1 = s.1 + 1
  · have hlt : s.1 < n := by omega
    rw [decide_eq_true (show zpRn t n 97 122 s.1 - s.1 = 1 by omega), decide_eq_true c1, Bool.true_and, zk_t, zk_t, ht s.1 hlt]
    cases decide (t s.1 < 105) with
    | true =>
      rw [zk_t, zk_t, zk_t]
      rw [c1] at m2 m3 ⊢
      exact ⟨rfl, m3, ⟨r2, fun _ => ⟨zi_in (by omega) (by omega), fun _ => m2⟩⟩, fun a i hi => by rw [zu_o (by omega)]⟩
    | false =>
      rw [zk_f, zk_f, zk_f]
      exact ⟨rfl, f2, ⟨r2, fun _ => ⟨zi_in (by omega) (by omega), (fun hh => by cases hh)⟩⟩, frF⟩
  · rw [decide_eq_false (show ¬ zpRn t n 97 122 s.1 - s.1 = 1 by omega), decide_eq_false c1, Bool.false_and, zk_f, zk_f, zk_f]
    exact ⟨rfl, f2, ⟨r2, (fun hh => by cases hh)⟩, frF⟩
theorem zT_fg {M : zMem} {t : Nat → Int32} {n : Nat} {s : Nat × Int32} (h : zT M t n s) : v_T_takeFigures M = (zpFg t n s).1 ∧ zT (w_T_takeFigures M) t n (zpFg t n s).2 ∧ ok_T_takeFigures M ∧ (∀ a i, ¬ (a = 2 ∧ (i = 3 ∨ i = 4)) → w_T_takeFigures M a i = M a i) := by
  have h0 := h
  obtain ⟨h2, hn, ht, h3, hp, h4⟩ := h
  obtain ⟨r1, r2⟩ := zT_rn h0 (48 : Int32) (57 : Int32)
  obtain ⟨l1, l2⟩ := zpRn_le (t := t) (lo := 48) (hi := 57) hp
  obtain ⟨m1, m2, m3⟩ := zT_to h0 (q := zpRn t n 48 57 s.1) l1
  obtain ⟨f1, f2⟩ := zT_fl h0
  have frF : ∀ a i, ¬ (a = 2 ∧ (i = 3 ∨ i = 4)) → w_T_fail M a i = M a i := fun a i hi => by rw [f1, zu_o (by omega), zu_o (by omega)]
  have eq4 : decide (Int32.ofNat (zpRn t n 48 57 s.1 - s.1) = (4 : Int32)) = decide (zpRn t n 48 57 s.1 - s.1 = 4) := zN_eq (b := 4) (by omega) (by omega)
  by_cases c1 : zpRn t n 48 57 s.1 = s.1 + 4
  · have loop := zf_wq (g := g_T_takeFigures_1 M) (k := kb_T_takeFigures_1 M) (fun i (a : Int32 × Bool × Int32) => i ≤ 4 ∧ a.1 = zpFv t s.1 i ∧ a.2.1 = zpFr t s.1 i ∧ a.2.2 = Int32.ofNat (s.1 + i)) (fun a => a.2.1 = zpFr t s.1 4 ∧ (zpFr t s.1 4 = true → a.1 = zpFv t s.1 4)) 4 (fun i a ⟨hi, ha, hb, hc⟩ => by
      have e1 : decide (v_T_runEnd M (48 : Int32) (57 : Int32) ≤ a.2.2) = decide (s.1 + 4 ≤ s.1 + i) := by rw [r1, c1, hc]; exact zi_le (by omega) (by omega)
      cases hf : zpFr t s.1 i with
      | false =>
        rw [hf] at hb
        have eg : g_T_takeFigures_1 M i a = (false, (a.1, false, a.2.2)) := by
          unfold g_T_takeFigures_1
          rw [hb]
          simp only [zk_f]
        have ek : kb_T_takeFigures_1 M i a := by
          unfold kb_T_takeFigures_1
          rw [hb]
          exact fun hh => by cases hh
        have h4f : zpFr t s.1 4 = false := by
          have := zpFr_m hf (4 - i)
          rw [show i + (4 - i) = 4 by omega] at this
          exact this
        rw [eg]
        exact ⟨hi, ek, (fun hh => by cases hh), fun _ => ⟨h4f.symm, fun hh => by rw [h4f] at hh; cases hh⟩⟩
      | true =>
        rw [hf] at hb
        by_cases c : s.1 + 4 ≤ s.1 + i
        · have e4 : i = 4 := by omega
          rw [decide_eq_true c] at e1
          have eg : g_T_takeFigures_1 M i a = (false, (a.1, true, a.2.2)) := by
            unfold g_T_takeFigures_1
            rw [e1, hb]
            simp only [zk_t]
          have ek : kb_T_takeFigures_1 M i a := by
            unfold kb_T_takeFigures_1
            rw [e1]
            exact fun _ hh => by cases hh
          rw [eg]
          subst e4
          exact ⟨hi, ek, (fun hh => by cases hh), fun _ => ⟨hf.symm, fun _ => ha⟩⟩
        · rw [decide_eq_false c] at e1
          have hbt : M 3 (a.2.2).toNatClampNeg = t (s.1 + i) := by rw [hc, zi_nat (by omega)]; exact ht _ (by omega)
          have hsh : a.2.2 - M 2 3 = Int32.ofNat i := by rw [hc, h3, zN_sub (by omega), show s.1 + i - s.1 = i by omega]
          have eg : g_T_takeFigures_1 M i a = (true, (a.1 ||| zsl (t (s.1 + i) - (48 : Int32)) (Int32.ofNat i), (bif (decide ((49 : Int32) < t (s.1 + i))) then false else true), a.2.2 + (1 : Int32))) := by
            unfold g_T_takeFigures_1
            rw [e1, hb, hbt, hsh]
            simp only [zk_t, zk_f]
          have ek : kb_T_takeFigures_1 M i a := by
            unfold kb_T_takeFigures_1
            rw [hc]
            exact fun _ _ => zi_in (by omega) (by omega)
          rw [eg]
          refine ⟨hi, ek, fun _ => ⟨by omega, ?_, ?_, ?_⟩, (fun hh => by cases hh)⟩
          · show a.1 ||| zsl (t (s.1 + i) - (48 : Int32)) (Int32.ofNat i) = zpFv t s.1 i ||| zsl (t (s.1 + i) - 48) (Int32.ofNat i)
            rw [ha]
          · show (bif (decide ((49 : Int32) < t (s.1 + i))) then false else true) = (zpFr t s.1 i && !decide ((49 : Int32) < t (s.1 + i)))
            rw [hf]
            cases decide ((49 : Int32) < t (s.1 + i)) <;> rfl
          · show a.2.2 + (1 : Int32) = Int32.ofNat (s.1 + (i + 1))
            rw [hc, zi_succ]; rfl) 1000 0 ((0 : Int32), true, Int32.ofNat s.1) ⟨by omega, rfl, rfl, rfl⟩ (by omega)
    obtain ⟨⟨q1, q2⟩, q3⟩ := loop
    unfold v_T_takeFigures w_T_takeFigures ok_T_takeFigures zpFg zpFgOk
    rw [r1, h3, m1, zN_sub l2, eq4, decide_eq_true (show zpRn t n 48 57 s.1 - s.1 = 4 by omega), q1, decide_eq_true c1, Bool.true_and]
    cases hf : zpFr t s.1 4 with
    | true =>
      rw [zk_t, zk_t, zk_t, q2 hf]
      rw [c1] at m2 m3 ⊢
      exact ⟨rfl, m3, ⟨r2, q3, fun _ => m2⟩, fun a i hi => by rw [zu_o (by omega)]⟩
    | false =>
      rw [zk_f, zk_f, zk_f]
      exact ⟨rfl, f2, ⟨r2, q3, (fun hh => by cases hh)⟩, frF⟩
  · have e0 : g_T_takeFigures_1 M 0 ((0 : Int32), false, Int32.ofNat s.1) = (false, ((0 : Int32), false, Int32.ofNat s.1)) := by
      unfold g_T_takeFigures_1
      simp only [zk_f]
    have q1 : zf_wh 1000 (g_T_takeFigures_1 M) 0 ((0 : Int32), false, Int32.ofNat s.1) = ((0 : Int32), false, Int32.ofNat s.1) := zf_w0 (n := 999) e0
    have q3 : zf_wk 1000 (g_T_takeFigures_1 M) (kb_T_takeFigures_1 M) 0 ((0 : Int32), false, Int32.ofNat s.1) := zf_k0 e0 (fun hh => by cases hh)
    unfold v_T_takeFigures w_T_takeFigures ok_T_takeFigures zpFg zpFgOk
    rw [r1, h3, zN_sub l2, eq4, decide_eq_false (show ¬ zpRn t n 48 57 s.1 - s.1 = 4 by omega), q1, decide_eq_false c1, Bool.false_and, zk_f, zk_f, zk_f]
    exact ⟨rfl, f2, ⟨r2, q3, (fun hh => by cases hh)⟩, frF⟩
theorem zT_nw {M : zMem} {t : Nat → Int32} {n : Nat} {s : Nat × Int32} (h : zT M t n s) (k : Nat) (hk : (zpW k).length ≤ 100) : zT (w_T_needWord M k) t n (zpNW t n k s) ∧ ok_T_needWord M k ∧ (∀ a i, ¬ (a = 2 ∧ (i = 3 ∨ i = 4)) → w_T_needWord M k a i = M a i) := by
  obtain ⟨e1, e2, e3, e4⟩ := zT_wd h k hk
  unfold w_T_needWord ok_T_needWord zpNW
  rw [e1]
  cases hc : zpHas t n k s with
  | true =>
    rw [hc, zk_t] at e2 e4
    rw [zk_t, zk_t]
    exact ⟨e4, e3, fun a i hi => by rw [e2, zu_o (by omega)]⟩
  | false =>
    rw [hc, zk_f] at e2 e4
    obtain ⟨f1, f2⟩ := zT_fl h
    rw [zk_f, zk_f, e2]
    exact ⟨f2, e3, fun a i hi => by rw [f1, zu_o (by omega), zu_o (by omega)]⟩
