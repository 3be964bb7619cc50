/-! THE SHOP's text: the reference -/
theorem zpRn_c {t : Nat → Int32} {n p : Nat} {lo hi : Int32} (hp : p ≤ n) : decide (zpRn t n lo hi p = p + 1) = (decide (p < n) && (decide (lo ≤ t p) && decide (t p ≤ hi)) && !(decide (p + 1 < n) && (decide (lo ≤ t (p + 1)) && decide (t (p + 1) ≤ hi)))) := by
  have e : zpRn t n lo hi p = (bif (decide (p < n) && (decide (lo ≤ t p) && decide (t p ≤ hi))) then (bif (decide (p + 1 < n) && (decide (lo ≤ t (p + 1)) && decide (t (p + 1) ≤ hi))) then zpRnF t n lo hi 998 (p + 1 + 1) else p + 1) else p) := rfl
  rw [e]
  have hl : decide (p + 1 < n) = true → p + 1 + 1 ≤ zpRnF t n lo hi 998 (p + 1 + 1) := fun h => (zpRnF_le t n lo hi 998 (p + 1 + 1) (by have := of_decide_eq_true h; omega)).2
  generalize zpRnF t n lo hi 998 (p + 1 + 1) = z at hl
  cases (decide (p < n) && (decide (lo ≤ t p) && decide (t p ≤ hi))) with
  | false => rw [zk_f, Bool.false_and, decide_eq_false (by omega)]
  | true =>
    rw [zk_t, Bool.true_and]
    cases h1 : decide (p + 1 < n) with
    | false =>
      rw [Bool.false_and, zk_f]
      exact decide_eq_true rfl
    | true =>
      have := hl h1
      rw [Bool.true_and]
      cases (decide (lo ≤ t (p + 1)) && decide (t (p + 1) ≤ hi)) with
      | false => rw [zk_f]; exact decide_eq_true rfl
      | true => rw [zk_t]; exact decide_eq_false (by omega)
theorem zR_kd {M : zMem} {t : Nat → Int32} {n d : Nat} {s : Nat × Int32} (h : zR M t n s d) (hs : s.2 = -1) : ok_D_kindLetter M ∧ zRf M (w_D_kindLetter M) ∧ zR (w_D_kindLetter M) t n (zpKd t n s).2 d ∧ ((zpKd t n s).2.2 = -1 → v_D_kindLetter M = (zpKd t n s).1) := by
  obtain ⟨k1, k2, k3, k4⟩ := zR_sk h
  obtain ⟨a1, a2, a3⟩ := zR_at h hs
  have h12 : M 194 12 = -1 := by rw [h.2.1]; exact hs
  have e12 : decide (M 194 12 = (-1 : Int32)) = true := decide_eq_true h12
  have ev : v_D_here M = Int32.ofNat s.1 := a1
  have ew : w_D_here M = w_D_skip M := rfl
  have hn := h.1.1
  obtain ⟨w1, w2⟩ := zR_wr (p := s.1) k1 hs rfl
  have wf : zRf M (w_D_wrong (w_D_skip M) (Int32.ofNat s.1)) := zRf_tr k3 w2
  have hfl : ¬ (zpFail n s).2 = -1 := zpFl_ne hn a3
  have e1 : decide ((w_D_skip M) 194 10 ≤ Int32.ofNat s.1) = decide (n ≤ s.1) := by rw [a2]; exact zi_le (by omega) (by omega)
  have e2 : decide ((w_D_skip M) 194 10 ≤ Int32.ofNat s.1 + (1 : Int32)) = decide (n ≤ s.1 + 1) := by rw [a2, zi_succ]; exact zi_le (by omega) (by omega)
  have hcond : (bif (decide (n ≤ s.1)) then false else (bif (v_D_isIn (v_D_letter (w_D_skip M) (Int32.ofNat s.1)) (97 : Int32) (104 : Int32)) then (bif (decide (n ≤ s.1 + 1)) then true else (bif (v_D_isIn (v_D_letter (w_D_skip M) (Int32.ofNat s.1 + (1 : Int32))) (97 : Int32) (122 : Int32)) then false else true)) else false)) = zpKdOk t n s.1 := by
    unfold zpKdOk
    rw [zpRn_c a3]
    by_cases c : n ≤ s.1
    · rw [decide_eq_true c, zk_t, decide_eq_false (show ¬ s.1 < n by omega)]
      rfl
    · have l1 := (zR_lt k1.1 (show s.1 < n by omega)).1
      rw [decide_eq_false c, zk_f, decide_eq_true (show s.1 < n by omega), l1, zg_inn]
      have e104 : decide (t s.1 ≤ (104 : Int32)) = decide (t s.1 < 105) := by
        rw [zi_lei, zi_lti, show (104 : Int32).toInt = 104 from rfl, show (105 : Int32).toInt = 105 from rfl]
        exact decide_eq_decide.mpr (by omega)
      have e122 : decide (t s.1 < 105) = true → decide (t s.1 ≤ 122) = true := fun hh => by
        rw [zi_lti, show (105 : Int32).toInt = 105 from rfl] at hh
        rw [zi_lei, show (122 : Int32).toInt = 122 from rfl]
        have := of_decide_eq_true hh
        exact decide_eq_true (by omega)
      rw [e104]
      by_cases c2 : n ≤ s.1 + 1
      · rw [decide_eq_true c2, decide_eq_false (show ¬ s.1 + 1 < n by omega)]
        cases hx : decide (t s.1 < 105) with
        | false => cases decide ((97 : Int32) ≤ t s.1) <;> cases decide (t s.1 ≤ 122) <;> rfl
        | true => rw [e122 hx]; cases decide ((97 : Int32) ≤ t s.1) <;> rfl
      · have l2 := (zR_lt k1.1 (show s.1 + 1 < n by omega)).1
        rw [decide_eq_false c2, decide_eq_true (show s.1 + 1 < n by omega), zi_succ, l2, zg_inn]
        cases hx : decide (t s.1 < 105) with
        | false => cases decide ((97 : Int32) ≤ t s.1) <;> cases decide (t s.1 ≤ 122) <;> cases decide ((97 : Int32) ≤ t (s.1 + 1)) <;> cases decide (t (s.1 + 1) ≤ 122) <;> rfl
        | true => rw [e122 hx]; cases decide ((97 : Int32) ≤ t s.1) <;> cases decide ((97 : Int32) ≤ t (s.1 + 1)) <;> cases decide (t (s.1 + 1) ≤ 122) <;> rfl
  unfold ok_D_kindLetter w_D_kindLetter v_D_kindLetter zpKd
  rw [e12, ew, ev, e1, e2, hcond, zk_t, zk_t]
  have okl : ∀ k, k < n → ok_D_letter (w_D_skip M) (Int32.ofNat k) := fun k hk => (zR_lt k1.1 hk).2
  cases hc : zpKdOk t n s.1 with
  | false =>
    rw [zk_f, zk_f, zk_f]
    refine ⟨fun _ => ⟨k2, ⟨fun hh => ⟨okl _ (by have := of_decide_eq_false hh; omega), fun _ hh2 => ?_⟩, (fun hh => by cases hh)⟩⟩, wf, w1, fun hh => absurd hh hfl⟩
    rw [zi_succ]
    exact okl _ (by have := of_decide_eq_false hh2; omega)
  | true =>
    rw [zk_t, zk_t, zk_t]
    have hlt : s.1 < n := by
      unfold zpKdOk at hc
      rw [zpRn_c a3] at hc
      by_cases c : s.1 < n
      · exact c
      · rw [decide_eq_false c] at hc
        cases hc
    have hR : zR (zz_up (w_D_skip M) 194 11 (Int32.ofNat s.1 + (1 : Int32))) t n (zpSk t n (s.1 + 1), s.2) d := by
      rw [zi_succ]
      exact zR_to k1 rfl (by omega) rfl
    have hRf : zRf (w_D_skip M) (zz_up (w_D_skip M) 194 11 (Int32.ofNat s.1 + (1 : Int32))) := zRf_u (Or.inl rfl)
    refine ⟨fun _ => ⟨k2, ⟨fun hh => ⟨okl _ hlt, fun _ hh2 => ?_⟩, fun _ => (zR_lt hR.1 hlt).2⟩⟩, zRf_tr k3 hRf, hR, fun _ => ?_⟩
    · rw [zi_succ]
      exact okl _ (by have := of_decide_eq_false hh2; omega)
    · rw [(zR_lt hR.1 hlt).1]
theorem zR_k0 {M : zMem} {t : Nat → Int32} {n d : Nat} {s s' : Nat × Int32} (h : zR M t n s d) (hs : ¬ s.2 = -1) (he : s'.2 = s.2) : ok_D_kindLetter M ∧ w_D_kindLetter M = M ∧ zR M t n s' d := by
  have e12 : decide (M 194 12 = (-1 : Int32)) = false := decide_eq_false (by rw [h.2.1]; exact hs)
  unfold ok_D_kindLetter w_D_kindLetter
  rw [e12]
  exact ⟨(fun hh => by cases hh), zk_f _ _, zR_bad h hs he⟩
/-- four figures -/
theorem zsl01 : ∀ k, k < 4 → zsl ((48 : Int32) - 48) (Int32.ofNat k) = 0 ∧ zsl ((49 : Int32) - 48) (Int32.ofNat k) = zsl (1 : Int32) (Int32.ofNat k) := by decide +kernel
theorem zpFr_d {t : Nat → Int32} {p k : Nat} (hk : k < 4) (h1 : (48 : Int32) ≤ t (p + k)) (h2 : ¬ (49 : Int32) < t (p + k)) : (bif decide (t (p + k) = (49 : Int32)) then zsl (1 : Int32) (Int32.ofNat k) else (0 : Int32)) = zsl (t (p + k) - 48) (Int32.ofNat k) := by
  obtain ⟨z0, z1⟩ := zsl01 k hk
  have a1 := Int32.le_iff_toInt_le.mp h1
  have a2 : ¬ (49 : Int32).toInt < (t (p + k)).toInt := fun hh => h2 (Int32.lt_iff_toInt_lt.mpr hh)
  rw [show (48 : Int32).toInt = 48 from rfl] at a1
  rw [show (49 : Int32).toInt = 49 from rfl] at a2
  by_cases c : (t (p + k)).toInt = 49
  · have e : t (p + k) = 49 := zi_eq (by rw [c]; rfl)
    rw [e, decide_eq_true rfl, zk_t, z1]
  · have e : t (p + k) = 48 := zi_eq (by rw [show (48 : Int32).toInt = 48 from rfl]; omega)
    rw [e, decide_eq_false (by decide), zk_f, z0]
theorem zR_fm {M : zMem} {t : Nat → Int32} {n d : Nat} {s : Nat × Int32} (h : zR M t n s d) (hs : s.2 = -1) : ok_D_fourMarks M ∧ zRf M (w_D_fourMarks M) ∧ zR (w_D_fourMarks M) t n (zpFg t n s).2 d ∧ ((zpFg t n s).2.2 = -1 → v_D_fourMarks M = (zpFg t n s).1) := by
  obtain ⟨k1, k2, k3, k4⟩ := zR_sk h
  obtain ⟨a1, a2, a3⟩ := zR_at h hs
  have h12 : M 194 12 = -1 := by rw [h.2.1]; exact hs
  have e12 : decide (M 194 12 = (-1 : Int32)) = true := decide_eq_true h12
  have ev : v_D_here M = Int32.ofNat s.1 := a1
  have ew : w_D_here M = w_D_skip M := rfl
  have hn := h.1.1
  obtain ⟨w1, w2⟩ := zR_wr (p := s.1) k1 hs rfl
  have wf : zRf M (w_D_wrong (w_D_skip M) (Int32.ofNat s.1)) := zRf_tr k3 w2
  have hfl : ¬ (zpFail n s).2 = -1 := zpFl_ne hn a3
  obtain ⟨l1, l2⟩ := zpRn_le (t := t) (lo := 48) (hi := 57) a3
  have hin := zpRnF_in t n 48 57 1000 s.1
  have hout := zpRnF_out t n 48 57 1000 s.1 a3 (by omega)
  have erf : zpRnF t n 48 57 1000 s.1 = zpRn t n 48 57 s.1 := rfl
  rw [erf] at hin hout
  unfold zpFg zpFgOk
  generalize zpRn t n 48 57 s.1 = z at l1 l2 hin hout ⊢
  have loop := zf_wq (g := g_D_fourMarks_1 M) (k := kb_D_fourMarks_1 M) (fun i (a : Int32 × Int32 × Bool) => s.1 + i ≤ z ∧ a.1 = Int32.ofNat i ∧ a.2.2 = (zpFr t s.1 i && decide (i ≤ 4)) ∧ (a.2.2 = true → a.2.1 = zpFv t s.1 i)) (fun a => a.1 = Int32.ofNat (z - s.1) ∧ a.2.2 = (zpFr t s.1 (z - s.1) && decide (z - s.1 ≤ 4)) ∧ (a.2.2 = true → a.2.1 = zpFv t s.1 (z - s.1))) 400 (fun i a ⟨hi, ha, hb, hc⟩ => by
    have e1 : decide ((w_D_here M) 194 10 ≤ v_D_here M + a.1) = decide (n ≤ s.1 + i) := by rw [ew, ev, a2, ha, zi_ad]; exact zi_le (by omega) (by omega)
    have stop : s.1 + i = z → (a.1 = Int32.ofNat (z - s.1) ∧ a.2.2 = (zpFr t s.1 (z - s.1) && decide (z - s.1 ≤ 4)) ∧ (a.2.2 = true → a.2.1 = zpFv t s.1 (z - s.1))) := fun e => by
      rw [show z - s.1 = i by omega]
      exact ⟨ha, hb, hc⟩
    by_cases c : n ≤ s.1 + i
    · rw [decide_eq_true c] at e1
      have eg : g_D_fourMarks_1 M i a = (false, (a.1, a.2.1, a.2.2)) := by
        unfold g_D_fourMarks_1
        rw [e1, zk_t, zk_t, zk_t, zk_t]
      have ek : kb_D_fourMarks_1 M i a := by
        unfold kb_D_fourMarks_1
        rw [e1]
        exact fun hh => by cases hh
      rw [eg]
      exact ⟨by omega, ek, (fun hh => by cases hh), fun _ => stop (by omega)⟩
    · rw [decide_eq_false c] at e1
      have ex : v_D_here M + a.1 = Int32.ofNat (s.1 + i) := by rw [ev, ha, zi_ad]
      obtain ⟨q1, q2⟩ := zR_lt k1.1 (show s.1 + i < n by omega)
      have el : v_D_letter (w_D_here M) (v_D_here M + a.1) = t (s.1 + i) := by rw [ex, ew]; exact q1
      have ek : kb_D_fourMarks_1 M i a := by
        unfold kb_D_fourMarks_1
        rw [ex, ew]
        exact fun _ => q2
      by_cases cz : s.1 + i = z
      · have en : v_D_isIn (t (s.1 + i)) (48 : Int32) (57 : Int32) = false := by
          rw [zg_inn]
          have := hout (by omega)
          rw [← cz] at this
          by_cases b1 : (48 : Int32) ≤ t (s.1 + i)
          · rw [decide_eq_true b1, decide_eq_false (fun b2 => this ⟨b1, b2⟩)]; rfl
          · rw [decide_eq_false b1]; rfl
        have eg : g_D_fourMarks_1 M i a = (false, (a.1, a.2.1, a.2.2)) := by
          unfold g_D_fourMarks_1
          rw [el, e1, en]
          simp only [zk_f]
        rw [eg]
        exact ⟨by omega, ek, (fun hh => by cases hh), fun _ => stop cz⟩
      · obtain ⟨-, b1, b2⟩ := hin (s.1 + i) (by omega) (by omega)
        have en : v_D_isIn (t (s.1 + i)) (48 : Int32) (57 : Int32) = true := by
          rw [zg_inn, decide_eq_true b1, decide_eq_true b2]; rfl
        have e4 : decide ((4 : Int32) ≤ a.1) = decide (4 ≤ i) := by rw [ha]; exact zi_len (n := 4) (by omega) (by omega)
        have eg : g_D_fourMarks_1 M i a = (true, (a.1 + (1 : Int32), (a.2.1 ||| (bif (decide (4 ≤ i)) then (0 : Int32) else (bif (decide (t (s.1 + i) = (49 : Int32))) then (zsl (1 : Int32) a.1) else (0 : Int32)))), (bif a.2.2 then (bif (decide (4 ≤ i)) then false else (bif (decide ((49 : Int32) < t (s.1 + i))) then false else true)) else false))) := by
          unfold g_D_fourMarks_1
          rw [el, e1, en, e4]
          simp only [zk_f, zk_t]
        rw [eg]
        have hnew : (bif a.2.2 then (bif (decide (4 ≤ i)) then false else (bif (decide ((49 : Int32) < t (s.1 + i))) then false else true)) else false) = ((zpFr t s.1 i && !decide ((49 : Int32) < t (s.1 + i))) && decide (i + 1 ≤ 4)) := by
          rw [hb]
          by_cases c4 : 4 ≤ i
          · rw [decide_eq_true c4, decide_eq_false (show ¬ i + 1 ≤ 4 by omega), Bool.and_false, zk_t]
            cases (zpFr t s.1 i && decide (i ≤ 4)) <;> rfl
          · rw [decide_eq_false c4, decide_eq_true (show i + 1 ≤ 4 by omega), decide_eq_true (show i ≤ 4 by omega), Bool.and_true, Bool.and_true, zk_f]
            cases zpFr t s.1 i <;> cases decide ((49 : Int32) < t (s.1 + i)) <;> rfl
        refine ⟨by omega, ek, fun _ => ⟨by omega, ?_, hnew, fun hh => ?_⟩, (fun hh => by cases hh)⟩
        · show a.1 + (1 : Int32) = Int32.ofNat (i + 1)
          rw [ha, zi_succ]
        · have hh2 : ((zpFr t s.1 i && !decide ((49 : Int32) < t (s.1 + i))) && decide (i + 1 ≤ 4)) = true := hnew.symm.trans hh
          show a.2.1 ||| (bif (decide (4 ≤ i)) then (0 : Int32) else (bif (decide (t (s.1 + i) = (49 : Int32))) then (zsl (1 : Int32) a.1) else (0 : Int32))) = zpFv t s.1 i ||| zsl (t (s.1 + i) - 48) (Int32.ofNat i)
          by_cases c4 : 4 ≤ i
          · rw [decide_eq_false (show ¬ i + 1 ≤ 4 by omega), Bool.and_false] at hh2
            cases hh2
          · by_cases c9 : (49 : Int32) < t (s.1 + i)
            · rw [decide_eq_true c9, Bool.not_true, Bool.and_false, Bool.false_and] at hh2
              cases hh2
            · have hfr : zpFr t s.1 i = true := by
                cases hx : zpFr t s.1 i with
                | true => rfl
                | false => rw [hx] at hh2; cases hh2
              rw [decide_eq_false c4, zk_f, ha, zpFr_d (by omega) b1 c9, hc (by rw [hb, hfr, decide_eq_true (show i ≤ 4 by omega)]; rfl)]) 1000 0 ((0 : Int32), (0 : Int32), true) ⟨by omega, rfl, rfl, fun _ => rfl⟩ (by omega)
  obtain ⟨⟨q1, q2, q3⟩, q4⟩ := loop
  unfold ok_D_fourMarks w_D_fourMarks v_D_fourMarks
  generalize zf_wh 1000 (g_D_fourMarks_1 M) 0 ((0 : Int32), (0 : Int32), true) = x at q1 q2 q3
  have e4 : decide (x.1 = (4 : Int32)) = decide (z - s.1 = 4) := by rw [q1]; exact zN_eq (b := 4) (by omega) (by omega)
  rw [e12, zk_t, zk_t, e4, ew, ev]
  by_cases c : z = s.1 + 4
  · rw [show z - s.1 = 4 by omega, decide_eq_true (Nat.le_refl 4), Bool.and_true] at q2
    rw [show z - s.1 = 4 by omega] at q3
    rw [decide_eq_true (show z - s.1 = 4 by omega), decide_eq_true c, Bool.true_and, zk_t, zk_t]
    cases hf : zpFr t s.1 4 with
    | true =>
      rw [hf] at q2
      rw [q2, zk_t, zk_t, zk_t]
      have hR : zR (zz_up (w_D_skip M) 194 11 (Int32.ofNat s.1 + (4 : Int32))) t n (zpSk t n (s.1 + 4), s.2) d := by
        rw [show Int32.ofNat s.1 + (4 : Int32) = Int32.ofNat (s.1 + 4) from zi_ad s.1 4]
        exact zR_to k1 rfl (by omega) rfl
      exact ⟨fun _ => ⟨k2, q4⟩, zRf_tr k3 (zRf_u (Or.inl rfl)), hR, fun _ => q3 q2⟩
    | false =>
      rw [hf] at q2
      rw [q2, zk_f, zk_f, zk_f]
      exact ⟨fun _ => ⟨k2, q4⟩, wf, w1, fun hh => absurd hh hfl⟩
  · rw [decide_eq_false (show ¬ z - s.1 = 4 by omega), decide_eq_false c, Bool.false_and, zk_f, zk_f, zk_f]
    have ei : (bif x.2.2 then w_D_wrong (w_D_skip M) (Int32.ofNat s.1) else w_D_wrong (w_D_skip M) (Int32.ofNat s.1)) = w_D_wrong (w_D_skip M) (Int32.ofNat s.1) := by
      cases x.2.2
      · exact zk_f _ _
      · exact zk_t _ _
    rw [ei]
    exact ⟨fun _ => ⟨k2, q4⟩, wf, w1, fun hh => absurd hh hfl⟩
/-! each reader, also where the text is wrong already -/
theorem zpKd_b {t : Nat → Int32} {n : Nat} {s : Nat × Int32} (h : ¬ s.2 = -1) : (zpKd t n s).2.2 = s.2 := by
  unfold zpKd
  cases zpKdOk t n s.1 with
  | true => rw [zk_t]
  | false => rw [zk_f]; exact zpFl_st h
theorem zpFg_b {t : Nat → Int32} {n : Nat} {s : Nat × Int32} (h : ¬ s.2 = -1) : (zpFg t n s).2.2 = s.2 := by
  unfold zpFg
  cases zpFgOk t n s.1 with
  | true => rw [zk_t]
  | false => rw [zk_f]; exact zpFl_st h
theorem zpNm_b {t : Nat → Int32} {n : Nat} {m : Int32} {s : Nat × Int32} (h : ¬ s.2 = -1) : (zpNum t n m s).2.2 = s.2 := by
  unfold zpNum
  cases zpNumOk t n m s.1 with
  | true => rw [zk_t]
  | false => rw [zk_f]; exact zpFl_st h
theorem zpNW_b {t : Nat → Int32} {n k : Nat} {s : Nat × Int32} (h : ¬ s.2 = -1) : (zpNW t n k s).2 = s.2 := by
  unfold zpNW
  cases zpHas t n k s with
  | true => rw [zk_t]; rfl
  | false => rw [zk_f]; exact zpFl_st h
theorem zRk {M : zMem} {t : Nat → Int32} {n d : Nat} {s : Nat × Int32} (h : zR M t n s d) : ok_D_kindLetter M ∧ zRf M (w_D_kindLetter M) ∧ zR (w_D_kindLetter M) t n (zpKd t n s).2 d ∧ ((zpKd t n s).2.2 = -1 → v_D_kindLetter M = (zpKd t n s).1) := by
  by_cases hs : s.2 = -1
  · exact zR_kd h hs
  · obtain ⟨a, b, c⟩ := zR_k0 h hs (zpKd_b (t := t) (n := n) hs)
    rw [b]
    exact ⟨a, zRf_rf M, c, fun hh => absurd ((zpKd_b hs).symm.trans hh) hs⟩
theorem zRm {M : zMem} {t : Nat → Int32} {n d : Nat} {s : Nat × Int32} (h : zR M t n s d) : ok_D_fourMarks M ∧ zRf M (w_D_fourMarks M) ∧ zR (w_D_fourMarks M) t n (zpFg t n s).2 d ∧ ((zpFg t n s).2.2 = -1 → v_D_fourMarks M = (zpFg t n s).1) := by
  by_cases hs : s.2 = -1
  · exact zR_fm h hs
  · have e12 : decide (M 194 12 = (-1 : Int32)) = false := decide_eq_false (by rw [h.2.1]; exact hs)
    have ew : w_D_fourMarks M = M := by
      unfold w_D_fourMarks
      rw [e12]
      exact zk_f _ _
    rw [ew]
    refine ⟨?_, zRf_rf M, zR_bad h hs (zpFg_b hs), fun hh => absurd ((zpFg_b hs).symm.trans hh) hs⟩
    unfold ok_D_fourMarks
    rw [e12]
    exact fun hh => by cases hh
theorem zRn' {M : zMem} {t : Nat → Int32} {n d : Nat} {s : Nat × Int32} (h : zR M t n s d) (hi : Int32) : ok_D_figures M (0 : Int32) hi ∧ zRf M (w_D_figures M (0 : Int32) hi) ∧ zR (w_D_figures M (0 : Int32) hi) t n (zpNum t n hi s).2 d ∧ ((zpNum t n hi s).2.2 = -1 → v_D_figures M (0 : Int32) hi = (zpNum t n hi s).1) := by
  by_cases hs : s.2 = -1
  · exact zR_fg h hs hi
  · have e12 : decide (M 194 12 = (-1 : Int32)) = false := decide_eq_false (by rw [h.2.1]; exact hs)
    have ew : w_D_figures M (0 : Int32) hi = M := by
      unfold w_D_figures
      rw [e12]
      exact zk_f _ _
    rw [ew]
    refine ⟨?_, zRf_rf M, zR_bad h hs (zpNm_b hs), fun hh => absurd ((zpNm_b hs).symm.trans hh) hs⟩
    unfold ok_D_figures
    rw [e12]
    exact fun hh => by cases hh
theorem zRx {M : zMem} {t : Nat → Int32} {n d : Nat} {s : Nat × Int32} (h : zR M t n s d) (k j : Nat) (hW : zpW j = zpW k) (hk : (zpW k).length ≤ 100) : ok_D_expects M j ∧ zRf M (w_D_expects M j) ∧ zR (w_D_expects M j) t n (zpNW t n k s) d ∧ ((zpNW t n k s).2 = -1 → v_D_expects M j = true) ∧ (¬ (zpNW t n k s).2 = -1 → v_D_expects M j = false) := by
  by_cases hs : s.2 = -1
  · have e12 : decide (M 194 12 = (-1 : Int32)) = true := decide_eq_true (by rw [h.2.1]; exact hs)
    obtain ⟨a1, a2, a3, a4, a5⟩ := zR_wd h hs k j hW hk
    have hle := zR_le h hs
    unfold ok_D_expects w_D_expects v_D_expects zpNW
    rw [e12, zk_t, zk_t, a1]
    cases hc : zpHas t n k s with
    | true =>
      rw [zk_t, zk_t]
      exact ⟨fun _ => a2, a5, a3 hc, fun _ => rfl, fun hh => absurd hs hh⟩
    | false =>
      rw [zk_f, zk_f]
      obtain ⟨b1, b2⟩ := a4 hc
      rw [b2]
      obtain ⟨w1, w2⟩ := zR_wr (p := s.1) b1 hs rfl
      exact ⟨fun _ => a2, zRf_tr a5 w2, w1, fun hh => absurd hh (zpFl_ne h.1.1 hle), fun _ => rfl⟩
  · have e12 : decide (M 194 12 = (-1 : Int32)) = false := decide_eq_false (by rw [h.2.1]; exact hs)
    have ew : w_D_expects M j = M := by
      unfold w_D_expects
      rw [e12]
      exact zk_f _ _
    have ev : v_D_expects M j = false := by
      unfold v_D_expects
      rw [e12]
      exact zk_f _ _
    rw [ew, ev]
    refine ⟨?_, zRf_rf M, zR_bad h hs (zpNW_b hs), fun hh => absurd ((zpNW_b hs).symm.trans hh) hs, fun _ => rfl⟩
    unfold ok_D_expects
    rw [e12]
    exact fun hh => by cases hh
theorem zRa' {M : zMem} {t : Nat → Int32} {n d : Nat} {s : Nat × Int32} (h : zR M t n s d) (k j : Nat) (hW : zpW j = zpW k) (hk : (zpW k).length ≤ 100) (hi : Int32) : ok_D_after M j (0 : Int32) hi ∧ zRf M (w_D_after M j (0 : Int32) hi) ∧ zR (w_D_after M j (0 : Int32) hi) t n (zpNum t n hi (zpNW t n k s)).2 d ∧ ((zpNum t n hi (zpNW t n k s)).2.2 = -1 → v_D_after M j (0 : Int32) hi = (zpNum t n hi (zpNW t n k s)).1) := by
  obtain ⟨x1, x2, x3, -, -⟩ := zRx h k j hW hk
  obtain ⟨y1, y2, y3, y4⟩ := zRn' x3 hi
  exact ⟨⟨x1, y1⟩, zRf_tr x2 y2, y3, y4⟩
