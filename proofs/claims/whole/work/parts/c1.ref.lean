/-! the reference's numbers, parts, sums -/
theorem zR_wr2 {M : zMem} {t : Nat → Int32} {n d : Nat} {s : Nat × Int32} (h : zR M t n s d) (hs : s.2 = -1) (p : Nat) (hp : p ≤ 400) (x : Nat) : zR (w_D_wrong M (Int32.ofNat p)) t n (x, Int32.ofNat p) d ∧ zRf M (w_D_wrong M (Int32.ofNat p)) := by
  obtain ⟨h1, h2, h3, q, h4, h5, h6⟩ := h
  have ew : w_D_wrong M (Int32.ofNat p) = zz_up M 194 12 (Int32.ofNat p) := by
    unfold w_D_wrong
    rw [h2, decide_eq_true hs, zk_t]
  have f : zRf M (zz_up M 194 12 (Int32.ofNat p)) := zRf_u (Or.inr (Or.inl rfl))
  rw [ew]
  refine ⟨⟨zRt_f h1 f, zu_eq, by rw [zu_o (by omega)]; exact h3, q, by rw [zu_o (by omega)]; exact h4, h5, fun hh => ?_⟩, f⟩
  exfalso
  have hh : Int32.ofNat p = -1 := hh
  have := congrArg Int32.toInt hh
  rw [zi_val (by omega)] at this
  have e9 : (-1 : Int32).toInt = -1 := rfl
  omega
theorem zR_fg {M : zMem} {t : Nat → Int32} {n d : Nat} {s : Nat × Int32} (h : zR M t n s d) (hs : s.2 = -1) (hi : Int32) : ok_D_figures M (0 : Int32) hi ∧ zRf M (w_D_figures M (0 : Int32) hi) ∧ zR (w_D_figures M (0 : Int32) hi) t n (zpNum t n hi s).2 d ∧ ((zpNum t n hi s).2.2 = -1 → v_D_figures M (0 : Int32) hi = (zpNum t n hi s).1) := by
  obtain ⟨a1, a2, a3, a4⟩ := zR_sk h
  obtain ⟨w1, w2, w3⟩ := a4 hs
  have hn := h.1.1
  have h12 : M 194 12 = -1 := by rw [h.2.1]; exact hs
  have l := zpRn_le (t := t) (lo := 48) (hi := 57) w2
  have hin : ∀ j, s.1 ≤ j → j < zpRn t n 48 57 s.1 → (j < n ∧ (48 : Int32) ≤ t j ∧ t j ≤ 57) := zpRnF_in t n 48 57 1000 s.1
  have hout : zpRn t n 48 57 s.1 < n → ¬ ((48 : Int32) ≤ t (zpRn t n 48 57 s.1) ∧ t (zpRn t n 48 57 s.1) ≤ 57) := zpRnF_out t n 48 57 1000 s.1 w2 (by omega)
  have hb : v_D_here M = Int32.ofNat s.1 := by unfold v_D_here; rw [w1, zu_eq]
  have h0 : w_D_here M = zz_up M 194 11 (Int32.ofNat s.1) := w1
  have loop := zf_wq (g := g_D_figures_1 M (0 : Int32) hi) (k := kb_D_figures_1 M (0 : Int32) hi) (fun i (a : Int32 × zMem) => i ≤ 4 ∧ s.1 + i ≤ zpRn t n 48 57 s.1 ∧ a.1 = zpDg t s.1 i ∧ a.2 = zz_up M 194 11 (Int32.ofNat (s.1 + i))) (fun a => a.1 = zpDg t s.1 (min (zpRn t n 48 57 s.1 - s.1) 4) ∧ a.2 = zz_up M 194 11 (Int32.ofNat (s.1 + min (zpRn t n 48 57 s.1 - s.1) 4))) 4 (fun i a ⟨hi4, hie, ha1, ha2⟩ => by
    have hRt : zRt a.2 t n := by rw [ha2]; exact zRt_f h.1 (zRf_u (Or.inl rfl))
    have e11 : a.2 194 11 = Int32.ofNat (s.1 + i) := by rw [ha2, zu_eq]
    unfold g_D_figures_1 kb_D_figures_1
    rw [hRt.2.1, e11, hb, zi_le (by omega) (by omega), zN_sub (by omega), show s.1 + i - s.1 = i by omega, show decide ((3 : Int32) < Int32.ofNat i) = decide (3 < i) from zi_lt' (a := 3) (by omega) (by omega)]
    by_cases q : s.1 + i < zpRn t n 48 57 s.1
    · obtain ⟨u1, u2, u3⟩ := hin (s.1 + i) (by omega) q
      obtain ⟨v1, v2⟩ := zR_lt hRt u1
      rw [decide_eq_false (show ¬ n ≤ s.1 + i by omega), v1, zg_inn, decide_eq_true u2, decide_eq_true u3, Bool.and_self]
      by_cases q3 : 3 < i
      · rw [decide_eq_true q3]
        simp only [zk_t, zk_f]
        refine ⟨hi4, fun _ => v2, (fun hh => by cases hh), fun _ => ?_⟩
        rw [show min (zpRn t n 48 57 s.1 - s.1) 4 = i by omega]
        exact ⟨ha1, ha2⟩
      · rw [decide_eq_false q3]
        simp only [zk_t, zk_f]
        refine ⟨hi4, fun _ => v2, fun _ => ⟨by omega, by omega, ?_, by rw [ha2, zu_uu, show Int32.ofNat (s.1 + i) + (1 : Int32) = Int32.ofNat (s.1 + i + 1) from zi_ad (s.1 + i) 1]; rfl⟩, (fun hh => by cases hh)⟩
        rw [ha1, Int32.mul_comm]
        rfl
    · have ee : s.1 + i = zpRn t n 48 57 s.1 := by omega
      have fin : a.1 = zpDg t s.1 (min (zpRn t n 48 57 s.1 - s.1) 4) ∧ a.2 = zz_up M 194 11 (Int32.ofNat (s.1 + min (zpRn t n 48 57 s.1 - s.1) 4)) := by
        rw [show min (zpRn t n 48 57 s.1 - s.1) 4 = i by omega]
        exact ⟨ha1, ha2⟩
      by_cases q2 : s.1 + i < n
      · obtain ⟨v1, v2⟩ := zR_lt hRt q2
        have hno : (decide ((48 : Int32) ≤ t (s.1 + i)) && decide (t (s.1 + i) ≤ 57)) = false := by
          have ho := hout (by omega)
          rw [← ee] at ho
          cases hc : (decide ((48 : Int32) ≤ t (s.1 + i)) && decide (t (s.1 + i) ≤ 57)) with
          | false => rfl
          | true =>
            rw [Bool.and_eq_true] at hc
            exact absurd ⟨of_decide_eq_true hc.1, of_decide_eq_true hc.2⟩ ho
        rw [decide_eq_false (show ¬ n ≤ s.1 + i by omega), v1, zg_inn, hno]
        simp only [zk_t, zk_f]
        exact ⟨hi4, fun _ => v2, (fun hh => by cases hh), fun _ => fin⟩
      · rw [decide_eq_true (show n ≤ s.1 + i by omega)]
        simp only [zk_t]
        exact ⟨hi4, (fun hh => by cases hh), (fun hh => by cases hh), fun _ => fin⟩) 1000 0 ((0 : Int32), w_D_here M) ⟨by omega, by omega, rfl, h0⟩ (by omega)
  obtain ⟨⟨q1, q2⟩, q3⟩ := loop
  have hgood : zR (zz_up M 194 11 (Int32.ofNat (s.1 + min (zpRn t n 48 57 s.1 - s.1) 4))) t n (zpSk t n (s.1 + min (zpRn t n 48 57 s.1 - s.1) 4), s.2) d := zR_to h rfl (by omega) rfl
  have hbad := zR_wr2 hgood hs s.1 (by omega) n
  have ebad : zpFail n s = (n, Int32.ofNat s.1) := by
    unfold zpFail
    rw [decide_eq_true hs]; rfl
  have fr1 : zRf M (zz_up M 194 11 (Int32.ofNat (s.1 + min (zpRn t n 48 57 s.1 - s.1) 4))) := zRf_u (Or.inl rfl)
  have nob : ¬ ((n, Int32.ofNat s.1) : Nat × Int32).2 = -1 := by rw [← ebad]; exact zpFl_ne hn w2
  have e11 : (zz_up M 194 11 (Int32.ofNat (s.1 + min (zpRn t n 48 57 s.1 - s.1) 4))) 194 11 = Int32.ofNat (s.1 + min (zpRn t n 48 57 s.1 - s.1) 4) := zu_eq
  unfold ok_D_figures w_D_figures v_D_figures zpNum zpNumOk
  rw [h12, decide_eq_true (show (-1 : Int32) = -1 from rfl), zk_t, zk_t, q2, q1, hb, ebad, e11, zN_eq (by omega) (by omega), zN_sub (by omega), show s.1 + min (zpRn t n 48 57 s.1 - s.1) 4 - s.1 = min (zpRn t n 48 57 s.1 - s.1) 4 by omega, show decide ((3 : Int32) < Int32.ofNat (min (zpRn t n 48 57 s.1 - s.1) 4)) = decide (3 < min (zpRn t n 48 57 s.1 - s.1) 4) from zi_lt' (a := 3) (by omega) (by omega)]
  refine ⟨fun _ => ⟨a2, q3⟩, ?_⟩
  by_cases c1 : zpRn t n 48 57 s.1 = s.1
  · rw [decide_eq_true (show s.1 + min (zpRn t n 48 57 s.1 - s.1) 4 = s.1 by omega), decide_eq_false (show ¬ s.1 < zpRn t n 48 57 s.1 by omega), Bool.false_and]
    simp only [zk_t, zk_f]
    exact ⟨zRf_tr fr1 hbad.2, hbad.1, fun hh => absurd hh nob⟩
  · rw [decide_eq_false (show ¬ s.1 + min (zpRn t n 48 57 s.1 - s.1) 4 = s.1 by omega), decide_eq_true (show s.1 < zpRn t n 48 57 s.1 by omega), Bool.true_and]
    by_cases c2 : zpRn t n 48 57 s.1 ≤ s.1 + 3
    · have em : min (zpRn t n 48 57 s.1 - s.1) 4 = zpRn t n 48 57 s.1 - s.1 := by omega
      rw [em] at hgood fr1 hbad ⊢
      rw [decide_eq_false (show ¬ 3 < zpRn t n 48 57 s.1 - s.1 by omega), decide_eq_true c2, Bool.true_and]
      have hr := zpDg_r (t := t) (p := s.1) (zpRn t n 48 57 s.1 - s.1) (by omega) (fun j hj => (hin (s.1 + j) (by omega) (by omega)).2)
      have q0 : decide (zpDg t s.1 (zpRn t n 48 57 s.1 - s.1) < 0) = false := by rw [zg_lt0]; exact decide_eq_false (by omega)
      rw [q0]
      simp only [zk_f]
      cases decide (zpDg t s.1 (zpRn t n 48 57 s.1 - s.1) ≤ hi) with
      | true =>
        simp only [zk_t]
        rw [show s.1 + (zpRn t n 48 57 s.1 - s.1) = zpRn t n 48 57 s.1 by omega] at hgood fr1 ⊢
        exact ⟨fr1, hgood, fun _ => trivial⟩
      | false =>
        simp only [zk_f]
        exact ⟨zRf_tr fr1 hbad.2, hbad.1, fun hh => absurd hh nob⟩
    · rw [decide_eq_true (show 3 < min (zpRn t n 48 57 s.1 - s.1) 4 by omega), decide_eq_false c2, Bool.false_and]
      simp only [zk_t, zk_f]
      exact ⟨zRf_tr fr1 hbad.2, hbad.1, fun hh => absurd hh nob⟩
/-- words of parts, one behind another -/
def zWk : List (Nat × Int32) → zMem → Int32
  | [], _ => -1
  | x :: l, N => bif v_D_has N x.1 then x.2 else zWk l (w_D_has N x.1)
def zWm : List (Nat × Int32) → zMem → zMem
  | [], N => N
  | x :: l, N => bif v_D_has N x.1 then w_D_has N x.1 else zWm l (w_D_has N x.1)
def zWo : List (Nat × Int32) → zMem → Prop
  | [], _ => True
  | x :: l, N => ok_D_has N x.1 ∧ (v_D_has N x.1 = false → zWo l (w_D_has N x.1))
def zWp : List (Nat × Int32) → Nat → Prop
  | [], j => j = 8
  | x :: l, j => zpW x.1 = zpW (20 + j) ∧ x.2 = Int32.ofNat j ∧ j < 8 ∧ zWp l (j + 1)
def zWs : List (Nat × Int32) := [(54, 0), (55, 1), (56, 2), (57, 3), (58, 4), (59, 5), (60, 6), (61, 7)]
theorem zWp_s : zWp zWs 0 := ⟨by decide +kernel, rfl, by omega, by decide +kernel, rfl, by omega, by decide +kernel, rfl, by omega, by decide +kernel, rfl, by omega, by decide +kernel, rfl, by omega, by decide +kernel, rfl, by omega, by decide +kernel, rfl, by omega, by decide +kernel, rfl, by omega, rfl⟩
theorem zpW_34' : ∀ k, k < 30 → (13 ≤ k → zpW (k + 34) = zpW k) := by decide +kernel
theorem zpW_34 (k : Nat) (h1 : 13 ≤ k) (h2 : k < 30) : zpW (k + 34) = zpW k := zpW_34' k h2 h1
theorem zW_all {t : Nat → Int32} {n d : Nat} {s : Nat × Int32} (hs : s.2 = -1) : ∀ l j N, zWp l j → zR N t n s d → N 194 11 = Int32.ofNat s.1 → (∀ i, i < j → zpHas t n (20 + i) s = false) → ((∃ k, k < 8 ∧ zpHas t n (20 + k) s = true ∧ zpK8 t n s.1 = k ∧ zWk l N = Int32.ofNat k ∧ zR (zWm l N) t n (zpAft t n (20 + k) s) d) ∨ (zpK8 t n s.1 = 8 ∧ zWk l N = -1 ∧ zR (zWm l N) t n s d ∧ (zWm l N) 194 11 = Int32.ofNat s.1)) ∧ zRf N (zWm l N) ∧ zWo l N
  | [], j, N, hj, h, hp, hno => ⟨Or.inr ⟨zpK8_no (fun i hi => hno i (by have hj : j = 8 := hj; omega)), rfl, h, hp⟩, zRf_rf N, trivial⟩
  | x :: l, j, N, hj, h, hp, hno => by
    obtain ⟨hW, hx, hj8, hl⟩ := hj
    obtain ⟨a1, a2, a3, a4, a5⟩ := zR_wd h hs (20 + j) x.1 hW (zpW_len (20 + j) (by omega)).2
    show ((∃ k, k < 8 ∧ zpHas t n (20 + k) s = true ∧ zpK8 t n s.1 = k ∧ (bif v_D_has N x.1 then x.2 else zWk l (w_D_has N x.1)) = Int32.ofNat k ∧ zR (bif v_D_has N x.1 then w_D_has N x.1 else zWm l (w_D_has N x.1)) t n (zpAft t n (20 + k) s) d) ∨ (zpK8 t n s.1 = 8 ∧ (bif v_D_has N x.1 then x.2 else zWk l (w_D_has N x.1)) = -1 ∧ zR (bif v_D_has N x.1 then w_D_has N x.1 else zWm l (w_D_has N x.1)) t n s d ∧ (bif v_D_has N x.1 then w_D_has N x.1 else zWm l (w_D_has N x.1)) 194 11 = Int32.ofNat s.1)) ∧ zRf N (bif v_D_has N x.1 then w_D_has N x.1 else zWm l (w_D_has N x.1)) ∧ (ok_D_has N x.1 ∧ (v_D_has N x.1 = false → zWo l (w_D_has N x.1)))
    rw [a1]
    cases hc : zpHas t n (20 + j) s with
    | true =>
      rw [zk_t, zk_t]
      exact ⟨Or.inl ⟨j, by omega, hc, zpK8_is j (by omega) hno hc, hx, a3 hc⟩, a5, a2, (fun hh => by cases hh)⟩
    | false =>
      rw [zk_f, zk_f]
      obtain ⟨b1, b2⟩ := a4 hc
      obtain ⟨i1, i2, i3⟩ := zW_all hs l (j + 1) _ hl b1 b2 (fun i hi => by
        by_cases e : i = j
        · rw [e]; exact hc
        · exact hno i (by omega))
      exact ⟨i1, zRf_tr a5 i2, a2, fun _ => i3⟩
theorem zWk_x (N : zMem) : zWk zWs N = (bif (v_D_has N 54) then (0 : Int32) else (bif (v_D_has (w_D_has N 54) 55) then (1 : Int32) else (bif (v_D_has (w_D_has (w_D_has N 54) 55) 56) then (2 : Int32) else (bif (v_D_has (w_D_has (w_D_has (w_D_has N 54) 55) 56) 57) then (3 : Int32) else (bif (v_D_has (w_D_has (w_D_has (w_D_has (w_D_has N 54) 55) 56) 57) 58) then (4 : Int32) else (bif (v_D_has (w_D_has (w_D_has (w_D_has (w_D_has (w_D_has N 54) 55) 56) 57) 58) 59) then (5 : Int32) else (bif (v_D_has (w_D_has (w_D_has (w_D_has (w_D_has (w_D_has (w_D_has N 54) 55) 56) 57) 58) 59) 60) then (6 : Int32) else (bif (v_D_has (w_D_has (w_D_has (w_D_has (w_D_has (w_D_has (w_D_has (w_D_has N 54) 55) 56) 57) 58) 59) 60) 61) then (7 : Int32) else (-1 : Int32))))))))) := rfl
theorem zWm_x (N : zMem) : zWm zWs N = (bif (v_D_has N 54) then (w_D_has N 54) else (bif (v_D_has (w_D_has N 54) 55) then (w_D_has (w_D_has N 54) 55) else (bif (v_D_has (w_D_has (w_D_has N 54) 55) 56) then (w_D_has (w_D_has (w_D_has N 54) 55) 56) else (bif (v_D_has (w_D_has (w_D_has (w_D_has N 54) 55) 56) 57) then (w_D_has (w_D_has (w_D_has (w_D_has N 54) 55) 56) 57) else (bif (v_D_has (w_D_has (w_D_has (w_D_has (w_D_has N 54) 55) 56) 57) 58) then (w_D_has (w_D_has (w_D_has (w_D_has (w_D_has N 54) 55) 56) 57) 58) else (bif (v_D_has (w_D_has (w_D_has (w_D_has (w_D_has (w_D_has N 54) 55) 56) 57) 58) 59) then (w_D_has (w_D_has (w_D_has (w_D_has (w_D_has (w_D_has N 54) 55) 56) 57) 58) 59) else (bif (v_D_has (w_D_has (w_D_has (w_D_has (w_D_has (w_D_has (w_D_has N 54) 55) 56) 57) 58) 59) 60) then (w_D_has (w_D_has (w_D_has (w_D_has (w_D_has (w_D_has (w_D_has N 54) 55) 56) 57) 58) 59) 60) else (bif (v_D_has (w_D_has (w_D_has (w_D_has (w_D_has (w_D_has (w_D_has (w_D_has N 54) 55) 56) 57) 58) 59) 60) 61) then (w_D_has (w_D_has (w_D_has (w_D_has (w_D_has (w_D_has (w_D_has (w_D_has N 54) 55) 56) 57) 58) 59) 60) 61) else (w_D_has (w_D_has (w_D_has (w_D_has (w_D_has (w_D_has (w_D_has (w_D_has N 54) 55) 56) 57) 58) 59) 60) 61))))))))) := rfl
theorem zk_s {α : Type} (c : Bool) (a : α) : (bif c then a else a) = a := by cases c <;> rfl
theorem zWm_y (N : zMem) : zWm zWs N = (bif (v_D_has N 54) then (w_D_has N 54) else (bif (v_D_has (w_D_has N 54) 55) then (w_D_has (w_D_has N 54) 55) else (bif (v_D_has (w_D_has (w_D_has N 54) 55) 56) then (w_D_has (w_D_has (w_D_has N 54) 55) 56) else (bif (v_D_has (w_D_has (w_D_has (w_D_has N 54) 55) 56) 57) then (w_D_has (w_D_has (w_D_has (w_D_has N 54) 55) 56) 57) else (bif (v_D_has (w_D_has (w_D_has (w_D_has (w_D_has N 54) 55) 56) 57) 58) then (w_D_has (w_D_has (w_D_has (w_D_has (w_D_has N 54) 55) 56) 57) 58) else (bif (v_D_has (w_D_has (w_D_has (w_D_has (w_D_has (w_D_has N 54) 55) 56) 57) 58) 59) then (w_D_has (w_D_has (w_D_has (w_D_has (w_D_has (w_D_has N 54) 55) 56) 57) 58) 59) else (bif (v_D_has (w_D_has (w_D_has (w_D_has (w_D_has (w_D_has (w_D_has N 54) 55) 56) 57) 58) 59) 60) then (w_D_has (w_D_has (w_D_has (w_D_has (w_D_has (w_D_has (w_D_has N 54) 55) 56) 57) 58) 59) 60) else (w_D_has (w_D_has (w_D_has (w_D_has (w_D_has (w_D_has (w_D_has (w_D_has N 54) 55) 56) 57) 58) 59) 60) 61)))))))) := by
  rw [zWm_x, zk_s]
theorem zD_pv (M : zMem) : v_D_part M = (bif (decide ((M 194 12) = (-1 : Int32))) then (bif (decide (((w_D_skip M) 194 10) ≤ ((w_D_skip M) 194 11))) then (bif (decide (zWk zWs (w_D_skip M) = (-1 : Int32))) then (0 : Int32) else ((zWm zWs (w_D_skip M)) 200 (zWk zWs (w_D_skip M)).toNatClampNeg)) else (bif (v_D_isIn (v_D_letter (w_D_skip M) ((w_D_skip M) 194 11)) (48 : Int32) (57 : Int32)) then (v_D_figures (w_D_skip M) (0 : Int32) (999 : Int32)) else (bif (decide (zWk zWs (w_D_skip M) = (-1 : Int32))) then (0 : Int32) else ((zWm zWs (w_D_skip M)) 200 (zWk zWs (w_D_skip M)).toNatClampNeg)))) else (0 : Int32)) := by
  rw [zWk_x, zWm_y]
  rfl
theorem zD_pw (M : zMem) : w_D_part M = (bif (decide ((M 194 12) = (-1 : Int32))) then (bif (decide (((w_D_skip M) 194 10) ≤ ((w_D_skip M) 194 11))) then (bif (decide (zWk zWs (w_D_skip M) = (-1 : Int32))) then (w_D_wrong (zWm zWs (w_D_skip M)) ((zWm zWs (w_D_skip M)) 194 11)) else (zWm zWs (w_D_skip M))) else (bif (v_D_isIn (v_D_letter (w_D_skip M) ((w_D_skip M) 194 11)) (48 : Int32) (57 : Int32)) then (w_D_figures (w_D_skip M) (0 : Int32) (999 : Int32)) else (bif (decide (zWk zWs (w_D_skip M) = (-1 : Int32))) then (w_D_wrong (zWm zWs (w_D_skip M)) ((zWm zWs (w_D_skip M)) 194 11)) else (zWm zWs (w_D_skip M))))) else M) := by
  rw [zWk_x, zWm_y]
  rfl
/-- what steps say of a stack -/
theorem zpRun_ap (F : Nat → Int32) : ∀ (a b s : List Int32), zpRun F (a ++ b) s = zpRun F b (zpRun F a s)
  | [], b, s => rfl
  | c :: a, b, s => by
    show zpRun F (a ++ b) (zpTake F c s) = zpRun F b (zpRun F a (zpTake F c s))
    exact zpRun_ap F a b _
/-- facts, as the reference has them -/
def zFa (M : zMem) (F : Nat → Int32) : Prop := (∀ j, j < 8 → M 200 j = F j) ∧ F 8 = M 194 15 ∧ F 9 = M 194 16 ∧ zz_b01 (M 194 15) = true ∧ zz_b01 (M 194 16) = true
theorem zFa_f {M N : zMem} {F : Nat → Int32} (h : zFa M F) (f : zRf M N) : zFa N F := by
  obtain ⟨a, b, c, d, e⟩ := h
  refine ⟨fun j hj => by rw [f 200 j (by omega)]; exact a j hj, ?_, ?_, ?_, ?_⟩
  · rw [f 194 15 (by omega)]; exact b
  · rw [f 194 16 (by omega)]; exact c
  · rw [f 194 15 (by omega)]; exact d
  · rw [f 194 16 (by omega)]; exact e
theorem zpTk_n (F : Nat → Int32) (st : List Int32) {v : Int32} (h1 : 0 ≤ v.toInt) (h2 : v.toInt ≤ 999) : zpTake F ((16 : Int32) + v) st = v :: st := by
  unfold zpTake
  have e : ((16 : Int32) + v).toInt = 16 + v.toInt := by
    rw [Int32.toInt_add, show (16 : Int32).toInt = 16 from rfl]
    exact Int.bmod_eq_of_le (by omega) (by omega)
  have d : decide ((16 : Int32) ≤ (16 : Int32) + v) = true := by
    rw [zi_lei, e, show (16 : Int32).toInt = 16 from rfl]
    exact decide_eq_true (by omega)
  rw [d, zk_t]
  congr 1
  apply zi_eq
  rw [zi_sub (by rw [e, show (16 : Int32).toInt = 16 from rfl]; omega) (by rw [e, show (16 : Int32).toInt = 16 from rfl]; omega), e, show (16 : Int32).toInt = 16 from rfl]
  omega
theorem zpTk_f (F : Nat → Int32) (st : List Int32) {k : Nat} (hk : k < 10) : zpTake F (Int32.ofNat k) st = F k :: st := by
  unfold zpTake
  rw [show decide ((16 : Int32) ≤ Int32.ofNat k) = decide (16 ≤ k) from zi_le (a := 16) (by omega) (by omega), show decide ((10 : Int32) ≤ Int32.ofNat k) = decide (10 ≤ k) from zi_le (a := 10) (by omega) (by omega), decide_eq_false (by omega), decide_eq_false (by omega), zk_f, zk_f, zi_nat (by omega)]
theorem zpNum_r {t : Nat → Int32} {n : Nat} {m : Int32} {s : Nat × Int32} (hs : s.1 ≤ n) : 0 ≤ (zpNum t n m s).1.toInt ∧ (zpNum t n m s).1.toInt ≤ 999 := by
  unfold zpNum
  cases h : zpNumOk t n m s.1 with
  | false => rw [zk_f]; exact ⟨by show (0 : Int32).toInt ≥ 0; decide, by show (0 : Int32).toInt ≤ 999; decide⟩
  | true =>
    rw [zk_t]
    unfold zpNumOk at h
    rw [Bool.and_eq_true, Bool.and_eq_true] at h
    have h1 := of_decide_eq_true h.1
    have h2 := of_decide_eq_true h.2.1
    have hin : ∀ j, s.1 ≤ j → j < zpRn t n 48 57 s.1 → (j < n ∧ (48 : Int32) ≤ t j ∧ t j ≤ 57) := zpRnF_in t n 48 57 1000 s.1
    obtain ⟨a, b⟩ := zpDg_r (t := t) (p := s.1) (zpRn t n 48 57 s.1 - s.1) (by omega) (fun j hj => (hin (s.1 + j) (by omega) (by omega)).2)
    refine ⟨a, ?_⟩
    show (zpDg t s.1 (zpRn t n 48 57 s.1 - s.1)).toInt ≤ 999
    have hp : (10 : Int) ^ (zpRn t n 48 57 s.1 - s.1) ≤ 1000 := by
      rcases (show zpRn t n 48 57 s.1 - s.1 = 1 ∨ zpRn t n 48 57 s.1 - s.1 = 2 ∨ zpRn t n 48 57 s.1 - s.1 = 3 by omega) with e | e | e <;> (rw [e]; decide)
    omega
/-- the first sign of a run -/
theorem zpRn_1 {t : Nat → Int32} {n p : Nat} {lo hi : Int32} : decide (p < zpRn t n lo hi p) = (decide (p < n) && (decide (lo ≤ t p) && decide (t p ≤ hi))) := by
  show decide (p < (bif (decide (p < n) && (decide (lo ≤ t p) && decide (t p ≤ hi))) then zpRnF t n lo hi 999 (p + 1) else p)) = _
  cases hc : (decide (p < n) && (decide (lo ≤ t p) && decide (t p ≤ hi))) with
  | false => rw [zk_f]; exact decide_eq_false (by omega)
  | true =>
    rw [zk_t]
    rw [Bool.and_eq_true] at hc
    have h1 := of_decide_eq_true hc.1
    exact decide_eq_true (by have := (zpRnF_le t n lo hi 999 (p + 1) (by omega)).2; omega)
/-- a part of a sum -/
theorem zR_pt {M : zMem} {t : Nat → Int32} {n d : Nat} {s : Nat × Int32} {F : Nat → Int32} (h : zR M t n s d) (hs : s.2 = -1) (hF : zFa M F) : ok_D_part M ∧ zRf M (w_D_part M) ∧ zR (w_D_part M) t n (zpPart t n s).2 d ∧ ((zpPart t n s).2.2 = -1 → ∀ st, zpTake F (zpPart t n s).1 st = v_D_part M :: st) := by
  have hn := h.1.1
  have h12 : M 194 12 = -1 := by rw [h.2.1]; exact hs
  obtain ⟨a1, a2, a3, -⟩ := zR_sk h
  obtain ⟨b1, b2, b3⟩ := zR_at h hs
  obtain ⟨g1, g2, g3, g4⟩ := zR_fg a1 hs (999 : Int32)
  obtain ⟨w1, w2, w3⟩ := zW_all (t := t) (n := n) (d := d) hs zWs 0 (w_D_skip M) zWp_s a1 b1 (fun i hi => by omega)
  have hdig : decide (s.1 < zpRn t n 48 57 s.1) = (decide (s.1 < n) && (decide ((48 : Int32) ≤ t s.1) && decide (t s.1 ≤ (57 : Int32)))) := zpRn_1
  -- the words
  have wz : decide (zWk zWs (w_D_skip M) = (-1 : Int32)) = false → zz_in (zWk zWs (w_D_skip M)) 8 = true := by
    intro hd
    rcases w1 with ⟨k, k1, k2, k3, k4, k5⟩ | ⟨k3, k4, k5, k6⟩
    · rw [k4]; exact zi_in k1 (by omega)
    · rw [k4] at hd; cases hd
  have okw : ok_D_has (w_D_skip M) 54 ∧ (((v_D_has (w_D_skip M) 54) = false → (ok_D_has (w_D_has (w_D_skip M) 54) 55 ∧ ((v_D_has (w_D_has (w_D_skip M) 54) 55) = false → (ok_D_has (w_D_has (w_D_has (w_D_skip M) 54) 55) 56 ∧ ((v_D_has (w_D_has (w_D_has (w_D_skip M) 54) 55) 56) = false → (ok_D_has (w_D_has (w_D_has (w_D_has (w_D_skip M) 54) 55) 56) 57 ∧ ((v_D_has (w_D_has (w_D_has (w_D_has (w_D_skip M) 54) 55) 56) 57) = false → (ok_D_has (w_D_has (w_D_has (w_D_has (w_D_has (w_D_skip M) 54) 55) 56) 57) 58 ∧ ((v_D_has (w_D_has (w_D_has (w_D_has (w_D_has (w_D_skip M) 54) 55) 56) 57) 58) = false → (ok_D_has (w_D_has (w_D_has (w_D_has (w_D_has (w_D_has (w_D_skip M) 54) 55) 56) 57) 58) 59 ∧ ((v_D_has (w_D_has (w_D_has (w_D_has (w_D_has (w_D_has (w_D_skip M) 54) 55) 56) 57) 58) 59) = false → (ok_D_has (w_D_has (w_D_has (w_D_has (w_D_has (w_D_has (w_D_has (w_D_skip M) 54) 55) 56) 57) 58) 59) 60 ∧ ((v_D_has (w_D_has (w_D_has (w_D_has (w_D_has (w_D_has (w_D_has (w_D_skip M) 54) 55) 56) 57) 58) 59) 60) = false → ok_D_has (w_D_has (w_D_has (w_D_has (w_D_has (w_D_has (w_D_has (w_D_has (w_D_skip M) 54) 55) 56) 57) 58) 59) 60) 61))))))))))))) ∧ True) :=
    ⟨w3.1, fun h0 => ⟨(w3.2 h0).1, fun h1 => ⟨((w3.2 h0).2 h1).1, fun h2 => ⟨(((w3.2 h0).2 h1).2 h2).1, fun h3 => ⟨((((w3.2 h0).2 h1).2 h2).2 h3).1, fun h4 => ⟨(((((w3.2 h0).2 h1).2 h2).2 h3).2 h4).1, fun h5 => ⟨((((((w3.2 h0).2 h1).2 h2).2 h3).2 h4).2 h5).1, fun h6 => (((((((w3.2 h0).2 h1).2 h2).2 h3).2 h4).2 h5).2 h6).1⟩⟩⟩⟩⟩⟩, trivial⟩
  have okp : ok_D_part M := by
    refine fun _ => ⟨a2, fun _ => ⟨okw.1, okw.2.1, wz⟩, fun hd => ?_⟩
    rw [b1, b2, zi_le (by omega) (by omega)] at hd
    have hl : ok_D_letter (w_D_skip M) ((w_D_skip M) 194 11) := by
      rw [b1]
      exact (zR_lt a1.1 (by have := of_decide_eq_false hd; omega)).2
    exact ⟨hl, fun _ => g1, fun _ => ⟨okw.1, okw.2.1, wz⟩⟩
  -- what the words give
  have words : s.1 < zpRn t n 48 57 s.1 → False ∨ True := fun _ => Or.inr trivial
  have wv : ¬ s.1 < zpRn t n 48 57 s.1 → zRf M (bif (decide (zWk zWs (w_D_skip M) = (-1 : Int32))) then (w_D_wrong (zWm zWs (w_D_skip M)) ((zWm zWs (w_D_skip M)) 194 11)) else (zWm zWs (w_D_skip M))) ∧ zR (bif (decide (zWk zWs (w_D_skip M) = (-1 : Int32))) then (w_D_wrong (zWm zWs (w_D_skip M)) ((zWm zWs (w_D_skip M)) 194 11)) else (zWm zWs (w_D_skip M))) t n (zpPart t n s).2 d ∧ ((zpPart t n s).2.2 = -1 → ∀ st, zpTake F (zpPart t n s).1 st = (bif (decide (zWk zWs (w_D_skip M) = (-1 : Int32))) then (0 : Int32) else ((zWm zWs (w_D_skip M)) 200 (zWk zWs (w_D_skip M)).toNatClampNeg)) :: st) := by
    intro hd
    unfold zpPart
    rw [decide_eq_false hd, zk_f]
    rcases w1 with ⟨k, k1, k2, k3, k4, k5⟩ | ⟨k3, k4, k5, k6⟩
    · have hne : ¬ Int32.ofNat k = -1 := by
        intro hh
        have := congrArg Int32.toInt hh
        rw [zi_val (by omega)] at this
        have e9 : (-1 : Int32).toInt = -1 := rfl
        omega
      rw [k4, k3, decide_eq_false hne, decide_eq_true k1, zk_f, zk_f, zk_t, zi_nat (by omega)]
      refine ⟨zRf_tr a3 w2, k5, fun _ st => ?_⟩
      have hF2 := zFa_f hF (zRf_tr a3 w2)
      rw [hF2.1 k k1]
      exact zpTk_f F st (by omega)
    · rw [k4, k3, decide_eq_true (show (-1 : Int32) = -1 from rfl), decide_eq_false (by omega), zk_t, zk_t, zk_f, k6]
      obtain ⟨u1, u2⟩ := zR_wr k5 hs rfl
      exact ⟨zRf_tr (zRf_tr a3 w2) u2, u1, fun hh => absurd hh (zpFl_ne hn b3)⟩
  refine ⟨okp, ?_⟩
  rw [zD_pw, zD_pv, h12, decide_eq_true (show (-1 : Int32) = -1 from rfl), zk_t, zk_t, b1, b2, zi_le (by omega) (by omega)]
  by_cases q : s.1 < n
  · rw [decide_eq_false (show ¬ n ≤ s.1 by omega), zk_f, zk_f, (zR_lt a1.1 q).1, zg_inn]
    rw [decide_eq_true q, Bool.true_and] at hdig
    rw [← hdig]
    by_cases q2 : s.1 < zpRn t n 48 57 s.1
    · rw [decide_eq_true q2, zk_t, zk_t]
      have e : zpPart t n s = ((16 : Int32) + (zpNum t n 999 s).1, (zpNum t n 999 s).2) := by
        unfold zpPart
        rw [decide_eq_true q2, zk_t]
      rw [e]
      refine ⟨zRf_tr a3 g2, g3, fun hh st => ?_⟩
      rw [g4 hh]
      obtain ⟨r1, r2⟩ := zpNum_r (t := t) (m := 999) b3
      exact zpTk_n F st r1 r2
    · rw [decide_eq_false q2, zk_f, zk_f]
      exact wv q2
  · rw [decide_eq_true (show n ≤ s.1 by omega), zk_t, zk_t]
    refine wv ?_
    rw [decide_eq_false q, Bool.false_and] at hdig
    exact of_decide_eq_false hdig
