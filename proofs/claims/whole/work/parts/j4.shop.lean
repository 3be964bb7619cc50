/-! a line of a person -/
def zcP4 (M : zMem) : zMem := (w_T_takeNumber (w_T_needWord (w_T_takeNumber (w_T_needWord M 5) (99 : Int32)) 6) (9 : Int32))
def zcPu (M : zMem) : zMem := (bif (v_T_takeWord (zcP4 M) 7) then (w_T_takeKind (w_T_takeWord (zcP4 M) 7)) else (w_T_takeWord (zcP4 M) 7))
def zcPv (M : zMem) : Int32 := (bif (v_T_takeWord (zcP4 M) 7) then (v_T_takeKind (w_T_takeWord (zcP4 M) 7)) else (-1 : Int32))
theorem zcPe (M : zMem) : w_H_readPerson M = (w_S_addPerson (zcPu M) 15 (v_T_takeNumber (w_T_needWord M 5) (99 : Int32)) (v_T_takeNumber (w_T_needWord (w_T_takeNumber (w_T_needWord M 5) (99 : Int32)) 6) (9 : Int32)) (zcPv M)) := by
  unfold w_H_readPerson zcPu zcPv zcP4
  rfl
theorem zcPo (M : zMem) : ok_H_readPerson M = (ok_T_needWord M 5 ∧ (ok_T_takeNumber (w_T_needWord M 5) (99 : Int32) ∧ (ok_T_needWord (w_T_takeNumber (w_T_needWord M 5) (99 : Int32)) 6 ∧ (ok_T_takeNumber (w_T_needWord (w_T_takeNumber (w_T_needWord M 5) (99 : Int32)) 6) (9 : Int32) ∧ (ok_T_takeWord (zcP4 M) 7 ∧ (((v_T_takeWord (zcP4 M) 7) = true → ok_T_takeKind (w_T_takeWord (zcP4 M) 7)) ∧ ok_S_addPerson (zcPu M) 15 (v_T_takeNumber (w_T_needWord M 5) (99 : Int32)) (v_T_takeNumber (w_T_needWord (w_T_takeNumber (w_T_needWord M 5) (99 : Int32)) 6) (9 : Int32)) (zcPv M))))))) := by
  unfold ok_H_readPerson zcPu zcPv zcP4
  rfl
def zdA2 (M : zMem) (x0 : Int32) : zMem := (w_D_after (w_D_after (bif (decide ((M 195 3) = (6 : Int32))) then (w_D_wrong M x0) else M) 56 (0 : Int32) (99 : Int32)) 57 (0 : Int32) (9 : Int32))
def zdXu (M : zMem) (x0 : Int32) : zMem := (bif (decide (((zdA2 M x0) 194 12) = (-1 : Int32))) then (bif (v_D_has (zdA2 M x0) 67) then (w_D_kindLetter (w_D_has (zdA2 M x0) 67)) else (w_D_has (zdA2 M x0) 67)) else (zdA2 M x0))
def zdXv (M : zMem) (x0 : Int32) : Int32 := (bif (decide (((zdA2 M x0) 194 12) = (-1 : Int32))) then (bif (v_D_has (zdA2 M x0) 67) then (v_D_kindLetter (w_D_has (zdA2 M x0) 67)) else (-1 : Int32)) else (-1 : Int32))
theorem zdPe (M : zMem) (x0 : Int32) : w_D_personLine M x0 = (bif (decide (((zdXu M x0) 194 12) = (-1 : Int32))) then (zy_l (w_D_lays (w_D_lays (w_D_lays (zf_for 6 (f_D_personLine_1 M x0) (zdXu M x0)) ((zdXu M x0) 195 3) (0 : Int32) (zdXv M x0)) ((zdXu M x0) 195 3) (2 : Int32) (v_D_after (bif (decide ((M 195 3) = (6 : Int32))) then (w_D_wrong M x0) else M) 56 (0 : Int32) (99 : Int32))) ((zdXu M x0) 195 3) (3 : Int32) (v_D_after (w_D_after (bif (decide ((M 195 3) = (6 : Int32))) then (w_D_wrong M x0) else M) 56 (0 : Int32) (99 : Int32)) 57 (0 : Int32) (9 : Int32))) (fun N => (zz_up N 195 3 ((N 195 3) + (1 : Int32))))) else (zdXu M x0)) := by
  unfold w_D_personLine zdXu zdXv zdA2
  rfl
theorem zdPo (M : zMem) (x0 : Int32) : ok_D_personLine M x0 = (ok_D_after (bif (decide ((M 195 3) = (6 : Int32))) then (w_D_wrong M x0) else M) 56 (0 : Int32) (99 : Int32) ∧ (ok_D_after (w_D_after (bif (decide ((M 195 3) = (6 : Int32))) then (w_D_wrong M x0) else M) 56 (0 : Int32) (99 : Int32)) 57 (0 : Int32) (9 : Int32) ∧ (((decide (((zdA2 M x0) 194 12) = (-1 : Int32))) = true → (ok_D_has (zdA2 M x0) 67 ∧ ((v_D_has (zdA2 M x0) 67) = true → ok_D_kindLetter (w_D_has (zdA2 M x0) 67)))) ∧ ((decide (((zdXu M x0) 194 12) = (-1 : Int32))) = true → ((∀ i1, i1 < 6 → kb_D_personLine_1 M x0 i1 (zf_for i1 (f_D_personLine_1 M x0) (zdXu M x0))) ∧ (ok_D_lays (zf_for 6 (f_D_personLine_1 M x0) (zdXu M x0)) ((zdXu M x0) 195 3) (0 : Int32) (zdXv M x0) ∧ (ok_D_lays (w_D_lays (zf_for 6 (f_D_personLine_1 M x0) (zdXu M x0)) ((zdXu M x0) 195 3) (0 : Int32) (zdXv M x0)) ((zdXu M x0) 195 3) (2 : Int32) (v_D_after (bif (decide ((M 195 3) = (6 : Int32))) then (w_D_wrong M x0) else M) 56 (0 : Int32) (99 : Int32)) ∧ ok_D_lays (w_D_lays (w_D_lays (zf_for 6 (f_D_personLine_1 M x0) (zdXu M x0)) ((zdXu M x0) 195 3) (0 : Int32) (zdXv M x0)) ((zdXu M x0) 195 3) (2 : Int32) (v_D_after (bif (decide ((M 195 3) = (6 : Int32))) then (w_D_wrong M x0) else M) 56 (0 : Int32) (99 : Int32))) ((zdXu M x0) 195 3) (3 : Int32) (v_D_after (w_D_after (bif (decide ((M 195 3) = (6 : Int32))) then (w_D_wrong M x0) else M) 56 (0 : Int32) (99 : Int32)) 57 (0 : Int32) (9 : Int32))))))))) := by
  unfold ok_D_personLine zdXu zdXv zdA2
  rfl
theorem zdPf (M : zMem) (x0 : Int32) (i1 : Nat) (a1 : zMem) : f_D_personLine_1 M x0 i1 a1 = (w_D_lays a1 ((zdXu M x0) 195 3) (Int32.ofNat i1) (0 : Int32)) := by
  unfold f_D_personLine_1 zdXu zdA2
  rfl
theorem zdPk (M : zMem) (x0 : Int32) (i1 : Nat) (a1 : zMem) : kb_D_personLine_1 M x0 i1 a1 = ok_D_lays a1 ((zdXu M x0) 195 3) (Int32.ofNat i1) (0 : Int32) := by
  unfold kb_D_personLine_1 zdXu zdA2
  rfl
def zpK7 (t : Nat → Int32) (n : Nat) (s : Nat × Int32) : Int32 × Nat × Int32 := bif zpHas t n 7 s then zpKd t n (zpAft t n 7 s) else (-1, s)
theorem zpK7_b {t : Nat → Int32} {n : Nat} {s : Nat × Int32} (h : ¬ s.2 = -1) : (zpK7 t n s).2.2 = s.2 := by
  unfold zpK7
  cases zpHas t n 7 s with
  | true => rw [zk_t]; exact zpKd_b (s := zpAft t n 7 s) h
  | false => rw [zk_f]
theorem zpK7_e {t : Nat → Int32} {n : Nat} {s : Nat × Int32} (h : ¬ s.2 = -1 → s.1 = n) : ¬ (zpK7 t n s).2.2 = -1 → (zpK7 t n s).2.1 = n := by
  unfold zpK7
  cases hc : zpHas t n 7 s with
  | false => rw [zk_f]; exact h
  | true =>
    rw [zk_t]
    exact zpKd_e (s := zpAft t n 7 s) (fun hh => absurd (zpHs_e (by decide) h hc) hh)
theorem zm17 : zrg (-1) 7 (-1 : Int32) := ⟨by decide, by decide⟩
theorem zix33 : ∀ p, p < 6 → ∀ k, k < 6 → ((33 : Int32) + ((6 : Int32) * Int32.ofNat p)) + Int32.ofNat k = Int32.ofNat (33 + 6 * p + k) := by decide +kernel
theorem zly {M : zMem} {p k : Nat} (hp : p < 6) (hk : k < 6) (v : Int32) : w_D_lays M (Int32.ofNat p) (Int32.ofNat k) v = zz_up M 195 (33 + 6 * p + k) v ∧ ok_D_lays M (Int32.ofNat p) (Int32.ofNat k) v := by
  unfold w_D_lays ok_D_lays
  rw [zix33 p hp k hk, zi_nat (by omega)]
  exact ⟨rfl, zi_in (by omega) (by omega)⟩
theorem zl6 {X : zMem} {p : Nat} {F : Nat → zMem → zMem} (hF : ∀ i a, i < 6 → F i a = zz_up a 195 (33 + 6 * p + i) 0) : ∀ k, k ≤ 6 → ∀ a i, (zf_for k F X) a i = (bif decide (a = 195 ∧ 33 + 6 * p ≤ i ∧ i < 33 + 6 * p + k) then 0 else X a i)
  | 0, _, a, i => by
    rw [decide_eq_false (by omega), zk_f]; rfl
  | k + 1, hk, a, i => by
    have e : zf_for (k + 1) F X = F k (zf_for k F X) := rfl
    rw [e, hF k _ (by omega)]
    by_cases c : a = 195 ∧ i = 33 + 6 * p + k
    · rw [zu_at c.1 c.2, decide_eq_true (by omega), zk_t]
    · rw [zu_o c, zl6 hF k (by omega) a i]
      by_cases c2 : a = 195 ∧ 33 + 6 * p ≤ i ∧ i < 33 + 6 * p + k
      · rw [decide_eq_true c2, decide_eq_true (by omega)]
      · rw [decide_eq_false c2, decide_eq_false (by omega)]
/-- a person is written, both sides -/
theorem zS_add {U X Z : zMem} {p : Nat} {age luck v : Int32} (hp : p < 6) (h10 : U 15 10 = Int32.ofNat p) (hS : zc_St U 15 (X 195)) (ha : zrg 0 99 age) (hl : zrg 0 9 luck) (hv : zrg (-1) 7 v) (hZ : ∀ a i, Z a i = (bif decide (a = 195 ∧ 33 + 6 * p ≤ i ∧ i < 33 + 6 * p + 6) then 0 else X a i)) : zc_St (w_S_addPerson U 15 age luck v) 15 ((zz_up (zz_up (zz_up (zz_up Z 195 (33 + 6 * p + 0) v) 195 (33 + 6 * p + 2) age) 195 (33 + 6 * p + 3) luck) 195 3 (Int32.ofNat (p + 1))) 195) := by
  have ew : w_S_addPerson U 15 age luck v = zz_up (zz_up (zz_up (zz_up (zz_up (zz_up (zz_up U 19 p v) 20 p 0) 21 p age) 22 p luck) 23 p 0) 24 p 0) 15 10 (Int32.ofNat (p + 1)) := by
    unfold w_S_addPerson
    rw [h10, zi_lti, zi_val (by omega), show (6 : Int32).toInt = 6 from rfl, decide_eq_true (show (p : Int) < 6 by omega), zk_t, zi_nat (by omega), zi_succ]
  rw [ew]
  have z0 : zrg 0 65535 (0 : Int32) := ⟨by decide, by decide⟩
  have z4 : zrg 0 255 (0 : Int32) := ⟨by decide, by decide⟩
  have z5 : zrg 0 999 (0 : Int32) := ⟨by decide, by decide⟩
  have s0 := zc_uP (f := 0) (v := v) hS hp (by omega) hv
  have s1 := zc_uP (f := 1) (v := 0) s0 hp (by omega) z0
  have s2 := zc_uP (f := 2) (v := age) s1 hp (by omega) ha
  have s3 := zc_uP (f := 3) (v := luck) s2 hp (by omega) hl
  have s4 := zc_uP (f := 4) (v := 0) s3 hp (by omega) z4
  have s5 := zc_uP (f := 5) (v := 0) s4 hp (by omega) z5
  have s6 := zc_uF10 (v := Int32.ofNat (p + 1)) s5 ⟨by rw [zi_val (by omega)]; omega, by rw [zi_val (by omega)]; omega⟩
  refine zc_pt (fun a i _ _ _ => rfl) (fun i hi => ?_) s6
  by_cases c3 : i = 3
  · rw [c3, zu_at rfl rfl, zu_at rfl rfl]
  by_cases e0 : i = 33 + 6 * p + 0
  · rw [e0, zu_o (by omega), zu_o (by omega), zu_o (by omega), zu_at rfl rfl, zu_o (by omega), zu_o (by omega), zu_o (by omega), zu_o (by omega), zu_o (by omega), zu_o (by omega), zu_at rfl rfl]
  by_cases e1 : i = 33 + 6 * p + 1
  · rw [e1, zu_o (by omega), zu_o (by omega), zu_o (by omega), zu_o (by omega), hZ 195 _, decide_eq_true (by omega), zk_t, zu_o (by omega), zu_o (by omega), zu_o (by omega), zu_o (by omega), zu_o (by omega), zu_at rfl rfl]
  by_cases e2 : i = 33 + 6 * p + 2
  · rw [e2, zu_o (by omega), zu_o (by omega), zu_at rfl rfl, zu_o (by omega), zu_o (by omega), zu_o (by omega), zu_o (by omega), zu_at rfl rfl]
  by_cases e3 : i = 33 + 6 * p + 3
  · rw [e3, zu_o (by omega), zu_at rfl rfl, zu_o (by omega), zu_o (by omega), zu_o (by omega), zu_at rfl rfl]
  by_cases e4 : i = 33 + 6 * p + 4
  · rw [e4, zu_o (by omega), zu_o (by omega), zu_o (by omega), zu_o (by omega), hZ 195 _, decide_eq_true (by omega), zk_t, zu_o (by omega), zu_o (by omega), zu_at rfl rfl]
  by_cases e5 : i = 33 + 6 * p + 5
  · rw [e5, zu_o (by omega), zu_o (by omega), zu_o (by omega), zu_o (by omega), hZ 195 _, decide_eq_true (by omega), zk_t, zu_o (by omega), zu_at rfl rfl]
  rw [zu_o (by omega), zu_o (by omega), zu_o (by omega), zu_o (by omega), hZ 195 i, decide_eq_false (by omega), zk_f, zu_o (by omega), zu_o (by omega), zu_o (by omega), zu_o (by omega), zu_o (by omega), zu_o (by omega), zu_o (by omega)]
theorem zS_pers {N R : zMem} {t : Nat → Int32} {n p : Nat} {s : Nat × Int32} (x0 : Int32) (hs : s.2 = -1) (hT : zT N t n s) (hR : zR R t n s 0) (hS : zc_St N 15 (R 195)) (hp : p < 6) (h10 : N 15 10 = Int32.ofNat p) : ∃ s', zSs N R (w_H_readPerson N) (w_D_personLine R x0) t n s' ∧ ok_H_readPerson N ∧ ok_D_personLine R x0 := by
  have h3 : R 195 3 = Int32.ofNat p := by rw [← h10]; exact hS.2.2.1.1.1.symm
  have hn := hT.2.1
  have d6 : decide (R 195 3 = (6 : Int32)) = false := by
    rw [h3, show (6 : Int32) = Int32.ofNat 6 from rfl, zN_eq (by omega) (by omega)]
    exact decide_eq_false (by omega)
  have eB : (bif (decide ((R 195 3) = (6 : Int32))) then (w_D_wrong R x0) else R) = R := by rw [d6, zk_f]
  obtain ⟨a, hA⟩ : ∃ a, a = zpNum t n 99 (zpNW t n 5 s) := ⟨_, rfl⟩
  obtain ⟨l, hl⟩ : ∃ l, l = zpNum t n 9 (zpNW t n 6 a.2) := ⟨_, rfl⟩
  obtain ⟨u, hu⟩ : ∃ u, u = zpK7 t n l.2 := ⟨_, rfl⟩
  -- the class
  obtain ⟨a1, a2, a3⟩ := zT_nw hT 5 (by decide)
  obtain ⟨b1, b2, b3, b4⟩ := zT_nm a1 99
  obtain ⟨c1, c2, c3⟩ := zT_nw b2 6 (by decide)
  obtain ⟨d1, d2, d3, d4⟩ := zT_nm c1 9
  have na := a1.2.2.2.2.1
  have nc := c1.2.2.2.2.1
  rw [← hA] at b1 b2 c1 d1 d2 nc
  rw [← hl] at d1 d2
  have e4 : w_T_takeNumber (w_T_needWord (w_T_takeNumber (w_T_needWord N 5) 99) 6) 9 = zcP4 N := rfl
  rw [e4] at d2 d4
  have nl := d2.2.2.2.2.1
  obtain ⟨g1, g2, g3, g4⟩ := zT_wd d2 7 (by decide)
  have hU : zcPv N = u.1 ∧ zT (zcPu N) t n u.2 ∧ ((v_T_takeWord (zcP4 N) 7) = true → ok_T_takeKind (w_T_takeWord (zcP4 N) 7)) ∧ (∀ a j, ¬ (a = 2 ∧ (j = 3 ∨ j = 4)) → zcPu N a j = zcP4 N a j) := by
    unfold zcPv zcPu
    rw [hu, g1]
    unfold zpK7
    cases hc : zpHas t n 7 l.2 with
    | true =>
      rw [hc, zk_t] at g4 g2
      obtain ⟨q1, q2, q3, q4⟩ := zT_kd g4
      rw [zk_t, zk_t, zk_t]
      refine ⟨q1, q2, fun _ => q3, fun a j hj => (q4 a j hj).trans ?_⟩
      rw [g2, zu_o (by omega)]
    | false =>
      rw [hc, zk_f] at g4 g2
      rw [zk_f, zk_f, zk_f]
      exact ⟨rfl, g4, (fun hh => by cases hh), fun a j hj => by rw [g2]⟩
  obtain ⟨u1, u2, u3, u4⟩ := hU
  have uf : ∀ b j, ¬ (b = 2 ∧ (j = 3 ∨ j = 4)) → zcPu N b j = N b j := fun b j hj => (u4 b j hj).trans ((d4 b j hj).trans ((c3 b j hj).trans ((b4 b j hj).trans (a3 b j hj))))
  have u10 : zcPu N 15 10 = Int32.ofNat p := (uf 15 10 (by omega)).trans h10
  have okc : ok_H_readPerson N := by
    rw [zcPo]
    refine ⟨a2, b3, c2, d3, g3, u3, fun _ => ?_⟩
    rw [u10]; exact zi_in (by omega) (by omega)
  have wf : ∀ b j, ¬ (15 ≤ b ∧ b ≤ 25) → w_H_readPerson N b j = zcPu N b j := fun b j hb => by
    rw [zcPe]
    unfold w_S_addPerson
    refine zbif_f (P := fun W : zMem => W b j = zcPu N b j) ?_ rfl
    rw [zu_o (by omega), zu_o (by omega), zu_o (by omega), zu_o (by omega), zu_o (by omega), zu_o (by omega), zu_o (by omega)]
  have hTk : zT (w_H_readPerson N) t n u.2 := zT_fr u2 (fun b j hb => wf b j (by omega))
  have hfN : ∀ b j, ¬ (15 ≤ b ∧ b ≤ 25) → ¬ (b = 2 ∧ (j = 3 ∨ j = 4)) → w_H_readPerson N b j = N b j := fun b j q1 q2 => (wf b j q1).trans (uf b j q2)
  -- the reference
  obtain ⟨r1, r2, r3, r4⟩ := zRa' hR 5 56 rfl (by decide) 99
  rw [← hA] at r3 r4
  obtain ⟨x1, x2, x3, x4⟩ := zRa' r3 6 57 rfl (by decide) 9
  rw [← hl] at x3 x4
  have eA2 : w_D_after (w_D_after R 56 (0 : Int32) 99) 57 (0 : Int32) 9 = zdA2 R x0 := by
    unfold zdA2
    rw [eB]
  rw [eA2] at x2 x3
  have hX : zR (zdXu R x0) t n u.2 0 ∧ zRf R (zdXu R x0) ∧ (u.2.2 = -1 → l.2.2 = -1 ∧ zdXv R x0 = u.1) ∧ ((decide (((zdA2 R x0) 194 12) = (-1 : Int32))) = true → (ok_D_has (zdA2 R x0) 67 ∧ ((v_D_has (zdA2 R x0) 67) = true → ok_D_kindLetter (w_D_has (zdA2 R x0) 67)))) := by
    unfold zdXu zdXv
    rw [x3.2.1]
    by_cases c : l.2.2 = -1
    · obtain ⟨q1, q2, q3, q4, q5⟩ := zR_wd x3 c 7 67 rfl (by decide)
      rw [decide_eq_true c, zk_t, zk_t, q1, hu]
      unfold zpK7
      cases hc : zpHas t n 7 l.2 with
      | true =>
        obtain ⟨y1, y2, y3, y4⟩ := zRk (q3 hc)
        rw [zk_t, zk_t, zk_t]
        exact ⟨y3, zRf_tr r2 (zRf_tr x2 (zRf_tr q5 y2)), fun hh => ⟨c, y4 hh⟩, fun _ => ⟨q2, fun _ => y1⟩⟩
      | false =>
        rw [zk_f, zk_f, zk_f]
        exact ⟨(q4 hc).1, zRf_tr r2 (zRf_tr x2 q5), fun hh => ⟨c, rfl⟩, fun _ => ⟨q2, (fun hh => by cases hh)⟩⟩
    · rw [decide_eq_false c, zk_f, zk_f]
      have e2 : u.2.2 = l.2.2 := by rw [hu]; exact zpK7_b c
      exact ⟨zR_bad x3 c e2, zRf_tr r2 x2, fun hh => absurd (e2.symm.trans hh) c, (fun hh => by cases hh)⟩
  obtain ⟨y1, y2, y3, y4⟩ := hX
  have yp : (zdXu R x0) 195 3 = Int32.ofNat p := (y2 195 3 (by omega)).trans h3
  have hF : ∀ i b, i < 6 → f_D_personLine_1 R x0 i b = zz_up b 195 (33 + 6 * p + i) 0 := fun i b hi => by
    rw [zdPf, yp]; exact (zly hp hi 0).1
  have hZ := zl6 (X := zdXu R x0) hF 6 (Nat.le_refl 6)
  have okd : ok_D_personLine R x0 := by
    rw [zdPo, eB]
    refine ⟨r1, x1, y4, fun _ => ⟨fun i hi => ?_, ?_, ?_, ?_⟩⟩
    · rw [zdPk, yp]; exact (zly hp hi 0).2
    · rw [yp]; exact (zly hp (k := 0) (by omega) _).2
    · rw [yp]; exact (zly hp (k := 2) (by omega) _).2
    · rw [yp]; exact (zly hp (k := 3) (by omega) _).2
  have hE : ¬ u.2.2 = -1 → u.2.1 = n := by
    rw [hu, hl, hA]
    exact zpK7_e (zpNm_e (zpNW_e (by decide) (zpNm_e (zpNW_e (by decide) (fun hh => absurd hs hh)))))
  refine ⟨u.2, ?_, okc, okd⟩
  by_cases hg : u.2.2 = -1
  · obtain ⟨p1, p2⟩ := y3 hg
    have p3 : a.2.2 = -1 := by
      by_cases c : a.2.2 = -1
      · exact c
      · have e1 := zpNW_b (t := t) (n := n) (k := 6) c
        have e2 : l.2.2 = (zpNW t n 6 a.2).2 := by rw [hl]; exact zpNm_b (by rw [e1]; exact c)
        rw [e2, e1] at p1; exact p1
    have d12 : decide ((zdXu R x0) 194 12 = (-1 : Int32)) = true := by rw [y1.2.1]; exact decide_eq_true hg
    generalize hz6 : zf_for 6 (f_D_personLine_1 R x0) (zdXu R x0) = Z at hZ
    have eW : w_D_personLine R x0 = zz_up (zz_up (zz_up (zz_up Z 195 (33 + 6 * p + 0) u.1) 195 (33 + 6 * p + 2) a.1) 195 (33 + 6 * p + 3) l.1) 195 3 (Int32.ofNat (p + 1)) := by
      rw [zdPe, d12, zk_t, eB, yp, p2, r4 p3, x4 p1, hz6]
      have w0 : w_D_lays Z (Int32.ofNat p) (0 : Int32) u.1 = zz_up Z 195 (33 + 6 * p + 0) u.1 := (zly hp (k := 0) (by omega) _).1
      have w2 : ∀ Q : zMem, w_D_lays Q (Int32.ofNat p) (2 : Int32) a.1 = zz_up Q 195 (33 + 6 * p + 2) a.1 := fun Q => (zly hp (k := 2) (by omega) _).1
      have w3 : ∀ Q : zMem, w_D_lays Q (Int32.ofNat p) (3 : Int32) l.1 = zz_up Q 195 (33 + 6 * p + 3) l.1 := fun Q => (zly hp (k := 3) (by omega) _).1
      rw [w0, w2, w3]
      have e3 : (zz_up (zz_up (zz_up Z 195 (33 + 6 * p + 0) u.1) 195 (33 + 6 * p + 2) a.1) 195 (33 + 6 * p + 3) l.1) 195 3 = Int32.ofNat p := by
        rw [zu_o (by omega), zu_o (by omega), zu_o (by omega), hZ 195 3, decide_eq_false (by omega), zk_f, yp]
      show zz_up (zz_up (zz_up (zz_up Z 195 (33 + 6 * p + 0) u.1) 195 (33 + 6 * p + 2) a.1) 195 (33 + 6 * p + 3) l.1) 195 3 ((zz_up (zz_up (zz_up Z 195 (33 + 6 * p + 0) u.1) 195 (33 + 6 * p + 2) a.1) 195 (33 + 6 * p + 3) l.1) 195 3 + (1 : Int32)) = _
      rw [e3, zi_succ]
    have hSU : zc_St (zcPu N) 15 ((zdXu R x0) 195) := zc_pt (fun b j _ _ _ => uf b j (by omega)) (fun i hi => y2 195 i (by omega)) hS
    have ra : zrg 0 99 a.1 := by
      rw [hA] at p3 ⊢; exact zpNm_r (m := 99) hn na p3
    have rl : zrg 0 9 l.1 := by
      rw [hl] at p1 ⊢; exact zpNm_r (m := 9) hn nc p1
    have ru : zrg (-1) 7 u.1 := by
      rw [hu] at hg ⊢
      unfold zpK7 at hg ⊢
      cases hc : zpHas t n 7 l.2 with
      | true =>
        rw [hc, zk_t] at hg
        rw [zk_t]
        obtain ⟨v, v1, v2⟩ := zpKd_r hn (zpG_hs hc nl).1 hg
        rw [v2]
        exact ⟨by rw [zi_val (by omega)]; omega, by rw [zi_val (by omega)]; omega⟩
      | false => rw [zk_f]; exact zm17
    have hSt := zS_add hp u10 hSU ra rl ru hZ
    rw [← eW] at hSt
    have eC : w_H_readPerson N = w_S_addPerson (zcPu N) 15 a.1 l.1 u.1 := by rw [zcPe, b1, d1, u1]
    rw [← eC] at hSt
    have hVf : ∀ b i, ¬ (b = 195 ∧ 3 ≤ i ∧ i < 309) → w_D_personLine R x0 b i = zdXu R x0 b i := fun b i h => by
      rw [eW, zu_o (by omega), zu_o (by omega), zu_o (by omega), zu_o (by omega), hZ b i, decide_eq_false (by omega), zk_f]
    exact ⟨hTk, zR_fr y1 (fun b i h => hVf b i (by omega)), fun _ => hSt, hfN, fun b i q1 q2 => (hVf b i q1).trans (y2 b i q2), hE⟩
  · have d12 : decide ((zdXu R x0) 194 12 = (-1 : Int32)) = false := by rw [y1.2.1]; exact decide_eq_false hg
    have eW : w_D_personLine R x0 = zdXu R x0 := by
      rw [zdPe, d12]
      exact zk_f _ _
    rw [eW]
    exact ⟨hTk, y1, fun hh => absurd hh hg, hfN, fun b i q1 q2 => y2 b i q2, hE⟩
