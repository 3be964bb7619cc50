/-! a line of a kind -/
def zcK3 (M : zMem) : Int32 × zMem := (zf_for 4 (f_H_readKind_1 M) ((0 : Int32), (w_T_needWord (w_T_takeKind M) 1)))
def zcK4 (M : zMem) : zMem := (bif (v_T_takeWord (zcK3 M).2 2) then (w_T_takeNumber (w_T_takeWord (zcK3 M).2 2) (7 : Int32)) else (w_T_takeWord (zcK3 M).2 2))
def zcD4 (M : zMem) : Int32 := (bif (v_T_takeWord (zcK3 M).2 2) then (v_T_takeNumber (w_T_takeWord (zcK3 M).2 2) (7 : Int32)) else (-1 : Int32))
def zcK5 (M : zMem) : zMem := (bif (v_T_takeWord (zcK4 M) 3) then (w_T_takeKind (w_T_takeWord (zcK4 M) 3)) else (w_T_takeWord (zcK4 M) 3))
def zcD5 (M : zMem) : Int32 := (bif (v_T_takeWord (zcK4 M) 3) then (v_T_takeKind (w_T_takeWord (zcK4 M) 3)) else (-1 : Int32))
theorem zcKe (M : zMem) : w_H_readKind M = (bif (decide ((v_T_takeKind M) < 0)) then (zcK5 M) else (bif (decide ((v_T_takeKind M) < (8 : Int32))) then (bif (decide ((zcD5 M) = (-1 : Int32))) then (bif (decide ((zcD4 M) = (-1 : Int32))) then (zz_up (zcK5 M) 16 (v_T_takeKind M).toNatClampNeg (zcK3 M).1) else (zz_up (zz_up (zcK5 M) 16 (v_T_takeKind M).toNatClampNeg (zcK3 M).1) 17 (v_T_takeKind M).toNatClampNeg (zcD4 M))) else (zz_up (bif (decide ((zcD4 M) = (-1 : Int32))) then (zz_up (zcK5 M) 16 (v_T_takeKind M).toNatClampNeg (zcK3 M).1) else (zz_up (zz_up (zcK5 M) 16 (v_T_takeKind M).toNatClampNeg (zcK3 M).1) 17 (v_T_takeKind M).toNatClampNeg (zcD4 M))) 18 (v_T_takeKind M).toNatClampNeg (zcD5 M))) else (zcK5 M))) := by
  unfold w_H_readKind zcK5 zcD5 zcK4 zcD4 zcK3
  rfl
theorem zcKo (M : zMem) : ok_H_readKind M = (ok_T_takeKind M ∧ (ok_T_needWord (w_T_takeKind M) 1 ∧ ((∀ i1, i1 < 4 → kb_H_readKind_1 M i1 (zf_for i1 (f_H_readKind_1 M) ((0 : Int32), (w_T_needWord (w_T_takeKind M) 1)))) ∧ (ok_T_takeWord (zcK3 M).2 2 ∧ (((v_T_takeWord (zcK3 M).2 2) = true → ok_T_takeNumber (w_T_takeWord (zcK3 M).2 2) (7 : Int32)) ∧ (ok_T_takeWord (zcK4 M) 3 ∧ (((v_T_takeWord (zcK4 M) 3) = true → ok_T_takeKind (w_T_takeWord (zcK4 M) 3)) ∧ ((decide ((v_T_takeKind M) < 0)) = false → ((decide ((v_T_takeKind M) < (8 : Int32))) = true → zz_in (v_T_takeKind M) 8 = true))))))))) := by
  unfold ok_H_readKind zcK4 zcK3
  rfl
def zdX3 (M : zMem) : zMem := (bif (v_D_expects (w_D_kindLetter M) 64) then (zf_for 4 (f_D_kindLine_1 M) ((0 : Int32), (w_D_expects (w_D_kindLetter M) 64))).2 else (w_D_expects (w_D_kindLetter M) 64))
def zdV3 (M : zMem) : Int32 := (bif (v_D_expects (w_D_kindLetter M) 64) then (zf_for 4 (f_D_kindLine_1 M) ((0 : Int32), (w_D_expects (w_D_kindLetter M) 64))).1 else (0 : Int32))
def zdX4 (M : zMem) : zMem := (bif (decide (((zdX3 M) 194 12) = (-1 : Int32))) then (bif (v_D_has (zdX3 M) 65) then (w_D_figures (w_D_has (zdX3 M) 65) (0 : Int32) (7 : Int32)) else (w_D_has (zdX3 M) 65)) else (zdX3 M))
def zdV4 (M : zMem) : Int32 := (bif (decide (((zdX3 M) 194 12) = (-1 : Int32))) then (bif (v_D_has (zdX3 M) 65) then (v_D_figures (w_D_has (zdX3 M) 65) (0 : Int32) (7 : Int32)) else (-1 : Int32)) else (-1 : Int32))
def zdX5 (M : zMem) : zMem := (bif (decide (((zdX4 M) 194 12) = (-1 : Int32))) then (bif (v_D_has (zdX4 M) 66) then (w_D_kindLetter (w_D_has (zdX4 M) 66)) else (w_D_has (zdX4 M) 66)) else (zdX4 M))
def zdV5 (M : zMem) : Int32 := (bif (decide (((zdX4 M) 194 12) = (-1 : Int32))) then (bif (v_D_has (zdX4 M) 66) then (v_D_kindLetter (w_D_has (zdX4 M) 66)) else (-2 : Int32)) else (-2 : Int32))
theorem zdKe (M : zMem) : w_D_kindLine M = (bif (decide (((zdX5 M) 194 12) = (-1 : Int32))) then (bif (decide ((zdV5 M) = (-2 : Int32))) then (bif (decide ((zdV4 M) = (-1 : Int32))) then (zz_up (zdX5 M) 195 (((9 : Int32) + ((3 : Int32) * (v_D_kindLetter M))) + (0 : Int32)).toNatClampNeg (zdV3 M)) else (zz_up (zz_up (zdX5 M) 195 (((9 : Int32) + ((3 : Int32) * (v_D_kindLetter M))) + (0 : Int32)).toNatClampNeg (zdV3 M)) 195 (((9 : Int32) + ((3 : Int32) * (v_D_kindLetter M))) + (1 : Int32)).toNatClampNeg (zdV4 M))) else (zz_up (bif (decide ((zdV4 M) = (-1 : Int32))) then (zz_up (zdX5 M) 195 (((9 : Int32) + ((3 : Int32) * (v_D_kindLetter M))) + (0 : Int32)).toNatClampNeg (zdV3 M)) else (zz_up (zz_up (zdX5 M) 195 (((9 : Int32) + ((3 : Int32) * (v_D_kindLetter M))) + (0 : Int32)).toNatClampNeg (zdV3 M)) 195 (((9 : Int32) + ((3 : Int32) * (v_D_kindLetter M))) + (1 : Int32)).toNatClampNeg (zdV4 M))) 195 (((9 : Int32) + ((3 : Int32) * (v_D_kindLetter M))) + (2 : Int32)).toNatClampNeg (zdV5 M))) else (zdX5 M)) := by
  unfold w_D_kindLine zdX5 zdV5 zdX4 zdV4 zdX3 zdV3
  rfl
theorem zdKo (M : zMem) : ok_D_kindLine M = (ok_D_kindLetter M ∧ (ok_D_expects (w_D_kindLetter M) 64 ∧ (((v_D_expects (w_D_kindLetter M) 64) = true → (∀ i1, i1 < 4 → kb_D_kindLine_1 M i1 (zf_for i1 (f_D_kindLine_1 M) ((0 : Int32), (w_D_expects (w_D_kindLetter M) 64))))) ∧ (((decide (((zdX3 M) 194 12) = (-1 : Int32))) = true → (ok_D_has (zdX3 M) 65 ∧ ((v_D_has (zdX3 M) 65) = true → ok_D_figures (w_D_has (zdX3 M) 65) (0 : Int32) (7 : Int32)))) ∧ (((decide (((zdX4 M) 194 12) = (-1 : Int32))) = true → (ok_D_has (zdX4 M) 66 ∧ ((v_D_has (zdX4 M) 66) = true → ok_D_kindLetter (w_D_has (zdX4 M) 66)))) ∧ ((decide (((zdX5 M) 194 12) = (-1 : Int32))) = true → (zz_in (((9 : Int32) + ((3 : Int32) * (v_D_kindLetter M))) + (0 : Int32)) 709 = true ∧ (((decide ((zdV4 M) = (-1 : Int32))) = false → zz_in (((9 : Int32) + ((3 : Int32) * (v_D_kindLetter M))) + (1 : Int32)) 709 = true) ∧ ((decide ((zdV5 M) = (-2 : Int32))) = false → zz_in (((9 : Int32) + ((3 : Int32) * (v_D_kindLetter M))) + (2 : Int32)) 709 = true))))))))) := by
  unfold ok_D_kindLine zdX5 zdV5 zdX4 zdV4 zdX3
  rfl
def zpMk (t : Nat → Int32) (n : Nat) (s : Nat × Int32) : Nat → Int32 × Nat × Int32
  | 0 => (0, s)
  | i + 1 => ((zpMk t n s i).1 ||| zsl (zpFg t n (zpMk t n s i).2).1 ((4 : Int32) * Int32.ofNat i), (zpFg t n (zpMk t n s i).2).2)
def zpK4 (t : Nat → Int32) (n : Nat) (s : Nat × Int32) : Int32 × Nat × Int32 := bif zpHas t n 2 s then zpNum t n 7 (zpAft t n 2 s) else (-1, s)
def zpK5 (t : Nat → Int32) (n : Nat) (s : Nat × Int32) : Int32 × Nat × Int32 := bif zpHas t n 3 s then zpKd t n (zpAft t n 3 s) else (-1, s)
theorem zpMk_b {t : Nat → Int32} {n : Nat} {s : Nat × Int32} (h : ¬ s.2 = -1) : ∀ i, (zpMk t n s i).2.2 = s.2
  | 0 => rfl
  | i + 1 => by
    have ih := zpMk_b (t := t) (n := n) h i
    show (zpFg t n (zpMk t n s i).2).2.2 = s.2
    rw [zpFg_b (by rw [ih]; exact h)]; exact ih
theorem zpK4_b {t : Nat → Int32} {n : Nat} {s : Nat × Int32} (h : ¬ s.2 = -1) : (zpK4 t n s).2.2 = s.2 := by
  unfold zpK4
  cases zpHas t n 2 s with
  | true => rw [zk_t]; exact zpNm_b (s := zpAft t n 2 s) h
  | false => rw [zk_f]
theorem zpK5_b {t : Nat → Int32} {n : Nat} {s : Nat × Int32} (h : ¬ s.2 = -1) : (zpK5 t n s).2.2 = s.2 := by
  unfold zpK5
  cases zpHas t n 3 s with
  | true => rw [zk_t]; exact zpKd_b (s := zpAft t n 3 s) h
  | false => rw [zk_f]
theorem zT_mk {M : zMem} {t : Nat → Int32} {n : Nat} {s : Nat × Int32} (h : zT M t n s) (M0 : zMem) : ∀ i, (zf_for i (f_H_readKind_1 M0) ((0 : Int32), M)).1 = (zpMk t n s i).1 ∧ zT (zf_for i (f_H_readKind_1 M0) ((0 : Int32), M)).2 t n (zpMk t n s i).2 ∧ kb_H_readKind_1 M0 i (zf_for i (f_H_readKind_1 M0) ((0 : Int32), M)) ∧ (∀ a j, ¬ (a = 2 ∧ (j = 3 ∨ j = 4)) → (zf_for i (f_H_readKind_1 M0) ((0 : Int32), M)).2 a j = M a j)
  | 0 => ⟨rfl, h, (zT_fg h).2.2.1, fun _ _ _ => rfl⟩
  | i + 1 => by
    obtain ⟨a1, a2, -, a4⟩ := zT_mk h M0 i
    obtain ⟨b1, b2, b3, b4⟩ := zT_fg a2
    have e : zf_for (i + 1) (f_H_readKind_1 M0) ((0 : Int32), M) = f_H_readKind_1 M0 i (zf_for i (f_H_readKind_1 M0) ((0 : Int32), M)) := rfl
    rw [e]
    clear e
    generalize zf_for i (f_H_readKind_1 M0) ((0 : Int32), M) = z at a1 a2 a4 b1 b2 b3 b4 ⊢
    unfold f_H_readKind_1
    refine ⟨?_, b2, (zT_fg b2).2.2.1, fun a j hj => (b4 a j hj).trans (a4 a j hj)⟩
    show _ ||| zsl (v_T_takeFigures _) _ = (zpMk t n s i).1 ||| _
    rw [a1, b1]
theorem zR_mk {M : zMem} {t : Nat → Int32} {n : Nat} {s : Nat × Int32} (h : zR M t n s 0) (M0 : zMem) : ∀ i, ((zpMk t n s i).2.2 = -1 → (zf_for i (f_D_kindLine_1 M0) ((0 : Int32), M)).1 = (zpMk t n s i).1) ∧ zR (zf_for i (f_D_kindLine_1 M0) ((0 : Int32), M)).2 t n (zpMk t n s i).2 0 ∧ kb_D_kindLine_1 M0 i (zf_for i (f_D_kindLine_1 M0) ((0 : Int32), M)) ∧ zRf M (zf_for i (f_D_kindLine_1 M0) ((0 : Int32), M)).2
  | 0 => ⟨fun _ => rfl, h, (zRm h).1, zRf_rf M⟩
  | i + 1 => by
    obtain ⟨a1, a2, -, a4⟩ := zR_mk h M0 i
    obtain ⟨b1, b2, b3, b4⟩ := zRm a2
    have e : zf_for (i + 1) (f_D_kindLine_1 M0) ((0 : Int32), M) = f_D_kindLine_1 M0 i (zf_for i (f_D_kindLine_1 M0) ((0 : Int32), M)) := rfl
    rw [e]
    clear e
    generalize zf_for i (f_D_kindLine_1 M0) ((0 : Int32), M) = z at a1 a2 a4 b1 b2 b3 b4 ⊢
    unfold f_D_kindLine_1
    refine ⟨fun hh => ?_, b3, (zRm b3).1, zRf_tr a4 b2⟩
    show _ ||| zsl (v_D_fourMarks _) _ = (zpMk t n s i).1 ||| _
    have hh : (zpFg t n (zpMk t n s i).2).2.2 = -1 := hh
    have h0 : (zpMk t n s i).2.2 = -1 := by
      by_cases c : (zpMk t n s i).2.2 = -1
      · exact c
      · rw [zpFg_b c] at hh; exact hh
    rw [a1 h0, b4 hh]
/-- the class reads a kind's line -/
theorem zT_kl {M : zMem} {t : Nat → Int32} {n : Nat} {s : Nat × Int32} (h : zT M t n s) {k m e f : Int32 × Nat × Int32} (hk : k = zpKd t n s) (hm : m = zpMk t n (zpNW t n 1 k.2) 4) (he : e = zpK4 t n m.2) (hf : f = zpK5 t n e.2) : v_T_takeKind M = k.1 ∧ (zcK3 M).1 = m.1 ∧ zcD4 M = e.1 ∧ zcD5 M = f.1 ∧ zT (zcK5 M) t n f.2 ∧ (∀ a j, ¬ (a = 2 ∧ (j = 3 ∨ j = 4)) → zcK5 M a j = M a j) ∧ (((decide ((v_T_takeKind M) < 0)) = false → ((decide ((v_T_takeKind M) < (8 : Int32))) = true → zz_in (v_T_takeKind M) 8 = true)) → ok_H_readKind M) := by
  obtain ⟨k1, k2, k3, k4⟩ := zT_kd h
  rw [← hk] at k1 k2
  obtain ⟨n1, n2, n3⟩ := zT_nw k2 1 (by decide)
  have mm := zT_mk n1 M
  obtain ⟨m1, m2, -, m4⟩ := mm 4
  rw [← hm] at m1 m2
  have e3 : zf_for 4 (f_H_readKind_1 M) ((0 : Int32), w_T_needWord (w_T_takeKind M) 1) = zcK3 M := rfl
  rw [e3] at m1 m2 m4
  obtain ⟨d1, d2, d3, d4⟩ := zT_wd m2 2 (by decide)
  have hE : zcD4 M = e.1 ∧ zT (zcK4 M) t n e.2 ∧ ((v_T_takeWord (zcK3 M).2 2) = true → ok_T_takeNumber (w_T_takeWord (zcK3 M).2 2) (7 : Int32)) ∧ (∀ a j, ¬ (a = 2 ∧ (j = 3 ∨ j = 4)) → zcK4 M a j = (zcK3 M).2 a j) := by
    unfold zcD4 zcK4
    rw [he, d1]
    unfold zpK4
    cases hc : zpHas t n 2 m.2 with
    | true =>
      rw [hc, zk_t] at d4 d2
      obtain ⟨q1, q2, q3, q4⟩ := zT_nm d4 7
      rw [zk_t, zk_t, zk_t]
      refine ⟨q1, q2, fun _ => q3, fun a j hj => (q4 a j hj).trans ?_⟩
      rw [d2, zu_o (by omega)]
    | false =>
      rw [hc, zk_f] at d4 d2
      rw [zk_f, zk_f, zk_f]
      exact ⟨rfl, d4, (fun hh => by cases hh), fun a j hj => by rw [d2]⟩
  obtain ⟨e1, e2, e4, e5⟩ := hE
  obtain ⟨g1, g2, g3, g4⟩ := zT_wd e2 3 (by decide)
  have hF : zcD5 M = f.1 ∧ zT (zcK5 M) t n f.2 ∧ ((v_T_takeWord (zcK4 M) 3) = true → ok_T_takeKind (w_T_takeWord (zcK4 M) 3)) ∧ (∀ a j, ¬ (a = 2 ∧ (j = 3 ∨ j = 4)) → zcK5 M a j = (zcK4 M) a j) := by
    unfold zcD5 zcK5
    rw [hf, g1]
    unfold zpK5
    cases hc : zpHas t n 3 e.2 with
    | true =>
      rw [hc, zk_t] at g4 g2
      obtain ⟨q1, q2, q3, q4⟩ := zT_kd g4
      rw [zk_t, zk_t, zk_t]
      refine ⟨q1, q2, fun _ => q3, fun a j hj => (q4 a j hj).trans ?_⟩
      rw [g2, zu_o (by omega)]
    | false =>
      rw [hc, zk_f] at g4 g2
      rw [zk_f, zk_f, zk_f]
      exact ⟨rfl, g4, (fun hh => by cases hh), fun a j hj => by rw [g2]⟩
  obtain ⟨f1, f2, f4, f5⟩ := hF
  refine ⟨k1, m1, e1, f1, f2, fun a j hj => (f5 a j hj).trans ((e5 a j hj).trans ((m4 a j hj).trans ((n3 a j hj).trans (k4 a j hj)))), fun hz => ?_⟩
  rw [zcKo]
  exact ⟨k3, n2, fun i hi => (mm i).2.2.1, d3, e4, g3, f4, hz⟩
/-- the reference reads a kind's line -/
theorem zR_kl {M : zMem} {t : Nat → Int32} {n : Nat} {s : Nat × Int32} (h : zR M t n s 0) {k m e f : Int32 × Nat × Int32} (hk : k = zpKd t n s) (hm : m = zpMk t n (zpNW t n 1 k.2) 4) (he : e = zpK4 t n m.2) (hf : f = zpK5 t n e.2) : zR (zdX5 M) t n f.2 0 ∧ zRf M (zdX5 M) ∧ (f.2.2 = -1 → k.2.2 = -1 ∧ m.2.2 = -1 ∧ e.2.2 = -1 ∧ v_D_kindLetter M = k.1 ∧ zdV3 M = m.1 ∧ zdV4 M = e.1 ∧ ((zpHas t n 3 e.2 = true ∧ zdV5 M = f.1) ∨ (zpHas t n 3 e.2 = false ∧ zdV5 M = -2))) ∧ (((decide ((zdX5 M) 194 12 = (-1 : Int32))) = true → (zz_in (((9 : Int32) + ((3 : Int32) * (v_D_kindLetter M))) + (0 : Int32)) 709 = true ∧ zz_in (((9 : Int32) + ((3 : Int32) * (v_D_kindLetter M))) + (1 : Int32)) 709 = true ∧ zz_in (((9 : Int32) + ((3 : Int32) * (v_D_kindLetter M))) + (2 : Int32)) 709 = true)) → ok_D_kindLine M) := by
  obtain ⟨k1, k2, k3, k4⟩ := zRk h
  rw [← hk] at k3 k4
  obtain ⟨n1, n2, n3, n4, n5⟩ := zRx k3 1 64 rfl (by decide)
  have mm := zR_mk n3 M
  have hX3 : zR (zdX3 M) t n m.2 0 ∧ zRf M (zdX3 M) ∧ (m.2.2 = -1 → k.2.2 = -1 ∧ zdV3 M = m.1) := by
    unfold zdX3 zdV3
    by_cases c : (zpNW t n 1 k.2).2 = -1
    · obtain ⟨a1, a2, -, a4⟩ := mm 4
      rw [← hm] at a1 a2
      rw [n4 c, zk_t, zk_t]
      refine ⟨a2, zRf_tr k2 (zRf_tr n2 a4), fun hh => ⟨?_, a1 hh⟩⟩
      by_cases c2 : k.2.2 = -1
      · exact c2
      · rw [zpNW_b c2] at c; exact c
    · rw [n5 c, zk_f, zk_f]
      have e2 : m.2.2 = (zpNW t n 1 k.2).2 := by rw [hm]; exact zpMk_b c 4
      exact ⟨zR_bad n3 c e2, zRf_tr k2 n2, fun hh => absurd (e2.symm.trans hh) c⟩
  obtain ⟨x1, x2, x3⟩ := hX3
  have hX4 : zR (zdX4 M) t n e.2 0 ∧ zRf M (zdX4 M) ∧ (e.2.2 = -1 → m.2.2 = -1 ∧ zdV4 M = e.1) ∧ ((decide (((zdX3 M) 194 12) = (-1 : Int32))) = true → (ok_D_has (zdX3 M) 65 ∧ ((v_D_has (zdX3 M) 65) = true → ok_D_figures (w_D_has (zdX3 M) 65) (0 : Int32) (7 : Int32)))) := by
    unfold zdX4 zdV4
    rw [x1.2.1]
    by_cases c : m.2.2 = -1
    · obtain ⟨a1, a2, a3, a4, a5⟩ := zR_wd x1 c 2 65 rfl (by decide)
      rw [decide_eq_true c, zk_t, zk_t, a1, he]
      unfold zpK4
      cases hc : zpHas t n 2 m.2 with
      | true =>
        obtain ⟨b1, b2, b3, b4⟩ := zRn' (a3 hc) 7
        rw [zk_t, zk_t, zk_t]
        exact ⟨b3, zRf_tr x2 (zRf_tr a5 b2), fun hh => ⟨c, b4 hh⟩, fun _ => ⟨a2, fun _ => b1⟩⟩
      | false =>
        rw [zk_f, zk_f, zk_f]
        exact ⟨(a4 hc).1, zRf_tr x2 a5, fun hh => ⟨c, rfl⟩, fun _ => ⟨a2, (fun hh => by cases hh)⟩⟩
    · rw [decide_eq_false c, zk_f, zk_f]
      have e2 : e.2.2 = m.2.2 := by rw [he]; exact zpK4_b c
      exact ⟨zR_bad x1 c e2, x2, fun hh => absurd (e2.symm.trans hh) c, (fun hh => by cases hh)⟩
  obtain ⟨y1, y2, y3, y4⟩ := hX4
  have hX5 : zR (zdX5 M) t n f.2 0 ∧ zRf M (zdX5 M) ∧ (f.2.2 = -1 → e.2.2 = -1 ∧ ((zpHas t n 3 e.2 = true ∧ zdV5 M = f.1) ∨ (zpHas t n 3 e.2 = false ∧ zdV5 M = -2))) ∧ ((decide (((zdX4 M) 194 12) = (-1 : Int32))) = true → (ok_D_has (zdX4 M) 66 ∧ ((v_D_has (zdX4 M) 66) = true → ok_D_kindLetter (w_D_has (zdX4 M) 66)))) := by
    unfold zdX5 zdV5
    rw [y1.2.1]
    by_cases c : e.2.2 = -1
    · obtain ⟨a1, a2, a3, a4, a5⟩ := zR_wd y1 c 3 66 rfl (by decide)
      rw [decide_eq_true c, zk_t, zk_t, a1, hf]
      unfold zpK5
      cases hc : zpHas t n 3 e.2 with
      | true =>
        obtain ⟨b1, b2, b3, b4⟩ := zRk (a3 hc)
        rw [zk_t, zk_t, zk_t]
        exact ⟨b3, zRf_tr y2 (zRf_tr a5 b2), fun hh => ⟨c, Or.inl ⟨rfl, b4 hh⟩⟩, fun _ => ⟨a2, fun _ => b1⟩⟩
      | false =>
        rw [zk_f, zk_f, zk_f]
        exact ⟨(a4 hc).1, zRf_tr y2 a5, fun hh => ⟨c, Or.inr ⟨rfl, rfl⟩⟩, fun _ => ⟨a2, (fun hh => by cases hh)⟩⟩
    · rw [decide_eq_false c, zk_f, zk_f]
      have e2 : f.2.2 = e.2.2 := by rw [hf]; exact zpK5_b c
      exact ⟨zR_bad y1 c e2, y2, fun hh => absurd (e2.symm.trans hh) c, (fun hh => by cases hh)⟩
  obtain ⟨z1, z2, z3, z4⟩ := hX5
  refine ⟨z1, z2, fun hh => ?_, fun hz => ?_⟩
  · obtain ⟨p1, p2⟩ := z3 hh
    obtain ⟨q1, q2⟩ := y3 p1
    obtain ⟨r1, r2⟩ := x3 q1
    exact ⟨r1, q1, p1, k4 r1, r2, q2, p2⟩
  · rw [zdKo]
    exact ⟨k1, n1, fun _ i hi => (mm i).2.2.1, y4, z4, fun hh => ⟨(hz hh).1, fun _ => (hz hh).2.1, fun _ => (hz hh).2.2⟩⟩
