/-! the class's readers of sums, atoms and chains -/
/-- found, known, two sums, as the class reads them -/
def zPl (M : zMem) : zMem := (bif (v_T_takeWord M 18) then (w_L_addStep (w_T_takeWord M 18) (8 : Int32)) else (bif (v_T_takeWord (w_T_takeWord M 18) 19) then (w_L_addStep (w_T_takeWord (w_T_takeWord M 18) 19) (9 : Int32)) else (w_L_addStep (w_J_readSum (bif (v_T_takeSign (w_J_readSum (w_T_takeWord (w_T_takeWord M 18) 19)) (60 : Int32)) then (w_T_takeSign (w_J_readSum (w_T_takeWord (w_T_takeWord M 18) 19)) (60 : Int32)) else (w_T_needSign (w_T_takeSign (w_J_readSum (w_T_takeWord (w_T_takeWord M 18) 19)) (60 : Int32)) (62 : Int32)))) (bif (v_T_takeSign (w_J_readSum (w_T_takeWord (w_T_takeWord M 18) 19)) (60 : Int32)) then (11 : Int32) else (12 : Int32)))))
def zPlk (M : zMem) : Prop := (ok_T_takeWord M 18 ∧ (((v_T_takeWord M 18) = true → ok_L_addStep (w_T_takeWord M 18) (8 : Int32)) ∧ ((v_T_takeWord M 18) = false → (ok_T_takeWord (w_T_takeWord M 18) 19 ∧ (((v_T_takeWord (w_T_takeWord M 18) 19) = true → ok_L_addStep (w_T_takeWord (w_T_takeWord M 18) 19) (9 : Int32)) ∧ ((v_T_takeWord (w_T_takeWord M 18) 19) = false → (ok_J_readSum (w_T_takeWord (w_T_takeWord M 18) 19) ∧ (ok_T_takeSign (w_J_readSum (w_T_takeWord (w_T_takeWord M 18) 19)) (60 : Int32) ∧ (((v_T_takeSign (w_J_readSum (w_T_takeWord (w_T_takeWord M 18) 19)) (60 : Int32)) = false → ok_T_needSign (w_T_takeSign (w_J_readSum (w_T_takeWord (w_T_takeWord M 18) 19)) (60 : Int32)) (62 : Int32)) ∧ (ok_J_readSum (bif (v_T_takeSign (w_J_readSum (w_T_takeWord (w_T_takeWord M 18) 19)) (60 : Int32)) then (w_T_takeSign (w_J_readSum (w_T_takeWord (w_T_takeWord M 18) 19)) (60 : Int32)) else (w_T_needSign (w_T_takeSign (w_J_readSum (w_T_takeWord (w_T_takeWord M 18) 19)) (60 : Int32)) (62 : Int32))) ∧ ok_L_addStep (w_J_readSum (bif (v_T_takeSign (w_J_readSum (w_T_takeWord (w_T_takeWord M 18) 19)) (60 : Int32)) then (w_T_takeSign (w_J_readSum (w_T_takeWord (w_T_takeWord M 18) 19)) (60 : Int32)) else (w_T_needSign (w_T_takeSign (w_J_readSum (w_T_takeWord (w_T_takeWord M 18) 19)) (60 : Int32)) (62 : Int32)))) (bif (v_T_takeSign (w_J_readSum (w_T_takeWord (w_T_takeWord M 18) 19)) (60 : Int32)) then (11 : Int32) else (12 : Int32))))))))))))
/-- readers of the class against pure ones -/
def zJR (t : Nat → Int32) (n : Nat) (W : zMem → zMem) (K : zMem → Prop) (F : Nat × Int32 → (Nat × Int32) × List Int32) : Prop := ∀ M s c, zJ M t n s c → K M ∧ zJ (W M) t n (F s).1 (c ++ (F s).2) ∧ zJf M (W M)
theorem zJ_len {M : zMem} {t : Nat → Int32} {n : Nat} {s : Nat × Int32} {c : List Int32} (h : zJ M t n s c) (hs : s.2 = -1) : c.length ≤ s.1 := (h.2.2 hs).1
theorem zJ_sl {t : Nat → Int32} {n : Nat} (M0 : zMem) : ∀ f i m M (r : (Nat × Int32) × List Int32) (c : List Int32), i + f = 400 → f < m → zJ M t n r.1 (c ++ r.2) → zJ (zf_wh m (g_J_readSum_1 M0) i M) t n (zpSumL t n f r).1 (c ++ (zpSumL t n f r).2) ∧ zf_wk m (g_J_readSum_1 M0) (kb_J_readSum_1 M0) i M ∧ zJf M (zf_wh m (g_J_readSum_1 M0) i M)
  | f, i, 0, M, r, c, hi, hm, h => by omega
  | 0, i, m + 1, M, r, c, hi, hm, h => by
    have e : decide ((400 : Int32) ≤ Int32.ofNat i) = true := by
      rw [show decide ((400 : Int32) ≤ Int32.ofNat i) = decide (400 ≤ i) from zi_le (a := 400) (by omega) (by omega)]
      exact decide_eq_true (by omega)
    have eg : g_J_readSum_1 M0 i M = (false, M) := by
      unfold g_J_readSum_1
      rw [e]
      simp only [zk_t]
    rw [zf_w0 eg]
    refine ⟨h, zf_k0 eg ?_, zJf_rf M⟩
    unfold kb_J_readSum_1
    rw [e]
    intro hh; cases hh
  | f + 1, i, m + 1, M, r, c, hi, hm, h => by
    have e : decide ((400 : Int32) ≤ Int32.ofNat i) = false := by
      rw [show decide ((400 : Int32) ≤ Int32.ofNat i) = decide (400 ≤ i) from zi_le (a := 400) (by omega) (by omega)]
      exact decide_eq_false (by omega)
    obtain ⟨a1, a2, a3, a4⟩ := zJ_sg h (43 : Int32)
    show zJ _ t n (bif zpSg t n 43 r.1 then zpSumL t n f ((zpPart t n (zpNx t n r.1)).2, r.2 ++ [(zpPart t n (zpNx t n r.1)).1, 10]) else r).1 (c ++ (bif zpSg t n 43 r.1 then zpSumL t n f ((zpPart t n (zpNx t n r.1)).2, r.2 ++ [(zpPart t n (zpNx t n r.1)).1, 10]) else r).2) ∧ _
    cases hc : zpSg t n 43 r.1 with
    | false =>
      have eg : g_J_readSum_1 M0 i M = (false, M) := by
        unfold g_J_readSum_1
        rw [e, a1, hc, a4 hc]
        simp only [zk_f]
      rw [zf_w0 eg, zk_f]
      refine ⟨h, zf_k0 eg ?_, zJf_rf M⟩
      unfold kb_J_readSum_1
      rw [a1, hc]
      exact fun _ => ⟨a2, (fun hh => by cases hh)⟩
    | true =>
      obtain ⟨b1, b2⟩ := a3 hc
      obtain ⟨p1, p2, p3, p4⟩ := zJ_pt b1
      have gN := zpG_nx hc
      have gP := zpG_pt (t := t) h.1.2.1 gN.1
      have lN : (zpPart t n (zpNx t n r.1)).2.2 = -1 → (c ++ r.2).length + 2 ≤ (zpPart t n (zpNx t n r.1)).2.1 := by
        intro hh
        obtain ⟨u1, u2⟩ := gP.2.2 hh
        obtain ⟨v1, v2⟩ := gN.2.2 u1
        have := zJ_len h v1
        omega
      obtain ⟨s1, s2, s3⟩ := zJ_st p2 (zpPart t n (zpNx t n r.1)).1 (fun hh => by have := lN hh; omega)
      obtain ⟨u1, u2, u3⟩ := zJ_st s1 (10 : Int32) (fun hh => by rw [List.length_append]; have := lN hh; show _ + 1 + 1 ≤ _; omega)
      have eg : g_J_readSum_1 M0 i M = (true, w_L_addStep (w_L_addStep (w_J_readPart (w_T_takeSign M 43)) (zpPart t n (zpNx t n r.1)).1) 10) := by
        unfold g_J_readSum_1
        rw [e, a1, hc, p1]
        simp only [zk_f, zk_t]
      rw [List.append_assoc, List.append_assoc] at u1
      have ih := zJ_sl M0 f (i + 1) m _ ((zpPart t n (zpNx t n r.1)).2, r.2 ++ [(zpPart t n (zpNx t n r.1)).1, 10]) c (by omega) (by omega) u1
      rw [zf_w1 eg, zk_t]
      refine ⟨ih.1, zf_k1 eg ?_ ih.2.1, zJf_tr (zJf_tr (zJf_tr (zJf_tr b2 p4) s3) u3) ih.2.2⟩
      unfold kb_J_readSum_1
      rw [a1, p1]
      exact fun _ => ⟨a2, fun _ => ⟨p3, s2, u2⟩⟩
theorem zJ_sum {t : Nat → Int32} {n : Nat} : zJR t n w_J_readSum ok_J_readSum (zpSum t n) := by
  intro M s c h
  obtain ⟨p1, p2, p3, p4⟩ := zJ_pt h
  have gP := zpG_pt (t := t) h.1.2.1 h.1.2.2.2.2.1
  obtain ⟨s1, s2, s3⟩ := zJ_st p2 (zpPart t n s).1 (fun hh => by
    obtain ⟨u1, u2⟩ := gP.2.2 hh
    have := zJ_len h u1
    omega)
  unfold w_J_readSum ok_J_readSum zpSum
  rw [p1]
  obtain ⟨a, b, d⟩ := zJ_sl M 400 0 1000 (w_L_addStep (w_J_readPart M) (zpPart t n s).1) ((zpPart t n s).2, [(zpPart t n s).1]) c (by omega) (by omega) s1
  exact ⟨⟨p3, s2, b⟩, a, zJf_tr (zJf_tr p4 s3) d⟩
theorem zJ_pl {t : Nat → Int32} {n : Nat} : zJR t n zPl zPlk (zpPlain t n) := by
  intro M s c h
  obtain ⟨a1, a2, a3, a4⟩ := zJ_wd h (k := 18) (by omega)
  have hn := h.1.2.1
  have hs := h.1.2.2.2.2.1
  unfold zPl zPlk zpPlain
  cases h8 : zpHas t n 18 s with
  | true =>
    obtain ⟨b1, b2⟩ := a3 h8
    rw [a1, h8, zk_t, zk_t]
    have g := zpG_wk (zpG_hs h8 hs) (zpW_len 18 (by omega)).1
    obtain ⟨s1, s2, s3⟩ := zJ_st b1 (8 : Int32) (fun hh => by
      obtain ⟨u1, u2⟩ := g.2.2 hh
      have := zJ_len h u1
      omega)
    exact ⟨⟨a2, fun _ => s2, (fun hh => by cases hh)⟩, s1, zJf_tr b2 s3⟩
  | false =>
    rw [a1, h8, a4 h8, zk_f, zk_f]
    obtain ⟨d1, d2, d3, d4⟩ := zJ_wd h (k := 19) (by omega)
    cases h9 : zpHas t n 19 s with
    | true =>
      obtain ⟨b1, b2⟩ := d3 h9
      rw [d1, h9, zk_t, zk_t]
      have g := zpG_wk (zpG_hs h9 hs) (zpW_len 19 (by omega)).1
      obtain ⟨s1, s2, s3⟩ := zJ_st b1 (9 : Int32) (fun hh => by
        obtain ⟨u1, u2⟩ := g.2.2 hh
        have := zJ_len h u1
        omega)
      exact ⟨⟨a2, (fun hh => by cases hh), fun _ => ⟨d2, fun _ => s2, (fun hh => by cases hh)⟩⟩, s1, zJf_tr b2 s3⟩
    | false =>
      rw [d1, h9, d4 h9, zk_f, zk_f]
      obtain ⟨e1, e2, e3⟩ := zJ_sum M s c h
      obtain ⟨f1, f2, f3, f4⟩ := zJ_sg e2 (60 : Int32)
      have gS := zpG_sum (t := t) hn s hs
      rw [f1]
      have key : ∀ (N : zMem) (x : Nat × Int32) (y : Int32), zJ N t n x (c ++ (zpSum t n s).2) → zJf (w_J_readSum M) N → zpG1 n (zpSum t n s).1 x 1 → (ok_J_readSum N ∧ ok_L_addStep (w_J_readSum N) y) ∧ zJ (w_L_addStep (w_J_readSum N) y) t n (zpSum t n x).1 (c ++ ((zpSum t n s).2 ++ (zpSum t n x).2 ++ [y])) ∧ zJf M (w_L_addStep (w_J_readSum N) y) := by
        intro N x y hN hfN hx
        obtain ⟨k1, k2, k3⟩ := zJ_sum N x _ hN
        have gX := zpG_sum (t := t) hn x hx.1
        obtain ⟨s1, s2, s3⟩ := zJ_st k2 y (fun hh => by
          obtain ⟨u1, u2⟩ := gX.2.2 hh
          obtain ⟨v1, v2⟩ := hx.2.2 u1
          have := zJ_len e2 v1
          rw [List.length_append]
          omega)
        rw [List.append_assoc, List.append_assoc] at s1
        rw [List.append_assoc]
        exact ⟨⟨k1, s2⟩, s1, zJf_tr e3 (zJf_tr hfN (zJf_tr k3 s3))⟩
      cases hc : zpSg t n 60 (zpSum t n s).1 with
      | true =>
        obtain ⟨g1, g2⟩ := f3 hc
        simp only [hc, zk_t, zk_f]
        obtain ⟨⟨k1, k2⟩, k3, k4⟩ := key _ _ (11 : Int32) g1 g2 (zpG_nx hc)
        exact ⟨⟨a2, (fun hh => by cases hh), fun _ => ⟨d2, (fun hh => by cases hh), fun _ => ⟨e1, f2, (fun hh => by cases hh), k1, k2⟩⟩⟩, k3, k4⟩
      | false =>
        rw [f4 hc]
        simp only [hc, zk_t, zk_f]
        obtain ⟨g1, g2, g3⟩ := zJ_ns e2 (62 : Int32)
        obtain ⟨⟨k1, k2⟩, k3, k4⟩ := key _ _ (12 : Int32) g1 g3 (zpG_nd hn gS.1)
        exact ⟨⟨a2, (fun hh => by cases hh), fun _ => ⟨d2, (fun hh => by cases hh), fun _ => ⟨e1, f2, fun _ => g2, k1, k2⟩⟩⟩, k3, k4⟩
/-- chains of "and" -/
theorem zJ_al {t : Nat → Int32} {n : Nat} (hn : n ≤ 400) {wa : zMem → Int32 → zMem} {ka : zMem → Int32 → Prop} {x : Int32} {F : Nat × Int32 → (Nat × Int32) × List Int32} (hF : zJR t n (fun M => wa M x) (fun M => ka M x) F) (hG : zpGR n F) (M0 : zMem) : ∀ f i m M (r : (Nat × Int32) × List Int32) (c : List Int32), i + f = 400 → f < m → zJ M t n r.1 (c ++ r.2) → zJ (zf_wh m (g_J_readAllOf_1 wa M0 x) i M) t n (zpAllL t n 28 14 F f r).1 (c ++ (zpAllL t n 28 14 F f r).2) ∧ zf_wk m (g_J_readAllOf_1 wa M0 x) (kb_J_readAllOf_1 ka wa M0 x) i M ∧ zJf M (zf_wh m (g_J_readAllOf_1 wa M0 x) i M)
  | f, i, 0, M, r, c, hi, hm, h => by omega
  | 0, i, m + 1, M, r, c, hi, hm, h => by
    have e : decide ((400 : Int32) ≤ Int32.ofNat i) = true := by
      rw [show decide ((400 : Int32) ≤ Int32.ofNat i) = decide (400 ≤ i) from zi_le (a := 400) (by omega) (by omega)]
      exact decide_eq_true (by omega)
    have eg : g_J_readAllOf_1 wa M0 x i M = (false, M) := by
      unfold g_J_readAllOf_1
      rw [e]
      simp only [zk_t]
    rw [zf_w0 eg]
    refine ⟨h, zf_k0 eg ?_, zJf_rf M⟩
    unfold kb_J_readAllOf_1
    rw [e]
    intro hh; cases hh
  | f + 1, i, m + 1, M, r, c, hi, hm, h => by
    have e : decide ((400 : Int32) ≤ Int32.ofNat i) = false := by
      rw [show decide ((400 : Int32) ≤ Int32.ofNat i) = decide (400 ≤ i) from zi_le (a := 400) (by omega) (by omega)]
      exact decide_eq_false (by omega)
    obtain ⟨a1, a2, a3, a4⟩ := zJ_wd h (k := 28) (by omega)
    show zJ _ t n (bif zpHas t n 28 r.1 then zpAllL t n 28 14 F f ((F (zpAft t n 28 r.1)).1, r.2 ++ (F (zpAft t n 28 r.1)).2 ++ [14]) else r).1 (c ++ (bif zpHas t n 28 r.1 then zpAllL t n 28 14 F f ((F (zpAft t n 28 r.1)).1, r.2 ++ (F (zpAft t n 28 r.1)).2 ++ [14]) else r).2) ∧ _
    cases hc : zpHas t n 28 r.1 with
    | false =>
      have eg : g_J_readAllOf_1 wa M0 x i M = (false, M) := by
        unfold g_J_readAllOf_1
        rw [e, a1, hc, a4 hc]
        simp only [zk_f]
      rw [zf_w0 eg, zk_f]
      refine ⟨h, zf_k0 eg ?_, zJf_rf M⟩
      unfold kb_J_readAllOf_1
      rw [a1, hc]
      exact fun _ => ⟨a2, (fun hh => by cases hh)⟩
    | true =>
      obtain ⟨b1, b2⟩ := a3 hc
      obtain ⟨p1, p2, p3⟩ := hF _ _ _ b1
      have gN := zpG_wk (zpG_hs hc h.1.2.2.2.2.1) (zpW_len 28 (by omega)).1
      have gP := hG _ gN.1
      obtain ⟨s1, s2, s3⟩ := zJ_st p2 (14 : Int32) (fun hh => by
        obtain ⟨u1, u2⟩ := gP.2.2 hh
        obtain ⟨v1, v2⟩ := gN.2.2 u1
        have := zJ_len h v1
        rw [List.length_append]
        omega)
      have eg : g_J_readAllOf_1 wa M0 x i M = (true, w_L_addStep (wa (w_T_takeWord M 28) x) 14) := by
        unfold g_J_readAllOf_1
        rw [e, a1, hc]
        simp only [zk_f, zk_t]
      rw [List.append_assoc, List.append_assoc, ← List.append_assoc r.2] at s1
      have ih := zJ_al hn hF hG M0 f (i + 1) m _ ((F (zpAft t n 28 r.1)).1, r.2 ++ (F (zpAft t n 28 r.1)).2 ++ [14]) c (by omega) (by omega) s1
      rw [zf_w1 eg, zk_t]
      refine ⟨ih.1, zf_k1 eg ?_ ih.2.1, zJf_tr (zJf_tr (zJf_tr b2 p3) s3) ih.2.2⟩
      unfold kb_J_readAllOf_1
      rw [a1]
      exact fun _ => ⟨a2, fun _ => ⟨p1, s2⟩⟩
theorem zJ_all {t : Nat → Int32} {n : Nat} (hn : n ≤ 400) {wa : zMem → Int32 → zMem} {ka : zMem → Int32 → Prop} {x : Int32} {F : Nat × Int32 → (Nat × Int32) × List Int32} (hF : zJR t n (fun M => wa M x) (fun M => ka M x) F) (hG : zpGR n F) : zJR t n (fun M => w_J_readAllOf wa M x) (fun M => ok_J_readAllOf ka wa M x) (zpAll t n F) := by
  intro M s c h
  obtain ⟨p1, p2, p3⟩ := hF M s c h
  obtain ⟨a, b, d⟩ := zJ_al hn hF hG M 400 0 1000 (wa M x) (F s) c (by omega) (by omega) p2
  exact ⟨⟨p1, b⟩, a, zJf_tr p3 d⟩
/-- chains of "or" -/
theorem zJ_ol {t : Nat → Int32} {n : Nat} (hn : n ≤ 400) {wa : zMem → Int32 → zMem} {ka : zMem → Int32 → Prop} {x : Int32} {F : Nat × Int32 → (Nat × Int32) × List Int32} (hF : zJR t n (fun M => w_J_readAllOf wa M x) (fun M => ok_J_readAllOf ka wa M x) F) (hG : zpGR n F) (M0 : zMem) : ∀ f i m M (r : (Nat × Int32) × List Int32) (c : List Int32), i + f = 400 → f < m → zJ M t n r.1 (c ++ r.2) → zJ (zf_wh m (g_J_readAnyOf_1 wa M0 x) i M) t n (zpAllL t n 29 15 F f r).1 (c ++ (zpAllL t n 29 15 F f r).2) ∧ zf_wk m (g_J_readAnyOf_1 wa M0 x) (kb_J_readAnyOf_1 ka wa M0 x) i M ∧ zJf M (zf_wh m (g_J_readAnyOf_1 wa M0 x) i M)
  | f, i, 0, M, r, c, hi, hm, h => by omega
  | 0, i, m + 1, M, r, c, hi, hm, h => by
    have e : decide ((400 : Int32) ≤ Int32.ofNat i) = true := by
      rw [show decide ((400 : Int32) ≤ Int32.ofNat i) = decide (400 ≤ i) from zi_le (a := 400) (by omega) (by omega)]
      exact decide_eq_true (by omega)
    have eg : g_J_readAnyOf_1 wa M0 x i M = (false, M) := by
      unfold g_J_readAnyOf_1
      rw [e]
      simp only [zk_t]
    rw [zf_w0 eg]
    refine ⟨h, zf_k0 eg ?_, zJf_rf M⟩
    unfold kb_J_readAnyOf_1
    rw [e]
    intro hh; cases hh
  | f + 1, i, m + 1, M, r, c, hi, hm, h => by
    have e : decide ((400 : Int32) ≤ Int32.ofNat i) = false := by
      rw [show decide ((400 : Int32) ≤ Int32.ofNat i) = decide (400 ≤ i) from zi_le (a := 400) (by omega) (by omega)]
      exact decide_eq_false (by omega)
    obtain ⟨a1, a2, a3, a4⟩ := zJ_wd h (k := 29) (by omega)
    show zJ _ t n (bif zpHas t n 29 r.1 then zpAllL t n 29 15 F f ((F (zpAft t n 29 r.1)).1, r.2 ++ (F (zpAft t n 29 r.1)).2 ++ [15]) else r).1 (c ++ (bif zpHas t n 29 r.1 then zpAllL t n 29 15 F f ((F (zpAft t n 29 r.1)).1, r.2 ++ (F (zpAft t n 29 r.1)).2 ++ [15]) else r).2) ∧ _
    cases hc : zpHas t n 29 r.1 with
    | false =>
      have eg : g_J_readAnyOf_1 wa M0 x i M = (false, M) := by
        unfold g_J_readAnyOf_1
        rw [e, a1, hc, a4 hc]
        simp only [zk_f]
      rw [zf_w0 eg, zk_f]
      refine ⟨h, zf_k0 eg ?_, zJf_rf M⟩
      unfold kb_J_readAnyOf_1
      rw [a1, hc]
      exact fun _ => ⟨a2, (fun hh => by cases hh)⟩
    | true =>
      obtain ⟨b1, b2⟩ := a3 hc
      obtain ⟨p1, p2, p3⟩ := hF _ _ _ b1
      have gN := zpG_wk (zpG_hs hc h.1.2.2.2.2.1) (zpW_len 29 (by omega)).1
      have gP := hG _ gN.1
      obtain ⟨s1, s2, s3⟩ := zJ_st p2 (15 : Int32) (fun hh => by
        obtain ⟨u1, u2⟩ := gP.2.2 hh
        obtain ⟨v1, v2⟩ := gN.2.2 u1
        have := zJ_len h v1
        rw [List.length_append]
        omega)
      have eg : g_J_readAnyOf_1 wa M0 x i M = (true, w_L_addStep (w_J_readAllOf wa (w_T_takeWord M 29) x) 15) := by
        unfold g_J_readAnyOf_1
        rw [e, a1, hc]
        simp only [zk_f, zk_t]
      rw [List.append_assoc, List.append_assoc, ← List.append_assoc r.2] at s1
      have ih := zJ_ol hn hF hG M0 f (i + 1) m _ ((F (zpAft t n 29 r.1)).1, r.2 ++ (F (zpAft t n 29 r.1)).2 ++ [15]) c (by omega) (by omega) s1
      rw [zf_w1 eg, zk_t]
      refine ⟨ih.1, zf_k1 eg ?_ ih.2.1, zJf_tr (zJf_tr (zJf_tr b2 p3) s3) ih.2.2⟩
      unfold kb_J_readAnyOf_1
      rw [a1]
      exact fun _ => ⟨a2, fun _ => ⟨p1, s2⟩⟩
theorem zJ_any {t : Nat → Int32} {n : Nat} (hn : n ≤ 400) {wa : zMem → Int32 → zMem} {ka : zMem → Int32 → Prop} {x : Int32} {F : Nat × Int32 → (Nat × Int32) × List Int32} (hF : zJR t n (fun M => wa M x) (fun M => ka M x) F) (hG : zpGR n F) : zJR t n (fun M => w_J_readAnyOf wa M x) (fun M => ok_J_readAnyOf ka wa M x) (zpAny t n F) := by
  intro M s c h
  have hA := zJ_all hn hF hG
  obtain ⟨p1, p2, p3⟩ := hA M s c h
  obtain ⟨a, b, d⟩ := zJ_ol hn hA (zpG_all hn hG) M 400 0 1000 (w_J_readAllOf wa M x) (zpAll t n F s) c (by omega) (by omega) p2
  exact ⟨⟨p1, b⟩, a, zJf_tr p3 d⟩
/-- atoms -/
theorem zJ_at {t : Nat → Int32} {n : Nat} (hn : n ≤ 400) : ∀ r, r ≤ 6 → zJR t n (fun M => zB (r + 1) M (Int32.ofNat (6 - r))) (fun M => zBk (r + 1) M (Int32.ofNat (6 - r))) (zpAtom t n r)
  | 0, _ => by
    intro M s c h
    obtain ⟨a, b, d⟩ := zJ_pl M s c h
    have e6 : decide ((6 : Int32) ≤ Int32.ofNat (6 - 0)) = true := rfl
    have ew : zB 1 M (Int32.ofNat (6 - 0)) = zPl M := by
      show w_J_readAtomF (zB 0) M (Int32.ofNat (6 - 0)) = _
      unfold w_J_readAtomF zPl
      simp only [e6, zk_t]
    refine ⟨?_, by show zJ (zB 1 M (Int32.ofNat (6 - 0))) t n _ _; rw [ew]; exact b, by show zJf M (zB 1 M (Int32.ofNat (6 - 0))); rw [ew]; exact d⟩
    show ok_J_readAtomF (zBk 0) (zB 0) M (Int32.ofNat (6 - 0))
    unfold ok_J_readAtomF
    rw [e6]
    exact ⟨fun _ => ⟨fun _ => a, (fun hh => by cases hh)⟩, (fun hh => by cases hh)⟩
  | r + 1, hr => by
    have ih := zJ_at (t := t) hn r (by omega)
    have gA := zpG_atom (t := t) hn r
    have ed : Int32.ofNat (6 - (r + 1)) + (1 : Int32) = Int32.ofNat (6 - r) := by
      rw [show Int32.ofNat (6 - (r + 1)) + (1 : Int32) = Int32.ofNat (6 - (r + 1) + 1) from zi_ad _ 1]
      congr 1
      omega
    have e6 : decide ((6 : Int32) ≤ Int32.ofNat (6 - (r + 1))) = false := by
      rw [show decide ((6 : Int32) ≤ Int32.ofNat (6 - (r + 1))) = decide (6 ≤ 6 - (r + 1)) from zi_le (a := 6) (by omega) (by omega)]
      exact decide_eq_false (by omega)
    intro M s c h
    have hs := h.1.2.2.2.2.1
    obtain ⟨a1, a2, a3, a4⟩ := zJ_wd h (k := 17) (by omega)
    show ok_J_readAtomF (zBk (r + 1)) (zB (r + 1)) M (Int32.ofNat (6 - (r + 1))) ∧ zJ (w_J_readAtomF (zB (r + 1)) M (Int32.ofNat (6 - (r + 1)))) t n (bif zpHas t n 17 s then ((zpAtom t n r (zpAft t n 17 s)).1, (zpAtom t n r (zpAft t n 17 s)).2 ++ [13]) else bif zpSg t n 40 s then (zpNeed t n 41 (zpAny t n (zpAtom t n r) (zpNx t n s)).1, (zpAny t n (zpAtom t n r) (zpNx t n s)).2) else zpPlain t n s).1 (c ++ (bif zpHas t n 17 s then ((zpAtom t n r (zpAft t n 17 s)).1, (zpAtom t n r (zpAft t n 17 s)).2 ++ [13]) else bif zpSg t n 40 s then (zpNeed t n 41 (zpAny t n (zpAtom t n r) (zpNx t n s)).1, (zpAny t n (zpAtom t n r) (zpNx t n s)).2) else zpPlain t n s).2) ∧ zJf M (w_J_readAtomF (zB (r + 1)) M (Int32.ofNat (6 - (r + 1))))
    unfold ok_J_readAtomF w_J_readAtomF
    rw [e6, ed, a1]
    simp only [zk_f]
    cases h7 : zpHas t n 17 s with
    | true =>
      obtain ⟨b1, b2⟩ := a3 h7
      obtain ⟨p1, p2, p3⟩ := ih _ _ _ b1
      have gN := zpG_wk (zpG_hs h7 hs) (zpW_len 17 (by omega)).1
      have gP := gA _ gN.1
      obtain ⟨s1, s2, s3⟩ := zJ_st p2 (13 : Int32) (fun hh => by
        obtain ⟨u1, u2⟩ := gP.2.2 hh
        obtain ⟨v1, v2⟩ := gN.2.2 u1
        have := zJ_len h v1
        rw [List.length_append]
        omega)
      rw [List.append_assoc] at s1
      simp only [zk_t]
      exact ⟨⟨(fun hh => by cases hh), fun _ => ⟨a2, fun _ => ⟨p1, s2⟩, (fun hh => by cases hh)⟩⟩, s1, zJf_tr (zJf_tr b2 p3) s3⟩
    | false =>
      rw [a4 h7]
      simp only [zk_f]
      obtain ⟨d1, d2, d3, d4⟩ := zJ_sg h (40 : Int32)
      rw [d1]
      cases hc : zpSg t n 40 s with
      | true =>
        obtain ⟨b1, b2⟩ := d3 hc
        obtain ⟨p1, p2, p3⟩ := zJ_any hn ih gA _ _ _ b1
        obtain ⟨q1, q2, q3⟩ := zJ_ns p2 (41 : Int32)
        simp only [zk_t]
        exact ⟨⟨(fun hh => by cases hh), fun _ => ⟨a2, (fun hh => by cases hh), fun _ => ⟨(fun hh => by cases hh), fun _ => ⟨d2, fun _ => ⟨p1, q2⟩, (fun hh => by cases hh)⟩⟩⟩⟩, q1, zJf_tr (zJf_tr b2 p3) q3⟩
      | false =>
        rw [d4 hc]
        simp only [zk_f]
        obtain ⟨u, v, w⟩ := zJ_pl M s c h
        exact ⟨⟨(fun hh => by cases hh), fun _ => ⟨a2, (fun hh => by cases hh), fun _ => ⟨(fun hh => by cases hh), fun _ => ⟨d2, (fun hh => by cases hh), fun _ => u⟩⟩⟩⟩, v, w⟩
