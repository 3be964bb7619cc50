/-! all lines of the shop, both sides -/
theorem zS_loop {t : Nat → Int32} {n : Nat} (M0 R0 : zMem) : ∀ f i m m' (N : zMem) (a : Bool × Int32 × zMem) (s : Nat × Int32), i + f = 15 → 1 ≤ f → f + 1 < m → f + 1 < m' → a.1 = true → a.2.1 = Int32.ofNat i → s.2 = -1 → zT N t n s → zpCome t n i s = true → zR a.2.2 t n (zpStep t n i s) 0 → zc_St N 15 (a.2.2 195) → ∃ s', zSs N a.2.2 (zf_wh m (g_H_readAll_1 M0) i N) (zf_wh m' (g_D_read_1 R0 false) i a).2.2 t n s' ∧ zf_wk m (g_H_readAll_1 M0) (kb_H_readAll_1 M0) i N ∧ zf_wk m' (g_D_read_1 R0 false) (kb_D_read_1 R0 false) i a := by
  intro f
  induction f with
  | zero => intro i m m' N a s _ h1; exact absurd h1 (Nat.not_succ_le_zero 0)
  | succ f ih =>
    intro i m m' N a s hi h1 hm hm' ha hai hs hT hcome hR hS
    obtain ⟨m, rfl⟩ : ∃ k, m = k + 1 + 1 := ⟨m - 2, by omega⟩
    obtain ⟨m', rfl⟩ : ∃ k, m' = k + 1 + 1 := ⟨m' - 2, by omega⟩
    have hn := hT.2.1
    have hus : (zpStep t n i s).2 = -1 := by
      unfold zpStep zpNx
      cases Nat.beq i 0
      · exact hs
      · exact hs
    have hule := zR_le hR hus
    have h12 : a.2.2 194 12 = -1 := by rw [hR.2.1]; exact hus
    obtain ⟨s1, s2, s3, -⟩ := zR_sk hR
    obtain ⟨p1, p2, p3⟩ := zR_at hR hus
    obtain ⟨l1, l2, l3, l4⟩ := zT_ln (i := i) (most := 14) hT (by omega) (by omega)
    have d14 : ∀ k, k ≤ 14 → decide ((14 : Int32) < Int32.ofNat k) = false := fun k hk => by
      rw [show (14 : Int32) = Int32.ofNat 14 from rfl, zi_lt' (by omega) (by omega)]
      exact decide_eq_false (by omega)
    have e14 : decide (a.2.1 = (bif false then (12 : Int32) else (14 : Int32))) = decide (i = 14) := by
      rw [hai, zk_f]
      exact zN_eq (a := i) (b := 14) (by omega) (by omega)
    rw [hcome, Bool.true_and] at l1
    by_cases q : i < 14
    · rw [decide_eq_true q] at l1
      have eln : zpLn t n i 14 s = zpStep t n i s := by
        unfold zpLn
        rw [hcome, zk_t, decide_eq_true q, zk_t]
      rw [eln] at l2
      obtain ⟨v, z1, z2, z3⟩ := zS_line hus l2 s1 (zS_mv l4 s3 hS)
      obtain ⟨y1, y2, y3, y4, y5, y6⟩ := z1
      have eX : zXr false a = w_D_shopLine (w_D_skip a.2.2) := by
        unfold zXr
        rw [e14, decide_eq_false (by omega)]
        simp only [zk_f]
      have vle := y1.2.2.2.2.1
      obtain ⟨go, N', st1, st2, st3, st4, st5⟩ := zR_step (M0 := R0) (b0 := false) (i := i) ha h12 (by rw [eX]; exact y2) vle
      rw [eX] at st2 st3 st4
      have kb : kb_D_read_1 R0 false i a := by
        intro _ _
        show ok_D_skip a.2.2 ∧ ((decide (a.2.1 = (bif false then (12 : Int32) else (14 : Int32)))) = false → ((false = true → ok_D_lawLine (w_D_skip a.2.2)) ∧ (false = false → ok_D_shopLine (w_D_skip a.2.2)))) ∧ (ok_D_skip (zXr false a) ∧ ((decide (((w_D_skip (zXr false a)) 194 12) = (-1 : Int32))) = true → ((decide (((w_D_skip (zXr false a)) 194 11) = ((w_D_skip (zXr false a)) 194 10))) = false → ok_D_isSign (w_D_skip (zXr false a)) (59 : Int32))))
        rw [eX]
        exact ⟨s2, fun _ => ⟨(fun hh => by cases hh), fun _ => z3⟩, st3, st4⟩
      have gC : g_H_readAll_1 M0 i N = (true, w_H_readLine (w_T_takeLine N (Int32.ofNat i) (14 : Int32))) := by
        unfold g_H_readAll_1
        rw [d14 i (by omega), zk_f, zk_f, show v_T_takeLine N (Int32.ofNat i) (14 : Int32) = true from l1, zk_t]
      have kC : kb_H_readAll_1 M0 i N := fun _ => ⟨l3, fun _ => z2⟩
      have en : a.2.1 + (1 : Int32) = Int32.ofNat (i + 1) := by rw [hai]; exact zi_ad i 1
      have fN : ∀ b j, ¬ (15 ≤ b ∧ b ≤ 25) → ¬ (b = 2 ∧ (j = 3 ∨ j = 4)) → w_H_readLine (w_T_takeLine N (Int32.ofNat i) (14 : Int32)) b j = N b j := fun b j q1 q2 => (y4 b j q1 q2).trans (l4 b j q2)
      have fR : ∀ b j, ¬ (b = 195 ∧ 3 ≤ j ∧ j < 309) → ¬ (b = 194 ∧ (j = 11 ∨ j = 12 ∨ j = 13)) → N' b j = a.2.2 b j := fun b j q1 q2 => (st2 b j q2).trans ((y5 b j q1 q2).trans (s3 b j q2))
      rw [zf_w1 st1, zf_w1 gC]
      rcases st5 with ⟨g1, g2, g3, g4⟩ | ⟨g1, g2, g3⟩
      · have hc2 : zpCome t n (i + 1) v = true := by
          unfold zpCome
          rw [zb_ne (show ¬ i + 1 = 0 by omega), zk_f]; exact g2
        have hst : zpStep t n (i + 1) v = zpNx t n v := by
          unfold zpStep
          rw [zb_ne (show ¬ i + 1 = 0 by omega), zk_f]
        obtain ⟨s', ⟨w1, w2, w3, w4, w5, w6⟩, wk, wk'⟩ := ih (i + 1) (m + 1) (m' + 1) (w_H_readLine (w_T_takeLine N (Int32.ofNat i) (14 : Int32))) (go, a.2.1 + (1 : Int32), N') v (by omega) (by omega) (by omega) (by omega) g3 en g1 y1 hc2 (by rw [hst]; exact g4) (zS_mv (fun _ _ _ => rfl) st2 (y3 g1))
        exact ⟨s', ⟨w1, w2, w3, fun b j q1 q2 => (w4 b j q1 q2).trans (fN b j q1 q2), fun b j q1 q2 => (w5 b j q1 q2).trans (fR b j q1 q2), w6⟩, zf_k1 gC kC wk, zf_k1 st1 kb wk'⟩
      · obtain ⟨t1, t2⟩ := zR_halt (M0 := R0) (b0 := false) (i := i + 1) (m := m') (a := (go, a.2.1 + (1 : Int32), N')) g2
        rw [t1]
        have hnc : zpSg t n 59 v = false := by
          by_cases c : v.2 = -1
          · exact g1 c
          · unfold zpSg
            rw [decide_eq_false (show ¬ v.1 < n by have := y6 c; omega), Bool.false_and]
        have hc2 : zpCome t n (i + 1) v = false := by
          unfold zpCome
          rw [zb_ne (show ¬ i + 1 = 0 by omega), zk_f]; exact hnc
        obtain ⟨k1, k2, k3, k4⟩ := zT_ln (i := i + 1) (most := 14) y1 (by omega) (by omega)
        rw [hc2, Bool.false_and] at k1
        have eln2 : zpLn t n (i + 1) 14 v = (bif decide (v.1 < n) then zpFail n v else v) := by
          unfold zpLn
          rw [hc2, zk_f]
        rw [eln2] at k2
        have gC2 : g_H_readAll_1 M0 (i + 1) (w_H_readLine (w_T_takeLine N (Int32.ofNat i) (14 : Int32))) = (false, w_T_takeLine (w_H_readLine (w_T_takeLine N (Int32.ofNat i) (14 : Int32))) (Int32.ofNat (i + 1)) (14 : Int32)) := by
          unfold g_H_readAll_1
          rw [d14 (i + 1) (by omega), zk_f, zk_f, show v_T_takeLine (w_H_readLine (w_T_takeLine N (Int32.ofNat i) (14 : Int32))) (Int32.ofNat (i + 1)) (14 : Int32) = false from k1, zk_f]
        have kC2 : kb_H_readAll_1 M0 (i + 1) (w_H_readLine (w_T_takeLine N (Int32.ofNat i) (14 : Int32))) := fun _ => ⟨k3, fun hh => by
          rw [show v_T_takeLine (w_H_readLine (w_T_takeLine N (Int32.ofNat i) (14 : Int32))) (Int32.ofNat (i + 1)) (14 : Int32) = false from k1] at hh
          cases hh⟩
        rw [zf_w0 gC2]
        have fN2 : ∀ b j, ¬ (15 ≤ b ∧ b ≤ 25) → ¬ (b = 2 ∧ (j = 3 ∨ j = 4)) → w_T_takeLine (w_H_readLine (w_T_takeLine N (Int32.ofNat i) (14 : Int32))) (Int32.ofNat (i + 1)) (14 : Int32) b j = N b j := fun b j q1 q2 => (k4 b j q2).trans (fN b j q1 q2)
        have hSt : v.2 = -1 → zc_St (w_T_takeLine (w_H_readLine (w_T_takeLine N (Int32.ofNat i) (14 : Int32))) (Int32.ofNat (i + 1)) (14 : Int32)) 15 (N' 195) := fun hv => zS_mv k4 st2 (y3 hv)
        by_cases c : v.1 < n
        · rw [decide_eq_true c, zk_t] at k2
          have hv : v.2 = -1 := by
            by_cases c2 : v.2 = -1
            · exact c2
            · have := y6 c2; omega
          rw [decide_eq_true hv, zk_t, decide_eq_true c, zk_t] at g3
          exact ⟨zpFail n v, ⟨k2, g3, fun hh => absurd hh (zpFl_ne hn vle), fN2, fR, fun _ => rfl⟩, zf_k1 gC kC (zf_k0 gC2 kC2), zf_k1 st1 kb t2⟩
        · rw [decide_eq_false c, zk_f] at k2
          have g3' : zR N' t n v 0 := by
            by_cases hv : v.2 = -1
            · rw [decide_eq_true hv, zk_t, decide_eq_false c, zk_f] at g3; exact g3
            · rw [decide_eq_false hv, zk_f] at g3; exact g3
          exact ⟨v, ⟨k2, g3', hSt, fN2, fR, y6⟩, zf_k1 gC kC (zf_k0 gC2 kC2), zf_k1 st1 kb t2⟩
    · have hi14 : i = 14 := by omega
      rw [decide_eq_false q] at l1
      have eln : zpLn t n i 14 s = zpFail n (zpStep t n i s) := by
        unfold zpLn
        rw [hcome, zk_t, decide_eq_false q, zk_f]
      rw [eln] at l2
      have eX : zXr false a = w_D_wrong (w_D_skip a.2.2) ((w_D_skip a.2.2) 194 11) := by
        unfold zXr
        rw [e14, decide_eq_true hi14]
        simp only [zk_t]
      rw [p1] at eX
      obtain ⟨w1, w2⟩ := zR_wr s1 hus rfl
      have hb := zpFl_ne (s := zpStep t n i s) hn hule
      obtain ⟨go, N', st1, st2, st3, st4, st5⟩ := zR_step (M0 := R0) (b0 := false) (i := i) ha h12 (by rw [eX]; exact w1) (Nat.le_refl n)
      have kb : kb_D_read_1 R0 false i a := by
        intro _ _
        show ok_D_skip a.2.2 ∧ ((decide (a.2.1 = (bif false then (12 : Int32) else (14 : Int32)))) = false → ((false = true → ok_D_lawLine (w_D_skip a.2.2)) ∧ (false = false → ok_D_shopLine (w_D_skip a.2.2)))) ∧ (ok_D_skip (zXr false a) ∧ ((decide (((w_D_skip (zXr false a)) 194 12) = (-1 : Int32))) = true → ((decide (((w_D_skip (zXr false a)) 194 11) = ((w_D_skip (zXr false a)) 194 10))) = false → ok_D_isSign (w_D_skip (zXr false a)) (59 : Int32))))
        rw [e14, decide_eq_true hi14]
        exact ⟨s2, (fun hh => by cases hh), st3, st4⟩
      rw [eX] at st2
      have gC : g_H_readAll_1 M0 i N = (false, w_T_takeLine N (Int32.ofNat i) (14 : Int32)) := by
        unfold g_H_readAll_1
        rw [d14 i (by omega), zk_f, zk_f, show v_T_takeLine N (Int32.ofNat i) (14 : Int32) = false from l1, zk_f]
      have kC : kb_H_readAll_1 M0 i N := fun _ => ⟨l3, fun hh => by
        rw [show v_T_takeLine N (Int32.ofNat i) (14 : Int32) = false from l1] at hh
        cases hh⟩
      rw [zf_w1 st1, zf_w0 gC]
      rcases st5 with ⟨g1, g2, g3, g4⟩ | ⟨g1, g2, g3⟩
      · exact absurd g1 hb
      · obtain ⟨t1, t2⟩ := zR_halt (M0 := R0) (b0 := false) (i := i + 1) (m := m') (a := (go, a.2.1 + (1 : Int32), N')) g2
        rw [t1]
        rw [decide_eq_false hb, zk_f] at g3
        exact ⟨zpFail n (zpStep t n i s), ⟨l2, g3, fun hh => absurd hh hb, fun b j q1 q2 => l4 b j q2, fun b j q1 q2 => (st2 b j q2).trans ((w2 b j q2).trans (s3 b j q2)), fun _ => rfl⟩, zf_k0 gC kC, zf_k1 st1 kb t2⟩
theorem zS_all {C Q : zMem} {t : Nat → Int32} {n : Nat} (hT : zT C t n (zpSk t n 0, -1)) (h8 : Q 194 8 = Int32.ofNat n) (hn : n ≤ 400) (ht : ∀ i, i < n → Q 199 i = t i) (hS : zc_St C 15 (Q 195)) : ∃ s', zSs C (w_D_begins Q) (w_H_readAll C) (w_D_read (w_D_begins Q) false) t n s' ∧ ok_H_readAll C ∧ ok_D_read (w_D_begins Q) false := by
  obtain ⟨b1, b2, b3⟩ := zR_bg h8 hn ht
  obtain ⟨s1, s2, s3, -⟩ := zR_sk b1
  obtain ⟨p1, p2, p3⟩ := zR_at b1 rfl
  have hS1 : zc_St C 15 ((w_D_skip (w_D_begins Q)) 195) := zc_pt (fun _ _ _ _ _ => rfl) (fun i hi => (s3 195 i (by omega)).trans (b3 195 i (by omega))) hS
  have est : decide (((w_D_skip (w_D_begins Q)) 194 10) ≤ ((w_D_skip (w_D_begins Q)) 194 11)) = decide (n ≤ zpSk t n 0) := by
    rw [p1, p2]; exact zi_le (by omega) (by omega)
  unfold w_H_readAll ok_H_readAll w_D_read ok_D_read
  rw [est]
  by_cases c : n ≤ zpSk t n 0
  · rw [decide_eq_true c, zk_t]
    obtain ⟨t1, t2⟩ := zR_halt (M0 := w_D_begins Q) (b0 := false) (i := 0) (m := 999) (a := (false, (0 : Int32), w_D_skip (w_D_begins Q))) (Or.inl rfl)
    have hc : zpCome t n 0 (zpSk t n 0, -1) = false := decide_eq_false (by show ¬ zpSk t n 0 < n; omega)
    obtain ⟨k1, k2, k3, k4⟩ := zT_ln (i := 0) (most := 14) hT (by omega) (by omega)
    rw [hc, Bool.false_and] at k1
    have eln : zpLn t n 0 14 (zpSk t n 0, -1) = (zpSk t n 0, -1) := by
      unfold zpLn
      rw [hc, zk_f, decide_eq_false (show ¬ ((zpSk t n 0, (-1 : Int32)) : Nat × Int32).1 < n by show ¬ zpSk t n 0 < n; omega), zk_f]
    rw [eln] at k2
    have gC : g_H_readAll_1 C 0 C = (false, w_T_takeLine C (Int32.ofNat 0) (14 : Int32)) := by
      unfold g_H_readAll_1
      rw [show decide ((14 : Int32) < Int32.ofNat 0) = false from rfl, zk_f, zk_f, show v_T_takeLine C (Int32.ofNat 0) (14 : Int32) = false from k1, zk_f]
    have kC : kb_H_readAll_1 C 0 C := fun _ => ⟨k3, fun hh => by
      rw [show v_T_takeLine C (Int32.ofNat 0) (14 : Int32) = false from k1] at hh
      cases hh⟩
    have eC : zf_wh 1000 (g_H_readAll_1 C) 0 C = w_T_takeLine C (Int32.ofNat 0) (14 : Int32) := zf_w0 (n := 999) gC
    rw [eC, show zf_wh 1000 (g_D_read_1 (w_D_begins Q) false) 0 (false, (0 : Int32), w_D_skip (w_D_begins Q)) = (false, (0 : Int32), w_D_skip (w_D_begins Q)) from t1]
    exact ⟨(zpSk t n 0, -1), ⟨k2, s1, fun _ => zS_mv k4 (zRf_rf _) hS1, fun b j q1 q2 => k4 b j q2, fun b j q1 q2 => s3 b j q2, fun hh => absurd rfl hh⟩, zf_k0 gC kC, s2, t2⟩
  · rw [decide_eq_false c, zk_f]
    have hc : zpCome t n 0 (zpSk t n 0, -1) = true := decide_eq_true (by show zpSk t n 0 < n; omega)
    obtain ⟨s', ⟨w1, w2, w3, w4, w5, w6⟩, wk, wk'⟩ := zS_loop (t := t) (n := n) C (w_D_begins Q) 15 0 1000 1000 C (true, (0 : Int32), w_D_skip (w_D_begins Q)) (zpSk t n 0, -1) (by omega) (by omega) (by omega) (by omega) rfl rfl rfl hT hc s1 hS1
    exact ⟨s', ⟨w1, w2, w3, w4, fun b j q1 q2 => (w5 b j q1 q2).trans (s3 b j q2), w6⟩, wk, s2, wk'⟩
