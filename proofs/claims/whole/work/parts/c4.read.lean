/-! the reference's lines, read one after another -/
theorem zR_17 {M : zMem} {t : Nat → Int32} {n d : Nat} {s : Nat × Int32} (h : zR M t n s d) (x y : Int32) : zR (zz_up (zz_up M 194 17 x) 194 18 y) t n s d := by
  obtain ⟨⟨a, b, c⟩, h2, h3, q, h4, h5, h6⟩ := h
  refine ⟨⟨a, by rw [zu_o (by omega), zu_o (by omega)]; exact b, ?_⟩, by rw [zu_o (by omega), zu_o (by omega)]; exact h2, by rw [zu_o (by omega), zu_o (by omega)]; exact h3, q, by rw [zu_o (by omega), zu_o (by omega)]; exact h4, h5, h6⟩
  rcases c with ⟨c1, c2⟩ | ⟨c1, c2⟩
  · exact Or.inl ⟨by rw [zu_o (by omega), zu_o (by omega)]; exact c1, fun i hi => by rw [zu_o (by omega), zu_o (by omega)]; exact c2 i hi⟩
  · exact Or.inr ⟨by rw [zu_o (by omega), zu_o (by omega)]; exact c1, fun i hi => by rw [zu_o (by omega), zu_o (by omega)]; exact c2 i hi⟩
theorem zpG_tl {t : Nat → Int32} {n : Nat} {s : Nat × Int32} (hn : n ≤ 400) (hs : s.1 ≤ n) : zpG1 n s (zpTl t n s).1 0 ∧ zpG1 n (zpNum t n 100 s).2 (zpTl t n s).1 0 := by
  have gN := zpG_nm (t := t) (m := 100) hn hs
  have g2 : zpG1 n (zpNum t n 100 s).2 (zpTl t n s).1 0 := by
    unfold zpTl
    cases hc : zpHas t n 16 (zpNum t n 100 s).2 with
    | true =>
      rw [zk_t]
      have gH := zpG_hs hc gN.1
      exact zpG_wk (zpG_tr gH (zpG_any (t := t) hn (zpG_atom (t := t) hn 6) _ gH.1)) (by omega)
    | false => rw [zk_f]; exact zpG_rf gN.1
  exact ⟨zpG_wk (zpG_tr gN g2) (by omega), g2⟩
theorem zR_line {M : zMem} {t : Nat → Int32} {n : Nat} {s : Nat × Int32} {F : Nat → Int32} (h : zR M t n s 0) (hs : s.2 = -1) (hF : zFa M F) : ok_D_lawLine M ∧ zRg M (w_D_lawLine M) ∧ zR (w_D_lawLine M) t n (zpLine t n s).1 0 ∧ ((zpLine t n s).1.2 = -1 → (w_D_lawLine M) 194 17 = zq17 F (zpLine t n s).2 (M 194 17) ∧ (w_D_lawLine M) 194 18 = zq18 F (zpLine t n s).2 (M 194 18)) := by
  have hn := h.1.1
  have hle := zR_le h hs
  rw [zpLine_eq]
  have key : ∀ (N : zMem) (x : Nat × Int32) (v : Int32), zR N t n x 0 → x.2 = -1 → zRf M N → (ok_D_figures N (0 : Int32) (100 : Int32) ∧ ((decide (((w_D_figures N (0 : Int32) (100 : Int32)) 194 12) = (-1 : Int32))) = true → (ok_D_has (w_D_figures N (0 : Int32) (100 : Int32)) 50 ∧ ((v_D_has (w_D_figures N (0 : Int32) (100 : Int32)) 50) = true → ok_D_someR (w_D_has (w_D_figures N (0 : Int32) (100 : Int32)) 50))))) ∧ ∀ W, W = (bif (decide (((w_D_figures N (0 : Int32) (100 : Int32)) 194 12) = (-1 : Int32))) then (bif (decide (((bif (v_D_has (w_D_figures N (0 : Int32) (100 : Int32)) 50) then (w_D_someR (w_D_has (w_D_figures N (0 : Int32) (100 : Int32)) 50)) else (w_D_has (w_D_figures N (0 : Int32) (100 : Int32)) 50)) 194 12) = (-1 : Int32))) then (bif (bif (v_D_has (w_D_figures N (0 : Int32) (100 : Int32)) 50) then (v_D_someR (w_D_has (w_D_figures N (0 : Int32) (100 : Int32)) 50)) else true) then (zz_up (zz_up (bif (v_D_has (w_D_figures N (0 : Int32) (100 : Int32)) 50) then (w_D_someR (w_D_has (w_D_figures N (0 : Int32) (100 : Int32)) 50)) else (w_D_has (w_D_figures N (0 : Int32) (100 : Int32)) 50)) 194 17 (((bif (v_D_has (w_D_figures N (0 : Int32) (100 : Int32)) 50) then (w_D_someR (w_D_has (w_D_figures N (0 : Int32) (100 : Int32)) 50)) else (w_D_has (w_D_figures N (0 : Int32) (100 : Int32)) 50)) 194 17) + (bif (decide (v = 0)) then (v_D_figures N (0 : Int32) (100 : Int32)) else (bif (decide (v = (1 : Int32))) then (-(v_D_figures N (0 : Int32) (100 : Int32))) else (0 : Int32))))) 194 18 (((bif (v_D_has (w_D_figures N (0 : Int32) (100 : Int32)) 50) then (w_D_someR (w_D_has (w_D_figures N (0 : Int32) (100 : Int32)) 50)) else (w_D_has (w_D_figures N (0 : Int32) (100 : Int32)) 50)) 194 18) + (bif (decide (v = (2 : Int32))) then (v_D_figures N (0 : Int32) (100 : Int32)) else (0 : Int32)))) else (bif (v_D_has (w_D_figures N (0 : Int32) (100 : Int32)) 50) then (w_D_someR (w_D_has (w_D_figures N (0 : Int32) (100 : Int32)) 50)) else (w_D_has (w_D_figures N (0 : Int32) (100 : Int32)) 50))) else (bif (v_D_has (w_D_figures N (0 : Int32) (100 : Int32)) 50) then (w_D_someR (w_D_has (w_D_figures N (0 : Int32) (100 : Int32)) 50)) else (w_D_has (w_D_figures N (0 : Int32) (100 : Int32)) 50))) else (w_D_figures N (0 : Int32) (100 : Int32))) → (zRg M W ∧ zR W t n (zpTl t n x).1 0 ∧ ((zpTl t n x).1.2 = -1 → W 194 17 = zq17 F (v, (zpNum t n 100 x).1, (zpTl t n x).2) (M 194 17) ∧ W 194 18 = zq18 F (v, (zpNum t n 100 x).1, (zpTl t n x).2) (M 194 18))) := by
    intro N x v hN hx hf
    have hxl := zR_le hN hx
    obtain ⟨a1, a2, a3, a4⟩ := zR_tl hN hx (zFa_f hF hf)
    have g2 := (zpG_tl (t := t) hn hxl).2
    by_cases q : (zpNum t n 100 x).2.2 = -1
    · obtain ⟨b1, b2, b3, b4, b5, b6⟩ := a4 q
      have h12 : (w_D_figures N (0 : Int32) (100 : Int32)) 194 12 = -1 := by rw [a3.2.1]; exact q
      rw [h12, decide_eq_true (show (-1 : Int32) = -1 from rfl), zk_t]
      refine ⟨⟨a1, fun _ => ⟨b2, b3⟩⟩, fun W hW => ?_⟩
      rw [b1] at hW
      generalize (bif (v_D_has (w_D_figures N (0 : Int32) (100 : Int32)) 50) then (w_D_someR (w_D_has (w_D_figures N (0 : Int32) (100 : Int32)) 50)) else (w_D_has (w_D_figures N (0 : Int32) (100 : Int32)) 50)) = C at b4 b5 hW
      generalize (bif (v_D_has (w_D_figures N (0 : Int32) (100 : Int32)) 50) then (v_D_someR (w_D_has (w_D_figures N (0 : Int32) (100 : Int32)) 50)) else true) = B at b6 hW
      have fM := zRf_tr hf b4
      by_cases q2 : (zpTl t n x).1.2 = -1
      · have h12b : C 194 12 = -1 := by rw [b5.2.1]; exact q2
        rw [h12b, decide_eq_true (show (-1 : Int32) = -1 from rfl), zk_t] at hW
        unfold zq17 zq18
        rw [b6 q2]
        cases B with
        | true =>
          rw [zk_t] at hW
          rw [hW, zk_t, zk_t]
          refine ⟨fun a i hi => by rw [zu_o (by omega), zu_o (by omega)]; exact fM a i (by omega), zR_17 b5 _ _, fun _ => ⟨?_, ?_⟩⟩
          · rw [zu_o (by omega), zu_eq, fM 194 17 (by omega)]
          · rw [zu_eq, fM 194 18 (by omega)]
        | false =>
          rw [zk_f] at hW
          rw [hW, zk_f, zk_f]
          exact ⟨zRg_f fM, b5, fun _ => ⟨fM 194 17 (by omega), fM 194 18 (by omega)⟩⟩
      · have h12b : ¬ C 194 12 = -1 := by rw [b5.2.1]; exact q2
        rw [decide_eq_false h12b, zk_f] at hW
        rw [hW]
        exact ⟨zRg_f fM, b5, fun hh => absurd hh q2⟩
    · have h12 : ¬ (w_D_figures N (0 : Int32) (100 : Int32)) 194 12 = -1 := by rw [a3.2.1]; exact q
      rw [decide_eq_false h12, zk_f]
      have st := g2.2.1 q
      refine ⟨⟨a1, (fun hh => by cases hh)⟩, fun W hW => ?_⟩
      rw [hW]
      exact ⟨zRg_f (zRf_tr hf a2), zR_bad a3 q st, fun hh => absurd (st.symm.trans hh) q⟩
  obtain ⟨a1, a2, a3, a4, a5⟩ := zR_wd h hs 13 47 (zpW_34 13 (by omega) (by omega)) (zpW_len 13 (by omega)).2
  unfold ok_D_lawLine w_D_lawLine zpVerb
  rw [a1]
  cases h3 : zpHas t n 13 s with
  | true =>
    simp only [zk_t]
    rw [show decide ((0 : Int32) = (-1 : Int32)) = false from rfl]
    simp only [zk_f]
    obtain ⟨k1, k2⟩ := key _ _ (0 : Int32) (a3 h3) hs a5
    exact ⟨⟨a2, (fun hh => by cases hh), fun _ => k1⟩, k2 _ rfl⟩
  | false =>
    simp only [zk_f]
    obtain ⟨z1, -⟩ := a4 h3
    obtain ⟨b1, b2, b3, b4, b5⟩ := zR_wd z1 hs 14 48 (zpW_34 14 (by omega) (by omega)) (zpW_len 14 (by omega)).2
    rw [b1]
    cases h4 : zpHas t n 14 s with
    | true =>
      simp only [zk_t]
      rw [show decide ((1 : Int32) = (-1 : Int32)) = false from rfl]
      simp only [zk_f]
      obtain ⟨k1, k2⟩ := key _ _ (1 : Int32) (b3 h4) hs (zRf_tr a5 b5)
      exact ⟨⟨a2, fun _ => ⟨b2, (fun hh => by cases hh)⟩, fun _ => k1⟩, k2 _ rfl⟩
    | false =>
      simp only [zk_f]
      obtain ⟨z2, -⟩ := b4 h4
      obtain ⟨c1, c2, c3, c4, c5⟩ := zR_wd z2 hs 15 49 (zpW_34 15 (by omega) (by omega)) (zpW_len 15 (by omega)).2
      rw [c1]
      have f3 := zRf_tr a5 (zRf_tr b5 c5)
      cases h5 : zpHas t n 15 s with
      | true =>
        simp only [zk_t]
        rw [show decide ((2 : Int32) = (-1 : Int32)) = false from rfl]
        simp only [zk_f]
        obtain ⟨k1, k2⟩ := key _ _ (2 : Int32) (c3 h5) hs f3
        exact ⟨⟨a2, fun _ => ⟨b2, fun _ => c2⟩, fun _ => k1⟩, k2 _ rfl⟩
      | false =>
        simp only [zk_f]
        simp only [decide_true, zk_t]
        obtain ⟨z3, p3⟩ := c4 h5
        rw [p3]
        obtain ⟨w1, w2⟩ := zR_wr z3 hs rfl
        have hb := zpFl_ne (s := s) hn hle
        have st := (zpG_tl (t := t) (s := zpFail n s) hn (Nat.le_refl n)).1.2.1 hb
        exact ⟨⟨a2, fun _ => ⟨b2, fun _ => c2⟩, (fun hh => by cases hh)⟩, zRg_f (zRf_tr f3 w2), zR_bad w1 hb st, fun hh => absurd (st.symm.trans hh) hb⟩
/-- one line behind, the next one ahead; whether law or shop -/
def zXr (b0 : Bool) (a : Bool × Int32 × zMem) : zMem := (bif (decide (a.2.1 = (bif b0 then (12 : Int32) else (14 : Int32)))) then (w_D_wrong (w_D_skip a.2.2) ((w_D_skip a.2.2) 194 11)) else (bif b0 then (w_D_lawLine (w_D_skip a.2.2)) else (w_D_shopLine (w_D_skip a.2.2))))
theorem zR_step {M0 : zMem} {b0 : Bool} {i : Nat} {a : Bool × Int32 × zMem} {t : Nat → Int32} {n : Nat} {s : Nat × Int32} (ha : a.1 = true) (h12 : a.2.2 194 12 = -1) (h : zR (zXr b0 a) t n s 0) (hle : s.1 ≤ n) : ∃ go N, g_D_read_1 M0 b0 i a = (true, (go, a.2.1 + (1 : Int32), N)) ∧ zRf (zXr b0 a) N ∧ ok_D_skip (zXr b0 a) ∧ ((decide (((w_D_skip (zXr b0 a)) 194 12) = (-1 : Int32))) = true → ((decide (((w_D_skip (zXr b0 a)) 194 11) = ((w_D_skip (zXr b0 a)) 194 10))) = false → ok_D_isSign (w_D_skip (zXr b0 a)) (59 : Int32))) ∧ ((s.2 = -1 ∧ zpSg t n 59 s = true ∧ go = true ∧ zR N t n (zpNx t n s) 0) ∨ ((s.2 = -1 → zpSg t n 59 s = false) ∧ (go = false ∨ ¬ N 194 12 = -1) ∧ zR N t n (bif decide (s.2 = -1) then (bif decide (s.1 < n) then zpFail n s else s) else s) 0)) := by
  obtain ⟨a1, a2, a3, -⟩ := zR_sk h
  have eg : ∀ X : zMem, X = zXr b0 a → g_D_read_1 M0 b0 i a = (true, ((bif (decide (((w_D_skip X) 194 12) = (-1 : Int32))) then (bif (decide (((w_D_skip X) 194 11) = ((w_D_skip X) 194 10))) then false else true) else false), a.2.1 + (1 : Int32), (bif (decide (((w_D_skip X) 194 12) = (-1 : Int32))) then (bif (decide (((w_D_skip X) 194 11) = ((w_D_skip X) 194 10))) then (w_D_skip X) else (bif (v_D_isSign (w_D_skip X) (59 : Int32)) then (zz_up (w_D_isSign (w_D_skip X) (59 : Int32)) 194 11 (((w_D_isSign (w_D_skip X) (59 : Int32)) 194 11) + (1 : Int32))) else (w_D_wrong (w_D_isSign (w_D_skip X) (59 : Int32)) ((w_D_isSign (w_D_skip X) (59 : Int32)) 194 11)))) else (w_D_skip X)))) := by
    intro X hX
    subst hX
    unfold g_D_read_1 zXr
    rw [ha, h12, decide_eq_true (show (-1 : Int32) = -1 from rfl)]
    simp only [zk_t]
  have eg := eg _ rfl
  generalize zXr b0 a = X at h a1 a2 a3 eg ⊢
  by_cases c : s.2 = -1
  · obtain ⟨p1, p2, p3⟩ := zR_at h c
    have hn := h.1.1
    have q12 : (w_D_skip X) 194 12 = -1 := by rw [a1.2.1]; exact c
    rw [q12, p1, p2, decide_eq_true (show (-1 : Int32) = -1 from rfl), zN_eq (by omega) (by omega)] at eg
    rw [q12, p1, p2, decide_eq_true (show (-1 : Int32) = -1 from rfl), zN_eq (by omega) (by omega)]
    simp only [zk_t] at eg
    obtain ⟨d1, d2, d3, d4, d5, d6⟩ := zR_sg a1 c (59 : Int32)
    by_cases q : s.1 = n
    · rw [decide_eq_true q] at eg
      simp only [zk_t] at eg
      have hno : zpSg t n 59 s = false := by
        unfold zpSg
        rw [decide_eq_false (by omega), Bool.false_and]
      refine ⟨_, _, eg, a3, a2, fun _ _ => d2, Or.inr ⟨fun _ => hno, Or.inl rfl, ?_⟩⟩
      rw [decide_eq_true c, zk_t, decide_eq_false (by omega), zk_f]
      exact a1
    · rw [decide_eq_false q, d1] at eg
      simp only [zk_f] at eg
      cases hc : zpSg t n 59 s with
      | true =>
        rw [hc] at eg
        simp only [zk_t] at eg
        obtain ⟨e1, e2⟩ := d6 hc
        exact ⟨_, _, eg, zRf_tr a3 e2, a2, fun _ _ => d2, Or.inl ⟨c, rfl, rfl, e1⟩⟩
      | false =>
        rw [hc] at eg
        simp only [zk_f] at eg
        rw [d5] at eg
        obtain ⟨w1, w2⟩ := zR_wr d3 c rfl
        refine ⟨_, _, eg, zRf_tr a3 (zRf_tr d4 w2), a2, fun _ _ => d2, Or.inr ⟨fun _ => rfl, Or.inr ?_, ?_⟩⟩
        · rw [w1.2.1]; exact zpFl_ne hn hle
        · rw [decide_eq_true c, zk_t, decide_eq_true (show s.1 < n by omega), zk_t]
          exact w1
  · have q12 : ¬ (w_D_skip X) 194 12 = -1 := by rw [a1.2.1]; exact c
    rw [decide_eq_false q12] at eg
    simp only [zk_f] at eg
    rw [decide_eq_false q12]
    refine ⟨_, _, eg, a3, a2, (fun hh => by cases hh), Or.inr ⟨fun hh => absurd hh c, Or.inl rfl, ?_⟩⟩
    rw [decide_eq_false c, zk_f]
    exact a1
theorem zR_halt {M0 : zMem} {b0 : Bool} {i m : Nat} {a : Bool × Int32 × zMem} (h : a.1 = false ∨ ¬ a.2.2 194 12 = -1) : zf_wh (m + 1) (g_D_read_1 M0 b0) i a = a ∧ zf_wk (m + 1) (g_D_read_1 M0 b0) (kb_D_read_1 M0 b0) i a := by
  have eg : g_D_read_1 M0 b0 i a = (false, a) ∧ kb_D_read_1 M0 b0 i a := by
    unfold g_D_read_1 kb_D_read_1
    rcases h with h | h
    · rw [h]
      simp only [zk_f]
      exact ⟨by cases a; rename_i x y; cases y; simp only at h; rw [h], (fun hh => by cases hh)⟩
    · rw [decide_eq_false h]
      simp only [zk_f]
      refine ⟨?_, (fun _ hh => by cases hh)⟩
      cases ha : a.1 with
      | true =>
        simp only [zk_t]
        cases a; rename_i x y; cases y; simp only at ha; rw [ha]
      | false =>
        simp only [zk_f]
        cases a; rename_i x y; cases y; simp only at ha; rw [ha]
  exact ⟨zf_w0 eg.1, zf_k0 eg.1 eg.2⟩
/-- lines added up -/
def zS17 (F : Nat → Int32) : List (Int32 × Int32 × List Int32) → Int32 → Int32
  | [], c => c
  | x :: l, c => zS17 F l (zq17 F x c)
def zS18 (F : Nat → Int32) : List (Int32 × Int32 × List Int32) → Int32 → Int32
  | [], c => c
  | x :: l, c => zS18 F l (zq18 F x c)
theorem zS17_ap (F : Nat → Int32) (x : Int32 × Int32 × List Int32) : ∀ l c, zS17 F (l ++ [x]) c = zq17 F x (zS17 F l c)
  | [], c => rfl
  | y :: l, c => zS17_ap F x l (zq17 F y c)
theorem zS18_ap (F : Nat → Int32) (x : Int32 × Int32 × List Int32) : ∀ l c, zS18 F (l ++ [x]) c = zq18 F x (zS18 F l c)
  | [], c => rfl
  | y :: l, c => zS18_ap F x l (zq18 F y c)
theorem zpG_ln {t : Nat → Int32} {n : Nat} {s : Nat × Int32} (hn : n ≤ 400) (hs : s.1 ≤ n) : zpG1 n s (zpLine t n s).1 0 := by
  rw [zpLine_eq]
  have a := zpG_vb (t := t) hn hs
  exact zpG_wk (zpG_tr a (zpG_tl (t := t) hn a.1).1) (by omega)
theorem zpG_ll {t : Nat → Int32} {n : Nat} (hn : n ≤ 400) : ∀ f i (r : (Nat × Int32) × List (Int32 × Int32 × List Int32)), r.1.1 ≤ n → zpG1 n r.1 (zpLinesL t n f i r).1 0
  | 0, i, r, h => zpG_rf h
  | f + 1, i, r, h => by
    show zpG1 n r.1 (bif zpCome t n i r.1 then (bif decide (i < 12) then zpLinesL t n f (i + 1) ((zpLine t n (zpStep t n i r.1)).1, r.2 ++ [(zpLine t n (zpStep t n i r.1)).2]) else (zpFail n (zpStep t n i r.1), r.2)) else (bif decide (r.1.1 < n) then (zpFail n r.1, r.2) else r)).1 0
    cases hc : zpCome t n i r.1 with
    | true =>
      rw [zk_t]
      have g : zpG1 n r.1 (zpStep t n i r.1) 0 := by
        unfold zpCome at hc
        unfold zpStep
        cases q : Nat.beq i 0 with
        | true => rw [zk_t]; exact zpG_rf h
        | false =>
          rw [q, zk_f] at hc
          rw [zk_f]
          exact zpG_wk (zpG_nx hc) (by omega)
      cases decide (i < 12)
      · rw [zk_f]; exact zpG_tr g (zpG_fl hn g.1 0)
      · rw [zk_t]
        have a := zpG_ln (t := t) hn g.1
        exact zpG_tr (zpG_tr g a) (zpG_ll hn f (i + 1) ((zpLine t n (zpStep t n i r.1)).1, r.2 ++ [(zpLine t n (zpStep t n i r.1)).2]) a.1)
    | false =>
      rw [zk_f]
      cases decide (r.1.1 < n)
      · rw [zk_f]; exact zpG_rf h
      · rw [zk_t]; exact zpG_fl hn h 0
/-- all lines of the law -/
theorem zR_ll {t : Nat → Int32} {n : Nat} {F : Nat → Int32} {c7 c8 : Int32} (M0 : zMem) : ∀ f i m (a : Bool × Int32 × zMem) (r : (Nat × Int32) × List (Int32 × Int32 × List Int32)), i + f = 13 → f + 1 < m → 1 ≤ f → a.1 = true → a.2.1 = Int32.ofNat i → zR a.2.2 t n (zpStep t n i r.1) 0 → zpCome t n i r.1 = true → r.1.2 = -1 → r.1.1 ≤ n → r.2.length = i → zFa a.2.2 F → a.2.2 194 17 = zS17 F r.2 c7 → a.2.2 194 18 = zS18 F r.2 c8 → zf_wk m (g_D_read_1 M0 true) (kb_D_read_1 M0 true) i a ∧ zRg a.2.2 (zf_wh m (g_D_read_1 M0 true) i a).2.2 ∧ zR (zf_wh m (g_D_read_1 M0 true) i a).2.2 t n (zpLinesL t n f i r).1 0 ∧ ((zpLinesL t n f i r).1.2 = -1 → (zf_wh m (g_D_read_1 M0 true) i a).2.1 = Int32.ofNat (zpLinesL t n f i r).2.length ∧ (zf_wh m (g_D_read_1 M0 true) i a).2.2 194 17 = zS17 F (zpLinesL t n f i r).2 c7 ∧ (zf_wh m (g_D_read_1 M0 true) i a).2.2 194 18 = zS18 F (zpLinesL t n f i r).2 c8) := by
  intro f
  induction f with
  | zero => intro i m a r _ _ h1; omega
  | succ f ih =>
    intro i m a r hi hm h1 ha hai h hcome hr hrl hlen hF h7 h8
    obtain ⟨m, rfl⟩ : ∃ k, m = k + 1 + 1 := ⟨m - 2, by omega⟩
    have hn := h.1.1
    have hus : (zpStep t n i r.1).2 = -1 := by
      unfold zpStep zpNx
      cases Nat.beq i 0
      · exact hr
      · exact hr
    have hule := zR_le h hus
    have h12 : a.2.2 194 12 = -1 := by rw [h.2.1]; exact hus
    obtain ⟨s1, s2, s3, -⟩ := zR_sk h
    obtain ⟨p1, p2, p3⟩ := zR_at h hus
    show _ ∧ _ ∧ zR _ t n (bif zpCome t n i r.1 then (bif decide (i < 12) then zpLinesL t n f (i + 1) ((zpLine t n (zpStep t n i r.1)).1, r.2 ++ [(zpLine t n (zpStep t n i r.1)).2]) else (zpFail n (zpStep t n i r.1), r.2)) else (bif decide (r.1.1 < n) then (zpFail n r.1, r.2) else r)).1 0 ∧ ((bif zpCome t n i r.1 then (bif decide (i < 12) then zpLinesL t n f (i + 1) ((zpLine t n (zpStep t n i r.1)).1, r.2 ++ [(zpLine t n (zpStep t n i r.1)).2]) else (zpFail n (zpStep t n i r.1), r.2)) else (bif decide (r.1.1 < n) then (zpFail n r.1, r.2) else r)).1.2 = -1 → _ = Int32.ofNat (bif zpCome t n i r.1 then (bif decide (i < 12) then zpLinesL t n f (i + 1) ((zpLine t n (zpStep t n i r.1)).1, r.2 ++ [(zpLine t n (zpStep t n i r.1)).2]) else (zpFail n (zpStep t n i r.1), r.2)) else (bif decide (r.1.1 < n) then (zpFail n r.1, r.2) else r)).2.length ∧ _ = zS17 F (bif zpCome t n i r.1 then (bif decide (i < 12) then zpLinesL t n f (i + 1) ((zpLine t n (zpStep t n i r.1)).1, r.2 ++ [(zpLine t n (zpStep t n i r.1)).2]) else (zpFail n (zpStep t n i r.1), r.2)) else (bif decide (r.1.1 < n) then (zpFail n r.1, r.2) else r)).2 c7 ∧ _ = zS18 F (bif zpCome t n i r.1 then (bif decide (i < 12) then zpLinesL t n f (i + 1) ((zpLine t n (zpStep t n i r.1)).1, r.2 ++ [(zpLine t n (zpStep t n i r.1)).2]) else (zpFail n (zpStep t n i r.1), r.2)) else (bif decide (r.1.1 < n) then (zpFail n r.1, r.2) else r)).2 c8)
    rw [hcome, zk_t]
    have e12 : decide (a.2.1 = (bif true then (12 : Int32) else (14 : Int32))) = decide (i = 12) := by
      rw [hai, zk_t]
      exact zN_eq (a := i) (b := 12) (by omega) (by omega)
    by_cases q : i < 12
    · have eX : zXr true a = w_D_lawLine (w_D_skip a.2.2) := by
        unfold zXr
        rw [e12, decide_eq_false (by omega)]
        simp only [zk_f, zk_t]
      obtain ⟨l1, l2, l3, l4⟩ := zR_line s1 hus (zFa_f hF s3)
      have gL := zpG_ln (t := t) hn hule
      rw [decide_eq_true q, zk_t]
      obtain ⟨go, N, st1, st2, st3, st4, st5⟩ := zR_step (M0 := M0) (b0 := true) (i := i) ha h12 (by rw [eX]; exact l3) gL.1
      rw [eX] at st2 st3 st4
      have kb : kb_D_read_1 M0 true i a := by
        intro _ _
        show ok_D_skip a.2.2 ∧ ((decide (a.2.1 = (bif true then (12 : Int32) else (14 : Int32)))) = false → ((true = true → ok_D_lawLine (w_D_skip a.2.2)) ∧ (true = false → ok_D_shopLine (w_D_skip a.2.2)))) ∧ (ok_D_skip (zXr true a) ∧ ((decide (((w_D_skip (zXr true a)) 194 12) = (-1 : Int32))) = true → ((decide (((w_D_skip (zXr true a)) 194 11) = ((w_D_skip (zXr true a)) 194 10))) = false → ok_D_isSign (w_D_skip (zXr true a)) (59 : Int32))))
        rw [eX]
        exact ⟨s2, fun _ => ⟨fun _ => l1, (fun hh => by cases hh)⟩, st3, st4⟩
      have fg : zRg a.2.2 N := zRg_tr (zRg_f s3) (zRg_tr l2 (zRg_f st2))
      have en : a.2.1 + (1 : Int32) = Int32.ofNat (i + 1) := by rw [hai]; exact zi_ad i 1
      have sums : (zpLine t n (zpStep t n i r.1)).1.2 = -1 → N 194 17 = zS17 F (r.2 ++ [(zpLine t n (zpStep t n i r.1)).2]) c7 ∧ N 194 18 = zS18 F (r.2 ++ [(zpLine t n (zpStep t n i r.1)).2]) c8 := by
        intro hh
        obtain ⟨u1, u2⟩ := l4 hh
        rw [zS17_ap, zS18_ap, ← h7, ← h8, st2 194 17 (by omega), st2 194 18 (by omega), u1, u2, s3 194 17 (by omega), s3 194 18 (by omega)]
        exact ⟨rfl, rfl⟩
      have len : (r.2 ++ [(zpLine t n (zpStep t n i r.1)).2]).length = i + 1 := by rw [List.length_append, hlen]; rfl
      rw [zf_w1 st1]
      rcases st5 with ⟨g1, g2, g3, g4⟩ | ⟨g1, g2, g3⟩
      · have hc2 : zpCome t n (i + 1) (zpLine t n (zpStep t n i r.1)).1 = true := by
          unfold zpCome
          rw [zb_ne (show ¬ i + 1 = 0 by omega), zk_f]; exact g2
        have hst : zpStep t n (i + 1) (zpLine t n (zpStep t n i r.1)).1 = zpNx t n (zpLine t n (zpStep t n i r.1)).1 := by
          unfold zpStep
          rw [zb_ne (show ¬ i + 1 = 0 by omega), zk_f]
        have ih2 := ih (i + 1) (m + 1) (go, a.2.1 + (1 : Int32), N) ((zpLine t n (zpStep t n i r.1)).1, r.2 ++ [(zpLine t n (zpStep t n i r.1)).2]) (by omega) (by omega) (by omega) g3 en (by show zR N t n (zpStep t n (i + 1) (zpLine t n (zpStep t n i r.1)).1) 0; rw [hst]; exact g4) hc2 g1 gL.1 len (zFa_g hF fg) (sums g1).1 (sums g1).2
        exact ⟨zf_k1 st1 kb ih2.1, zRg_tr fg ih2.2.1, ih2.2.2.1, ih2.2.2.2⟩
      · obtain ⟨t1, t2⟩ := zR_halt (M0 := M0) (b0 := true) (i := i + 1) (m := m) (a := (go, a.2.1 + (1 : Int32), N)) g2
        rw [t1]
        have ep : (zpLinesL t n f (i + 1) ((zpLine t n (zpStep t n i r.1)).1, r.2 ++ [(zpLine t n (zpStep t n i r.1)).2])).1.2 = (bif decide ((zpLine t n (zpStep t n i r.1)).1.2 = -1) then (bif decide ((zpLine t n (zpStep t n i r.1)).1.1 < n) then zpFail n (zpLine t n (zpStep t n i r.1)).1 else (zpLine t n (zpStep t n i r.1)).1) else (zpLine t n (zpStep t n i r.1)).1).2 ∧ ((zpLine t n (zpStep t n i r.1)).1.2 = -1 → zpLinesL t n f (i + 1) ((zpLine t n (zpStep t n i r.1)).1, r.2 ++ [(zpLine t n (zpStep t n i r.1)).2]) = (bif decide ((zpLine t n (zpStep t n i r.1)).1.1 < n) then (zpFail n (zpLine t n (zpStep t n i r.1)).1, r.2 ++ [(zpLine t n (zpStep t n i r.1)).2]) else ((zpLine t n (zpStep t n i r.1)).1, r.2 ++ [(zpLine t n (zpStep t n i r.1)).2]))) := by
          by_cases cc : (zpLine t n (zpStep t n i r.1)).1.2 = -1
          · have hno := g1 cc
            obtain ⟨f', rfl⟩ : ∃ k, f = k + 1 := ⟨f - 1, by omega⟩
            have e : zpLinesL t n (f' + 1) (i + 1) ((zpLine t n (zpStep t n i r.1)).1, r.2 ++ [(zpLine t n (zpStep t n i r.1)).2]) = (bif decide ((zpLine t n (zpStep t n i r.1)).1.1 < n) then (zpFail n (zpLine t n (zpStep t n i r.1)).1, r.2 ++ [(zpLine t n (zpStep t n i r.1)).2]) else ((zpLine t n (zpStep t n i r.1)).1, r.2 ++ [(zpLine t n (zpStep t n i r.1)).2])) := by
              have hc2 : zpCome t n (i + 1) (zpLine t n (zpStep t n i r.1)).1 = false := by
                unfold zpCome
                rw [zb_ne (show ¬ i + 1 = 0 by omega), zk_f]; exact hno
              unfold zpLinesL
              dsimp only
              rw [hc2, zk_f]
            refine ⟨?_, fun _ => e⟩
            rw [e, decide_eq_true cc, zk_t]
            cases decide ((zpLine t n (zpStep t n i r.1)).1.1 < n) <;> rfl
          · refine ⟨?_, fun hh => absurd hh cc⟩
            rw [decide_eq_false cc, zk_f]
            exact (zpG_ll (t := t) hn f (i + 1) ((zpLine t n (zpStep t n i r.1)).1, r.2 ++ [(zpLine t n (zpStep t n i r.1)).2]) gL.1).2.1 cc
        refine ⟨zf_k1 st1 kb t2, fg, ?_, fun hh => ?_⟩
        · by_cases cc : (zpLinesL t n f (i + 1) ((zpLine t n (zpStep t n i r.1)).1, r.2 ++ [(zpLine t n (zpStep t n i r.1)).2])).1.2 = -1
          · have hgood : (zpLine t n (zpStep t n i r.1)).1.2 = -1 := ((zpG_ll (t := t) hn f (i + 1) ((zpLine t n (zpStep t n i r.1)).1, r.2 ++ [(zpLine t n (zpStep t n i r.1)).2]) gL.1).2.2 cc).1
            rw [decide_eq_true hgood, zk_t] at g3
            rw [ep.2 hgood]
            cases hq : decide ((zpLine t n (zpStep t n i r.1)).1.1 < n) with
            | true => rw [hq] at g3; exact g3
            | false => rw [hq] at g3; exact g3
          · exact zR_bad g3 (by rw [← ep.1]; exact cc) ep.1
        · have hgood : (zpLine t n (zpStep t n i r.1)).1.2 = -1 := ((zpG_ll (t := t) hn f (i + 1) ((zpLine t n (zpStep t n i r.1)).1, r.2 ++ [(zpLine t n (zpStep t n i r.1)).2]) gL.1).2.2 hh).1
          obtain ⟨v1, v2⟩ := sums hgood
          have el : (zpLinesL t n f (i + 1) ((zpLine t n (zpStep t n i r.1)).1, r.2 ++ [(zpLine t n (zpStep t n i r.1)).2])).2 = r.2 ++ [(zpLine t n (zpStep t n i r.1)).2] := by
            rw [ep.2 hgood]
            cases decide ((zpLine t n (zpStep t n i r.1)).1.1 < n) <;> rfl
          rw [el, len]
          exact ⟨en, v1, v2⟩
    · have eX : zXr true a = w_D_wrong (w_D_skip a.2.2) ((w_D_skip a.2.2) 194 11) := by
        unfold zXr
        rw [e12, decide_eq_true (show i = 12 by omega)]
        simp only [zk_t]
      rw [p1] at eX
      obtain ⟨w1, w2⟩ := zR_wr s1 hus rfl
      have hb := zpFl_ne (s := zpStep t n i r.1) hn hule
      rw [decide_eq_false q, zk_f]
      obtain ⟨go, N, st1, st2, st3, st4, st5⟩ := zR_step (M0 := M0) (b0 := true) (i := i) ha h12 (by rw [eX]; exact w1) (Nat.le_refl n)
      have kb : kb_D_read_1 M0 true i a := by
        intro _ _
        show ok_D_skip a.2.2 ∧ ((decide (a.2.1 = (bif true then (12 : Int32) else (14 : Int32)))) = false → ((true = true → ok_D_lawLine (w_D_skip a.2.2)) ∧ (true = false → ok_D_shopLine (w_D_skip a.2.2)))) ∧ (ok_D_skip (zXr true a) ∧ ((decide (((w_D_skip (zXr true a)) 194 12) = (-1 : Int32))) = true → ((decide (((w_D_skip (zXr true a)) 194 11) = ((w_D_skip (zXr true a)) 194 10))) = false → ok_D_isSign (w_D_skip (zXr true a)) (59 : Int32))))
        rw [e12, decide_eq_true (show i = 12 by omega)]
        exact ⟨s2, (fun hh => by cases hh), st3, st4⟩
      rw [eX] at st2
      have fg : zRg a.2.2 N := zRg_tr (zRg_f s3) (zRg_tr (zRg_f w2) (zRg_f st2))
      rw [zf_w1 st1]
      rcases st5 with ⟨g1, g2, g3, g4⟩ | ⟨g1, g2, g3⟩
      · exact absurd g1 hb
      · obtain ⟨t1, t2⟩ := zR_halt (M0 := M0) (b0 := true) (i := i + 1) (m := m) (a := (go, a.2.1 + (1 : Int32), N)) g2
        rw [t1]
        rw [decide_eq_false hb, zk_f] at g3
        exact ⟨zf_k1 st1 kb t2, fg, g3, fun hh => absurd hh hb⟩
/-- a law's text -/
theorem zR_law {M : zMem} {t : Nat → Int32} {n : Nat} {F : Nat → Int32} (h : zR M t n (zpSk t n 0, -1) 0) (hF : zFa M F) : ok_D_read M true ∧ zRg M (w_D_read M true) ∧ zR (w_D_read M true) t n (zpLaw t n).1 0 ∧ ((zpLaw t n).1.2 = -1 → v_D_read M true = Int32.ofNat (zpLaw t n).2.length ∧ (w_D_read M true) 194 17 = zS17 F (zpLaw t n).2 (M 194 17) ∧ (w_D_read M true) 194 18 = zS18 F (zpLaw t n).2 (M 194 18)) := by
  have hn := h.1.1
  obtain ⟨s1, s2, s3, -⟩ := zR_sk h
  obtain ⟨p1, p2, p3⟩ := zR_at h rfl
  have p3 : zpSk t n 0 ≤ n := p3
  unfold ok_D_read w_D_read v_D_read
  rw [p1, p2, zi_le (by omega) (by omega)]
  show _ ∧ _ ∧ zR _ t n (zpLinesL t n 13 0 ((zpSk t n 0, -1), [])).1 0 ∧ ((zpLinesL t n 13 0 ((zpSk t n 0, -1), [])).1.2 = -1 → _ = Int32.ofNat (zpLinesL t n 13 0 ((zpSk t n 0, -1), [])).2.length ∧ _ = zS17 F (zpLinesL t n 13 0 ((zpSk t n 0, -1), [])).2 _ ∧ _ = zS18 F (zpLinesL t n 13 0 ((zpSk t n 0, -1), [])).2 _)
  by_cases q : zpSk t n 0 < n
  · have hc : zpCome t n 0 (zpSk t n 0, -1) = true := decide_eq_true q
    rw [decide_eq_false (show ¬ n ≤ zpSk t n 0 by omega), zk_f]
    have l := zR_ll (t := t) (n := n) (F := F) (c7 := M 194 17) (c8 := M 194 18) M 13 0 1000 (true, (0 : Int32), w_D_skip M) ((zpSk t n 0, -1), []) (by omega) (by omega) (by omega) rfl rfl s1 hc rfl p3 rfl (zFa_f hF s3) (s3 194 17 (by omega)) (s3 194 18 (by omega))
    exact ⟨⟨s2, l.1⟩, zRg_tr (zRg_f s3) l.2.1, l.2.2.1, l.2.2.2⟩
  · have hc : zpCome t n 0 (zpSk t n 0, -1) = false := decide_eq_false q
    have e : zpLinesL t n 13 0 ((zpSk t n 0, -1), []) = ((zpSk t n 0, -1), []) := by
      unfold zpLinesL
      dsimp only
      rw [hc, zk_f, decide_eq_false q, zk_f]
    rw [decide_eq_true (show n ≤ zpSk t n 0 by omega), zk_t, e]
    obtain ⟨t1, t2⟩ := zR_halt (M0 := M) (b0 := true) (i := 0) (m := 999) (a := (false, (0 : Int32), w_D_skip M)) (Or.inl rfl)
    rw [t1]
    exact ⟨⟨s2, t2⟩, zRg_f s3, s1, fun _ => ⟨rfl, s3 194 17 (by omega), s3 194 18 (by omega)⟩⟩
