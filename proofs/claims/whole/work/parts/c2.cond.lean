/-! the reference's sums, conditions -/
theorem zR_bad {M : zMem} {t : Nat → Int32} {n d : Nat} {s s' : Nat × Int32} (h : zR M t n s d) (hb : ¬ s.2 = -1) (he : s'.2 = s.2) : zR M t n s' d := by
  obtain ⟨h1, h2, h3, q, h4, h5, h6⟩ := h
  exact ⟨h1, by rw [he]; exact h2, h3, q, h4, h5, fun hh => absurd (he.symm.trans hh) hb⟩
theorem zR_le {M : zMem} {t : Nat → Int32} {n d : Nat} {s : Nat × Int32} (h : zR M t n s d) (hs : s.2 = -1) : s.1 ≤ n := (zR_at h hs).2.2
theorem zpG_sl0 {t : Nat → Int32} {n : Nat} (hn : n ≤ 400) : ∀ f (r : (Nat × Int32) × List Int32), r.1.1 ≤ n → zpG1 n r.1 (zpSumL t n f r).1 0
  | 0, r, h => zpG_rf h
  | f + 1, r, h => by
    show zpG1 n r.1 (bif zpSg t n 43 r.1 then zpSumL t n f ((zpPart t n (zpNx t n r.1)).2, r.2 ++ [(zpPart t n (zpNx t n r.1)).1, 10]) else r).1 0
    cases hc : zpSg t n 43 r.1 with
    | false => rw [zk_f]; exact zpG_rf h
    | true =>
      rw [zk_t]
      have a := zpG_nx hc
      have b := zpG_pt (t := t) hn a.1
      exact zpG_wk (zpG_tr (zpG_tr a b) (zpG_sl0 hn f ((zpPart t n (zpNx t n r.1)).2, r.2 ++ [(zpPart t n (zpNx t n r.1)).1, 10]) b.1)) (by omega)
theorem zpG_al0 {t : Nat → Int32} {n k : Nat} {st : Int32} (hn : n ≤ 400) {F : Nat × Int32 → (Nat × Int32) × List Int32} (hF : zpGR n F) : ∀ f (r : (Nat × Int32) × List Int32), r.1.1 ≤ n → zpG1 n r.1 (zpAllL t n k st F f r).1 0
  | 0, r, h => zpG_rf h
  | f + 1, r, h => by
    show zpG1 n r.1 (bif zpHas t n k r.1 then zpAllL t n k st F f ((F (zpAft t n k r.1)).1, r.2 ++ (F (zpAft t n k r.1)).2 ++ [st]) else r).1 0
    cases hc : zpHas t n k r.1 with
    | false => rw [zk_f]; exact zpG_rf h
    | true =>
      rw [zk_t]
      have a := zpG_hs hc h
      have b := hF _ a.1
      exact zpG_wk (zpG_tr (zpG_tr a b) (zpG_al0 hn hF f ((F (zpAft t n k r.1)).1, r.2 ++ (F (zpAft t n k r.1)).2 ++ [st]) b.1)) (by omega)
theorem zpTk_2 (F : Nat → Int32) (x a b : Int32) (st : List Int32) (h1 : decide ((16 : Int32) ≤ x) = false) (h2 : decide ((10 : Int32) ≤ x) = true) (h3 : decide (x = (13 : Int32)) = false) : zpTake F x (b :: a :: st) = v_L_joined x a b :: st := by
  unfold zpTake
  rw [h1, h2, h3, zk_f, zk_t, zk_f]
theorem zpTk_add (F : Nat → Int32) (a b : Int32) (st : List Int32) : zpTake F 10 (b :: a :: st) = (a + b) :: st := by
  rw [zpTk_2 F 10 a b st rfl rfl rfl]
  unfold v_L_joined
  rw [show decide ((10 : Int32) = (10 : Int32)) = true from rfl, zk_t]
theorem zpTk_lt (F : Nat → Int32) (a b : Int32) (st : List Int32) : zpTake F 11 (b :: a :: st) = zb (bif decide (b ≤ a) then false else true) :: st := by
  rw [zpTk_2 F 11 a b st rfl rfl rfl]
  unfold v_L_joined
  rw [show decide ((11 : Int32) = (10 : Int32)) = false from rfl, show decide ((11 : Int32) = (11 : Int32)) = true from rfl, zk_f, zk_t]
theorem zpTk_gt (F : Nat → Int32) (a b : Int32) (st : List Int32) : zpTake F 12 (b :: a :: st) = zb (bif decide (a ≤ b) then false else true) :: st := by
  rw [zpTk_2 F 12 a b st rfl rfl rfl]
  unfold v_L_joined
  rw [show decide ((12 : Int32) = (10 : Int32)) = false from rfl, show decide ((12 : Int32) = (11 : Int32)) = false from rfl, show decide ((12 : Int32) = (12 : Int32)) = true from rfl, zk_f, zk_f, zk_t]
theorem zpTk_and (F : Nat → Int32) (a b : Bool) (st : List Int32) : zpTake F 14 (zb b :: zb a :: st) = zb (bif a then b else false) :: st := by
  rw [zpTk_2 F 14 (zb a) (zb b) st rfl rfl rfl]
  cases a <;> cases b <;> rfl
theorem zpTk_or (F : Nat → Int32) (a b : Bool) (st : List Int32) : zpTake F 15 (zb b :: zb a :: st) = zb (bif a then true else b) :: st := by
  rw [zpTk_2 F 15 (zb a) (zb b) st rfl rfl rfl]
  cases a <;> cases b <;> rfl
theorem zpTk_not (F : Nat → Int32) (a : Bool) (st : List Int32) : zpTake F 13 (zb a :: st) = zb (bif a then false else true) :: st := by
  unfold zpTake
  rw [show decide ((16 : Int32) ≤ (13 : Int32)) = false from rfl, show decide ((10 : Int32) ≤ (13 : Int32)) = true from rfl, show decide ((13 : Int32) = (13 : Int32)) = true from rfl, zk_f, zk_t, zk_t]
  cases a <;> rfl
/-- sums -/
theorem zR_sl {t : Nat → Int32} {n d : Nat} {F : Nat → Int32} (M0 : zMem) : ∀ f i m (a : Int32 × zMem) (r : (Nat × Int32) × List Int32), i + f = 400 → f < m → zR a.2 t n r.1 d → r.1.1 ≤ n → (r.1.2 = -1 → (∀ st, zpRun F r.2 st = a.1 :: st) ∧ i ≤ r.1.1) → zFa a.2 F → zf_wk m (g_D_sum_1 M0) (kb_D_sum_1 M0) i a ∧ zRf a.2 (zf_wh m (g_D_sum_1 M0) i a).2 ∧ zR (zf_wh m (g_D_sum_1 M0) i a).2 t n (zpSumL t n f r).1 d ∧ ((zpSumL t n f r).1.2 = -1 → ∀ st, zpRun F (zpSumL t n f r).2 st = (zf_wh m (g_D_sum_1 M0) i a).1 :: st) := by
  intro f
  induction f with
  | zero =>
    intro i m a r hi hm h hle hv hF
    obtain ⟨m, rfl⟩ : ∃ k, m = k + 1 := ⟨m - 1, by omega⟩
    have hn := h.1.1
    by_cases c : r.1.2 = -1
    · obtain ⟨b1, b2, b3, b4, b5, b6⟩ := zR_sg h c (43 : Int32)
      have hno : zpSg t n 43 r.1 = false := by
        unfold zpSg
        rw [decide_eq_false (by have := (hv c).2; omega), Bool.false_and]
      have h12 : a.2 194 12 = -1 := by rw [h.2.1]; exact c
      have eg : g_D_sum_1 M0 i a = (false, (a.1, w_D_isSign a.2 (43 : Int32))) := by
        unfold g_D_sum_1
        rw [h12, b1, hno, decide_eq_true (show (-1 : Int32) = -1 from rfl)]
        simp only [zk_t, zk_f]
      rw [zf_w0 eg]
      refine ⟨zf_k0 eg ?_, b4, b3, fun hh => (hv hh).1⟩
      unfold kb_D_sum_1
      rw [b1, hno]
      exact fun _ => ⟨b2, (fun hh => by cases hh)⟩
    · have h12 : ¬ a.2 194 12 = -1 := by rw [h.2.1]; exact c
      have eg : g_D_sum_1 M0 i a = (false, a) := by
        unfold g_D_sum_1
        rw [decide_eq_false h12]
        simp only [zk_f]
      rw [zf_w0 eg]
      refine ⟨zf_k0 eg ?_, zRf_rf _, h, fun hh => (hv hh).1⟩
      unfold kb_D_sum_1
      rw [decide_eq_false h12]
      intro hh; cases hh
  | succ f ih =>
    intro i m a r hi hm h hle hv hF
    obtain ⟨m, rfl⟩ : ∃ k, m = k + 1 := ⟨m - 1, by omega⟩
    have hn := h.1.1
    by_cases c : r.1.2 = -1
    · obtain ⟨b1, b2, b3, b4, b5, b6⟩ := zR_sg h c (43 : Int32)
      have h12 : a.2 194 12 = -1 := by rw [h.2.1]; exact c
      show _ ∧ _ ∧ zR _ t n (bif zpSg t n 43 r.1 then zpSumL t n f ((zpPart t n (zpNx t n r.1)).2, r.2 ++ [(zpPart t n (zpNx t n r.1)).1, 10]) else r).1 d ∧ ((bif zpSg t n 43 r.1 then zpSumL t n f ((zpPart t n (zpNx t n r.1)).2, r.2 ++ [(zpPart t n (zpNx t n r.1)).1, 10]) else r).1.2 = -1 → ∀ st, zpRun F (bif zpSg t n 43 r.1 then zpSumL t n f ((zpPart t n (zpNx t n r.1)).2, r.2 ++ [(zpPart t n (zpNx t n r.1)).1, 10]) else r).2 st = _)
      cases hc : zpSg t n 43 r.1 with
      | false =>
        have eg : g_D_sum_1 M0 i a = (false, (a.1, w_D_isSign a.2 (43 : Int32))) := by
          unfold g_D_sum_1
          rw [h12, b1, hc, decide_eq_true (show (-1 : Int32) = -1 from rfl)]
          simp only [zk_t, zk_f]
        rw [zf_w0 eg, zk_f]
        refine ⟨zf_k0 eg ?_, b4, b3, fun hh => (hv hh).1⟩
        unfold kb_D_sum_1
        rw [b1, hc]
        exact fun _ => ⟨b2, (fun hh => by cases hh)⟩
      | true =>
        obtain ⟨e1, e2⟩ := b6 hc
        have gN := zpG_nx hc
        have gP := zpG_pt (t := t) hn gN.1
        obtain ⟨p1, p2, p3, p4⟩ := zR_pt e1 c (zFa_f hF e2)
        have eg : g_D_sum_1 M0 i a = (true, (a.1 + v_D_part (zz_up (w_D_isSign a.2 (43 : Int32)) 194 11 ((w_D_isSign a.2 (43 : Int32)) 194 11 + (1 : Int32))), w_D_part (zz_up (w_D_isSign a.2 (43 : Int32)) 194 11 ((w_D_isSign a.2 (43 : Int32)) 194 11 + (1 : Int32))))) := by
          unfold g_D_sum_1
          rw [h12, b1, hc, decide_eq_true (show (-1 : Int32) = -1 from rfl)]
          simp only [zk_t]
        have ih2 := ih (i + 1) m (a.1 + v_D_part (zz_up (w_D_isSign a.2 (43 : Int32)) 194 11 ((w_D_isSign a.2 (43 : Int32)) 194 11 + (1 : Int32))), w_D_part (zz_up (w_D_isSign a.2 (43 : Int32)) 194 11 ((w_D_isSign a.2 (43 : Int32)) 194 11 + (1 : Int32)))) ((zpPart t n (zpNx t n r.1)).2, r.2 ++ [(zpPart t n (zpNx t n r.1)).1, 10]) (by omega) (by omega) p3 gP.1 (fun hh => by
          obtain ⟨u1, u2⟩ := gP.2.2 hh
          obtain ⟨v1, v2⟩ := gN.2.2 u1
          obtain ⟨x1, x2⟩ := hv v1
          refine ⟨fun st => ?_, by show i + 1 ≤ (zpPart t n (zpNx t n r.1)).2.1; omega⟩
          show zpRun F (r.2 ++ [(zpPart t n (zpNx t n r.1)).1, 10]) st = _
          rw [zpRun_ap, x1 st]
          show zpTake F 10 (zpTake F (zpPart t n (zpNx t n r.1)).1 (a.1 :: st)) = _
          rw [p4 hh, zpTk_add]) (zFa_f (zFa_f hF e2) p2)
        rw [zf_w1 eg, zk_t]
        refine ⟨zf_k1 eg ?_ ih2.1, zRf_tr (zRf_tr e2 p2) ih2.2.1, ih2.2.2.1, ih2.2.2.2⟩
        unfold kb_D_sum_1
        exact fun _ => ⟨b2, fun _ => p1⟩
    · have h12 : ¬ a.2 194 12 = -1 := by rw [h.2.1]; exact c
      have eg : g_D_sum_1 M0 i a = (false, a) := by
        unfold g_D_sum_1
        rw [decide_eq_false h12]
        simp only [zk_f]
      have st := (zpG_sl0 (t := t) hn (f + 1) r hle).2.1 c
      rw [zf_w0 eg]
      refine ⟨zf_k0 eg ?_, zRf_rf _, zR_bad h c st, fun hh => absurd (st.symm.trans hh) c⟩
      unfold kb_D_sum_1
      rw [decide_eq_false h12]
      intro hh; cases hh
theorem zR_sum {M : zMem} {t : Nat → Int32} {n d : Nat} {s : Nat × Int32} {F : Nat → Int32} (h : zR M t n s d) (hs : s.2 = -1) (hF : zFa M F) : ok_D_sum M ∧ zRf M (w_D_sum M) ∧ zR (w_D_sum M) t n (zpSum t n s).1 d ∧ ((zpSum t n s).1.2 = -1 → ∀ st, zpRun F (zpSum t n s).2 st = v_D_sum M :: st) := by
  obtain ⟨p1, p2, p3, p4⟩ := zR_pt h hs hF
  have gP := zpG_pt (t := t) h.1.1 (zR_le h hs)
  have l := zR_sl (t := t) (n := n) (d := d) (F := F) M 400 0 1000 (v_D_part M, w_D_part M) ((zpPart t n s).2, [(zpPart t n s).1]) (by omega) (by omega) p3 gP.1 (fun hh => ⟨fun st => p4 hh st, by omega⟩) (zFa_f hF p2)
  exact ⟨⟨p1, l.1⟩, zRf_tr p2 l.2.1, l.2.2.1, l.2.2.2⟩
/-- two different words do not stand at one place -/
theorem zpIs_u {t : Nat → Int32} {n p : Nat} {w v : List Int32} (h1 : zpIs t n w p = true) (h2 : zpIs t n v p = true) : w.length = v.length ∧ ∀ j, j < w.length → w.getD j 0 = v.getD j 0 := by
  unfold zpIs at h1 h2
  rw [Bool.and_eq_true] at h1 h2
  have a := of_decide_eq_true h1.1
  have b := of_decide_eq_true h2.1
  have e : w.length = v.length := by omega
  exact ⟨e, fun j hj => by rw [← (zpEq_iff t w p).mp h1.2 j hj, ← (zpEq_iff t v p).mp h2.2 j (by omega)]⟩
def zpWd (a b : Nat) : Bool := Nat.beq (zpW a).length (zpW b).length && (List.range (zpW a).length).all (fun j => decide ((zpW a).getD j 0 = (zpW b).getD j 0))
theorem zpWd_17 : ∀ j, j < 30 → (18 ≤ j → j < 28 → zpWd 17 j = false) := by decide +kernel
theorem zpHas_u {t : Nat → Int32} {n a b : Nat} {s : Nat × Int32} (hd : zpWd a b = false) (h : zpHas t n a s = true) : zpHas t n b s = false := by
  cases hb : zpHas t n b s with
  | false => rfl
  | true =>
    exfalso
    obtain ⟨u1, u2⟩ := zpIs_u (show zpIs t n (zpW a) s.1 = true from h) (show zpIs t n (zpW b) s.1 = true from hb)
    have : zpWd a b = true := by
      unfold zpWd
      rw [Bool.and_eq_true]
      refine ⟨by rw [u1]; exact Nat.beq_refl _, ?_⟩
      rw [List.all_eq_true]
      intro j hj
      exact decide_eq_true (u2 j (List.mem_range.mp hj))
    rw [hd] at this
    cases this
/-- at the deepest level "not" and "(" are wrong -/
theorem zpPl_bad {t : Nat → Int32} {n : Nat} {s : Nat × Int32} (hn : n ≤ 400) (hs : s.2 = -1) (hle : s.1 ≤ n) (h : zpHas t n 17 s = true ∨ zpSg t n 40 s = true) : (zpPlain t n s).1.2 = (zpFail n s).2 := by
  have noword : ∀ j, 18 ≤ j → j < 28 → zpHas t n j s = false := by
    intro j j1 j2
    rcases h with h | h
    · exact zpHas_u (zpWd_17 j (by omega) j1 j2) h
    · unfold zpSg at h
      rw [Bool.and_eq_true] at h
      have e := of_decide_eq_true h.2
      have q : decide (s.1 < zpRn t n 97 122 s.1) = false := by
        rw [zpRn_1, e, show decide ((97 : Int32) ≤ 40) = false from rfl, Bool.false_and, Bool.and_false]
      have q := of_decide_eq_false q
      have l := (zpRn_le (t := t) (lo := 97) (hi := 122) hle).2
      have w := (zpW_len j (by omega)).1
      unfold zpHas zpIs
      rw [decide_eq_false (by omega), Bool.false_and]
  have nodig : decide (s.1 < zpRn t n 48 57 s.1) = false := by
    rw [zpRn_1]
    rcases h with h | h
    · have h : zpIs t n (zpW 17) s.1 = true := h
      unfold zpIs at h
      rw [Bool.and_eq_true] at h
      have e := (zpEq_iff t (zpW 17) s.1).mp h.2 0 (by decide)
      have e : t s.1 = 110 := e
      rw [e, show decide ((110 : Int32) ≤ (57 : Int32)) = false from rfl, Bool.and_false, Bool.and_false]
    · unfold zpSg at h
      rw [Bool.and_eq_true] at h
      have e := of_decide_eq_true h.2
      rw [e, show decide ((48 : Int32) ≤ (40 : Int32)) = false from rfl, Bool.false_and, Bool.and_false]
  have part : zpPart t n s = (0, zpFail n s) := by
    unfold zpPart
    rw [nodig, zk_f, zpK8_no (fun j hj => noword (20 + j) (by omega) (by omega)), decide_eq_false (by omega), zk_f]
  have hb := zpFl_ne hn hle
  have gS := zpG_sl0 (t := t) hn 400 ((zpPart t n s).2, [(zpPart t n s).1]) (by rw [part]; exact Nat.le_refl n)
  have e1 : (zpSum t n s).1.2 = (zpFail n s).2 := by
    show (zpSumL t n 400 ((zpPart t n s).2, [(zpPart t n s).1])).1.2 = _
    rw [gS.2.1 (by rw [part]; exact hb), part]
  have le1 : (zpSum t n s).1.1 ≤ n := gS.1
  unfold zpPlain
  rw [noword 18 (by omega) (by omega), noword 19 (by omega) (by omega), zk_f, zk_f]
  show (zpSum t n (bif zpSg t n 60 (zpSum t n s).1 then zpNx t n (zpSum t n s).1 else zpNeed t n 62 (zpSum t n s).1)).1.2 = _
  have gX : zpG1 n (zpSum t n s).1 (bif zpSg t n 60 (zpSum t n s).1 then zpNx t n (zpSum t n s).1 else zpNeed t n 62 (zpSum t n s).1) 1 := by
    cases hc : zpSg t n 60 (zpSum t n s).1 with
    | true => rw [zk_t]; exact zpG_nx hc
    | false => rw [zk_f]; exact zpG_nd hn le1
  have gY := zpG_sum (t := t) hn _ gX.1
  have hb1 : ¬ (zpSum t n s).1.2 = -1 := by rw [e1]; exact hb
  have e2 := gX.2.1 hb1
  rw [gY.2.1 (by rw [e2]; exact hb1), e2, e1]
theorem zb_bx {x : Int32} (h : zz_b01 x = true) : zb (zbo x) = x := by
  unfold zz_b01 at h
  rw [Bool.or_eq_true] at h
  rcases h with h | h
  · rw [of_decide_eq_true h]; rfl
  · rw [of_decide_eq_true h]; rfl
/-- readers of conditions of the reference against pure ones -/
def zRR (t : Nat → Int32) (n d : Nat) (F : Nat → Int32) (V : zMem → Bool) (W : zMem → zMem) (K : zMem → Prop) (P : Nat × Int32 → (Nat × Int32) × List Int32) : Prop := ∀ M s, zR M t n s d → s.2 = -1 → zFa M F → K M ∧ zRf M (W M) ∧ zR (W M) t n (P s).1 d ∧ ((P s).1.2 = -1 → ∀ st, zpRun F (P s).2 st = zb (V M) :: st)
theorem zR_pl {t : Nat → Int32} {n d : Nat} {F : Nat → Int32} : zRR t n d F v_D_plainly w_D_plainly ok_D_plainly (zpPlain t n) := by
  intro M s h hs hF
  have hn := h.1.1
  have hle := zR_le h hs
  obtain ⟨a1, a2, a3, a4, a5⟩ := zR_wd h hs 18 52 (zpW_34 18 (by omega) (by omega)) (zpW_len 18 (by omega)).2
  unfold v_D_plainly w_D_plainly ok_D_plainly zpPlain
  rw [a1]
  cases h8 : zpHas t n 18 s with
  | true =>
    simp only [zk_t]
    have hF2 := zFa_f hF a5
    refine ⟨⟨a2, fun _ => hF2.2.2.2.1, (fun hh => by cases hh)⟩, a5, a3 h8, fun _ st => ?_⟩
    show zpTake F (Int32.ofNat 8) st = _
    rw [zpTk_f F st (by omega), hF2.2.1, zb_bx hF2.2.2.2.1]
  | false =>
    simp only [zk_f]
    obtain ⟨b0, -⟩ := a4 h8
    obtain ⟨b1, b2, b3, b4, b5⟩ := zR_wd b0 hs 19 53 (zpW_34 19 (by omega) (by omega)) (zpW_len 19 (by omega)).2
    rw [b1]
    cases h9 : zpHas t n 19 s with
    | true =>
      simp only [zk_t]
      have hF2 := zFa_f hF (zRf_tr a5 b5)
      refine ⟨⟨a2, (fun hh => by cases hh), fun _ => ⟨b2, fun _ => hF2.2.2.2.2, (fun hh => by cases hh)⟩⟩, zRf_tr a5 b5, b3 h9, fun _ st => ?_⟩
      show zpTake F (Int32.ofNat 9) st = _
      rw [zpTk_f F st (by omega), hF2.2.2.1, zb_bx hF2.2.2.2.2]
    | false =>
      simp only [zk_f]
      obtain ⟨c0, -⟩ := b4 h9
      have f0 := zRf_tr a5 b5
      obtain ⟨c1, c2, c3, c4⟩ := zR_sum c0 hs (zFa_f hF f0)
      generalize w_D_has (w_D_has M 52) 53 = N at c0 c1 c2 c3 c4 f0 ⊢
      have gS := zpG_sum (t := t) hn s hle
      by_cases q : (zpSum t n s).1.2 = -1
      · have h12 : (w_D_sum N) 194 12 = -1 := by rw [c3.2.1]; exact q
        rw [h12, decide_eq_true (show (-1 : Int32) = -1 from rfl)]
        simp only [zk_t]
        obtain ⟨d1, d2, d3, d4, d5, d6⟩ := zR_sg c3 q (60 : Int32)
        rw [d1]
        cases hc : zpSg t n 60 (zpSum t n s).1 with
        | true =>
          simp only [zk_t, hc]
          obtain ⟨e1, e2⟩ := d6 hc
          obtain ⟨g1, g2, g3, g4⟩ := zR_sum e1 q (zFa_f (zFa_f hF f0) (zRf_tr c2 e2))
          refine ⟨⟨a2, (fun hh => by cases hh), fun _ => ⟨b2, (fun hh => by cases hh), fun _ => ⟨c1, fun _ => ⟨d2, fun _ => g1, (fun hh => by cases hh)⟩⟩⟩⟩, zRf_tr f0 (zRf_tr c2 (zRf_tr e2 g2)), g3, fun hh st => ?_⟩
          rw [zpRun_ap, zpRun_ap, c4 q, g4 hh]
          exact zpTk_lt F _ _ st
        | false =>
          simp only [zk_f, hc]
          obtain ⟨e1, e2, e3, e4, e5, e6⟩ := zR_sg d3 q (62 : Int32)
          rw [e1]
          unfold zpNeed
          cases hc2 : zpSg t n 62 (zpSum t n s).1 with
          | true =>
            simp only [zk_t, zk_f]
            obtain ⟨x1, x2⟩ := e6 hc2
            obtain ⟨g1, g2, g3, g4⟩ := zR_sum x1 q (zFa_f (zFa_f (zFa_f hF f0) c2) (zRf_tr d4 x2))
            refine ⟨⟨a2, (fun hh => by cases hh), fun _ => ⟨b2, (fun hh => by cases hh), fun _ => ⟨c1, fun _ => ⟨d2, (fun hh => by cases hh), fun _ => ⟨e2, fun _ => g1⟩⟩⟩⟩⟩, zRf_tr f0 (zRf_tr c2 (zRf_tr d4 (zRf_tr x2 g2))), g3, fun hh st => ?_⟩
            rw [zpRun_ap, zpRun_ap, c4 q, g4 hh]
            exact zpTk_gt F _ _ st
          | false =>
            simp only [zk_f]
            rw [e5]
            obtain ⟨x1, x2⟩ := zR_wr e3 q rfl
            have hb := zpFl_ne (s := (zpSum t n s).1) hn gS.1
            have gF := zpG_fl (s := (zpSum t n s).1) hn gS.1 0
            have st := (zpG_sum (t := t) hn (zpFail n (zpSum t n s).1) gF.1).2.1 hb
            refine ⟨⟨a2, (fun hh => by cases hh), fun _ => ⟨b2, (fun hh => by cases hh), fun _ => ⟨c1, fun _ => ⟨d2, (fun hh => by cases hh), fun _ => ⟨e2, (fun hh => by cases hh)⟩⟩⟩⟩⟩, zRf_tr f0 (zRf_tr c2 (zRf_tr d4 (zRf_tr e4 x2))), zR_bad x1 hb st, fun hh => absurd (st.symm.trans hh) hb⟩
      · have h12 : ¬ (w_D_sum N) 194 12 = -1 := by rw [c3.2.1]; exact q
        rw [decide_eq_false h12]
        simp only [zk_f]
        have gX : zpG1 n (zpSum t n s).1 (bif zpSg t n 60 (zpSum t n s).1 then zpNx t n (zpSum t n s).1 else zpNeed t n 62 (zpSum t n s).1) 1 := by
          cases hc : zpSg t n 60 (zpSum t n s).1 with
          | true => rw [zk_t]; exact zpG_nx hc
          | false => rw [zk_f]; exact zpG_nd hn gS.1
        have gY := zpG_sum (t := t) hn _ gX.1
        have e2 := gX.2.1 q
        have st : (zpSum t n (bif zpSg t n 60 (zpSum t n s).1 then zpNx t n (zpSum t n s).1 else zpNeed t n 62 (zpSum t n s).1)).1.2 = (zpSum t n s).1.2 := by rw [gY.2.1 (by rw [e2]; exact q), e2]
        exact ⟨⟨a2, (fun hh => by cases hh), fun _ => ⟨b2, (fun hh => by cases hh), fun _ => ⟨c1, (fun hh => by cases hh)⟩⟩⟩, zRf_tr f0 c2, zR_bad c3 q st, fun hh => absurd (st.symm.trans hh) q⟩
theorem zR_evl {t : Nat → Int32} {n d : Nat} {F : Nat → Int32} {va : zMem → Bool} {wa : zMem → zMem} {ka : zMem → Prop} {P : Nat × Int32 → (Nat × Int32) × List Int32} (hP : zRR t n d F va wa ka P) (hG : zpGR n P) (M0 : zMem) : ∀ f i m (a : Bool × zMem) (r : (Nat × Int32) × List Int32), i + f = 400 → f < m → zR a.2 t n r.1 d → r.1.1 ≤ n → (r.1.2 = -1 → (∀ st, zpRun F r.2 st = zb a.1 :: st) ∧ i ≤ r.1.1) → zFa a.2 F → zf_wk m (g_D_every_1 va wa M0) (kb_D_every_1 ka va wa M0) i a ∧ zRf a.2 (zf_wh m (g_D_every_1 va wa M0) i a).2 ∧ zR (zf_wh m (g_D_every_1 va wa M0) i a).2 t n (zpAllL t n 28 14 P f r).1 d ∧ ((zpAllL t n 28 14 P f r).1.2 = -1 → ∀ st, zpRun F (zpAllL t n 28 14 P f r).2 st = zb (zf_wh m (g_D_every_1 va wa M0) i a).1 :: st) := by
  intro f
  induction f with
  | zero =>
    intro i m a r hi hm h hle hv hF
    obtain ⟨m, rfl⟩ : ∃ k, m = k + 1 := ⟨m - 1, by omega⟩
    have hn := h.1.1
    by_cases c : r.1.2 = -1
    · obtain ⟨b1, b2, b3, b4, b5⟩ := zR_wd h c 28 62 (zpW_34 28 (by omega) (by omega)) (zpW_len 28 (by omega)).2
      have hno : zpHas t n 28 r.1 = false := by
        cases hh : zpHas t n 28 r.1 with
        | false => rfl
        | true =>
          exfalso
          have g1 := (zpG_hs hh hle)
          have g2 := (zpW_len 28 (by omega)).1
          have g3 := (g1.2.2 c).2
          have g4 := g1.1
          have := (hv c).2
          omega
      have h12 : a.2 194 12 = -1 := by rw [h.2.1]; exact c
      have eg : g_D_every_1 va wa M0 i a = (false, (a.1, w_D_has a.2 62)) := by
        unfold g_D_every_1
        rw [h12, b1, hno, decide_eq_true (show (-1 : Int32) = -1 from rfl)]
        simp only [zk_t, zk_f]
      rw [zf_w0 eg]
      refine ⟨zf_k0 eg ?_, b5, (b4 hno).1, fun hh => (hv hh).1⟩
      unfold kb_D_every_1
      rw [b1, hno]
      exact fun _ => ⟨b2, (fun hh => by cases hh)⟩
    · have h12 : ¬ a.2 194 12 = -1 := by rw [h.2.1]; exact c
      have eg : g_D_every_1 va wa M0 i a = (false, a) := by
        unfold g_D_every_1
        rw [decide_eq_false h12]
        simp only [zk_f]
      rw [zf_w0 eg]
      refine ⟨zf_k0 eg ?_, zRf_rf _, h, fun hh => (hv hh).1⟩
      unfold kb_D_every_1
      rw [decide_eq_false h12]
      intro hh; cases hh
  | succ f ih =>
    intro i m a r hi hm h hle hv hF
    obtain ⟨m, rfl⟩ : ∃ k, m = k + 1 := ⟨m - 1, by omega⟩
    have hn := h.1.1
    by_cases c : r.1.2 = -1
    · obtain ⟨b1, b2, b3, b4, b5⟩ := zR_wd h c 28 62 (zpW_34 28 (by omega) (by omega)) (zpW_len 28 (by omega)).2
      have h12 : a.2 194 12 = -1 := by rw [h.2.1]; exact c
      show _ ∧ _ ∧ zR _ t n (bif zpHas t n 28 r.1 then zpAllL t n 28 14 P f ((P (zpAft t n 28 r.1)).1, r.2 ++ (P (zpAft t n 28 r.1)).2 ++ [14]) else r).1 d ∧ ((bif zpHas t n 28 r.1 then zpAllL t n 28 14 P f ((P (zpAft t n 28 r.1)).1, r.2 ++ (P (zpAft t n 28 r.1)).2 ++ [14]) else r).1.2 = -1 → ∀ st, zpRun F (bif zpHas t n 28 r.1 then zpAllL t n 28 14 P f ((P (zpAft t n 28 r.1)).1, r.2 ++ (P (zpAft t n 28 r.1)).2 ++ [14]) else r).2 st = _)
      cases hc : zpHas t n 28 r.1 with
      | false =>
        have eg : g_D_every_1 va wa M0 i a = (false, (a.1, w_D_has a.2 62)) := by
          unfold g_D_every_1
          rw [h12, b1, hc, decide_eq_true (show (-1 : Int32) = -1 from rfl)]
          simp only [zk_t, zk_f]
        rw [zf_w0 eg, zk_f]
        refine ⟨zf_k0 eg ?_, b5, (b4 hc).1, fun hh => (hv hh).1⟩
        unfold kb_D_every_1
        rw [b1, hc]
        exact fun _ => ⟨b2, (fun hh => by cases hh)⟩
      | true =>
        have gN := zpG_wk (zpG_hs hc hle) (zpW_len 28 (by omega)).1
        have gP := hG _ gN.1
        obtain ⟨p1, p2, p3, p4⟩ := hP _ _ (b3 hc) c (zFa_f hF b5)
        have eg : g_D_every_1 va wa M0 i a = (true, ((bif a.1 then (va (w_D_has a.2 62)) else false), wa (w_D_has a.2 62))) := by
          unfold g_D_every_1
          rw [h12, b1, hc, decide_eq_true (show (-1 : Int32) = -1 from rfl)]
          simp only [zk_t]
        have ih2 := ih (i + 1) m ((bif a.1 then (va (w_D_has a.2 62)) else false), wa (w_D_has a.2 62)) ((P (zpAft t n 28 r.1)).1, r.2 ++ (P (zpAft t n 28 r.1)).2 ++ [14]) (by omega) (by omega) p3 gP.1 (fun hh => by
          obtain ⟨u1, u2⟩ := gP.2.2 hh
          obtain ⟨v1, v2⟩ := gN.2.2 u1
          obtain ⟨x1, x2⟩ := hv v1
          refine ⟨fun st => ?_, by show i + 1 ≤ (P (zpAft t n 28 r.1)).1.1; omega⟩
          show zpRun F (r.2 ++ (P (zpAft t n 28 r.1)).2 ++ [14]) st = _
          rw [zpRun_ap, zpRun_ap, x1 st, p4 hh]
          exact zpTk_and F _ _ st) (zFa_f (zFa_f hF b5) p2)
        rw [zf_w1 eg, zk_t]
        refine ⟨zf_k1 eg ?_ ih2.1, zRf_tr (zRf_tr b5 p2) ih2.2.1, ih2.2.2.1, ih2.2.2.2⟩
        unfold kb_D_every_1
        exact fun _ => ⟨b2, fun _ => p1⟩
    · have h12 : ¬ a.2 194 12 = -1 := by rw [h.2.1]; exact c
      have eg : g_D_every_1 va wa M0 i a = (false, a) := by
        unfold g_D_every_1
        rw [decide_eq_false h12]
        simp only [zk_f]
      have st := (zpG_al0 (t := t) (k := 28) (st := 14) hn hG (f + 1) r hle).2.1 c
      rw [zf_w0 eg]
      refine ⟨zf_k0 eg ?_, zRf_rf _, zR_bad h c st, fun hh => absurd (st.symm.trans hh) c⟩
      unfold kb_D_every_1
      rw [decide_eq_false h12]
      intro hh; cases hh
theorem zR_evy {t : Nat → Int32} {n d : Nat} (hn : n ≤ 400) {F : Nat → Int32} {va : zMem → Bool} {wa : zMem → zMem} {ka : zMem → Prop} {P : Nat × Int32 → (Nat × Int32) × List Int32} (hP : zRR t n d F va wa ka P) (hG : zpGR n P) : zRR t n d F (v_D_every va wa) (w_D_every va wa) (ok_D_every ka va wa) (zpAll t n P) := by
  intro M s h hs hF
  obtain ⟨p1, p2, p3, p4⟩ := hP M s h hs hF
  have gP := hG s (zR_le h hs)
  have l := zR_evl (t := t) (n := n) (d := d) (F := F) hP hG M 400 0 1000 (va M, wa M) (P s) (by omega) (by omega) p3 gP.1 (fun hh => ⟨fun st => p4 hh st, by omega⟩) (zFa_f hF p2)
  exact ⟨⟨p1, l.1⟩, zRf_tr p2 l.2.1, l.2.2.1, l.2.2.2⟩
theorem zR_sol {t : Nat → Int32} {n d : Nat} {F : Nat → Int32} {va : zMem → Bool} {wa : zMem → zMem} {ka : zMem → Prop} {P : Nat × Int32 → (Nat × Int32) × List Int32} (hP : zRR t n d F (v_D_every va wa) (w_D_every va wa) (ok_D_every ka va wa) P) (hG : zpGR n P) (M0 : zMem) : ∀ f i m (a : Bool × zMem) (r : (Nat × Int32) × List Int32), i + f = 400 → f < m → zR a.2 t n r.1 d → r.1.1 ≤ n → (r.1.2 = -1 → (∀ st, zpRun F r.2 st = zb a.1 :: st) ∧ i ≤ r.1.1) → zFa a.2 F → zf_wk m (g_D_some_1 va wa M0) (kb_D_some_1 ka va wa M0) i a ∧ zRf a.2 (zf_wh m (g_D_some_1 va wa M0) i a).2 ∧ zR (zf_wh m (g_D_some_1 va wa M0) i a).2 t n (zpAllL t n 29 15 P f r).1 d ∧ ((zpAllL t n 29 15 P f r).1.2 = -1 → ∀ st, zpRun F (zpAllL t n 29 15 P f r).2 st = zb (zf_wh m (g_D_some_1 va wa M0) i a).1 :: st) := by
  intro f
  induction f with
  | zero =>
    intro i m a r hi hm h hle hv hF
    obtain ⟨m, rfl⟩ : ∃ k, m = k + 1 := ⟨m - 1, by omega⟩
    have hn := h.1.1
    by_cases c : r.1.2 = -1
    · obtain ⟨b1, b2, b3, b4, b5⟩ := zR_wd h c 29 63 (zpW_34 29 (by omega) (by omega)) (zpW_len 29 (by omega)).2
      have hno : zpHas t n 29 r.1 = false := by
        cases hh : zpHas t n 29 r.1 with
        | false => rfl
        | true =>
          exfalso
          have g1 := (zpG_hs hh hle)
          have g2 := (zpW_len 29 (by omega)).1
          have g3 := (g1.2.2 c).2
          have g4 := g1.1
          have := (hv c).2
          omega
      have h12 : a.2 194 12 = -1 := by rw [h.2.1]; exact c
      have eg : g_D_some_1 va wa M0 i a = (false, (a.1, w_D_has a.2 63)) := by
        unfold g_D_some_1
        rw [h12, b1, hno, decide_eq_true (show (-1 : Int32) = -1 from rfl)]
        simp only [zk_t, zk_f]
      rw [zf_w0 eg]
      refine ⟨zf_k0 eg ?_, b5, (b4 hno).1, fun hh => (hv hh).1⟩
      unfold kb_D_some_1
      rw [b1, hno]
      exact fun _ => ⟨b2, (fun hh => by cases hh)⟩
    · have h12 : ¬ a.2 194 12 = -1 := by rw [h.2.1]; exact c
      have eg : g_D_some_1 va wa M0 i a = (false, a) := by
        unfold g_D_some_1
        rw [decide_eq_false h12]
        simp only [zk_f]
      rw [zf_w0 eg]
      refine ⟨zf_k0 eg ?_, zRf_rf _, h, fun hh => (hv hh).1⟩
      unfold kb_D_some_1
      rw [decide_eq_false h12]
      intro hh; cases hh
  | succ f ih =>
    intro i m a r hi hm h hle hv hF
    obtain ⟨m, rfl⟩ : ∃ k, m = k + 1 := ⟨m - 1, by omega⟩
    have hn := h.1.1
    by_cases c : r.1.2 = -1
    · obtain ⟨b1, b2, b3, b4, b5⟩ := zR_wd h c 29 63 (zpW_34 29 (by omega) (by omega)) (zpW_len 29 (by omega)).2
      have h12 : a.2 194 12 = -1 := by rw [h.2.1]; exact c
      show _ ∧ _ ∧ zR _ t n (bif zpHas t n 29 r.1 then zpAllL t n 29 15 P f ((P (zpAft t n 29 r.1)).1, r.2 ++ (P (zpAft t n 29 r.1)).2 ++ [15]) else r).1 d ∧ ((bif zpHas t n 29 r.1 then zpAllL t n 29 15 P f ((P (zpAft t n 29 r.1)).1, r.2 ++ (P (zpAft t n 29 r.1)).2 ++ [15]) else r).1.2 = -1 → ∀ st, zpRun F (bif zpHas t n 29 r.1 then zpAllL t n 29 15 P f ((P (zpAft t n 29 r.1)).1, r.2 ++ (P (zpAft t n 29 r.1)).2 ++ [15]) else r).2 st = _)
      cases hc : zpHas t n 29 r.1 with
      | false =>
        have eg : g_D_some_1 va wa M0 i a = (false, (a.1, w_D_has a.2 63)) := by
          unfold g_D_some_1
          rw [h12, b1, hc, decide_eq_true (show (-1 : Int32) = -1 from rfl)]
          simp only [zk_t, zk_f]
        rw [zf_w0 eg, zk_f]
        refine ⟨zf_k0 eg ?_, b5, (b4 hc).1, fun hh => (hv hh).1⟩
        unfold kb_D_some_1
        rw [b1, hc]
        exact fun _ => ⟨b2, (fun hh => by cases hh)⟩
      | true =>
        have gN := zpG_wk (zpG_hs hc hle) (zpW_len 29 (by omega)).1
        have gP := hG _ gN.1
        obtain ⟨p1, p2, p3, p4⟩ := hP _ _ (b3 hc) c (zFa_f hF b5)
        have eg : g_D_some_1 va wa M0 i a = (true, ((bif a.1 then true else (v_D_every va wa (w_D_has a.2 63))), w_D_every va wa (w_D_has a.2 63))) := by
          unfold g_D_some_1
          rw [h12, b1, hc, decide_eq_true (show (-1 : Int32) = -1 from rfl)]
          simp only [zk_t]
        have ih2 := ih (i + 1) m ((bif a.1 then true else (v_D_every va wa (w_D_has a.2 63))), w_D_every va wa (w_D_has a.2 63)) ((P (zpAft t n 29 r.1)).1, r.2 ++ (P (zpAft t n 29 r.1)).2 ++ [15]) (by omega) (by omega) p3 gP.1 (fun hh => by
          obtain ⟨u1, u2⟩ := gP.2.2 hh
          obtain ⟨v1, v2⟩ := gN.2.2 u1
          obtain ⟨x1, x2⟩ := hv v1
          refine ⟨fun st => ?_, by show i + 1 ≤ (P (zpAft t n 29 r.1)).1.1; omega⟩
          show zpRun F (r.2 ++ (P (zpAft t n 29 r.1)).2 ++ [15]) st = _
          rw [zpRun_ap, zpRun_ap, x1 st, p4 hh]
          exact zpTk_or F _ _ st) (zFa_f (zFa_f hF b5) p2)
        rw [zf_w1 eg, zk_t]
        refine ⟨zf_k1 eg ?_ ih2.1, zRf_tr (zRf_tr b5 p2) ih2.2.1, ih2.2.2.1, ih2.2.2.2⟩
        unfold kb_D_some_1
        exact fun _ => ⟨b2, fun _ => p1⟩
    · have h12 : ¬ a.2 194 12 = -1 := by rw [h.2.1]; exact c
      have eg : g_D_some_1 va wa M0 i a = (false, a) := by
        unfold g_D_some_1
        rw [decide_eq_false h12]
        simp only [zk_f]
      have st := (zpG_al0 (t := t) (k := 29) (st := 15) hn hG (f + 1) r hle).2.1 c
      rw [zf_w0 eg]
      refine ⟨zf_k0 eg ?_, zRf_rf _, zR_bad h c st, fun hh => absurd (st.symm.trans hh) c⟩
      unfold kb_D_some_1
      rw [decide_eq_false h12]
      intro hh; cases hh
theorem zR_som {t : Nat → Int32} {n d : Nat} (hn : n ≤ 400) {F : Nat → Int32} {va : zMem → Bool} {wa : zMem → zMem} {ka : zMem → Prop} {P : Nat × Int32 → (Nat × Int32) × List Int32} (hP : zRR t n d F va wa ka P) (hG : zpGR n P) : zRR t n d F (v_D_some va wa) (w_D_some va wa) (ok_D_some ka va wa) (zpAny t n P) := by
  intro M s h hs hF
  have hA := zR_evy hn hP hG
  have gA := zpG_all (t := t) hn hG
  obtain ⟨p1, p2, p3, p4⟩ := hA M s h hs hF
  have gP := gA s (zR_le h hs)
  have l := zR_sol (t := t) (n := n) (d := d) (F := F) hA gA M 400 0 1000 (v_D_every va wa M, w_D_every va wa M) (zpAll t n P s) (by omega) (by omega) p3 gP.1 (fun hh => ⟨fun st => p4 hh st, by omega⟩) (zFa_f hF p2)
  exact ⟨⟨p1, l.1⟩, zRf_tr p2 l.2.1, l.2.2.1, l.2.2.2⟩
theorem zR_dn {M : zMem} {t : Nat → Int32} {n d : Nat} {s : Nat × Int32} (h : zR M t n s d) (hs : s.2 = -1) (hd : d < 6) : zR (zz_up M 194 13 (M 194 13 + (1 : Int32))) t n s (d + 1) ∧ zRf M (zz_up M 194 13 (M 194 13 + (1 : Int32))) := by
  obtain ⟨h1, h2, h3, q, h4, h5, h6⟩ := h
  have f : zRf M (zz_up M 194 13 (M 194 13 + (1 : Int32))) := zRf_u (Or.inr (Or.inr rfl))
  refine ⟨⟨zRt_f h1 f, by rw [zu_o (by omega)]; exact h2, ⟨by rw [zu_eq, h3.1]; exact zi_ad d 1, by omega⟩, q, by rw [zu_o (by omega)]; exact h4, by have := (h6 hs).1; omega, h6⟩, f⟩
theorem zR_up {M : zMem} {t : Nat → Int32} {n d : Nat} {s : Nat × Int32} (h : zR M t n s (d + 1)) : zR (zz_up M 194 13 (M 194 13 - (1 : Int32))) t n s d ∧ zRf M (zz_up M 194 13 (M 194 13 - (1 : Int32))) := by
  obtain ⟨h1, h2, h3, q, h4, h5, h6⟩ := h
  have f : zRf M (zz_up M 194 13 (M 194 13 - (1 : Int32))) := zRf_u (Or.inr (Or.inr rfl))
  refine ⟨⟨zRt_f h1 f, by rw [zu_o (by omega)]; exact h2, ⟨by rw [zu_eq, h3.1]; exact zN_sub (b := 1) (by omega), by omega⟩, q, by rw [zu_o (by omega)]; exact h4, by omega, h6⟩, f⟩
