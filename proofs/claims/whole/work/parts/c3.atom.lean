/-! the reference's atoms and lines -/
theorem zR_upb {X : zMem} {t : Nat → Int32} {n d : Nat} {s : Nat × Int32} (h : zR X t n s (d + 1)) (hb : ¬ s.2 = -1) : zR (zz_up (zz_up X 194 11 (X 194 11 + (1 : Int32))) 194 13 ((zz_up X 194 11 (X 194 11 + (1 : Int32))) 194 13 - (1 : Int32))) t n s d ∧ zRf X (zz_up (zz_up X 194 11 (X 194 11 + (1 : Int32))) 194 13 ((zz_up X 194 11 (X 194 11 + (1 : Int32))) 194 13 - (1 : Int32))) := by
  obtain ⟨h1, h2, h3, q, h4, h5, h6⟩ := h
  have f : zRf X (zz_up (zz_up X 194 11 (X 194 11 + (1 : Int32))) 194 13 ((zz_up X 194 11 (X 194 11 + (1 : Int32))) 194 13 - (1 : Int32))) := zRf_tr (zRf_u (Or.inl rfl)) (zRf_u (Or.inr (Or.inr rfl)))
  refine ⟨⟨zRt_f h1 f, by rw [zu_o (by omega), zu_o (by omega)]; exact h2, ⟨by rw [zu_eq, zu_o (by omega), h3.1]; exact zN_sub (b := 1) (by omega), by omega⟩, q + 1, by rw [zu_o (by omega), zu_eq, h4]; exact zi_ad q 1, by have := h3.2; omega, fun hh => absurd hh hb⟩, f⟩
theorem zR_atm {t : Nat → Int32} {n : Nat} (hn : n ≤ 400) {F : Nat → Int32} : ∀ r, r ≤ 6 → zRR t n (6 - r) F (fun N => (zA (r + 1) N).1) (fun N => (zA (r + 1) N).2) (zAk (r + 1)) (zpAtom t n r)
  | 0, _ => by
    intro M s h hs hF
    have hle := zR_le h hs
    have h12 : M 194 12 = -1 := by rw [h.2.1]; exact hs
    obtain ⟨a1, a2, a3, -⟩ := zR_sk h
    obtain ⟨p1, p2, p3⟩ := zR_at h hs
    have hh0 : v_D_here M = Int32.ofNat s.1 := p1
    obtain ⟨b1, b2, b3, b4, b5⟩ := zR_wd (M := w_D_here M) a1 hs 17 51 (zpW_34 17 (by omega) (by omega)) (zpW_len 17 (by omega)).2
    have f5 : zRf M (w_D_has (w_D_here M) 51) := zRf_tr a3 b5
    have hb := zpFl_ne (s := s) hn hle
    have ebad : (zpFail n s).2 = Int32.ofNat s.1 := by
      unfold zpFail
      rw [decide_eq_true hs]; rfl
    show ok_D_atomF (zAk 0) (fun N => (zA 0 N).1) (fun N => (zA 0 N).2) M ∧ zRf M (w_D_atomF (fun N => (zA 0 N).1) (fun N => (zA 0 N).2) M) ∧ zR (w_D_atomF (fun N => (zA 0 N).1) (fun N => (zA 0 N).2) M) t n (zpPlain t n s).1 6 ∧ ((zpPlain t n s).1.2 = -1 → ∀ st, zpRun F (zpPlain t n s).2 st = zb (v_D_atomF (fun N => (zA 0 N).1) (fun N => (zA 0 N).2) M) :: st)
    unfold ok_D_atomF v_D_atomF w_D_atomF
    rw [h12, decide_eq_true (show (-1 : Int32) = -1 from rfl), b1]
    simp only [zk_t]
    cases h7 : zpHas t n 17 s with
    | true =>
      have z := b3 h7
      have e6 : decide ((w_D_has (w_D_here M) 51) 194 13 = (6 : Int32)) = true := by rw [z.2.2.1.1]; rfl
      rw [e6, hh0]
      simp only [zk_t]
      obtain ⟨w1, w2⟩ := zR_wr2 z hs s.1 (by omega) n
      have st := zpPl_bad hn hs hle (Or.inl h7)
      have hb2 : ¬ ((n, Int32.ofNat s.1) : Nat × Int32).2 = -1 := by show ¬ Int32.ofNat s.1 = -1; rw [← ebad]; exact hb
      exact ⟨fun _ => ⟨a2, b2, (fun _ hh => by cases hh), (fun hh => by cases hh)⟩, zRf_tr f5 w2, zR_bad w1 hb2 (by rw [st, ebad]), fun hh => absurd (st.symm.trans hh) hb⟩
    | false =>
      simp only [zk_f]
      obtain ⟨z, -⟩ := b4 h7
      obtain ⟨c1, c2, c3, c4, c5, -⟩ := zR_sg z hs (40 : Int32)
      rw [c1]
      cases hc : zpSg t n 40 s with
      | true =>
        have e6 : decide ((w_D_isSign (w_D_has (w_D_here M) 51) (40 : Int32)) 194 13 = (6 : Int32)) = true := by rw [c3.2.2.1.1]; rfl
        rw [e6, hh0]
        simp only [zk_t]
        obtain ⟨w1, w2⟩ := zR_wr2 c3 hs s.1 (by omega) n
        have st := zpPl_bad hn hs hle (Or.inr hc)
        have hb2 : ¬ ((n, Int32.ofNat s.1) : Nat × Int32).2 = -1 := by show ¬ Int32.ofNat s.1 = -1; rw [← ebad]; exact hb
        exact ⟨fun _ => ⟨a2, b2, (fun hh => by cases hh), fun _ => ⟨c2, (fun _ hh => by cases hh), (fun hh => by cases hh)⟩⟩, zRf_tr f5 (zRf_tr c4 w2), zR_bad w1 hb2 (by rw [st, ebad]), fun hh => absurd (st.symm.trans hh) hb⟩
      | false =>
        simp only [zk_f]
        have f6 := zRf_tr f5 c4
        obtain ⟨d1, d2, d3, d4⟩ := zR_pl _ _ c3 hs (zFa_f hF f6)
        exact ⟨fun _ => ⟨a2, b2, (fun hh => by cases hh), fun _ => ⟨c2, (fun hh => by cases hh), fun _ => d1⟩⟩, zRf_tr f6 d2, d3, d4⟩
  | r + 1, hr => by
    have ih := zR_atm (t := t) hn (F := F) r (by omega)
    have gA := zpG_atom (t := t) hn r
    intro M s h hs hF
    have hle := zR_le h hs
    have h12 : M 194 12 = -1 := by rw [h.2.1]; exact hs
    obtain ⟨a1, a2, a3, -⟩ := zR_sk h
    obtain ⟨p1, p2, p3⟩ := zR_at h hs
    obtain ⟨b1, b2, b3, b4, b5⟩ := zR_wd (M := w_D_here M) a1 hs 17 51 (zpW_34 17 (by omega) (by omega)) (zpW_len 17 (by omega)).2
    have f5 : zRf M (w_D_has (w_D_here M) 51) := zRf_tr a3 b5
    have ed : 6 - (r + 1) + 1 = 6 - r := by omega
    show ok_D_atomF (zAk (r + 1)) (fun N => (zA (r + 1) N).1) (fun N => (zA (r + 1) N).2) M ∧ zRf M (w_D_atomF (fun N => (zA (r + 1) N).1) (fun N => (zA (r + 1) N).2) M) ∧ zR (w_D_atomF (fun N => (zA (r + 1) N).1) (fun N => (zA (r + 1) N).2) M) t n (bif zpHas t n 17 s then ((zpAtom t n r (zpAft t n 17 s)).1, (zpAtom t n r (zpAft t n 17 s)).2 ++ [13]) else bif zpSg t n 40 s then (zpNeed t n 41 (zpAny t n (zpAtom t n r) (zpNx t n s)).1, (zpAny t n (zpAtom t n r) (zpNx t n s)).2) else zpPlain t n s).1 (6 - (r + 1)) ∧ ((bif zpHas t n 17 s then ((zpAtom t n r (zpAft t n 17 s)).1, (zpAtom t n r (zpAft t n 17 s)).2 ++ [13]) else bif zpSg t n 40 s then (zpNeed t n 41 (zpAny t n (zpAtom t n r) (zpNx t n s)).1, (zpAny t n (zpAtom t n r) (zpNx t n s)).2) else zpPlain t n s).1.2 = -1 → ∀ st, zpRun F (bif zpHas t n 17 s then ((zpAtom t n r (zpAft t n 17 s)).1, (zpAtom t n r (zpAft t n 17 s)).2 ++ [13]) else bif zpSg t n 40 s then (zpNeed t n 41 (zpAny t n (zpAtom t n r) (zpNx t n s)).1, (zpAny t n (zpAtom t n r) (zpNx t n s)).2) else zpPlain t n s).2 st = zb (v_D_atomF (fun N => (zA (r + 1) N).1) (fun N => (zA (r + 1) N).2) M) :: st)
    unfold ok_D_atomF v_D_atomF w_D_atomF
    rw [h12, decide_eq_true (show (-1 : Int32) = -1 from rfl), b1]
    simp only [zk_t]
    cases h7 : zpHas t n 17 s with
    | true =>
      have z := b3 h7
      have e6 : decide ((w_D_has (w_D_here M) 51) 194 13 = (6 : Int32)) = false := by
        rw [z.2.2.1.1, show decide (Int32.ofNat (6 - (r + 1)) = (6 : Int32)) = decide (6 - (r + 1) = 6) from zN_eq (b := 6) (by omega) (by omega)]
        exact decide_eq_false (by omega)
      rw [e6]
      simp only [zk_t, zk_f]
      obtain ⟨y1, y2⟩ := zR_dn z hs (by omega)
      rw [ed] at y1
      obtain ⟨i1, i2, i3, i4⟩ := ih _ _ y1 hs (zFa_f hF (zRf_tr f5 y2))
      rw [← ed] at i3
      obtain ⟨u1, u2⟩ := zR_up i3
      refine ⟨fun _ => ⟨a2, b2, fun _ _ => ⟨fun _ => i1, (fun hh => by cases hh)⟩, (fun hh => by cases hh)⟩, zRf_tr f5 (zRf_tr y2 (zRf_tr i2 u2)), u1, fun hh st => ?_⟩
      show zpRun F ((zpAtom t n r (zpAft t n 17 s)).2 ++ [13]) st = _
      rw [zpRun_ap, i4 hh st]
      exact zpTk_not F _ st
    | false =>
      simp only [zk_f]
      obtain ⟨z, -⟩ := b4 h7
      obtain ⟨c1, c2, c3, c4, c5, -⟩ := zR_sg z hs (40 : Int32)
      rw [c1]
      have f6 := zRf_tr f5 c4
      cases hc : zpSg t n 40 s with
      | true =>
        have e6 : decide ((w_D_isSign (w_D_has (w_D_here M) 51) (40 : Int32)) 194 13 = (6 : Int32)) = false := by
          rw [c3.2.2.1.1, show decide (Int32.ofNat (6 - (r + 1)) = (6 : Int32)) = decide (6 - (r + 1) = 6) from zN_eq (b := 6) (by omega) (by omega)]
          exact decide_eq_false (by omega)
        rw [e6]
        simp only [zk_t, zk_f]
        generalize w_D_isSign (w_D_has (w_D_here M) 51) (40 : Int32) = HS at c3 c5 f6 ⊢
        obtain ⟨y1, y2⟩ := zR_dn c3 hs (by omega)
        rw [ed] at y1
        have gN := zpG_nx hc
        have hq : s.1 + 1 ≤ n := by
          unfold zpSg at hc
          rw [Bool.and_eq_true] at hc
          exact of_decide_eq_true hc.1
        have z1 : zR (zz_up (zz_up HS 194 13 (HS 194 13 + (1 : Int32))) 194 11 (HS 194 11 + (1 : Int32))) t n (zpNx t n s) (6 - r) := by
          rw [c5, show Int32.ofNat s.1 + (1 : Int32) = Int32.ofNat (s.1 + 1) from zi_ad s.1 1]
          exact zR_to y1 rfl hq rfl
        have f7 : zRf M (zz_up (zz_up HS 194 13 (HS 194 13 + (1 : Int32))) 194 11 (HS 194 11 + (1 : Int32))) := zRf_tr f6 (zRf_tr y2 (zRf_u (Or.inl rfl)))
        obtain ⟨i1, i2, i3, i4⟩ := zR_som hn ih gA _ _ z1 hs (zFa_f hF f7)
        generalize w_D_some (fun N => (zA (r + 1) N).1) (fun N => (zA (r + 1) N).2) (zz_up (zz_up HS 194 13 (HS 194 13 + (1 : Int32))) 194 11 (HS 194 11 + (1 : Int32))) = HSs at i2 i3 ⊢
        generalize hU : (zpAny t n (zpAtom t n r) (zpNx t n s)) = U at i3 i4 ⊢
        have gU : U.1.1 ≤ n := by rw [← hU]; exact (zpG_any (t := t) hn gA _ gN.1).1
        have f8 := zRf_tr f7 i2
        by_cases q : U.1.2 = -1
        · have h12b : HSs 194 12 = -1 := by rw [i3.2.1]; exact q
          rw [h12b, decide_eq_true (show (-1 : Int32) = -1 from rfl)]
          simp only [zk_t]
          obtain ⟨d1, d2, d3, d4, d5, d6⟩ := zR_sg i3 q (41 : Int32)
          rw [d1]
          unfold zpNeed
          cases hc2 : zpSg t n 41 U.1 with
          | true =>
            simp only [zk_t]
            obtain ⟨x1, x2⟩ := d6 hc2
            rw [← ed] at x1
            obtain ⟨u1, u2⟩ := zR_up x1
            exact ⟨fun _ => ⟨a2, b2, (fun hh => by cases hh), fun _ => ⟨c2, fun _ _ => ⟨(fun hh => by cases hh), fun _ => ⟨i1, fun _ => d2⟩⟩, (fun hh => by cases hh)⟩⟩, zRf_tr f8 (zRf_tr x2 u2), u1, fun hh st => i4 q st⟩
          | false =>
            simp only [zk_f]
            rw [d5]
            obtain ⟨x1, x2⟩ := zR_wr d3 q rfl
            have hb := zpFl_ne (s := U.1) hn gU
            rw [← ed] at x1
            obtain ⟨u1, u2⟩ := zR_upb x1 hb
            exact ⟨fun _ => ⟨a2, b2, (fun hh => by cases hh), fun _ => ⟨c2, fun _ _ => ⟨(fun hh => by cases hh), fun _ => ⟨i1, fun _ => d2⟩⟩, (fun hh => by cases hh)⟩⟩, zRf_tr f8 (zRf_tr d4 (zRf_tr x2 u2)), u1, fun hh => absurd hh hb⟩
        · have h12b : ¬ HSs 194 12 = -1 := by rw [i3.2.1]; exact q
          rw [decide_eq_false h12b]
          simp only [zk_f]
          have st : (zpNeed t n 41 U.1).2 = U.1.2 := (zpG_nd (t := t) (c := 41) hn gU).2.1 q
          rw [← ed] at i3
          obtain ⟨u1, u2⟩ := zR_upb i3 q
          exact ⟨fun _ => ⟨a2, b2, (fun hh => by cases hh), fun _ => ⟨c2, fun _ _ => ⟨(fun hh => by cases hh), fun _ => ⟨i1, (fun hh => by cases hh)⟩⟩, (fun hh => by cases hh)⟩⟩, zRf_tr f8 u2, zR_bad u1 q st, fun hh => absurd (st.symm.trans hh) q⟩
      | false =>
        simp only [zk_f]
        obtain ⟨d1, d2, d3, d4⟩ := zR_pl _ _ c3 hs (zFa_f hF f6)
        exact ⟨fun _ => ⟨a2, b2, (fun hh => by cases hh), fun _ => ⟨c2, (fun hh => by cases hh), fun _ => d1⟩⟩, zRf_tr f6 d2, d3, d4⟩
/-- what the law's lines add -/
def zq17 (F : Nat → Int32) (x : Int32 × Int32 × List Int32) (c : Int32) : Int32 := bif zpHolds F x.2.2 then c + (bif decide (x.1 = 0) then x.2.1 else (bif decide (x.1 = 1) then -x.2.1 else 0)) else c
def zq18 (F : Nat → Int32) (x : Int32 × Int32 × List Int32) (c : Int32) : Int32 := bif zpHolds F x.2.2 then c + (bif decide (x.1 = 2) then x.2.1 else 0) else c
def zRg (M M' : zMem) : Prop := ∀ a i, ¬ (a = 194 ∧ (i = 11 ∨ i = 12 ∨ i = 13 ∨ i = 17 ∨ i = 18)) → M' a i = M a i
theorem zRg_f {M N : zMem} (h : zRf M N) : zRg M N := fun a i hi => h a i (by omega)
theorem zRg_tr {M N P : zMem} (a : zRg M N) (b : zRg N P) : zRg M P := fun x i h => (b x i h).trans (a x i h)
theorem zFa_g {M N : zMem} {F : Nat → Int32} (h : zFa M F) (f : zRg M N) : zFa N F := by
  obtain ⟨a, b, c, d, e⟩ := h
  refine ⟨fun j hj => by rw [f 200 j (by omega)]; exact a j hj, ?_, ?_, ?_, ?_⟩
  · rw [f 194 15 (by omega)]; exact b
  · rw [f 194 16 (by omega)]; exact c
  · rw [f 194 15 (by omega)]; exact d
  · rw [f 194 16 (by omega)]; exact e
theorem zpHo_v (F : Nat → Int32) {c : List Int32} {v : Bool} (h : ∀ st, zpRun F c st = zb v :: st) : zpHolds F c = v := by
  unfold zpHolds
  rw [h []]
  cases v <;> rfl
/-- amount and condition -/
theorem zR_tl {M : zMem} {t : Nat → Int32} {n : Nat} {s : Nat × Int32} {F : Nat → Int32} (h : zR M t n s 0) (hs : s.2 = -1) (hF : zFa M F) : ok_D_figures M (0 : Int32) (100 : Int32) ∧ zRf M (w_D_figures M (0 : Int32) (100 : Int32)) ∧ zR (w_D_figures M (0 : Int32) (100 : Int32)) t n (zpNum t n 100 s).2 0 ∧ ((zpNum t n 100 s).2.2 = -1 → (v_D_figures M (0 : Int32) (100 : Int32) = (zpNum t n 100 s).1 ∧ ok_D_has (w_D_figures M (0 : Int32) (100 : Int32)) 50 ∧ (v_D_has (w_D_figures M (0 : Int32) (100 : Int32)) 50 = true → ok_D_someR (w_D_has (w_D_figures M (0 : Int32) (100 : Int32)) 50)) ∧ zRf M (bif (v_D_has (w_D_figures M (0 : Int32) (100 : Int32)) 50) then (w_D_someR (w_D_has (w_D_figures M (0 : Int32) (100 : Int32)) 50)) else (w_D_has (w_D_figures M (0 : Int32) (100 : Int32)) 50)) ∧ zR (bif (v_D_has (w_D_figures M (0 : Int32) (100 : Int32)) 50) then (w_D_someR (w_D_has (w_D_figures M (0 : Int32) (100 : Int32)) 50)) else (w_D_has (w_D_figures M (0 : Int32) (100 : Int32)) 50)) t n (zpTl t n s).1 0 ∧ ((zpTl t n s).1.2 = -1 → zpHolds F (zpTl t n s).2 = (bif (v_D_has (w_D_figures M (0 : Int32) (100 : Int32)) 50) then (v_D_someR (w_D_has (w_D_figures M (0 : Int32) (100 : Int32)) 50)) else true)))) := by
  have hn := h.1.1
  obtain ⟨a1, a2, a3, a4⟩ := zR_fg h hs (100 : Int32)
  refine ⟨a1, a2, a3, fun q => ?_⟩
  obtain ⟨b1, b2, b3, b4, b5⟩ := zR_wd a3 q 16 50 (zpW_34 16 (by omega) (by omega)) (zpW_len 16 (by omega)).2
  unfold zpTl
  rw [b1]
  cases hc : zpHas t n 16 (zpNum t n 100 s).2 with
  | true =>
    simp only [zk_t]
    obtain ⟨i1, i2, i3, i4⟩ := zR_som hn (zR_atm (t := t) hn (F := F) 6 (Nat.le_refl 6)) (zpG_atom (t := t) hn 6) _ _ (b3 hc) q (zFa_f hF (zRf_tr a2 b5))
    exact ⟨a4 q, b2, fun _ => i1, zRf_tr a2 (zRf_tr b5 i2), i3, fun hh => zpHo_v F (i4 hh)⟩
  | false =>
    simp only [zk_f]
    exact ⟨a4 q, b2, (fun hh => by cases hh), zRf_tr a2 b5, (b4 hc).1, fun _ => rfl⟩
