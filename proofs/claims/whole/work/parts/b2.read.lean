/-! how far readers come; the class's readers of parts and sums -/
def zpG1 (n : Nat) (s s' : Nat × Int32) (k : Nat) : Prop := s'.1 ≤ n ∧ (¬ s.2 = -1 → s'.2 = s.2) ∧ (s'.2 = -1 → s.2 = -1 ∧ s.1 + k ≤ s'.1)
theorem zpFl_ne {n : Nat} {s : Nat × Int32} (hn : n ≤ 400) (hs : s.1 ≤ n) : ¬ (zpFail n s).2 = -1 := by
  unfold zpFail
  by_cases c : s.2 = -1
  · rw [decide_eq_true c]
    intro h
    have h : Int32.ofNat s.1 = -1 := h
    have := congrArg Int32.toInt h
    rw [zi_val (by omega)] at this
    have e9 : (-1 : Int32).toInt = -1 := rfl
    omega
  · rw [decide_eq_false c]
    exact c
theorem zpFl_st {n : Nat} {s : Nat × Int32} (h : ¬ s.2 = -1) : (zpFail n s).2 = s.2 := by
  unfold zpFail
  rw [decide_eq_false h]; rfl
theorem zpG_fl {n : Nat} {s : Nat × Int32} (hn : n ≤ 400) (hs : s.1 ≤ n) (k : Nat) : zpG1 n s (zpFail n s) k := ⟨Nat.le_refl n, fun h => zpFl_st h, fun h => absurd h (zpFl_ne hn hs)⟩
theorem zpG_tr {n : Nat} {s s1 s2 : Nat × Int32} {k m : Nat} (a : zpG1 n s s1 k) (b : zpG1 n s1 s2 m) : zpG1 n s s2 (k + m) := by
  obtain ⟨a1, a2, a3⟩ := a
  obtain ⟨b1, b2, b3⟩ := b
  refine ⟨b1, fun h => ?_, fun h => ?_⟩
  · have e := a2 h
    rw [b2 (by rw [e]; exact h), e]
  · obtain ⟨c1, c2⟩ := b3 h
    obtain ⟨d1, d2⟩ := a3 c1
    exact ⟨d1, by omega⟩
theorem zpG_wk {n : Nat} {s s' : Nat × Int32} {k j : Nat} (a : zpG1 n s s' k) (h : j ≤ k) : zpG1 n s s' j := ⟨a.1, a.2.1, fun hh => ⟨(a.2.2 hh).1, by have := (a.2.2 hh).2; omega⟩⟩
theorem zpG_rf {n : Nat} {s : Nat × Int32} (hs : s.1 ≤ n) : zpG1 n s s 0 := ⟨hs, fun _ => rfl, fun h => ⟨h, by omega⟩⟩
theorem zpG_hs {t : Nat → Int32} {n k : Nat} {s : Nat × Int32} (h : zpHas t n k s = true) (hs : s.1 ≤ n) : zpG1 n s (zpAft t n k s) (zpW k).length := by
  unfold zpHas zpIs at h
  rw [Bool.and_eq_true] at h
  have h1 := of_decide_eq_true h.1
  have h2 := (zpRn_le (t := t) (lo := 97) (hi := 122) hs).1
  have h3 := zpSk_le (t := t) (n := n) (p := s.1 + (zpW k).length) (by omega)
  exact ⟨h3.1, fun _ => rfl, fun hh => ⟨hh, h3.2⟩⟩
theorem zpG_nx {t : Nat → Int32} {n : Nat} {c : Int32} {s : Nat × Int32} (h : zpSg t n c s = true) : zpG1 n s (zpNx t n s) 1 := by
  unfold zpSg at h
  rw [Bool.and_eq_true] at h
  have h1 := of_decide_eq_true h.1
  have h3 := zpSk_le (t := t) (n := n) (p := s.1 + 1) (by omega)
  exact ⟨h3.1, fun _ => rfl, fun hh => ⟨hh, h3.2⟩⟩
theorem zpG_nd {t : Nat → Int32} {n : Nat} {c : Int32} {s : Nat × Int32} (hn : n ≤ 400) (hs : s.1 ≤ n) : zpG1 n s (zpNeed t n c s) 1 := by
  unfold zpNeed
  cases h : zpSg t n c s with
  | true => rw [zk_t]; exact zpG_nx h
  | false => rw [zk_f]; exact zpG_fl hn hs 1
theorem zpG_nm {t : Nat → Int32} {n : Nat} {m : Int32} {s : Nat × Int32} (hn : n ≤ 400) (hs : s.1 ≤ n) : zpG1 n s (zpNum t n m s).2 1 := by
  unfold zpNum
  cases h : zpNumOk t n m s.1 with
  | true =>
    rw [zk_t]
    unfold zpNumOk at h
    rw [Bool.and_eq_true] at h
    have h1 := of_decide_eq_true h.1
    have h2 := zpRn_le (t := t) (lo := 48) (hi := 57) hs
    have h3 := zpSk_le (t := t) (n := n) h2.1
    exact ⟨h3.1, fun _ => rfl, fun hh => ⟨hh, by show s.1 + 1 ≤ zpSk t n (zpRn t n 48 57 s.1); omega⟩⟩
  | false => rw [zk_f]; exact zpG_fl hn hs 1
theorem zpK8_is {t : Nat → Int32} {n : Nat} {s : Nat × Int32} : ∀ k, k < 8 → (∀ j, j < k → zpHas t n (20 + j) s = false) → zpHas t n (20 + k) s = true → zpK8 t n s.1 = k := by
  intro k hk hj h
  unfold zpK8
  have g : ∀ j, j < k → zpIs t n (zpW (20 + j)) s.1 = false := hj
  have h : zpIs t n (zpW (20 + k)) s.1 = true := h
  match k, hk with
  | 0, _ => rw [h, zk_t]
  | 1, _ => rw [g 0 (by omega), zk_f, h, zk_t]
  | 2, _ => rw [g 0 (by omega), zk_f, g 1 (by omega), zk_f, h, zk_t]
  | 3, _ => rw [g 0 (by omega), zk_f, g 1 (by omega), zk_f, g 2 (by omega), zk_f, h, zk_t]
  | 4, _ => rw [g 0 (by omega), zk_f, g 1 (by omega), zk_f, g 2 (by omega), zk_f, g 3 (by omega), zk_f, h, zk_t]
  | 5, _ => rw [g 0 (by omega), zk_f, g 1 (by omega), zk_f, g 2 (by omega), zk_f, g 3 (by omega), zk_f, g 4 (by omega), zk_f, h, zk_t]
  | 6, _ => rw [g 0 (by omega), zk_f, g 1 (by omega), zk_f, g 2 (by omega), zk_f, g 3 (by omega), zk_f, g 4 (by omega), zk_f, g 5 (by omega), zk_f, h, zk_t]
  | 7, _ => rw [g 0 (by omega), zk_f, g 1 (by omega), zk_f, g 2 (by omega), zk_f, g 3 (by omega), zk_f, g 4 (by omega), zk_f, g 5 (by omega), zk_f, g 6 (by omega), zk_f, h, zk_t]
  | k + 8, hk => exact absurd hk (by omega)
theorem zpK8_no {t : Nat → Int32} {n : Nat} {s : Nat × Int32} (hj : ∀ j, j < 8 → zpHas t n (20 + j) s = false) : zpK8 t n s.1 = 8 := by
  have g : ∀ j, j < 8 → zpIs t n (zpW (20 + j)) s.1 = false := hj
  unfold zpK8
  rw [g 0 (by omega), zk_f, g 1 (by omega), zk_f, g 2 (by omega), zk_f, g 3 (by omega), zk_f, g 4 (by omega), zk_f, g 5 (by omega), zk_f, g 6 (by omega), zk_f, g 7 (by omega), zk_f]
theorem zpK8_cs (t : Nat → Int32) (n : Nat) (s : Nat × Int32) : (∃ k, k < 8 ∧ (∀ j, j < k → zpHas t n (20 + j) s = false) ∧ zpHas t n (20 + k) s = true ∧ zpK8 t n s.1 = k) ∨ ((∀ j, j < 8 → zpHas t n (20 + j) s = false) ∧ zpK8 t n s.1 = 8) := by
  have key : ∀ m, m ≤ 8 → (∃ k, k < m ∧ (∀ j, j < k → zpHas t n (20 + j) s = false) ∧ zpHas t n (20 + k) s = true) ∨ (∀ j, j < m → zpHas t n (20 + j) s = false) := by
    intro m
    induction m with
    | zero => exact fun _ => Or.inr (fun j hj => by omega)
    | succ m ih =>
      intro hm
      rcases ih (by omega) with ⟨k, a, b, c⟩ | h
      · exact Or.inl ⟨k, by omega, b, c⟩
      · cases hc : zpHas t n (20 + m) s with
        | true => exact Or.inl ⟨m, by omega, h, hc⟩
        | false =>
          refine Or.inr (fun j hj => ?_)
          by_cases e : j = m
          · rw [e]; exact hc
          · exact h j (by omega)
  rcases key 8 (Nat.le_refl 8) with ⟨k, a, b, c⟩ | h
  · exact Or.inl ⟨k, a, b, c, zpK8_is k a b c⟩
  · exact Or.inr ⟨h, zpK8_no h⟩
theorem zpW_len : ∀ k, k < 30 → 1 ≤ (zpW k).length ∧ (zpW k).length ≤ 100 := by decide +kernel
theorem zpG_pt {t : Nat → Int32} {n : Nat} {s : Nat × Int32} (hn : n ≤ 400) (hs : s.1 ≤ n) : zpG1 n s (zpPart t n s).2 1 := by
  unfold zpPart
  by_cases c : s.1 < zpRn t n 48 57 s.1
  · rw [decide_eq_true c, zk_t]; exact zpG_nm hn hs
  · rw [decide_eq_false c, zk_f]
    rcases zpK8_cs t n s with ⟨k, a, -, b, e⟩ | ⟨-, e⟩
    · rw [e, decide_eq_true a, zk_t]
      exact zpG_wk (zpG_hs b hs) (zpW_len (20 + k) (by omega)).1
    · rw [e, decide_eq_false (by omega), zk_f]; exact zpG_fl hn hs 1
def zpGR (n : Nat) (F : Nat × Int32 → (Nat × Int32) × List Int32) : Prop := ∀ s, s.1 ≤ n → zpG1 n s (F s).1 (F s).2.length
theorem zpG_sl {t : Nat → Int32} {n : Nat} (hn : n ≤ 400) {s : Nat × Int32} : ∀ f (r : (Nat × Int32) × List Int32), zpG1 n s r.1 r.2.length → zpG1 n s (zpSumL t n f r).1 (zpSumL t n f r).2.length
  | 0, r, h => h
  | f + 1, r, h => by
    show zpG1 n s (bif zpSg t n 43 r.1 then zpSumL t n f ((zpPart t n (zpNx t n r.1)).2, r.2 ++ [(zpPart t n (zpNx t n r.1)).1, 10]) else r).1 (bif zpSg t n 43 r.1 then zpSumL t n f ((zpPart t n (zpNx t n r.1)).2, r.2 ++ [(zpPart t n (zpNx t n r.1)).1, 10]) else r).2.length
    cases hc : zpSg t n 43 r.1 with
    | false => rw [zk_f]; exact h
    | true =>
      rw [zk_t]
      refine zpG_sl hn f _ ?_
      have a := zpG_nx hc
      have b := zpG_pt (t := t) hn a.1
      have e : (r.2 ++ [(zpPart t n (zpNx t n r.1)).1, 10]).length = r.2.length + (1 + 1) := by rw [List.length_append]; rfl
      show zpG1 n s (zpPart t n (zpNx t n r.1)).2 _
      rw [e]
      exact zpG_tr h (zpG_tr a b)
theorem zpG_sum {t : Nat → Int32} {n : Nat} (hn : n ≤ 400) : zpGR n (zpSum t n) := fun s hs => zpG_sl hn 400 _ (zpG_pt hn hs)
theorem zpG_pl {t : Nat → Int32} {n : Nat} (hn : n ≤ 400) : zpGR n (zpPlain t n) := by
  intro s hs
  unfold zpPlain
  cases h8 : zpHas t n 18 s with
  | true => rw [zk_t]; exact zpG_wk (zpG_hs h8 hs) (zpW_len 18 (by omega)).1
  | false =>
    rw [zk_f]
    cases h9 : zpHas t n 19 s with
    | true => rw [zk_t]; exact zpG_wk (zpG_hs h9 hs) (zpW_len 19 (by omega)).1
    | false =>
      rw [zk_f]
      have a := zpG_sum (t := t) hn s hs
      have key : ∀ x : Nat × Int32, zpG1 n (zpSum t n s).1 x 1 → ∀ y : Int32, zpG1 n s (zpSum t n x).1 ((zpSum t n s).2 ++ (zpSum t n x).2 ++ [y]).length := by
        intro x hx y
        have b := zpG_sum (t := t) hn x hx.1
        rw [List.length_append, List.length_append, show [y].length = 1 from rfl]
        exact zpG_wk (zpG_tr (zpG_tr a hx) b) (by omega)
      refine key _ ?_ _
      cases hc : zpSg t n 60 (zpSum t n s).1 with
      | true => rw [zk_t]; exact zpG_nx hc
      | false => rw [zk_f]; exact zpG_nd hn a.1
theorem zpG_al {t : Nat → Int32} {n k : Nat} {st : Int32} (hn : n ≤ 400) (hk : k < 30) {F : Nat × Int32 → (Nat × Int32) × List Int32} (hF : zpGR n F) {s : Nat × Int32} : ∀ f (r : (Nat × Int32) × List Int32), zpG1 n s r.1 r.2.length → zpG1 n s (zpAllL t n k st F f r).1 (zpAllL t n k st F f r).2.length
  | 0, r, h => h
  | f + 1, r, h => by
    show zpG1 n s (bif zpHas t n k r.1 then zpAllL t n k st F f ((F (zpAft t n k r.1)).1, r.2 ++ (F (zpAft t n k r.1)).2 ++ [st]) else r).1 (bif zpHas t n k r.1 then zpAllL t n k st F f ((F (zpAft t n k r.1)).1, r.2 ++ (F (zpAft t n k r.1)).2 ++ [st]) else r).2.length
    cases hc : zpHas t n k r.1 with
    | false => rw [zk_f]; exact h
    | true =>
      rw [zk_t]
      refine zpG_al hn hk hF f _ ?_
      have a := zpG_wk (zpG_hs hc h.1) (zpW_len k hk).1
      have b := hF _ a.1
      show zpG1 n s (F (zpAft t n k r.1)).1 (r.2 ++ (F (zpAft t n k r.1)).2 ++ [st]).length
      rw [List.length_append, List.length_append, show [st].length = 1 from rfl]
      exact zpG_wk (zpG_tr h (zpG_tr a b)) (by omega)
theorem zpG_all {t : Nat → Int32} {n : Nat} (hn : n ≤ 400) {F : Nat × Int32 → (Nat × Int32) × List Int32} (hF : zpGR n F) : zpGR n (zpAll t n F) := fun s hs => zpG_al hn (by omega) hF 400 _ (hF s hs)
theorem zpG_any {t : Nat → Int32} {n : Nat} (hn : n ≤ 400) {F : Nat × Int32 → (Nat × Int32) × List Int32} (hF : zpGR n F) : zpGR n (zpAny t n F) := fun s hs => zpG_al hn (by omega) (zpG_all hn hF) 400 _ (zpG_all hn hF s hs)
theorem zpG_atom {t : Nat → Int32} {n : Nat} (hn : n ≤ 400) : ∀ r, zpGR n (zpAtom t n r)
  | 0 => zpG_pl hn
  | r + 1 => by
    intro s hs
    have ih := zpG_atom (t := t) hn r
    show zpG1 n s (bif zpHas t n 17 s then ((zpAtom t n r (zpAft t n 17 s)).1, (zpAtom t n r (zpAft t n 17 s)).2 ++ [13]) else bif zpSg t n 40 s then (zpNeed t n 41 (zpAny t n (zpAtom t n r) (zpNx t n s)).1, (zpAny t n (zpAtom t n r) (zpNx t n s)).2) else zpPlain t n s).1 (bif zpHas t n 17 s then ((zpAtom t n r (zpAft t n 17 s)).1, (zpAtom t n r (zpAft t n 17 s)).2 ++ [13]) else bif zpSg t n 40 s then (zpNeed t n 41 (zpAny t n (zpAtom t n r) (zpNx t n s)).1, (zpAny t n (zpAtom t n r) (zpNx t n s)).2) else zpPlain t n s).2.length
    cases h7 : zpHas t n 17 s with
    | true =>
      rw [zk_t]
      have a := zpG_wk (zpG_hs h7 hs) (zpW_len 17 (by omega)).1
      have b := ih _ a.1
      show zpG1 n s (zpAtom t n r (zpAft t n 17 s)).1 ((zpAtom t n r (zpAft t n 17 s)).2 ++ [13]).length
      rw [List.length_append, show [(13 : Int32)].length = 1 from rfl]
      exact zpG_wk (zpG_tr a b) (by omega)
    | false =>
      rw [zk_f]
      cases hc : zpSg t n 40 s with
      | true =>
        rw [zk_t]
        have a := zpG_nx hc
        have b := zpG_any (t := t) hn ih _ a.1
        have d := zpG_nd (t := t) (c := 41) hn b.1
        show zpG1 n s (zpNeed t n 41 (zpAny t n (zpAtom t n r) (zpNx t n s)).1) (zpAny t n (zpAtom t n r) (zpNx t n s)).2.length
        exact zpG_wk (zpG_tr (zpG_tr a b) d) (by omega)
      | false => rw [zk_f]; exact zpG_pl hn s hs
/-- the class's reader at s, with the steps c so far -/
def zJ (M : zMem) (t : Nat → Int32) (n : Nat) (s : Nat × Int32) (c : List Int32) : Prop := zT M t n s ∧ zrg 0 400 (M 44 1) ∧ (s.2 = -1 → c.length ≤ s.1 ∧ M 44 1 = Int32.ofNat c.length ∧ ∀ j, j < c.length → M 48 j = c.getD j 0)
def zJf (M M' : zMem) : Prop := ∀ a i, ¬ (a = 2 ∧ (i = 3 ∨ i = 4)) → ¬ (a = 44 ∧ i = 1) → a ≠ 48 → M' a i = M a i
theorem zJf_rf (M : zMem) : zJf M M := fun _ _ _ _ _ => rfl
theorem zJf_tr {M N P : zMem} (a : zJf M N) (b : zJf N P) : zJf M P := fun x i h1 h2 h3 => (b x i h1 h2 h3).trans (a x i h1 h2 h3)
theorem zJf_T {M N : zMem} (h : ∀ a i, ¬ (a = 2 ∧ (i = 3 ∨ i = 4)) → N a i = M a i) : zJf M N := fun a i h1 _ _ => h a i h1
theorem zJ_mv {M N : zMem} {t : Nat → Int32} {n : Nat} {s s' : Nat × Int32} {c : List Int32} (h : zJ M t n s c) (hT : zT N t n s') (hf : ∀ a i, ¬ (a = 2 ∧ (i = 3 ∨ i = 4)) → N a i = M a i) (hg : zpG1 n s s' 0) : zJ N t n s' c := by
  obtain ⟨-, h2, h3⟩ := h
  refine ⟨hT, by rw [hf 44 1 (by omega)]; exact h2, fun hh => ?_⟩
  obtain ⟨g1, g2⟩ := hg.2.2 hh
  obtain ⟨a, b, d⟩ := h3 g1
  exact ⟨by omega, by rw [hf 44 1 (by omega)]; exact b, fun j hj => by rw [hf 48 j (by omega)]; exact d j hj⟩
theorem zgd1 {c d : List Int32} {j : Nat} (h : j < c.length) : (c ++ d).getD j 0 = c.getD j 0 := by
  rw [List.getD_eq_getElem?_getD, List.getElem?_append_left h, ← List.getD_eq_getElem?_getD]
theorem zgd2 {c d : List Int32} {x : Int32} : (c ++ x :: d).getD c.length 0 = x := by
  rw [List.getD_eq_getElem?_getD, List.getElem?_append_right (Nat.le_refl _), Nat.sub_self]; rfl
theorem zJ_st {M : zMem} {t : Nat → Int32} {n : Nat} {s : Nat × Int32} {c : List Int32} (h : zJ M t n s c) (x : Int32) (hc : s.2 = -1 → c.length + 1 ≤ s.1) : zJ (w_L_addStep M x) t n s (c ++ [x]) ∧ ok_L_addStep M x ∧ zJf M (w_L_addStep M x) := by
  obtain ⟨hT, h2, h3⟩ := h
  obtain ⟨z, z1, z2, z3⟩ := zr_ex h2
  have hT0 := hT
  obtain ⟨t1, t2, t3, t4, t5, t6⟩ := hT
  unfold w_L_addStep ok_L_addStep
  rw [z3, z2, show decide ((400 : Int32) ≤ Int32.ofNat z) = decide (400 ≤ z) from zi_le (a := 400) (by omega) (by omega)]
  by_cases q : 400 ≤ z
  · rw [decide_eq_true q, zk_t]
    refine ⟨⟨hT0, h2, fun hh => ?_⟩, (fun hh => by cases hh), zJf_rf M⟩
    exfalso
    obtain ⟨a, b, -⟩ := h3 hh
    have e : z = c.length := (zN_inj (by omega) (by omega)).mp (z2.symm.trans b)
    have := hc hh
    omega
  · rw [decide_eq_false q, zk_f]
    refine ⟨⟨⟨by rw [zu_o (by omega), zu_o (by omega)]; exact t1, t2, fun i hi => by rw [zu_o (by omega), zu_o (by omega)]; exact t3 i hi, by rw [zu_o (by omega), zu_o (by omega)]; exact t4, t5, by rw [zu_o (by omega), zu_o (by omega)]; exact t6⟩, ?_, fun hh => ?_⟩, fun _ => zi_in (by omega) (by omega), fun a i h1 h2 h3 => by rw [zu_o (by omega), zu_o (by omega)]⟩
    · rw [zu_eq, show Int32.ofNat z + (1 : Int32) = Int32.ofNat (z + 1) from zi_ad z 1]
      exact ⟨by rw [zi_val (by omega)]; omega, by rw [zi_val (by omega)]; omega⟩
    · obtain ⟨a, b, d⟩ := h3 hh
      have e : z = c.length := (zN_inj (by omega) (by omega)).mp (z2.symm.trans b)
      have hc1 := hc hh
      have el : (c ++ [x]).length = c.length + 1 := by rw [List.length_append]; rfl
      rw [el]
      refine ⟨hc1, by rw [zu_eq, e]; exact zi_ad c.length 1, fun j hj => ?_⟩
      rw [zu_o (by omega)]
      by_cases ej : j = c.length
      · rw [zu_at rfl (by omega), ej, zgd2]
      · rw [zu_o (by omega), zgd1 (by omega)]
        exact d j (by omega)
theorem zJ_wd {M : zMem} {t : Nat → Int32} {n k : Nat} {s : Nat × Int32} {c : List Int32} (h : zJ M t n s c) (hk : k < 30) : v_T_takeWord M k = zpHas t n k s ∧ ok_T_takeWord M k ∧ (zpHas t n k s = true → zJ (w_T_takeWord M k) t n (zpAft t n k s) c ∧ zJf M (w_T_takeWord M k)) ∧ (zpHas t n k s = false → w_T_takeWord M k = M) := by
  obtain ⟨a, b, d, e⟩ := zT_wd h.1 k (zpW_len k hk).2
  refine ⟨a, d, fun hh => ?_, fun hh => by rw [b, hh, zk_f]⟩
  rw [hh, zk_t] at b e
  have hf : ∀ a i, ¬ (a = 2 ∧ (i = 3 ∨ i = 4)) → w_T_takeWord M k a i = M a i := fun a i hi => by rw [b, zu_o (by omega)]
  exact ⟨zJ_mv h e hf (zpG_wk (zpG_hs hh h.1.2.2.2.2.1) (by omega)), zJf_T hf⟩
theorem zJ_sg {M : zMem} {t : Nat → Int32} {n : Nat} {s : Nat × Int32} {c : List Int32} (h : zJ M t n s c) (x : Int32) : v_T_takeSign M x = zpSg t n x s ∧ ok_T_takeSign M x ∧ (zpSg t n x s = true → zJ (w_T_takeSign M x) t n (zpNx t n s) c ∧ zJf M (w_T_takeSign M x)) ∧ (zpSg t n x s = false → w_T_takeSign M x = M) := by
  obtain ⟨a, b, d, e⟩ := zT_sg h.1 x
  refine ⟨a, d, fun hh => ?_, fun hh => by rw [b, hh, zk_f]⟩
  rw [hh, zk_t] at b e
  have hf : ∀ a i, ¬ (a = 2 ∧ (i = 3 ∨ i = 4)) → w_T_takeSign M x a i = M a i := fun a i hi => by rw [b, zu_o (by omega)]
  exact ⟨zJ_mv h e hf (zpG_wk (zpG_nx hh) (by omega)), zJf_T hf⟩
theorem zJ_ns {M : zMem} {t : Nat → Int32} {n : Nat} {s : Nat × Int32} {c : List Int32} (h : zJ M t n s c) (x : Int32) : zJ (w_T_needSign M x) t n (zpNeed t n x s) c ∧ ok_T_needSign M x ∧ zJf M (w_T_needSign M x) := by
  obtain ⟨a, b, d⟩ := zT_ns h.1 x
  exact ⟨zJ_mv h a d (zpG_wk (zpG_nd h.1.2.1 h.1.2.2.2.2.1) (by omega)), b, zJf_T d⟩
/-- a part -/
theorem zJ_pt {M : zMem} {t : Nat → Int32} {n : Nat} {s : Nat × Int32} {c : List Int32} (h : zJ M t n s c) : v_J_readPart M = (zpPart t n s).1 ∧ zJ (w_J_readPart M) t n (zpPart t n s).2 c ∧ ok_J_readPart M ∧ zJf M (w_J_readPart M) := by
  have hT := h.1
  have hn := hT.2.1
  have hp := hT.2.2.2.2.1
  obtain ⟨r1, r2⟩ := zT_rn hT (48 : Int32) (57 : Int32)
  obtain ⟨l1, l2⟩ := zpRn_le (t := t) (lo := 48) (hi := 57) hp
  have hat : v_T_atNumber M = decide (s.1 < zpRn t n 48 57 s.1) := by
    unfold v_T_atNumber
    rw [r1, hT.2.2.2.1, zi_le (by omega) (by omega)]
    by_cases q : zpRn t n 48 57 s.1 ≤ s.1
    · rw [decide_eq_true q, decide_eq_false (by omega), zk_t]
    · rw [decide_eq_false q, decide_eq_true (by omega), zk_f]
  have hG := zpG_pt (t := t) hn hp
  unfold v_J_readPart w_J_readPart ok_J_readPart zpPart
  unfold zpPart at hG
  rw [hat]
  by_cases q : s.1 < zpRn t n 48 57 s.1
  · rw [decide_eq_true q, zk_t, zk_t, zk_t]
    rw [decide_eq_true q, zk_t] at hG
    obtain ⟨a, b, d, e⟩ := zT_nm hT (999 : Int32)
    exact ⟨by rw [a], zJ_mv h b e (zpG_wk hG (by omega)), ⟨r2, fun _ => d, (fun hh => by cases hh)⟩, zJf_T e⟩
  · rw [decide_eq_false q, zk_f, zk_f, zk_f]
    rw [decide_eq_false q, zk_f] at hG
    have wn : ∀ i, i < 8 → v_J_partWord (Int32.ofNat i) = 20 + i := by decide +kernel
    have loop := zf_wq (g := g_J_readPart_1 M) (k := kb_J_readPart_1 M) (fun i (a : Bool × Int32 × zMem) => i ≤ 8 ∧ a.2.2 = M ∧ (∀ j, j < i → zpHas t n (20 + j) s = false)) (fun a => (a.1 = true ∧ ∃ k, k < 8 ∧ (∀ j, j < k → zpHas t n (20 + j) s = false) ∧ zpHas t n (20 + k) s = true ∧ a.2.1 = Int32.ofNat k ∧ a.2.2 = w_T_takeWord M (20 + k)) ∨ (a.1 = false ∧ (∀ j, j < 8 → zpHas t n (20 + j) s = false) ∧ a.2.2 = M)) 8 (fun i a ⟨hi, ha, hj⟩ => by
      unfold g_J_readPart_1 kb_J_readPart_1
      rw [ha, show decide ((8 : Int32) ≤ Int32.ofNat i) = decide (8 ≤ i) from zi_le (a := 8) (by omega) (by omega)]
      by_cases q8 : 8 ≤ i
      · rw [decide_eq_true q8]
        simp only [zk_t]
        exact ⟨hi, (fun hh => by cases hh), (fun hh => by cases hh), fun _ => Or.inr ⟨trivial, fun j hjl => hj j (by omega), trivial⟩⟩
      · rw [decide_eq_false q8, wn i (by omega)]
        obtain ⟨w1, w2, w3, w4⟩ := zJ_wd h (k := 20 + i) (by omega)
        rw [w1]
        simp only [zk_f]
        cases hc : zpHas t n (20 + i) s with
        | true =>
          simp only [zk_t]
          exact ⟨hi, fun _ => w2, (fun hh => by cases hh), fun _ => Or.inl ⟨trivial, i, by omega, hj, hc, rfl, rfl⟩⟩
        | false =>
          simp only [zk_f]
          refine ⟨hi, fun _ => w2, fun _ => ⟨by omega, w4 hc, fun j hjl => ?_⟩, (fun hh => by cases hh)⟩
          by_cases e : j = i
          · rw [e]; exact hc
          · exact hj j (by omega)) 1000 0 ((false, 0, M) : Bool × Int32 × zMem) ⟨by omega, rfl, fun j hj => by omega⟩ (by omega)
    obtain ⟨hQ, hK⟩ := loop
    rcases hQ with ⟨b1, k, k1, k2, k3, k4, k5⟩ | ⟨b1, k2, k5⟩
    · have e8 := zpK8_is k k1 k2 k3
      rw [b1, k4, k5, e8, decide_eq_true k1, zk_t, zk_t, zk_t]
      obtain ⟨w1, w2, w3, w4⟩ := zJ_wd h (k := 20 + k) (by omega)
      exact ⟨rfl, (w3 k3).1, ⟨r2, (fun hh => by cases hh), fun _ => hK⟩, (w3 k3).2⟩
    · have e8 := zpK8_no k2
      rw [e8, decide_eq_false (show ¬ 8 < 8 by omega), zk_f] at hG
      rw [b1, k5, e8, decide_eq_false (show ¬ 8 < 8 by omega), zk_f, zk_f, zk_f]
      obtain ⟨f1, f2⟩ := zT_fl hT
      have hf : ∀ a i, ¬ (a = 2 ∧ (i = 3 ∨ i = 4)) → w_T_fail M a i = M a i := fun a i hi => by rw [f1, zu_o (by omega), zu_o (by omega)]
      exact ⟨rfl, zJ_mv h f2 hf (zpG_wk hG (by omega)), ⟨r2, (fun hh => by cases hh), fun _ => hK⟩, zJf_T hf⟩
