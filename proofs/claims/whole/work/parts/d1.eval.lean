/-! THE CLASS'S STACK: steps of a condition fit into 24 places. -/
def zpPu (c : Int32) : Prop := (0 ≤ c.toInt ∧ c.toInt < 10) ∨ 16 ≤ c.toInt
def zpBi (c : Int32) : Prop := c = 10 ∨ c = 11 ∨ c = 12 ∨ c = 14 ∨ c = 15
def zpFit : Nat → List Int32 → Nat → Prop
  | h, [], h' => h = h'
  | h, c :: l, h' => (zpPu c ∧ h < 24 ∧ zpFit (h + 1) l h') ∨ (c = 13 ∧ 1 ≤ h ∧ zpFit h l h') ∨ (zpBi c ∧ 2 ≤ h ∧ zpFit (h - 1) l h')
theorem zpFit_ap : ∀ (a b : List Int32) (h h1 h2 : Nat), zpFit h a h1 → zpFit h1 b h2 → zpFit h (a ++ b) h2
  | [], b, h, h1, h2, x, y => by
    have x : h = h1 := x
    rw [x]; exact y
  | c :: a, b, h, h1, h2, x, y => by
    rcases x with ⟨x1, x2, x3⟩ | ⟨x1, x2, x3⟩ | ⟨x1, x2, x3⟩
    · exact Or.inl ⟨x1, x2, zpFit_ap a b _ _ _ x3 y⟩
    · exact Or.inr (Or.inl ⟨x1, x2, zpFit_ap a b _ _ _ x3 y⟩)
    · exact Or.inr (Or.inr ⟨x1, x2, zpFit_ap a b _ _ _ x3 y⟩)
theorem zpFit_b {c : Int32} (hc : zpBi c) (h : Nat) : zpFit (h + 2) [c] (h + 1) := Or.inr (Or.inr ⟨hc, by omega, rfl⟩)
theorem zpFit_pt {t : Nat → Int32} {n : Nat} {s : Nat × Int32} (hn : n ≤ 400) (hs : s.1 ≤ n) (hg : (zpPart t n s).2.2 = -1) : zpPu (zpPart t n s).1 := by
  unfold zpPart at hg ⊢
  by_cases c : s.1 < zpRn t n 48 57 s.1
  · rw [decide_eq_true c, zk_t]
    obtain ⟨a, b⟩ := zpNum_r (t := t) (m := 999) hs
    refine Or.inr ?_
    show 16 ≤ ((16 : Int32) + (zpNum t n 999 s).1).toInt
    rw [Int32.toInt_add, show (16 : Int32).toInt = 16 from rfl, Int.bmod_eq_of_le (by omega) (by omega)]
    omega
  · rw [decide_eq_false c, zk_f] at hg ⊢
    rcases zpK8_cs t n s with ⟨k, a, -, b, e⟩ | ⟨-, e⟩
    · rw [e, decide_eq_true a, zk_t]
      refine Or.inl ?_
      show 0 ≤ (Int32.ofNat k).toInt ∧ (Int32.ofNat k).toInt < 10
      rw [zi_val (by omega)]
      omega
    · rw [e, decide_eq_false (by omega), zk_f] at hg
      exact absurd hg (zpFl_ne hn hs)
theorem zpFit_1 {c : Int32} (hc : zpPu c) {h : Nat} (hh : h < 24) : zpFit h [c] (h + 1) := Or.inl ⟨hc, hh, rfl⟩
theorem zpFit_sl {t : Nat → Int32} {n : Nat} (hn : n ≤ 400) : ∀ f (r : (Nat × Int32) × List Int32), r.1.1 ≤ n → (r.1.2 = -1 → ∀ h, h + 2 ≤ 24 → zpFit h r.2 (h + 1)) → ((zpSumL t n f r).1.2 = -1 → ∀ h, h + 2 ≤ 24 → zpFit h (zpSumL t n f r).2 (h + 1))
  | 0, r, hr, h => h
  | f + 1, r, hr, h => by
    show (bif zpSg t n 43 r.1 then zpSumL t n f ((zpPart t n (zpNx t n r.1)).2, r.2 ++ [(zpPart t n (zpNx t n r.1)).1, 10]) else r).1.2 = -1 → ∀ h, h + 2 ≤ 24 → zpFit h (bif zpSg t n 43 r.1 then zpSumL t n f ((zpPart t n (zpNx t n r.1)).2, r.2 ++ [(zpPart t n (zpNx t n r.1)).1, 10]) else r).2 (h + 1)
    cases hc : zpSg t n 43 r.1 with
    | false => rw [zk_f]; exact h
    | true =>
      rw [zk_t]
      have a := zpG_nx hc
      have b := zpG_pt (t := t) hn a.1
      refine zpFit_sl hn f _ b.1 (fun hg h' hh => ?_)
      obtain ⟨u1, u2⟩ := b.2.2 hg
      obtain ⟨v1, v2⟩ := a.2.2 u1
      show zpFit h' (r.2 ++ ([(zpPart t n (zpNx t n r.1)).1] ++ [10])) (h' + 1)
      exact zpFit_ap _ _ _ _ _ (h v1 h' hh) (zpFit_ap _ _ _ _ _ (zpFit_1 (zpFit_pt hn a.1 hg) (by omega)) (zpFit_b (Or.inl rfl) h'))
def zpFR (n k : Nat) (P : Nat × Int32 → (Nat × Int32) × List Int32) : Prop := ∀ s, s.1 ≤ n → (P s).1.2 = -1 → ∀ h, h + k ≤ 24 → zpFit h (P s).2 (h + 1)
theorem zpFR_sum {t : Nat → Int32} {n : Nat} (hn : n ≤ 400) : zpFR n 2 (zpSum t n) := fun s hs hg => zpFit_sl hn 400 _ (zpG_pt hn hs).1 (fun hp h hh => zpFit_1 (zpFit_pt hn hs hp) (by omega)) hg
theorem zpFR_pl {t : Nat → Int32} {n : Nat} (hn : n ≤ 400) : zpFR n 3 (zpPlain t n) := by
  intro s hs hg h hh
  have e8 : zpPu (8 : Int32) := Or.inl ⟨by decide, by decide⟩
  have e9 : zpPu (9 : Int32) := Or.inl ⟨by decide, by decide⟩
  unfold zpPlain at hg ⊢
  cases h8 : zpHas t n 18 s with
  | true => rw [zk_t]; exact zpFit_1 e8 (by omega)
  | false =>
    rw [h8, zk_f] at hg
    rw [zk_f]
    cases h9 : zpHas t n 19 s with
    | true => rw [zk_t]; exact zpFit_1 e9 (by omega)
    | false =>
      rw [h9, zk_f] at hg
      rw [zk_f]
      have a := zpG_sum (t := t) hn s hs
      have key : ∀ x : Nat × Int32, zpG1 n (zpSum t n s).1 x 1 → (zpSum t n x).1.2 = -1 → ∀ y : Int32, zpBi y → zpFit h ((zpSum t n s).2 ++ (zpSum t n x).2 ++ [y]) (h + 1) := by
        intro x hx hgx y hy
        have b := zpG_sum (t := t) hn x hx.1
        obtain ⟨u1, u2⟩ := b.2.2 hgx
        obtain ⟨v1, v2⟩ := hx.2.2 u1
        exact zpFit_ap _ _ _ _ _ (zpFit_ap _ _ _ _ _ (zpFR_sum hn s hs v1 h (by omega)) (zpFR_sum hn x hx.1 hgx (h + 1) (by omega))) (zpFit_b hy h)
      refine key _ ?_ hg _ ?_
      · cases hc : zpSg t n 60 (zpSum t n s).1 with
        | true => rw [zk_t]; exact zpG_nx hc
        | false => rw [zk_f]; exact zpG_nd hn a.1
      · cases zpSg t n 60 (zpSum t n s).1
        · exact Or.inr (Or.inr (Or.inl rfl))
        · exact Or.inr (Or.inl rfl)
theorem zpFit_al {t : Nat → Int32} {n k w : Nat} {st : Int32} (hst : zpBi st) (hn : n ≤ 400) {P : Nat × Int32 → (Nat × Int32) × List Int32} (hP : zpFR n k P) (hG : zpGR n P) : ∀ f (r : (Nat × Int32) × List Int32), r.1.1 ≤ n → (r.1.2 = -1 → ∀ h, h + (k + 1) ≤ 24 → zpFit h r.2 (h + 1)) → ((zpAllL t n w st P f r).1.2 = -1 → ∀ h, h + (k + 1) ≤ 24 → zpFit h (zpAllL t n w st P f r).2 (h + 1))
  | 0, r, hr, h => h
  | f + 1, r, hr, h => by
    show (bif zpHas t n w r.1 then zpAllL t n w st P f ((P (zpAft t n w r.1)).1, r.2 ++ (P (zpAft t n w r.1)).2 ++ [st]) else r).1.2 = -1 → ∀ h, h + (k + 1) ≤ 24 → zpFit h (bif zpHas t n w r.1 then zpAllL t n w st P f ((P (zpAft t n w r.1)).1, r.2 ++ (P (zpAft t n w r.1)).2 ++ [st]) else r).2 (h + 1)
    cases hc : zpHas t n w r.1 with
    | false => rw [zk_f]; exact h
    | true =>
      rw [zk_t]
      have a := zpG_hs hc hr
      have b := hG _ a.1
      refine zpFit_al hst hn hP hG f _ b.1 (fun hg h' hh => ?_)
      obtain ⟨u1, u2⟩ := b.2.2 hg
      obtain ⟨v1, v2⟩ := a.2.2 u1
      exact zpFit_ap _ _ _ _ _ (zpFit_ap _ _ _ _ _ (h v1 h' hh) (hP _ a.1 hg (h' + 1) (by omega))) (zpFit_b hst h')
theorem zpFR_all {t : Nat → Int32} {n k : Nat} (hn : n ≤ 400) {P : Nat × Int32 → (Nat × Int32) × List Int32} (hP : zpFR n k P) (hG : zpGR n P) : zpFR n (k + 1) (zpAll t n P) := fun s hs hg => zpFit_al (Or.inr (Or.inr (Or.inr (Or.inl rfl)))) hn hP hG 400 _ (hG s hs).1 (fun hp h hh => hP s hs hp h (by omega)) hg
theorem zpFR_any {t : Nat → Int32} {n k : Nat} (hn : n ≤ 400) {P : Nat × Int32 → (Nat × Int32) × List Int32} (hP : zpFR n k P) (hG : zpGR n P) : zpFR n (k + 2) (zpAny t n P) := fun s hs hg => zpFit_al (Or.inr (Or.inr (Or.inr (Or.inr rfl)))) hn (zpFR_all hn hP hG) (zpG_all hn hG) 400 _ (zpG_all (t := t) hn hG s hs).1 (fun hp h hh => zpFR_all hn hP hG s hs hp h (by omega)) hg
theorem zpFR_atom {t : Nat → Int32} {n : Nat} (hn : n ≤ 400) : ∀ r, zpFR n (3 + 2 * r) (zpAtom t n r)
  | 0 => zpFR_pl hn
  | r + 1 => by
    intro s hs
    have ih := zpFR_atom (t := t) hn r
    have gA := zpG_atom (t := t) hn r
    show (bif zpHas t n 17 s then ((zpAtom t n r (zpAft t n 17 s)).1, (zpAtom t n r (zpAft t n 17 s)).2 ++ [13]) else bif zpSg t n 40 s then (zpNeed t n 41 (zpAny t n (zpAtom t n r) (zpNx t n s)).1, (zpAny t n (zpAtom t n r) (zpNx t n s)).2) else zpPlain t n s).1.2 = -1 → ∀ h, h + (3 + 2 * (r + 1)) ≤ 24 → zpFit h (bif zpHas t n 17 s then ((zpAtom t n r (zpAft t n 17 s)).1, (zpAtom t n r (zpAft t n 17 s)).2 ++ [13]) else bif zpSg t n 40 s then (zpNeed t n 41 (zpAny t n (zpAtom t n r) (zpNx t n s)).1, (zpAny t n (zpAtom t n r) (zpNx t n s)).2) else zpPlain t n s).2 (h + 1)
    cases h7 : zpHas t n 17 s with
    | true =>
      rw [zk_t]
      intro hg h hh
      exact zpFit_ap _ _ _ _ _ (ih _ (zpG_hs h7 hs).1 hg h (by omega)) (Or.inr (Or.inl ⟨rfl, by omega, rfl⟩))
    | false =>
      rw [zk_f]
      cases hc : zpSg t n 40 s with
      | true =>
        rw [zk_t]
        intro hg h hh
        have a := zpG_nx hc
        have b := zpG_any (t := t) hn gA _ a.1
        have d := zpG_nd (t := t) (c := 41) hn b.1
        exact zpFR_any hn ih gA _ a.1 (d.2.2 hg).1 h (by omega)
      | false =>
        rw [zk_f]
        intro hg h hh
        exact zpFR_pl hn s hs hg h (by omega)
/-- the code of each line -/
def zpFl (L : List (Int32 × Int32 × List Int32)) : Prop := ∀ i, i < L.length → ((L.getD i (0, 0, [])).2.2 = [] ∨ zpFit 0 (L.getD i (0, 0, [])).2.2 1)
theorem zpFl_ln {t : Nat → Int32} {n : Nat} {s : Nat × Int32} (hn : n ≤ 400) (hs : s.1 ≤ n) (hg : (zpLine t n s).1.2 = -1) : (zpLine t n s).2.2.2 = [] ∨ zpFit 0 (zpLine t n s).2.2.2 1 := by
  rw [zpLine_eq] at hg ⊢
  have a := zpG_vb (t := t) hn hs
  have gN := zpG_nm (t := t) (m := 100) hn a.1
  show (zpTl t n (zpVerb t n s).2).2 = [] ∨ zpFit 0 (zpTl t n (zpVerb t n s).2).2 1
  have hg : (zpTl t n (zpVerb t n s).2).1.2 = -1 := hg
  unfold zpTl at hg ⊢
  cases hc : zpHas t n 16 (zpNum t n 100 (zpVerb t n s).2).2 with
  | false => rw [zk_f]; exact Or.inl rfl
  | true =>
    rw [hc, zk_t] at hg
    rw [zk_t]
    exact Or.inr (zpFR_any hn (zpFR_atom (t := t) hn 6) (zpG_atom (t := t) hn 6) _ (zpG_hs hc gN.1).1 hg 0 (by omega))
theorem zpFl_ap {L : List (Int32 × Int32 × List Int32)} {x : Int32 × Int32 × List Int32} (h : zpFl L) (hx : x.2.2 = [] ∨ zpFit 0 x.2.2 1) : zpFl (L ++ [x]) := by
  intro i hi
  rw [List.length_append] at hi
  have hi : i < L.length + 1 := hi
  by_cases e : i = L.length
  · subst e; rw [zgx2.1]; exact hx
  · rw [(zgx1 (show i < L.length by omega)).1]; exact h i (by omega)
theorem zpFl_ll {t : Nat → Int32} {n : Nat} (hn : n ≤ 400) : ∀ f i (r : (Nat × Int32) × List (Int32 × Int32 × List Int32)), r.1.1 ≤ n → (r.1.2 = -1 → zpFl r.2) → ((zpLinesL t n f i r).1.2 = -1 → zpFl (zpLinesL t n f i r).2)
  | 0, i, r, h, hl => hl
  | f + 1, i, r, h, hl => by
    show (bif zpCome t n i r.1 then (bif decide (i < 12) then zpLinesL t n f (i + 1) ((zpLine t n (zpStep t n i r.1)).1, r.2 ++ [(zpLine t n (zpStep t n i r.1)).2]) else (zpFail n (zpStep t n i r.1), r.2)) else (bif decide (r.1.1 < n) then (zpFail n r.1, r.2) else r)).1.2 = -1 → zpFl (bif zpCome t n i r.1 then (bif decide (i < 12) then zpLinesL t n f (i + 1) ((zpLine t n (zpStep t n i r.1)).1, r.2 ++ [(zpLine t n (zpStep t n i r.1)).2]) else (zpFail n (zpStep t n i r.1), r.2)) else (bif decide (r.1.1 < n) then (zpFail n r.1, r.2) else r)).2
    cases hc : zpCome t n i r.1 with
    | true =>
      rw [zk_t]
      have g : zpG1 n r.1 (zpStep t n i r.1) 0 := by
        unfold zpCome at hc
        unfold zpStep
        cases q : Nat.beq i 0 with
        | true => rw [zk_t]; exact zpG_rf h
        | false =>
          rw [q, zk_f] at hc
          rw [zk_f]
          exact zpG_wk (zpG_nx hc) (by omega)
      cases decide (i < 12)
      · rw [zk_f]; exact fun hh => absurd hh (zpFl_ne hn g.1)
      · rw [zk_t]
        have a := zpG_ln (t := t) hn g.1
        exact zpFl_ll hn f (i + 1) _ a.1 (fun hg => zpFl_ap (hl (g.2.2 (a.2.2 hg).1).1) (zpFl_ln hn g.1 hg))
    | false =>
      rw [zk_f]
      cases decide (r.1.1 < n)
      · rw [zk_f]; exact hl
      · rw [zk_t]; exact fun hh => absurd hh (zpFl_ne hn h)
theorem zpFl_law {t : Nat → Int32} {n : Nat} (hn : n ≤ 400) (hg : (zpLaw t n).1.2 = -1) : zpFl (zpLaw t n).2 := zpFl_ll hn 13 0 ((zpSk t n 0, -1), []) (zpSk_le (by omega)).1 (fun _ i hi => by cases hi) hg
/-- the stack in memory -/
def zSt (N : zMem) (S : List Int32) : Prop := ∀ k, k < S.length → N 43 k = S.getD (S.length - 1 - k) 0
theorem zL_tk {N : zMem} {F : Nat → Int32} {c : Int32} {S : List Int32} {h' : Nat} (hF : ∀ j, j < 10 → N 42 j = F j) (hS : zSt N S) (hl : S.length ≤ 24) (hc : (zpPu c ∧ S.length < 24 ∧ h' = S.length + 1) ∨ (c = 13 ∧ 1 ≤ S.length ∧ h' = S.length) ∨ (zpBi c ∧ 2 ≤ S.length ∧ h' = S.length - 1)) : v_L_take N c (Int32.ofNat S.length) = Int32.ofNat (zpTake F c S).length ∧ zSt (w_L_take N c (Int32.ofNat S.length)) (zpTake F c S) ∧ ok_L_take N c (Int32.ofNat S.length) ∧ (∀ a i, a ≠ 43 → w_L_take N c (Int32.ofNat S.length) a i = N a i) ∧ (zpTake F c S).length = h' := by
  have push : ∀ x : Int32, zSt (zz_up N 43 S.length x) (x :: S) := by
    intro x k hk
    have hk : k < S.length + 1 := hk
    show _ = (x :: S).getD (S.length + 1 - 1 - k) 0
    by_cases e : k = S.length
    · subst e
      rw [zu_eq, show S.length + 1 - 1 - S.length = 0 by omega]; rfl
    · rw [zu_o (by omega), show S.length + 1 - 1 - k = (S.length - 1 - k) + 1 by omega]
      exact hS k (by omega)
  rcases hc with ⟨h1, h2, h3⟩ | ⟨h1, h2, h3⟩ | ⟨h1, h2, h3⟩
  · have q24 : decide ((24 : Int32) ≤ Int32.ofNat S.length) = false := by
      rw [show decide ((24 : Int32) ≤ Int32.ofNat S.length) = decide (24 ≤ S.length) from zi_le (a := 24) (by omega) (by omega)]; exact decide_eq_false (by omega)
    have q0 : decide ((0 : Int32) ≤ c) = true := by
      rw [zi_lei, show (0 : Int32).toInt = 0 from rfl]
      rcases h1 with h1 | h1
      · exact decide_eq_true (by omega)
      · exact decide_eq_true (by omega)
    unfold v_L_take w_L_take ok_L_take zpTake
    rw [q24, q0, zi_nat (by omega), show Int32.ofNat S.length + (1 : Int32) = Int32.ofNat (S.length + 1) from zi_ad S.length 1, zi_lei 16 c, zi_lei 10 c, zi_lti c 16, show (16 : Int32).toInt = 16 from rfl, show (10 : Int32).toInt = 10 from rfl]
    rcases h1 with h1 | h1
    · obtain ⟨k, k1, k2, k3⟩ := zr_ex (x := c) (hi := 9) ⟨h1.1, by omega⟩
      rw [decide_eq_false (show ¬ 16 ≤ c.toInt by omega), decide_eq_false (show ¬ 10 ≤ c.toInt by omega), decide_eq_true (show c.toInt < 16 by omega)]
      simp only [zk_f, zk_t]
      rw [k3, hF k (by omega)]
      exact ⟨rfl, push _, ⟨(fun hh => by cases hh), fun _ => ⟨(fun hh => by cases hh), fun _ _ _ => ⟨fun _ => by rw [k2]; exact zi_in (by omega) (by omega), zi_in h2 (by omega)⟩⟩⟩, fun a i ha => zu_o (by omega), h3.symm⟩
    · rw [decide_eq_true (show (16 : Int) ≤ c.toInt by omega), decide_eq_false (show ¬ c.toInt < 16 by omega)]
      simp only [zk_f, zk_t]
      exact ⟨rfl, push _, ⟨fun _ _ _ => ⟨(fun hh => by cases hh), zi_in h2 (by omega)⟩, (fun hh => by cases hh)⟩, fun a i ha => zu_o (by omega), h3.symm⟩
  · subst h1
    obtain ⟨x, S', rfl⟩ : ∃ x S', S = x :: S' := by
      cases S with
      | nil => exact absurd h2 (by decide)
      | cons x S' => exact ⟨x, S', rfl⟩
    have e1 : Int32.ofNat (x :: S').length - (1 : Int32) = Int32.ofNat S'.length := zN_sub (a := S'.length + 1) (b := 1) (by omega)
    have hl' : S'.length + 1 ≤ 24 := hl
    have q1 : decide (Int32.ofNat (x :: S').length < (1 : Int32)) = false := by
      rw [show decide (Int32.ofNat (x :: S').length < (1 : Int32)) = decide (S'.length + 1 < 1) from zi_lt' (a := S'.length + 1) (b := 1) (by omega) (by omega)]; exact decide_eq_false (by omega)
    have ex : N 43 S'.length = x := by
      have := hS S'.length (by show S'.length < S'.length + 1; omega)
      rw [show (x :: S').length - 1 - S'.length = 0 by show S'.length + 1 - 1 - S'.length = 0; omega] at this
      exact this
    unfold v_L_take w_L_take ok_L_take zpTake
    rw [show decide ((16 : Int32) ≤ (13 : Int32)) = false from rfl, show decide ((10 : Int32) ≤ (13 : Int32)) = true from rfl, show decide ((13 : Int32) = (13 : Int32)) = true from rfl, q1, e1, zi_nat (i := S'.length) (by omega), ex]
    simp only [zk_f, zk_t]
    refine ⟨rfl, fun k hk => ?_, ⟨(fun hh => by cases hh), fun _ => ⟨fun _ => ⟨fun _ _ => zi_in (by omega) (by omega), (fun hh => by cases hh)⟩, (fun hh => by cases hh)⟩⟩, fun a i ha => zu_o (by omega), h3.symm⟩
    have hk : k < S'.length + 1 := hk
    show _ = ((1 - x) :: S').getD (S'.length + 1 - 1 - k) 0
    by_cases e : k = S'.length
    · subst e
      rw [zu_eq, show S'.length + 1 - 1 - S'.length = 0 by omega]; rfl
    · rw [zu_o (by omega), hS k (by show k < S'.length + 1; omega)]
      show (x :: S').getD (S'.length + 1 - 1 - k) 0 = _
      rw [show S'.length + 1 - 1 - k = (S'.length - 1 - k) + 1 by omega]; rfl
  · obtain ⟨b, a, S', rfl⟩ : ∃ b a S', S = b :: a :: S' := by
      cases S with
      | nil => exact absurd h2 (by decide)
      | cons b S1 =>
        cases S1 with
        | nil => exact absurd h2 (by show ¬ 2 ≤ 1; omega)
        | cons a S' => exact ⟨b, a, S', rfl⟩
    have hl' : S'.length + 2 ≤ 24 := hl
    have e1 : Int32.ofNat (b :: a :: S').length - (1 : Int32) = Int32.ofNat (S'.length + 1) := zN_sub (a := S'.length + 2) (b := 1) (by omega)
    have e2 : Int32.ofNat (b :: a :: S').length - (2 : Int32) = Int32.ofNat S'.length := zN_sub (a := S'.length + 2) (b := 2) (by omega)
    have q2 : decide ((2 : Int32) ≤ Int32.ofNat (b :: a :: S').length) = true := by
      rw [show decide ((2 : Int32) ≤ Int32.ofNat (b :: a :: S').length) = decide (2 ≤ S'.length + 2) from zi_le (a := 2) (b := S'.length + 2) (by omega) (by omega)]; exact decide_eq_true (by omega)
    have eb : N 43 (S'.length + 1) = b := by
      have := hS (S'.length + 1) (by show S'.length + 1 < S'.length + 1 + 1; omega)
      rw [show (b :: a :: S').length - 1 - (S'.length + 1) = 0 by show S'.length + 1 + 1 - 1 - (S'.length + 1) = 0; omega] at this
      exact this
    have ea : N 43 S'.length = a := by
      have := hS S'.length (by show S'.length < S'.length + 1 + 1; omega)
      rw [show (b :: a :: S').length - 1 - S'.length = 1 by show S'.length + 1 + 1 - 1 - S'.length = 1; omega] at this
      exact this
    have qs : decide ((16 : Int32) ≤ c) = false ∧ decide ((10 : Int32) ≤ c) = true ∧ decide (c = (13 : Int32)) = false := by
      rcases h1 with e | e | e | e | e <;> (subst e; exact ⟨rfl, rfl, rfl⟩)
    unfold v_L_take w_L_take ok_L_take
    rw [zpTk_2 F c a b S' qs.1 qs.2.1 qs.2.2, qs.1, qs.2.1, qs.2.2, q2, e1, e2, zi_nat (i := S'.length + 1) (by omega), zi_nat (i := S'.length) (by omega), eb, ea]
    simp only [zk_f, zk_t]
    refine ⟨rfl, fun k hk => ?_, ⟨(fun hh => by cases hh), fun _ => ⟨fun _ => ⟨(fun hh => by cases hh), fun _ _ => ⟨zi_in (by omega) (by omega), zi_in (by omega) (by omega)⟩⟩, (fun hh => by cases hh)⟩⟩, fun a i ha => zu_o (by omega), h3.symm⟩
    have hk : k < S'.length + 1 := hk
    show _ = (v_L_joined c a b :: S').getD (S'.length + 1 - 1 - k) 0
    by_cases e : k = S'.length
    · subst e
      rw [zu_eq, show S'.length + 1 - 1 - S'.length = 0 by omega]; rfl
    · rw [zu_o (by omega), hS k (by show k < S'.length + 1 + 1; omega)]
      show (b :: a :: S').getD (S'.length + 1 + 1 - 1 - k) 0 = _
      rw [show S'.length + 1 + 1 - 1 - k = (S'.length - 1 - k) + 1 + 1 by omega, show S'.length + 1 - 1 - k = (S'.length - 1 - k) + 1 by omega]; rfl
/-- steps of a condition, run by the class -/
theorem zL_run {F : Nat → Int32} {x0 x1 : Int32} (M0 : zMem) : ∀ (c : List Int32) (i m p : Nat) (S : List Int32) (a : Int32 × Int32 × zMem) (h' : Nat), c.length < m → p + c.length ≤ 400 → x1 = Int32.ofNat (p + c.length) → a.1 = Int32.ofNat S.length → a.2.1 = Int32.ofNat p → (∀ j, j < 10 → a.2.2 42 j = F j) → zSt a.2.2 S → S.length ≤ 24 → (∀ k, k < c.length → a.2.2 41 (p + k) = c.getD k 0) → zpFit S.length c h' → ((zf_wh m (g_L_applies_1 M0 x0 x1) i a).1 = Int32.ofNat (zpRun F c S).length ∧ (zpRun F c S).length = h' ∧ zSt (zf_wh m (g_L_applies_1 M0 x0 x1) i a).2.2 (zpRun F c S)) ∧ zf_wk m (g_L_applies_1 M0 x0 x1) (kb_L_applies_1 M0 x0 x1) i a ∧ (∀ b j, b ≠ 43 → (zf_wh m (g_L_applies_1 M0 x0 x1) i a).2.2 b j = a.2.2 b j)
  | c, i, 0, p, S, a, h', hm, _, _, _, _, _, _, _, _, _ => by omega
  | [], i, m + 1, p, S, a, h', hm, hp, hx, h1, h2, hF, hS, hl, hc, hf => by
    have hx : x1 = Int32.ofNat p := hx
    have hp : p ≤ 400 := hp
    have eg : g_L_applies_1 M0 x0 x1 i a = (false, a) := by
      unfold g_L_applies_1
      rw [h2, hx, zi_le (by omega) (by omega), decide_eq_true (Nat.le_refl p)]
      simp only [zk_t]
      rw [← h2]
    have ek : kb_L_applies_1 M0 x0 x1 i a := by
      unfold kb_L_applies_1
      rw [h2, hx, zi_le (by omega) (by omega), decide_eq_true (Nat.le_refl p)]
      intro hh; cases hh
    rw [zf_w0 eg]
    exact ⟨⟨h1, hf, hS⟩, zf_k0 eg ek, fun _ _ _ => rfl⟩
  | x :: c, i, m + 1, p, S, a, h', hm, hp, hx, h1, h2, hF, hS, hl, hc, hf => by
    have el : (x :: c).length = c.length + 1 := rfl
    rw [el] at hm hp hx
    have ex : a.2.2 41 p = x := hc 0 (by omega)
    have step : ∃ h1, ((zpPu x ∧ S.length < 24 ∧ h1 = S.length + 1) ∨ (x = 13 ∧ 1 ≤ S.length ∧ h1 = S.length) ∨ (zpBi x ∧ 2 ≤ S.length ∧ h1 = S.length - 1)) ∧ zpFit h1 c h' := by
      rcases hf with ⟨q1, q2, q3⟩ | ⟨q1, q2, q3⟩ | ⟨q1, q2, q3⟩
      · exact ⟨S.length + 1, Or.inl ⟨q1, q2, rfl⟩, q3⟩
      · exact ⟨S.length, Or.inr (Or.inl ⟨q1, q2, rfl⟩), q3⟩
      · exact ⟨S.length - 1, Or.inr (Or.inr ⟨q1, q2, rfl⟩), q3⟩
    obtain ⟨hh, st, fit⟩ := step
    obtain ⟨t1, t2, t3, t4, t5⟩ := zL_tk hF hS hl st
    have dd : decide (x1 ≤ a.2.1) = false := by
      rw [h2, hx, zi_le (by omega) (by omega)]; exact decide_eq_false (by omega)
    have eg : g_L_applies_1 M0 x0 x1 i a = (true, (Int32.ofNat (zpTake F x S).length, Int32.ofNat (p + 1), w_L_take a.2.2 x (Int32.ofNat S.length))) := by
      unfold g_L_applies_1
      rw [dd, h2, h1, zi_nat (by omega), ex, t1, show Int32.ofNat p + (1 : Int32) = Int32.ofNat (p + 1) from zi_ad p 1]
      simp only [zk_f]
    have ek : kb_L_applies_1 M0 x0 x1 i a := by
      unfold kb_L_applies_1
      rw [h2, h1, zi_nat (by omega), ex]
      exact fun _ => ⟨zi_in (by omega) (by omega), t3⟩
    have hle : (zpTake F x S).length ≤ 24 := by
      rw [t5]
      rcases st with ⟨-, u, v⟩ | ⟨-, u, v⟩ | ⟨-, u, v⟩ <;> omega
    have ih := zL_run (F := F) (x0 := x0) (x1 := x1) M0 c (i + 1) m (p + 1) (zpTake F x S) (Int32.ofNat (zpTake F x S).length, Int32.ofNat (p + 1), w_L_take a.2.2 x (Int32.ofNat S.length)) h' (by omega) (by omega) (by rw [hx, show p + (c.length + 1) = p + 1 + c.length by omega]) rfl rfl (fun j hj => by show w_L_take a.2.2 x (Int32.ofNat S.length) 42 j = F j; rw [t4 42 j (by omega)]; exact hF j hj) t2 hle (fun k hk => by
      show w_L_take a.2.2 x (Int32.ofNat S.length) 41 (p + 1 + k) = c.getD k 0
      rw [t4 41 _ (by omega), show p + 1 + k = p + (k + 1) by omega]
      exact hc (k + 1) (by omega)) (by rw [t5]; exact fit)
    rw [zf_w1 eg]
    exact ⟨ih.1, zf_k1 eg ek ih.2.1, fun b j hb => (ih.2.2 b j hb).trans (t4 b j hb)⟩
/-- a condition -/
theorem zL_ap {F : Nat → Int32} {N : zMem} {c : List Int32} {p : Nat} (hp : p + c.length ≤ 400) (hF : ∀ j, j < 10 → N 42 j = F j) (hc : ∀ k, k < c.length → N 41 (p + k) = c.getD k 0) (hf : c = [] ∨ zpFit 0 c 1) : v_L_applies N (Int32.ofNat p) (Int32.ofNat (p + c.length)) = zpHolds F c ∧ ok_L_applies N (Int32.ofNat p) (Int32.ofNat (p + c.length)) ∧ (∀ b j, b ≠ 43 → w_L_applies N (Int32.ofNat p) (Int32.ofNat (p + c.length)) b j = N b j) := by
  have hfit : ∃ h', zpFit ([] : List Int32).length c h' ∧ (c = [] → h' = 0) ∧ (¬ c = [] → h' = 1) := by
    rcases hf with hf | hf
    · subst hf; exact ⟨0, rfl, fun _ => rfl, fun h => absurd rfl h⟩
    · by_cases e : c = []
      · subst e
        have hf : (0 : Nat) = 1 := hf
        exact absurd hf (by decide)
      · exact ⟨1, hf, fun h => absurd h e, fun _ => rfl⟩
  obtain ⟨h', f1, f2, f3⟩ := hfit
  obtain ⟨⟨a1, a2, a3⟩, a4, a5⟩ := zL_run (F := F) (x0 := Int32.ofNat p) (x1 := Int32.ofNat (p + c.length)) N c 0 1000 p [] ((0 : Int32), Int32.ofNat p, N) h' (by omega) hp rfl rfl rfl hF (fun k hk => by cases hk) (by decide) hc f1
  refine ⟨?_, a4, a5⟩
  unfold v_L_applies zpHolds
  rw [a1, a2]
  by_cases e : c = []
  · rw [f2 e, show decide (Int32.ofNat 0 = (0 : Int32)) = true from rfl, zk_t]
    subst e; rfl
  · have e1 := f3 e
    rw [e1] at a2 ⊢
    rw [show decide (Int32.ofNat 1 = (0 : Int32)) = false from rfl, zk_f]
    generalize zpRun F c [] = S at a2 a3 ⊢
    match S, a2 with
    | [v], _ =>
      have := a3 0 (by show 0 < 1; omega)
      rw [this]; rfl
/-- all lines of one verb -/
theorem zL_tot {F : Nat → Int32} {N : zMem} {L : List (Int32 × Int32 × List Int32)} (k : Int32) (hE : zpEnc N 37 L) (hL : zpFl L) (hF : ∀ j, j < 10 → N 42 j = F j) : v_L_total N k = zpTot F k L 0 ∧ ok_L_total N k ∧ (∀ b j, b ≠ 43 → w_L_total N k b j = N b j) := by
  obtain ⟨⟨e1, e2, e3, e4⟩, e5, e6⟩ := hE
  have len : ∀ i, i < L.length → (zpCode (L.take (i + 1))).length = (zpCode (L.take i)).length + (L.getD i (0, 0, [])).2.2.length ∧ (∀ q, q < (L.getD i (0, 0, [])).2.2.length → (zpCode L).getD ((zpCode (L.take i)).length + q) 0 = (L.getD i (0, 0, [])).2.2.getD q 0) ∧ (zpCode (L.take (i + 1))).length ≤ (zpCode L).length := by
    intro i hi
    have split : L = L.take i ++ (L.getD i (0, 0, []) :: L.drop (i + 1)) := by
      have h1 : L.drop i = L.getD i (0, 0, []) :: L.drop (i + 1) := by
        rw [List.drop_eq_getElem_cons hi, List.getD_eq_getElem?_getD, List.getElem?_eq_getElem hi]; rfl
      rw [← h1, List.take_append_drop]
    have tk : L.take (i + 1) = L.take i ++ [L.getD i (0, 0, [])] := by
      rw [List.take_succ, List.getD_eq_getElem?_getD, List.getElem?_eq_getElem hi]; rfl
    have code_ap : ∀ (A B : List (Int32 × Int32 × List Int32)), zpCode (A ++ B) = zpCode A ++ zpCode B := by
      intro A B
      induction A with
      | nil => rfl
      | cons y A ih => show y.2.2 ++ zpCode (A ++ B) = (y.2.2 ++ zpCode A) ++ zpCode B; rw [ih, List.append_assoc]
    have cL : zpCode L = zpCode (L.take i) ++ ((L.getD i (0, 0, [])).2.2 ++ zpCode (L.drop (i + 1))) := by
      have := congrArg zpCode split
      rw [code_ap] at this
      exact this
    have cT : zpCode (L.take (i + 1)) = zpCode (L.take i) ++ (L.getD i (0, 0, [])).2.2 := by rw [tk]; exact zpCode_ap _ _
    refine ⟨by rw [cT, List.length_append], fun q hq => ?_, ?_⟩
    · rw [cL, List.getD_eq_getElem?_getD, List.getElem?_append_right (by omega), show (zpCode (L.take i)).length + q - (zpCode (L.take i)).length = q by omega, List.getElem?_append_left hq, ← List.getD_eq_getElem?_getD]
    · rw [cT, cL, List.length_append, List.length_append, List.length_append]; omega
  have tot_ap : ∀ (A : List (Int32 × Int32 × List Int32)) (x : Int32 × Int32 × List Int32) (z : Int32), zpTot F k (A ++ [x]) z = (bif decide (x.1 = k) then (bif zpHolds F x.2.2 then zpTot F k A z + x.2.1 else zpTot F k A z) else zpTot F k A z) := by
    intro A x
    induction A with
    | nil => intro z; rfl
    | cons y A ih => intro z; exact ih _
  have loop := zf_wq (g := g_L_total_1 N k) (k := kb_L_total_1 N k) (fun i (a : Int32 × Int32 × zMem) => i ≤ L.length ∧ a.1 = zpTot F k (L.take i) 0 ∧ a.2.1 = Int32.ofNat (zpCode (L.take i)).length ∧ (∀ b j, b ≠ 43 → a.2.2 b j = N b j)) (fun a => a.1 = zpTot F k L 0 ∧ (∀ b j, b ≠ 43 → a.2.2 b j = N b j)) 12 (fun i a ⟨hi, h1, h2, h3⟩ => by
    have q0 : a.2.2 37 0 = Int32.ofNat L.length := by rw [h3 37 0 (by omega)]; exact e1
    unfold g_L_total_1 kb_L_total_1
    rw [q0, zi_le (by omega) (by omega), zi_nat (by omega)]
    by_cases c : L.length ≤ i
    · rw [decide_eq_true c]
      simp only [zk_t]
      have e : i = L.length := by omega
      rw [e, List.take_length] at h1
      exact ⟨by omega, (fun hh => by cases hh), (fun hh => by cases hh), fun _ => ⟨h1, h3⟩⟩
    · obtain ⟨u1, u2, u3⟩ := e5 i (by omega)
      obtain ⟨v1, v2, v3⟩ := len i (by omega)
      have w1 : a.2.2 38 i = (L.getD i (0, 0, [])).1 := by rw [h3 38 i (by omega)]; exact u1
      have w3 : a.2.2 40 i = Int32.ofNat ((zpCode (L.take i)).length + (L.getD i (0, 0, [])).2.2.length) := by rw [h3 40 i (by omega), ← v1]; exact u3
      obtain ⟨x1, x2, x3⟩ := zL_ap (F := F) (N := a.2.2) (c := (L.getD i (0, 0, [])).2.2) (p := (zpCode (L.take i)).length) (by omega) (fun j hj => by rw [h3 42 j (by omega)]; exact hF j hj) (fun q hq => by
        rw [h3 41 _ (by omega), ← v2 q hq]
        exact e6 _ (by omega)) (hL i (by omega))
      have tk : L.take (i + 1) = L.take i ++ [L.getD i (0, 0, [])] := by
        rw [List.take_succ, List.getD_eq_getElem?_getD, List.getElem?_eq_getElem (show i < L.length by omega)]; rfl
      rw [decide_eq_false c, w1, w3, h2, x1]
      simp only [zk_f]
      refine ⟨by omega, fun _ => ⟨zi_in (by omega) (by omega), fun _ => x2⟩, fun _ => ⟨by omega, ?_, ?_, fun b j hb => ?_⟩, (fun hh => by cases hh)⟩
      · rw [tk, tot_ap, ← h1]
        cases decide ((L.getD i (0, 0, [])).1 = k) with
        | false => rfl
        | true =>
          simp only [zk_t]
          rw [x3 39 i (by omega), h3 39 i (by omega), u2]
      · rw [v1]
        cases decide ((L.getD i (0, 0, [])).1 = k) with
        | false => exact w3
        | true => simp only [zk_t]; rw [x3 40 i (by omega)]; exact w3
      · cases decide ((L.getD i (0, 0, [])).1 = k) with
        | false => exact h3 b j hb
        | true => simp only [zk_t]; rw [x3 b j hb]; exact h3 b j hb) 1000 0 ((0 : Int32), (0 : Int32), N) ⟨by omega, rfl, rfl, fun b j _ => rfl⟩ (by omega)
  exact ⟨loop.1.1, loop.2, loop.1.2⟩
