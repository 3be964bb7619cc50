/-! the class's lines of the law -/
theorem zJ_nm {M : zMem} {t : Nat → Int32} {n : Nat} {s : Nat × Int32} {c : List Int32} (h : zJ M t n s c) (m : Int32) : v_T_takeNumber M m = (zpNum t n m s).1 ∧ zJ (w_T_takeNumber M m) t n (zpNum t n m s).2 c ∧ ok_T_takeNumber M m ∧ zJf M (w_T_takeNumber M m) := by
  obtain ⟨a, b, d, e⟩ := zT_nm h.1 m
  exact ⟨a, zJ_mv h b e (zpG_wk (zpG_nm h.1.2.1 h.1.2.2.2.2.1) (by omega)), d, zJf_T e⟩
theorem zJ_fl {M : zMem} {t : Nat → Int32} {n : Nat} {s : Nat × Int32} {c : List Int32} (h : zJ M t n s c) : zJ (w_T_fail M) t n (zpFail n s) c ∧ zJf M (w_T_fail M) := by
  obtain ⟨f1, f2⟩ := zT_fl h.1
  have hf : ∀ a i, ¬ (a = 2 ∧ (i = 3 ∨ i = 4)) → w_T_fail M a i = M a i := fun a i hi => by rw [f1, zu_o (by omega), zu_o (by omega)]
  exact ⟨zJ_mv h f2 hf (zpG_fl h.1.2.1 h.1.2.2.2.2.1 0), zJf_T hf⟩
/-- amount and condition -/
def zpTl (t : Nat → Int32) (n : Nat) (s : Nat × Int32) : (Nat × Int32) × List Int32 := bif zpHas t n 16 (zpNum t n 100 s).2 then zpAny t n (zpAtom t n 6) (zpAft t n 16 (zpNum t n 100 s).2) else ((zpNum t n 100 s).2, ([] : List Int32))
def zTl (M : zMem) : zMem := bif (v_T_takeWord (w_T_takeNumber M (100 : Int32)) 16) then (w_J_readAnyOfR (w_T_takeWord (w_T_takeNumber M (100 : Int32)) 16) (0 : Int32)) else (w_T_takeWord (w_T_takeNumber M (100 : Int32)) 16)
theorem zJ_tl {M : zMem} {t : Nat → Int32} {n : Nat} {s : Nat × Int32} {c : List Int32} (h : zJ M t n s c) : zJ (zTl M) t n (zpTl t n s).1 (c ++ (zpTl t n s).2) ∧ zJf M (zTl M) ∧ (ok_T_takeNumber M (100 : Int32) ∧ ok_T_takeWord (w_T_takeNumber M (100 : Int32)) 16 ∧ (v_T_takeWord (w_T_takeNumber M (100 : Int32)) 16 = true → ok_J_readAnyOfR (w_T_takeWord (w_T_takeNumber M (100 : Int32)) 16) (0 : Int32))) ∧ v_T_takeNumber M (100 : Int32) = (zpNum t n 100 s).1 ∧ zpG1 n s (zpTl t n s).1 ((zpTl t n s).2.length + 1) := by
  have hn := h.1.2.1
  have hs := h.1.2.2.2.2.1
  obtain ⟨a1, a2, a3, a4⟩ := zJ_nm h (100 : Int32)
  obtain ⟨b1, b2, b3, b4⟩ := zJ_wd a2 (k := 16) (by omega)
  have gN := zpG_nm (t := t) (m := 100) hn hs
  unfold zTl zpTl
  rw [b1]
  cases hc : zpHas t n 16 (zpNum t n 100 s).2 with
  | true =>
    obtain ⟨d1, d2⟩ := b3 hc
    have gH := zpG_wk (zpG_hs hc gN.1) (zpW_len 16 (by omega)).1
    have gA := zpG_any (t := t) hn (zpG_atom (t := t) hn 6) _ gH.1
    obtain ⟨p1, p2, p3⟩ := zJ_any hn (x := (0 : Int32)) (wa := zB 7) (ka := zBk 7) (zJ_at (t := t) hn 6 (Nat.le_refl 6)) (zpG_atom (t := t) hn 6) _ _ _ d1
    rw [zk_t, zk_t]
    exact ⟨p2, zJf_tr (zJf_tr a4 d2) p3, ⟨a3, b2, fun _ => p1⟩, a1, zpG_wk (zpG_tr (zpG_tr gN gH) gA) (by omega)⟩
  | false =>
    rw [zk_f, zk_f, b4 hc]
    refine ⟨?_, a4, ⟨a3, b2, (fun hh => by cases hh)⟩, a1, gN⟩
    show zJ _ t n (zpNum t n 100 s).2 (c ++ [])
    rw [List.append_nil]
    exact a2
theorem zpCode_ap (L : List (Int32 × Int32 × List Int32)) (x : Int32 × Int32 × List Int32) : zpCode (L ++ [x]) = zpCode L ++ x.2.2 := by
  induction L with
  | nil => show x.2.2 ++ [] = [] ++ x.2.2; rw [List.append_nil, List.nil_append]
  | cons y L ih =>
    show y.2.2 ++ zpCode (L ++ [x]) = (y.2.2 ++ zpCode L) ++ x.2.2
    rw [ih, List.append_assoc]
def zLs (M : zMem) (s : Nat × Int32) (L : List (Int32 × Int32 × List Int32)) : Prop := zrg 0 12 (M 44 0) ∧ (s.2 = -1 → M 44 0 = Int32.ofNat L.length ∧ L.length ≤ 12 ∧ ∀ i, i < L.length → M 45 i = (L.getD i (0, 0, [])).1 ∧ M 46 i = (L.getD i (0, 0, [])).2.1 ∧ M 47 i = Int32.ofNat (zpCode (L.take (i + 1))).length)
theorem zLs_mv {M N : zMem} {s s' : Nat × Int32} {L : List (Int32 × Int32 × List Int32)} (h : zLs M s L) (hf : zJf M N) (hg : s'.2 = -1 → s.2 = -1) : zLs N s' L := by
  have e : N 44 0 = M 44 0 := hf 44 0 (by omega) (by omega) (by omega)
  refine ⟨by rw [e]; exact h.1, fun hh => ?_⟩
  obtain ⟨a, b, c⟩ := h.2 (hg hh)
  refine ⟨by rw [e]; exact a, b, fun i hi => ?_⟩
  rw [hf 45 i (by omega) (by omega) (by omega), hf 46 i (by omega) (by omega) (by omega), hf 47 i (by omega) (by omega) (by omega)]
  exact c i hi
/-- what a reading of the law may change -/
def zJg (M N : zMem) : Prop := ∀ a i, ¬ (a = 2 ∧ (i = 3 ∨ i = 4)) → ¬ (44 ≤ a ∧ a ≤ 48) → N a i = M a i
theorem zJg_f {M N : zMem} (h : zJf M N) : zJg M N := fun a i h1 h2 => h a i h1 (by omega) (by omega)
theorem zJg_tr {M N P : zMem} (a : zJg M N) (b : zJg N P) : zJg M P := fun x i h1 h2 => (b x i h1 h2).trans (a x i h1 h2)
theorem zgx1 {L : List (Int32 × Int32 × List Int32)} {x : Int32 × Int32 × List Int32} {i : Nat} (h : i < L.length) : (L ++ [x]).getD i (0, 0, []) = L.getD i (0, 0, []) ∧ (L ++ [x]).take (i + 1) = L.take (i + 1) := by
  refine ⟨?_, List.take_append_of_le_length (by omega)⟩
  rw [List.getD_eq_getElem?_getD, List.getElem?_append_left h, ← List.getD_eq_getElem?_getD]
theorem zgx2 {L : List (Int32 × Int32 × List Int32)} {x : Int32 × Int32 × List Int32} : (L ++ [x]).getD L.length (0, 0, []) = x ∧ (L ++ [x]).take (L.length + 1) = L ++ [x] := by
  refine ⟨?_, List.take_of_length_le (by rw [List.length_append]; exact Nat.le_refl _)⟩
  rw [List.getD_eq_getElem?_getD, List.getElem?_append_right (Nat.le_refl _), Nat.sub_self]; rfl
/-- a line is added -/
theorem zJ_al1 {M : zMem} {t : Nat → Int32} {n : Nat} {s : Nat × Int32} {L : List (Int32 × Int32 × List Int32)} {v a : Int32} {k : List Int32} (h : zJ M t n s (zpCode L ++ k)) (hl : zLs M s L) (h12 : s.2 = -1 → L.length < 12) : ok_L_addLine M v a ∧ zJ (w_L_addLine M v a) t n s (zpCode (L ++ [(v, a, k)])) ∧ zLs (w_L_addLine M v a) s (L ++ [(v, a, k)]) ∧ zJg M (w_L_addLine M v a) := by
  obtain ⟨z, z1, z2, z3⟩ := zr_ex hl.1
  have q0 : decide (Int32.ofNat z < 0) = false := by rw [zg_lt0, zi_val (by omega)]; exact decide_eq_false (by omega)
  unfold ok_L_addLine w_L_addLine
  rw [z3, z2, q0, zk_f, show decide ((12 : Int32) ≤ Int32.ofNat z) = decide (12 ≤ z) from zi_le (a := 12) (by omega) (by omega), zpCode_ap]
  show _ ∧ zJ _ t n s (zpCode L ++ k) ∧ _
  by_cases q : 12 ≤ z
  · rw [decide_eq_true q, zk_t]
    have bad : ¬ s.2 = -1 := by
      intro hh
      have e : z = L.length := (zN_inj (by omega) (by have := (hl.2 hh).2.1; omega)).mp (z2.symm.trans (hl.2 hh).1)
      have := h12 hh
      omega
    exact ⟨fun _ hh => (by cases hh), h, ⟨hl.1, fun hh => absurd hh bad⟩, fun _ _ _ _ => rfl⟩
  · rw [decide_eq_false q, zk_f]
    obtain ⟨⟨t1, t2, t3, t4, t5, t6⟩, h2, h3⟩ := h
    refine ⟨fun _ _ => zi_in (by omega) (by omega), ⟨⟨by rw [zu_o (by omega), zu_o (by omega), zu_o (by omega), zu_o (by omega)]; exact t1, t2, fun i hi => by rw [zu_o (by omega), zu_o (by omega), zu_o (by omega), zu_o (by omega)]; exact t3 i hi, by rw [zu_o (by omega), zu_o (by omega), zu_o (by omega), zu_o (by omega)]; exact t4, t5, by rw [zu_o (by omega), zu_o (by omega), zu_o (by omega), zu_o (by omega)]; exact t6⟩, by rw [zu_o (by omega), zu_o (by omega), zu_o (by omega), zu_o (by omega)]; exact h2, fun hh => ?_⟩, ⟨?_, fun hh => ?_⟩, fun a i h1 h2 => by rw [zu_o (by omega), zu_o (by omega), zu_o (by omega), zu_o (by omega)]⟩
    · obtain ⟨u1, u2, u3⟩ := h3 hh
      exact ⟨u1, by rw [zu_o (by omega), zu_o (by omega), zu_o (by omega), zu_o (by omega)]; exact u2, fun j hj => by rw [zu_o (by omega), zu_o (by omega), zu_o (by omega), zu_o (by omega)]; exact u3 j hj⟩
    · rw [zu_eq, show Int32.ofNat z + (1 : Int32) = Int32.ofNat (z + 1) from zi_ad z 1]
      exact ⟨by rw [zi_val (by omega)]; omega, by rw [zi_val (by omega)]; omega⟩
    · obtain ⟨b1, b2, b3⟩ := hl.2 hh
      obtain ⟨u1, u2, u3⟩ := h3 hh
      have e : z = L.length := (zN_inj (by omega) (by omega)).mp (z2.symm.trans b1)
      have hz := h12 hh
      have el : (L ++ [(v, a, k)]).length = L.length + 1 := by rw [List.length_append]; rfl
      rw [el]
      refine ⟨by rw [zu_eq, e]; exact zi_ad L.length 1, by omega, fun i hi => ?_⟩
      by_cases ei : i = L.length
      · subst ei
        rw [zgx2.1, zgx2.2, zpCode_ap]
        refine ⟨?_, ?_, ?_⟩
        · rw [zu_o (by omega), zu_o (by omega), zu_o (by omega), zu_at rfl (by omega)]
        · rw [zu_o (by omega), zu_o (by omega), zu_at rfl (by omega)]
        · rw [zu_o (by omega), zu_at rfl (by omega)]; exact u2
      · rw [(zgx1 (by omega)).1, (zgx1 (by omega)).2]
        obtain ⟨c1, c2, c3⟩ := b3 i (by omega)
        refine ⟨?_, ?_, ?_⟩
        · rw [zu_o (by omega), zu_o (by omega), zu_o (by omega), zu_o (by omega)]; exact c1
        · rw [zu_o (by omega), zu_o (by omega), zu_o (by omega), zu_o (by omega)]; exact c2
        · rw [zu_o (by omega), zu_o (by omega), zu_o (by omega), zu_o (by omega)]; exact c3
theorem zpLine_eq (t : Nat → Int32) (n : Nat) (s : Nat × Int32) : zpLine t n s = ((zpTl t n (zpVerb t n s).2).1, (zpVerb t n s).1, (zpNum t n 100 (zpVerb t n s).2).1, (zpTl t n (zpVerb t n s).2).2) := rfl
theorem zpG_vb {t : Nat → Int32} {n : Nat} {s : Nat × Int32} (hn : n ≤ 400) (hs : s.1 ≤ n) : zpG1 n s (zpVerb t n s).2 1 := by
  unfold zpVerb
  cases h1 : zpHas t n 13 s with
  | true => rw [zk_t]; exact zpG_wk (zpG_hs h1 hs) (zpW_len 13 (by omega)).1
  | false =>
    rw [zk_f]
    cases h2 : zpHas t n 14 s with
    | true => rw [zk_t]; exact zpG_wk (zpG_hs h2 hs) (zpW_len 14 (by omega)).1
    | false =>
      rw [zk_f]
      cases h3 : zpHas t n 15 s with
      | true => rw [zk_t]; exact zpG_wk (zpG_hs h3 hs) (zpW_len 15 (by omega)).1
      | false => rw [zk_f]; exact zpG_fl hn hs 1
/-- a line -/
theorem zJ_line {M : zMem} {t : Nat → Int32} {n : Nat} {s : Nat × Int32} {L : List (Int32 × Int32 × List Int32)} (h : zJ M t n s (zpCode L)) (hl : zLs M s L) (h12 : s.2 = -1 → L.length < 12) : ok_J_readLine M ∧ zJ (w_J_readLine M) t n (zpLine t n s).1 (zpCode (L ++ [(zpLine t n s).2])) ∧ zLs (w_J_readLine M) (zpLine t n s).1 (L ++ [(zpLine t n s).2]) ∧ zJg M (w_J_readLine M) ∧ zpG1 n s (zpLine t n s).1 1 := by
  have hn := h.1.2.1
  have hs := h.1.2.2.2.2.1
  rw [zpLine_eq]
  have gV := zpG_vb (t := t) hn hs
  have key : ∀ (N : zMem) (x : Nat × Int32) (v : Int32), zJ N t n x (zpCode L) → zJf M N → zpG1 n s x 1 → (ok_T_takeNumber N (100 : Int32) ∧ ok_T_takeWord (w_T_takeNumber N (100 : Int32)) 16 ∧ (v_T_takeWord (w_T_takeNumber N (100 : Int32)) 16 = true → ok_J_readAnyOfR (w_T_takeWord (w_T_takeNumber N (100 : Int32)) 16) (0 : Int32)) ∧ ok_L_addLine (zTl N) v (v_T_takeNumber N (100 : Int32))) ∧ zJ (w_L_addLine (zTl N) v (v_T_takeNumber N (100 : Int32))) t n (zpTl t n x).1 (zpCode (L ++ [(v, (zpNum t n 100 x).1, (zpTl t n x).2)])) ∧ zLs (w_L_addLine (zTl N) v (v_T_takeNumber N (100 : Int32))) (zpTl t n x).1 (L ++ [(v, (zpNum t n 100 x).1, (zpTl t n x).2)]) ∧ zJg M (w_L_addLine (zTl N) v (v_T_takeNumber N (100 : Int32))) ∧ zpG1 n s (zpTl t n x).1 1 := by
    intro N x v hN hf hx
    obtain ⟨a1, a2, ⟨a3, a4, a5⟩, a6, a7⟩ := zJ_tl hN
    have back : (zpTl t n x).1.2 = -1 → s.2 = -1 := fun hh => (hx.2.2 (a7.2.2 hh).1).1
    obtain ⟨b1, b2, b3, b4⟩ := zJ_al1 (v := v) (a := (zpNum t n 100 x).1) a1 (zLs_mv hl (zJf_tr hf a2) back) (fun hh => h12 (back hh))
    rw [a6]
    exact ⟨⟨a3, a4, a5, b1⟩, b2, b3, zJg_tr (zJg_f (zJf_tr hf a2)) b4, zpG_wk (zpG_tr hx a7) (by omega)⟩
  obtain ⟨a1, a2, a3, a4⟩ := zJ_wd h (k := 13) (by omega)
  have ew : w_J_readLine M = w_L_addLine (zTl (bif (v_T_takeWord M 13) then (w_T_takeWord M 13) else (bif (v_T_takeWord (w_T_takeWord M 13) 14) then (w_T_takeWord (w_T_takeWord M 13) 14) else (bif (v_T_takeWord (w_T_takeWord (w_T_takeWord M 13) 14) 15) then (w_T_takeWord (w_T_takeWord (w_T_takeWord M 13) 14) 15) else (w_T_fail (w_T_takeWord (w_T_takeWord (w_T_takeWord M 13) 14) 15)))))) (bif (v_T_takeWord M 13) then (0 : Int32) else (bif (v_T_takeWord (w_T_takeWord M 13) 14) then (1 : Int32) else (bif (v_T_takeWord (w_T_takeWord (w_T_takeWord M 13) 14) 15) then (2 : Int32) else (-1 : Int32)))) (v_T_takeNumber (bif (v_T_takeWord M 13) then (w_T_takeWord M 13) else (bif (v_T_takeWord (w_T_takeWord M 13) 14) then (w_T_takeWord (w_T_takeWord M 13) 14) else (bif (v_T_takeWord (w_T_takeWord (w_T_takeWord M 13) 14) 15) then (w_T_takeWord (w_T_takeWord (w_T_takeWord M 13) 14) 15) else (w_T_fail (w_T_takeWord (w_T_takeWord (w_T_takeWord M 13) 14) 15))))) (100 : Int32)) := rfl
  rw [ew]
  unfold ok_J_readLine zpVerb
  rw [a1]
  cases h3 : zpHas t n 13 s with
  | true =>
    obtain ⟨b1, b2⟩ := a3 h3
    simp only [zk_t]
    obtain ⟨⟨k1, k2, k3, k4⟩, k5, k6, k7, k8⟩ := key _ _ (0 : Int32) b1 b2 (zpG_wk (zpG_hs h3 hs) (zpW_len 13 (by omega)).1)
    exact ⟨⟨a2, (fun hh => by cases hh), k1, k2, k3, k4⟩, k5, k6, k7, k8⟩
  | false =>
    rw [a4 h3]
    simp only [zk_f]
    obtain ⟨d1, d2, d3, d4⟩ := zJ_wd h (k := 14) (by omega)
    rw [d1]
    cases h4 : zpHas t n 14 s with
    | true =>
      obtain ⟨b1, b2⟩ := d3 h4
      simp only [zk_t]
      obtain ⟨⟨k1, k2, k3, k4⟩, k5, k6, k7, k8⟩ := key _ _ (1 : Int32) b1 b2 (zpG_wk (zpG_hs h4 hs) (zpW_len 14 (by omega)).1)
      exact ⟨⟨a2, fun _ => ⟨d2, (fun hh => by cases hh)⟩, k1, k2, k3, k4⟩, k5, k6, k7, k8⟩
    | false =>
      rw [d4 h4]
      simp only [zk_f]
      obtain ⟨e1, e2, e3, e4⟩ := zJ_wd h (k := 15) (by omega)
      rw [e1]
      cases h5 : zpHas t n 15 s with
      | true =>
        obtain ⟨b1, b2⟩ := e3 h5
        simp only [zk_t]
        obtain ⟨⟨k1, k2, k3, k4⟩, k5, k6, k7, k8⟩ := key _ _ (2 : Int32) b1 b2 (zpG_wk (zpG_hs h5 hs) (zpW_len 15 (by omega)).1)
        exact ⟨⟨a2, fun _ => ⟨d2, fun _ => e2⟩, k1, k2, k3, k4⟩, k5, k6, k7, k8⟩
      | false =>
        rw [e4 h5]
        simp only [zk_f]
        obtain ⟨f1, f2⟩ := zJ_fl h
        obtain ⟨⟨k1, k2, k3, k4⟩, k5, k6, k7, k8⟩ := key _ _ (-1 : Int32) f1 f2 (zpG_fl hn hs 1)
        exact ⟨⟨a2, fun _ => ⟨d2, fun _ => e2⟩, k1, k2, k3, k4⟩, k5, k6, k7, k8⟩
theorem zJ_ln {M : zMem} {t : Nat → Int32} {n i : Nat} {s : Nat × Int32} {c : List Int32} (h : zJ M t n s c) (hi : i ≤ 1000) : v_T_takeLine M (Int32.ofNat i) (12 : Int32) = (zpCome t n i s && decide (i < 12)) ∧ zJ (w_T_takeLine M (Int32.ofNat i) (12 : Int32)) t n (zpLn t n i 12 s) c ∧ ok_T_takeLine M (Int32.ofNat i) (12 : Int32) ∧ zJf M (w_T_takeLine M (Int32.ofNat i) (12 : Int32)) ∧ zpG1 n s (zpLn t n i 12 s) 0 := by
  have hn := h.1.2.1
  have hs := h.1.2.2.2.2.1
  obtain ⟨a, b, d, e⟩ := zT_ln (most := 12) h.1 hi (by omega)
  have hstep : zpCome t n i s = true → zpG1 n s (zpStep t n i s) 0 := by
    intro hh
    unfold zpCome at hh
    unfold zpStep
    cases q : Nat.beq i 0 with
    | true => rw [zk_t]; exact zpG_rf hs
    | false =>
      rw [q, zk_f] at hh
      rw [zk_f]
      exact zpG_wk (zpG_nx hh) (by omega)
  have g : zpG1 n s (zpLn t n i 12 s) 0 := by
    unfold zpLn
    cases hc : zpCome t n i s with
    | true =>
      rw [zk_t]
      have q := hstep hc
      cases decide (i < 12)
      · rw [zk_f]
        exact zpG_tr q (zpG_fl hn q.1 0)
      · rw [zk_t]; exact q
    | false =>
      rw [zk_f]
      cases decide (s.1 < n)
      · rw [zk_f]; exact zpG_rf hs
      · rw [zk_t]; exact zpG_fl hn hs 0
  exact ⟨a, zJ_mv h b e g, d, zJf_T e, g⟩
/-- all lines -/
theorem zJ_ll {t : Nat → Int32} {n : Nat} (M0 : zMem) : ∀ f i m M (r : (Nat × Int32) × List (Int32 × Int32 × List Int32)), i + f = 13 → f < m → zJ M t n r.1 (zpCode r.2) → zLs M r.1 r.2 → (r.1.2 = -1 → r.2.length = i) → zf_wk m (g_J_readAll_1 M0) (kb_J_readAll_1 M0) i M ∧ zJ (zf_wh m (g_J_readAll_1 M0) i M) t n (zpLinesL t n f i r).1 (zpCode (zpLinesL t n f i r).2) ∧ zLs (zf_wh m (g_J_readAll_1 M0) i M) (zpLinesL t n f i r).1 (zpLinesL t n f i r).2 ∧ zJg M (zf_wh m (g_J_readAll_1 M0) i M)
  | f, i, 0, M, r, hi, hm, h, hl, h12 => by omega
  | 0, i, m + 1, M, r, hi, hm, h, hl, h12 => by
    have e : decide ((12 : Int32) < Int32.ofNat i) = true := by
      rw [show decide ((12 : Int32) < Int32.ofNat i) = decide (12 < i) from zi_lt' (a := 12) (by omega) (by omega)]
      exact decide_eq_true (by omega)
    have eg : g_J_readAll_1 M0 i M = (false, M) := by
      unfold g_J_readAll_1
      rw [e]
      simp only [zk_t]
    rw [zf_w0 eg]
    refine ⟨zf_k0 eg ?_, h, hl, fun _ _ _ _ => rfl⟩
    unfold kb_J_readAll_1
    rw [e]
    intro hh; cases hh
  | f + 1, i, m + 1, M, r, hi, hm, h, hl, h12 => by
    have e : decide ((12 : Int32) < Int32.ofNat i) = false := by
      rw [show decide ((12 : Int32) < Int32.ofNat i) = decide (12 < i) from zi_lt' (a := 12) (by omega) (by omega)]
      exact decide_eq_false (by omega)
    obtain ⟨a1, a2, a3, a4, a5⟩ := zJ_ln (i := i) h (by omega)
    show _ ∧ zJ _ t n (bif zpCome t n i r.1 then (bif decide (i < 12) then zpLinesL t n f (i + 1) ((zpLine t n (zpStep t n i r.1)).1, r.2 ++ [(zpLine t n (zpStep t n i r.1)).2]) else (zpFail n (zpStep t n i r.1), r.2)) else (bif decide (r.1.1 < n) then (zpFail n r.1, r.2) else r)).1 (zpCode (bif zpCome t n i r.1 then (bif decide (i < 12) then zpLinesL t n f (i + 1) ((zpLine t n (zpStep t n i r.1)).1, r.2 ++ [(zpLine t n (zpStep t n i r.1)).2]) else (zpFail n (zpStep t n i r.1), r.2)) else (bif decide (r.1.1 < n) then (zpFail n r.1, r.2) else r)).2) ∧ zLs _ (bif zpCome t n i r.1 then (bif decide (i < 12) then zpLinesL t n f (i + 1) ((zpLine t n (zpStep t n i r.1)).1, r.2 ++ [(zpLine t n (zpStep t n i r.1)).2]) else (zpFail n (zpStep t n i r.1), r.2)) else (bif decide (r.1.1 < n) then (zpFail n r.1, r.2) else r)).1 (bif zpCome t n i r.1 then (bif decide (i < 12) then zpLinesL t n f (i + 1) ((zpLine t n (zpStep t n i r.1)).1, r.2 ++ [(zpLine t n (zpStep t n i r.1)).2]) else (zpFail n (zpStep t n i r.1), r.2)) else (bif decide (r.1.1 < n) then (zpFail n r.1, r.2) else r)).2 ∧ _
    have l2 := zLs_mv hl a4 (fun hh => (a5.2.2 hh).1)
    unfold zpLn at a2 a5 l2
    have stop : v_T_takeLine M (Int32.ofNat i) (12 : Int32) = false → g_J_readAll_1 M0 i M = (false, w_T_takeLine M (Int32.ofNat i) (12 : Int32)) ∧ kb_J_readAll_1 M0 i M := by
      intro hv
      unfold g_J_readAll_1 kb_J_readAll_1
      rw [e, hv]
      simp only [zk_f]
      exact ⟨trivial, fun _ => ⟨a3, (fun hh => by cases hh)⟩⟩
    cases hc : zpCome t n i r.1 with
    | false =>
      rw [hc, Bool.false_and] at a1
      obtain ⟨eg, ek⟩ := stop a1
      rw [hc, zk_f] at a2 l2
      rw [zf_w0 eg, zk_f]
      cases hq : decide (r.1.1 < n) with
      | true =>
        rw [hq, zk_t] at a2 l2
        rw [zk_t]
        exact ⟨zf_k0 eg ek, a2, l2, zJg_f a4⟩
      | false =>
        rw [hq, zk_f] at a2 l2
        rw [zk_f]
        exact ⟨zf_k0 eg ek, a2, l2, zJg_f a4⟩
    | true =>
      rw [hc, zk_t] at a2 l2 a5
      rw [zk_t]
      cases hq : decide (i < 12) with
      | false =>
        rw [hc, hq, Bool.and_false] at a1
        obtain ⟨eg, ek⟩ := stop a1
        rw [hq, zk_f] at a2 l2
        rw [zf_w0 eg, zk_f]
        exact ⟨zf_k0 eg ek, a2, l2, zJg_f a4⟩
      | true =>
        rw [hc, hq, Bool.and_self] at a1
        rw [hq, zk_t] at a2 l2 a5
        rw [zk_t]
        have hi12 := of_decide_eq_true hq
        obtain ⟨b1, b2, b3, b4, b5⟩ := zJ_line a2 l2 (fun hh => by have := h12 (a5.2.2 hh).1; omega)
        have eg : g_J_readAll_1 M0 i M = (true, w_J_readLine (w_T_takeLine M (Int32.ofNat i) (12 : Int32))) := by
          unfold g_J_readAll_1
          rw [e, a1]
          simp only [zk_f, zk_t]
        have ih := zJ_ll M0 f (i + 1) m _ ((zpLine t n (zpStep t n i r.1)).1, r.2 ++ [(zpLine t n (zpStep t n i r.1)).2]) (by omega) (by omega) b2 b3 (fun hh => by
          show (r.2 ++ [(zpLine t n (zpStep t n i r.1)).2]).length = i + 1
          rw [List.length_append, h12 (a5.2.2 (b5.2.2 hh).1).1]; rfl)
        rw [zf_w1 eg]
        refine ⟨zf_k1 eg ?_ ih.1, ih.2.1, ih.2.2.1, zJg_tr (zJg_tr (zJg_f a4) b4) ih.2.2.2⟩
        unfold kb_J_readAll_1
        exact fun _ => ⟨a3, fun _ => b1⟩
