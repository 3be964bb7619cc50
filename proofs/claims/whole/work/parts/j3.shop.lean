/-! what the readers can give -/
theorem zpKd_r {t : Nat → Int32} {n : Nat} {s : Nat × Int32} (hn : n ≤ 400) (hs : s.1 ≤ n) (h : (zpKd t n s).2.2 = -1) : ∃ v, v < 8 ∧ (zpKd t n s).1 = Int32.ofNat v := by
  unfold zpKd at h ⊢
  cases hc : zpKdOk t n s.1 with
  | false =>
    rw [hc, zk_f] at h
    exact absurd h (zpFl_ne hn hs)
  | true =>
    rw [zk_t]
    unfold zpKdOk at hc
    rw [zpRn_c hs] at hc
    by_cases b1 : (97 : Int32) ≤ t s.1
    · by_cases b2 : t s.1 < 105
      · have a1 := Int32.le_iff_toInt_le.mp b1
        have a2 := Int32.lt_iff_toInt_lt.mp b2
        rw [show (97 : Int32).toInt = 97 from rfl] at a1
        rw [show (105 : Int32).toInt = 105 from rfl] at a2
        refine ⟨((t s.1).toInt - 97).toNat, by omega, zi_eq ?_⟩
        rw [zi_val (by omega)]
        show (t s.1 - 97).toInt = _
        rw [Int32.toInt_sub, show (97 : Int32).toInt = 97 from rfl, Int.bmod_eq_of_le (by omega) (by omega)]
        omega
      · rw [decide_eq_false b2, Bool.and_false] at hc
        cases hc
    · rw [decide_eq_false b1, Bool.false_and, Bool.and_false, Bool.false_and, Bool.false_and] at hc
      cases hc
theorem zpNm_r {t : Nat → Int32} {n : Nat} {m : Int32} {s : Nat × Int32} (hn : n ≤ 400) (hs : s.1 ≤ n) (h : (zpNum t n m s).2.2 = -1) : zrg 0 m.toInt (zpNum t n m s).1 := by
  refine ⟨(zpNum_r (t := t) (m := m) hs).1, ?_⟩
  unfold zpNum at h ⊢
  cases hc : zpNumOk t n m s.1 with
  | false =>
    rw [hc, zk_f] at h
    exact absurd h (zpFl_ne hn hs)
  | true =>
    rw [zk_t]
    unfold zpNumOk at hc
    show (zpDg t s.1 (zpRn t n 48 57 s.1 - s.1)).toInt ≤ m.toInt
    by_cases b : zpDg t s.1 (zpRn t n 48 57 s.1 - s.1) ≤ m
    · exact Int32.le_iff_toInt_le.mp b
    · rw [decide_eq_false b, Bool.and_false, Bool.and_false] at hc
      cases hc
theorem zpFv_r {t : Nat → Int32} {p : Nat} : ∀ k, k ≤ 4 → (∀ j, j < k → (48 : Int32) ≤ t (p + j)) → zpFr t p k = true → ∃ v, v < 2 ^ k ∧ zpFv t p k = Int32.ofNat v
  | 0, _, _, _ => ⟨0, by decide, rfl⟩
  | k + 1, hk, h1, h2 => by
    have h2' : (zpFr t p k && !decide ((49 : Int32) < t (p + k))) = true := h2
    have hf : zpFr t p k = true := by
      cases hx : zpFr t p k with
      | true => rfl
      | false => rw [hx] at h2'; cases h2'
    have h9 : ¬ (49 : Int32) < t (p + k) := fun hh => by
      rw [decide_eq_true hh, Bool.not_true, Bool.and_false] at h2'
      cases h2'
    obtain ⟨v, v1, v2⟩ := zpFv_r k (by omega) (fun j hj => h1 j (by omega)) hf
    have e : zpFv t p (k + 1) = zpFv t p k ||| zsl (t (p + k) - 48) (Int32.ofNat k) := rfl
    rw [e, ← zpFr_d (by omega) (h1 k (by omega)) h9, v2]
    have hlt : v < 2 ^ (k + 1) := Nat.lt_of_lt_of_le v1 (Nat.pow_le_pow_right (by omega) (by omega))
    cases decide (t (p + k) = (49 : Int32)) with
    | false =>
      rw [zk_f]
      exact ⟨v, hlt, (zN_or v 0).trans (by rw [Nat.or_zero])⟩
    | true =>
      rw [zk_t, zN_sl1 k (by omega), Nat.one_shiftLeft, zN_or]
      exact ⟨_, Nat.or_lt_two_pow hlt (Nat.pow_lt_pow_right (by omega) (by omega)), rfl⟩
theorem zpFg_r {t : Nat → Int32} {n : Nat} {s : Nat × Int32} (hn : n ≤ 400) (hs : s.1 ≤ n) (h : (zpFg t n s).2.2 = -1) : ∃ v, v < 16 ∧ (zpFg t n s).1 = Int32.ofNat v := by
  unfold zpFg at h ⊢
  cases hc : zpFgOk t n s.1 with
  | false =>
    rw [hc, zk_f] at h
    exact absurd h (zpFl_ne hn hs)
  | true =>
    rw [zk_t]
    unfold zpFgOk at hc
    by_cases b : zpRn t n 48 57 s.1 = s.1 + 4
    · rw [decide_eq_true b, Bool.true_and] at hc
      have hin := zpRnF_in t n 48 57 1000 s.1
      have erf : zpRnF t n 48 57 1000 s.1 = zpRn t n 48 57 s.1 := rfl
      rw [erf, b] at hin
      exact zpFv_r 4 (by omega) (fun j hj => (hin (s.1 + j) (by omega) (by omega)).2.1) hc
    · rw [decide_eq_false b, Bool.false_and] at hc
      cases hc
theorem zsl4 : ∀ i, i < 4 → ∀ v, v < 16 → zsl (Int32.ofNat v) ((4 : Int32) * Int32.ofNat i) = Int32.ofNat (v * 2 ^ (4 * i)) := by decide +kernel
theorem zpFg_le {t : Nat → Int32} {n : Nat} {s : Nat × Int32} (hn : n ≤ 400) (hs : s.1 ≤ n) : (zpFg t n s).2.1 ≤ n := by
  unfold zpFg
  cases hc : zpFgOk t n s.1 with
  | false => rw [zk_f]; exact Nat.le_refl n
  | true =>
    rw [zk_t]
    unfold zpFgOk at hc
    have h1 := (zpRn_le (t := t) (lo := 48) (hi := 57) hs).1
    by_cases b : zpRn t n 48 57 s.1 = s.1 + 4
    · exact (zpSk_le (by omega)).1
    · rw [decide_eq_false b, Bool.false_and] at hc
      cases hc
theorem zpMk_r {t : Nat → Int32} {n : Nat} {s : Nat × Int32} (hn : n ≤ 400) (hs : s.1 ≤ n) : ∀ i, i ≤ 4 → (zpMk t n s i).2.1 ≤ n ∧ ((zpMk t n s i).2.2 = -1 → ∃ v, v < 2 ^ (4 * i) ∧ (zpMk t n s i).1 = Int32.ofNat v)
  | 0, _ => ⟨hs, fun _ => ⟨0, by decide, rfl⟩⟩
  | i + 1, hi => by
    obtain ⟨a1, a2⟩ := zpMk_r hn hs i (by omega)
    refine ⟨zpFg_le hn a1, fun h => ?_⟩
    have h' : (zpFg t n (zpMk t n s i).2).2.2 = -1 := h
    have h0 : (zpMk t n s i).2.2 = -1 := by
      by_cases c : (zpMk t n s i).2.2 = -1
      · exact c
      · rw [zpFg_b c] at h'; exact h'
    obtain ⟨u, u1, u2⟩ := a2 h0
    obtain ⟨v, v1, v2⟩ := zpFg_r hn a1 h'
    have e : (zpMk t n s (i + 1)).1 = (zpMk t n s i).1 ||| zsl (zpFg t n (zpMk t n s i).2).1 ((4 : Int32) * Int32.ofNat i) := rfl
    rw [e, u2, v2, zsl4 i (by omega) v v1, zN_or]
    refine ⟨_, Nat.or_lt_two_pow (Nat.lt_of_lt_of_le u1 (Nat.pow_le_pow_right (by omega) (by omega))) ?_, rfl⟩
    rw [show 4 * (i + 1) = 4 + 4 * i by omega, Nat.pow_add]
    exact Nat.mul_lt_mul_of_pos_right v1 (Nat.pow_pos (by omega))
/-! where the text is wrong the reader stands at its end -/
theorem zpKd_e {t : Nat → Int32} {n : Nat} {s : Nat × Int32} (h : ¬ s.2 = -1 → s.1 = n) : ¬ (zpKd t n s).2.2 = -1 → (zpKd t n s).2.1 = n := by
  unfold zpKd
  cases hc : zpKdOk t n s.1 with
  | false => rw [zk_f]; exact fun _ => rfl
  | true =>
    rw [zk_t]
    intro hh
    have e := h hh
    unfold zpKdOk at hc
    have l := (zpRn_le (t := t) (lo := 97) (hi := 122) (Nat.le_of_eq e)).1
    rw [decide_eq_false (show ¬ zpRn t n 97 122 s.1 = s.1 + 1 by omega), Bool.false_and] at hc
    cases hc
theorem zpNm_e {t : Nat → Int32} {n : Nat} {m : Int32} {s : Nat × Int32} (h : ¬ s.2 = -1 → s.1 = n) : ¬ (zpNum t n m s).2.2 = -1 → (zpNum t n m s).2.1 = n := by
  unfold zpNum
  cases hc : zpNumOk t n m s.1 with
  | false => rw [zk_f]; exact fun _ => rfl
  | true =>
    rw [zk_t]
    intro hh
    have e := h hh
    unfold zpNumOk at hc
    have l := (zpRn_le (t := t) (lo := 48) (hi := 57) (Nat.le_of_eq e)).1
    rw [decide_eq_false (show ¬ s.1 < zpRn t n 48 57 s.1 by omega), Bool.false_and] at hc
    cases hc
theorem zpFg_e {t : Nat → Int32} {n : Nat} {s : Nat × Int32} (h : ¬ s.2 = -1 → s.1 = n) : ¬ (zpFg t n s).2.2 = -1 → (zpFg t n s).2.1 = n := by
  unfold zpFg
  cases hc : zpFgOk t n s.1 with
  | false => rw [zk_f]; exact fun _ => rfl
  | true =>
    rw [zk_t]
    intro hh
    have e := h hh
    unfold zpFgOk at hc
    have l := (zpRn_le (t := t) (lo := 48) (hi := 57) (Nat.le_of_eq e)).1
    rw [decide_eq_false (show ¬ zpRn t n 48 57 s.1 = s.1 + 4 by omega), Bool.false_and] at hc
    cases hc
theorem zpHs_e {t : Nat → Int32} {n k : Nat} {s : Nat × Int32} (hk : 0 < (zpW k).length) (h : ¬ s.2 = -1 → s.1 = n) (hc : zpHas t n k s = true) : s.2 = -1 := by
  by_cases c : s.2 = -1
  · exact c
  · have e := h c
    unfold zpHas zpIs at hc
    have l := (zpRn_le (t := t) (lo := 97) (hi := 122) (Nat.le_of_eq e)).1
    rw [decide_eq_false (show ¬ zpRn t n 97 122 s.1 = s.1 + (zpW k).length by omega), Bool.false_and] at hc
    cases hc
theorem zpNW_e {t : Nat → Int32} {n k : Nat} {s : Nat × Int32} (hk : 0 < (zpW k).length) (h : ¬ s.2 = -1 → s.1 = n) : ¬ (zpNW t n k s).2 = -1 → (zpNW t n k s).1 = n := by
  unfold zpNW
  cases hc : zpHas t n k s with
  | false => rw [zk_f]; exact fun _ => rfl
  | true => rw [zk_t]; exact fun hh => absurd (zpHs_e hk h hc) hh
theorem zpMk_e {t : Nat → Int32} {n : Nat} {s : Nat × Int32} (h : ¬ s.2 = -1 → s.1 = n) : ∀ i, ¬ (zpMk t n s i).2.2 = -1 → (zpMk t n s i).2.1 = n
  | 0 => h
  | i + 1 => zpFg_e (zpMk_e h i)
theorem zpK4_e {t : Nat → Int32} {n : Nat} {s : Nat × Int32} (h : ¬ s.2 = -1 → s.1 = n) : ¬ (zpK4 t n s).2.2 = -1 → (zpK4 t n s).2.1 = n := by
  unfold zpK4
  cases hc : zpHas t n 2 s with
  | false => rw [zk_f]; exact h
  | true =>
    rw [zk_t]
    exact zpNm_e (s := zpAft t n 2 s) (fun hh => absurd (zpHs_e (by decide) h hc) hh)
theorem zpK5_e {t : Nat → Int32} {n : Nat} {s : Nat × Int32} (h : ¬ s.2 = -1 → s.1 = n) : ¬ (zpK5 t n s).2.2 = -1 → (zpK5 t n s).2.1 = n := by
  unfold zpK5
  cases hc : zpHas t n 3 s with
  | false => rw [zk_f]; exact h
  | true =>
    rw [zk_t]
    exact zpKd_e (s := zpAft t n 3 s) (fun hh => absurd (zpHs_e (by decide) h hc) hh)
/-! frames -/
theorem zT_fr {N N' : zMem} {t : Nat → Int32} {n : Nat} {s : Nat × Int32} (h : zT N t n s) (hf : ∀ a i, a = 2 ∨ a = 3 → N' a i = N a i) : zT N' t n s := by
  obtain ⟨h2, hn, ht, h3, hp, h4⟩ := h
  exact ⟨(hf 2 2 (Or.inl rfl)).trans h2, hn, fun i hi => (hf 3 i (Or.inr rfl)).trans (ht i hi), (hf 2 3 (Or.inl rfl)).trans h3, hp, (hf 2 4 (Or.inl rfl)).trans h4⟩
theorem zR_fr {R R' : zMem} {t : Nat → Int32} {n d : Nat} {s : Nat × Int32} (h : zR R t n s d) (hf : ∀ a i, ¬ (a = 195 ∧ i < 309) → R' a i = R a i) : zR R' t n s d := by
  obtain ⟨⟨hn, h10, ht⟩, h12, ⟨h13, hd⟩, q, q1, q2, q3⟩ := h
  have e : ∀ i, R' 194 i = R 194 i := fun i => hf 194 i (by omega)
  refine ⟨⟨hn, (e 10).trans h10, ?_⟩, (e 12).trans h12, ⟨(e 13).trans h13, hd⟩, q, (e 11).trans q1, q2, q3⟩
  rcases ht with ⟨a, b⟩ | ⟨a, b⟩
  · exact Or.inl ⟨(e 9).trans a, fun i hi => (hf 199 i (by omega)).trans (b i hi)⟩
  · exact Or.inr ⟨(e 9).trans a, fun i hi => (hf 195 _ (by omega)).trans (b i hi)⟩
/-- both sides while a text of the shop is read -/
def zSs (N R N' R' : zMem) (t : Nat → Int32) (n : Nat) (s' : Nat × Int32) : Prop := zT N' t n s' ∧ zR R' t n s' 0 ∧ (s'.2 = -1 → zc_St N' 15 (R' 195)) ∧ (∀ a i, ¬ (15 ≤ a ∧ a ≤ 25) → ¬ (a = 2 ∧ (i = 3 ∨ i = 4)) → N' a i = N a i) ∧ (∀ a i, ¬ (a = 195 ∧ 3 ≤ i ∧ i < 309) → ¬ (a = 194 ∧ (i = 11 ∨ i = 12 ∨ i = 13)) → R' a i = R a i) ∧ (¬ s'.2 = -1 → s'.1 = n)
theorem zix9 : ∀ v, v < 8 → (((9 : Int32) + ((3 : Int32) * Int32.ofNat v)) + (0 : Int32) = Int32.ofNat (9 + 3 * v + 0) ∧ ((9 : Int32) + ((3 : Int32) * Int32.ofNat v)) + (1 : Int32) = Int32.ofNat (9 + 3 * v + 1) ∧ ((9 : Int32) + ((3 : Int32) * Int32.ofNat v)) + (2 : Int32) = Int32.ofNat (9 + 3 * v + 2)) := by decide +kernel
theorem zbif_f {α : Type} {P : α → Prop} {b : Bool} {x y : α} (hx : P x) (hy : P y) : P (bif b then x else y) := by
  cases b
  · rw [zk_f]; exact hy
  · rw [zk_t]; exact hx
theorem zKw_f (M : zMem) : ∀ a i, ¬ (16 ≤ a ∧ a ≤ 18) → w_H_readKind M a i = zcK5 M a i := by
  intro a i h
  rw [zcKe]
  refine zbif_f (P := fun W : zMem => W a i = zcK5 M a i) rfl (zbif_f (P := fun W : zMem => W a i = zcK5 M a i) ?_ rfl)
  have b0 : (zz_up (zcK5 M) 16 (v_T_takeKind M).toNatClampNeg (zcK3 M).1) a i = zcK5 M a i := zu_o (by omega)
  have b1 : (zz_up (zz_up (zcK5 M) 16 (v_T_takeKind M).toNatClampNeg (zcK3 M).1) 17 (v_T_takeKind M).toNatClampNeg (zcD4 M)) a i = zcK5 M a i := (zu_o (by omega)).trans b0
  have b2 : (bif (decide ((zcD4 M) = (-1 : Int32))) then (zz_up (zcK5 M) 16 (v_T_takeKind M).toNatClampNeg (zcK3 M).1) else (zz_up (zz_up (zcK5 M) 16 (v_T_takeKind M).toNatClampNeg (zcK3 M).1) 17 (v_T_takeKind M).toNatClampNeg (zcD4 M))) a i = zcK5 M a i := zbif_f (P := fun W : zMem => W a i = zcK5 M a i) b0 b1
  exact zbif_f (P := fun W : zMem => W a i = zcK5 M a i) b2 ((zu_o (by omega)).trans b2)
theorem zS_kind {N R : zMem} {t : Nat → Int32} {n : Nat} {s : Nat × Int32} (hs : s.2 = -1) (hT : zT N t n s) (hR : zR R t n s 0) (hS : zc_St N 15 (R 195)) : ∃ s', zSs N R (w_H_readKind N) (w_D_kindLine R) t n s' ∧ ok_H_readKind N ∧ ok_D_kindLine R := by
  obtain ⟨k, hk⟩ : ∃ k, k = zpKd t n s := ⟨_, rfl⟩
  obtain ⟨m, hm⟩ : ∃ m, m = zpMk t n (zpNW t n 1 k.2) 4 := ⟨_, rfl⟩
  obtain ⟨e, he⟩ : ∃ e, e = zpK4 t n m.2 := ⟨_, rfl⟩
  obtain ⟨f, hf⟩ : ∃ f, f = zpK5 t n e.2 := ⟨_, rfl⟩
  obtain ⟨c1, c2, c3, c4, c5, c6, c7⟩ := zT_kl hT hk hm he hf
  obtain ⟨r1, r2, r3, r4⟩ := zR_kl hR hk hm he hf
  have hn := hT.2.1
  have hs1 := hT.2.2.2.2.1
  have n1 := (zT_nw (zT_kd hT).2.1 1 (by decide)).1.2.2.2.2.1
  rw [← hk] at n1
  have mr := zpMk_r (t := t) hn n1 4 (by omega)
  rw [← hm] at mr
  have kr : k.2.2 = -1 → ∃ v, v < 8 ∧ k.1 = Int32.ofNat v := fun h => by
    rw [hk] at h ⊢; exact zpKd_r hn hs1 h
  have okc : ok_H_readKind N := c7 (fun a b => by
    rw [c1] at a b ⊢
    rw [zg_lt0] at a
    rw [zi_lti, show (8 : Int32).toInt = 8 from rfl] at b
    have a' := of_decide_eq_false a
    have b' := of_decide_eq_true b
    have ek : k.1 = Int32.ofNat k.1.toInt.toNat := zi_eq (by rw [zi_val (by omega)]; omega)
    rw [ek]
    exact zi_in (by omega) (by omega))
  have okd : ok_D_kindLine R := r4 (fun h => by
    rw [r1.2.1] at h
    obtain ⟨p1, -, -, p4, -⟩ := r3 (of_decide_eq_true h)
    obtain ⟨v, v1, v2⟩ := kr p1
    obtain ⟨i0, i1, i2⟩ := zix9 v v1
    rw [p4, v2, i0, i1, i2]
    exact ⟨zi_in (by omega) (by omega), zi_in (by omega) (by omega), zi_in (by omega) (by omega)⟩)
  have hTk : zT (w_H_readKind N) t n f.2 := zT_fr c5 (fun a i h => zKw_f N a i (by omega))
  have hfN : ∀ a i, ¬ (15 ≤ a ∧ a ≤ 25) → ¬ (a = 2 ∧ (i = 3 ∨ i = 4)) → w_H_readKind N a i = N a i := fun a i h1 h2 => (zKw_f N a i (by omega)).trans (c6 a i h2)
  have hE : ¬ f.2.2 = -1 → f.2.1 = n := by
    rw [hf, he, hm, hk]
    exact zpK5_e (zpK4_e (zpMk_e (zpNW_e (by decide) (zpKd_e (fun hh => absurd hs hh))) 4))
  refine ⟨f.2, ?_, okc, okd⟩
  by_cases hg : f.2.2 = -1
  · obtain ⟨p1, p2, p3, p4, p5, p6, p7⟩ := r3 hg
    obtain ⟨v, v1, v2⟩ := kr p1
    obtain ⟨u, u1, u2⟩ := mr.2 p2
    obtain ⟨i0, i1, i2⟩ := zix9 v v1
    have hm0 : zrk 0 m.1 := by
      rw [u2]
      show zrg 0 65535 (Int32.ofNat u)
      exact ⟨by rw [zi_val (by omega)]; omega, by rw [zi_val (by omega)]; omega⟩
    have ev : (Int32.ofNat v).toNatClampNeg = v := zi_nat (by omega)
    have hS5 : zc_St (zcK5 N) 15 ((zdX5 R) 195) := zc_pt (fun a i h1 h2 h3 => c6 a i (by omega)) (fun i hi => r2 195 i (by omega)) hS
    have cl0 : decide ((v_T_takeKind N) < 0) = false := by rw [c1, v2, zg_lt0, zi_val (by omega)]; exact decide_eq_false (by omega)
    have cl8 : decide ((v_T_takeKind N) < (8 : Int32)) = true := by rw [c1, v2, zi_lti, zi_val (by omega), show (8 : Int32).toInt = 8 from rfl]; exact decide_eq_true (by omega)
    have d12 : decide ((zdX5 R) 194 12 = (-1 : Int32)) = true := by rw [r1.2.1]; exact decide_eq_true hg
    have S0 : zc_St (zz_up (zcK5 N) 16 v m.1) 15 ((zz_up (zdX5 R) 195 (9 + 3 * v + 0) m.1) 195) := zc_uK hS5 v1 (by omega) hm0
    have S1 : zc_St (bif decide (e.1 = (-1 : Int32)) then (zz_up (zcK5 N) 16 v m.1) else (zz_up (zz_up (zcK5 N) 16 v m.1) 17 v e.1)) 15 ((bif decide (e.1 = (-1 : Int32)) then (zz_up (zdX5 R) 195 (9 + 3 * v + 0) m.1) else (zz_up (zz_up (zdX5 R) 195 (9 + 3 * v + 0) m.1) 195 (9 + 3 * v + 1) e.1)) 195) := by
      by_cases ce : e.1 = (-1 : Int32)
      · rw [decide_eq_true ce, zk_t, zk_t]; exact S0
      · rw [decide_eq_false ce, zk_f, zk_f]
        refine zc_uK (f := 1) S0 v1 (by omega) ?_
        show zrg 0 7 e.1
        rw [he] at ce p3 ⊢
        unfold zpK4 at ce p3 ⊢
        cases hc : zpHas t n 2 m.2 with
        | false => rw [hc, zk_f] at ce; exact absurd rfl ce
        | true =>
          rw [hc, zk_t] at p3
          rw [zk_t]
          have hle := (zpG_hs hc mr.1).1
          exact zpNm_r (m := 7) hn hle p3
    have eW : w_H_readKind N = (bif decide (f.1 = (-1 : Int32)) then (bif decide (e.1 = (-1 : Int32)) then (zz_up (zcK5 N) 16 v m.1) else (zz_up (zz_up (zcK5 N) 16 v m.1) 17 v e.1)) else (zz_up (bif decide (e.1 = (-1 : Int32)) then (zz_up (zcK5 N) 16 v m.1) else (zz_up (zz_up (zcK5 N) 16 v m.1) 17 v e.1)) 18 v f.1)) := by
      rw [zcKe, cl0, cl8, c1, c2, c3, c4, v2, ev, zk_f, zk_t]
    have eV : w_D_kindLine R = (bif decide (zdV5 R = (-2 : Int32)) then (bif decide (e.1 = (-1 : Int32)) then (zz_up (zdX5 R) 195 (9 + 3 * v + 0) m.1) else (zz_up (zz_up (zdX5 R) 195 (9 + 3 * v + 0) m.1) 195 (9 + 3 * v + 1) e.1)) else (zz_up (bif decide (e.1 = (-1 : Int32)) then (zz_up (zdX5 R) 195 (9 + 3 * v + 0) m.1) else (zz_up (zz_up (zdX5 R) 195 (9 + 3 * v + 0) m.1) 195 (9 + 3 * v + 1) e.1)) 195 (9 + 3 * v + 2) (zdV5 R))) := by
      rw [zdKe, d12, p4, p5, p6, v2, i0, i1, i2, zi_nat (show 9 + 3 * v + 0 < 2147483648 by omega), zi_nat (show 9 + 3 * v + 1 < 2147483648 by omega), zi_nat (show 9 + 3 * v + 2 < 2147483648 by omega), zk_t]
    have hSt : zc_St (w_H_readKind N) 15 ((w_D_kindLine R) 195) := by
      rw [eW, eV]
      rcases p7 with ⟨q1, q2⟩ | ⟨q1, q2⟩
      · have hfk : ∃ w, w < 8 ∧ f.1 = Int32.ofNat w := by
          rw [hf] at hg ⊢
          unfold zpK5 at hg ⊢
          rw [q1, zk_t] at hg
          rw [q1, zk_t]
          have hel : e.2.1 ≤ n := by
            rw [he]
            unfold zpK4
            cases hc : zpHas t n 2 m.2 with
            | false => rw [zk_f]; exact mr.1
            | true => rw [zk_t]; exact (zpG_nm hn (zpG_hs hc mr.1).1).1
          exact zpKd_r hn (zpG_hs q1 hel).1 hg
        obtain ⟨w, w1, w2⟩ := hfk
        have d2 : ¬ Int32.ofNat w = (-2 : Int32) := fun hh => by
          have := congrArg Int32.toInt hh
          rw [zi_val (by omega), show (-2 : Int32).toInt = -2 from rfl] at this
          omega
        rw [q2, w2, decide_eq_false (zne1 (by omega)), decide_eq_false d2, zk_f, zk_f]
        refine zc_uK (f := 2) S1 v1 (by omega) ?_
        show zrg (-1) 7 (Int32.ofNat w)
        exact ⟨by rw [zi_val (by omega)]; omega, by rw [zi_val (by omega)]; omega⟩
      · have hf1 : f.1 = -1 := by
          rw [hf]
          unfold zpK5
          rw [q1, zk_f]
        rw [q2, hf1, decide_eq_true rfl, decide_eq_true rfl, zk_t, zk_t]
        exact S1
    have hVf : ∀ a i, ¬ (a = 195 ∧ 9 ≤ i ∧ i < 309) → w_D_kindLine R a i = zdX5 R a i := fun a i h => by
      rw [eV]
      have b0 : (zz_up (zdX5 R) 195 (9 + 3 * v + 0) m.1) a i = zdX5 R a i := zu_o (by omega)
      have b2 : (bif decide (e.1 = (-1 : Int32)) then (zz_up (zdX5 R) 195 (9 + 3 * v + 0) m.1) else (zz_up (zz_up (zdX5 R) 195 (9 + 3 * v + 0) m.1) 195 (9 + 3 * v + 1) e.1)) a i = zdX5 R a i := zbif_f (P := fun W : zMem => W a i = zdX5 R a i) b0 ((zu_o (by omega)).trans b0)
      exact zbif_f (P := fun W : zMem => W a i = zdX5 R a i) b2 ((zu_o (by omega)).trans b2)
    exact ⟨hTk, zR_fr r1 (fun a i h => hVf a i (by omega)), fun _ => hSt, hfN, fun a i h1 h2 => (hVf a i (by omega)).trans (r2 a i h2), hE⟩
  · have d12 : decide ((zdX5 R) 194 12 = (-1 : Int32)) = false := by rw [r1.2.1]; exact decide_eq_false hg
    have eV : w_D_kindLine R = zdX5 R := by
      rw [zdKe, d12]
      exact zk_f _ _
    rw [eV]
    exact ⟨hTk, r1, fun hh => absurd hh hg, hfN, fun a i h1 h2 => r2 a i h2, hE⟩
