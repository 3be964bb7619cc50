/-! general loops side by side, and their ends; call 19 -/
theorem zf_wcg {α : Type} {g g' : Nat → α → Bool × α} (P : Nat → α → Prop) (h : ∀ i a, P i a → g i a = g' i a ∧ ((g i a).1 = true → P (i + 1) (g i a).2)) : ∀ (n i : Nat) (a : α), P i a → zf_wh n g i a = zf_wh n g' i a
  | 0, _, _, _ => rfl
  | n + 1, i, a, hP => by
    unfold zf_wh
    obtain ⟨h1, h2⟩ := h i a hP
    rw [← h1]
    cases hc : (g i a).1 with
    | false => rfl
    | true =>
      show zf_wh n g (i + 1) (g i a).2 = zf_wh n g' (i + 1) (g i a).2
      exact zf_wcg P h n _ _ (h2 hc)
theorem zf_wke {α : Type} {g : Nat → α → Bool × α} {k : Nat → α → Prop} (P : Nat → α → Prop) (B : Nat) (hB : ∀ i a, P i a → i ≤ B) (h : ∀ i a, P i a → k i a ∧ ((g i a).1 = true → P (i + 1) (g i a).2)) : ∀ (n i : Nat) (a : α), P i a → B < n + i → zf_wk n g k i a
  | 0, i, a, hP, hn => by
    have := hB i a hP
    omega
  | n + 1, i, a, hP, hn => by
    obtain ⟨h1, h2⟩ := h i a hP
    exact ⟨h1, fun hc => zf_wke P B hB h n _ _ (h2 hc) (by omega)⟩
theorem zr_or {a b : Int32} (ha : zrg 0 65535 a) (hb : zrg 0 65535 b) : zrg 0 65535 (a ||| b) := by
  obtain ⟨n, n1, n2, -⟩ := zr_ex ha
  obtain ⟨m, m1, m2, -⟩ := zr_ex hb
  rw [n2, m2, zN_or]
  have h1 : n ||| m < 2 ^ 16 := Nat.or_lt_two_pow (by omega) (by omega)
  unfold zrg
  rw [zi_val (by omega)]
  omega
theorem zt_1 : ∀ i, i < 16 → ((((4 : Int32) * (zrm (Int32.ofNat i) (4 : Int32))) + (4 : Int32)) - (1 : Int32)) - ((Int32.ofNat i) / (4 : Int32)) = (((4 : Int32) * (zrm (Int32.ofNat i) (4 : Int32))) + (3 : Int32)) - ((Int32.ofNat i) / (4 : Int32)) := by decide +kernel
theorem zt_2 : ∀ i, i < 16 → zsl (0 : Int32) ((((4 : Int32) * (zrm (Int32.ofNat i) (4 : Int32))) + (3 : Int32)) - ((Int32.ofNat i) / (4 : Int32))) = 0 := by decide +kernel
theorem zt_3 : ∀ i, i < 16 → 0 ≤ (zsl (1 : Int32) ((((4 : Int32) * (zrm (Int32.ofNat i) (4 : Int32))) + (3 : Int32)) - ((Int32.ofNat i) / (4 : Int32)))).toInt ∧ (zsl (1 : Int32) ((((4 : Int32) * (zrm (Int32.ofNat i) (4 : Int32))) + (3 : Int32)) - ((Int32.ofNat i) / (4 : Int32)))).toInt ≤ 65535 := by decide +kernel
theorem zN_b1 {x k : Nat} (hx : x < 2147483648) (hk : k < 31) : (zsr (Int32.ofNat x) (Int32.ofNat k)) &&& (1 : Int32) = bif x.testBit k then 1 else 0 := by
  rw [zN_sr hx (by omega), show (1 : Int32) = Int32.ofNat 1 from rfl, zN_and, Nat.and_one_is_mod, Nat.shiftRight_eq_div_pow]
  have h1 : x.testBit k = decide (x / 2 ^ k % 2 = 1) := Nat.testBit_eq_decide_div_mod_eq
  by_cases h : x / 2 ^ k % 2 = 1
  · rw [h1, decide_eq_true h, h, zk_t]
  · rw [h1, decide_eq_false h, zk_f, show x / 2 ^ k % 2 = 0 by omega]; rfl
theorem zt_eq {x : Int32} (hx : zrg 0 65535 x) : v_F_turnedOnce x = v_D_turns x ∧ zrg 0 65535 (v_D_turns x) := by
  obtain ⟨n, n1, n2, -⟩ := zr_ex hx
  rw [n2]
  have hs : ∀ i, i < 16 → ∀ a, f_F_turnedOnce_1 (Int32.ofNat n) i a = f_D_turns_1 (Int32.ofNat n) i a := by
    intro i hi a
    unfold f_F_turnedOnce_1 f_D_turns_1
    rw [zN_b1 (by omega) (by omega), zN_isOf (by omega) (by omega), zt_1 i hi]
    cases n.testBit i
    · rw [zk_f, zk_f, zt_2 i hi]
    · rw [zk_t, zk_t]
  refine ⟨zf_cg 16 _ hs, ?_⟩
  unfold v_D_turns
  refine zf_ind (fun _ a => zrg 0 65535 a) 16 ⟨by decide, by decide⟩ (fun i a hi ha => ?_)
  unfold f_D_turns_1
  refine zr_or ha ?_
  cases v_D_isOf (Int32.ofNat n) (Int32.ofNat i)
  · rw [zk_f]; exact ⟨by decide, by decide⟩
  · rw [zk_t]; exact zt_3 i hi
theorem zi_ge4 {i : Nat} (hi : i ≤ 4) : decide ((4 : Int32) ≤ Int32.ofNat i) = decide (4 ≤ i) := by
  rw [zi_lei]
  refine decide_eq_decide.mpr ?_
  rw [zi_val (by omega)]
  have : (4 : Int32).toInt = 4 := rfl
  omega
/-- turns of one, until another one -/
theorem zt_loop {M' : zMem} {x0 x1 a b : Int32} (hb : v_D_ofKind (w_D_areKinds M' x0 x1) x1 (0 : Int32) = b) (hk : ok_D_ofKind (w_D_areKinds M' x0 x1) x1 (0 : Int32)) (y0 : Int32) (ha : zrg 0 65535 a) : zf_wh 1000 (g_F_quarterTurns_1 y0 b) 0 (a, false, 0) = zf_wh 1000 (g_D_turned_1 M' x0 x1) 0 (a, false, 0) ∧ zf_wk 1000 (g_F_quarterTurns_1 y0 b) (kb_F_quarterTurns_1 y0 b) 0 (a, false, 0) ∧ zf_wk 1000 (g_D_turned_1 M' x0 x1) (kb_D_turned_1 M' x0 x1) 0 (a, false, 0) := by
  have hN : ∀ i (s : Int32 × Bool × Int32), (i ≤ 4 ∧ zrg 0 65535 s.1) → g_F_quarterTurns_1 y0 b i s = g_D_turned_1 M' x0 x1 i s ∧ ((g_F_quarterTurns_1 y0 b i s).1 = true → (i + 1 ≤ 4 ∧ zrg 0 65535 (g_F_quarterTurns_1 y0 b i s).2.1)) := by
    intro i s ⟨hi, hs⟩
    obtain ⟨e1, e2⟩ := zt_eq hs
    refine ⟨?_, ?_⟩
    · unfold g_F_quarterTurns_1 g_D_turned_1
      rw [hb, e1]
    · unfold g_F_quarterTurns_1
      rw [zi_ge4 hi]
      by_cases h4 : 4 ≤ i
      · rw [decide_eq_true h4]
        intro h; cases h
      · rw [decide_eq_false h4]
        cases hd : decide (s.1 = b) with
        | true => intro h; cases h
        | false =>
          intro _
          refine ⟨by omega, ?_⟩
          show zrg 0 65535 (v_F_turnedOnce s.1)
          rw [e1]; exact e2
  refine ⟨zf_wcg (fun i s => i ≤ 4 ∧ zrg 0 65535 s.1) hN 1000 0 _ ⟨by omega, ha⟩, zf_wke (fun i s => i ≤ 4 ∧ zrg 0 65535 s.1) 4 (fun i s h => h.1) (fun i s h => ⟨trivial, (hN i s h).2⟩) 1000 0 _ ⟨by omega, ha⟩ (by omega), zf_wke (fun i s => i ≤ 4 ∧ zrg 0 65535 s.1) 4 (fun i s h => h.1) (fun i s h => ⟨fun _ => hk, ?_⟩) 1000 0 _ ⟨by omega, ha⟩ (by omega)⟩
  rw [← (hN i s h).1]
  exact (hN i s h).2
theorem zo19 : zo_19 zv_Inv := by
  intro M x y hI
  have hw : w_D_turned M x y = w_D_areKinds M x y := rfl
  rcases zg_k x with ⟨p, hp, e, en, t, i⟩ | ⟨t, i⟩
  · rcases zg_k y with ⟨q, hq, e2, en2, t2, i2⟩ | ⟨t2, i2⟩
    · have hm : w_D_areKinds M x y = zz_up M 194 0 0 := by
        unfold w_D_areKinds v_D_isKind
        rw [i, i2]; rfl
      have hk0 : v_D_ofKind (w_D_areKinds M x y) x (0 : Int32) = M 5 p := by rw [hm, e]; exact zq_kd hI (zq_h M 0) hp 0 (by omega)
      have hk1 : v_D_ofKind (w_D_areKinds M x y) y (0 : Int32) = M 5 q := by rw [hm, e2]; exact zq_kd hI (zq_h M 0) hq 0 (by omega)
      have ok0 : ok_D_ofKind (w_D_areKinds M x y) x (0 : Int32) := by rw [e]; exact zd_kdk _ hp (k := 0) (by omega)
      have ok1 : ok_D_ofKind (w_D_areKinds M x y) y (0 : Int32) := by rw [e2]; exact zd_kdk _ hq (k := 0) (by omega)
      obtain ⟨l1, l2, l3⟩ := zt_loop hk1 ok1 (M 5 p) (zv_K hI hp).2.1
      have hth : decide ((w_D_areKinds M x y) 194 0 ≤ 0) = true := by rw [hm]; rfl
      unfold ok_N_turned t_N_turned ok_D_turned v_N_turned v_D_turned w_D_turned
      rw [t, t2, en, en2, hth, hk0]
      refine ⟨fun _ _ => ⟨by rw [e]; exact zi_in hp (by omega), by rw [e2]; exact zi_in hq (by omega), l2⟩, Or.inl rfl, fun _ => ⟨ok0, l3⟩, by rw [hm]; rfl, fun _ => ?_, by rw [hm]; exact zv_th hI 0⟩
      show v_F_quarterTurns (M 5 p) (M 5 q) = (bif (zf_wh 1000 (g_D_turned_1 M x y) 0 (M 5 p, false, 0)).2.1 then (zf_wh 1000 (g_D_turned_1 M x y) 0 (M 5 p, false, 0)).2.2 else (-1 : Int32))
      unfold v_F_quarterTurns
      rw [l1]
    · have hm : w_D_areKinds M x y = zz_up M 194 0 1 := by
        unfold w_D_areKinds v_D_isKind
        rw [i, i2]; rfl
      have hth : decide ((w_D_areKinds M x y) 194 0 ≤ 0) = false := by rw [hm]; rfl
      unfold ok_N_turned t_N_turned ok_D_turned v_N_turned v_D_turned w_D_turned
      rw [t, t2, hth, hm]
      exact ⟨(fun _ h => by cases h), Or.inr rfl, (fun h => by cases h), rfl, (fun h => by cases h), zv_th hI _⟩
  · have hm : w_D_areKinds M x y = zz_up M 194 0 1 := by
      unfold w_D_areKinds v_D_isKind
      rw [i]; rfl
    have hth : decide ((w_D_areKinds M x y) 194 0 ≤ 0) = false := by rw [hm]; rfl
    unfold ok_N_turned t_N_turned ok_D_turned v_N_turned v_D_turned w_D_turned
    rw [t, hth, hm]
    exact ⟨(fun h => by cases h), Or.inr rfl, (fun h => by cases h), rfl, (fun h => by cases h), zv_th hI _⟩
