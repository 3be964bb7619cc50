/-! call 21; within -/
theorem zwb_stop {M : zMem} (hI : zv_Inv M) {k i : Nat} (hk : k < 8) (hi : i ≤ 8) (h : zwy M k i = 8 ∨ ∃ j, j < i ∧ zwy M k j = zwy M k i) : zwb M k i = zwb M k 8 := by
  apply Nat.eq_of_testBit_eq
  intro b
  apply Bool.eq_iff_iff.mpr
  rw [zwb_t, zwb_t]
  refine ⟨fun ⟨j, a1, a2, a3⟩ => ⟨j, by omega, a2, a3⟩, fun ⟨j, a1, a2, a3⟩ => ?_⟩
  rcases h with h | ⟨u, hu, hv⟩
  · by_cases cj : j < i
    · exact ⟨j, cj, a2, a3⟩
    · exfalso
      have key2 : ∀ d, zwy M k (i + d) = 8 := by
        intro d
        induction d with
        | zero => exact h
        | succ d ihd => exact zwy_8 (by show ¬ zwy M k (i + d) < 8; omega)
      have := key2 (j - i)
      rw [show i + (j - i) = j by omega] at this
      omega
  · induction j using Nat.strongRecOn with
    | _ j ih =>
      by_cases cj : j < i
      · exact ⟨j, cj, a2, a3⟩
      · have e := zwy_c hv (j - i)
        rw [show i + (j - i) = j by omega] at e
        exact ih (u + (j - i)) (by omega) (by omega) (by rw [e]; exact a2) (by rw [e]; exact a3)
theorem zD_wit {M M' : zMem} (hI : zv_Inv M) (h : M' 195 = M 195) {k : Nat} (hk : k < 8) : v_D_within M' (Int32.ofNat k) = Int32.ofNat (zwb M k 8) ∧ ok_D_within M' (Int32.ofNat k) := by
  unfold v_D_within ok_D_within
  refine zf_wq (g := g_D_within_1 M' (Int32.ofNat k)) (k := kb_D_within_1 M' (Int32.ofNat k)) (fun i (s : Int32 × Int32) => i ≤ 8 ∧ s.1 = Int32.ofNat (zwb M k i) ∧ s.2 = zno (zwy M k i)) (fun s => s.1 = Int32.ofNat (zwb M k 8)) 8 (fun i s ⟨hi, h1, h2⟩ => ?_) 1000 0 ((0 : Int32), Int32.ofNat k) ⟨by omega, rfl, (zno_lt hk).symm⟩ (by omega)
  have hw := zwy_le hI (k := k) (by omega) i
  obtain ⟨q1, q2, q3⟩ := zno_neg hw
  unfold g_D_within_1 kb_D_within_1
  rw [h1, h2, q3]
  by_cases c : zwy M k i < 8
  · rw [decide_eq_false (not_not_intro c), zno_lt c]
    have hb := zwb_lt M k i
    rw [zN_isOf (by omega) (by omega)]
    cases ht : (zwb M k i).testBit (zwy M k i) with
    | true =>
      refine ⟨hi, (fun _ h => by cases h), (fun h => by cases h), fun _ => ?_⟩
      obtain ⟨j, j1, j2, j3⟩ := (zwb_t M k i _).mp ht
      show Int32.ofNat (zwb M k i) = _
      rw [zwb_stop hI hk hi (Or.inr ⟨j, j1, j3⟩)]
    | false =>
      have hi8 : i < 8 := by
        by_cases c8 : i < 8
        · exact c8
        · exfalso
          have e8 : i = 8 := by omega
          subst e8
          obtain ⟨j, j1, -, j3, j4⟩ := zwy_in hI hk 8 c
          have := (zwb_t M k 8 _).mpr ⟨j, j1, j4 j (Nat.le_refl j), j3⟩
          rw [ht] at this
          cases this
      refine ⟨hi, fun _ _ => zd_kdk M' c (k := 2) (by omega), fun _ => ⟨by omega, ?_, ?_⟩, (fun h => by cases h)⟩
      · show Int32.ofNat (zwb M k i) ||| zsl (1 : Int32) (Int32.ofNat (zwy M k i)) = _
        rw [zN_sl1 _ (by omega), zN_or, Nat.one_shiftLeft]
        show _ = Int32.ofNat (bif decide (zwy M k i < 8) then zwb M k i ||| 2 ^ (zwy M k i) else zwb M k i)
        rw [decide_eq_true c, zk_t]
      · show v_D_ofKind M' (Int32.ofNat (zwy M k i)) (2 : Int32) = _
        rw [show v_D_ofKind M' (Int32.ofNat (zwy M k i)) (2 : Int32) = M 7 (zwy M k i) from zq_kd hI h c 2 (by omega)]
        exact zwy_s hI (by omega) c
  · rw [decide_eq_true c]
    refine ⟨hi, (fun h => by cases h), (fun h => by cases h), fun _ => ?_⟩
    show Int32.ofNat (zwb M k i) = _
    rw [zwb_stop hI hk hi (Or.inl (by omega))]
theorem zD_rg {M : zMem} (hI : zv_Inv M) {k u : Nat} (hk : k < 8) (hu : u < 8) (hd : v_D_isKind (Int32.ofNat k) = true) : (zf_wh 1000 (g_D_ring_1 M (Int32.ofNat k)) 0 (Int32.ofNat u) = Int32.ofNat k ↔ (zwb M u 8).testBit k = true) ∧ zf_wk 1000 (g_D_ring_1 M (Int32.ofNat k)) (kb_D_ring_1 M (Int32.ofNat k)) 0 (Int32.ofNat u) := by
  refine zf_wq (g := g_D_ring_1 M (Int32.ofNat k)) (k := kb_D_ring_1 M (Int32.ofNat k)) (fun i (a : Int32) => i ≤ 8 ∧ a = zno (zwy M u i) ∧ ∀ j, j < i → zwy M u j ≠ k) (fun a => (a = Int32.ofNat k ↔ (zwb M u 8).testBit k = true)) 8 (fun i a ⟨hi, h1, h2⟩ => ?_) 1000 0 (Int32.ofNat u) ⟨by omega, (zno_lt hu).symm, fun j hj => by omega⟩ (by omega)
  have hw := zwy_le hI (k := u) (by omega) i
  obtain ⟨q1, q2, q3⟩ := zno_neg hw
  have non : (∀ j, j < 8 → zwy M u j < 8 → zwy M u j ≠ k) → ¬ (zwb M u 8).testBit k = true := by
    intro hn hh
    obtain ⟨j, j1, j2, j3⟩ := (zwb_t M u 8 k).mp hh
    exact hn j j1 j2 j3
  have hnk : ∀ v, v ≤ 8 → v ≠ k → ¬ zno v = Int32.ofNat k := by
    intro v hv hne hh
    by_cases cv : v < 8
    · rw [zno_lt cv] at hh
      exact hne ((zN_inj (by omega) (by omega)).mp hh)
    · rw [show v = 8 by omega] at hh
      have := congrArg Int32.toInt hh
      rw [zi_val (by omega), zno_8] at this
      have e9 : (-1 : Int32).toInt = -1 := rfl
      omega
  unfold g_D_ring_1 kb_D_ring_1
  rw [h1, zi_8i (by omega), q3, hd]
  by_cases c8 : 8 ≤ i
  · rw [decide_eq_true c8]
    simp only [zk_t]
    have e8 : i = 8 := by omega
    subst e8
    refine ⟨hi, (fun hh => by cases hh), (fun hh => by cases hh), fun _ => ?_⟩
    have n8 : zwy M u 8 ≠ k := by
      intro hh
      obtain ⟨j, j1, -, j3, -⟩ := zwy_in hI hu 8 (by omega)
      exact h2 j j1 (by omega)
    exact ⟨fun hh => absurd hh (hnk _ hw n8), fun hh => absurd hh (non (fun j j1 _ => h2 j j1))⟩
  · rw [decide_eq_false c8]
    by_cases cw : zwy M u i < 8
    · rw [decide_eq_false (not_not_intro cw), zno_lt cw, zN_eq (by omega) (by omega)]
      by_cases ce : zwy M u i = k
      · rw [decide_eq_true ce]
        simp only [zk_t, zk_f]
        refine ⟨hi, (fun _ _ hh => by cases hh), (fun hh => by cases hh), fun _ => ?_⟩
        exact ⟨fun _ => (zwb_t M u 8 k).mpr ⟨i, by omega, cw, ce⟩, fun _ => by rw [ce]⟩
      · rw [decide_eq_false ce]
        simp only [zk_t, zk_f]
        refine ⟨hi, fun _ _ _ => zd_kdk _ cw (k := 2) (by omega), fun _ => ⟨by omega, ?_, fun j hj => ?_⟩, (fun hh => by cases hh)⟩
        · exact (zq_kd hI (zq_h M _) cw 2 (by omega)).trans (zwy_s hI (by omega) cw)
        · by_cases ej : j = i
          · rw [ej]; exact ce
          · exact h2 j (by omega)
    · rw [decide_eq_true cw]
      simp only [zk_t, zk_f]
      refine ⟨hi, (fun _ hh => by cases hh), (fun hh => by cases hh), fun _ => ?_⟩
      refine ⟨fun hh => absurd hh (hnk _ hw (by omega)), fun hh => absurd hh (non (fun j j1 j2 => ?_))⟩
      by_cases cj : j < i
      · exact h2 j cj
      · exfalso
        have key2 : ∀ d, zwy M u (i + d) = 8 := by
          intro d
          induction d with
          | zero => show zwy M u i = 8; omega
          | succ d ihd => exact zwy_8 (by show ¬ zwy M u (i + d) < 8; omega)
        have := key2 (j - i)
        rw [show i + (j - i) = j by omega] at this
        omega
theorem zo21 : zo_21 zv_Inv := by
  intro M x hI
  unfold ok_N_ring t_N_ring ok_D_ring v_N_ring v_D_ring w_D_ring v_D_isKind
  rcases zg_k x with ⟨k, hk, e, en, t, i⟩ | ⟨t, i⟩
  · subst e
    have h : (zz_up M 194 0 0) 195 = M 195 := zq_h M 0
    have ek : v_D_ofKind (zz_up M 194 0 0) (Int32.ofNat k) (2 : Int32) = M 7 k := zq_kd hI h hk 2 (by omega)
    simp only [t, i, zn_0, zk_t, zb_f, zd_0]
    rw [ek]
    have hD : (zf_wh 1000 (g_D_ring_1 M (Int32.ofNat k)) 0 (M 7 k) = Int32.ofNat k ↔ v_E_comesBack M (Int32.ofNat k) = true) ∧ zf_wk 1000 (g_D_ring_1 M (Int32.ofNat k)) (kb_D_ring_1 M (Int32.ofNat k)) 0 (M 7 k) ∧ ok_E_comesBack M (Int32.ofNat k) := by
      unfold v_E_comesBack ok_E_comesBack
      rw [zi_nat (by omega)]
      have hd : v_D_isKind (Int32.ofNat k) = true := i
      by_cases c : M 7 k = -1
      · have g0 : g_D_ring_1 M (Int32.ofNat k) 0 (M 7 k) = (false, M 7 k) := by
          unfold g_D_ring_1
          rw [decide_eq_true c]
          simp only [zk_t]
          cases decide ((8 : Int32) ≤ Int32.ofNat 0) <;> rfl
        rw [zf_w0 (n := 999) g0, decide_eq_true c]
        refine ⟨⟨fun hh => ?_, (fun hh => by cases hh)⟩, zf_k0 g0 (fun _ hh => ?_), zi_in hk (by omega), (fun hh => by cases hh)⟩
        · rw [c] at hh
          have := congrArg Int32.toInt hh
          rw [zi_val (by omega)] at this
          have e9 : (-1 : Int32).toInt = -1 := rfl
          omega
        · rw [decide_eq_true c] at hh; cases hh
      · obtain ⟨u, hu, eu⟩ := zq_hd hI hk c
        rw [eu]
        obtain ⟨w1, w2⟩ := zE_all hI hu 0
        have hb := zwb_lt M u 8
        have cu : ¬ Int32.ofNat u = -1 := by rw [← eu]; exact c
        rw [decide_eq_false cu, zk_f, w1, zN_b1 (by omega) (by omega)]
        obtain ⟨hQ1, hQ2⟩ := zD_rg hI hk hu hd
        refine ⟨?_, hQ2, zi_in hk (by omega), fun _ => w2⟩
        rw [hQ1]
        cases (zwb M u 8).testBit k <;> decide
    obtain ⟨d1, d2, d3⟩ := hD
    refine ⟨fun _ => d3, Or.inl trivial, fun _ => ⟨zd_kdk _ hk (k := 2) (by omega), d2⟩, rfl, fun _ => ?_, zv_th hI _⟩
    cases hb : v_E_comesBack M (Int32.ofNat k) with
    | true => exact (decide_eq_true (d1.mpr hb)).symm
    | false =>
      refine (decide_eq_false (fun hh => ?_)).symm
      rw [d1.mp hh] at hb
      cases hb
  · simp only [t, i, zn_3, zk_f, zb_t, zd_1]
    exact ⟨(fun h => by cases h), Or.inr trivial, (fun h => by cases h), rfl, (fun h => by cases h), zv_th hI _⟩
