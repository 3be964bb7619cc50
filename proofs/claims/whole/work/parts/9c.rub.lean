/-! calls 14, 9, 10 -/
theorem zr_S0 {M : zMem} (hI : zv_Inv M) : zc_St (w_A_remember M) 4 (M 195) ∧ ok_A_remember M ∧ (∀ a i, 4 ≤ a → a ≤ 14 → w_A_remember M a i = M a i) := by
  obtain ⟨t, k, -, -, -, -, -, ok, -, -, w3, -⟩ := zr_N hI
  exact ⟨zc_pt (fun a i a1 a2 _ => w3 a i (by omega) (by omega)) (fun i _ => rfl) (zv_St hI), ok, fun a i a1 a2 => w3 a i (by omega) (by omega)⟩
theorem zu_cm {M : zMem} {a i b j : Nat} {x y : Int32} (h : ¬ (a = b ∧ i = j)) : zz_up (zz_up M a i x) b j y = zz_up (zz_up M b j y) a i x := by
  funext c k
  by_cases h1 : c = b ∧ k = j
  · obtain ⟨e1, e2⟩ := h1
    subst e1
    subst e2
    rw [zu_eq, zu_o (by omega), zu_eq]
  · rw [zu_o h1]
    by_cases h2 : c = a ∧ k = i
    · obtain ⟨e1, e2⟩ := h2
      subst e1
      subst e2
      rw [zu_eq, zu_eq]
    · rw [zu_o h2, zu_o h2, zu_o h1]
theorem zo14 : zo_14 zv_Inv := by
  intro M x y hI
  rcases zg_p hI (M' := M) rfl x with ⟨p, hp, e, en, t, i⟩ | ⟨t, i⟩
  · subst e
    rcases zg_d y with ⟨d, hd, e2, -, t2, i2⟩ | ⟨t2, i2⟩
    · subst e2
      have hS0 := zv_St hI
      obtain ⟨b, hb, eb⟩ := zh_dn hS0 hp
      have eb : M 12 p = Int32.ofNat b := eb
      have hof : ∀ X : zMem, X 195 = M 195 → v_D_of X (Int32.ofNat p) (4 : Int32) = Int32.ofNat b := fun X hX => by
        rw [show v_D_of X (Int32.ofNat p) (4 : Int32) = M 12 p from zq_of hI hX hp 4 (by omega)]; exact eb
      have hbit := zN_bit (x := b) (k := d) (by omega) (by omega)
      have hisof := zN_isOf (x := b) (k := d) (by omega) (by omega)
      obtain ⟨-, okA, rW⟩ := zr_S0 hI
      have eW : w_A_remember M 12 p = Int32.ofNat b := by rw [rW 12 p (by omega) (by omega)]; exact eb
      cases hc : b.testBit d with
      | true =>
        rw [hc] at hbit hisof
        have hM1 := hof (zz_up M 194 0 0) (zq_h M 0)
        unfold ok_N_does t_N_does ok_D_does v_N_does v_D_does w_D_does w_N_does zy_l
        simp only [t, t2, i, i2, en, eb, hbit, hisof, hM1, Bool.not_true, zn_0, zk_f, zk_t, zb_f, zd_0, zd_2]
        exact ⟨fun _ _ => ⟨zq_in hp, (fun h => by cases h)⟩, fun _ => trivial, Or.inr (Or.inr trivial), fun _ => ⟨(zh_ok _ hp).2.2.2.2.1, (fun h => by cases h)⟩, rfl, (fun h => by cases h), zv_th (zv_th hI _) _⟩
      | false =>
        rw [hc] at hbit hisof
        obtain ⟨v, hv⟩ : ∃ v, v = Int32.ofNat b ||| zsl (1 : Int32) (Int32.ofNat d) := ⟨_, rfl⟩
        have hvr : zrg 0 255 v := by
          have h2 : (2 : Nat) ^ d < 2 ^ 8 := Nat.pow_lt_pow_right (by omega) hd
          have h3 : b ||| 2 ^ d < 2 ^ 8 := Nat.or_lt_two_pow (by omega) h2
          rw [hv, zN_sl1 d (by omega), Nat.one_shiftLeft, zN_or]
          exact ⟨by rw [zi_val (by omega)]; omega, by rw [zi_val (by omega)]; omega⟩
        obtain ⟨N1, hN1⟩ : ∃ N, N = zz_up (w_A_remember M) (4 + 4 + 4) p v := ⟨_, rfl⟩
        have e1 : w_N_does M (Int32.ofNat p) (Int32.ofNat d) = N1 := by
          unfold w_N_does
          simp only [t, t2, en, eb, eW, hbit, Bool.not_false, zn_0, zk_t]
          rw [hN1, hv]
        obtain ⟨N2, hN2⟩ : ∃ N, N = zz_up (zz_up N1 194 0 0) 194 0 0 := ⟨_, rfl⟩
        obtain ⟨r0, r195, o1, o2, rA, rD, r194, hS, fin⟩ := zA_set (N1 := N1) (N2 := N2) hI (fun a j h => by rw [hN1, zu_o (by omega)]) (fun a j h => by rw [hN2, zu_o h, zu_o h])
        have hi := (zi_one (Int32.ofNat p) N1 r195).trans i
        have hf1 := hof (zz_up N1 194 0 0) r195
        have hf2 := hof (zz_up (zz_up N1 194 0 0) 194 0 0) r195
        obtain ⟨ix, iy⟩ := zi_f1 hp (k := 4) (by omega)
        have ix : (((33 : Int32) + ((6 : Int32) * Int32.ofNat p)) + (4 : Int32)).toNatClampNeg = 33 + 6 * p + 4 := ix
        have e2 : w_D_does N1 (Int32.ofNat p) (Int32.ofNat d) = zz_up (w_D_remembers N2) 195 (33 + 6 * p + 4) v := by
          unfold w_D_does w_D_sets zy_l
          simp only [hi, i2, hf1, hf2, hisof, zk_t, zk_f, zb_f, zd_0, ix]
          rw [hN2, hv]
        rw [e1]
        unfold ok_N_does t_N_does ok_D_does v_N_does v_D_does ok_D_sets w_D_sets zy_l
        rw [e2]
        simp only [t, t2, hi, i2, en, eb, eW, hbit, hf1, hf2, hisof, Bool.not_false, zn_0, zk_t, zk_f, zb_f, zd_0, ix]
        rw [← hN2, ← hv]
        refine ⟨fun _ _ => ⟨zq_in hp, fun _ => o1⟩, r0, Or.inl trivial, fun _ => ⟨(zh_ok _ hp).2.2.2.2.1, fun _ => ⟨(zh_ok _ hp).2.2.2.2.1, ⟨o2, iy⟩, (zh_ok _ hp).2.2.2.2.1⟩⟩, ?_, fun _ => ?_, fin _ (fun a j h => zu_o (by omega)) ?_⟩
        · unfold v_D_thrown
          rw [zu_o (by omega), r194, hN2, zu_eq]; rfl
        · refine Eq.trans ?_ (zd_of (zz_up (w_D_remembers N2) 195 (33 + 6 * p + 4) v) hp (k := 4) (by omega)).symm
          rw [zu_eq]
        · rw [hN1]
          exact zc_uP hS hp (by omega) (show zrg 0 255 v from hvr)
    · unfold ok_N_does t_N_does ok_D_does v_N_does v_D_does w_D_does w_N_does
      simp only [t, t2, i, i2, zn_0, zn_3, zk_f, zk_t, zb_t, zd_1]
      exact ⟨(fun _ h => by cases h), fun _ => trivial, Or.inr (Or.inl trivial), (fun h => by cases h), rfl, (fun h => by cases h), zv_th hI _⟩
  · unfold ok_N_does t_N_does ok_D_does v_N_does v_D_does w_D_does w_N_does
    simp only [t, i, zn_3, zk_f, zb_t, zd_1]
    exact ⟨(fun h => by cases h), fun _ => trivial, Or.inr (Or.inl trivial), (fun h => by cases h), rfl, (fun h => by cases h), zv_th hI _⟩
theorem zo9 : zo_9 zv_Inv := by
  intro M x y hI
  rcases zg_p hI (M' := M) rfl x with ⟨p, hp, e, en, t, i⟩ | ⟨t, i⟩
  · subst e
    rcases zg_l y with ⟨d, hd, e2, -, t2, i2⟩ | ⟨t2, i2⟩
    · subst e2
      have hS0 := zv_St hI
      obtain ⟨b, hb, eb⟩ := zh_rb hS0 hp
      have eb : M 9 p = Int32.ofNat b := eb
      have hof : ∀ X : zMem, X 195 = M 195 → v_D_of X (Int32.ofNat p) (1 : Int32) = Int32.ofNat b := fun X hX => by
        rw [show v_D_of X (Int32.ofNat p) (1 : Int32) = M 9 p from zq_of hI hX hp 1 (by omega)]; exact eb
      have hbit := zN_bit (x := b) (k := d) (by omega) (by omega)
      have hisof := zN_isOf (x := b) (k := d) (by omega) (by omega)
      obtain ⟨hSA, okA, rW⟩ := zr_S0 hI
      have eW : w_A_remember M 9 p = Int32.ofNat b := by rw [rW 9 p (by omega) (by omega)]; exact eb
      cases hc : b.testBit d with
      | true =>
        rw [hc] at hbit hisof
        have hM1 := hof (zz_up M 194 0 0) (zq_h M 0)
        have ep : (zz_up M 194 0 (0 : Int32)) 194 0 = 0 := zu_eq
        unfold ok_N_rub t_N_rub ok_D_rub v_N_rub v_D_rub w_D_rub w_N_rub w_D_isPlace
        simp only [t, t2, i, i2, en, eb, hbit, hisof, hM1, ep, Bool.not_true, zn_0, zk_f, zk_t, zb_f, zd_0, zd_2]
        exact ⟨fun _ _ => ⟨zq_in hp, (fun h => by cases h)⟩, fun _ => trivial, Or.inr (Or.inr trivial), fun _ => ⟨(zh_ok _ hp).2.1, (fun h => by cases h)⟩, rfl, (fun h => by cases h), zv_th (zv_th hI _) _⟩
      | false =>
        rw [hc] at hbit hisof
        obtain ⟨v, hv⟩ : ∃ v, v = Int32.ofNat b ||| zsl (1 : Int32) (Int32.ofNat d) := ⟨_, rfl⟩
        have hvr : zrg 0 65535 v := by
          have h2 : (2 : Nat) ^ d < 2 ^ 16 := Nat.pow_lt_pow_right (by omega) hd
          have h3 : b ||| 2 ^ d < 2 ^ 16 := Nat.or_lt_two_pow (by omega) h2
          rw [hv, zN_sl1 d (by omega), Nat.one_shiftLeft, zN_or]
          exact ⟨by rw [zi_val (by omega)]; omega, by rw [zi_val (by omega)]; omega⟩
        obtain ⟨N0, hN0⟩ : ∃ N, N = zz_up (w_A_remember M) (4 + 4 + 1) p v := ⟨_, rfl⟩
        have hF0 : zc_F N0 4 (M 195) := zc_FC (fun j _ _ => by rw [hN0, zu_o (by omega)]) (fun j _ => rfl) hSA.2.2.1
        obtain ⟨tt, cc, ht, hcc, -, -, okR, ew⟩ := zl_N hF0 (Int32.ofNat p) (1 : Int32) (Int32.ofNat d)
        obtain ⟨N1, hN1⟩ : ∃ N, N = w_S_addRow N0 4 (Int32.ofNat p) (1 : Int32) (Int32.ofNat d) := ⟨_, rfl⟩
        have e1 : w_N_rub M (Int32.ofNat p) (Int32.ofNat d) = N1 := by
          unfold w_N_rub
          simp only [t, t2, en, eb, eW, hbit, Bool.not_false, zn_0, zk_t]
          rw [hN1, hN0, hv]
        obtain ⟨N2, hN2⟩ : ∃ N, N = zz_up (zz_up N1 194 0 0) 194 0 0 := ⟨_, rfl⟩
        obtain ⟨r0, r195, o1, o2, rA, rD, r194, hS, fin⟩ := zA_set (N1 := N1) (N2 := N2) hI (fun a j h => by rw [hN1, ew, zu_o (by omega), zu_o (by omega), zu_o (by omega), hN0, zu_o (by omega)]) (fun a j h => by rw [hN2, zu_o h, zu_o h])
        have hi := (zi_one (Int32.ofNat p) N1 r195).trans i
        have hf1 := hof (zz_up N1 194 0 0) r195
        have hf2 := hof (zz_up (zz_up N1 194 0 0) 194 0 0) r195
        have ep : (zz_up N1 194 0 (0 : Int32)) 194 0 = 0 := zu_eq
        obtain ⟨ix, iy⟩ := zi_f1 hp (k := 1) (by omega)
        have ix : (((33 : Int32) + ((6 : Int32) * Int32.ofNat p)) + (1 : Int32)).toNatClampNeg = 33 + 6 * p + 1 := ix
        obtain ⟨X, hX⟩ : ∃ N, N = zz_up (w_D_remembers N2) 195 (33 + 6 * p + 1) v := ⟨_, rfl⟩
        obtain ⟨⟨l1, l2, l3, l4, l5, l6, l7⟩, okL⟩ := zl_D X (1 : Int32) (Int32.ofNat p) (Int32.ofNat d)
        have e2 : w_D_rub N1 (Int32.ofNat p) (Int32.ofNat d) = w_D_logs X (1 : Int32) (Int32.ofNat p) (Int32.ofNat d) := by
          unfold w_D_rub w_D_sets w_D_isPlace
          simp only [hi, i2, hf1, hf2, hisof, ep, zk_t, zk_f, zb_f, zd_0, ix]
          rw [hX, hN2, hv]
        have hS3 : zc_St N1 4 ((w_D_logs X (1 : Int32) (Int32.ofNat p) (Int32.ofNat d)) 195) := by
          rw [hN1, hX, hN0]
          exact zc_uG (q := 1) (zc_uP hS hp (f := 1) (by omega) (show zrg 0 65535 v from hvr)) (by omega) (by omega) (by omega)
        have e3 : v_D_rub N1 (Int32.ofNat p) (Int32.ofNat d) = v_D_isOf (v_D_marksOf (w_D_logs X (1 : Int32) (Int32.ofNat p) (Int32.ofNat d)) (Int32.ofNat p)) (Int32.ofNat d) := by
          unfold v_D_rub w_D_sets w_D_isPlace
          simp only [hi, i2, hf1, hf2, hisof, ep, zk_t, zk_f, zb_f, zd_0, ix]
          rw [hX, hN2, hv]
        have e4 : v_N_rub M (Int32.ofNat p) (Int32.ofNat d) = (bif decide ((v_S_marksOf N1 4 (Int32.ofNat p) &&& zsl (1 : Int32) (Int32.ofNat d)) = 0) then false else true) := by
          unfold v_N_rub
          simp only [t, t2, en, eb, eW, hbit, Bool.not_false, zn_0, zk_t]
          rw [hN1, hN0, hv]
        have e5 : ok_N_rub M (Int32.ofNat p) (Int32.ofNat d) := by
          unfold ok_N_rub
          simp only [t, t2, en, eb, eW, hbit, Bool.not_false]
          rw [← hv]
          refine fun _ _ => ⟨zq_in hp, fun _ => ⟨o1, ?_, ?_⟩⟩
          · rw [hN0] at okR; exact okR
          · have := (zh_pok hS3 hp).2.2.2.2.1
            rw [hN1, hN0] at this; exact this
        have e6 : ok_D_rub N1 (Int32.ofNat p) (Int32.ofNat d) := by
          unfold ok_D_rub ok_D_sets w_D_sets w_D_isPlace
          simp only [hi, i2, hf1, hf2, hisof, ep, zk_t, zk_f, zb_f, zd_0, ix]
          rw [← hN2, ← hv, ← hX]
          exact fun _ => ⟨(zh_ok _ hp).2.1, fun _ => ⟨(zh_ok _ hp).2.1, ⟨o2, iy⟩, okL, (zh_pok hS3 hp).2.2.2.2.2⟩⟩
        have e7 : t_N_rub M (Int32.ofNat p) (Int32.ofNat d) = 0 := by
          unfold t_N_rub
          simp only [t, t2, en, eb, hbit, Bool.not_false, zn_0, zk_t]
        rw [e1, e2, e3, e4, e7]
        refine ⟨e5, r0, Or.inl rfl, e6, ?_, fun _ => ?_, fin _ (fun a j h => ?_) hS3⟩
        · unfold v_D_thrown
          rw [l7 194 0 (by omega), hX, zu_o (by omega), r194, hN2, zu_eq]; rfl
        · rcases zh_p hS3 hp with ⟨-, -, -, -, -, m1, m2⟩ | ⟨k, d', hk, -, -, -, -, -, -, -, m1, m2⟩
          · rw [m1, m2, show (0 : Int32) = Int32.ofNat 0 from rfl, zN_isOf (by omega) (by omega), show Int32.ofNat 0 &&& zsl (1 : Int32) (Int32.ofNat d) = Int32.ofNat 0 &&& zsl (1 : Int32) (Int32.ofNat d) from rfl, show decide (Int32.ofNat 0 &&& zsl (1 : Int32) (Int32.ofNat d) = Int32.ofNat 0) = !(0 : Nat).testBit d from zN_bit (by omega) (by omega)]
            cases (0 : Nat).testBit d <;> rfl
          · obtain ⟨mm, q1, q2, -⟩ := zr_ex (hS3.1 k hk).2.1
            rw [m1, m2, q2, zN_isOf (by omega) (by omega), zN_bit (by omega) (by omega)]
            cases mm.testBit d <;> rfl
        · rw [l7 a j (by omega), hX, zu_o (by omega)]
    · unfold ok_N_rub t_N_rub ok_D_rub v_N_rub v_D_rub w_D_rub w_N_rub w_D_isPlace
      have ep : (zz_up M 194 0 (1 : Int32)) 194 0 = 1 := zu_eq
      simp only [t, t2, i, i2, ep, zn_0, zn_3, zk_f, zk_t, zb_t, zd_1]
      exact ⟨(fun _ h => by cases h), fun _ => trivial, Or.inr (Or.inl trivial), (fun h => by cases h), rfl, (fun h => by cases h), zv_th hI _⟩
  · unfold ok_N_rub t_N_rub ok_D_rub v_N_rub v_D_rub w_D_rub w_N_rub w_D_isPlace
    have ep : (zz_up M 194 0 (1 : Int32)) 194 0 = 1 := zu_eq
    simp only [t, i, ep, zn_3, zk_f, zb_t, zd_1]
    exact ⟨(fun h => by cases h), fun _ => trivial, Or.inr (Or.inl trivial), (fun h => by cases h), rfl, (fun h => by cases h), zv_th hI _⟩
theorem zo10 : zo_10 zv_Inv := by
  intro M x y hI
  rcases zg_p hI (M' := M) rfl x with ⟨p, hp, e, en, t, i⟩ | ⟨t, i⟩
  · subst e
    rcases zg_k y with ⟨d, hd, e2, -, t2, i2⟩ | ⟨t2, i2⟩
    · subst e2
      have hS0 := zv_St hI
      have hF := zv_F hI
      have hpu := hF.1.2.2.2.1
      obtain ⟨hSA, okA, rW⟩ := zr_S0 hI
      have hplS := (zq_pl hI (M' := M) rfl hp).1
      have hplD : ∀ X : zMem, X 195 = M 195 → v_D_isPlain X (Int32.ofNat p) = decide (M 8 p = -1) := fun X hX => (zq_pl hI hX hp).2.1
      have hokD : ∀ X : zMem, ok_D_isPlain X (Int32.ofNat p) := fun X => (zh_ok X hp).1
      have hokS := (zq_pl hI (M' := M) rfl hp).2.2.1
      by_cases c : M 8 p = -1 ∧ 10 ≤ (M 4 13).toInt
      · obtain ⟨c1, c2⟩ := c
        have d1 := decide_eq_true c1
        have d2 : decide ((10 : Int32) ≤ M 4 13) = true := by rw [zi_lei]; exact decide_eq_true c2
        obtain ⟨v, hv⟩ : ∃ v, v = M 4 13 - (10 : Int32) := ⟨_, rfl⟩
        have hvr : zrg 0 9999 v := by
          have q := hF.2.2.2.2.1.2
          have e10 : (10 : Int32).toInt = 10 := rfl
          rw [hv]
          refine ⟨?_, ?_⟩
          · rw [zi_sub (by omega) (by omega), e10]; omega
          · rw [zi_sub (by omega) (by omega), e10]; omega
        have eW : w_A_remember M 4 13 = M 4 13 := rW 4 13 (by omega) (by omega)
        obtain ⟨N0, hN0⟩ : ∃ N, N = zz_up (zz_up (w_A_remember M) (4 + 4 + 0) p (Int32.ofNat d)) 4 13 v := ⟨_, rfl⟩
        have hN0' : N0 = zz_up (zz_up (w_A_remember M) 4 13 v) (4 + 4 + 0) p (Int32.ofNat d) := by
          rw [hN0]; exact zu_cm (by omega)
        have hu : zrf 0 (Int32.ofNat d) := ⟨by rw [zi_val (by omega)]; omega, by rw [zi_val (by omega)]; omega⟩
        have hSx : zc_St N0 4 ((zz_up (zz_up M 195 6 v) 195 (33 + 6 * p + 0) (Int32.ofNat d)) 195) := by
          rw [hN0']
          exact zc_uP (zc_uF13 (R := M) hSA hvr) hp (by omega) hu
        obtain ⟨tt, cc, ht, hcc, -, -, okR, ew⟩ := zl_N hSx.2.2.1 (Int32.ofNat p) (3 : Int32) (Int32.ofNat d)
        obtain ⟨N1, hN1⟩ : ∃ N, N = w_S_addRow N0 4 (Int32.ofNat p) (3 : Int32) (Int32.ofNat d) := ⟨_, rfl⟩
        have e1 : w_N_ink M (Int32.ofNat p) (Int32.ofNat d) = N1 := by
          unfold w_N_ink
          simp only [t, t2, en, hplS, d1, d2, eW, zn_0, zk_t]
          rw [hN1, hN0, hv]
        obtain ⟨N2, hN2⟩ : ∃ N, N = zz_up (zz_up N1 194 0 0) 194 0 0 := ⟨_, rfl⟩
        obtain ⟨r0, r195, o1, o2, rA, rD, r194, hS, fin⟩ := zA_set (N1 := N1) (N2 := N2) hI (fun a j h => by rw [hN1, ew, zu_o (by omega), zu_o (by omega), zu_o (by omega), hN0, zu_o (by omega), zu_o (by omega)]) (fun a j h => by rw [hN2, zu_o h, zu_o h])
        have hi := (zi_one (Int32.ofNat p) N1 r195).trans i
        have hf1 := hplD (zz_up N1 194 0 0) r195
        have e6 : N1 195 6 = M 4 13 := by rw [r195]; exact hpu.symm
        have ix6 : (6 : Int32).toNatClampNeg = 6 := rfl
        obtain ⟨ix, iy⟩ := zi_f1 hp (k := 0) (by omega)
        have ix : (((33 : Int32) + ((6 : Int32) * Int32.ofNat p)) + (0 : Int32)).toNatClampNeg = 33 + 6 * p + 0 := ix
        obtain ⟨X, hX⟩ : ∃ N, N = zz_up (zz_up (w_D_remembers N2) 195 6 v) 195 (33 + 6 * p + 0) (Int32.ofNat d) := ⟨_, rfl⟩
        obtain ⟨⟨l1, l2, l3, l4, l5, l6, l7⟩, okL⟩ := zl_D X (3 : Int32) (Int32.ofNat p) (Int32.ofNat d)
        have hS3 : zc_St N1 4 ((w_D_logs X (3 : Int32) (Int32.ofNat p) (Int32.ofNat d)) 195) := by
          rw [hN1, hX, hN0']
          exact zc_uG (q := 3) (zc_uP (zc_uF13 hS hvr) hp (f := 0) (by omega) hu) (by omega) (by omega) (by omega)
        have e2 : w_D_ink N1 (Int32.ofNat p) (Int32.ofNat d) = w_D_logs X (3 : Int32) (Int32.ofNat p) (Int32.ofNat d) := by
          unfold w_D_ink w_D_sets w_D_lays zy_l v_D_isKind
          simp only [hi, i2, hf1, d1, d2, e6, zk_t, zk_f, zb_f, zd_0, ix, ix6]
          rw [hX, hN2, hv]
        have e3 : v_D_ink N1 (Int32.ofNat p) (Int32.ofNat d) = w_D_logs X (3 : Int32) (Int32.ofNat p) (Int32.ofNat d) 195 6 := by
          unfold v_D_ink w_D_sets w_D_lays zy_l v_D_isKind
          simp only [hi, i2, hf1, d1, d2, e6, zk_t, zk_f, zb_f, zd_0, ix, ix6]
          rw [hX, hN2, hv]
        have e4 : v_N_ink M (Int32.ofNat p) (Int32.ofNat d) = N1 4 13 := by
          unfold v_N_ink
          simp only [t, t2, en, hplS, d1, d2, eW, zn_0, zk_t]
          rw [hN1, hN0, hv]
        have e5 : ok_N_ink M (Int32.ofNat p) (Int32.ofNat d) := by
          unfold ok_N_ink
          simp only [t, t2, en, hplS, d1, d2, eW]
          rw [← hv]
          refine fun _ _ => ⟨hokS, fun _ _ => ⟨o1, zq_in hp, ?_⟩⟩
          rw [hN0] at okR; exact okR
        have e7 : ok_D_ink N1 (Int32.ofNat p) (Int32.ofNat d) := by
          unfold ok_D_ink ok_D_sets ok_D_lays w_D_sets w_D_lays zy_l v_D_isKind
          simp only [hi, i2, hf1, d1, d2, e6, zk_t, zk_f, zb_f, zd_0, ix, ix6]
          rw [← hN2, ← hv, ← hX]
          exact fun _ => ⟨hokD _, fun _ => ⟨⟨o2, rfl⟩, iy, okL⟩⟩
        have e8 : t_N_ink M (Int32.ofNat p) (Int32.ofNat d) = 0 := by
          unfold t_N_ink
          simp only [t, t2, hplS, d1, d2, zn_0, zk_t]
        rw [e1, e2, e3, e4, e8]
        refine ⟨e5, r0, Or.inl rfl, e7, ?_, fun _ => hS3.2.2.1.1.2.2.2.1, fin _ (fun a j h => ?_) hS3⟩
        · unfold v_D_thrown
          rw [l7 194 0 (by omega), hX, zu_o (by omega), zu_o (by omega), r194, hN2, zu_eq]; rfl
        · rw [l7 a j (by omega), hX, zu_o (by omega), zu_o (by omega)]
      · have hM1 := hplD (zz_up M 194 0 0) (zq_h M 0)
        unfold ok_N_ink t_N_ink ok_D_ink v_N_ink v_D_ink w_D_ink w_N_ink zy_l v_D_isKind
        by_cases c1 : M 8 p = -1
        · have d1 := decide_eq_true c1
          have d2 : decide ((10 : Int32) ≤ M 4 13) = false := by
            rw [zi_lei]
            exact decide_eq_false (fun h => c ⟨c1, h⟩)
          simp only [t, t2, i, i2, hplS, hM1, d1, d2, ← hpu, zn_0, zk_f, zk_t, zb_f, zd_0, zd_2]
          exact ⟨fun _ _ => ⟨hokS, (fun _ h => by cases h)⟩, fun _ => trivial, Or.inr (Or.inr trivial), fun _ => ⟨hokD _, (fun h => by cases h)⟩, rfl, (fun h => by cases h), zv_th (zv_th hI _) _⟩
        · have d1 := decide_eq_false c1
          simp only [t, t2, i, i2, hplS, hM1, d1, zn_0, zk_f, zk_t, zb_f, zd_0, zd_2]
          exact ⟨fun _ _ => ⟨hokS, (fun h => by cases h)⟩, fun _ => trivial, Or.inr (Or.inr trivial), fun _ => ⟨hokD _, (fun h => by cases h)⟩, rfl, (fun h => by cases h), zv_th (zv_th hI _) _⟩
    · unfold ok_N_ink t_N_ink ok_D_ink v_N_ink v_D_ink w_D_ink w_N_ink v_D_isKind
      simp only [t, t2, i, i2, zn_0, zn_3, zk_f, zk_t, zb_t, zd_1]
      exact ⟨(fun _ h => by cases h), fun _ => trivial, Or.inr (Or.inl trivial), (fun h => by cases h), rfl, (fun h => by cases h), zv_th hI _⟩
  · unfold ok_N_ink t_N_ink ok_D_ink v_N_ink v_D_ink w_D_ink w_N_ink v_D_isKind
    simp only [t, i, zn_3, zk_f, zb_t, zd_1]
    exact ⟨(fun h => by cases h), fun _ => trivial, Or.inr (Or.inl trivial), (fun h => by cases h), rfl, (fun h => by cases h), zv_th hI _⟩
