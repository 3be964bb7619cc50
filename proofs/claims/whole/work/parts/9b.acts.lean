/-! calls 12, 13, 15, 16 -/
theorem zi_k1 {p k : Nat} (hp : p < 8) (hk : k < 3) : (((9 : Int32) + ((3 : Int32) * Int32.ofNat p)) + Int32.ofNat k).toNatClampNeg = 9 + 3 * p + k ∧ zz_in (((9 : Int32) + ((3 : Int32) * Int32.ofNat p)) + Int32.ofNat k) 709 = true := ⟨zx_ki p hp k hk, zx_kii p hp k hk⟩
theorem zr_n7 {d : Nat} (hd : d < 8) : zrg 0 7 (Int32.ofNat d) := ⟨by rw [zi_val (by omega)]; omega, by rw [zi_val (by omega)]; omega⟩
theorem zo12 : zo_12 zv_Inv := by
  intro M x y hI
  rcases zg_k x with ⟨p, hp, e, en, t, i⟩ | ⟨t, i⟩
  · subst e
    rcases zg_d y with ⟨d, hd, e2, -, t2, i2⟩ | ⟨t2, i2⟩
    · subst e2
      obtain ⟨N1, hN1⟩ : ∃ N, N = zz_up (w_A_remember M) (4 + 1 + 1) p (Int32.ofNat d) := ⟨_, rfl⟩
      have e1 : w_N_told M (Int32.ofNat p) (Int32.ofNat d) = N1 := by
        unfold w_N_told
        rw [t, t2, en, hN1]
        simp only [zn_0, zk_t]
      obtain ⟨N2, hN2⟩ : ∃ N, N = zz_up N1 194 0 0 := ⟨_, rfl⟩
      obtain ⟨r0, r195, o1, o2, rA, rD, r194, hS, fin⟩ := zA_set (N1 := N1) (N2 := N2) hI (fun a j h => by rw [hN1, zu_o (by omega)]) (fun a j h => by rw [hN2, zu_o h])
      obtain ⟨ix, iy⟩ := zi_k1 hp (k := 1) (by omega)
      have ix : (((9 : Int32) + ((3 : Int32) * Int32.ofNat p)) + (1 : Int32)).toNatClampNeg = 9 + 3 * p + 1 := ix
      have e2 : w_D_told N1 (Int32.ofNat p) (Int32.ofNat d) = zz_up (w_D_remembers N2) 195 (9 + 3 * p + 1) (Int32.ofNat d) := by
        unfold w_D_told w_D_sets v_D_isKind
        simp only [i, i2, zk_t, zb_f, zd_0, ix]
        rw [hN2]
      rw [e1]
      unfold ok_N_told t_N_told ok_D_told v_N_told v_D_told ok_D_sets v_D_sets v_D_isKind
      rw [e2]
      simp only [t, t2, i, i2, zn_0, zk_t, zb_f, zd_0, ix]
      rw [← hN2, en]
      refine ⟨fun _ _ => ⟨o1, zi_in hp (by omega)⟩, r0, Or.inl trivial, fun _ => ⟨o2, iy⟩, ?_, fun _ => ?_, fin _ (fun a j h => zu_o (by omega)) ?_⟩
      · unfold v_D_thrown
        rw [zu_o (by omega), r194, hN2, zu_eq]; rfl
      · rw [rA 6 p (by omega) (by omega), rD]
        exact ((zc_Kj (zv_St hI).1) p hp 1 (by omega)).1
      · rw [hN1]
        exact zc_uK hS hp (by omega) (show zrg 0 7 (Int32.ofNat d) from zr_n7 hd)
    · unfold ok_N_told t_N_told ok_D_told v_N_told v_D_told w_D_told w_N_told v_D_isKind
      simp only [t, t2, i, i2, zn_0, zn_3, zk_f, zk_t, zb_t, zd_1]
      exact ⟨(fun _ h => by cases h), fun _ => trivial, Or.inr trivial, (fun h => by cases h), rfl, (fun h => by cases h), zv_th hI _⟩
  · unfold ok_N_told t_N_told ok_D_told v_N_told v_D_told w_D_told w_N_told v_D_isKind
    simp only [t, i, zn_3, zk_f, zb_t, zd_1]
    exact ⟨(fun h => by cases h), fun _ => trivial, Or.inr trivial, (fun h => by cases h), rfl, (fun h => by cases h), zv_th hI _⟩
theorem zo13 : zo_13 zv_Inv := by
  intro M x y hI
  rcases zg_k x with ⟨p, hp, e, en, t, i⟩ | ⟨t, i⟩
  · subst e
    have good : ∀ hv : zrg (-1) 7 y, w_N_hold M (Int32.ofNat p) y = zz_up (w_A_remember M) (4 + 1 + 2) p y → (∀ N, w_D_hold N (Int32.ofNat p) y = zz_up (w_D_remembers (zz_up N 194 0 0)) 195 (9 + 3 * p + 2) y) → (∀ N, v_D_hold N (Int32.ofNat p) y = w_D_remembers (zz_up N 194 0 0) 195 (9 + 3 * p + 2)) → (∀ N, ok_D_remembers (zz_up N 194 0 0) → ok_D_hold N (Int32.ofNat p) y) → v_N_hold M (Int32.ofNat p) y = w_A_remember M 7 p → t_N_hold M (Int32.ofNat p) y = 0 → (ok_A_remember M → ok_N_hold M (Int32.ofNat p) y) → (ok_N_hold M (Int32.ofNat p) y ∧ (∀ i, (w_N_hold M (Int32.ofNat p) y) 0 i = M 0 i) ∧ ((t_N_hold M (Int32.ofNat p) y) = 0 ∨ (t_N_hold M (Int32.ofNat p) y) = 3) ∧ ok_D_hold (w_N_hold M (Int32.ofNat p) y) (Int32.ofNat p) y ∧ v_D_thrown (w_D_hold (w_N_hold M (Int32.ofNat p) y) (Int32.ofNat p) y) = zcd [2] (t_N_hold M (Int32.ofNat p) y) ∧ ((t_N_hold M (Int32.ofNat p) y) = 0 → (v_N_hold M (Int32.ofNat p) y) = (v_D_hold (w_N_hold M (Int32.ofNat p) y) (Int32.ofNat p) y)) ∧ zv_Inv (w_D_hold (w_N_hold M (Int32.ofNat p) y) (Int32.ofNat p) y)) := by
      intro hv e1 e2 e3 e4 e5 e6 e7
      obtain ⟨N1, hN1⟩ : ∃ N, N = zz_up (w_A_remember M) (4 + 1 + 2) p y := ⟨_, rfl⟩
      obtain ⟨N2, hN2⟩ : ∃ N, N = zz_up N1 194 0 0 := ⟨_, rfl⟩
      obtain ⟨r0, r195, o1, o2, rA, rD, r194, hS, fin⟩ := zA_set (N1 := N1) (N2 := N2) hI (fun a j h => by rw [hN1, zu_o (by omega)]) (fun a j h => by rw [hN2, zu_o h])
      rw [e1, ← hN1, e2, e3, e5, e6]
      rw [hN2] at o2
      refine ⟨e7 o1, r0, Or.inl rfl, e4 N1 o2, ?_, fun _ => ?_, ?_⟩
      · unfold v_D_thrown
        rw [← hN2, zu_o (by omega), r194, hN2, zu_eq]; rfl
      · rw [rA 7 p (by omega) (by omega), ← hN2, rD]
        exact ((zc_Kj (zv_St hI).1) p hp 2 (by omega)).1
      · rw [← hN2]
        refine fin _ (fun a j h => zu_o (by omega)) ?_
        rw [hN1]
        exact zc_uK hS hp (by omega) (show zrg (-1) 7 y from hv)
    obtain ⟨ix, iy⟩ := zi_k1 hp (k := 2) (by omega)
    have ix : (((9 : Int32) + ((3 : Int32) * Int32.ofNat p)) + (2 : Int32)).toNatClampNeg = 9 + 3 * p + 2 := ix
    by_cases c : y = -1
    · have hc := decide_eq_true c
      refine good ⟨by rw [c]; decide, by rw [c]; decide⟩ ?_ (fun N => ?_) (fun N => ?_) (fun N ho => ?_) ?_ ?_ (fun ho => ?_)
      · unfold w_N_hold
        simp only [t, en, hc, zn_0, zk_t]
      · unfold w_D_hold w_D_sets v_D_isKind
        simp only [i, hc, zk_t, zb_f, zd_0, ix]
      · unfold v_D_hold v_D_sets v_D_isKind
        simp only [i, hc, zk_t, zb_f, zd_0, ix]
      · unfold ok_D_hold ok_D_sets v_D_isKind
        simp only [i, hc, zk_t, zb_f, zd_0]
        exact fun _ => ⟨ho, iy⟩
      · unfold v_N_hold
        simp only [t, en, hc, zn_0, zk_t]
      · unfold t_N_hold
        simp only [t, hc, zn_0, zk_t]
      · unfold ok_N_hold
        simp only [t, hc]
        exact fun _ => ⟨fun _ => ⟨ho, zi_in hp (by omega)⟩, (fun h => by cases h)⟩
    · have hc := decide_eq_false c
      rcases zg_k y with ⟨d, hd, e2, -, t2, i2⟩ | ⟨t2, i2⟩
      · refine good ⟨by rw [e2, zi_val (by omega)]; omega, by rw [e2, zi_val (by omega)]; omega⟩ ?_ (fun N => ?_) (fun N => ?_) (fun N ho => ?_) ?_ ?_ (fun ho => ?_)
        · unfold w_N_hold
          simp only [t, t2, en, hc, zn_0, zk_t, zk_f]
        · unfold w_D_hold w_D_sets v_D_isKind
          simp only [i, i2, hc, zk_t, zk_f, zb_f, zd_0, ix]
        · unfold v_D_hold v_D_sets v_D_isKind
          simp only [i, i2, hc, zk_t, zk_f, zb_f, zd_0, ix]
        · unfold ok_D_hold ok_D_sets v_D_isKind
          simp only [i, i2, hc, zk_t, zk_f, zb_f, zd_0]
          exact fun _ => ⟨ho, iy⟩
        · unfold v_N_hold
          simp only [t, t2, en, hc, zn_0, zk_t, zk_f]
        · unfold t_N_hold
          simp only [t, t2, hc, zn_0, zk_t, zk_f]
        · unfold ok_N_hold
          simp only [t, t2, hc]
          exact fun _ => ⟨(fun h => by cases h), fun _ _ => ⟨ho, zi_in hp (by omega)⟩⟩
      · unfold ok_N_hold t_N_hold ok_D_hold v_N_hold v_D_hold w_D_hold w_N_hold v_D_isKind
        simp only [t, t2, i, i2, hc, zn_0, zn_3, zk_f, zk_t, zb_t, zd_1]
        exact ⟨fun _ => ⟨(fun h => by cases h), (fun _ h => by cases h)⟩, fun _ => trivial, Or.inr trivial, (fun h => by cases h), rfl, (fun h => by cases h), zv_th hI _⟩
  · unfold ok_N_hold t_N_hold ok_D_hold v_N_hold v_D_hold w_D_hold w_N_hold v_D_isKind
    simp only [t, i, zn_3, zk_f, zb_t, zd_1]
    exact ⟨(fun h => by cases h), fun _ => trivial, Or.inr trivial, (fun h => by cases h), rfl, (fun h => by cases h), zv_th hI _⟩
/-- a number from a up to b -/
theorem zg_rg {x a b : Int32} : (decide (x < a) = false ∧ decide (x ≤ b) = true ∧ v_D_isIn x a b = true ∧ a.toInt ≤ x.toInt ∧ x.toInt ≤ b.toInt) ∨ ((decide (x < a) = true ∨ (decide (x < a) = false ∧ decide (x ≤ b) = false)) ∧ v_D_isIn x a b = false) := by
  rw [zg_in, zi_lti, zi_lei]
  by_cases h1 : x.toInt < a.toInt
  · exact Or.inr ⟨Or.inl (decide_eq_true h1), decide_eq_false (by omega)⟩
  · by_cases h2 : x.toInt ≤ b.toInt
    · exact Or.inl ⟨decide_eq_false h1, decide_eq_true h2, decide_eq_true ⟨by omega, h2⟩, by omega, h2⟩
    · exact Or.inr ⟨Or.inr ⟨decide_eq_false h1, decide_eq_false h2⟩, decide_eq_false (by omega)⟩
theorem zo15 : zo_15 zv_Inv := by
  intro M x y hI
  rcases zg_p hI (M' := M) rfl x with ⟨p, hp, e, en, t, i⟩ | ⟨t, i⟩
  · subst e
    rcases zg_rg (x := y) (a := 0) (b := 9) with ⟨g1, g2, g3, g4, g5⟩ | ⟨g1, g3⟩
    · obtain ⟨N1, hN1⟩ : ∃ N, N = zz_up (w_A_remember M) (4 + 4 + 3) p y := ⟨_, rfl⟩
      have e1 : w_N_luck M (Int32.ofNat p) y = N1 := by
        unfold w_N_luck
        rw [t, en, hN1]
        simp only [g1, g2, zn_0, zk_t, zk_f]
      obtain ⟨N2, hN2⟩ : ∃ N, N = zz_up N1 194 0 0 := ⟨_, rfl⟩
      obtain ⟨r0, r195, o1, o2, rA, rD, r194, hS, fin⟩ := zA_set (N1 := N1) (N2 := N2) hI (fun a j h => by rw [hN1, zu_o (by omega)]) (fun a j h => by rw [hN2, zu_o h])
      have hi := (zi_one (Int32.ofNat p) N1 r195).trans i
      obtain ⟨ix, iy⟩ := zi_f1 hp (k := 3) (by omega)
      have ix : (((33 : Int32) + ((6 : Int32) * Int32.ofNat p)) + (3 : Int32)).toNatClampNeg = 33 + 6 * p + 3 := ix
      have e2 : w_D_luck N1 (Int32.ofNat p) y = zz_up (w_D_remembers N2) 195 (33 + 6 * p + 3) y := by
        unfold w_D_luck w_D_sets
        simp only [hi, g3, zk_t, zd_0, ix]
        rw [hN2]
      rw [e1]
      unfold ok_N_luck t_N_luck ok_D_luck v_N_luck v_D_luck ok_D_sets v_D_sets
      rw [e2]
      simp only [t, hi, g1, g2, g3, zn_0, zk_t, zk_f, zd_0, ix]
      rw [← hN2, en]
      refine ⟨fun _ _ _ => ⟨o1, zq_in hp⟩, r0, Or.inl trivial, fun _ => ⟨o2, iy⟩, ?_, fun _ => ?_, fin _ (fun a j h => zu_o (by omega)) ?_⟩
      · unfold v_D_thrown
        rw [zu_o (by omega), r194, hN2, zu_eq]; rfl
      · rw [rA 11 p (by omega) (by omega), rD]
        exact ((zc_Pj (zv_St hI).2.1) p hp 3 (by omega)).1
      · rw [hN1]
        exact zc_uP hS hp (by omega) (show zrg 0 9 y from ⟨g4, g5⟩)
    · unfold ok_N_luck t_N_luck ok_D_luck v_N_luck v_D_luck w_D_luck w_N_luck
      rcases g1 with g1 | ⟨g1, g2⟩
      · simp only [t, i, g1, g3, zn_0, zk_f, zk_t, zd_2]
        exact ⟨(fun _ h => by cases h), fun _ => trivial, Or.inr (Or.inr trivial), (fun h => by cases h), rfl, (fun h => by cases h), zv_th hI _⟩
      · simp only [t, i, g1, g2, g3, zn_0, zk_f, zk_t, zd_2]
        exact ⟨(fun _ _ h => by cases h), fun _ => trivial, Or.inr (Or.inr trivial), (fun h => by cases h), rfl, (fun h => by cases h), zv_th hI _⟩
  · unfold ok_N_luck t_N_luck ok_D_luck v_N_luck v_D_luck w_D_luck w_N_luck
    simp only [t, i, zn_3, zk_f, zd_1]
    exact ⟨(fun h => by cases h), fun _ => trivial, Or.inr (Or.inl trivial), (fun h => by cases h), rfl, (fun h => by cases h), zv_th hI _⟩
theorem zi_pu {u v : Int32} (hu : zrg 0 9999 u) (hv : zrg 1 999 v) : v_jm_min (u + v) (9999 : Int32) = v_D_lesser (9999 : Int32) (u + v) ∧ zrg 0 9999 (v_D_lesser (9999 : Int32) (u + v)) := by
  have e9 : (9999 : Int32).toInt = 9999 := rfl
  have a1 := hu.1
  have a2 := hu.2
  have b1 := hv.1
  have b2 := hv.2
  have hs : (u + v).toInt = u.toInt + v.toInt := by
    rw [Int32.toInt_add]
    exact Int.bmod_eq_of_le (by omega) (by omega)
  refine ⟨zi_eq ?_, ?_, ?_⟩
  · rw [zi_min, zi_les, e9]; omega
  · rw [zi_les, e9, hs]; omega
  · rw [zi_les, e9, hs]; omega
theorem zo16 : zo_16 zv_Inv := by
  intro M y hI
  rcases zg_rg (x := y) (a := 1) (b := 999) with ⟨g1, g2, g3, g4, g5⟩ | ⟨g1, g3⟩
  · have hF := zv_F hI
    obtain ⟨q1, q2⟩ := zi_pu hF.2.2.2.2.1 (show zrg 1 999 y from ⟨g4, g5⟩)
    obtain ⟨tt, kk, -, -, -, -, -, okA, -, -, w3, -⟩ := zr_N hI
    have wA : w_A_remember M 4 13 = M 4 13 := w3 4 13 (by omega) (by omega)
    obtain ⟨N1, hN1⟩ : ∃ N, N = zz_up (w_A_remember M) 4 13 (v_D_lesser (9999 : Int32) (M 4 13 + y)) := ⟨_, rfl⟩
    have e1 : w_N_fill M y = N1 := by
      unfold w_N_fill
      rw [hN1]
      simp only [g1, g2, zk_t, zk_f]
      rw [wA, q1]
    obtain ⟨N2, hN2⟩ : ∃ N, N = zz_up N1 194 0 0 := ⟨_, rfl⟩
    obtain ⟨r0, r195, o1, o2, rA, rD, r194, hS, fin⟩ := zA_set (N1 := N1) (N2 := N2) hI (fun a j h => by rw [hN1, zu_o (by omega)]) (fun a j h => by rw [hN2, zu_o h])
    have e6 : N1 195 6 = M 4 13 := by rw [r195]; exact hF.1.2.2.2.1.symm
    have ix : (6 : Int32).toNatClampNeg = 6 := rfl
    have e2 : w_D_fill N1 y = zz_up (w_D_remembers N2) 195 6 (v_D_lesser (9999 : Int32) (M 4 13 + y)) := by
      unfold w_D_fill w_D_sets
      simp only [g3, zk_t, zb_f, zd_0, ix, e6]
      rw [hN2]
    rw [e1]
    unfold ok_N_fill t_N_fill ok_D_fill v_N_fill v_D_fill ok_D_sets w_D_sets
    rw [e2]
    simp only [g1, g2, g3, zk_t, zk_f, zb_f, zd_0, ix, e6, wA]
    rw [← hN2]
    refine ⟨fun _ _ => o1, r0, Or.inl trivial, fun _ => ⟨o2, rfl⟩, ?_, fun _ => ?_, fin _ (fun a j h => zu_o (by omega)) ?_⟩
    · unfold v_D_thrown
      rw [zu_o (by omega), r194, hN2, zu_eq]; rfl
    · rw [zu_eq, q1]
    · rw [hN1]
      exact zc_uF13 hS q2
  · unfold ok_N_fill t_N_fill ok_D_fill v_N_fill v_D_fill w_D_fill w_N_fill
    rcases g1 with g1 | ⟨g1, g2⟩
    · simp only [g1, g3, zk_f, zk_t, zb_t, zd_1]
      exact ⟨(fun h => by cases h), fun _ => trivial, Or.inr trivial, (fun h => by cases h), rfl, (fun h => by cases h), zv_th hI _⟩
    · simp only [g1, g2, g3, zk_f, zk_t, zb_t, zd_1]
      exact ⟨(fun _ h => by cases h), fun _ => trivial, Or.inr trivial, (fun h => by cases h), rfl, (fun h => by cases h), zv_th hI _⟩
