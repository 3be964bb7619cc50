/-! GUARDS: who is a person, a kind, a place; loops side by side; calls 7, 17, 38, 39, 41. -/
theorem zf_sim {α β : Type} {f : Nat → α → α} {g : Nat → β → β} (R : Nat → α → β → Prop) {a : α} {b : β} : ∀ (n : Nat), R 0 a b → (∀ i x y, i < n → R i x y → R (i + 1) (f i x) (g i y)) → R n (zf_for n f a) (zf_for n g b)
  | 0, h, _ => h
  | n + 1, h, hs => hs n _ _ (Nat.lt_succ_self n) (zf_sim R n h (fun i x y hi => hs i x y (Nat.lt_succ_of_lt hi)))
theorem zf_ind {α : Type} {f : Nat → α → α} (P : Nat → α → Prop) {a : α} : ∀ (n : Nat), P 0 a → (∀ i x, i < n → P i x → P (i + 1) (f i x)) → P n (zf_for n f a)
  | 0, h, _ => h
  | n + 1, h, hs => hs n _ (Nat.lt_succ_self n) (zf_ind P n h (fun i x hi => hs i x (Nat.lt_succ_of_lt hi)))
theorem zg_in (x a b : Int32) : v_D_isIn x a b = decide (a.toInt ≤ x.toInt ∧ x.toInt ≤ b.toInt) := by
  unfold v_D_isIn
  by_cases h1 : x < a
  · rw [decide_eq_true h1]
    rw [Int32.lt_iff_toInt_lt] at h1
    rw [show decide (a.toInt ≤ x.toInt ∧ x.toInt ≤ b.toInt) = false from decide_eq_false (by omega)]; rfl
  · rw [decide_eq_false h1]
    rw [Int32.lt_iff_toInt_lt] at h1
    by_cases h2 : b < x
    · rw [decide_eq_true h2]
      rw [Int32.lt_iff_toInt_lt] at h2
      rw [show decide (a.toInt ≤ x.toInt ∧ x.toInt ≤ b.toInt) = false from decide_eq_false (by omega)]; rfl
    · rw [decide_eq_false h2]
      rw [Int32.lt_iff_toInt_lt] at h2
      rw [show decide (a.toInt ≤ x.toInt ∧ x.toInt ≤ b.toInt) = true from decide_eq_true (by omega)]; rfl
theorem zg_lt0 (x : Int32) : decide (x < 0) = decide (x.toInt < 0) := by
  refine decide_eq_decide.mpr ?_
  rw [Int32.lt_iff_toInt_lt]
  exact Iff.rfl
theorem zg_sub1 : ∀ n, n < 7 → (Int32.ofNat n - (1 : Int32)).toInt = (n : Int) - 1 := by decide +kernel
/-- a number, its bound b from above (a literal), as the class tests it -/
theorem zg_t {x b : Int32} {n : Nat} (hb : b.toInt = n) : (∃ p, p < n ∧ x = Int32.ofNat p ∧ x.toNatClampNeg = p ∧ (bif (decide (x < 0)) then 3 else (bif (decide (x < b)) then 0 else 3)) = 0 ∧ decide (0 ≤ x.toInt ∧ x.toInt ≤ (n : Int) - 1) = true) ∨ ((bif (decide (x < 0)) then 3 else (bif (decide (x < b)) then 0 else 3)) = 3 ∧ decide (0 ≤ x.toInt ∧ x.toInt ≤ (n : Int) - 1) = false) := by
  have e1 : decide (x < b) = decide (x.toInt < n) := by
    refine decide_eq_decide.mpr ?_
    rw [Int32.lt_iff_toInt_lt, hb]
  rw [zg_lt0, e1]
  by_cases h1 : x.toInt < 0
  · refine Or.inr ⟨by rw [decide_eq_true h1]; rfl, decide_eq_false (by omega)⟩
  · rw [decide_eq_false h1]
    by_cases h2 : x.toInt < n
    · rw [decide_eq_true h2]
      obtain ⟨p, p1, p2, p3⟩ := zr_ex (x := x) (hi := (n : Int) - 1) ⟨by omega, by omega⟩
      exact Or.inl ⟨p, by omega, p2, p3, rfl, decide_eq_true (by omega)⟩
    · rw [decide_eq_false h2]
      exact Or.inr ⟨rfl, decide_eq_false (by omega)⟩
theorem zg_p {M M' : zMem} (hI : zv_Inv M) (h : M' 195 = M 195) (x : Int32) : (∃ p, p < 6 ∧ x = Int32.ofNat p ∧ x.toNatClampNeg = p ∧ t_N_needPerson M x = 0 ∧ v_D_isOne M' x = true) ∨ (t_N_needPerson M x = 3 ∧ v_D_isOne M' x = false) := by
  obtain ⟨n, hn, -, -, n3, n4⟩ := zq_n hI
  unfold t_N_needPerson v_D_isOne
  rw [zg_in, h, n4, n3, zg_sub1 n (by omega)]
  rcases zg_t (x := x) (b := Int32.ofNat n) (n := n) (zi_val (by omega)) with ⟨p, a, b, c, d, e⟩ | ⟨d, e⟩
  · exact Or.inl ⟨p, by omega, b, c, d, e⟩
  · exact Or.inr ⟨d, e⟩
theorem zg_k (x : Int32) : (∃ p, p < 8 ∧ x = Int32.ofNat p ∧ x.toNatClampNeg = p ∧ t_N_needKind x = 0 ∧ v_D_isIn x 0 7 = true) ∨ (t_N_needKind x = 3 ∧ v_D_isIn x 0 7 = false) := by
  unfold t_N_needKind
  rw [zg_in]
  exact zg_t (x := x) (b := 8) (n := 8) rfl
theorem zg_d (x : Int32) : (∃ p, p < 8 ∧ x = Int32.ofNat p ∧ x.toNatClampNeg = p ∧ t_N_needDeed x = 0 ∧ v_D_isIn x 0 7 = true) ∨ (t_N_needDeed x = 3 ∧ v_D_isIn x 0 7 = false) := zg_k x
theorem zg_l (x : Int32) : (∃ p, p < 16 ∧ x = Int32.ofNat p ∧ x.toNatClampNeg = p ∧ t_N_needPlace x = 0 ∧ v_D_isIn x 0 15 = true) ∨ (t_N_needPlace x = 3 ∧ v_D_isIn x 0 15 = false) := by
  unfold t_N_needPlace
  rw [zg_in]
  exact zg_t (x := x) (b := 16) (n := 16) rfl
theorem zo41 : zo_41 zv_Inv := by
  intro M x hI
  unfold t_N_tellers ok_D_tellers v_N_tellers v_D_tellers w_D_tellers
  rcases zg_d x with ⟨k, hk, -, -, t, i⟩ | ⟨t, i⟩
  · rw [t, i]
    refine ⟨Or.inl rfl, fun _ j hj => zd_kdk _ hj (k := 1) (by omega), rfl, fun _ => ?_, zv_th hI _⟩
    show zf_for 8 (f_N_tellers_1 M x) 0 = zf_for 8 (f_D_tellersOf_1 (zz_up M 194 0 0) x) 0
    refine zf_cg 8 _ fun j hj a => ?_
    unfold f_N_tellers_1 f_D_tellersOf_1
    rw [show v_D_ofKind (zz_up M 194 0 0) (Int32.ofNat j) (1 : Int32) = M 6 j from zq_kd hI (zq_h M 0) hj 1 (by omega)]
    exact zx_sel _ _ _
  · rw [t, i]
    exact ⟨Or.inr rfl, (fun h => by cases h), rfl, (fun h => by cases h), zv_th hI _⟩
theorem zo17 : zo_17 zv_Inv := by
  intro M x hI
  unfold ok_N_blank t_N_blank ok_D_blank v_N_blank v_D_blank w_D_blank
  rcases zg_p hI (M' := M) rfl x with ⟨p, hp, e, en, t, i⟩ | ⟨t, i⟩
  · rw [t, i, en]
    subst e
    have h := zq_h M (zb (bif true then false else true))
    obtain ⟨m1, m2, m3⟩ := zq_mk hI h hp
    refine ⟨fun _ => ⟨zq_in hp, m2⟩, Or.inl rfl, fun _ => ⟨zd_ofk _ hp (k := 1) (by omega), m3⟩, rfl, fun _ => ?_, zv_th hI _⟩
    show decide ((M 9 p &&& v_S_marksOf M 4 (Int32.ofNat p)) = 0) = decide ((v_D_of _ (Int32.ofNat p) (1 : Int32) &&& v_D_marksOf _ (Int32.ofNat p)) = 0)
    rw [m1, show v_D_of (zz_up M 194 0 (zb (bif true then false else true))) (Int32.ofNat p) (1 : Int32) = M 9 p from zq_of hI h hp 1 (by omega)]
  · rw [t, i]
    exact ⟨(fun h => by cases h), Or.inr rfl, (fun h => by cases h), rfl, (fun h => by cases h), zv_th hI _⟩
theorem zp_b {a : Int32} (h : a = -1 ∨ ∃ p, p < 6 ∧ a = Int32.ofNat p) (h1 : decide (a = (-1 : Int32)) = false) : ∃ p, p < 6 ∧ a = Int32.ofNat p := by
  rcases h with e | h
  · rw [decide_eq_true e] at h1; cases h1
  · exact h
theorem zo38 : zo_38 zv_Inv := by
  intro M hI
  obtain ⟨n, hn, n1, n2, -, -⟩ := zq_n hI
  have h := zq_h M 0
  unfold ok_N_eldest ok_D_eldest v_N_eldest v_D_eldest
  rw [n1, n2]
  have key : ∀ k, k ≤ n → (zf_for k (f_N_eldest_1 M) (-1) = zf_for k (f_D_eldest_1 M) (-1)) ∧ (zf_for k (f_N_eldest_1 M) (-1) = -1 ∨ ∃ p, p < 6 ∧ zf_for k (f_N_eldest_1 M) (-1) = Int32.ofNat p) := by
    intro k hk
    refine zf_sim (fun _ (x y : Int32) => x = y ∧ (x = -1 ∨ ∃ p, p < 6 ∧ x = Int32.ofNat p)) k ⟨rfl, Or.inl rfl⟩ (fun i x y hi ⟨hxy, hx⟩ => ?_)
    subst hxy
    unfold f_N_eldest_1 f_D_eldest_1
    by_cases e : x = -1
    · rw [decide_eq_true e, zk_t, zk_t]
      exact ⟨rfl, Or.inr ⟨i, by omega, rfl⟩⟩
    · rw [decide_eq_false e]
      obtain ⟨p, hp, ep⟩ := zp_b hx (decide_eq_false e)
      have e1 : v_D_of (zz_up M 194 0 0) (Int32.ofNat i) (2 : Int32) = M 10 i := zq_of hI h (by omega) 2 (by omega)
      have e2 : v_D_of (zz_up M 194 0 0) x (2 : Int32) = M 10 x.toNatClampNeg := by
        rw [ep, zi_nat (by omega)]
        exact zq_of hI h hp 2 (by omega)
      rw [e1, e2, zk_f]
      refine ⟨rfl, ?_⟩
      cases hd : decide (M 10 i ≤ M 10 x.toNatClampNeg) with
      | true => rw [zk_t]; exact hx
      | false => rw [zk_f]; exact Or.inr ⟨i, by omega, rfl⟩
  refine ⟨fun i hi hd => ⟨zq_in (by omega), ?_⟩, fun i hi hd => ⟨zd_ofk _ (p := i) (k := 2) (by omega) (by omega), ?_⟩, (key n (Nat.le_refl n)).1, zv_th hI 0⟩
  · obtain ⟨p, hp, ep⟩ := zp_b (key i (by omega)).2 hd
    rw [ep]; exact zq_in hp
  · rw [← (key i (by omega)).1] at hd ⊢
    obtain ⟨p, hp, ep⟩ := zp_b (key i (by omega)).2 hd
    rw [ep]; exact zd_ofk _ hp (k := 2) (by omega)
