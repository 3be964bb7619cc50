/-! how deep: call 22 -/
theorem zi_8 {i : Nat} (hi : i < 100) : decide ((8 : Int32) < Int32.ofNat i) = decide (8 < i) := by
  rw [zi_lti, zi_val (by omega)]
  refine decide_eq_decide.mpr ?_
  have : (8 : Int32).toInt = 8 := rfl
  omega
theorem zi_neg {k : Nat} (hk : k < 8) : decide (Int32.ofNat k < 0) = false ∧ decide (Int32.ofNat k < (8 : Int32)) = true := by
  rw [zi_lti, zi_lti, zi_val (by omega)]
  have e0 : (0 : Int32).toInt = 0 := rfl
  have e8 : (8 : Int32).toInt = 8 := rfl
  rw [e0, e8]
  exact ⟨decide_eq_false (by omega), decide_eq_true (by omega)⟩
def zde (s : Int32 × Bool × Int32) : Int32 := bif s.2.1 then s.2.2 else (-1 : Int32)
theorem ze_go (M : zMem) (x : Int32) {i k : Nat} (hi : i ≤ 8) (hk : k < 8) (r : Int32) : g_E_depth_1 M x i (Int32.ofNat k, false, r) = (true, (M 7 k, false, r)) := by
  unfold g_E_depth_1
  simp only []
  rw [zi_8 (by omega), decide_eq_false (show ¬ 8 < i by omega), (zi_neg hk).1, (zi_neg hk).2, zi_nat (by omega)]
  simp only [zk_t, zk_f]
theorem ze_out (M : zMem) (x : Int32) (s : Int32 × Bool × Int32) : g_E_depth_1 M x 9 s = (false, (s.1, false, s.2.2)) := by
  unfold g_E_depth_1
  rw [zi_8 (by omega), decide_eq_true (show 8 < 9 by omega)]
  simp only [zk_t]
theorem ze_ret (M : zMem) (x : Int32) {i : Nat} (hi : i ≤ 8) (b : Bool) (r : Int32) : g_E_depth_1 M x i (-1, b, r) = (false, (-1, true, Int32.ofNat i)) := by
  unfold g_E_depth_1
  simp only []
  rw [zi_8 (by omega), decide_eq_false (show ¬ 8 < i by omega), show decide ((-1 : Int32) < 0) = true from by decide]
  simp only [zk_t, zk_f]
theorem zd_out (M : zMem) (x : Int32) (s : Int32 × Bool × Int32) : g_D_deepOf_1 M x 8 s = (false, (s.1, false, s.2.2)) := by
  unfold g_D_deepOf_1
  rw [zi_8 (by omega), decide_eq_true (show 8 < 8 + 1 by omega)]
  simp only [zk_t]
theorem zd_ret (M : zMem) (x : Int32) {i : Nat} (hi : i < 8) {s : Int32 × Bool × Int32} (h : v_D_ofKind M s.1 (2 : Int32) = -1) : g_D_deepOf_1 M x i s = (false, (s.1, true, Int32.ofNat (i + 1))) := by
  unfold g_D_deepOf_1
  rw [zi_8 (by omega), decide_eq_false (show ¬ 8 < i + 1 by omega), h, decide_eq_true (show (-1 : Int32) = -1 from rfl)]
  simp only [zk_t, zk_f]
theorem zd_go (M : zMem) (x : Int32) {i : Nat} (hi : i < 8) {s : Int32 × Bool × Int32} (h : ¬ v_D_ofKind M s.1 (2 : Int32) = -1) : g_D_deepOf_1 M x i s = (true, (v_D_ofKind M s.1 (2 : Int32), false, s.2.2)) := by
  unfold g_D_deepOf_1
  rw [zi_8 (by omega), decide_eq_false (show ¬ 8 < i + 1 by omega), decide_eq_false h]
  simp only [zk_f]
theorem zf_w1 {α : Type} {g : Nat → α → Bool × α} {n i : Nat} {a b : α} (h : g i a = (true, b)) : zf_wh (n + 1) g i a = zf_wh n g (i + 1) b := by
  show (bif (g i a).1 then zf_wh n g (i + 1) (g i a).2 else (g i a).2) = _
  rw [h]
  rfl
theorem zf_w0 {α : Type} {g : Nat → α → Bool × α} {n i : Nat} {a b : α} (h : g i a = (false, b)) : zf_wh (n + 1) g i a = b := by
  show (bif (g i a).1 then zf_wh n g (i + 1) (g i a).2 else (g i a).2) = _
  rw [h]
  rfl
theorem zf_k1 {α : Type} {g : Nat → α → Bool × α} {k : Nat → α → Prop} {n i : Nat} {a b : α} (h : g i a = (true, b)) (h1 : k i a) (h2 : zf_wk n g k (i + 1) b) : zf_wk (n + 1) g k i a := ⟨h1, fun _ => by rw [h]; exact h2⟩
theorem zf_k0 {α : Type} {g : Nat → α → Bool × α} {k : Nat → α → Prop} {n i : Nat} {a b : α} (h : g i a = (false, b)) (h1 : k i a) : zf_wk (n + 1) g k i a := ⟨h1, fun hc => by rw [h] at hc; cases hc⟩
theorem zq_hd {M : zMem} (hI : zv_Inv M) {k : Nat} (hk : k < 8) (hne : ¬ M 7 k = -1) : ∃ j, j < 8 ∧ M 7 k = Int32.ofNat j := by
  have hr := (zv_K hI hk).2.2.2
  have h0 : zrg 0 7 (M 7 k) := by
    refine ⟨?_, hr.2⟩
    have h1 := hr.1
    by_cases h3 : (M 7 k).toInt = -1
    · exact absurd (zi_eq (show (M 7 k).toInt = (-1 : Int32).toInt from h3)) hne
    · omega
  obtain ⟨j, h1, h2, -⟩ := zr_ex h0
  exact ⟨j, by omega, h2⟩
theorem zy_deep {M M' : zMem} (hI : zv_Inv M) (h : M' 195 = M 195) (x y : Int32) : ∀ (m i k n n' : Nat) (r r' : Int32), i + m = 8 → k < 8 → zde (zf_wh (n + m + 2) (g_E_depth_1 M x) i (Int32.ofNat k, false, r)) = zde (zf_wh (n' + m + 1) (g_D_deepOf_1 M' y) i (Int32.ofNat k, false, r')) ∧ zf_wk (n + m + 2) (g_E_depth_1 M x) (kb_E_depth_1 M x) i (Int32.ofNat k, false, r) ∧ zf_wk (n' + m + 1) (g_D_deepOf_1 M' y) (kb_D_deepOf_1 M' y) i (Int32.ofNat k, false, r') := by
  intro m
  induction m with
  | zero =>
    intro i k n n' r r' hi hk
    have hi : i = 8 := by omega
    subst hi
    have e1 := ze_go M x (i := 8) (k := k) (by omega) hk r
    have e2 := ze_out M x (M 7 k, false, r)
    have e3 := zd_out M' y (Int32.ofNat k, false, r')
    refine ⟨?_, zf_k1 e1 (fun _ _ _ => zi_in hk (by omega)) (zf_k0 e2 (fun hd => ?_)), zf_k0 e3 (fun hd => ?_)⟩
    · rw [zf_w1 e1, zf_w0 e2, zf_w0 e3]
      rfl
    · rw [zi_8 (by omega)] at hd
      exact absurd hd (by decide)
    · rw [zi_8 (by omega)] at hd
      exact absurd hd (by decide)
  | succ m ih =>
    intro i k n n' r r' hi hk
    have e1 := ze_go M x (i := i) (k := k) (by omega) hk r
    have o1 : kb_E_depth_1 M x i (Int32.ofNat k, false, r) := fun _ _ _ => zi_in hk (by omega)
    have ek : v_D_ofKind M' (Int32.ofNat k) (2 : Int32) = M 7 k := zq_kd hI h hk 2 (by omega)
    have o2 : kb_D_deepOf_1 M' y i (Int32.ofNat k, false, r') := fun _ => zd_kdk M' hk (k := 2) (by omega)
    by_cases hu : M 7 k = -1
    · have e2 := ze_ret M x (i := i + 1) (by omega) false r
      have e3 := zd_ret M' y (i := i) (by omega) (s := (Int32.ofNat k, false, r')) (by rw [← hu]; exact ek)
      rw [hu] at e1
      refine ⟨?_, zf_k1 e1 o1 (zf_k0 e2 (fun _ hd => ?_)), zf_k0 e3 o2⟩
      · rw [zf_w1 e1, zf_w0 e2, zf_w0 e3]
        unfold zde
        simp only [zk_t]
      · have hd : decide ((-1 : Int32) < 0) = false := hd
        exact absurd hd (by decide)
    · obtain ⟨j, hj, ej⟩ := zq_hd hI hk hu
      have e3 := zd_go M' y (i := i) (by omega) (s := (Int32.ofNat k, false, r')) (by show ¬ v_D_ofKind M' (Int32.ofNat k) 2 = -1; rw [ek]; exact hu)
      rw [show v_D_ofKind M' ((Int32.ofNat k, false, r') : Int32 × Bool × Int32).1 (2 : Int32) = M 7 k from ek, ej] at e3
      rw [ej] at e1
      obtain ⟨a, b, c⟩ := ih (i + 1) j n n' r r' (by omega) hj
      refine ⟨?_, zf_k1 e1 o1 b, zf_k1 e3 o2 c⟩
      rw [show n + (m + 1) + 2 = (n + m + 2) + 1 by omega, show n' + (m + 1) + 1 = (n' + m + 1) + 1 by omega, zf_w1 e1, zf_w1 e3]
      exact a
theorem zq_dp {M M' : zMem} (hI : zv_Inv M) (h : M' 195 = M 195) {k : Nat} (hk : k < 8) : v_E_depth M (Int32.ofNat k) = v_D_deepOf M' (Int32.ofNat k) ∧ ok_E_depth M (Int32.ofNat k) ∧ ok_D_deepOf M' (Int32.ofNat k) := by
  obtain ⟨a, b, c⟩ := zy_deep hI h (Int32.ofNat k) (Int32.ofNat k) 8 0 k 990 991 0 0 (by omega) hk
  exact ⟨a, b, c⟩
theorem zo22 : zo_22 zv_Inv := by
  intro M hI
  have h := zq_h M 0
  unfold ok_N_deepest ok_D_deepest v_N_deepest v_D_deepest ok_E_deepestKind v_E_deepestKind
  have key : ∀ k, k ≤ 8 → ((zf_for k (f_E_deepestKind_1 M) (-1, 0)).1 = zf_for k (f_D_deepest_1 M) (-1)) ∧ (((zf_for k (f_D_deepest_1 M) (-1)) = -1 ∧ (zf_for k (f_E_deepestKind_1 M) (-1, 0)).2 = 0) ∨ ∃ p, p < 8 ∧ zf_for k (f_D_deepest_1 M) (-1) = Int32.ofNat p ∧ (zf_for k (f_E_deepestKind_1 M) (-1, 0)).2 = v_D_deepOf (zz_up M 194 0 0) (Int32.ofNat p)) := by
    intro k hk
    refine zf_sim (fun _ (x : Int32 × Int32) (y : Int32) => x.1 = y ∧ ((y = -1 ∧ x.2 = 0) ∨ ∃ p, p < 8 ∧ y = Int32.ofNat p ∧ x.2 = v_D_deepOf (zz_up M 194 0 0) (Int32.ofNat p))) k ⟨rfl, Or.inl ⟨rfl, rfl⟩⟩ (fun i x y hi ⟨hxy, hx⟩ => ?_)
    have e1 := (zq_dp hI h (show i < 8 by omega)).1
    have e2 : (bif decide (y = (-1 : Int32)) then (0 : Int32) else v_D_deepOf (zz_up M 194 0 0) y) = x.2 := by
      rcases hx with ⟨a, b⟩ | ⟨p, hp, a, b⟩
      · rw [decide_eq_true a, b, zk_t]
      · have hne : ¬ y = -1 := by
          intro h3
          rw [a] at h3
          have := congrArg Int32.toInt h3
          rw [zi_val (by omega)] at this
          have e9 : (-1 : Int32).toInt = -1 := rfl
          omega
        rw [decide_eq_false hne, zk_f, b, a]
    unfold f_E_deepestKind_1 f_D_deepest_1
    rw [e1, e2]
    cases hd : decide (v_D_deepOf (zz_up M 194 0 0) (Int32.ofNat i) ≤ x.2) with
    | true =>
      simp only [zk_t]
      exact ⟨hxy, hx⟩
    | false =>
      simp only [zk_f]
      exact ⟨trivial, Or.inr ⟨i, by omega, rfl, rfl⟩⟩
  refine ⟨fun i hi => (zq_dp hI h hi).2.1, fun i hi => ⟨(zq_dp hI h hi).2.2, fun hd => ?_⟩, (key 8 (Nat.le_refl 8)).1, zv_th hI 0⟩
  rcases (key i (by omega)).2 with ⟨a, -⟩ | ⟨p, hp, a, -⟩
  · rw [decide_eq_true a] at hd; cases hd
  · rw [a]; exact (zq_dp hI h hp).2.2
