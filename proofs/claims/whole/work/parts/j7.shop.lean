section
/-- a text of the shop that is thrown away -/
theorem zS_bk {M N1 X : zMem} {w : Int32} {n : Nat} (hI : zv_Inv M) (n1 : ∀ a i, a ≠ 2 → ¬ (15 ≤ a ∧ a ≤ 25) → ¬ (a = 1 ∧ i = 1) → N1 a i = M a i) (n21 : N1 2 1 = 0) (n11 : N1 1 1 = w) (x8 : X 194 8 = 0) (x12 : X 194 12 = w) (xf : ∀ a i, ¬ (a = 195 ∧ 3 ≤ i ∧ i < 309) → ¬ (a = 194 ∧ (i = 8 ∨ i = 9 ∨ i = 10 ∨ i = 11 ∨ i = 12 ∨ i = 13)) → X a i = w_D_putsAside N1 a i) (x : Int32) : zv_Inv (w_D_comesBack (zz_up X 194 0 x)) ∧ v_D_thrown (w_D_comesBack (zz_up X 194 0 x)) = x := by
  obtain ⟨hS, hL, hT, hF, hA, hK⟩ := zv_al hI
  obtain ⟨q1, q2⟩ := zcl (q := 197) (r := 195) (by omega) (f := f_D_putsAside_1 N1) (fun i a => rfl) N1 309
  have eQ : zf_for 309 (f_D_putsAside_1 N1) N1 = w_D_putsAside N1 := rfl
  rw [eQ] at q1 q2
  obtain ⟨r1, r2⟩ := zcl (q := 195) (r := 197) (by omega) (f := f_D_comesBack_1 (zz_up X 194 0 x)) (fun i a => rfl) (zz_up X 194 0 x) 309
  have eF : zf_for 309 (f_D_comesBack_1 (zz_up X 194 0 x)) (zz_up X 194 0 x) = w_D_comesBack (zz_up X 194 0 x) := rfl
  rw [eF] at r1 r2
  generalize w_D_comesBack (zz_up X 194 0 x) = F at r1 r2 ⊢
  have m : ∀ a i, a ≠ 2 → ¬ (15 ≤ a ∧ a ≤ 25) → ¬ (a = 1 ∧ i = 1) → ¬ (a = 194 ∧ (i = 0 ∨ i = 8 ∨ i = 9 ∨ i = 10 ∨ i = 11 ∨ i = 12 ∨ i = 13)) → a ≠ 197 → F a i = M a i := fun a i h1 h2 h3 h4 h5 => by
    by_cases c : a = 195
    · subst c
      rw [r1 i]
      by_cases c2 : i < 309
      · rw [decide_eq_true c2, zk_t, zu_o (by omega), xf 197 i (by omega) (by omega), q1 i, decide_eq_true c2, zk_t]
        exact n1 195 i h1 h2 h3
      · rw [decide_eq_false c2, zk_f, zu_o (by omega), xf 195 i (by omega) (by omega), q2 195 i (by omega)]
        exact n1 195 i h1 h2 h3
    · rw [r2 a i c, zu_o (by omega), xf a i (by omega) (by omega), q2 a i h5]
      exact n1 a i h1 h2 h3
  have g : ∀ a i, a ≠ 195 → a ≠ 197 → a ≠ 194 → F a i = N1 a i := fun a i h1 h2 h3 => by
    rw [r2 a i h1, zu_o (by omega), xf a i (by omega) (by omega), q2 a i h2]
  have g4 : ∀ i, i ≠ 0 → F 194 i = X 194 i := fun i h => by rw [r2 194 i (by omega), zu_o (by omega)]
  refine ⟨zv_mk ⟨zc_pt (fun a i _ _ _ => m a i (by omega) (by omega) (by omega) (by omega) (by omega)) (fun i _ => m 195 i (by omega) (by omega) (by omega) (by omega) (by omega)) hS, zc_LwP (m 37 0 (by omega) (by omega) (by omega) (by omega) (by omega)) (m 37 1 (by omega) (by omega) (by omega) (by omega) (by omega)) (fun j i _ _ => m _ i (by omega) (by omega) (by omega) (by omega) (by omega)) (fun i _ => m 195 i (by omega) (by omega) (by omega) (by omega) (by omega)) hL, ⟨?_, ?_, fun i hi => ?_⟩, ?_, zc_AC (fun a i ha => m a i (by omega) (by omega) (by omega) (by omega) (by omega)) hA, ?_, ?_, fun hh => ?_⟩ ?_ ?_, ?_⟩
  · rw [g 2 1 (by omega) (by omega) (by omega), g4 8 (by omega), n21, x8]
  · rw [g 2 1 (by omega) (by omega) (by omega), n21]; exact ⟨by decide, by decide⟩
  · rw [m 3 i (by omega) (by omega) (by omega) (by omega) (by omega), m 199 i (by omega) (by omega) (by omega) (by omega) (by omega)]
    exact hT.2.2 i hi
  · rw [g 1 1 (by omega) (by omega) (by omega), g4 12 (by omega), n11, x12]
  · rw [m 1 8 (by omega) (by omega) (by omega) (by omega) (by omega), m 194 3 (by omega) (by omega) (by omega) (by omega) (by omega)]; exact hK.1
  · rw [m 1 8 (by omega) (by omega) (by omega) (by omega) (by omega)]; exact hK.2.1
  · rw [m 1 8 (by omega) (by omega) (by omega) (by omega) (by omega)] at hh
    obtain ⟨z1, z2⟩ := hK.2.2 hh
    exact ⟨zc_pt (fun a i _ _ _ => m a i (by omega) (by omega) (by omega) (by omega) (by omega)) (fun i _ => m 196 i (by omega) (by omega) (by omega) (by omega) (by omega)) z1, zc_LwP (m 51 0 (by omega) (by omega) (by omega) (by omega) (by omega)) (m 51 1 (by omega) (by omega) (by omega) (by omega) (by omega)) (fun j i _ _ => m _ i (by omega) (by omega) (by omega) (by omega) (by omega)) (fun i _ => m 196 i (by omega) (by omega) (by omega) (by omega) (by omega)) z2⟩
  · rw [m 194 15 (by omega) (by omega) (by omega) (by omega) (by omega)]; exact hI.2.1
  · rw [m 194 16 (by omega) (by omega) (by omega) (by omega) (by omega)]; exact hI.2.2
  · unfold v_D_thrown
    rw [r2 194 0 (by omega), zu_at rfl rfl]
theorem zo2 : zo_2 zv_Inv := by
  intro M hI
  obtain ⟨hS, hL, hT, hF, hA, hK⟩ := zv_al hI
  obtain ⟨n, n1, n2, -⟩ := zr_ex hT.2.1
  have hn : n ≤ 400 := by omega
  obtain ⟨o1, o2, o3, o4⟩ := zT_op n2 hn
  have cp := zcp_all (w_T_open M) (s := 15) (r := 4) (by omega)
  have hTC : zT (w_S_copyFrom (w_T_open M) 15 4) (zpTx (M 3) n) n (zpSk (zpTx (M 3) n) n 0, -1) := zT_fr o1 (fun a i h => cp.1 a i (by omega))
  have hSC : zc_St (w_S_copyFrom (w_T_open M) 15 4) 15 (M 195) := zcp_St cp (zc_pt (fun a i h1 h2 h3 => o4 a i (by omega)) (fun _ _ => rfl) hS)
  have c21 : (w_S_copyFrom (w_T_open M) 15 4) 2 1 = 0 := by rw [cp.1 2 1 (by omega)]; exact o3
  have cf : ∀ a i, a ≠ 2 → ¬ (15 ≤ a ∧ a ≤ 25) → (w_S_copyFrom (w_T_open M) 15 4) a i = M a i := fun a i h1 h2 => by
    rw [cp.1 a i (by omega)]; exact o4 a i h1
  have e8 : M 194 8 = Int32.ofNat n := by rw [← hT.1]; exact n2
  have e199 : ∀ i, i < n → M 199 i = zpTx (M 3) n i := fun i hi => by rw [zpTx_at hi]; exact (hT.2.2 i (by omega)).1.symm
  obtain ⟨C, hC⟩ : ∃ C, C = w_S_copyFrom (w_T_open M) 15 4 := ⟨_, rfl⟩
  rw [← hC] at hTC hSC c21 cf
  obtain ⟨s0, d1, okH, -⟩ := zS_all (Q := M) hTC e8 hn e199 hSC
  have okN : ok_N_shop M := by
    unfold ok_N_shop
    rw [← hC]
    exact ⟨o2, okH⟩
  obtain ⟨J, hJ⟩ : ∃ J, J = w_H_readAll C := ⟨_, rfl⟩
  rw [← hJ] at d1
  have jM : ∀ a i, a ≠ 2 → ¬ (15 ≤ a ∧ a ≤ 25) → J a i = M a i := fun a i h1 h2 => by
    rw [d1.2.2.2.1 a i h2 (by omega)]; exact cf a i h1 h2
  have j21 : J 2 1 = 0 := by rw [d1.2.2.2.1 2 1 (by omega) (by omega)]; exact c21
  have ewb : v_T_wrongByte J = s0.2 := d1.1.2.2.2.2.2
  have hX : ∀ N1 : zMem, N1 194 8 = M 194 8 → (∀ i, N1 199 i = M 199 i) → (∀ i, N1 195 i = M 195 i) → ∃ X, w_D_read (w_D_begins (w_D_putsAside N1)) false = X ∧ ok_D_read (w_D_begins (w_D_putsAside N1)) false ∧ X 194 8 = 0 ∧ X 194 12 = s0.2 ∧ (∀ a i, ¬ (a = 195 ∧ 3 ≤ i ∧ i < 309) → ¬ (a = 194 ∧ (i = 8 ∨ i = 9 ∨ i = 10 ∨ i = 11 ∨ i = 12 ∨ i = 13)) → X a i = w_D_putsAside N1 a i) ∧ (s0.2 = -1 → zc_St J 15 (X 195)) ∧ X 195 0 = M 195 0 ∧ (∀ a i, a ≠ 197 → w_D_putsAside N1 a i = N1 a i) := by
    intro N1 h8 h199 h195
    obtain ⟨-, q2⟩ := zcl (q := 197) (r := 195) (by omega) (f := f_D_putsAside_1 N1) (fun i a => rfl) N1 309
    have eQ : zf_for 309 (f_D_putsAside_1 N1) N1 = w_D_putsAside N1 := rfl
    rw [eQ] at q2
    have k8 : (w_D_putsAside N1) 194 8 = Int32.ofNat n := by rw [q2 194 8 (by omega), h8]; exact e8
    have k199 : ∀ i, i < n → (w_D_putsAside N1) 199 i = zpTx (M 3) n i := fun i hi => by rw [q2 199 i (by omega), h199]; exact e199 i hi
    obtain ⟨b1, b2, b3⟩ := zR_bg k8 hn k199
    obtain ⟨s', z1, -, z3⟩ := zS_all hTC k8 hn k199 (zc_pt (fun _ _ _ _ _ => rfl) (fun i hi => by rw [q2 195 i (by omega)]; exact h195 i) hSC)
    rw [← hJ] at z1
    obtain ⟨y1, y2, y3, y4, y5, y6⟩ := z1
    have es : s'.2 = s0.2 := by rw [← ewb]; exact y1.2.2.2.2.2.symm
    refine ⟨_, rfl, z3, ?_, ?_, fun a i h1 h2 => ?_, fun hh => y3 (es.trans hh), ?_, q2⟩
    · rw [y5 194 8 (by omega) (by omega)]; exact b2
    · rw [y2.2.1]; exact es
    · rw [y5 a i h1 (by omega)]; exact b3 a i (by omega)
    · rw [y5 195 0 (by omega) (by omega), b3 195 0 (by omega), q2 195 0 (by omega)]; exact h195 0
  have t01 := (zv_F hI).1.2.2.2.2.2.1
  obtain ⟨u, u1, u2, -⟩ := zr_ex (zv_F hI).2.2.2.2.2.1
  have u12 : u ≤ 12 := by omega
  have j415 : J 4 15 = Int32.ofNat u := by rw [jM 4 15 (by omega) (by omega)]; exact u2
  have m0 : M 195 0 = Int32.ofNat u := by rw [← t01]; exact u2
  have elt : decide (J 4 15 < (12 : Int32)) = decide (u < 12) := by
    rw [j415, show (12 : Int32) = Int32.ofNat 12 from rfl, zi_lt' (by omega) (by omega)]
  have e12 : ∀ X : zMem, X 195 0 = M 195 0 → decide (X 195 0 = (12 : Int32)) = decide (u = 12) := fun X h => by
    rw [h, m0]; exact zN_eq (b := 12) (by omega) (by omega)
  -- what is thrown away
  have back : w_N_shop M = zz_up J 1 1 s0.2 → ∀ k, (t_N_shop M = k ∧ ((k = 1 ∧ ¬ s0.2 = -1) ∨ (k = 2 ∧ s0.2 = -1 ∧ u = 12))) → (ok_N_shop M ∧ (∀ i, (w_N_shop M) 0 i = M 0 i) ∧ ((t_N_shop M) = 0 ∨ (t_N_shop M) = 1 ∨ (t_N_shop M) = 2) ∧ ok_D_shop (w_N_shop M) ∧ v_D_thrown (w_D_shop (w_N_shop M)) = zcd [0, 1] (t_N_shop M) ∧ ((t_N_shop M) = 0 → (v_N_shop M) = (v_D_shop (w_N_shop M))) ∧ zv_Inv (w_D_shop (w_N_shop M))) := by
    intro ew k ⟨et, hk⟩
    have nM : ∀ a i, a ≠ 2 → ¬ (15 ≤ a ∧ a ≤ 25) → ¬ (a = 1 ∧ i = 1) → (zz_up J 1 1 s0.2) a i = M a i := fun a i h1 h2 h3 => by
      rw [zu_o h3]; exact jM a i h1 h2
    obtain ⟨X, xe, xk, x8, x12, xf, -, x0, -⟩ := hX (zz_up J 1 1 s0.2) (nM 194 8 (by omega) (by omega) (by omega)) (fun i => nM 199 i (by omega) (by omega) (by omega)) (fun i => nM 195 i (by omega) (by omega) (by omega))
    have fin := zS_bk (n := n) hI nM (by rw [zu_o (by omega)]; exact j21) (zu_at rfl rfl) x8 x12 xf
    rw [ew, et]
    have okD : ok_D_shop (zz_up J 1 1 s0.2) := xk
    rcases hk with ⟨k1, k2⟩ | ⟨k1, k2, k3⟩
    · subst k1
      have ewd : w_D_shop (zz_up J 1 1 s0.2) = w_D_comesBack (zz_up X 194 0 (1 : Int32)) := by
        unfold w_D_shop
        rw [xe, x12, decide_eq_false k2, zk_f]
        exact zk_f _ _
      rw [ewd]
      exact ⟨okN, fun i => nM 0 i (by omega) (by omega) (by omega), Or.inr (Or.inl rfl), okD, (fin 1).2, (fun hh => by cases hh), (fin 1).1⟩
    · subst k1
      have ewd : w_D_shop (zz_up J 1 1 s0.2) = w_D_comesBack (zz_up X 194 0 (2 : Int32)) := by
        unfold w_D_shop
        rw [xe, x12, decide_eq_true k2, zk_t, e12 X x0, decide_eq_true k3, zk_t]
        exact zk_f _ _
      rw [ewd]
      exact ⟨okN, fun i => nM 0 i (by omega) (by omega) (by omega), Or.inr (Or.inr rfl), okD, (fin 2).2, (fun hh => by cases hh), (fin 2).1⟩
  by_cases c : s0.2 = -1
  · by_cases cu : u < 12
    · obtain ⟨X0, -, -, -, -, -, xs0, x00, -⟩ := hX M rfl (fun _ => rfl) (fun _ => rfl)
      have e15 : J 15 15 = Int32.ofNat u := by rw [(xs0 c).2.2.1.1.2.2.2.2.2.1, x00]; exact m0
      have ej : J 15 15 + (1 : Int32) = Int32.ofNat (u + 1) := by rw [e15]; exact zi_ad u 1
      obtain ⟨P, hP⟩ : ∃ P, P = zz_up (zz_up J 1 1 (-1 : Int32)) 15 15 (Int32.ofNat (u + 1)) := ⟨_, rfl⟩
      have cq := zcp_all P (s := 4) (r := 15) (by omega)
      obtain ⟨N1, hN1⟩ : ∃ N, N = w_A_forget (w_S_copyFrom P 4 15) := ⟨_, rfl⟩
      have eN : w_A_forget (w_S_copyFrom (zz_up (zz_up J 1 1 (v_T_wrongByte J)) 15 15 (J 15 15 + (1 : Int32))) 4 15) = N1 := by
        rw [ewb, c, ej, hN1, hP]
      have ew : w_N_shop M = N1 := by
        unfold w_N_shop
        rw [← hC, ← hJ, elt, decide_eq_true cu, ewb, decide_eq_true c, zk_t, zk_t]
        exact eN
      have et : t_N_shop M = 0 := by
        unfold t_N_shop
        rw [← hC, ← hJ, elt, decide_eq_true cu, ewb, decide_eq_true c, zk_t, zk_t]
      have n1 : ∀ a i, a ≠ 2 → ¬ (4 ≤ a ∧ a ≤ 25) → ¬ (a = 1 ∧ i = 1) → ¬ (a = 58 ∧ i = 2) → N1 a i = M a i := fun a i h1 h2 h3 h4 => by
        rw [hN1]
        unfold w_A_forget
        rw [zu_o h4, cq.1 a i (by omega), hP, zu_o (by omega), zu_o h3]
        exact jM a i h1 (by omega)
      have n21 : N1 2 1 = 0 := by
        rw [hN1]
        unfold w_A_forget
        rw [zu_o (by omega), cq.1 2 1 (by omega), hP, zu_o (by omega), zu_o (by omega)]
        exact j21
      have n11 : N1 1 1 = -1 := by
        rw [hN1]
        unfold w_A_forget
        rw [zu_o (by omega), cq.1 1 1 (by omega), hP, zu_o (by omega), zu_eq]
      have n58 : N1 58 2 = 0 := by
        rw [hN1]
        unfold w_A_forget
        rw [zu_eq]
      have n415 : N1 4 15 = Int32.ofNat (u + 1) := by
        rw [hN1]
        unfold w_A_forget
        rw [zu_o (by omega), cq.2.2 15 (by omega) (by omega), hP, zu_eq]
      have ev : v_N_shop M = Int32.ofNat (u + 1) := by
        unfold v_N_shop
        rw [← hC, ← hJ, elt, decide_eq_true cu, ewb, decide_eq_true c, zk_t, zk_t]
        exact (congrFun (congrFun eN 4) 15).trans n415
      obtain ⟨X, xe, xk, x8, x12, xf, xs, x0, xp⟩ := hX N1 (n1 194 8 (by omega) (by omega) (by omega) (by omega)) (fun i => n1 199 i (by omega) (by omega) (by omega) (by omega)) (fun i => n1 195 i (by omega) (by omega) (by omega) (by omega))
      have ex : X 195 0 + (1 : Int32) = Int32.ofNat (u + 1) := by rw [x0, m0]; exact zi_ad u 1
      have okD : ok_D_shop N1 := xk
      obtain ⟨F, hF'⟩ : ∃ F, F = zz_up (zz_up (zz_up X 194 0 (0 : Int32)) 195 0 (Int32.ofNat (u + 1))) 194 6 (0 : Int32) := ⟨_, rfl⟩
      have ewd : w_D_shop N1 = F := by
        unfold w_D_shop
        rw [xe, x12, decide_eq_true c, zk_t, e12 X x0, decide_eq_false (show ¬ u = 12 by omega), zk_f, zd_0, zk_t, ex, hF']
      have evd : v_D_shop N1 = Int32.ofNat (u + 1) := by
        unfold v_D_shop
        rw [xe, x12, decide_eq_true c, zk_t, e12 X x0, decide_eq_false (show ¬ u = 12 by omega), zk_f, zd_0, zk_t, ex]
      have hu1 : zrg 0 12 (Int32.ofNat (u + 1)) := ⟨by rw [zi_val (by omega)]; omega, by rw [zi_val (by omega)]; omega⟩
      have s1 : zc_St (zz_up J 1 1 (-1 : Int32)) 15 (X 195) := zc_pt (fun a i _ _ _ => zu_o (by omega)) (fun _ _ => rfl) (xs c)
      have s2 : zc_St P 15 ((zz_up X 195 0 (Int32.ofNat (u + 1))) 195) := by rw [hP]; exact zc_uF15 s1 hu1
      have s3 := zcp_St cq s2
      have fX : ∀ a i, ¬ (a = 194 ∧ (i = 0 ∨ i = 6)) → ¬ (a = 195 ∧ i = 0) → F a i = X a i := fun a i h1 h2 => by
        rw [hF', zu_o (by omega), zu_o (by omega), zu_o (by omega)]
      have fN : ∀ a i, a ≠ 194 → a ≠ 195 → a ≠ 197 → F a i = N1 a i := fun a i h1 h2 h3 => by
        rw [fX a i (by omega) (by omega), xf a i (by omega) (by omega)]
        exact xp a i h3
      have fM : ∀ a i, a ≠ 2 → ¬ (4 ≤ a ∧ a ≤ 25) → ¬ (a = 1 ∧ i = 1) → ¬ (a = 58 ∧ i = 2) → a ≠ 197 → ¬ (a = 194 ∧ (i = 0 ∨ i = 6 ∨ i = 8 ∨ i = 9 ∨ i = 10 ∨ i = 11 ∨ i = 12 ∨ i = 13)) → ¬ (a = 195 ∧ i < 309 ∧ i ≠ 1 ∧ i ≠ 2) → F a i = M a i := fun a i h1 h2 h3 h4 h5 h6 h7 => by
        rw [fX a i (by omega) (by omega), xf a i (by omega) (by omega), xp a i h5]
        exact n1 a i h1 h2 h3 h4
      have r4 : ∀ i, F 195 i = (zz_up X 195 0 (Int32.ofNat (u + 1))) 195 i := fun i => by
        rw [hF', zu_o (by omega)]
        by_cases q : i = 0
        · rw [zu_at rfl q, zu_at rfl q]
        · rw [zu_o (by omega), zu_o (by omega), zu_o (by omega)]
      have r5 : ∀ a i, 4 ≤ a → a ≤ 4 + 10 → F a i = (w_S_copyFrom P 4 15) a i := fun a i h1 h2 => by
        rw [fN a i (by omega) (by omega) (by omega), hN1]
        unfold w_A_forget
        exact zu_o (by omega)
      have s4 : zc_St F 4 (F 195) := zc_pt (fun a i h1 h2 _ => r5 a i h1 h2) (fun i _ => r4 i) s3
      rw [ew, et, ewd, ev, evd]
      refine ⟨okN, fun i => n1 0 i (by omega) (by omega) (by omega) (by omega), Or.inl rfl, okD, ?_, fun _ => rfl, ?_⟩
      · unfold v_D_thrown
        rw [hF', zu_o (by omega), zu_o (by omega), zu_eq]; rfl
      · refine zv_mk ⟨s4, zc_LwP (fM 37 0 (by omega) (by omega) (by omega) (by omega) (by omega) (by omega) (by omega)) (fM 37 1 (by omega) (by omega) (by omega) (by omega) (by omega) (by omega) (by omega)) (fun j i _ _ => fM _ i (by omega) (by omega) (by omega) (by omega) (by omega) (by omega) (by omega)) (fun i hi => fM 195 i (by omega) (by omega) (by omega) (by omega) (by omega) (by omega) (by omega)) hL, ⟨?_, ?_, fun i hi => ?_⟩, ?_, ⟨⟨?_, ?_, ?_⟩, fun b hb => ?_⟩, ?_, ?_, fun hh => ?_⟩ ?_ ?_
        · rw [fN 2 1 (by omega) (by omega) (by omega), n21, fX 194 8 (by omega) (by omega), x8]
        · rw [fN 2 1 (by omega) (by omega) (by omega), n21]; exact ⟨by decide, by decide⟩
        · rw [fM 3 i (by omega) (by omega) (by omega) (by omega) (by omega) (by omega) (by omega), fM 199 i (by omega) (by omega) (by omega) (by omega) (by omega) (by omega) (by omega)]
          exact hT.2.2 i hi
        · rw [fN 1 1 (by omega) (by omega) (by omega), fX 194 12 (by omega) (by omega), n11, x12, c]
        · rw [fN 58 2 (by omega) (by omega) (by omega), n58, hF', zu_eq]
        · rw [fN 58 2 (by omega) (by omega) (by omega), n58]; exact ⟨by decide, by decide⟩
        · rw [fM 58 1 (by omega) (by omega) (by omega) (by omega) (by omega) (by omega) (by omega)]; exact hA.1.2.2
        · rw [fN 58 2 (by omega) (by omega) (by omega), n58] at hb
          have e0 : (0 : Int32).toInt = 0 := rfl
          omega
        · rw [fM 1 8 (by omega) (by omega) (by omega) (by omega) (by omega) (by omega) (by omega), fM 194 3 (by omega) (by omega) (by omega) (by omega) (by omega) (by omega) (by omega)]; exact hK.1
        · rw [fM 1 8 (by omega) (by omega) (by omega) (by omega) (by omega) (by omega) (by omega)]; exact hK.2.1
        · rw [fM 1 8 (by omega) (by omega) (by omega) (by omega) (by omega) (by omega) (by omega)] at hh
          obtain ⟨z1, z2⟩ := hK.2.2 hh
          exact ⟨zc_pt (fun a i _ _ _ => fM a i (by omega) (by omega) (by omega) (by omega) (by omega) (by omega) (by omega)) (fun i _ => fM 196 i (by omega) (by omega) (by omega) (by omega) (by omega) (by omega) (by omega)) z1, zc_LwP (fM 51 0 (by omega) (by omega) (by omega) (by omega) (by omega) (by omega) (by omega)) (fM 51 1 (by omega) (by omega) (by omega) (by omega) (by omega) (by omega) (by omega)) (fun j i _ _ => fM _ i (by omega) (by omega) (by omega) (by omega) (by omega) (by omega) (by omega)) (fun i _ => fM 196 i (by omega) (by omega) (by omega) (by omega) (by omega) (by omega) (by omega)) z2⟩
        · rw [fM 194 15 (by omega) (by omega) (by omega) (by omega) (by omega) (by omega) (by omega)]; exact hI.2.1
        · rw [fM 194 16 (by omega) (by omega) (by omega) (by omega) (by omega) (by omega) (by omega)]; exact hI.2.2
    · refine back ?_ 2 ⟨?_, Or.inr ⟨rfl, c, by omega⟩⟩
      · unfold w_N_shop
        rw [← hC, ← hJ, elt, decide_eq_false cu, ewb, decide_eq_true c, zk_t, zk_f]
        show zz_up J 1 1 (v_T_wrongByte J) = _
        rw [ewb]
      · unfold t_N_shop
        rw [← hC, ← hJ, elt, decide_eq_false cu, ewb, decide_eq_true c, zk_t, zk_f]
  · refine back ?_ 1 ⟨?_, Or.inl ⟨rfl, c⟩⟩
    · unfold w_N_shop
      rw [← hC, ← hJ, ewb, decide_eq_false c, zk_f]
      show zz_up J 1 1 (v_T_wrongByte J) = _
      rw [ewb]
    · unfold t_N_shop
      rw [← hC, ← hJ, ewb, decide_eq_false c, zk_f]
end
