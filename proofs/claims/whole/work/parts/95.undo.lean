/-! IMAGE, BACK, UNDO: calls 48, 49, 50. -/
theorem zcl {q r : Nat} (h : q ≠ r) {f : Nat → zMem → zMem} (hf : ∀ i a, f i a = zz_up a q i (a r i)) (N : zMem) : ∀ n, (∀ j, zf_for n f N q j = (bif decide (j < n) then N r j else N q j)) ∧ (∀ a i, a ≠ q → zf_for n f N a i = N a i) := by
  intro n
  induction n with
  | zero => exact ⟨fun j => rfl, fun a i _ => rfl⟩
  | succ n ih =>
    obtain ⟨h1, h2⟩ := ih
    have e : zf_for (n + 1) f N = zz_up (zf_for n f N) q n (N r n) := by
      show f n (zf_for n f N) = _
      rw [hf, h2 r n (by omega)]
    rw [e]
    refine ⟨fun j => ?_, fun a i ha => ?_⟩
    · by_cases c : j = n
      · subst c
        rw [zu_eq, decide_eq_true (show j < j + 1 by omega), zk_t]
      · rw [zu_o (by omega), h1]
        by_cases c2 : j < n
        · rw [decide_eq_true c2, decide_eq_true (show j < n + 1 by omega)]
        · rw [decide_eq_false c2, decide_eq_false (show ¬ j < n + 1 by omega)]
    · rw [zu_o (by omega)]; exact h2 a i ha
theorem zc_LwP {N N' : zMem} {l l' : Nat} {r r' : Nat → Int32} (h0 : N' l' 0 = N l 0) (h1 : N' l' 1 = N l 1) (h : ∀ j i, 1 ≤ j → j ≤ 4 → N' (l' + j) i = N (l + j) i) (hr : ∀ i, (i = 1 ∨ i = 2 ∨ (309 ≤ i ∧ i < 709)) → r' i = r i) (hL : zc_Lw N l r) : zc_Lw N' l' r' := by
  obtain ⟨a, b, c, d⟩ := hL
  have e1 : r' 1 = r 1 := hr 1 (Or.inl rfl)
  have e2 : r' 2 = r 2 := hr 2 (Or.inr (Or.inl rfl))
  have c2 := c.2
  have et : zpTx (fun i => r' (309 + i)) (r 2).toInt.toNat = zpTx (fun i => r (309 + i)) (r 2).toInt.toNat := zpTx_cg (fun i hi => hr (309 + i) (Or.inr (Or.inr ⟨by omega, by omega⟩)))
  unfold zc_Lw
  rw [h0, e1, e2, et]
  refine ⟨a, b, c, fun hh => ?_⟩
  obtain ⟨q0, ⟨q1, q2, q3, q4⟩, q5, q6⟩ := d hh
  refine ⟨q0, ⟨by rw [h0]; exact q1, q2, by rw [h1]; exact q3, q4⟩, fun i hi => ?_, fun j hj => ?_⟩
  · rw [h 1 i (by omega) (by omega), h 2 i (by omega) (by omega), h 3 i (by omega) (by omega)]
    exact q5 i hi
  · rw [h 4 j (by omega) (by omega)]
    exact q6 j hj
theorem zc_AC {N N' : zMem} (h : ∀ a i, (a = 58 ∨ (60 ≤ a ∧ a ≤ 191) ∨ a = 198 ∨ (a = 194 ∧ i = 6) ∨ (a = 195 ∧ (i = 1 ∨ i = 2))) → N' a i = N a i) (hA : zc_A N) : zc_A N' := by
  have e1 : N' 58 1 = N 58 1 := h 58 1 (by omega)
  have e2 : N' 58 2 = N 58 2 := h 58 2 (by omega)
  have e6 : N' 194 6 = N 194 6 := h 194 6 (by omega)
  have e8 : N' 198 = N 198 := by
    funext i
    exact h 198 i (by omega)
  refine ⟨by rw [e1, e2, e6]; exact hA.1, fun b hb => ?_⟩
  rw [e2] at hb
  obtain ⟨a1, a2, a3⟩ := hA.2 b hb
  have hm : ((N 58 1).toInt.toNat + 11 - b) % 12 < 12 := Nat.mod_lt _ (by omega)
  rw [e1, e2, e8, h 195 1 (by omega), h 195 2 (by omega)]
  exact ⟨zc_pt (fun a i h1 h2 _ => h a i (by omega)) (fun i _ => rfl) a1, a2, a3⟩
theorem zc_TC {N N' : zMem} (h1 : N' 2 1 = N 2 1) (h8 : N' 194 8 = N 194 8) (h : ∀ i, i < 400 → N' 3 i = N 3 i ∧ N' 199 i = N 199 i) (hT : zc_T N) : zc_T N' := by
  obtain ⟨a, b, c⟩ := hT
  refine ⟨by rw [h1, h8]; exact a, by rw [h1]; exact b, fun i hi => ?_⟩
  rw [(h i hi).1, (h i hi).2]
  exact c i hi
theorem zlc_all (M : zMem) {l k : Nat} (hd : k + 4 < l ∨ l + 4 < k) : (∀ a i, (a < l ∨ l + 4 < a) → w_L_copyFrom M l k a i = M a i) ∧ (∀ j i, 1 ≤ j → j ≤ 4 → w_L_copyFrom M l k (l + j) i = M (k + j) i) ∧ w_L_copyFrom M l k l 0 = M k 0 ∧ w_L_copyFrom M l k l 1 = M k 1 := by
  have key : ∀ (N : zMem) (j : Nat), j < 4 → ((∀ a i, (a < l ∨ l + 4 < a) → N a i = M a i) ∧ (∀ j' i, 1 ≤ j' → j' ≤ j → N (l + j') i = M (k + j') i) ∧ N l 0 = M k 0 ∧ N l 1 = M k 1) → ((∀ a i, (a < l ∨ l + 4 < a) → zz_row N (l + (j + 1)) (N (k + (j + 1))) a i = M a i) ∧ (∀ j' i, 1 ≤ j' → j' ≤ j + 1 → zz_row N (l + (j + 1)) (N (k + (j + 1))) (l + j') i = M (k + j') i) ∧ zz_row N (l + (j + 1)) (N (k + (j + 1))) l 0 = M k 0 ∧ zz_row N (l + (j + 1)) (N (k + (j + 1))) l 1 = M k 1) := by
    intro N j hj ⟨h1, h2, h3, h4⟩
    refine ⟨fun a i ha => ?_, fun j' i j1 j2 => ?_, ?_, ?_⟩
    · rw [zw_o (by omega)]; exact h1 a i ha
    · by_cases c : j' = j + 1
      · subst c
        rw [zw_e]; exact h1 _ i (by omega)
      · rw [zw_o (by omega)]; exact h2 j' i j1 (by omega)
    · rw [zw_o (by omega)]; exact h3
    · rw [zw_o (by omega)]; exact h4
  exact key _ 3 (by omega) (key _ 2 (by omega) (key _ 1 (by omega) (key _ 0 (by omega) ⟨fun a i ha => by rw [zu_o (by omega), zu_o (by omega)], fun j' i j1 j2 => by omega, by rw [zu_o (by omega), zu_eq], by rw [zu_eq, zu_o (by omega)]⟩)))
theorem zo49 : zo_49 zv_Inv := by
  intro M hI
  obtain ⟨hS, hL, hT, hF, hA, hK⟩ := zv_al hI
  obtain ⟨N0, hN0⟩ : ∃ N, N = w_S_copyFrom M 26 4 := ⟨_, rfl⟩
  have c0 : zcp M 26 4 10 8 N0 := by rw [hN0]; exact zcp_all M (by omega)
  obtain ⟨N1, hN1⟩ : ∃ N, N = w_L_copyFrom N0 51 37 := ⟨_, rfl⟩
  obtain ⟨l1, l2, l3, l4⟩ := zlc_all N0 (l := 51) (k := 37) (by omega)
  rw [← hN1] at l1 l2 l3 l4
  have eN : w_N_image M = zz_up N1 1 8 (1 : Int32) := by
    unfold w_N_image
    rw [← hN0, ← hN1]
  have n1 : ∀ a i, (a < 26 ∨ (36 < a ∧ a < 51) ∨ 55 < a) → N1 a i = M a i := fun a i ha => by
    rw [l1 a i (by omega)]; exact c0.1 a i (by omega)
  rw [eN]
  refine ⟨fun i => by rw [zu_o (by omega)]; exact n1 0 i (by omega), ?_⟩
  obtain ⟨N2, hN2⟩ : ∃ N, N = zz_up (zz_up N1 1 8 (1 : Int32)) 194 0 (0 : Int32) := ⟨_, rfl⟩
  unfold w_D_image
  rw [← hN2]
  obtain ⟨k1, k2⟩ := zcl (q := 196) (r := 195) (by omega) (f := f_D_image_1 (zz_up N1 1 8 (1 : Int32))) (fun i a => rfl) N2 709
  generalize zf_for 709 (f_D_image_1 (zz_up N1 1 8 (1 : Int32))) N2 = N3 at k1 k2 ⊢
  have n2 : ∀ a i, ¬ (a = 1 ∧ i = 8) → ¬ (a = 194 ∧ i = 0) → N2 a i = N1 a i := fun a i h1 h2 => by rw [hN2, zu_o h2, zu_o h1]
  have n3 : ∀ a i, (a < 26 ∨ (36 < a ∧ a < 51) ∨ 55 < a) → ¬ (a = 1 ∧ i = 8) → ¬ (a = 194 ∧ (i = 0 ∨ i = 3)) → a ≠ 196 → zz_up N3 194 3 (1 : Int32) a i = M a i := fun a i h1 h2 h3 h4 => by
    rw [zu_o (by omega), k2 a i h4, n2 a i h2 (by omega)]
    exact n1 a i h1
  have m3 : ∀ a i, a ≠ 194 → a ≠ 196 → a ≠ 1 → zz_up N3 194 3 (1 : Int32) a i = N1 a i := fun a i h1 h2 h3 => by
    rw [zu_o (by omega), k2 a i h2, n2 a i (by omega) (by omega)]
  have m6 : ∀ i, i < 709 → zz_up N3 194 3 (1 : Int32) 196 i = M 195 i := fun i hi => by
    rw [zu_o (by omega), k1, decide_eq_true hi, zk_t, n2 195 i (by omega) (by omega)]
    exact n1 195 i (by omega)
  have m18 : zz_up N3 194 3 (1 : Int32) 1 8 = 1 := by
    rw [zu_o (by omega), k2 1 8 (by omega), hN2, zu_o (by omega), zu_eq]
  refine zv_mk ⟨zc_pt (fun a i _ _ _ => n3 a i (by omega) (by omega) (by omega) (by omega)) (fun i _ => n3 195 i (by omega) (by omega) (by omega) (by omega)) hS, zc_LwP (n3 37 0 (by omega) (by omega) (by omega) (by omega)) (n3 37 1 (by omega) (by omega) (by omega) (by omega)) (fun j i _ _ => n3 _ i (by omega) (by omega) (by omega) (by omega)) (fun i _ => n3 195 i (by omega) (by omega) (by omega) (by omega)) hL, zc_TC (n3 2 1 (by omega) (by omega) (by omega) (by omega)) (n3 194 8 (by omega) (by omega) (by omega) (by omega)) (fun i _ => ⟨n3 3 i (by omega) (by omega) (by omega) (by omega), n3 199 i (by omega) (by omega) (by omega) (by omega)⟩) hT, ?_, zc_AC (fun a i ha => n3 a i (by omega) (by omega) (by omega) (by omega)) hA, ?_, ?_, fun _ => ⟨?_, ?_⟩⟩ ?_ ?_
  · rw [n3 1 1 (by omega) (by omega) (by omega) (by omega), n3 194 12 (by omega) (by omega) (by omega) (by omega)]; exact hF
  · rw [m18, zu_eq]
  · rw [m18]; rfl
  · refine zc_pt (N := N0) (r := M 195) (fun a i h1 h2 h3 => ?_) (fun i hi => m6 i (by omega)) (zcp_St c0 hS)
    rw [m3 a i (by omega) (by omega) (by omega)]
    exact l1 a i (by omega)
  · refine zc_LwP (N := M) (l := 37) (r := M 195) ?_ ?_ (fun j i h1 h2 => ?_) (fun i hi => m6 i (by omega)) hL
    · rw [m3 51 0 (by omega) (by omega) (by omega), l3]; exact c0.1 37 0 (by omega)
    · rw [m3 51 1 (by omega) (by omega) (by omega), l4]; exact c0.1 37 1 (by omega)
    · rw [m3 (51 + j) i (by omega) (by omega) (by omega), l2 j i h1 h2]; exact c0.1 _ i (by omega)
  · rw [n3 194 15 (by omega) (by omega) (by omega) (by omega)]; exact hI.2.1
  · rw [n3 194 16 (by omega) (by omega) (by omega) (by omega)]; exact hI.2.2
theorem zo50 : zo_50 zv_Inv := by
  intro M hI
  obtain ⟨hS, hL, hT, hF, hA, hK⟩ := zv_al hI
  unfold v_N_back w_N_back v_D_back
  by_cases h0 : M 1 8 = 0
  · rw [decide_eq_true h0, zk_t, zk_t]
    have h3 : M 194 3 = 0 := by rw [← hK.1]; exact h0
    unfold w_D_back
    rw [decide_eq_true h3, zk_t, zk_t]
    exact ⟨fun _ => rfl, rfl, zv_th hI 0⟩
  · rw [decide_eq_false h0, zk_f, zk_f]
    have h3 : ¬ M 194 3 = 0 := by rw [← hK.1]; exact h0
    obtain ⟨kS, kL⟩ := hK.2.2 h0
    obtain ⟨N0, hN0⟩ : ∃ N, N = w_S_copyFrom M 4 26 := ⟨_, rfl⟩
    have c0 : zcp M 4 26 10 8 N0 := by rw [hN0]; exact zcp_all M (by omega)
    obtain ⟨N1, hN1⟩ : ∃ N, N = w_L_copyFrom N0 37 51 := ⟨_, rfl⟩
    obtain ⟨l1, l2, l3, l4⟩ := zlc_all N0 (l := 37) (k := 51) (by omega)
    rw [← hN1] at l1 l2 l3 l4
    rw [← hN0, ← hN1]
    have n1 : ∀ a i, (a < 4 ∨ (14 < a ∧ a < 37) ∨ 41 < a) → N1 a i = M a i := fun a i ha => by
      rw [l1 a i (by omega)]; exact c0.1 a i (by omega)
    have n0 : ∀ a i, (a < 4 ∨ (14 < a ∧ a < 37) ∨ 41 < a) → a ≠ 58 → w_A_forget N1 a i = M a i := fun a i ha h1 => by
      unfold w_A_forget
      rw [zu_o (by omega)]; exact n1 a i ha
    have h33 : ¬ w_A_forget N1 194 3 = 0 := by rw [n0 194 3 (by omega) (by omega)]; exact h3
    rw [decide_eq_false h33, zk_f]
    refine ⟨fun i => n0 0 i (by omega) (by omega), rfl, ?_⟩
    unfold w_D_back
    rw [decide_eq_false h33, zk_f]
    obtain ⟨N2, hN2⟩ : ∃ N, N = zz_up (w_A_forget N1) 194 0 (0 : Int32) := ⟨_, rfl⟩
    rw [← hN2]
    obtain ⟨k1, k2⟩ := zcl (q := 195) (r := 196) (by omega) (f := f_D_back_1 (w_A_forget N1)) (fun i a => rfl) N2 709
    generalize zf_for 709 (f_D_back_1 (w_A_forget N1)) N2 = N3 at k1 k2 ⊢
    have n2 : ∀ a i, a ≠ 58 → ¬ (a = 194 ∧ i = 0) → N2 a i = N1 a i := fun a i h1 h2 => by
      rw [hN2, zu_o h2]
      unfold w_A_forget
      rw [zu_o (by omega)]
    have m3 : ∀ a i, a ≠ 58 → ¬ (a = 194 ∧ (i = 0 ∨ i = 6)) → a ≠ 195 → zz_up N3 194 6 (0 : Int32) a i = N1 a i := fun a i h1 h2 h3 => by
      rw [zu_o (by omega), k2 a i h3]; exact n2 a i h1 (by omega)
    have n3 : ∀ a i, (a < 4 ∨ (14 < a ∧ a < 37) ∨ 41 < a) → a ≠ 58 → ¬ (a = 194 ∧ (i = 0 ∨ i = 6)) → a ≠ 195 → zz_up N3 194 6 (0 : Int32) a i = M a i := fun a i h0 h1 h2 h3 => by
      rw [m3 a i h1 h2 h3]; exact n1 a i h0
    have m5 : ∀ i, i < 709 → zz_up N3 194 6 (0 : Int32) 195 i = M 196 i := fun i hi => by
      rw [zu_o (by omega), k1, decide_eq_true hi, zk_t, n2 196 i (by omega) (by omega)]
      exact n1 196 i (by omega)
    have p2 : zz_up N3 194 6 (0 : Int32) 58 2 = 0 := by
      rw [zu_o (by omega), k2 58 2 (by omega), hN2, zu_o (by omega)]
      unfold w_A_forget
      rw [zu_eq]
    have p1 : zz_up N3 194 6 (0 : Int32) 58 1 = M 58 1 := by
      rw [zu_o (by omega), k2 58 1 (by omega), hN2, zu_o (by omega)]
      unfold w_A_forget
      rw [zu_o (by omega)]; exact n1 58 1 (by omega)
    refine zv_mk ⟨zc_pt (N := N0) (r := M 196) (fun a i h1 h2 h3 => ?_) (fun i hi => m5 i (by omega)) (zcp_St c0 kS), zc_LwP (N := M) (l := 51) (r := M 196) ?_ ?_ (fun j i h1 h2 => ?_) (fun i hi => m5 i (by omega)) kL, zc_TC (n3 2 1 (by omega) (by omega) (by omega) (by omega)) (n3 194 8 (by omega) (by omega) (by omega) (by omega)) (fun i _ => ⟨n3 3 i (by omega) (by omega) (by omega) (by omega), n3 199 i (by omega) (by omega) (by omega) (by omega)⟩) hT, ?_, ⟨⟨by rw [p2, zu_eq], by rw [p2]; exact ⟨by decide, by decide⟩, by rw [p1]; exact hA.1.2.2⟩, fun b hb => ?_⟩, ?_, ?_, fun _ => ⟨?_, ?_⟩⟩ ?_ ?_
    · rw [m3 a i (by omega) (by omega) (by omega)]
      exact l1 a i (by omega)
    · rw [m3 37 0 (by omega) (by omega) (by omega), l3]; exact c0.1 51 0 (by omega)
    · rw [m3 37 1 (by omega) (by omega) (by omega), l4]; exact c0.1 51 1 (by omega)
    · rw [m3 (37 + j) i (by omega) (by omega) (by omega), l2 j i h1 h2]; exact c0.1 _ i (by omega)
    · rw [n3 1 1 (by omega) (by omega) (by omega) (by omega), n3 194 12 (by omega) (by omega) (by omega) (by omega)]; exact hF
    · rw [p2] at hb
      have e0 : (0 : Int32).toInt = 0 := rfl
      omega
    · rw [n3 1 8 (by omega) (by omega) (by omega) (by omega), n3 194 3 (by omega) (by omega) (by omega) (by omega)]; exact hK.1
    · rw [n3 1 8 (by omega) (by omega) (by omega) (by omega)]; exact hK.2.1
    · exact zc_pt (fun a i h1 h2 _ => n3 a i (by omega) (by omega) (by omega) (by omega)) (fun i _ => n3 196 i (by omega) (by omega) (by omega) (by omega)) kS
    · exact zc_LwP (n3 51 0 (by omega) (by omega) (by omega) (by omega)) (n3 51 1 (by omega) (by omega) (by omega) (by omega)) (fun j i _ _ => n3 _ i (by omega) (by omega) (by omega) (by omega)) (fun i _ => n3 196 i (by omega) (by omega) (by omega) (by omega)) kL
    · rw [n3 194 15 (by omega) (by omega) (by omega) (by omega)]; exact hI.2.1
    · rw [n3 194 16 (by omega) (by omega) (by omega) (by omega)]; exact hI.2.2
theorem zi_b12 : ∀ t, t < 12 → zrm (((Int32.ofNat t) + (12 : Int32)) - (1 : Int32)) (12 : Int32) = Int32.ofNat ((t + 11) % 12) := by decide +kernel
theorem zo48 : zo_48 zv_Inv := by
  intro M hI
  obtain ⟨hS, hL, hT, hF, hA, hK⟩ := zv_al hI
  obtain ⟨t, k, ht, hk, t2, k2, k3, -⟩ := zr_N hI
  have o1 : (M 58 1).toInt.toNat = t := by rw [t2, zi_val (by omega)]; rfl
  have o2 : (M 58 2).toInt = (k : Int) := by rw [k2, zi_val (by omega)]
  unfold ok_N_undo v_N_undo w_N_undo v_A_goBack w_A_goBack ok_A_goBack ok_D_undo v_D_undo w_D_undo
  have ez : ∀ N : zMem, N 194 6 = M 194 6 → decide (N 194 6 = 0) = decide (k = 0) := fun N h => by
    rw [h, k3]; exact zN_eq (a := k) (b := 0) (by omega) (by omega)
  have e2 : decide (M 58 2 = 0) = decide (k = 0) := by rw [k2]; exact zN_eq (a := k) (b := 0) (by omega) (by omega)
  rw [e2]
  by_cases c : k = 0
  · rw [decide_eq_true c, zk_t, zk_t, ez M rfl, decide_eq_true c, zk_t, zk_t]
    exact ⟨(fun h => by cases h), fun _ => rfl, (fun h => by cases h), rfl, zv_th hI 0⟩
  · rw [decide_eq_false c, zk_f, zk_f, t2, zi_b12 t ht]
    have hu : (t + 11) % 12 < 12 := Nat.mod_lt _ (by omega)
    rw [zi_nat (by omega)]
    obtain ⟨N0, hN0⟩ : ∃ N, N = zz_up (zz_up M 58 1 (Int32.ofNat ((t + 11) % 12))) 58 2 (M 58 2 - (1 : Int32)) := ⟨_, rfl⟩
    rw [← hN0]
    obtain ⟨c1, c2, c3⟩ := zcp_all N0 (s := 4) (r := 60 + 11 * ((t + 11) % 12)) (by omega)
    have c0 := zcp_all N0 (s := 4) (r := 60 + 11 * ((t + 11) % 12)) (by omega)
    generalize w_S_copyFrom N0 4 (60 + 11 * ((t + 11) % 12)) = N1 at c0 c1 c2 c3 ⊢
    have n0 : ∀ a i, a ≠ 58 → N0 a i = M a i := fun a i h => by rw [hN0, zu_o (by omega), zu_o (by omega)]
    have n1 : ∀ a i, a ≠ 58 → (a < 4 ∨ 14 < a) → N1 a i = M a i := fun a i h1 h2 => by rw [c1 a i (by omega)]; exact n0 a i h1
    have z1 : N1 194 6 = M 194 6 := n1 194 6 (by omega) (by omega)
    rw [ez N1 z1, decide_eq_false c, zk_f, zk_f]
    have e61 : N1 194 6 - (1 : Int32) = Int32.ofNat (k - 1) := by rw [z1, k3]; exact zN_sub (b := 1) (by omega)
    rw [e61]
    obtain ⟨N2, hN2⟩ : ∃ N, N = zz_up (zz_up N1 194 0 (0 : Int32)) 194 6 (Int32.ofNat (k - 1)) := ⟨_, rfl⟩
    rw [← hN2]
    have loop : ∀ n, n ≤ 309 → (∀ j, zf_for n (f_D_undo_1 N1) N2 195 j = (bif decide (j < n) then M 198 (309 * (k - 1) + j) else M 195 j)) ∧ (∀ a i, a ≠ 195 → zf_for n (f_D_undo_1 N1) N2 a i = N2 a i) := by
      intro n
      induction n with
      | zero =>
        refine fun _ => ⟨fun j => ?_, fun a i _ => rfl⟩
        show N2 195 j = _
        rw [decide_eq_false (by omega), zk_f, hN2, zu_o (by omega), zu_o (by omega)]
        exact n1 195 j (by omega) (by omega)
      | succ n ih =>
        intro hn
        obtain ⟨h1, h2⟩ := ih (by omega)
        have e : zf_for (n + 1) (f_D_undo_1 N1) N2 = zz_up (zf_for n (f_D_undo_1 N1) N2) 195 n (M 198 (309 * (k - 1) + n)) := by
          show zz_up (zf_for n (f_D_undo_1 N1) N2) 195 n (zf_for n (f_D_undo_1 N1) N2 198 (((309 : Int32) * (zf_for n (f_D_undo_1 N1) N2 194 6)) + (Int32.ofNat n)).toNatClampNeg) = _
          rw [h2 194 6 (by omega), show N2 194 6 = Int32.ofNat (k - 1) by rw [hN2, zu_eq], zi_mad, zi_nat (by omega), h2 198 _ (by omega), hN2, zu_o (by omega), zu_o (by omega), n1 198 _ (by omega) (by omega)]
        rw [e]
        refine ⟨fun j => ?_, fun a i ha => ?_⟩
        · by_cases q : j = n
          · subst q
            rw [zu_eq, decide_eq_true (show j < j + 1 by omega), zk_t]
          · rw [zu_o (by omega), h1]
            by_cases q2 : j < n
            · rw [decide_eq_true q2, decide_eq_true (show j < n + 1 by omega)]
            · rw [decide_eq_false q2, decide_eq_false (show ¬ j < n + 1 by omega)]
        · rw [zu_o (by omega)]; exact h2 a i ha
    refine ⟨fun _ => zi_in hu (by omega), fun i => n1 0 i (by omega) (by omega), fun _ i hi => ?_, rfl, ?_⟩
    · unfold kb_D_undo_1
      obtain ⟨-, q2⟩ := loop i (by omega)
      rw [q2 194 6 (by omega), hN2, zu_eq, zi_mad]
      exact zi_in (by omega) (by omega)
    · obtain ⟨q1, q2⟩ := loop 309 (by omega)
      generalize zf_for 309 (f_D_undo_1 N1) N2 = M2 at q1 q2 ⊢
      obtain ⟨a1, a2, a3⟩ := hA.2 0 (by rw [o2]; omega)
      rw [o1, o2, Int.toNat_natCast] at a1
      rw [o2, Int.toNat_natCast] at a2 a3
      have s195 : ∀ i, i < 309 → M2 195 i = M 198 (309 * (k - 1 - 0) + i) := fun i hi => by rw [q1, decide_eq_true hi, zk_t]; rfl
      have s309 : ∀ i, (i = 1 ∨ i = 2 ∨ 309 ≤ i) → M2 195 i = M 195 i := fun i hi => by
        by_cases g : i < 309
        · rw [s195 i g]
          rcases (show i = 1 ∨ i = 2 by omega) with e | e
          · subst e; exact a2
          · subst e; exact a3
        · rw [q1, decide_eq_false g, zk_f]
      have same : ∀ a i, a ≠ 58 → (a < 4 ∨ 14 < a) → ¬ (a = 194 ∧ (i = 0 ∨ i = 6)) → a ≠ 195 → M2 a i = M a i := fun a i h1 h2 h3 h4 => by
        rw [q2 a i h4, hN2, zu_o (by omega), zu_o (by omega)]; exact n1 a i h1 h2
      have p1 : M2 58 1 = Int32.ofNat ((t + 11) % 12) := by
        rw [q2 58 1 (by omega), hN2, zu_o (by omega), zu_o (by omega), c1 58 1 (by omega), hN0, zu_o (by omega), zu_eq]
      have p2 : M2 58 2 = Int32.ofNat (k - 1) := by
        rw [q2 58 2 (by omega), hN2, zu_o (by omega), zu_o (by omega), c1 58 2 (by omega), hN0, zu_eq, k2]
        exact zN_sub (b := 1) (by omega)
      have p6 : M2 194 6 = Int32.ofNat (k - 1) := by rw [q2 194 6 (by omega), hN2, zu_eq]
      have m1 : (M2 58 1).toInt.toNat = (t + 11) % 12 := by rw [p1, zi_val (by omega)]; rfl
      have m2 : (M2 58 2).toInt = ((k - 1 : Nat) : Int) := by rw [p2, zi_val (by omega)]
      refine zv_mk ⟨?_, zc_LwP (same 37 0 (by omega) (by omega) (by omega) (by omega)) (same 37 1 (by omega) (by omega) (by omega) (by omega)) (fun j i _ _ => same _ i (by omega) (by omega) (by omega) (by omega)) (fun i hi => s309 i (by omega)) hL, zc_TC (same 2 1 (by omega) (by omega) (by omega) (by omega)) (same 194 8 (by omega) (by omega) (by omega) (by omega)) (fun i _ => ⟨same 3 i (by omega) (by omega) (by omega) (by omega), same 199 i (by omega) (by omega) (by omega) (by omega)⟩) hT, ?_, ⟨⟨by rw [p2, p6], ⟨by rw [m2]; omega, by rw [m2]; omega⟩, ⟨by rw [p1, zi_val (by omega)]; omega, by rw [p1, zi_val (by omega)]; omega⟩⟩, fun b hb => ?_⟩, ?_, ?_, fun hh => ?_⟩ ?_ ?_
      · have ei : (t + 11 - 0) % 12 = (t + 11) % 12 := rfl
        rw [ei] at a1
        have hN : zc_St N0 (60 + 11 * ((t + 11) % 12)) (fun i => M 198 (309 * (k - 1 - 0) + i)) := zc_pt (fun a i h1 h2 _ => n0 a i (by omega)) (fun i _ => rfl) a1
        refine zc_pt (N := N1) (fun a i h1 h2 _ => ?_) s195 (zcp_St c0 hN)
        rw [q2 a i (by omega), hN2, zu_o (by omega), zu_o (by omega)]
      · rw [same 1 1 (by omega) (by omega) (by omega) (by omega), same 194 12 (by omega) (by omega) (by omega) (by omega)]; exact hF
      · rw [m2] at hb
        obtain ⟨b1, b2, b3⟩ := hA.2 (b + 1) (by rw [o2]; omega)
        rw [o1, o2, Int.toNat_natCast] at b1
        rw [o2, Int.toNat_natCast] at b2 b3
        rw [m1, m2, Int.toNat_natCast, s309 1 (by omega), s309 2 (by omega)]
        have e8 : ∀ i, M2 198 i = M 198 i := fun i => same 198 i (by omega) (by omega) (by omega) (by omega)
        have ei : ((t + 11) % 12 + 11 - b) % 12 = (t + 11 - (b + 1)) % 12 := by omega
        have hv : (t + 11 - (b + 1)) % 12 < 12 := Nat.mod_lt _ (by omega)
        have er : k - 1 - 1 - b = k - 1 - (b + 1) := by omega
        rw [ei, er, e8, e8]
        generalize (t + 11 - (b + 1)) % 12 = u at b1 hv ⊢
        exact ⟨zc_pt (fun a i h1 h2 _ => same a i (by omega) (by omega) (by omega) (by omega)) (fun i _ => e8 _) b1, b2, b3⟩
      · rw [same 1 8 (by omega) (by omega) (by omega) (by omega), same 194 3 (by omega) (by omega) (by omega) (by omega)]; exact hK.1
      · rw [same 1 8 (by omega) (by omega) (by omega) (by omega)]; exact hK.2.1
      · rw [same 1 8 (by omega) (by omega) (by omega) (by omega)] at hh
        obtain ⟨b1, b2⟩ := hK.2.2 hh
        exact ⟨zc_pt (fun a i h1 h2 _ => same a i (by omega) (by omega) (by omega) (by omega)) (fun i _ => same 196 i (by omega) (by omega) (by omega) (by omega)) b1, zc_LwP (same 51 0 (by omega) (by omega) (by omega) (by omega)) (same 51 1 (by omega) (by omega) (by omega) (by omega)) (fun j i _ _ => same _ i (by omega) (by omega) (by omega) (by omega)) (fun i _ => same 196 i (by omega) (by omega) (by omega) (by omega)) b2⟩
      · rw [same 194 15 (by omega) (by omega) (by omega) (by omega)]; exact hI.2.1
      · rw [same 194 16 (by omega) (by omega) (by omega) (by omega)]; exact hI.2.2
