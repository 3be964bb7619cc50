/-! a general loop that counts; call 51 -/
theorem zf_wf {α : Type} {g : Nat → α → Bool × α} {f : Nat → α → α} {k : Nat → α → Prop} {n : Nat} {a : α} (h1 : ∀ i x, i < n → g i x = (true, f i x)) (h0 : ∀ x, g n x = (false, x)) (hk : ∀ i x, i ≤ n → k i x) : ∀ (N i : Nat), i ≤ n → n < N + i → zf_wh N g i (zf_for i f a) = zf_for n f a ∧ zf_wk N g k i (zf_for i f a)
  | 0, i, hi, hn => by omega
  | N + 1, i, hi, hn => by
    by_cases h : i < n
    · obtain ⟨b1, b2⟩ := zf_wf h1 h0 hk N (i + 1) (by omega) (by omega)
      refine ⟨?_, zf_k1 (h1 i _ h) (hk i _ hi) b2⟩
      rw [zf_w1 (h1 i _ h)]
      exact b1
    · have e : i = n := by omega
      subst e
      exact ⟨zf_w0 (h0 _), zf_k0 (h0 _) (hk i _ hi)⟩
theorem zi_len {n i : Nat} (hn : n < 1000) (hi : i < 1000) : decide (Int32.ofNat n ≤ Int32.ofNat i) = decide (n ≤ i) := by
  rw [zi_lei, zi_val (by omega), zi_val (by omega)]
  refine decide_eq_decide.mpr ?_
  omega
theorem zq_mem {M M' : zMem} (hI : zv_Inv M) (h : M' 195 = M 195) {c : Nat} (hc : c < 6) (hr : ∀ p, p < 6 → zrg 0 65535 (M (8 + c) p)) : v_S_membersOfAll M 4 (8 + c) = v_D_bitsOfAll M' (Int32.ofNat c) ∧ ok_S_membersOfAll M 4 (8 + c) ∧ ok_D_bitsOfAll M' (Int32.ofNat c) := by
  obtain ⟨n, hn, n1, n2, n3, n4⟩ := zq_n hI
  have key := zf_wf (g := g_S_membersOfAll_1 M 4 (8 + c)) (f := fun i a => a + v_ji_bitCount (M (8 + c) i)) (k := kb_S_membersOfAll_1 M 4 (8 + c)) (n := n) (a := (0 : Int32)) (fun i x hi => by
      unfold g_S_membersOfAll_1
      rw [n3, zi_len (by omega) (by omega), zi_len (by omega) (by omega), decide_eq_false (show ¬ n ≤ i by omega), decide_eq_false (show ¬ 6 ≤ i by omega), zi_nat (by omega)]
      simp only [zk_f]) (fun x => by
      unfold g_S_membersOfAll_1
      rw [n3, zi_len (by omega) (by omega), decide_eq_true (show n ≤ n by omega)]
      simp only [zk_t]) (fun i x hi => by
      intro _ hd
      rw [zi_len (by omega) (by omega)] at hd
      exact zi_in (by have := of_decide_eq_false hd; omega) (by omega)) 1000 0 (by omega) (by omega)
  refine ⟨?_, key.2, ?_⟩
  · unfold v_S_membersOfAll v_D_bitsOfAll
    refine Eq.trans key.1 ?_
    rw [h, n2]
    refine zf_cg n _ fun i hi a => ?_
    unfold f_D_bitsOfAll_1
    rw [zq_of hI h (by omega) c hc, zN_count (hr i (by omega))]
  · unfold ok_D_bitsOfAll
    rw [h, n2]
    exact fun i hi => zd_ofk M' (by omega) hc
theorem zq_fame {M M' : zMem} (hI : zv_Inv M) (h : M' 195 = M 195) : v_S_fameOfAll M 4 = v_D_fameOfAll M' ∧ ok_S_fameOfAll M 4 ∧ ok_D_fameOfAll M' := by
  obtain ⟨n, hn, n1, n2, -, -⟩ := zq_n hI
  unfold v_S_fameOfAll v_D_fameOfAll ok_S_fameOfAll ok_D_fameOfAll
  rw [h, n1, n2]
  refine ⟨zf_cg n _ fun i hi a => ?_, fun i hi => zq_in (by omega), fun i hi => zd_ofk M' (p := i) (k := 5) (by omega) (by omega)⟩
  unfold f_S_fameOfAll_1 f_D_fameOfAll_1
  rw [show v_D_of M' (Int32.ofNat i) (5 : Int32) = M 13 i from zq_of hI h (by omega) 5 (by omega)]
theorem zr_w {a b : Int} {x : Int32} (h : zrg 0 a x) (hab : a ≤ b) : zrg 0 b x := ⟨h.1, by have := h.2; omega⟩
theorem zq_done {M M' : zMem} (hI : zv_Inv M) (h : M' 195 = M 195) : v_S_deedsOfAll M 4 = v_D_bitsOfAll M' (4 : Int32) ∧ ok_S_deedsOfAll M 4 ∧ ok_D_bitsOfAll M' (4 : Int32) := zq_mem hI h (c := 4) (by omega) (fun p hp => zr_w (zv_P hI hp).2.2.2.2.2.1 (by omega))
theorem zq_rub {M M' : zMem} (hI : zv_Inv M) (h : M' 195 = M 195) : v_S_rubbedOfAll M 4 = v_D_bitsOfAll M' (1 : Int32) ∧ ok_S_rubbedOfAll M 4 ∧ ok_D_bitsOfAll M' (1 : Int32) := zq_mem hI h (c := 1) (by omega) (fun p hp => (zv_P hI hp).2.2.1)
