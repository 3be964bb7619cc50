/-! call 3: a law's text -/
theorem zc_p2 {N N' : zMem} {s : Nat} {r r' : Nat → Int32} (h : ∀ a i, s ≤ a → a ≤ s + 10 → (a = s → 10 ≤ i) → N' a i = N a i) (hr : ∀ i, i < 309 → i ≠ 1 → i ≠ 2 → r' i = r i) (hS : zc_St N s r) : zc_St N' s r' := by
  have h1 : zc_St N' s (fun i => if i = 1 ∨ i = 2 then r i else r' i) := zc_pt h (fun i hi => by
    show (if i = 1 ∨ i = 2 then r i else r' i) = r i
    split
    · rfl
    · exact hr i hi (by omega) (by omega)) hS
  obtain ⟨hK, hP, hF, hG⟩ := h1
  have e : ∀ i, i ≠ 1 → i ≠ 2 → (fun i => if i = 1 ∨ i = 2 then r i else r' i) i = r' i := fun i h1 h2 => by
    show (if i = 1 ∨ i = 2 then r i else r' i) = r' i
    rw [if_neg (by omega)]
  refine ⟨fun k hk => ?_, fun p hp => ?_, ?_, fun g hg => ?_⟩
  · have := hK k hk
    rw [e (9 + 3 * k) (by omega) (by omega), e (10 + 3 * k) (by omega) (by omega), e (11 + 3 * k) (by omega) (by omega)] at this
    exact this
  · have := hP p hp
    rw [e (33 + 6 * p) (by omega) (by omega), e (34 + 6 * p) (by omega) (by omega), e (35 + 6 * p) (by omega) (by omega), e (36 + 6 * p) (by omega) (by omega), e (37 + 6 * p) (by omega) (by omega), e (38 + 6 * p) (by omega) (by omega)] at this
    exact this
  · exact hF
  · have := hG g hg
    rw [e (69 + 4 * g) (by omega) (by omega), e (70 + 4 * g) (by omega) (by omega), e (71 + 4 * g) (by omega) (by omega), e (72 + 4 * g) (by omega) (by omega)] at this
    exact this
theorem zpTx_at {f : Nat → Int32} {n i : Nat} (h : i < n) : zpTx f n i = f i := by
  unfold zpTx
  rw [decide_eq_true h, zk_t]
/-- the tape is opened -/
theorem zT_op {M : zMem} {n : Nat} (h1 : M 2 1 = Int32.ofNat n) (hn : n ≤ 400) : zT (w_T_open M) (zpTx (M 3) n) n (zpSk (zpTx (M 3) n) n 0, -1) ∧ ok_T_open M ∧ w_T_open M 2 1 = 0 ∧ (∀ a i, a ≠ 2 → w_T_open M a i = M a i) := by
  unfold w_T_open ok_T_open w_T_useUp v_T_useUp
  rw [h1]
  have ht : ∀ i, i < n → (zz_up (zz_up (zz_up M 2 1 (0 : Int32)) 2 2 (Int32.ofNat n)) 2 4 (-1 : Int32)) 3 i = zpTx (M 3) n i := fun i hi => by
    rw [zu_o (by omega), zu_o (by omega), zu_o (by omega), zpTx_at hi]
  obtain ⟨a, b⟩ := zT_mv (M := zz_up (zz_up (zz_up M 2 1 (0 : Int32)) 2 2 (Int32.ofNat n)) 2 4 (-1 : Int32)) (q := 0) (by rw [zu_o (by omega), zu_eq]) hn ht (by omega)
  have a : w_T_moveTo (zz_up (zz_up (zz_up M 2 1 (0 : Int32)) 2 2 (Int32.ofNat n)) 2 4 (-1 : Int32)) (0 : Int32) = _ := a
  rw [a]
  refine ⟨⟨by rw [zu_o (by omega), zu_o (by omega), zu_eq], hn, fun i hi => by rw [zu_o (by omega)]; exact ht i hi, zu_eq, (zpSk_le (by omega)).1, by rw [zu_o (by omega), zu_eq]⟩, b, by rw [zu_o (by omega), zu_o (by omega), zu_o (by omega), zu_eq], fun a i ha => by rw [zu_o (by omega), zu_o (by omega), zu_o (by omega), zu_o (by omega)]⟩
/-- the class reads a law -/
theorem zJ_law {N : zMem} {t : Nat → Int32} {n : Nat} (h : zT N t n (zpSk t n 0, -1)) : ok_J_readAll N ∧ zJ (w_J_readAll N) t n (zpLaw t n).1 (zpCode (zpLaw t n).2) ∧ zLs (w_J_readAll N) (zpLaw t n).1 (zpLaw t n).2 ∧ zJg N (w_J_readAll N) := by
  have e1 : (w_L_clear N) 44 1 = 0 := zu_eq
  have e0 : (w_L_clear N) 44 0 = 0 := by
    unfold w_L_clear
    rw [zu_o (by omega), zu_eq]
  have f : zJg N (w_L_clear N) := fun a i _ h2 => by
    unfold w_L_clear
    rw [zu_o (by omega), zu_o (by omega)]
  obtain ⟨t1, t2, t3, t4, t5, t6⟩ := h
  have hJ : zJ (w_L_clear N) t n (zpSk t n 0, -1) (zpCode []) := ⟨⟨by rw [f 2 2 (by omega) (by omega)]; exact t1, t2, fun i hi => by rw [f 3 i (by omega) (by omega)]; exact t3 i hi, by unfold w_L_clear; rw [zu_o (by omega), zu_o (by omega)]; exact t4, t5, by unfold w_L_clear; rw [zu_o (by omega), zu_o (by omega)]; exact t6⟩, by rw [e1]; exact ⟨by decide, by decide⟩, fun _ => ⟨Nat.zero_le _, e1, fun j hj => by cases hj⟩⟩
  have hL : zLs (w_L_clear N) (zpSk t n 0, -1) [] := ⟨by rw [e0]; exact ⟨by decide, by decide⟩, fun _ => ⟨e0, by decide, fun i hi => by cases hi⟩⟩
  obtain ⟨a, b, c, d⟩ := zJ_ll (t := t) (n := n) N 13 0 1000 (w_L_clear N) ((zpSk t n 0, -1), []) (by omega) (by omega) hJ hL (fun _ => rfl)
  exact ⟨a, b, c, zJg_tr f d⟩
/-- the reference begins -/
theorem zR_bg {N : zMem} {t : Nat → Int32} {n : Nat} (h8 : N 194 8 = Int32.ofNat n) (hn : n ≤ 400) (ht : ∀ i, i < n → N 199 i = t i) : zR (w_D_begins N) t n (zpSk t n 0, -1) 0 ∧ (w_D_begins N) 194 8 = 0 ∧ (∀ a i, ¬ (a = 194 ∧ (i = 8 ∨ i = 9 ∨ i = 10 ∨ i = 11 ∨ i = 12 ∨ i = 13)) → w_D_begins N a i = N a i) := by
  unfold w_D_begins
  refine ⟨⟨⟨hn, ?_, Or.inl ⟨?_, fun i hi => ?_⟩⟩, ?_, ⟨?_, by omega⟩, 0, ?_, by omega, fun _ => ⟨by omega, rfl⟩⟩, ?_, fun a i hi => ?_⟩
  · rw [zu_o (by omega), zu_o (by omega), zu_o (by omega), zu_eq]; exact h8
  · rw [zu_o (by omega), zu_o (by omega), zu_o (by omega), zu_o (by omega), zu_eq]
  · rw [zu_o (by omega), zu_o (by omega), zu_o (by omega), zu_o (by omega), zu_o (by omega), zu_o (by omega)]; exact ht i hi
  · rw [zu_o (by omega), zu_o (by omega), zu_o (by omega), zu_o (by omega), zu_o (by omega), zu_eq]
  · rw [zu_eq]; rfl
  · rw [zu_o (by omega), zu_eq]; rfl
  · rw [zu_o (by omega), zu_o (by omega), zu_eq]
  · rw [zu_o (by omega), zu_o (by omega), zu_o (by omega), zu_o (by omega), zu_o (by omega), zu_o (by omega)]
/-- facts of any memory -/
def zFo (M : zMem) : Nat → Int32 := fun j => bif decide (j < 8) then M 200 j else (bif Nat.beq j 8 then M 194 15 else M 194 16)
theorem zFo_ok {M : zMem} (h1 : zz_b01 (M 194 15) = true) (h2 : zz_b01 (M 194 16) = true) : zFa M (zFo M) := ⟨fun j hj => by unfold zFo; rw [decide_eq_true hj, zk_t], rfl, rfl, h1, h2⟩
/-- the text is kept -/
theorem zD_cp {A : zMem} {n : Nat} (M0 : zMem) (hn : n ≤ 400) (h : A 194 10 = Int32.ofNat n) : ((∀ j, j < n → (zf_wh 1000 (g_D_law_1 M0) 0 A) 195 (309 + j) = A 199 j) ∧ (∀ a i, ¬ (a = 195 ∧ 309 ≤ i ∧ i < 309 + n) → (zf_wh 1000 (g_D_law_1 M0) 0 A) a i = A a i)) ∧ zf_wk 1000 (g_D_law_1 M0) (kb_D_law_1 M0) 0 A := by
  refine zf_wq (g := g_D_law_1 M0) (k := kb_D_law_1 M0) (fun i (N : zMem) => i ≤ n ∧ (∀ j, j < i → N 195 (309 + j) = A 199 j) ∧ (∀ a k, ¬ (a = 195 ∧ 309 ≤ k ∧ k < 309 + i) → N a k = A a k)) (fun N => (∀ j, j < n → N 195 (309 + j) = A 199 j) ∧ (∀ a i, ¬ (a = 195 ∧ 309 ≤ i ∧ i < 309 + n) → N a i = A a i)) n (fun i N ⟨hi, h1, h2⟩ => ?_) 1000 0 A ⟨by omega, fun j hj => by omega, fun a k _ => rfl⟩ (by omega)
  have e10 : N 194 10 = Int32.ofNat n := by rw [h2 194 10 (by omega)]; exact h
  have ei : ((309 : Int32) + Int32.ofNat i).toNatClampNeg = 309 + i := by
    rw [show (309 : Int32) + Int32.ofNat i = Int32.ofNat (309 + i) from zi_ad 309 i, zi_nat (by omega)]
  unfold g_D_law_1 kb_D_law_1
  rw [e10, zi_le (by omega) (by omega), ei, zi_nat (by omega)]
  by_cases c : n ≤ i
  · rw [decide_eq_true c]
    simp only [zk_t]
    have e : i = n := by omega
    subst e
    exact ⟨hi, (fun hh => by cases hh), (fun hh => by cases hh), fun _ => ⟨h1, h2⟩⟩
  · rw [decide_eq_false c]
    simp only [zk_f]
    refine ⟨hi, fun _ => ⟨zi_in (by omega) (by omega), ?_⟩, fun _ => ⟨by omega, fun j hj => ?_, fun a k hk => ?_⟩, (fun hh => by cases hh)⟩
    · rw [show (309 : Int32) + Int32.ofNat i = Int32.ofNat (309 + i) from zi_ad 309 i]
      exact zi_in (by omega) (by omega)
    · by_cases e : j = i
      · rw [e, zu_eq]; exact h2 199 i (by omega)
      · rw [zu_o (by omega)]; exact h1 j (by omega)
    · rw [zu_o (by omega)]; exact h2 a k (by omega)
theorem zo3 : zo_3 zv_Inv := by
  intro M hI
  obtain ⟨hS, hL, hT, hF, hA, hK⟩ := zv_al hI
  obtain ⟨n, n1, n2, -⟩ := zr_ex hT.2.1
  have hn : n ≤ 400 := by omega
  obtain ⟨o1, o2, o3, o4⟩ := zT_op n2 hn
  obtain ⟨j1, j2, j3, j4⟩ := zJ_law o1
  have hJ : ∀ a i, a ≠ 2 → ¬ (44 ≤ a ∧ a ≤ 48) → w_J_readAll (w_T_open M) a i = M a i := fun a i h1 h2 => by
    rw [j4 a i (by omega) h2]; exact o4 a i h1
  have hJ21 : w_J_readAll (w_T_open M) 2 1 = 0 := by rw [j4 2 1 (by omega) (by omega)]; exact o3
  have hJw : v_T_wrongByte (w_J_readAll (w_T_open M)) = (zpLaw (zpTx (M 3) n) n).1.2 := j2.1.2.2.2.2.2
  unfold ok_N_law w_N_law t_N_law v_N_law
  rw [hJw]
  have okN : ok_T_open M ∧ ok_J_readAll (w_T_open M) := ⟨o2, j1⟩
  have e8 : M 194 8 = Int32.ofNat n := by rw [← hT.1]; exact n2
  have e199 : ∀ i, i < n → M 199 i = zpTx (M 3) n i := fun i hi => by rw [zpTx_at hi]; exact (hT.2.2 i (by omega)).1.symm
  generalize w_J_readAll (w_T_open M) = J at j2 j3 hJ hJ21 ⊢
  have eTT : zpTx (zpTx (M 3) n) n = zpTx (M 3) n := zpTx_cg (fun i hi => zpTx_at hi)
  generalize zpTx (M 3) n = t at j2 j3 e199 eTT ⊢
  by_cases c : (zpLaw t n).1.2 = -1
  · rw [decide_eq_true c, zk_t, zk_t, zk_t, c]
    obtain ⟨l1, l2, l3, l4⟩ := zlc_all (zz_up J 1 1 (-1 : Int32)) (l := 37) (k := 44) (by omega)
    obtain ⟨N1, hN1⟩ : ∃ N, N = w_A_forget (w_L_copyFrom (zz_up J 1 1 (-1 : Int32)) 37 44) := ⟨_, rfl⟩
    rw [← hN1]
    have n1 : ∀ a i, a ≠ 2 → ¬ (37 ≤ a ∧ a ≤ 41) → ¬ (44 ≤ a ∧ a ≤ 48) → ¬ (a = 1 ∧ i = 1) → ¬ (a = 58 ∧ i = 2) → N1 a i = M a i := fun a i h1 h2 h3 h4 h5 => by
      rw [hN1]
      unfold w_A_forget
      rw [zu_o h5, l1 a i (by omega), zu_o h4]
      exact hJ a i h1 h3
    have n21 : N1 2 1 = 0 := by
      rw [hN1]
      unfold w_A_forget
      rw [zu_o (by omega), l1 2 1 (by omega), zu_o (by omega)]; exact hJ21
    have n11 : N1 1 1 = -1 := by
      rw [hN1]
      unfold w_A_forget
      rw [zu_o (by omega), l1 1 1 (by omega), zu_eq]
    have n58 : N1 58 2 = 0 := by
      rw [hN1]
      unfold w_A_forget
      rw [zu_eq]
    have nl : ∀ j i, 1 ≤ j → j ≤ 4 → N1 (37 + j) i = J (44 + j) i := fun j i h1 h2 => by
      rw [hN1]
      unfold w_A_forget
      rw [zu_o (by omega), l2 j i h1 h2, zu_o (by omega)]
    have nl0 : N1 37 0 = J 44 0 := by
      rw [hN1]
      unfold w_A_forget
      rw [zu_o (by omega), l3, zu_o (by omega)]
    have nl1 : N1 37 1 = J 44 1 := by
      rw [hN1]
      unfold w_A_forget
      rw [zu_o (by omega), l4, zu_o (by omega)]
    obtain ⟨b1, b2, b3⟩ := zR_bg (N := N1) (t := t) (by rw [n1 194 8 (by omega) (by omega) (by omega) (by omega) (by omega)]; exact e8) hn (fun i hi => by rw [n1 199 i (by omega) (by omega) (by omega) (by omega) (by omega)]; exact e199 i hi)
    have b15 : zz_b01 ((w_D_begins N1) 194 15) = true := by rw [b3 194 15 (by omega), n1 194 15 (by omega) (by omega) (by omega) (by omega) (by omega)]; exact hI.2.1
    have b16 : zz_b01 ((w_D_begins N1) 194 16) = true := by rw [b3 194 16 (by omega), n1 194 16 (by omega) (by omega) (by omega) (by omega) (by omega)]; exact hI.2.2
    obtain ⟨r1, r2, r3, r4⟩ := zR_law b1 (zFo_ok b15 b16)
    obtain ⟨r5, -, -⟩ := r4 c
    have h12 : (w_D_read (w_D_begins N1) true) 194 12 = -1 := by rw [r3.2.1]; exact c
    unfold ok_D_law v_D_law w_D_law
    rw [h12, decide_eq_true (show (-1 : Int32) = -1 from rfl), zk_t, zb_f, zd_0, zk_t, zk_t, r5]
    have r10 : (w_D_read (w_D_begins N1) true) 194 10 = Int32.ofNat n := r3.1.2.1
    rw [r10]
    have fr : ∀ a i, ¬ (a = 194 ∧ (i = 8 ∨ i = 9 ∨ i = 10 ∨ i = 11 ∨ i = 12 ∨ i = 13 ∨ i = 17 ∨ i = 18)) → (w_D_read (w_D_begins N1) true) a i = N1 a i := fun a i hi => by
      rw [r2 a i (by omega)]; exact b3 a i (by omega)
    have fr8 : (w_D_read (w_D_begins N1) true) 194 8 = 0 := by rw [r2 194 8 (by omega)]; exact b2
    generalize w_D_read (w_D_begins N1) true = R at r1 r2 r3 h12 r10 fr fr8 ⊢
    obtain ⟨A, hAA⟩ : ∃ A, A = zz_up (zz_up (zz_up R 194 0 (0 : Int32)) 195 1 (Int32.ofNat (zpLaw t n).2.length)) 195 2 (Int32.ofNat n) := ⟨_, rfl⟩
    rw [← hAA]
    obtain ⟨⟨c1, c2⟩, c3⟩ := zD_cp (A := A) (n := n) N1 hn (by rw [hAA, zu_o (by omega), zu_o (by omega), zu_o (by omega)]; exact r10)
    obtain ⟨q1, q2, q3⟩ := j3.2 c
    obtain ⟨k1, k2, k3⟩ := j2.2.2 c
    refine ⟨okN, fun i => n1 0 i (by omega) (by omega) (by omega) (by omega) (by omega), Or.inl rfl, ⟨r1, fun _ => c3⟩, ?_, fun _ => by rw [nl0]; exact q1, ?_⟩
    · unfold v_D_thrown
      rw [zu_o (by omega), c2 194 0 (by omega), hAA, zu_o (by omega), zu_o (by omega), zu_eq]; rfl
    · generalize zf_wh 1000 (g_D_law_1 N1) 0 A = B at c1 c2 ⊢
      have m : ∀ a i, a ≠ 2 → ¬ (37 ≤ a ∧ a ≤ 41) → ¬ (44 ≤ a ∧ a ≤ 48) → ¬ (a = 1 ∧ i = 1) → ¬ (a = 58 ∧ i = 2) → a ≠ 194 → ¬ (a = 195 ∧ (i = 1 ∨ i = 2 ∨ 309 ≤ i)) → zz_up B 194 6 (0 : Int32) a i = M a i := fun a i h1 h2 h3 h4 h5 h6 h7 => by
        rw [zu_o (by omega), c2 a i (by omega), hAA, zu_o (by omega), zu_o (by omega), zu_o (by omega), fr a i (by omega)]
        exact n1 a i h1 h2 h3 h4 h5
      have mN : ∀ a i, a ≠ 194 → a ≠ 195 → zz_up B 194 6 (0 : Int32) a i = N1 a i := fun a i h6 h7 => by
        rw [zu_o (by omega), c2 a i (by omega), hAA, zu_o (by omega), zu_o (by omega), zu_o (by omega), fr a i (by omega)]
      have mR : ∀ i, i ≠ 0 → i ≠ 6 → zz_up B 194 6 (0 : Int32) 194 i = R 194 i := fun i h0 h6 => by
        rw [zu_o (by omega), c2 194 i (by omega), hAA, zu_o (by omega), zu_o (by omega), zu_o (by omega)]
      have mM : ∀ i, (i = 3 ∨ i = 15 ∨ i = 16) → zz_up B 194 6 (0 : Int32) 194 i = M 194 i := fun i hi => by
        rw [mR i (by omega) (by omega), fr 194 i (by omega)]
        exact n1 194 i (by omega) (by omega) (by omega) (by omega) (by omega)
      have m51 : zz_up B 194 6 (0 : Int32) 195 1 = Int32.ofNat (zpLaw t n).2.length := by
        rw [zu_o (by omega), c2 195 1 (by omega), hAA, zu_o (by omega), zu_eq]
      have m52 : zz_up B 194 6 (0 : Int32) 195 2 = Int32.ofNat n := by
        rw [zu_o (by omega), c2 195 2 (by omega), hAA, zu_eq]
      have mt : ∀ i, i < n → zz_up B 194 6 (0 : Int32) 195 (309 + i) = t i := fun i hi => by
        rw [zu_o (by omega), c1 i hi, hAA, zu_o (by omega), zu_o (by omega), zu_o (by omega), fr 199 i (by omega), n1 199 i (by omega) (by omega) (by omega) (by omega) (by omega)]
        exact e199 i hi
      refine zv_mk ⟨zc_p2 (fun a i _ _ _ => m a i (by omega) (by omega) (by omega) (by omega) (by omega) (by omega) (by omega)) (fun i h1 h2 h3 => m 195 i (by omega) (by omega) (by omega) (by omega) (by omega) (by omega) (by omega)) hS, ⟨?_, ?_, ?_, fun _ => ?_⟩, ⟨?_, ?_, fun i hi => ?_⟩, ?_, ⟨⟨?_, ?_, ?_⟩, fun b hb => ?_⟩, ?_, ?_, fun hh => ?_⟩ ?_ ?_
      · rw [mN 37 0 (by omega) (by omega), m51, nl0]; exact q1
      · rw [m51]; exact ⟨by rw [zi_val (by omega)]; omega, by rw [zi_val (by omega)]; omega⟩
      · rw [m52]; exact ⟨by rw [zi_val (by omega)]; omega, by rw [zi_val (by omega)]; omega⟩
      · rw [m52, zi_val (by omega), Int.toNat_natCast]
        have et : zpTx (fun i => zz_up B 194 6 (0 : Int32) 195 (309 + i)) n = zpTx t n := zpTx_cg mt
        rw [et, eTT]
        refine ⟨c, ?_⟩
        refine ⟨⟨by rw [mN 37 0 (by omega) (by omega), nl0]; exact q1, q2, by rw [mN 37 1 (by omega) (by omega), nl1]; exact k2, ?_⟩, fun i hi => ?_, fun j hj => ?_⟩
        · have := j2.1.2.2.2.2.1
          omega
        · obtain ⟨x1, x2, x3⟩ := q3 i hi
          rw [mN (37 + 1) i (by omega) (by omega), mN (37 + 2) i (by omega) (by omega), mN (37 + 3) i (by omega) (by omega), nl 1 i (by omega) (by omega), nl 2 i (by omega) (by omega), nl 3 i (by omega) (by omega)]
          exact ⟨x1, x2, x3⟩
        · rw [mN (37 + 4) j (by omega) (by omega), nl 4 j (by omega) (by omega)]
          exact k3 j hj
      · rw [mN 2 1 (by omega) (by omega), mR 8 (by omega) (by omega), n21, fr8]
      · rw [mN 2 1 (by omega) (by omega), n21]; exact ⟨by decide, by decide⟩
      · rw [m 3 i (by omega) (by omega) (by omega) (by omega) (by omega) (by omega) (by omega), m 199 i (by omega) (by omega) (by omega) (by omega) (by omega) (by omega) (by omega)]
        exact hT.2.2 i hi
      · rw [mN 1 1 (by omega) (by omega), mR 12 (by omega) (by omega), n11, h12]
      · rw [mN 58 2 (by omega) (by omega), n58, zu_eq]
      · rw [mN 58 2 (by omega) (by omega), n58]; exact ⟨by decide, by decide⟩
      · rw [m 58 1 (by omega) (by omega) (by omega) (by omega) (by omega) (by omega) (by omega)]; exact hA.1.2.2
      · rw [mN 58 2 (by omega) (by omega), n58] at hb
        have e0 : (0 : Int32).toInt = 0 := rfl
        omega
      · rw [m 1 8 (by omega) (by omega) (by omega) (by omega) (by omega) (by omega) (by omega), mM 3 (by omega)]; exact hK.1
      · rw [m 1 8 (by omega) (by omega) (by omega) (by omega) (by omega) (by omega) (by omega)]; exact hK.2.1
      · rw [m 1 8 (by omega) (by omega) (by omega) (by omega) (by omega) (by omega) (by omega)] at hh
        obtain ⟨z1, z2⟩ := hK.2.2 hh
        exact ⟨zc_pt (fun a i _ _ _ => m a i (by omega) (by omega) (by omega) (by omega) (by omega) (by omega) (by omega)) (fun i _ => m 196 i (by omega) (by omega) (by omega) (by omega) (by omega) (by omega) (by omega)) z1, zc_LwP (m 51 0 (by omega) (by omega) (by omega) (by omega) (by omega) (by omega) (by omega)) (m 51 1 (by omega) (by omega) (by omega) (by omega) (by omega) (by omega) (by omega)) (fun j i _ _ => m _ i (by omega) (by omega) (by omega) (by omega) (by omega) (by omega) (by omega)) (fun i _ => m 196 i (by omega) (by omega) (by omega) (by omega) (by omega) (by omega) (by omega)) z2⟩
      · rw [mM 15 (by omega)]; exact hI.2.1
      · rw [mM 16 (by omega)]; exact hI.2.2
  · rw [decide_eq_false c, zk_f, zk_f]
    obtain ⟨N1, hN1⟩ : ∃ N, N = zz_up J 1 1 (zpLaw t n).1.2 := ⟨_, rfl⟩
    rw [← hN1]
    have n1 : ∀ a i, a ≠ 2 → ¬ (44 ≤ a ∧ a ≤ 48) → ¬ (a = 1 ∧ i = 1) → N1 a i = M a i := fun a i h1 h3 h4 => by
      rw [hN1, zu_o h4]
      exact hJ a i h1 h3
    have n21 : N1 2 1 = 0 := by rw [hN1, zu_o (by omega)]; exact hJ21
    have n11 : N1 1 1 = (zpLaw t n).1.2 := by rw [hN1, zu_eq]
    obtain ⟨b1, b2, b3⟩ := zR_bg (N := N1) (t := t) (by rw [n1 194 8 (by omega) (by omega) (by omega)]; exact e8) hn (fun i hi => by rw [n1 199 i (by omega) (by omega) (by omega)]; exact e199 i hi)
    have b15 : zz_b01 ((w_D_begins N1) 194 15) = true := by rw [b3 194 15 (by omega), n1 194 15 (by omega) (by omega) (by omega)]; exact hI.2.1
    have b16 : zz_b01 ((w_D_begins N1) 194 16) = true := by rw [b3 194 16 (by omega), n1 194 16 (by omega) (by omega) (by omega)]; exact hI.2.2
    obtain ⟨r1, r2, r3, r4⟩ := zR_law b1 (zFo_ok b15 b16)
    have h12 : (w_D_read (w_D_begins N1) true) 194 12 = (zpLaw t n).1.2 := r3.2.1
    unfold ok_D_law v_D_law w_D_law
    rw [h12, decide_eq_false c, zk_f, zb_t, zd_1, zk_f, zk_f]
    have fr : ∀ a i, ¬ (a = 194 ∧ (i = 8 ∨ i = 9 ∨ i = 10 ∨ i = 11 ∨ i = 12 ∨ i = 13 ∨ i = 17 ∨ i = 18)) → (w_D_read (w_D_begins N1) true) a i = N1 a i := fun a i hi => by
      rw [r2 a i (by omega)]; exact b3 a i (by omega)
    have fr8 : (w_D_read (w_D_begins N1) true) 194 8 = 0 := by rw [r2 194 8 (by omega)]; exact b2
    generalize w_D_read (w_D_begins N1) true = R at r1 r2 r3 h12 fr fr8 ⊢
    refine ⟨okN, fun i => n1 0 i (by omega) (by omega) (by omega), Or.inr rfl, ⟨r1, (fun hh => by cases hh)⟩, by unfold v_D_thrown; rw [zu_eq]; rfl, (fun hh => by cases hh), ?_⟩
    have m : ∀ a i, a ≠ 2 → ¬ (44 ≤ a ∧ a ≤ 48) → ¬ (a = 1 ∧ i = 1) → ¬ (a = 194 ∧ (i = 0 ∨ i = 8 ∨ i = 9 ∨ i = 10 ∨ i = 11 ∨ i = 12 ∨ i = 13 ∨ i = 17 ∨ i = 18)) → zz_up R 194 0 (1 : Int32) a i = M a i := fun a i h1 h2 h3 h4 => by
      rw [zu_o (by omega), fr a i (by omega)]; exact n1 a i h1 h2 h3
    refine zv_mk ⟨zc_pt (fun a i _ _ _ => m a i (by omega) (by omega) (by omega) (by omega)) (fun i _ => m 195 i (by omega) (by omega) (by omega) (by omega)) hS, zc_LwP (m 37 0 (by omega) (by omega) (by omega) (by omega)) (m 37 1 (by omega) (by omega) (by omega) (by omega)) (fun j i _ _ => m _ i (by omega) (by omega) (by omega) (by omega)) (fun i _ => m 195 i (by omega) (by omega) (by omega) (by omega)) hL, ⟨?_, ?_, fun i hi => ?_⟩, ?_, zc_AC (fun a i ha => m a i (by omega) (by omega) (by omega) (by omega)) hA, ?_, ?_, fun hh => ?_⟩ ?_ ?_
    · rw [zu_o (by omega), zu_o (by omega), fr 2 1 (by omega), n21, fr8]
    · rw [zu_o (by omega), fr 2 1 (by omega), n21]; exact ⟨by decide, by decide⟩
    · rw [m 3 i (by omega) (by omega) (by omega) (by omega), m 199 i (by omega) (by omega) (by omega) (by omega)]
      exact hT.2.2 i hi
    · rw [zu_o (by omega), zu_o (by omega), fr 1 1 (by omega), n11, h12]
    · rw [m 1 8 (by omega) (by omega) (by omega) (by omega), m 194 3 (by omega) (by omega) (by omega) (by omega)]; exact hK.1
    · rw [m 1 8 (by omega) (by omega) (by omega) (by omega)]; exact hK.2.1
    · rw [m 1 8 (by omega) (by omega) (by omega) (by omega)] at hh
      obtain ⟨z1, z2⟩ := hK.2.2 hh
      exact ⟨zc_pt (fun a i _ _ _ => m a i (by omega) (by omega) (by omega) (by omega)) (fun i _ => m 196 i (by omega) (by omega) (by omega) (by omega)) z1, zc_LwP (m 51 0 (by omega) (by omega) (by omega) (by omega)) (m 51 1 (by omega) (by omega) (by omega) (by omega)) (fun j i _ _ => m _ i (by omega) (by omega) (by omega) (by omega)) (fun i _ => m 196 i (by omega) (by omega) (by omega) (by omega)) z2⟩
    · rw [m 194 15 (by omega) (by omega) (by omega) (by omega)]; exact hI.2.1
    · rw [m 194 16 (by omega) (by omega) (by omega) (by omega)]; exact hI.2.2
