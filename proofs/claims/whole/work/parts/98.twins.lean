/-! call 40; sets gathered by a loop -/
def zs2 (e : Nat → Nat → Nat) (i : Nat) : Nat → Nat
  | 0 => 0
  | j + 1 => zs2 e i j + e i j
def zs1 (e : Nat → Nat → Nat) : Nat → Nat
  | 0 => 0
  | i + 1 => zs1 e i + zs2 e i i
def zy2 (e : Nat → Nat → Nat) (a : Nat) : Nat → Nat
  | 0 => 0
  | j + 1 => zy2 e a j + e (a + 1 + j) a
def zy1 (e : Nat → Nat → Nat) (n : Nat) : Nat → Nat
  | 0 => 0
  | a + 1 => zy1 e n a + zy2 e a (n - 1 - a)
theorem zs_y (e : Nat → Nat → Nat) : ∀ n, n ≤ 6 → zs1 e n = zy1 e n n
  | 0, _ => rfl
  | 1, _ => rfl
  | 2, _ => by
    show zs1 e 2 = zy1 e 2 2
    simp only [zs1, zs2, zy1, zy2, Nat.reduceSub, Nat.reduceAdd, Nat.zero_add, Nat.add_zero]
  | 3, _ => by
    show zs1 e 3 = zy1 e 3 3
    simp only [zs1, zs2, zy1, zy2, Nat.reduceSub, Nat.reduceAdd, Nat.zero_add, Nat.add_zero]
    omega
  | 4, _ => by
    show zs1 e 4 = zy1 e 4 4
    simp only [zs1, zs2, zy1, zy2, Nat.reduceSub, Nat.reduceAdd, Nat.zero_add, Nat.add_zero]
    omega
  | 5, _ => by
    show zs1 e 5 = zy1 e 5 5
    simp only [zs1, zs2, zy1, zy2, Nat.reduceSub, Nat.reduceAdd, Nat.zero_add, Nat.add_zero]
    omega
  | 6, _ => by
    show zs1 e 6 = zy1 e 6 6
    simp only [zs1, zs2, zy1, zy2, Nat.reduceSub, Nat.reduceAdd, Nat.zero_add, Nat.add_zero]
    omega
  | n + 7, h => absurd h (by omega)
def zeq (M : zMem) (i j : Nat) : Nat := bif decide (M 8 i = M 8 j) then 1 else 0
theorem zo40 : zo_40 zv_Inv := by
  intro M hI
  obtain ⟨n, hn, n1, n2, n3, n4⟩ := zq_n hI
  have h := zq_h M 0
  have inner : ∀ i (a : Int32) j, zf_for j (f_N_twins_2 M i a) a = a + Int32.ofNat (zs2 (zeq M) i j) := by
    intro i a j
    induction j with
    | zero => show a = a + Int32.ofNat 0; rw [show Int32.ofNat 0 = 0 from rfl, Int32.add_zero]
    | succ j ih =>
      show f_N_twins_2 M i a j (zf_for j (f_N_twins_2 M i a) a) = _
      rw [ih]
      unfold f_N_twins_2
      show _ = a + Int32.ofNat (zs2 (zeq M) i j + zeq M i j)
      unfold zeq
      cases decide (M 8 i = M 8 j)
      · rw [zk_f, zk_f, Nat.add_zero]
      · rw [zk_t, zk_t, Int32.ofNat_add, Int32.add_assoc]; rfl
  have outer : ∀ k, k ≤ n → zf_for k (f_N_twins_1 M) 0 = Int32.ofNat (zs1 (zeq M) k) := by
    intro k
    induction k with
    | zero => intro _; rfl
    | succ k ih =>
      intro hk
      show f_N_twins_1 M k (zf_for k (f_N_twins_1 M) 0) = _
      rw [ih (by omega)]
      unfold f_N_twins_1
      rw [zi_nat (by omega), inner, ← Int32.ofNat_add]
      rfl
  have dinner : ∀ i (a : Int32), i < n → f_D_twins_1 M i a = a + Int32.ofNat (zy2 (zeq M) i (n - 1 - i)) ∧ kb_D_twins_1 M i a := by
    intro i a hi
    unfold f_D_twins_1 kb_D_twins_1
    refine zf_wq (g := g_D_twins_2 M i a) (k := kb_D_twins_2 M i a) (fun j (s : Int32 × Int32) => j ≤ n - 1 - i ∧ s.1 = a + Int32.ofNat (zy2 (zeq M) i j) ∧ s.2 = Int32.ofNat (i + 1 + j)) (fun s => s.1 = a + Int32.ofNat (zy2 (zeq M) i (n - 1 - i))) 6 (fun j s ⟨hj, h1, h2⟩ => ?_) 1000 0 (a, Int32.ofNat i + 1) ⟨by omega, (Int32.add_zero a).symm, zi_ad i 1⟩ (by omega)
    unfold g_D_twins_2 kb_D_twins_2
    rw [h1, h2, n4, zi_len (by omega) (by omega)]
    have e1 : v_D_of (zz_up M 194 0 0) (Int32.ofNat i) (0 : Int32) = M 8 i := zq_of hI h (by omega) 0 (by omega)
    by_cases c : n ≤ i + 1 + j
    · rw [decide_eq_true c]
      refine ⟨by omega, (fun hh => by cases hh), (fun hh => by cases hh), fun _ => ?_⟩
      show a + Int32.ofNat (zy2 (zeq M) i j) = _
      rw [show j = n - 1 - i by omega]
    · rw [decide_eq_false c]
      have e2 : v_D_of (zz_up M 194 0 0) (Int32.ofNat (i + 1 + j)) (0 : Int32) = M 8 (i + 1 + j) := zq_of hI h (by omega) 0 (by omega)
      refine ⟨by omega, fun _ => ⟨zd_ofk _ (p := i) (k := 0) (by omega) (by omega), zd_ofk _ (p := i + 1 + j) (k := 0) (by omega) (by omega)⟩, fun _ => ⟨by omega, ?_, zi_ad (i + 1 + j) 1⟩, (fun hh => by cases hh)⟩
      show a + Int32.ofNat (zy2 (zeq M) i j) + zb (decide (v_D_of (zz_up M 194 0 0) (Int32.ofNat i) (0 : Int32) = v_D_of (zz_up M 194 0 0) (Int32.ofNat (i + 1 + j)) (0 : Int32))) = a + Int32.ofNat (zy2 (zeq M) i j + zeq M (i + 1 + j) i)
      rw [e1, e2]
      unfold zeq
      rw [show decide (M 8 i = M 8 (i + 1 + j)) = decide (M 8 (i + 1 + j) = M 8 i) from decide_eq_decide.mpr ⟨Eq.symm, Eq.symm⟩]
      cases decide (M 8 (i + 1 + j) = M 8 i)
      · rw [zk_f, zb_f, Nat.add_zero, Int32.add_zero]
      · rw [zk_t, zb_t, Int32.ofNat_add, Int32.add_assoc]; rfl
  have douter : ∀ k, k ≤ n → zf_for k (f_D_twins_1 M) 0 = Int32.ofNat (zy1 (zeq M) n k) := by
    intro k
    induction k with
    | zero => intro _; rfl
    | succ k ih =>
      intro hk
      show f_D_twins_1 M k (zf_for k (f_D_twins_1 M) 0) = _
      rw [ih (by omega), (dinner k _ (by omega)).1, ← Int32.ofNat_add]
      rfl
  unfold ok_N_twins ok_D_twins v_N_twins v_D_twins
  rw [n1, n2]
  refine ⟨fun i hi j hj => ?_, fun i hi => (dinner i _ hi).2, ?_, zv_th hI 0⟩
  · rw [zi_nat (by omega)] at hj
    exact ⟨zq_in (by omega), zq_in (by omega)⟩
  · rw [outer n (Nat.le_refl n), douter n (Nat.le_refl n), zs_y _ n hn]
/-- a set gathered by a loop -/
theorem zor (c : Nat → Bool) (b : Nat → Nat) (m : Nat) : ∀ n, (∀ i, i < n → c i = true → b i < m) → ∃ A, A < 2 ^ m ∧ zf_for n (fun i (a : Int32) => a ||| (bif c i then Int32.ofNat (2 ^ (b i)) else 0)) 0 = Int32.ofNat A ∧ ∀ d, A.testBit d = true ↔ ∃ i, i < n ∧ c i = true ∧ b i = d
  | 0, _ => ⟨0, Nat.pow_pos (by omega), rfl, fun d => ⟨(fun h => by rw [Nat.zero_testBit] at h; cases h), (fun ⟨i, h, _⟩ => by omega)⟩⟩
  | n + 1, h => by
    obtain ⟨A, a1, a2, a3⟩ := zor c b m n (fun i hi => h i (by omega))
    cases hc : c n with
    | false =>
      refine ⟨A, a1, ?_, fun d => ?_⟩
      · show zf_for n _ 0 ||| (bif c n then Int32.ofNat (2 ^ (b n)) else 0) = _
        rw [a2, hc, zk_f, zx_or]
      · rw [a3]
        refine ⟨fun ⟨i, b1, b2, b3⟩ => ⟨i, by omega, b2, b3⟩, fun ⟨i, b1, b2, b3⟩ => ?_⟩
        by_cases e : i = n
        · subst e; rw [hc] at b2; cases b2
        · exact ⟨i, by omega, b2, b3⟩
    | true =>
      refine ⟨A ||| 2 ^ (b n), Nat.or_lt_two_pow a1 (Nat.pow_lt_pow_right (by omega) (h n (by omega) hc)), ?_, fun d => ?_⟩
      · show zf_for n _ 0 ||| (bif c n then Int32.ofNat (2 ^ (b n)) else 0) = _
        rw [a2, hc, zk_t, zN_or]
      · rw [Nat.testBit_or, Nat.testBit_two_pow, Bool.or_eq_true, a3]
        refine ⟨fun hh => ?_, fun ⟨i, b1, b2, b3⟩ => ?_⟩
        · rcases hh with ⟨i, b1, b2, b3⟩ | hh
          · exact ⟨i, by omega, b2, b3⟩
          · exact ⟨n, by omega, hc, of_decide_eq_true hh⟩
        · by_cases e : i = n
          · subst e
            exact Or.inr (decide_eq_true b3)
          · exact Or.inl ⟨i, by omega, b2, b3⟩
theorem zN_rep (x : Int32) : ∃ n, n < 4294967296 ∧ x = Int32.ofNat n := by
  refine ⟨x.toBitVec.toNat, x.toBitVec.isLt, ?_⟩
  apply Int32.toBitVec_inj.mp
  rw [zN_bv, BitVec.ofNat_toNat, BitVec.setWidth_eq]
theorem zN_255 (x : Int32) : ∃ n, n < 256 ∧ x &&& (255 : Int32) = Int32.ofNat n := by
  obtain ⟨n, -, e⟩ := zN_rep x
  refine ⟨n &&& 255, ?_, ?_⟩
  · exact Nat.lt_succ_of_le Nat.and_le_right
  · rw [e, show (255 : Int32) = Int32.ofNat 255 from rfl, zN_and]
theorem zN_not {a b : Nat} (ha : a < 256) (hb : b < 256) : ∃ c, c < 256 ∧ Int32.ofNat a &&& (Int32.ofNat b ^^^ (-1 : Int32)) = Int32.ofNat c ∧ ∀ d, c.testBit d = (a.testBit d && !b.testBit d) := by
  refine ⟨a &&& (b ^^^ 255), Nat.lt_of_le_of_lt Nat.and_le_left ha, ?_, fun d => ?_⟩
  · rw [show (-1 : Int32) = Int32.ofNat 4294967295 from rfl, zN_xor, zN_and]
    congr 1
    apply Nat.eq_of_testBit_eq
    intro i
    rw [Nat.testBit_and, Nat.testBit_and, Nat.testBit_xor, Nat.testBit_xor, show (4294967295 : Nat) = 2 ^ 32 - 1 from rfl, show (255 : Nat) = 2 ^ 8 - 1 from rfl, Nat.testBit_two_pow_sub_one, Nat.testBit_two_pow_sub_one]
    by_cases h : i < 8
    · rw [decide_eq_true h, decide_eq_true (show i < 32 by omega)]
    · rw [Nat.testBit_lt_two_pow (Nat.lt_of_lt_of_le ha (Nat.pow_le_pow_right (n := 2) (i := 8) (by omega) (by omega))), Bool.false_and, Bool.false_and]
  · rw [Nat.testBit_and, Nat.testBit_xor, show (255 : Nat) = 2 ^ 8 - 1 from rfl, Nat.testBit_two_pow_sub_one]
    by_cases h : d < 8
    · rw [decide_eq_true h, Bool.xor_true]
    · rw [Nat.testBit_lt_two_pow (Nat.lt_of_lt_of_le ha (Nat.pow_le_pow_right (n := 2) (i := 8) (by omega) (by omega))), Bool.false_and, Bool.false_and]
theorem zN_d0 (x : Nat) (k : Nat) (hx : x < 2147483648) (hk : k < 31) : decide ((zsr (Int32.ofNat x) (Int32.ofNat k)) &&& (1 : Int32) = 0) = !x.testBit k := by
  rw [zN_b1 hx hk]
  cases x.testBit k <;> rfl
/-- deeds told by a group -/
theorem zh_tb {N M' : zMem} {s g : Nat} (hS : zc_St N s (M' 195)) (hg : g < 2147483648) : v_S_toldByGroup N s (Int32.ofNat g) = v_D_toldBy M' (Int32.ofNat g) ∧ ok_S_toldByGroup N s (Int32.ofNat g) ∧ ok_D_toldBy M' (Int32.ofNat g) ∧ ∃ A, A < 256 ∧ v_D_toldBy M' (Int32.ofNat g) = Int32.ofNat A := by
  obtain ⟨n, hn, n1, n2, -, -⟩ := zh_n hS
  unfold v_S_toldByGroup v_D_toldBy ok_S_toldByGroup ok_D_toldBy
  rw [n1, n2]
  have hok : ∀ i, i < n → ok_S_deedBitOf N s (Int32.ofNat i) ∧ ok_D_isPlain M' (Int32.ofNat i) ∧ ok_D_deedOf M' (Int32.ofNat i) := fun i hi => by
    have := zh_pok hS (p := i) (by omega)
    exact ⟨this.2.2.1, this.2.1, this.2.2.2.1⟩
  refine ⟨zf_cg n _ fun i hi a => ?_, fun i hi _ => (hok i hi).1, fun i hi _ => ⟨(hok i hi).2.1, fun _ => (hok i hi).2.2⟩, ?_⟩
  · unfold f_S_toldByGroup_1 f_D_toldBy_1
    rw [zN_d0 g i hg (by omega), zN_isOf hg (by omega)]
    cases g.testBit i with
    | false => rw [Bool.not_false, zk_t, zk_f, zx_or]
    | true =>
      rw [Bool.not_true, zk_f, zk_t]
      rcases zh_p hS (p := i) (by omega) with ⟨-, a, b, c, d, -⟩ | ⟨k, d, hk, hd, u, a, b, t, c, e, -⟩
      · rw [b, c, zk_t]
      · rw [b, c, e, zk_f, zN_sl1 d (by omega), Nat.one_shiftLeft]
  · refine zf_ind (fun _ a => ∃ A, A < 256 ∧ a = Int32.ofNat A) n ⟨0, by omega, rfl⟩ (fun i a hi ⟨A, a1, a2⟩ => ?_)
    unfold f_D_toldBy_1
    rw [a2]
    cases v_D_isOf (Int32.ofNat g) (Int32.ofNat i) with
    | false => rw [zk_f, zx_or]; exact ⟨A, a1, rfl⟩
    | true =>
      rw [zk_t]
      rcases zh_p hS (p := i) (by omega) with ⟨-, a, b, c, d, -⟩ | ⟨k, d, hk, hd, u, a, b, t, c, e, -⟩
      · rw [b, zk_t, zx_or]; exact ⟨A, a1, rfl⟩
      · rw [b, e, zk_f, zN_sl1 d (by omega), Nat.one_shiftLeft, zN_or]
        exact ⟨_, Nat.or_lt_two_pow (n := 8) a1 (Nat.pow_lt_pow_right (by omega) hd), rfl⟩
