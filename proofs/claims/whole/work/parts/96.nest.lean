/-! KINDS WITHIN KINDS: call 21; what is within (for call 5). -/
theorem zph : ∀ (n : Nat) (f : Nat → Nat), (∀ i, i ≤ n → f i < n) → ∃ i j, i < j ∧ j ≤ n ∧ f i = f j
  | 0, f, h => absurd (h 0 (Nat.le_refl 0)) (by omega)
  | n + 1, f, h => by
    by_cases c : ∃ i, i ≤ n ∧ f i = f (n + 1)
    · obtain ⟨i, h1, h2⟩ := c
      exact ⟨i, n + 1, by omega, by omega, h2⟩
    · have hne : ∀ i, i ≤ n → f i ≠ f (n + 1) := fun i hi e => c ⟨i, hi, e⟩
      obtain ⟨i, j, h1, h2, h3⟩ := zph n (fun i => if f (n + 1) < f i then f i - 1 else f i) (fun i hi => by
        have a := h i (by omega)
        have b := h (n + 1) (by omega)
        have d := hne i hi
        show (if f (n + 1) < f i then f i - 1 else f i) < n
        split
        · omega
        · omega)
      refine ⟨i, j, h1, by omega, ?_⟩
      have di := hne i (by omega)
      have dj := hne j h2
      have h3 : (if f (n + 1) < f i then f i - 1 else f i) = (if f (n + 1) < f j then f j - 1 else f j) := h3
      split at h3
      · split at h3
        · omega
        · omega
      · split at h3
        · omega
        · omega
/-- the way from a kind: 8 where it ends -/
def zwy (M : zMem) (k : Nat) : Nat → Nat
  | 0 => k
  | j + 1 => if zwy M k j < 8 then (if M 7 (zwy M k j) = -1 then 8 else (M 7 (zwy M k j)).toNatClampNeg) else 8
def zno (n : Nat) : Int32 := bif decide (n < 8) then Int32.ofNat n else -1
theorem zno_lt {n : Nat} (h : n < 8) : zno n = Int32.ofNat n := by unfold zno; rw [decide_eq_true h, zk_t]
theorem zno_8 : zno 8 = -1 := rfl
theorem zwy_le {M : zMem} (hI : zv_Inv M) {k : Nat} (hk : k ≤ 8) : ∀ j, zwy M k j ≤ 8
  | 0 => hk
  | j + 1 => by
    show (if zwy M k j < 8 then (if M 7 (zwy M k j) = -1 then 8 else (M 7 (zwy M k j)).toNatClampNeg) else 8) ≤ 8
    split
    · rename_i h
      split
      · omega
      · rename_i h2
        obtain ⟨u, u1, u2⟩ := zq_hd hI h h2
        rw [u2, zi_nat (by omega)]
        omega
    · omega
theorem zwy_s {M : zMem} (hI : zv_Inv M) {k : Nat} (hk : k ≤ 8) {j : Nat} (h : zwy M k j < 8) : M 7 (zwy M k j) = zno (zwy M k (j + 1)) := by
  show _ = zno (if zwy M k j < 8 then (if M 7 (zwy M k j) = -1 then 8 else (M 7 (zwy M k j)).toNatClampNeg) else 8)
  rw [if_pos h]
  by_cases c : M 7 (zwy M k j) = -1
  · rw [if_pos c, c]; rfl
  · rw [if_neg c]
    obtain ⟨u, u1, u2⟩ := zq_hd hI h c
    rw [u2, zi_nat (by omega), zno_lt u1]
theorem zwy_8 {M : zMem} {k j : Nat} (h : ¬ zwy M k j < 8) : zwy M k (j + 1) = 8 := by
  show (if zwy M k j < 8 then (if M 7 (zwy M k j) = -1 then 8 else (M 7 (zwy M k j)).toNatClampNeg) else 8) = 8
  rw [if_neg h]
theorem zwy_c {M : zMem} {k i j : Nat} (h : zwy M k i = zwy M k j) : ∀ m, zwy M k (i + m) = zwy M k (j + m)
  | 0 => h
  | m + 1 => by
    have ih := zwy_c h m
    show (if zwy M k (i + m) < 8 then (if M 7 (zwy M k (i + m)) = -1 then 8 else (M 7 (zwy M k (i + m))).toNatClampNeg) else 8) = (if zwy M k (j + m) < 8 then (if M 7 (zwy M k (j + m)) = -1 then 8 else (M 7 (zwy M k (j + m))).toNatClampNeg) else 8)
    rw [ih]
/-- a place of the way that comes at all comes among the first eight -/
theorem zwy_in {M : zMem} (hI : zv_Inv M) {k : Nat} (hk : k < 8) (m : Nat) (h : zwy M k m < 8) : ∃ j, j < 8 ∧ j ≤ m ∧ zwy M k j = zwy M k m ∧ ∀ i, i ≤ j → zwy M k i < 8 := by
  induction m using Nat.strongRecOn with
  | _ m ih =>
    have down : ∀ i, i ≤ m → zwy M k i < 8 := by
      intro i hi
      by_cases c : zwy M k i < 8
      · exact c
      · exfalso
        have key : ∀ d, zwy M k (i + d) = 8 := by
          intro d
          induction d with
          | zero => have := zwy_le hI (k := k) (by omega) i; show zwy M k i = 8; omega
          | succ d ihd => exact zwy_8 (by show ¬ zwy M k (i + d) < 8; omega)
        have := key (m - i)
        rw [show i + (m - i) = m by omega] at this
        omega
    by_cases c : m < 8
    · exact ⟨m, c, Nat.le_refl m, rfl, down⟩
    · obtain ⟨i, j, h1, h2, h3⟩ := zph 8 (zwy M k) (fun i hi => down i (by omega))
      have h4 := zwy_c h3 (m - j)
      rw [show j + (m - j) = m by omega] at h4
      obtain ⟨u, u1, u2, u3, u4⟩ := ih (i + (m - j)) (by omega) (by rw [h4]; exact h)
      exact ⟨u, u1, by omega, by rw [u3, h4], u4⟩
/-- what the class gathers -/
def zwb (M : zMem) (k : Nat) : Nat → Nat
  | 0 => 0
  | j + 1 => bif decide (zwy M k j < 8) then zwb M k j ||| 2 ^ (zwy M k j) else zwb M k j
theorem zwb_t (M : zMem) (k : Nat) : ∀ (j b : Nat), (zwb M k j).testBit b = true ↔ ∃ i, i < j ∧ zwy M k i < 8 ∧ zwy M k i = b
  | 0, b => by
    refine ⟨fun h => ?_, fun ⟨i, h, _⟩ => by omega⟩
    rw [show zwb M k 0 = 0 from rfl, Nat.zero_testBit] at h
    cases h
  | j + 1, b => by
    have ih := zwb_t M k j b
    show (bif decide (zwy M k j < 8) then zwb M k j ||| 2 ^ (zwy M k j) else zwb M k j).testBit b = true ↔ _
    by_cases c : zwy M k j < 8
    · rw [decide_eq_true c, zk_t, Nat.testBit_or, Nat.testBit_two_pow, Bool.or_eq_true, ih]
      refine ⟨fun h => ?_, fun ⟨i, h1, h2, h3⟩ => ?_⟩
      · rcases h with ⟨i, h1, h2, h3⟩ | h
        · exact ⟨i, by omega, h2, h3⟩
        · exact ⟨j, by omega, c, of_decide_eq_true h⟩
      · by_cases e : i = j
        · subst e
          exact Or.inr (decide_eq_true h3)
        · exact Or.inl ⟨i, by omega, h2, h3⟩
    · rw [decide_eq_false c, zk_f, ih]
      refine ⟨fun ⟨i, h1, h2, h3⟩ => ⟨i, by omega, h2, h3⟩, fun ⟨i, h1, h2, h3⟩ => ?_⟩
      by_cases e : i = j
      · subst e
        exact absurd h2 c
      · exact ⟨i, by omega, h2, h3⟩
theorem zwb_lt (M : zMem) (k : Nat) : ∀ j, zwb M k j < 256
  | 0 => by show 0 < 256; omega
  | j + 1 => by
    have ih := zwb_lt M k j
    show (bif decide (zwy M k j < 8) then zwb M k j ||| 2 ^ (zwy M k j) else zwb M k j) < 256
    by_cases c : zwy M k j < 8
    · rw [decide_eq_true c, zk_t]
      exact Nat.or_lt_two_pow (n := 8) ih (Nat.pow_lt_pow_right (by omega) c)
    · rw [decide_eq_false c, zk_f]; exact ih
theorem zno_neg {n : Nat} (h : n ≤ 8) : decide (zno n < 0) = decide (¬ n < 8) ∧ decide ((8 : Int32) ≤ zno n) = false ∧ decide (zno n = -1) = decide (¬ n < 8) := by
  by_cases c : n < 8
  · rw [zno_lt c, zg_lt0, zi_val (by omega), zi_lei, zi_val (by omega)]
    have e8 : (8 : Int32).toInt = 8 := rfl
    rw [e8]
    refine ⟨decide_eq_decide.mpr (by omega), decide_eq_false (by omega), decide_eq_decide.mpr ⟨fun h => ?_, fun h => absurd c h⟩⟩
    exfalso
    have := congrArg Int32.toInt h
    rw [zi_val (by omega)] at this
    have e9 : (-1 : Int32).toInt = -1 := rfl
    omega
  · have e : n = 8 := by omega
    subst e
    exact ⟨rfl, rfl, rfl⟩
theorem zi_8i {i : Nat} (hi : i < 1000) : decide ((8 : Int32) ≤ Int32.ofNat i) = decide (8 ≤ i) := zi_len (n := 8) (by omega) hi
theorem zE_all {M : zMem} (hI : zv_Inv M) {k : Nat} (hk : k < 8) (x : Int32) : v_E_allWithin M (Int32.ofNat k) = Int32.ofNat (zwb M k 8) ∧ ok_E_allWithin M (Int32.ofNat k) := by
  unfold v_E_allWithin ok_E_allWithin
  have key := zf_wq (g := g_E_allWithin_1 M (Int32.ofNat k)) (k := kb_E_allWithin_1 M (Int32.ofNat k)) (fun i (s : Int32 × Int32) => i ≤ 8 ∧ s.1 = Int32.ofNat (zwb M k i) ∧ s.2 = zno (zwy M k i)) (fun s => s.1 = Int32.ofNat (zwb M k 8)) 8 (fun i s ⟨hi, h1, h2⟩ => by
    have hw := zwy_le hI (k := k) (by omega) i
    obtain ⟨q1, q2, q3⟩ := zno_neg hw
    unfold g_E_allWithin_1 kb_E_allWithin_1
    rw [h1, h2, zi_8i (by omega), q1, q2]
    by_cases c : 8 ≤ i
    · rw [decide_eq_true c]
      have e : i = 8 := by omega
      subst e
      exact ⟨by omega, (fun h => by cases h), (fun h => by cases h), fun _ => rfl⟩
    · rw [decide_eq_false c]
      by_cases c2 : zwy M k i < 8
      · rw [decide_eq_false (not_not_intro c2), zno_lt c2, zi_nat (by omega)]
        refine ⟨by omega, fun _ _ _ => zi_in c2 (by omega), fun _ => ⟨by omega, ?_, ?_⟩, (fun h => by cases h)⟩
        · show Int32.ofNat (zwb M k i) ||| zsl (1 : Int32) (Int32.ofNat (zwy M k i)) = _
          rw [zN_sl1 _ (by omega), zN_or, Nat.one_shiftLeft]
          show _ = Int32.ofNat (bif decide (zwy M k i < 8) then zwb M k i ||| 2 ^ (zwy M k i) else zwb M k i)
          rw [decide_eq_true c2, zk_t]
        · exact zwy_s hI (by omega) c2
      · rw [decide_eq_true c2]
        refine ⟨by omega, (fun _ h => by cases h), (fun h => by cases h), fun _ => ?_⟩
        show Int32.ofNat (zwb M k i) = Int32.ofNat (zwb M k 8)
        congr 1
        apply Nat.eq_of_testBit_eq
        intro b
        apply Bool.eq_iff_iff.mpr
        rw [zwb_t, zwb_t]
        refine ⟨fun ⟨j, a1, a2, a3⟩ => ⟨j, by omega, a2, a3⟩, fun ⟨j, a1, a2, a3⟩ => ?_⟩
        by_cases cj : j < i
        · exact ⟨j, cj, a2, a3⟩
        · exfalso
          obtain ⟨u, u1, u2, u3, u4⟩ := zwy_in hI hk j a2
          have key2 : ∀ d, zwy M k (i + d) = 8 := by
            intro d
            induction d with
            | zero => show zwy M k i = 8; omega
            | succ d ihd => exact zwy_8 (by show ¬ zwy M k (i + d) < 8; omega)
          have := key2 (j - i)
          rw [show i + (j - i) = j by omega] at this
          omega) 1000 0 ((0 : Int32), Int32.ofNat k) ⟨by omega, rfl, (zno_lt hk).symm⟩ (by omega)
  exact key
