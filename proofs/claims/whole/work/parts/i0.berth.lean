/-! BERTHS: call 27 -/
def zbS (c : Nat → Bool) (f : Nat → Nat) (T : Nat) : Nat → Nat → Nat
  | 0, a => a
  | p + 1, a => bif T.testBit p then zbS c f T p a else (bif c p then max (zbS c f T p a) (1 + f (T ||| 2 ^ p)) else zbS c f T p a)
def zbT (c : Nat → Nat → Bool) (n nb : Nat) : Nat → Nat → Nat
  | 0, _ => 0
  | j + 1, T => zbS (c (nb - 1 - j)) (zbT c n nb j) T n (zbT c n nb j T)
theorem zbS_le {c : Nat → Bool} {f : Nat → Nat} {T a m : Nat} (ha : a ≤ m) (hf : ∀ x, f x ≤ m) : ∀ p, zbS c f T p a ≤ m + 1
  | 0 => by show a ≤ m + 1; omega
  | p + 1 => by
    have ih := zbS_le (c := c) (T := T) ha hf p
    have h2 := hf (T ||| 2 ^ p)
    show (bif T.testBit p then zbS c f T p a else (bif c p then max (zbS c f T p a) (1 + f (T ||| 2 ^ p)) else zbS c f T p a)) ≤ m + 1
    cases T.testBit p
    · cases c p
      · exact ih
      · show max (zbS c f T p a) (1 + f (T ||| 2 ^ p)) ≤ m + 1
        omega
    · exact ih
theorem zbT_le (c : Nat → Nat → Bool) (n nb : Nat) : ∀ j T, zbT c n nb j T ≤ j
  | 0, _ => Nat.le_refl _
  | j + 1, T => zbS_le (zbT_le c n nb j T) (zbT_le c n nb j) n
theorem zbS_at {c : Nat → Bool} {f : Nat → Nat} {T a : Nat} : ∀ n, zbS c f T n a = a ∨ ∃ p, p < n ∧ T.testBit p = false ∧ c p = true ∧ 1 + f (T ||| 2 ^ p) = zbS c f T n a
  | 0 => Or.inl rfl
  | n + 1 => by
    have ih := zbS_at (c := c) (f := f) (T := T) (a := a) n
    have e : zbS c f T (n + 1) a = (bif T.testBit n then zbS c f T n a else (bif c n then max (zbS c f T n a) (1 + f (T ||| 2 ^ n)) else zbS c f T n a)) := rfl
    rw [e]
    have old : ∀ v, v = zbS c f T n a → v = a ∨ ∃ p, p < n + 1 ∧ T.testBit p = false ∧ c p = true ∧ 1 + f (T ||| 2 ^ p) = v := fun v hv => by
      rcases ih with h | ⟨p, h1, h2, h3, h4⟩
      · exact Or.inl (by rw [hv]; exact h)
      · exact Or.inr ⟨p, by omega, h2, h3, by rw [hv]; exact h4⟩
    cases ht : T.testBit n with
    | true => rw [zk_t]; exact old _ rfl
    | false =>
      rw [zk_f]
      cases hc : c n with
      | false => rw [zk_f]; exact old _ rfl
      | true =>
        rw [zk_t]
        by_cases m : 1 + f (T ||| 2 ^ n) ≤ zbS c f T n a
        · rw [Nat.max_eq_left m]; exact old _ rfl
        · exact Or.inr ⟨n, by omega, ht, hc, by omega⟩
theorem zix (k T : Nat) : (64 : Int32) * Int32.ofNat k + Int32.ofNat T = Int32.ofNat (64 * k + T) := by
  rw [show (64 : Int32) = Int32.ofNat 64 from rfl, ← Int32.ofNat_mul, ← Int32.ofNat_add]
theorem zbo2 {T p n : Nat} (hT : T < 2 ^ n) (hp : p < n) : T ||| 2 ^ p < 2 ^ n := Nat.or_lt_two_pow hT (Nat.pow_lt_pow_right (by omega) hp)
theorem z264 {n : Nat} (hn : n ≤ 6) : 2 ^ n ≤ 64 := Nat.pow_le_pow_right (n := 2) (j := 6) (by omega) hn
/-- who can have a berth -/
theorem zb_fw {a R : zMem} {k T p d : Nat} (hS : zc_St a 4 (R 195)) (hp : p < 6) (hT : T < 64) (hk : k < 6) (hd : d < 8) : v_G_filledWith a (Int32.ofNat d) (Int32.ofNat k) (Int32.ofNat T) (Int32.ofNat p) = (bif T.testBit p then (-1 : Int32) else (bif v_D_canBerth R (Int32.ofNat p) (Int32.ofNat d) then ((1 : Int32) + a 193 (64 * (k + 1) + (T ||| 2 ^ p))) else (-1 : Int32))) ∧ ok_G_filledWith a (Int32.ofNat d) (Int32.ofNat k) (Int32.ofNat T) (Int32.ofNat p) := by
  obtain ⟨e1, e2, e3, b, b1, b2, b3⟩ := zh_dh hS hp
  have h64 : T ||| 2 ^ p < 64 := zbo2 (n := 6) hT hp
  have ei : (64 : Int32) * (Int32.ofNat k + (1 : Int32)) + (Int32.ofNat T ||| zsl (1 : Int32) (Int32.ofNat p)) = Int32.ofNat (64 * (k + 1) + (T ||| 2 ^ p)) := by
    rw [zi_succ, zN_sl1 p (by omega), Nat.one_shiftLeft, zN_or, zix]
  have ec : v_D_canBerth R (Int32.ofNat p) (Int32.ofNat d) = b.testBit d := (b3 d hd).symm
  unfold v_G_filledWith ok_G_filledWith
  rw [ei, e1, b2, zN_d0 T p (by omega) (by omega), zN_d0 b d (by omega) (by omega), ec, zi_nat (by omega)]
  refine ⟨?_, e2, fun _ _ => zi_in (by omega) (by omega)⟩
  cases T.testBit p <;> cases b.testBit d <;> simp only [Bool.not_true, Bool.not_false, zk_t, zk_f]
/-- what is given of all berths -/
def zbG (N : zMem) (n nb : Nat) (B : Nat → Nat) (c : Nat → Nat → Bool) : Prop := n ≤ 6 ∧ nb ≤ 6 ∧ zc_St N 4 (N 195) ∧ N 4 10 = Int32.ofNat n ∧ N 195 3 = Int32.ofNat n ∧ (∀ k, k < nb → B k < 8 ∧ N 3 k = Int32.ofNat (B k) ∧ N 199 k = Int32.ofNat (B k)) ∧ (∀ k p, c k p = v_D_canBerth N (Int32.ofNat p) (Int32.ofNat (B k)))
theorem zcb_c {R R' : zMem} (h : R' 195 = R 195) (x y : Int32) : v_D_canBerth R' x y = v_D_canBerth R x y := by
  unfold v_D_canBerth v_D_deedOf v_D_isPlain v_D_of v_D_ofKind
  rw [h]
/-- a cell of the class's table -/
theorem zb_cl {N A a : zMem} {n nb j k T : Nat} {B : Nat → Nat} {c : Nat → Nat → Bool} (hG : zbG N n nb B c) (hk : k + 1 + j = nb) (hf : ∀ r q, r ≠ 193 → a r q = N r q) (hr : ∀ U, U < 2 ^ n → a 193 (64 * (k + 1) + U) = Int32.ofNat (zbT c n nb j U)) (hT : T < 2 ^ n) (M0 : zMem) (x0 : Int32) (i2 : Nat) : ∀ p, p ≤ n → zf_for p (f_G_fillBerths_4 M0 x0 i2 (Int32.ofNat k, A) T a) (a 193 (64 * (k + 1) + T)) = Int32.ofNat (zbS (c k) (zbT c n nb j) T p (zbT c n nb j T)) ∧ (p < n → kb_G_fillBerths_4 M0 x0 i2 (Int32.ofNat k, A) T a p (zf_for p (f_G_fillBerths_4 M0 x0 i2 (Int32.ofNat k, A) T a) (a 193 (64 * (k + 1) + T)))) := by
  obtain ⟨g1, g2, g3, g4, g5, g6, g7⟩ := hG
  have hS : zc_St a 4 (N 195) := zc_cg (fun j hj => funext fun i => hf _ _ (by omega)) (fun i _ => rfl) g3
  have h64 := z264 g1
  obtain ⟨t1, t2⟩ := zby_at (N := a) (i := k) (by omega)
  obtain ⟨u1, u2, u3⟩ := g6 k (by omega)
  have eb : v_T_byteAt a (Int32.ofNat k) = Int32.ofNat (B k) := by rw [t1, hf 3 k (by omega)]; exact u2
  have kb : ∀ p, p < n → ∀ v, kb_G_fillBerths_4 M0 x0 i2 (Int32.ofNat k, A) T a p v := fun p hp v => by
    unfold kb_G_fillBerths_4
    refine ⟨t2, ?_⟩
    show ok_G_filledWith a (v_T_byteAt a (Int32.ofNat k)) (Int32.ofNat k) (Int32.ofNat T) (Int32.ofNat p)
    rw [eb]
    exact (zb_fw (k := k) (T := T) hS (show p < 6 by omega) (by omega) (by omega) u1).2
  intro p
  induction p with
  | zero => exact fun _ => ⟨hr T hT, fun h => kb 0 h _⟩
  | succ p ih =>
    intro hp
    refine ⟨?_, fun h => kb _ h _⟩
    show f_G_fillBerths_4 M0 x0 i2 (Int32.ofNat k, A) T a p (zf_for p (f_G_fillBerths_4 M0 x0 i2 (Int32.ofNat k, A) T a) (a 193 (64 * (k + 1) + T))) = Int32.ofNat (bif T.testBit p then zbS (c k) (zbT c n nb j) T p (zbT c n nb j T) else (bif c k p then max (zbS (c k) (zbT c n nb j) T p (zbT c n nb j T)) (1 + zbT c n nb j (T ||| 2 ^ p)) else zbS (c k) (zbT c n nb j) T p (zbT c n nb j T)))
    rw [(ih (by omega)).1]
    have bd := zbS_le (c := c k) (T := T) (zbT_le c n nb j T) (zbT_le c n nb j) p
    have bd2 := zbT_le c n nb j (T ||| 2 ^ p)
    generalize zbS (c k) (zbT c n nb j) T p (zbT c n nb j T) = v at bd ⊢
    show v_jm_max (Int32.ofNat v) (v_G_filledWith a (v_T_byteAt a (Int32.ofNat k)) (Int32.ofNat k) (Int32.ofNat T) (Int32.ofNat p)) = _
    have neg : v_jm_max (Int32.ofNat v) (-1 : Int32) = Int32.ofNat v := by
      apply zi_eq
      rw [zi_max, zi_val (by omega), show (-1 : Int32).toInt = -1 from rfl]
      omega
    rw [eb, (zb_fw (k := k) (T := T) hS (show p < 6 by omega) (by omega) (by omega) u1).1, hr _ (zbo2 hT (by omega)), ← g7 k p]
    cases T.testBit p with
    | true => rw [zk_t, zk_t, neg]
    | false =>
      rw [zk_f, zk_f]
      cases c k p with
      | true => rw [zk_t, zk_t, show (1 : Int32) = Int32.ofNat 1 from rfl, zi_ad, zi_mx (by omega) (by omega)]
      | false => rw [zk_f, zk_f, neg]
/-- a row of the class's table -/
theorem zb_cr {N A : zMem} {n nb j k : Nat} {B : Nat → Nat} {c : Nat → Nat → Bool} (hG : zbG N n nb B c) (hk : k + 1 + j = nb) (hf : ∀ r q, r ≠ 193 → A r q = N r q) (hr : ∀ U, U < 2 ^ n → A 193 (64 * (k + 1) + U) = Int32.ofNat (zbT c n nb j U)) (M0 : zMem) (x0 : Int32) (i2 : Nat) : ((∀ T, T < 2 ^ n → (zf_wh 1000 (g_G_fillBerths_3 M0 x0 i2 (Int32.ofNat k, A)) 0 A) 193 (64 * k + T) = Int32.ofNat (zbT c n nb (j + 1) T)) ∧ (∀ q, ¬ (64 * k ≤ q ∧ q < 64 * k + 64) → (zf_wh 1000 (g_G_fillBerths_3 M0 x0 i2 (Int32.ofNat k, A)) 0 A) 193 q = A 193 q) ∧ (∀ r q, r ≠ 193 → (zf_wh 1000 (g_G_fillBerths_3 M0 x0 i2 (Int32.ofNat k, A)) 0 A) r q = N r q)) ∧ zf_wk 1000 (g_G_fillBerths_3 M0 x0 i2 (Int32.ofNat k, A)) (kb_G_fillBerths_3 M0 x0 i2 (Int32.ofNat k, A)) 0 A := by
  have hG' := hG
  obtain ⟨g1, g2, g3, g4, g5, g6, g7⟩ := hG'
  have h64 := z264 g1
  have hpos : 0 < 2 ^ n := Nat.pow_pos (by omega)
  refine zf_wq (g := g_G_fillBerths_3 M0 x0 i2 (Int32.ofNat k, A)) (k := kb_G_fillBerths_3 M0 x0 i2 (Int32.ofNat k, A)) (fun i (a : zMem) => i ≤ 2 ^ n ∧ (∀ T, T < i → a 193 (64 * k + T) = Int32.ofNat (zbT c n nb (j + 1) T)) ∧ (∀ q, ¬ (64 * k ≤ q ∧ q < 64 * k + 64) → a 193 q = A 193 q) ∧ (∀ r q, r ≠ 193 → a r q = N r q)) (fun (a : zMem) => (∀ T, T < 2 ^ n → a 193 (64 * k + T) = Int32.ofNat (zbT c n nb (j + 1) T)) ∧ (∀ q, ¬ (64 * k ≤ q ∧ q < 64 * k + 64) → a 193 q = A 193 q) ∧ (∀ r q, r ≠ 193 → a r q = N r q)) (2 ^ n) (fun i a ⟨hi, h1, h2, h3⟩ => ?_) 1000 0 A ⟨by omega, fun T hT => by omega, fun q _ => rfl, hf⟩ (by omega)
  have ev : v_S_everybody a 4 = Int32.ofNat (2 ^ n - 1) := by
    unfold v_S_everybody
    rw [h3 4 10 (by omega), g4]
    exact (zev n g1).1
  have en : (a 4 10).toNatClampNeg = n := by rw [h3 4 10 (by omega), g4, zi_nat (by omega)]
  have i1 : ((64 : Int32) * (Int32.ofNat k + (1 : Int32)) + Int32.ofNat i) = Int32.ofNat (64 * (k + 1) + i) := by rw [zi_succ, zix]
  unfold g_G_fillBerths_3 kb_G_fillBerths_3
  simp only []
  rw [ev, zi_lt' (by omega) (by omega), i1, zix, en, zi_nat (by omega), zi_nat (by omega)]
  by_cases hc : 2 ^ n - 1 < i
  · have e : i = 2 ^ n := by omega
    subst e
    rw [decide_eq_true hc]
    exact ⟨hi, (fun h => by cases h), (fun h => by cases h), fun _ => ⟨h1, h2, h3⟩⟩
  · rw [decide_eq_false hc]
    have hiT : i < 2 ^ n := by omega
    have hr' : ∀ U, U < 2 ^ n → a 193 (64 * (k + 1) + U) = Int32.ofNat (zbT c n nb j U) := fun U hU => by rw [h2 _ (by omega)]; exact hr U hU
    have cell := zb_cl (A := A) hG hk h3 hr' hiT M0 x0 i2
    refine ⟨hi, fun _ => ⟨zi_in (by omega) (by omega), fun p hp => (cell p (by omega)).2 hp, zi_in (by omega) (by omega)⟩, fun _ => ⟨by omega, fun T hT => ?_, fun q hq => ?_, fun r q hr1 => ?_⟩, (fun h => by cases h)⟩
    · show (bif false then a else zz_up a 193 (64 * k + i) (zf_for n (f_G_fillBerths_4 M0 x0 i2 (Int32.ofNat k, A) i a) (a 193 (64 * (k + 1) + i)))) 193 (64 * k + T) = _
      rw [zk_f]
      by_cases e : T = i
      · subst e
        rw [zu_at rfl rfl, (cell n (Nat.le_refl _)).1]
        show _ = Int32.ofNat (zbS (c (nb - 1 - j)) (zbT c n nb j) T n (zbT c n nb j T))
        rw [show nb - 1 - j = k by omega]
      · rw [zu_o (by omega)]; exact h1 T (by omega)
    · show (bif false then a else zz_up a 193 (64 * k + i) (zf_for n (f_G_fillBerths_4 M0 x0 i2 (Int32.ofNat k, A) i a) (a 193 (64 * (k + 1) + i)))) 193 q = _
      rw [zk_f, zu_o (by omega)]; exact h2 q hq
    · show (bif false then a else zz_up a 193 (64 * k + i) (zf_for n (f_G_fillBerths_4 M0 x0 i2 (Int32.ofNat k, A) i a) (a 193 (64 * (k + 1) + i)))) r q = _
      rw [zk_f, zu_o (by omega)]; exact h3 r q hr1
theorem zi_dn {x : Int32} {v : Int} (h : x.toInt = v) (h1 : -2147483647 ≤ v) : (x + (-1 : Int32)).toInt = v - 1 := by
  have hx := Int32.toInt_lt x
  rw [Int32.toInt_add, show (-1 : Int32).toInt = -1 from rfl, h, Int.bmod_eq_of_le (by omega) (by omega)]
  omega
/-- the class's table -/
theorem zb_ct {N : zMem} {n nb : Nat} {B : Nat → Nat} {c : Nat → Nat → Bool} (hG : zbG N n nb B c) : ((∀ j, j ≤ nb → ∀ T, T < 2 ^ n → (w_G_fillBerths N (Int32.ofNat nb)) 193 (64 * (nb - j) + T) = Int32.ofNat (zbT c n nb j T)) ∧ (∀ r q, r ≠ 193 → (w_G_fillBerths N (Int32.ofNat nb)) r q = N r q)) ∧ ok_G_fillBerths N (Int32.ofNat nb) := by
  have hG' := hG
  obtain ⟨g1, g2, g3, g4, g5, g6, g7⟩ := hG'
  have h64 := z264 g1
  have key := zf_ind (f := f_G_fillBerths_1 N (Int32.ofNat nb)) (fun i (a : zMem) => (∀ T, T < i → a 193 (64 * nb + T) = 0) ∧ (∀ r q, r ≠ 193 → a r q = N r q)) (a := N) 64 ⟨fun T hT => by omega, fun _ _ _ => rfl⟩ (fun i a hi ⟨h1, h2⟩ => by
    have e : f_G_fillBerths_1 N (Int32.ofNat nb) i a = zz_up a 193 (64 * nb + i) 0 := by
      unfold f_G_fillBerths_1
      rw [zix, zi_nat (by omega)]
    rw [e]
    refine ⟨fun T hT => ?_, fun r q hr => ?_⟩
    · by_cases e : T = i
      · rw [e, zu_at rfl rfl]
      · rw [zu_o (by omega)]; exact h1 T (by omega)
    · rw [zu_o (by omega)]; exact h2 r q hr)
  unfold w_G_fillBerths ok_G_fillBerths
  generalize zf_for 64 (f_G_fillBerths_1 N (Int32.ofNat nb)) N = A0 at key ⊢
  have q := zf_wq (g := g_G_fillBerths_2 N (Int32.ofNat nb)) (k := kb_G_fillBerths_2 N (Int32.ofNat nb)) (fun i (s : Int32 × zMem) => i ≤ nb ∧ s.1.toInt = (nb : Int) - 1 - i ∧ (∀ j, j ≤ i → ∀ T, T < 2 ^ n → s.2 193 (64 * (nb - j) + T) = Int32.ofNat (zbT c n nb j T)) ∧ (∀ r q, r ≠ 193 → s.2 r q = N r q)) (fun (s : Int32 × zMem) => (∀ j, j ≤ nb → ∀ T, T < 2 ^ n → s.2 193 (64 * (nb - j) + T) = Int32.ofNat (zbT c n nb j T)) ∧ (∀ r q, r ≠ 193 → s.2 r q = N r q)) nb (fun i s ⟨hi, h1, h2, h3⟩ => ?_) 1000 0 ((Int32.ofNat nb) - (1 : Int32), A0) ⟨by omega, ?_, fun j hj T hT => ?_, key.2⟩ (by omega)
  · refine ⟨q.1, fun i hi => ?_, q.2⟩
    show zz_in (((64 : Int32) * Int32.ofNat nb) + Int32.ofNat i) 448 = true
    rw [zix]; exact zi_in (by omega) (by omega)
  · unfold g_G_fillBerths_2 kb_G_fillBerths_2
    rw [zg_lt0, h1]
    by_cases hc : (nb : Int) - 1 - i < 0
    · have e : i = nb := by omega
      subst e
      rw [decide_eq_true hc]
      exact ⟨hi, (fun h => by cases h), (fun h => by cases h), fun _ => ⟨h2, h3⟩⟩
    · rw [decide_eq_false hc]
      have es : s = (Int32.ofNat (nb - 1 - i), s.2) := by
        have : s.1 = Int32.ofNat (nb - 1 - i) := zi_eq (by rw [h1, zi_val (by omega)]; omega)
        rw [← this]
      obtain ⟨⟨r1, r2, r3⟩, r4⟩ := zb_cr (A := s.2) (j := i) (k := nb - 1 - i) hG (by omega) h3 (fun U hU => by rw [show 64 * (nb - 1 - i + 1) = 64 * (nb - i) by omega]; exact h2 i (Nat.le_refl _) U hU) N (Int32.ofNat nb) i
      rw [← es] at r1 r2 r3 r4
      refine ⟨hi, fun _ => r4, fun _ => ⟨by omega, ?_, fun j hj T hT => ?_, fun r q hr => ?_⟩, (fun h => by cases h)⟩
      · show (bif false then s.1 else s.1 + (-1 : Int32)).toInt = _
        rw [zk_f, zi_dn h1 (by omega)]
        omega
      · show (bif false then s.2 else zf_wh 1000 (g_G_fillBerths_3 N (Int32.ofNat nb) i s) 0 s.2) 193 (64 * (nb - j) + T) = _
        rw [zk_f]
        by_cases e : j = i + 1
        · rw [e, show 64 * (nb - (i + 1)) = 64 * (nb - 1 - i) by omega]; exact r1 T hT
        · rw [r2 _ (by omega)]; exact h2 j (by omega) T hT
      · show (bif false then s.2 else zf_wh 1000 (g_G_fillBerths_3 N (Int32.ofNat nb) i s) 0 s.2) r q = _
        rw [zk_f]; exact r3 r q hr
  · rw [Int32.toInt_sub, zi_val (by omega), show (1 : Int32).toInt = 1 from rfl, Int.bmod_eq_of_le (by omega) (by omega)]
    omega
  · have e : j = 0 := by omega
    subst e
    show A0 193 (64 * (nb - 0) + T) = _
    rw [Nat.sub_zero, key.1 T (by omega)]; rfl
