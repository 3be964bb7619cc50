/-- who is the first for a berth -/
def zbP (c : Nat → Nat → Bool) (n nb k T p : Nat) : Prop := T.testBit p = false ∧ c k p = true ∧ 1 + zbT c n nb (nb - 1 - k) (T ||| 2 ^ p) = zbT c n nb (nb - k) T
theorem zbP_ex {c : Nat → Nat → Bool} {n nb k T : Nat} (hk : k < nb) (h : ¬ zbT c n nb (nb - 1 - k) T = zbT c n nb (nb - k) T) : ∃ p, p < n ∧ zbP c n nb k T p := by
  have e : zbT c n nb (nb - k) T = zbS (c k) (zbT c n nb (nb - 1 - k)) T n (zbT c n nb (nb - 1 - k) T) := by
    rw [show nb - k = (nb - 1 - k) + 1 by omega]
    show zbS (c (nb - 1 - (nb - 1 - k))) _ _ _ _ = _
    rw [show nb - 1 - (nb - 1 - k) = k by omega]
  unfold zbP
  rw [e] at h ⊢
  rcases zbS_at (c := c k) (f := zbT c n nb (nb - 1 - k)) (T := T) (a := zbT c n nb (nb - 1 - k) T) n with h1 | ⟨p, p1, p2, p3, p4⟩
  · exact absurd h1.symm h
  · exact ⟨p, p1, p2, p3, p4⟩
/-- the answer x is the first such, or none -/
def zbA (c : Nat → Nat → Bool) (n nb k T : Nat) (x : Int32) : Prop := (zbT c n nb (nb - 1 - k) T = zbT c n nb (nb - k) T ∧ x = -1) ∨ (¬ zbT c n nb (nb - 1 - k) T = zbT c n nb (nb - k) T ∧ ∃ p, p < n ∧ x = Int32.ofNat p ∧ zbP c n nb k T p ∧ ∀ p', p' < p → ¬ zbP c n nb k T p')
theorem zbA_u {c : Nat → Nat → Bool} {n nb k T : Nat} {x y : Int32} (hx : zbA c n nb k T x) (hy : zbA c n nb k T y) : x = y := by
  rcases hx with ⟨a, b⟩ | ⟨a, p, p1, p2, p3, p4⟩
  · rcases hy with ⟨a', b'⟩ | ⟨a', -⟩
    · rw [b, b']
    · exact absurd a a'
  · rcases hy with ⟨a', -⟩ | ⟨-, q, q1, q2, q3, q4⟩
    · exact absurd a' a
    · have e : p = q := by
        by_cases h1 : p < q
        · exact absurd p3 (q4 p h1)
        · by_cases h2 : q < p
          · exact absurd q3 (p4 q h2)
          · omega
      rw [p2, q2, e]
theorem zne1 {p : Nat} (hp : p < 1000) : ¬ Int32.ofNat p = (-1 : Int32) := fun h => by
  have := congrArg Int32.toInt h
  rw [zi_val (by omega), show (-1 : Int32).toInt = -1 from rfl] at this
  omega
theorem zb_cf {N W : zMem} {n nb k T : Nat} {B : Nat → Nat} {c : Nat → Nat → Bool} (hG : zbG N n nb B c) (hk : k < nb) (hT : T < 2 ^ n) (hW : ∀ j, j ≤ nb → ∀ T, T < 2 ^ n → W 193 (64 * (nb - j) + T) = Int32.ofNat (zbT c n nb j T)) (hf : ∀ r q, r ≠ 193 → W r q = N r q) : zbA c n nb k T (v_G_firstForBerth W (Int32.ofNat (B k)) (Int32.ofNat k) (Int32.ofNat T)) ∧ ok_G_firstForBerth W (Int32.ofNat (B k)) (Int32.ofNat k) (Int32.ofNat T) := by
  obtain ⟨g1, g2, g3, g4, g5, g6, g7⟩ := hG
  have h64 := z264 g1
  have hS : zc_St W 4 (N 195) := zc_cg (fun j hj => funext fun i => hf _ _ (by omega)) (fun i _ => rfl) g3
  have w1 : ∀ U, U < 2 ^ n → W 193 (64 * (k + 1) + U) = Int32.ofNat (zbT c n nb (nb - 1 - k) U) := fun U hU => by
    rw [← hW (nb - 1 - k) (by omega) U hU, show nb - (nb - 1 - k) = k + 1 by omega]
  have w0 : W 193 (64 * k + T) = Int32.ofNat (zbT c n nb (nb - k) T) := by
    rw [← hW (nb - k) (by omega) T hT, show nb - (nb - k) = k by omega]
  have l0 := zbT_le c n nb (nb - k) T
  have l1 := zbT_le c n nb (nb - 1 - k) T
  have lp := zf_wq (g := g_G_firstForBerth_1 W (Int32.ofNat (B k)) (Int32.ofNat k) (Int32.ofNat T)) (k := kb_G_firstForBerth_1 W (Int32.ofNat (B k)) (Int32.ofNat k) (Int32.ofNat T)) (fun i (s : Bool × Int32) => i ≤ n ∧ ∀ p, p < i → ¬ zbP c n nb k T p) (fun (s : Bool × Int32) => (s.1 = false ∧ ∀ p, p < n → ¬ zbP c n nb k T p) ∨ (s.1 = true ∧ ∃ p, p < n ∧ s.2 = Int32.ofNat p ∧ zbP c n nb k T p ∧ ∀ p', p' < p → ¬ zbP c n nb k T p')) n (fun i s ⟨hi, h1⟩ => by
    unfold g_G_firstForBerth_1 kb_G_firstForBerth_1
    rw [hf 4 10 (by omega), g4, zi_le (by omega) (by omega)]
    by_cases hc : n ≤ i
    · rw [decide_eq_true hc]
      exact ⟨hi, (fun h => by cases h), (fun h => by cases h), fun _ => Or.inl ⟨rfl, fun p hp => h1 p (by omega)⟩⟩
    · rw [decide_eq_false hc]
      obtain ⟨f1, f2⟩ := zb_fw (a := W) (R := N) (k := k) (T := T) (p := i) hS (by omega) (by omega) (by omega) (g6 k hk).1
      have lq := zbT_le c n nb (nb - 1 - k) (T ||| 2 ^ i)
      have ed : decide (v_G_filledWith W (Int32.ofNat (B k)) (Int32.ofNat k) (Int32.ofNat T) (Int32.ofNat i) = W 193 (((64 : Int32) * Int32.ofNat k) + Int32.ofNat T).toNatClampNeg) = true ↔ zbP c n nb k T i := by
        rw [f1, zix, zi_nat (by omega), w0, w1 _ (zbo2 hT (by omega)), ← g7 k i]
        unfold zbP
        have hneg : ∀ v, v ≤ 6 → decide ((-1 : Int32) = Int32.ofNat v) = false := fun v hv => decide_eq_false (fun h => zne1 (by omega) h.symm)
        cases T.testBit i with
        | true =>
          rw [zk_t, hneg _ (by omega)]
          exact ⟨(fun h => by cases h), fun h => by cases h.1⟩
        | false =>
          rw [zk_f]
          cases c k i with
          | false =>
            rw [zk_f, hneg _ (by omega)]
            exact ⟨(fun h => by cases h), fun h => by cases h.2.1⟩
          | true =>
            rw [zk_t, show (1 : Int32) = Int32.ofNat 1 from rfl, zi_ad, zN_eq (by omega) (by omega)]
            exact ⟨fun h => ⟨rfl, rfl, of_decide_eq_true h⟩, fun h => decide_eq_true h.2.2⟩
      cases hd : decide (v_G_filledWith W (Int32.ofNat (B k)) (Int32.ofNat k) (Int32.ofNat T) (Int32.ofNat i) = W 193 (((64 : Int32) * Int32.ofNat k) + Int32.ofNat T).toNatClampNeg) with
      | true =>
        refine ⟨hi, fun _ => f2, (fun h => by cases h), fun _ => Or.inr ⟨rfl, i, by omega, ?_, ed.mp hd, h1⟩⟩
        show (bif false then s.2 else (bif true then Int32.ofNat i else s.2)) = _
        rw [zk_f, zk_t]
      | false =>
        refine ⟨hi, fun _ => f2, fun _ => ⟨by omega, fun p hp => ?_⟩, (fun h => by cases h)⟩
        by_cases e : p = i
        · rw [e]
          intro hh
          rw [ed.mpr hh] at hd
          cases hd
        · exact h1 p (by omega)) 1000 0 (false, (0 : Int32)) ⟨by omega, fun p hp => by omega⟩ (by omega)
  unfold v_G_firstForBerth ok_G_firstForBerth
  have i1 : ((64 : Int32) * (Int32.ofNat k + (1 : Int32)) + Int32.ofNat T) = Int32.ofNat (64 * (k + 1) + T) := by rw [zi_succ, zix]
  rw [i1, zix, zi_nat (by omega), zi_nat (by omega), w0, w1 T hT, zN_eq (by omega) (by omega)]
  refine ⟨?_, zi_in (by omega) (by omega), zi_in (by omega) (by omega), fun _ => lp.2⟩
  by_cases hc : zbT c n nb (nb - 1 - k) T = zbT c n nb (nb - k) T
  · rw [decide_eq_true hc, zk_t]
    exact Or.inl ⟨hc, rfl⟩
  · rw [decide_eq_false hc, zk_f]
    rcases lp.1 with ⟨a, b⟩ | ⟨a, p, p1, p2, p3, p4⟩
    · obtain ⟨p, p1, p2⟩ := zbP_ex hk hc
      exact absurd p2 (b p p1)
    · rw [a, zk_t]
      exact Or.inr ⟨hc, p, p1, p2, p3, p4⟩
/-- the people taken ahead of berth k -/
def zbK (W : zMem) (B : Nat → Nat) : Nat → Nat
  | 0 => 0
  | k + 1 => bif decide (v_G_firstForBerth W (Int32.ofNat (B k)) (Int32.ofNat k) (Int32.ofNat (zbK W B k)) = (-1 : Int32)) then zbK W B k else zbK W B k ||| 2 ^ (v_G_firstForBerth W (Int32.ofNat (B k)) (Int32.ofNat k) (Int32.ofNat (zbK W B k))).toNatClampNeg
theorem zbK_lt {N W : zMem} {n nb : Nat} {B : Nat → Nat} {c : Nat → Nat → Bool} (hG : zbG N n nb B c) (hW : ∀ j, j ≤ nb → ∀ T, T < 2 ^ n → W 193 (64 * (nb - j) + T) = Int32.ofNat (zbT c n nb j T)) (hf : ∀ r q, r ≠ 193 → W r q = N r q) : ∀ k, k ≤ nb → zbK W B k < 2 ^ n
  | 0, _ => Nat.pow_pos (by omega)
  | k + 1, hk => by
    have ih := zbK_lt hG hW hf k (by omega)
    obtain ⟨a, -⟩ := zb_cf hG (show k < nb by omega) ih hW hf
    show (bif decide (v_G_firstForBerth W (Int32.ofNat (B k)) (Int32.ofNat k) (Int32.ofNat (zbK W B k)) = (-1 : Int32)) then zbK W B k else zbK W B k ||| 2 ^ (v_G_firstForBerth W (Int32.ofNat (B k)) (Int32.ofNat k) (Int32.ofNat (zbK W B k))).toNatClampNeg) < 2 ^ n
    have g1 := hG.1
    rcases a with ⟨-, b⟩ | ⟨-, p, p1, p2, -⟩
    · rw [b]; exact ih
    · rw [p2, decide_eq_false (zne1 (by omega)), zk_f, zi_nat (by omega)]
      exact zbo2 ih p1
/-- the class finds the person of a berth -/
theorem zb_cp {N W : zMem} {n nb : Nat} {B : Nat → Nat} {c : Nat → Nat → Bool} (hG : zbG N n nb B c) (hW : ∀ j, j ≤ nb → ∀ T, T < 2 ^ n → W 193 (64 * (nb - j) + T) = Int32.ofNat (zbT c n nb j T)) (hf : ∀ r q, r ≠ 193 → W r q = N r q) (x : Int32) : ((∀ w, w < nb → x = Int32.ofNat w → v_G_berthPerson W (Int32.ofNat nb) x = v_G_firstForBerth W (Int32.ofNat (B w)) (Int32.ofNat w) (Int32.ofNat (zbK W B w))) ∧ ((∀ w, w < nb → ¬ x = Int32.ofNat w) → v_G_berthPerson W (Int32.ofNat nb) x = -1)) ∧ ok_G_berthPerson W (Int32.ofNat nb) x := by
  have g1 := hG.1
  have g2 := hG.2.1
  have g6 := hG.2.2.2.2.2.1
  have lp := zf_wq (g := g_G_berthPerson_1 W (Int32.ofNat nb) x) (k := kb_G_berthPerson_1 W (Int32.ofNat nb) x) (fun i (s : Int32 × Bool × Int32) => i ≤ nb ∧ s.1 = Int32.ofNat (zbK W B i) ∧ ∀ w, w < i → ¬ x = Int32.ofNat w) (fun (s : Int32 × Bool × Int32) => (s.2.1 = false ∧ ∀ w, w < nb → ¬ x = Int32.ofNat w) ∨ (s.2.1 = true ∧ ∃ w, w < nb ∧ x = Int32.ofNat w ∧ s.2.2 = v_G_firstForBerth W (Int32.ofNat (B w)) (Int32.ofNat w) (Int32.ofNat (zbK W B w)))) nb (fun i s ⟨hi, h1, h2⟩ => by
    unfold g_G_berthPerson_1 kb_G_berthPerson_1
    rw [zi_le (by omega) (by omega), h1]
    by_cases hc : nb ≤ i
    · rw [decide_eq_true hc]
      exact ⟨hi, (fun h => by cases h), (fun h => by cases h), fun _ => Or.inl ⟨rfl, fun w hw => h2 w (by omega)⟩⟩
    · rw [decide_eq_false hc]
      obtain ⟨t1, t2⟩ := zby_at (N := W) (i := i) (by omega)
      have eb : v_T_byteAt W (Int32.ofNat i) = Int32.ofNat (B i) := by rw [t1, hf 3 i (by omega)]; exact (g6 i (by omega)).2.1
      have hK := zbK_lt hG hW hf i (by omega)
      obtain ⟨a, ok⟩ := zb_cf hG (show i < nb by omega) hK hW hf
      rw [eb]
      by_cases hx : Int32.ofNat i = x
      · rw [decide_eq_true hx]
        refine ⟨hi, fun _ => ⟨t2, ok⟩, (fun h => by cases h), fun _ => Or.inr ⟨rfl, i, by omega, hx.symm, ?_⟩⟩
        show (bif false then s.2.2 else (bif true then v_G_firstForBerth W (Int32.ofNat (B i)) (Int32.ofNat i) (Int32.ofNat (zbK W B i)) else s.2.2)) = v_G_firstForBerth W (Int32.ofNat (B i)) (Int32.ofNat i) (Int32.ofNat (zbK W B i))
        rw [zk_f, zk_t]
      · rw [decide_eq_false hx]
        refine ⟨hi, fun _ => ⟨t2, ok⟩, fun _ => ⟨by omega, ?_, fun w hw => ?_⟩, (fun h => by cases h)⟩
        · show (bif false then Int32.ofNat (zbK W B i) else (bif false then Int32.ofNat (zbK W B i) else (bif decide (v_G_firstForBerth W (Int32.ofNat (B i)) (Int32.ofNat i) (Int32.ofNat (zbK W B i)) = (-1 : Int32)) then Int32.ofNat (zbK W B i) else (Int32.ofNat (zbK W B i) ||| zsl (1 : Int32) (v_G_firstForBerth W (Int32.ofNat (B i)) (Int32.ofNat i) (Int32.ofNat (zbK W B i))))))) = Int32.ofNat (bif decide (v_G_firstForBerth W (Int32.ofNat (B i)) (Int32.ofNat i) (Int32.ofNat (zbK W B i)) = (-1 : Int32)) then zbK W B i else zbK W B i ||| 2 ^ (v_G_firstForBerth W (Int32.ofNat (B i)) (Int32.ofNat i) (Int32.ofNat (zbK W B i))).toNatClampNeg)
          rw [zk_f, zk_f]
          rcases a with ⟨-, b⟩ | ⟨-, p, p1, p2, -⟩
          · rw [b, decide_eq_true rfl, zk_t, zk_t]
          · rw [p2, decide_eq_false (zne1 (by omega)), zk_f, zk_f, zi_nat (by omega), zN_sl1 p (by omega), Nat.one_shiftLeft, zN_or]
        · by_cases e : w = i
          · rw [e]; exact fun h => hx h.symm
          · exact h2 w (by omega)) 1000 0 ((0 : Int32), false, 0) ⟨by omega, rfl, fun w hw => by omega⟩ (by omega)
  unfold v_G_berthPerson ok_G_berthPerson
  refine ⟨⟨fun w hw hx => ?_, fun hx => ?_⟩, lp.2⟩
  · rcases lp.1 with ⟨-, b⟩ | ⟨a, w', w1, w2, w3⟩
    · exact absurd hx (b w hw)
    · rw [a, zk_t, w3]
      have e : w' = w := by
        rw [hx] at w2
        exact ((zN_inj (by omega) (by omega)).mp w2).symm
      rw [e]
  · rcases lp.1 with ⟨a, -⟩ | ⟨-, w', w1, w2, -⟩
    · rw [a, zk_f]
    · exact absurd w2 (hx w' w1)
