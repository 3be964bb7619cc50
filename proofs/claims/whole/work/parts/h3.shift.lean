/-! SHIFTS: call 20 -/
def zsR : Nat → Nat → Nat
  | 0, m => m
  | k + 1, m => (zsR k m &&& 30583) <<< 1
def zsL : Nat → Nat → Nat
  | 0, m => m
  | k + 1, m => (zsL k m &&& 61166) >>> 1
theorem zsR_lt {m : Nat} (h : m < 65536) : ∀ k, zsR k m < 65536
  | 0 => h
  | k + 1 => by
    show (zsR k m &&& 30583) <<< 1 < 65536
    have h1 : zsR k m &&& 30583 ≤ 30583 := Nat.and_le_right
    rw [Nat.shiftLeft_eq]
    omega
theorem zsL_lt {m : Nat} (h : m < 65536) : ∀ k, zsL k m < 65536
  | 0 => h
  | k + 1 => by
    show (zsL k m &&& 61166) >>> 1 < 65536
    have h1 : zsL k m &&& 61166 ≤ 61166 := Nat.and_le_right
    have h2 := Nat.shiftRight_le (zsL k m &&& 61166) 1
    omega
theorem zsm : ∀ q, q < 16 → ((1 ≤ q → (30583 : Nat).testBit (q - 1) = decide (¬ q % 4 = 0)) ∧ (61166 : Nat).testBit (1 + q) = decide (¬ q % 4 = 3)) := by decide +kernel
theorem zsR_b {m : Nat} : ∀ k q, q < 16 → (zsR k m).testBit q = (decide (k ≤ q % 4) && m.testBit (q - k))
  | 0, q, _ => by
    show m.testBit q = _
    rw [decide_eq_true (show 0 ≤ q % 4 by omega), Bool.true_and, Nat.sub_zero]
  | k + 1, q, hq => by
    show ((zsR k m &&& 30583) <<< 1).testBit q = _
    rw [Nat.testBit_shiftLeft]
    by_cases c : q % 4 = 0
    · rw [decide_eq_false (show ¬ k + 1 ≤ q % 4 by omega), Bool.false_and]
      by_cases c1 : 1 ≤ q
      · rw [Nat.testBit_and, (zsm q hq).1 c1, decide_eq_false (show ¬ ¬ q % 4 = 0 by omega), Bool.and_false, Bool.and_false]
      · rw [decide_eq_false (show ¬ q ≥ 1 by omega), Bool.false_and]
    · rw [decide_eq_true (show q ≥ 1 by omega), Bool.true_and, Nat.testBit_and, (zsm q hq).1 (by omega), decide_eq_true c, Bool.and_true, zsR_b k (q - 1) (by omega), show q - 1 - k = q - (k + 1) by omega, decide_eq_decide.mpr (show k ≤ (q - 1) % 4 ↔ k + 1 ≤ q % 4 by omega)]
theorem zsL_b {m : Nat} : ∀ k q, q < 16 → (zsL k m).testBit q = (decide (q % 4 + k ≤ 3) && m.testBit (q + k))
  | 0, q, _ => by
    show m.testBit q = _
    rw [decide_eq_true (show q % 4 + 0 ≤ 3 by omega), Bool.true_and, Nat.add_zero]
  | k + 1, q, hq => by
    show ((zsL k m &&& 61166) >>> 1).testBit q = _
    rw [Nat.testBit_shiftRight, Nat.testBit_and, (zsm q hq).2]
    by_cases c : q % 4 = 3
    · rw [decide_eq_false (show ¬ ¬ q % 4 = 3 by omega), Bool.and_false, decide_eq_false (show ¬ q % 4 + (k + 1) ≤ 3 by omega), Bool.false_and]
    · rw [decide_eq_true c, Bool.and_true, zsL_b k (1 + q) (by omega), show 1 + q + k = q + (k + 1) by omega, decide_eq_decide.mpr (show (1 + q) % 4 + k ≤ 3 ↔ q % 4 + (k + 1) ≤ 3 by omega)]
def zsX (s m : Nat) : Nat := zsL (3 - s % 7) (zsR (s % 7 - 3) m)
def zMv (s m : Nat) : Nat := bif decide (s / 7 < 3) then zsX s m >>> (4 * (3 - s / 7)) else zsX s m <<< (4 * (s / 7 - 3))
def zsq (s q : Nat) : Nat := q + 4 * (3 - s / 7) - 4 * (s / 7 - 3)
def zsc (s q : Nat) : Bool := (decide (4 * (s / 7 - 3) ≤ q) && decide (q + 4 * (3 - s / 7) < 16)) && (decide (zsq s q % 4 + (3 - s % 7) ≤ 3) && decide (s % 7 - 3 ≤ (zsq s q + (3 - s % 7)) % 4))
def zss (s q : Nat) : Nat := zsq s q + (3 - s % 7) - (s % 7 - 3)
theorem zsX_b {s m q : Nat} (hq : q < 16) : (zsX s m).testBit q = ((decide (q % 4 + (3 - s % 7) ≤ 3) && decide (s % 7 - 3 ≤ (q + (3 - s % 7)) % 4)) && m.testBit (q + (3 - s % 7) - (s % 7 - 3))) := by
  unfold zsX
  rw [zsL_b _ q hq]
  by_cases c : q % 4 + (3 - s % 7) ≤ 3
  · rw [decide_eq_true c, Bool.true_and, Bool.true_and, zsR_b _ _ (by omega)]
  · rw [decide_eq_false c, Bool.false_and, Bool.false_and, Bool.false_and]
theorem zsX_lt {s m : Nat} (h : m < 65536) : zsX s m < 65536 := zsL_lt (zsR_lt h _) _
theorem zMv_b {s m q : Nat} (h : m < 65536) (hq : q < 16) : (zMv s m).testBit q = (zsc s q && m.testBit (zss s q)) := by
  unfold zMv zsc zss
  have hl := zsX_lt (s := s) h
  by_cases c : s / 7 < 3
  · rw [decide_eq_true c, zk_t, Nat.testBit_shiftRight, decide_eq_true (show 4 * (s / 7 - 3) ≤ q by omega), Bool.true_and]
    have e : zsq s q = 4 * (3 - s / 7) + q := by unfold zsq; omega
    by_cases c2 : q + 4 * (3 - s / 7) < 16
    · rw [decide_eq_true c2, Bool.true_and, zsX_b (by omega), e]
    · rw [decide_eq_false c2, Bool.false_and, Bool.false_and]
      exact Nat.testBit_lt_two_pow (Nat.lt_of_lt_of_le hl (Nat.pow_le_pow_right (n := 2) (i := 16) (by omega) (by omega)))
  · rw [decide_eq_false c, zk_f, Nat.testBit_shiftLeft, decide_eq_true (show q + 4 * (3 - s / 7) < 16 by omega), Bool.and_true]
    by_cases c2 : 4 * (s / 7 - 3) ≤ q
    · have e : zsq s q = q - 4 * (s / 7 - 3) := by unfold zsq; omega
      rw [decide_eq_true c2, Bool.true_and, Bool.true_and, zsX_b (by omega), e]
    · rw [decide_eq_false c2, Bool.false_and, Bool.false_and, Bool.false_and]
def zgS (m o : Nat) : List (Nat × Nat) → Nat
  | [] => 0
  | x :: l => (m.testBit x.1 && o.testBit x.2).toNat + zgS m o l
theorem zgS_a (m o : Nat) : ∀ l l', zgS m o (l ++ l') = zgS m o l + zgS m o l'
  | [], l' => (Nat.zero_add _).symm
  | x :: l, l' => by
    show (m.testBit x.1 && o.testBit x.2).toNat + zgS m o (l ++ l') = ((m.testBit x.1 && o.testBit x.2).toNat + zgS m o l) + zgS m o l'
    rw [zgS_a m o l l', Nat.add_assoc]
def zl2 (s : Nat) : Nat → List (Nat × Nat)
  | 0 => []
  | n + 1 => zl2 s n ++ (bif zsc s n then [(zss s n, n)] else [])
def zc1 (s p : Nat) : Bool := (decide (3 ≤ p / 4 + s / 7 ∧ p / 4 + s / 7 ≤ 6)) && (decide (3 ≤ p % 4 + s % 7 ∧ p % 4 + s % 7 ≤ 6))
def zd1 (s p : Nat) : Nat := 4 * (p / 4 + s / 7 - 3) + (p % 4 + s % 7 - 3)
def zl1 (s : Nat) : Nat → List (Nat × Nat)
  | 0 => []
  | n + 1 => zl1 s n ++ (bif zc1 s n then [(n, zd1 s n)] else [])
theorem zl12 : ∀ s, s < 49 → zl1 s 16 = zl2 s 16 := by decide +kernel
theorem zl2_s {s m o : Nat} (h : m < 65536) : ∀ n, n ≤ 16 → zpc (zMv s m &&& o) n = zgS m o (zl2 s n)
  | 0, _ => rfl
  | n + 1, hn => by
    show zpc (zMv s m &&& o) n + (((zMv s m &&& o) >>> n) &&& 1) = zgS m o (zl2 s n ++ (bif zsc s n then [(zss s n, n)] else []))
    rw [zl2_s h n (by omega), zgS_a, Nat.and_one_is_mod, Nat.shiftRight_eq_div_pow, ← Nat.toNat_testBit, Nat.testBit_and, zMv_b h (by omega)]
    cases zsc s n
    · rfl
    · rw [Bool.true_and, zk_t]
      rfl
theorem zsT : ∀ s, s < 49 → ((zrm (Int32.ofNat s) (7 : Int32)) - (3 : Int32)).toNatClampNeg = s % 7 - 3 ∧ (-((zrm (Int32.ofNat s) (7 : Int32)) - (3 : Int32))).toNatClampNeg = 3 - s % 7 ∧ decide (((Int32.ofNat s / (7 : Int32)) - (3 : Int32)) < 0) = decide (s / 7 < 3) ∧ (s / 7 < 3 → (-4 : Int32) * ((Int32.ofNat s / (7 : Int32)) - (3 : Int32)) = Int32.ofNat (4 * (3 - s / 7))) ∧ (¬ s / 7 < 3 → (4 : Int32) * ((Int32.ofNat s / (7 : Int32)) - (3 : Int32)) = Int32.ofNat (4 * (s / 7 - 3))) := by decide +kernel
theorem zsT1 : ∀ s, s < 49 → ∀ p, p < 16 → v_D_isIn ((Int32.ofNat p / (4 : Int32)) + ((Int32.ofNat s / (7 : Int32)) - (3 : Int32))) (0 : Int32) (3 : Int32) = decide (3 ≤ p / 4 + s / 7 ∧ p / 4 + s / 7 ≤ 6) ∧ v_D_isIn ((zrm (Int32.ofNat p) (4 : Int32)) + ((zrm (Int32.ofNat s) (7 : Int32)) - (3 : Int32))) (0 : Int32) (3 : Int32) = decide (3 ≤ p % 4 + s % 7 ∧ p % 4 + s % 7 ≤ 6) ∧ (zc1 s p = true → ((4 : Int32) * ((Int32.ofNat p / (4 : Int32)) + ((Int32.ofNat s / (7 : Int32)) - (3 : Int32)))) + ((zrm (Int32.ofNat p) (4 : Int32)) + ((zrm (Int32.ofNat s) (7 : Int32)) - (3 : Int32))) = Int32.ofNat (zd1 s p) ∧ zd1 s p < 16) := by decide +kernel
theorem zF_R {m s : Nat} (x1 x2 : Int32) (h : m < 65536) : ∀ k, zf_for k (f_F_lyingOn_1 (Int32.ofNat m) x1 x2) (Int32.ofNat m) = Int32.ofNat (zsR k m)
  | 0 => rfl
  | k + 1 => by
    show f_F_lyingOn_1 (Int32.ofNat m) x1 x2 k (zf_for k (f_F_lyingOn_1 (Int32.ofNat m) x1 x2) (Int32.ofNat m)) = Int32.ofNat ((zsR k m &&& 30583) <<< 1)
    rw [zF_R (s := s) x1 x2 h k]
    unfold f_F_lyingOn_1
    rw [show (-34953 : Int32) = Int32.ofNat 4294932343 from rfl, show (1 : Int32) = Int32.ofNat 1 from rfl, zN_and, (zma (zsR_lt h k)).1, zN_sl (by omega)]
theorem zF_L {m a : Nat} (x1 x2 : Int32) (h : a < 65536) : ∀ k, zf_for k (f_F_lyingOn_2 (Int32.ofNat m) x1 x2) (Int32.ofNat a) = Int32.ofNat (zsL k a)
  | 0 => rfl
  | k + 1 => by
    show f_F_lyingOn_2 (Int32.ofNat m) x1 x2 k (zf_for k (f_F_lyingOn_2 (Int32.ofNat m) x1 x2) (Int32.ofNat a)) = Int32.ofNat ((zsL k a &&& 61166) >>> 1)
    rw [zF_L x1 x2 h k]
    unfold f_F_lyingOn_2
    have h1 : zsL k a &&& 61166 ≤ 61166 := Nat.and_le_right
    rw [show (-4370 : Int32) = Int32.ofNat 4294962926 from rfl, show (1 : Int32) = Int32.ofNat 1 from rfl, zN_and, (zma (zsL_lt h k)).2, zN_sr (by omega) (by omega)]
theorem zF_ly {m o s : Nat} (h : m < 65536) (ho : o < 65536) (hs : s < 49) : v_F_lyingOn (Int32.ofNat m) (Int32.ofNat o) (Int32.ofNat s) = Int32.ofNat (zgS m o (zl2 s 16)) := by
  obtain ⟨a1, a2, a3, a4, a5⟩ := zsT s hs
  have hl := zsX_lt (s := s) h
  have ho2 : zMv s m &&& o ≤ o := Nat.and_le_right
  unfold v_F_lyingOn
  rw [a1, a2, a3, zF_R (s := s) _ _ h, zF_L _ _ (zsR_lt h _)]
  have e : (bif decide (s / 7 < 3) then zsr (Int32.ofNat (zsL (3 - s % 7) (zsR (s % 7 - 3) m))) ((-4 : Int32) * ((Int32.ofNat s / (7 : Int32)) - (3 : Int32))) else zsl (Int32.ofNat (zsL (3 - s % 7) (zsR (s % 7 - 3) m))) ((4 : Int32) * ((Int32.ofNat s / (7 : Int32)) - (3 : Int32)))) = Int32.ofNat (zMv s m) := by
    unfold zMv
    have hl : zsL (3 - s % 7) (zsR (s % 7 - 3) m) < 65536 := hl
    by_cases c : s / 7 < 3
    · rw [decide_eq_true c, zk_t, zk_t, a4 c, zN_sr (by omega) (by omega)]
      rfl
    · rw [decide_eq_false c, zk_f, zk_f, a5 c, zN_sl (by omega)]
      rfl
  rw [e, zN_and, zN_count (zr_nn (by omega)), zN_bits (by omega), show (31 : Nat) = 16 + 15 from rfl, zpc_hi (by omega) 15, zl2_s h 16 (Nat.le_refl _)]
theorem zD_lie {R : zMem} {x0 x1 : Int32} {m o s : Nat} (h : m < 65536) (ho : o < 65536) (hs : s < 49) (h0 : v_D_ofKind R x0 (0 : Int32) = Int32.ofNat m) (h1 : v_D_ofKind R x1 (0 : Int32) = Int32.ofNat o) : v_D_lie R x0 x1 ((Int32.ofNat s / (7 : Int32)) - (3 : Int32)) ((zrm (Int32.ofNat s) (7 : Int32)) - (3 : Int32)) = Int32.ofNat (zgS m o (zl1 s 16)) := by
  unfold v_D_lie
  have key : ∀ n, n ≤ 16 → zf_for n (f_D_lie_1 R x0 x1 ((Int32.ofNat s / (7 : Int32)) - (3 : Int32)) ((zrm (Int32.ofNat s) (7 : Int32)) - (3 : Int32))) (0 : Int32) = Int32.ofNat (zgS m o (zl1 s n)) := by
    intro n
    induction n with
    | zero => intro _; rfl
    | succ n ih =>
      intro hn
      show f_D_lie_1 R x0 x1 ((Int32.ofNat s / (7 : Int32)) - (3 : Int32)) ((zrm (Int32.ofNat s) (7 : Int32)) - (3 : Int32)) n (zf_for n (f_D_lie_1 R x0 x1 ((Int32.ofNat s / (7 : Int32)) - (3 : Int32)) ((zrm (Int32.ofNat s) (7 : Int32)) - (3 : Int32))) (0 : Int32)) = Int32.ofNat (zgS m o (zl1 s n ++ (bif zc1 s n then [(n, zd1 s n)] else [])))
      rw [ih (by omega)]
      obtain ⟨b1, b2, b3⟩ := zsT1 s hs n (by omega)
      unfold f_D_lie_1
      rw [h0, h1, b1, b2, zN_isOf (by omega) (by omega), zgS_a, Int32.ofNat_add]
      congr 1
      cases hc : zc1 s n with
      | true =>
        obtain ⟨d1, d2⟩ := b3 hc
        have hc' : ((decide (3 ≤ n / 4 + s / 7 ∧ n / 4 + s / 7 ≤ 6)) && (decide (3 ≤ n % 4 + s % 7 ∧ n % 4 + s % 7 ≤ 6))) = true := hc
        rw [Bool.and_eq_true] at hc'
        rw [hc'.1, hc'.2, zk_t, zk_t, d1, zN_isOf (by omega) (by omega), zk_t]
        show _ = Int32.ofNat ((m.testBit n && o.testBit (zd1 s n)).toNat + 0)
        cases m.testBit n <;> cases o.testBit (zd1 s n) <;> rfl
      | false =>
        have hc' : ((decide (3 ≤ n / 4 + s / 7 ∧ n / 4 + s / 7 ≤ 6)) && (decide (3 ≤ n % 4 + s % 7 ∧ n % 4 + s % 7 ≤ 6))) = false := hc
        rw [zk_f]
        cases m.testBit n with
        | false => rfl
        | true =>
          rw [zk_t]
          cases he : decide (3 ≤ n / 4 + s / 7 ∧ n / 4 + s / 7 ≤ 6) with
          | false => rw [zk_f]; rfl
          | true =>
            rw [he, Bool.true_and] at hc'
            rw [hc', zk_t, zk_f]
            rfl
  exact key 16 (Nat.le_refl _)
theorem zgS_le (m o : Nat) : ∀ l : List (Nat × Nat), zgS m o l ≤ l.length
  | [] => Nat.le_refl _
  | x :: l => by
    show (m.testBit x.1 && o.testBit x.2).toNat + zgS m o l ≤ l.length + 1
    have h1 := zgS_le m o l
    have h2 := Bool.toNat_le (m.testBit x.1 && o.testBit x.2)
    omega
theorem zl2_l : ∀ s, s < 49 → (zl2 s 16).length ≤ 16 := by decide +kernel
theorem zo20 : zo_20 zv_Inv := by
  intro M x y b hI
  rcases zg_k x with ⟨p, hp, e, en, t, i⟩ | ⟨t, i⟩
  · rcases zg_k y with ⟨q, hq, e2, en2, t2, i2⟩ | ⟨t2, i2⟩
    · have hm : w_D_areKinds M x y = zz_up M 194 0 0 := by
        unfold w_D_areKinds v_D_isKind
        rw [i, i2]; rfl
      obtain ⟨m, m1, m2⟩ := zr_ofk hI hp
      obtain ⟨o, o1, o2⟩ := zr_ofk hI hq
      have hk0 : v_D_ofKind (w_D_areKinds M x y) x (0 : Int32) = Int32.ofNat m := by rw [hm, e, ← m2]; exact zq_kd hI (zq_h M 0) hp 0 (by omega)
      have hk1 : v_D_ofKind (w_D_areKinds M x y) y (0 : Int32) = Int32.ofNat o := by rw [hm, e2, ← o2]; exact zq_kd hI (zq_h M 0) hq 0 (by omega)
      have ok0 : ok_D_ofKind (w_D_areKinds M x y) x (0 : Int32) := by rw [e]; exact zd_kdk _ hp (k := 0) (by omega)
      have ok1 : ok_D_ofKind (w_D_areKinds M x y) y (0 : Int32) := by rw [e2]; exact zd_kdk _ hq (k := 0) (by omega)
      have hth : decide ((w_D_areKinds M x y) 194 0 ≤ 0) = true := by rw [hm]; rfl
      have lc : ∀ s, s < 49 → v_F_lyingOn (Int32.ofNat m) (Int32.ofNat o) (Int32.ofNat s) = Int32.ofNat (zgS m o (zl2 s 16)) := fun s hs => zF_ly m1 o1 hs
      have lr : ∀ s, s < 49 → v_D_lie (w_D_areKinds M x y) x y ((Int32.ofNat s / (7 : Int32)) - (3 : Int32)) ((zrm (Int32.ofNat s) (7 : Int32)) - (3 : Int32)) = Int32.ofNat (zgS m o (zl2 s 16)) := fun s hs => by rw [zD_lie m1 o1 hs hk0 hk1, zl12 s hs]
      have lb : ∀ s, s < 49 → zgS m o (zl2 s 16) ≤ 16 := fun s hs => Nat.le_trans (zgS_le m o _) (zl2_l s hs)
      have sim := zf_sim (f := f_F_bestShift_1 (Int32.ofNat m) (Int32.ofNat o)) (g := f_D_shifts_1 M x y b) (fun i (u v : Int32 × Int32) => (i = 0 ∧ u = ((0 : Int32), (0 : Int32)) ∧ v = ((-1 : Int32), (-1 : Int32))) ∨ (u = v ∧ ∃ s, s < 49 ∧ u.1 = Int32.ofNat s ∧ u.2 = Int32.ofNat (zgS m o (zl2 s 16)))) (a := ((0 : Int32), (0 : Int32))) (b := ((-1 : Int32), (-1 : Int32))) 49 (Or.inl ⟨rfl, rfl, rfl⟩) (fun i u v hi hh => ?_)
      · have sim2 : v_F_bestShift (Int32.ofNat m) (Int32.ofNat o) = (zf_for 49 (f_D_shifts_1 M x y b) ((-1 : Int32), (-1 : Int32))).1 ∧ v_F_lyingOn (Int32.ofNat m) (Int32.ofNat o) (v_F_bestShift (Int32.ofNat m) (Int32.ofNat o)) = (zf_for 49 (f_D_shifts_1 M x y b) ((-1 : Int32), (-1 : Int32))).2 := by
          rcases sim with ⟨h0, -⟩ | ⟨h1, s, s1, s2, s3⟩
          · omega
          · unfold v_F_bestShift
            rw [← h1, s2, s3]
            exact ⟨rfl, lc s s1⟩
        unfold ok_N_shifts t_N_shifts ok_D_shifts v_N_shifts v_D_shifts w_D_shifts
        rw [t, t2, en, en2, hth, m2, o2]
        refine ⟨fun _ _ => ⟨by rw [e]; exact zi_in hp (by omega), by rw [e2]; exact zi_in hq (by omega)⟩, Or.inl rfl, fun _ j hj k hk => ⟨ok0, fun _ _ _ => ok1⟩, by rw [hm]; rfl, fun _ => ?_, by rw [hm]; exact zv_th hI 0⟩
        show (bif b then v_F_lyingOn (Int32.ofNat m) (Int32.ofNat o) (v_F_bestShift (Int32.ofNat m) (Int32.ofNat o)) else v_F_bestShift (Int32.ofNat m) (Int32.ofNat o)) = (bif b then (zf_for 49 (f_D_shifts_1 M x y b) ((-1 : Int32), (-1 : Int32))).2 else (zf_for 49 (f_D_shifts_1 M x y b) ((-1 : Int32), (-1 : Int32))).1)
        rw [sim2.1, ← sim2.2, sim2.1]
      · have hb := lb i hi
        unfold f_F_bestShift_1 f_D_shifts_1
        rw [lc i hi, lr i hi]
        refine Or.inr ?_
        rcases hh with ⟨i0, hu, hv⟩ | ⟨huv, s, s1, s2, s3⟩
        · rw [hu, hv]
          simp only []
          rw [show decide ((-1 : Int32) < Int32.ofNat (zgS m o (zl2 i 16))) = true by rw [zi_lti, zi_val (by omega), show (-1 : Int32).toInt = -1 from rfl]; exact decide_eq_true (by omega), show (0 : Int32) = Int32.ofNat 0 from rfl, zi_le (by omega) (by omega), zk_t, zk_t]
          by_cases c : zgS m o (zl2 i 16) ≤ 0
          · rw [decide_eq_true c, zk_t, zk_t]
            have c0 : zgS m o (zl2 i 16) = 0 := by omega
            subst i0
            rw [c0]
            exact ⟨rfl, 0, by omega, rfl, by rw [c0]⟩
          · rw [decide_eq_false c, zk_f, zk_f]
            exact ⟨rfl, i, hi, rfl, rfl⟩
        · subst huv
          have hb2 := lb s s1
          rw [s3, zi_le (by omega) (by omega), zi_lt' (by omega) (by omega)]
          by_cases c : zgS m o (zl2 i 16) ≤ zgS m o (zl2 s 16)
          · rw [decide_eq_true c, decide_eq_false (show ¬ zgS m o (zl2 s 16) < zgS m o (zl2 i 16) by omega), zk_t, zk_t, zk_f, zk_f]
            exact ⟨rfl, s, s1, s2, rfl⟩
          · rw [decide_eq_false c, decide_eq_true (show zgS m o (zl2 s 16) < zgS m o (zl2 i 16) by omega), zk_t, zk_t, zk_f, zk_f]
            exact ⟨rfl, i, hi, rfl, rfl⟩
    · have hm : w_D_areKinds M x y = zz_up M 194 0 1 := by
        unfold w_D_areKinds v_D_isKind
        rw [i, i2]; rfl
      have hth : decide ((w_D_areKinds M x y) 194 0 ≤ 0) = false := by rw [hm]; rfl
      unfold ok_N_shifts t_N_shifts ok_D_shifts v_N_shifts v_D_shifts w_D_shifts
      rw [t, t2, hth, hm]
      exact ⟨(fun _ h => by cases h), Or.inr rfl, (fun h => by cases h), rfl, (fun h => by cases h), zv_th hI _⟩
  · have hm : w_D_areKinds M x y = zz_up M 194 0 1 := by
      unfold w_D_areKinds v_D_isKind
      rw [i]; rfl
    have hth : decide ((w_D_areKinds M x y) 194 0 ≤ 0) = false := by rw [hm]; rfl
    unfold ok_N_shifts t_N_shifts ok_D_shifts v_N_shifts v_D_shifts w_D_shifts
    rw [t, hth, hm]
    exact ⟨(fun h => by cases h), Or.inr rfl, (fun h => by cases h), rfl, (fun h => by cases h), zv_th hI _⟩
