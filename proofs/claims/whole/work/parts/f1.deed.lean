/-! a person's deed in a year, on both sides -/
theorem zw_14 {N : zMem} {s : Nat} {r : Nat → Int32} {v : Int32} (h : zc_W N s r) : zc_W (zz_up N s 14 v) s r := by
  have e : ∀ a j, ¬ (a = s ∧ j = 14) → zz_up N s 14 v a j = N a j := fun a j h => zu_o h
  refine ⟨fun q hq => ?_, fun q hq => ?_, ?_, trivial⟩
  · rw [e (s + 1) q (by omega), e (s + 2) q (by omega), e (s + 3) q (by omega)]; exact h.1 q hq
  · rw [e (s + 4) q (by omega), e (s + 5) q (by omega), e (s + 6) q (by omega), e (s + 7) q (by omega), e (s + 8) q (by omega), e (s + 9) q (by omega)]; exact h.2.1 q hq
  · rw [e s 10 (by omega), e s 12 (by omega)]; exact h.2.2.1
theorem zw_c {N N' : zMem} {s : Nat} {r : Nat → Int32} (e : ∀ a j, s ≤ a → a ≤ s + 10 → N' a j = N a j) (h : zc_W N s r) : zc_W N' s r := by
  refine ⟨fun q hq => ?_, fun q hq => ?_, ?_, trivial⟩
  · rw [e (s + 1) q (by omega) (by omega), e (s + 2) q (by omega) (by omega), e (s + 3) q (by omega) (by omega)]; exact h.1 q hq
  · rw [e (s + 4) q (by omega) (by omega), e (s + 5) q (by omega) (by omega), e (s + 6) q (by omega) (by omega), e (s + 7) q (by omega) (by omega), e (s + 8) q (by omega) (by omega), e (s + 9) q (by omega) (by omega)]; exact h.2.1 q hq
  · rw [e s 10 (by omega) (by omega), e s 12 (by omega) (by omega)]; exact h.2.2.1
theorem zw_dr {M M' : zMem} (k : Int32) (h : M 195 = M' 195) : (w_D_draw M k) 195 = (w_D_draw M' k) 195 := by
  unfold w_D_draw
  funext i
  by_cases e : i = 8
  · subst e; rw [zu_at rfl rfl, zu_at rfl rfl, h]
  · rw [zu_o (by omega), zu_o (by omega), h]
theorem zm_fm {x y : Int32} (h : zrg 0 999 x) (hy : 0 ≤ y.toInt ∧ y.toInt ≤ 12000) : v_jm_min (x + y) (999 : Int32) = v_D_lesser (999 : Int32) (x + y) ∧ zrg 0 999 (v_D_lesser (999 : Int32) (x + y)) := by
  have e9 : (999 : Int32).toInt = 999 := by decide
  have e1 : (x + y).toInt = x.toInt + y.toInt := by
    rw [Int32.toInt_add]
    exact Int.bmod_eq_of_le (by have := h.1; omega) (by have := h.2; omega)
  refine ⟨zi_eq ?_, ?_⟩
  · rw [zi_min, zi_les]; omega
  · unfold zrg
    rw [zi_les, e9, e1]
    have := h.1
    omega
theorem zY_de {N0 R0 N R : zMem} {s p : Nat} (h4 : s + 10 < 37) (hL : zc_Lw N0 37 (R0 195)) (h : zY N0 R0 s N R) (hp : p < 6) (c : Int32) : (ok_S_awaitsDeed N s (Int32.ofNat p) ∧ ((v_S_awaitsDeed N s (Int32.ofNat p)) = true → (ok_L_comes (w_S_draw N s) s (Int32.ofNat p) ∧ ((decide ((v_L_comes (w_S_draw N s) s (Int32.ofNat p)) ≤ (zrm (v_S_draw N s) (100 : Int32)))) = false → (ok_L_makesKnown (w_L_comes (w_S_draw N s) s (Int32.ofNat p)) s (Int32.ofNat p) ∧ ok_S_bringDeed (w_L_makesKnown (w_L_comes (w_S_draw N s) s (Int32.ofNat p)) s (Int32.ofNat p)) s (Int32.ofNat p) (v_L_makesKnown (w_L_comes (w_S_draw N s) s (Int32.ofNat p)) s (Int32.ofNat p))))))) ∧ ok_D_deeds R (Int32.ofNat p) true ∧ (bif (v_S_awaitsDeed N s (Int32.ofNat p)) then (bif (decide ((v_L_comes (w_S_draw N s) s (Int32.ofNat p)) ≤ (zrm (v_S_draw N s) (100 : Int32)))) then c else (c + (1 : Int32))) else c) = c + v_D_deeds R (Int32.ofNat p) true ∧ zY N0 R0 s (bif (v_S_awaitsDeed N s (Int32.ofNat p)) then (bif (decide ((v_L_comes (w_S_draw N s) s (Int32.ofNat p)) ≤ (zrm (v_S_draw N s) (100 : Int32)))) then (w_L_comes (w_S_draw N s) s (Int32.ofNat p)) else (w_S_bringDeed (w_L_makesKnown (w_L_comes (w_S_draw N s) s (Int32.ofNat p)) s (Int32.ofNat p)) s (Int32.ofNat p) (v_L_makesKnown (w_L_comes (w_S_draw N s) s (Int32.ofNat p)) s (Int32.ofNat p)))) else N) (w_D_deeds R (Int32.ofNat p) true) := by
  have hpo := zh_pok h.1 hp
  have ho := zh_ok R hp
  have hof := zh_of h.1 hp
  have i6 : zz_in (Int32.ofNat p) 6 = true := zi_in hp (by omega)
  unfold ok_S_awaitsDeed v_S_awaitsDeed ok_D_deeds v_D_deeds w_D_deeds ok_S_hasDoneItsDeed v_S_hasDoneItsDeed
  simp only [zk_t]
  rcases zh_p h.1 hp with ⟨-, a, b, -, e, -⟩ | ⟨k, d, hk, hd, u, a, b, t, cc, e, f, g⟩
  · rw [a, e, show decide ((-1 : Int32) = -1) = true from rfl]
    simp only [zk_t, zk_f]
    exact ⟨⟨⟨hpo.1, (fun hh => by cases hh)⟩, (fun hh => by cases hh)⟩, ⟨hpo.2.2.2.1, (fun hh => by cases hh)⟩, (Int32.add_zero c).symm, h⟩
  · obtain ⟨bb, b1, b2⟩ := zh_dn h.1 hp
    have ed : decide (Int32.ofNat d = (-1 : Int32)) = false := by
      refine decide_eq_false (fun hh => ?_)
      have := congrArg Int32.toInt hh
      rw [zi_val (by omega)] at this
      have e1 : (-1 : Int32).toInt = -1 := by decide
      omega
    rw [a, e, ed, cc, hof.2.2.2.2.1, zi_nat (by omega), b2, zN_isOf (by omega) (by omega), ← Nat.one_shiftLeft, ← zN_sl1 d (by omega), zN_bit (by omega) (by omega)]
    cases hb : bb.testBit d with
    | true =>
      simp only [Bool.not_true, zk_t, zk_f]
      exact ⟨⟨⟨hpo.1, fun _ => ⟨i6, hpo.2.2.1⟩⟩, (fun hh => by cases hh)⟩, ⟨hpo.2.2.2.1, fun _ => ⟨ho.2.2.2.2.1, (fun hh => by cases hh)⟩⟩, (Int32.add_zero c).symm, h⟩
    | false =>
      simp only [Bool.not_false, zk_t, zk_f]
      have hLw := zY_lw h4 h hL
      obtain ⟨dY, m, m1, m2, m3⟩ := zY_dr h (100 : Int32)
      obtain ⟨N1, hN1⟩ : ∃ N', N' = w_S_draw N s := ⟨_, rfl⟩
      have f1 : ∀ a j, ¬ (a = s ∧ j = 14) → N1 a j = N a j := fun a j hh => by rw [hN1]; exact zu_o hh
      have W1 : zc_W N1 s (R 195) := by rw [hN1]; exact zw_14 (zc_w h.1)
      have L1 : zc_Lw N1 37 (R 195) := zLw_c (fun a i x y => f1 a i (by omega)) rfl rfl (fun _ => rfl) hLw
      obtain ⟨⟨q1, q2, q3⟩, q4, q5, q6, -⟩ := zL_asks W1 L1 hp h4
      rw [← hN1] at dY ⊢
      obtain ⟨N2, hN2⟩ : ∃ N', N' = w_L_comes N1 s (Int32.ofNat p) := ⟨_, rfl⟩
      rw [← hN2] at q4 ⊢
      have W2 : zc_W N2 s (R 195) := zw_c (fun a j x y => q4 a j (by omega) (by omega)) W1
      have L2 : zc_Lw N2 37 (R 195) := zLw_c (fun a i x y => q4 a i (by omega) (by omega)) rfl rfl (fun _ => rfl) L1
      obtain ⟨-, -, -, -, kn⟩ := zL_asks W2 L2 hp h4
      obtain ⟨k0, k1, k2, k3⟩ := kn b
      obtain ⟨N3, hN3⟩ : ∃ N', N' = w_L_makesKnown N2 s (Int32.ofNat p) := ⟨_, rfl⟩
      rw [← hN3] at k3 ⊢
      obtain ⟨R1, hR1⟩ : ∃ N', N' = w_D_asks R (Int32.ofNat p) := ⟨_, rfl⟩
      rw [← hR1] at q3 q5 q6 k2 ⊢
      rw [q3, k2]
      rw [k2] at k0
      have e195 : R1 195 = R 195 := funext fun i => q5 195 i (by omega) (by omega)
      have ev : v_D_draw R1 100 = zrm (Int32.ofNat m) 100 := by
        rw [← m3]
        unfold v_D_draw
        rw [e195]
      obtain ⟨R2, hR2⟩ : ∃ N', N' = w_D_draw R1 100 := ⟨_, rfl⟩
      have fR2 : ∀ a j, ¬ (a = 195 ∧ j = 8) → R2 a j = R1 a j := fun a j hh => by rw [hR2]; exact zu_o hh
      have eR2 : R2 195 = (w_D_draw R 100) 195 := by rw [hR2]; exact zw_dr 100 e195
      rw [ev, m2, ← hR2, fR2 194 17 (by omega)]
      have od : ok_D_draw R1 (100 : Int32) := (show decide ((100 : Int32) = 0) = false from by decide)
      have fN3 : ∀ a j, a ≠ 42 → a ≠ 43 → N3 a j = N1 a j := fun a j x y => (k3 a j x y).trans (q4 a j x y)
      have Y2 : zY N0 R0 s N2 R2 := by
        refine ⟨?_, fun a i x y z => ?_, fun a i x y z => ?_, ?_, ?_⟩
        · rw [eR2]
          exact zc_cg (fun j hj => funext fun i => q4 (s + j) i (by omega) (by omega)) (fun _ _ => rfl) dY.1
        · rw [q4 a i y z, f1 a i (by omega)]; exact h.2.1 a i x y z
        · rw [fR2 a i (by omega), q5 a i y z]; exact h.2.2.1 a i x y z
        · rw [fR2 194 15 (by omega)]; exact (q6 h.2.2.2.1 h.2.2.2.2).1
        · rw [fR2 194 16 (by omega)]; exact (q6 h.2.2.2.1 h.2.2.2.2).2
      have Y3 : zY N0 R0 s N3 R2 := zY_up Y2 (zc_cg (fun j hj => funext fun i => k3 (s + j) i (by omega) (by omega)) (fun _ _ => rfl) Y2.1) (fun a i x y z => k3 a i y z) (fun _ _ _ _ _ => rfl)
      cases hc : decide (R1 194 17 ≤ zrm (Int32.ofNat m) 100) with
      | true =>
        simp only [zk_t, zk_f]
        exact ⟨⟨⟨hpo.1, fun _ => ⟨i6, hpo.2.2.1⟩⟩, fun _ => ⟨q1, (fun hh => by cases hh)⟩⟩, ⟨hpo.2.2.2.1, fun _ => ⟨ho.2.2.2.2.1, fun _ => ⟨q2, fun _ => od, (fun hh => by cases hh)⟩⟩⟩, (Int32.add_zero c).symm, Y2⟩
      | false =>
        simp only [zk_t, zk_f]
        have hof3 := zh_of Y3.1 hp
        have hp3 : v_S_isPlain N3 s (Int32.ofNat p) = false := by
          rcases zw_p (zw_c (fun a j x y => k3 a j (by omega) (by omega)) W2) hp with ⟨-, a', b', -⟩ | ⟨k', d', hk', hd', u', a', -⟩
          · rw [b'] at b; cases b
          · exact a'
        have u3 : N3 (s + 4) p = Int32.ofNat k := by rw [fN3 _ _ (by omega) (by omega), f1 _ _ (by omega)]; exact u
        have t3 : N3 (s + 2) k = Int32.ofNat d := by rw [fN3 _ _ (by omega) (by omega), f1 _ _ (by omega)]; exact t
        have b3 : N3 (s + 8) p = Int32.ofNat bb := by rw [fN3 _ _ (by omega) (by omega), f1 _ _ (by omega)]; exact b2
        obtain ⟨z1, z2⟩ := zm_fm (x := N3 (s + 9) p) (Y3.1.2.1 p hp).2.2.2.2.2.2 k0
        obtain ⟨v, hv⟩ : ∃ v, v = v_D_lesser (999 : Int32) (N3 (s + 9) p + R1 194 18) := ⟨_, rfl⟩
        have e18 : R2 194 18 = R1 194 18 := fR2 194 18 (by omega)
        rw [← hv] at z1 z2
        have S5 := zc_uP Y3.1 hp (f := 5) (by omega) (v := v) z2
        have hlt : bb ||| 2 ^ d < 256 := Nat.or_lt_two_pow (n := 8) (by omega) (Nat.pow_lt_pow_right (by omega) hd)
        have hr : zrg 0 255 (Int32.ofNat (bb ||| 2 ^ d)) := ⟨by rw [zi_val (by omega)]; omega, by rw [zi_val (by omega)]; omega⟩
        have S4 := zc_uP S5 hp (f := 4) (by omega) (v := Int32.ofNat (bb ||| 2 ^ d)) hr
        have SG := zc_uG (q := 0) (p := p) (v := d) S4 (by omega) (by omega) (by omega)
        obtain ⟨y1, y2, -, -, -, -, oA, eA⟩ := zl_N S4.2.2.1 (Int32.ofNat p) (Int32.ofNat 0) (Int32.ofNat d)
        have lD := zl_D (zz_up (zz_up R2 195 (33 + 6 * p + 5) v) 195 (33 + 6 * p + 4) (Int32.ofNat (bb ||| 2 ^ d))) (Int32.ofNat 0) (Int32.ofNat p) (Int32.ofNat d)
        obtain ⟨ix5, iy5⟩ := zi_f1 hp (k := 5) (by omega)
        have ix5 : (((33 : Int32) + ((6 : Int32) * Int32.ofNat p)) + (5 : Int32)).toNatClampNeg = 33 + 6 * p + 5 := ix5
        obtain ⟨ix4, iy4⟩ := zi_f1 hp (k := 4) (by omega)
        have ix4 : (((33 : Int32) + ((6 : Int32) * Int32.ofNat p)) + (4 : Int32)).toNatClampNeg = 33 + 6 * p + 4 := ix4
        have of5 := (zh_of S5 hp).2.2.2.2.1
        have ob3 : zz_up N3 (s + 4 + 5) p v (s + 8) p = Int32.ofNat bb := (zu_o (by omega)).trans b3
        have es : Int32.ofNat bb ||| zsl (1 : Int32) (Int32.ofNat d) = Int32.ofNat (bb ||| 2 ^ d) := by rw [zN_sl1 d (by omega), Nat.one_shiftLeft, zN_or]
        unfold ok_S_bringDeed w_S_bringDeed w_D_lays ok_D_lays
        rw [hp3, zi_nat (by omega), u3, zi_nat (i := k) (by omega), t3, b3, e18, hof3.2.2.2.2.2, z1, ← hv, ix5, ix4, of5, ob3, es]
        simp only [zk_f]
        refine ⟨⟨⟨hpo.1, fun _ => ⟨i6, hpo.2.2.1⟩⟩, fun _ => ⟨q1, fun _ => ⟨k1, i6, fun _ => ⟨i6, zi_in hk (by omega), oA⟩⟩⟩⟩, ⟨hpo.2.2.2.1, fun _ => ⟨ho.2.2.2.2.1, fun _ => ⟨q2, fun _ => od, fun _ => ⟨fun _ => ⟨(zh_ok _ hp).2.2.2.2.2, iy5⟩, (zh_ok _ hp).2.2.2.2.1, iy4, lD.2⟩⟩⟩⟩, trivial, ?_⟩
        refine zY_up Y3 SG (fun a j x y z => ?_) (fun a j x y z => ?_)
        · rw [show (0 : Int32) = Int32.ofNat 0 from rfl, eA, zu_o (by omega), zu_o (by omega), zu_o (by omega), zu_o (by omega), zu_o (by omega)]
        · exact (lD.1.2.2.2.2.2.2 a j (by omega)).trans ((zu_o (by omega)).trans (zu_o (by omega)))
theorem zY_d2 {N0 R0 N R : zMem} {s : Nat} (h4 : s + 10 < 37) (hL : zc_Lw N0 37 (R0 195)) (h : zY N0 R0 s N R) (N1 R1 : zMem) : (zf_wk 1000 (g_S_passYear_1 N1 s) (kb_S_passYear_1 N1 s) 0 ((0 : Int32), N)) ∧ (zf_wk 1000 (g_D_passes_2 R1 true) (kb_D_passes_2 R1 true) 0 ((0 : Int32), R)) ∧ (zf_wh 1000 (g_S_passYear_1 N1 s) 0 ((0 : Int32), N)).1 = (zf_wh 1000 (g_D_passes_2 R1 true) 0 ((0 : Int32), R)).1 ∧ zY N0 R0 s (zf_wh 1000 (g_S_passYear_1 N1 s) 0 ((0 : Int32), N)).2 (zf_wh 1000 (g_D_passes_2 R1 true) 0 ((0 : Int32), R)).2 := by
  have key := zf_w2 (g := g_S_passYear_1 N1 s) (g' := g_D_passes_2 R1 true) (k := kb_S_passYear_1 N1 s) (k' := kb_D_passes_2 R1 true) (fun i a b => i ≤ 6 ∧ a.1 = b.1 ∧ zY N0 R0 s a.2 b.2) 6 (by
    intro i a b hP
    obtain ⟨hi, hab, hY⟩ := hP
    obtain ⟨n, n1, c1, c2, -⟩ := zY_n hY i hi
    unfold g_S_passYear_1 g_D_passes_2 kb_S_passYear_1 kb_D_passes_2
    rw [c1, c2]
    by_cases hc : n ≤ i
    · rw [decide_eq_true hc]
      simp only [zk_t]
      exact ⟨hi, (fun hh => by cases hh), (fun hh => by cases hh), (by first | rfl | trivial), (fun hh => by cases hh), fun _ => ⟨(by first | rfl | trivial), (by first | rfl | trivial)⟩⟩
    · rw [decide_eq_false hc]
      simp only [zk_f]
      have hi6 : i < 6 := by omega
      obtain ⟨t1, t2, t3, t4⟩ := zY_de h4 hL hY hi6 a.1
      rw [hab] at t3
      refine ⟨hi, fun _ => t1, fun _ => t2, (by first | rfl | trivial), fun _ => ⟨by omega, ?_, t4⟩, (fun hh => by cases hh)⟩
      rw [hab]
      exact t3) 1000 0 ((0 : Int32), N) ((0 : Int32), R) ⟨by omega, rfl, h⟩ (by omega)
  obtain ⟨⟨j, -, k0, k1⟩, k2, k3⟩ := key
  exact ⟨k2, k3, k0, k1⟩
/-- a year passes, on both sides -/
theorem zY_pass {N0 R0 N R : zMem} {s : Nat} (h4 : s + 10 < 37) (hL : zc_Lw N0 37 (R0 195)) (h : zY N0 R0 s N R) : ok_S_passYear N s ∧ ok_D_passes R true ∧ v_S_passYear N s = v_D_passes R true ∧ zY N0 R0 s (w_S_passYear N s) (w_D_passes R true) := by
  obtain ⟨a1, a2, a3⟩ := zY_old true h
  obtain ⟨b1, b2, b3, b4⟩ := zY_d2 h4 hL a3 N R
  obtain ⟨c1, c2, c3⟩ := zY_th2 b4 N R
  exact ⟨⟨a1, b1, c1⟩, ⟨a2, b2, c2⟩, b3, zY_end c3⟩
theorem zY_for {N0 R0 N R : zMem} {s : Nat} (h4 : s + 10 < 37) (hL : zc_Lw N0 37 (R0 195)) (h : zY N0 R0 s N R) (f : Nat → Int32 × zMem → Int32 × zMem) (f' : Nat → Int32 × zMem → Int32 × zMem) (hf : ∀ i a, f i a = ((a.1 + (v_S_passYear a.2 s)), (w_S_passYear a.2 s))) (hf' : ∀ i a, f' i a = ((a.1 + (v_D_passes a.2 true)), (w_D_passes a.2 true))) : ∀ n, (zf_for n f ((0 : Int32), N)).1 = (zf_for n f' ((0 : Int32), R)).1 ∧ zY N0 R0 s (zf_for n f ((0 : Int32), N)).2 (zf_for n f' ((0 : Int32), R)).2
  | 0 => ⟨rfl, h⟩
  | n + 1 => by
    obtain ⟨i1, i2⟩ := zY_for h4 hL h f f' hf hf' n
    show (f n (zf_for n f ((0 : Int32), N))).1 = (f' n (zf_for n f' ((0 : Int32), R))).1 ∧ zY N0 R0 s (f n (zf_for n f ((0 : Int32), N))).2 (f' n (zf_for n f' ((0 : Int32), R))).2
    rw [hf, hf']
    obtain ⟨p1, p2, p3, p4⟩ := zY_pass h4 hL i2
    refine ⟨?_, p4⟩
    show (zf_for n f ((0 : Int32), N)).1 + v_S_passYear (zf_for n f ((0 : Int32), N)).2 s = (zf_for n f' ((0 : Int32), R)).1 + v_D_passes (zf_for n f' ((0 : Int32), R)).2 true
    rw [i1, p3]
