/-! calls 26, 28 -/
theorem zev : ∀ n, n ≤ 6 → zsl (1 : Int32) (Int32.ofNat n) - (1 : Int32) = Int32.ofNat (2 ^ n - 1) ∧ (zsl (1 : Int32) (Int32.ofNat n)).toNatClampNeg = 2 ^ n := by decide +kernel
theorem zp2 {n : Nat} (hn : n ≤ 6) : 2 ^ n ≤ 64 ∧ 0 < 2 ^ n := ⟨Nat.pow_le_pow_right (n := 2) (i := n) (j := 6) (by omega) hn, Nat.pow_pos (by omega)⟩
theorem zo26 : zo_26 zv_Inv := by
  intro M x hI
  have h := zq_h M 0
  have hS : zc_St M 4 ((zz_up M 194 0 0) 195) := zv_St hI
  obtain ⟨n, hn, n1, n2, n3, n4⟩ := zq_n hI
  obtain ⟨p1, p2⟩ := zp2 hn
  have ev : v_S_everybody M 4 = Int32.ofNat (2 ^ n - 1) := by
    unfold v_S_everybody
    rw [n3]; exact (zev n hn).1
  unfold ok_N_crew v_N_crew v_G_fewestTellers ok_G_fewestTellers v_D_crew ok_D_crew
  rw [n4, (zev n hn).2]
  have hlt : ∀ i, i ≤ 2 ^ n → decide (v_S_everybody M 4 < Int32.ofNat i) = decide (2 ^ n ≤ i) := by
    intro i hi
    rw [ev, zi_lti, zi_val (by omega), zi_val (by omega)]
    exact decide_eq_decide.mpr (by omega)
  have tb := fun (i : Nat) (hi : i < 2 ^ n) => zh_tb hS (g := i) (by omega)
  have key := zf_wf (g := g_G_fewestTellers_1 M (x &&& (255 : Int32))) (f := fun i a1 => (bif (bif (decide (a1 = (-1 : Int32))) then true else (bif (decide ((v_ji_bitCount a1) ≤ (v_ji_bitCount (Int32.ofNat i)))) then false else true)) then (bif (decide (((x &&& (255 : Int32)) &&& ((v_S_toldByGroup M 4 (Int32.ofNat i)) ^^^ (-1 : Int32))) = 0)) then (Int32.ofNat i) else a1) else a1)) (k := kb_G_fewestTellers_1 M (x &&& (255 : Int32))) (n := 2 ^ n) (a := (-1 : Int32)) (fun i a hi => by
      unfold g_G_fewestTellers_1
      rw [hlt i (by omega), decide_eq_false (show ¬ 2 ^ n ≤ i by omega), zk_f, zk_f]) (fun a => by
      unfold g_G_fewestTellers_1
      rw [hlt _ (Nat.le_refl _), decide_eq_true (Nat.le_refl _), zk_t, zk_t]) (fun i a hi => by
      unfold kb_G_fewestTellers_1
      rw [hlt i hi]
      intro hd _
      exact (tb i (by have := of_decide_eq_false hd; omega)).2.1) 1000 0 (by omega) (by omega)
  have sim : zf_for (2 ^ n) (fun i (a1 : Int32) => (bif (bif (decide (a1 = (-1 : Int32))) then true else (bif (decide ((v_ji_bitCount a1) ≤ (v_ji_bitCount (Int32.ofNat i)))) then false else true)) then (bif (decide (((x &&& (255 : Int32)) &&& ((v_S_toldByGroup M 4 (Int32.ofNat i)) ^^^ (-1 : Int32))) = 0)) then (Int32.ofNat i) else a1) else a1)) (-1) = zf_for (2 ^ n) (f_D_crew_1 M x) (-1) ∧ (zf_for (2 ^ n) (f_D_crew_1 M x) (-1) = -1 ∨ ∃ b, b < 64 ∧ zf_for (2 ^ n) (f_D_crew_1 M x) (-1) = Int32.ofNat b) := by
    refine zf_sim (fun _ (u v : Int32) => u = v ∧ (v = -1 ∨ ∃ b, b < 64 ∧ v = Int32.ofNat b)) (2 ^ n) ⟨rfl, Or.inl rfl⟩ (fun i u v hi ⟨e, hv⟩ => ?_)
    subst e
    have r64 : ∀ b, b < 64 → v_ji_bitCount (Int32.ofNat b) = v_D_bits (Int32.ofNat b) := fun b hb => zN_count ⟨by rw [zi_val (by omega)]; omega, by rw [zi_val (by omega)]; omega⟩
    unfold f_D_crew_1
    rw [(tb i hi).1, r64 i (by omega)]
    by_cases c : u = -1
    · rw [decide_eq_true c, zk_t, zk_t, zk_t]
      refine ⟨rfl, ?_⟩
      cases decide ((x &&& 255) &&& (v_D_toldBy (zz_up M 194 0 0) (Int32.ofNat i) ^^^ -1) = 0) with
      | true => rw [zk_t]; exact Or.inr ⟨i, by omega, rfl⟩
      | false => rw [zk_f]; exact hv
    · rw [decide_eq_false c, zk_f, zk_f]
      rcases hv with hv | ⟨b, hb, eb⟩
      · exact absurd hv c
      · rw [show v_ji_bitCount u = v_D_bits u by rw [eb]; exact r64 b hb]
        cases decide (v_D_bits u ≤ v_D_bits (Int32.ofNat i)) with
        | true =>
          rw [zk_t, zk_t, zk_f]
          exact ⟨rfl, Or.inr ⟨b, hb, eb⟩⟩
        | false =>
          rw [zk_f, zk_f, zk_t]
          refine ⟨rfl, ?_⟩
          cases decide ((x &&& 255) &&& (v_D_toldBy (zz_up M 194 0 0) (Int32.ofNat i) ^^^ -1) = 0) with
          | true => rw [zk_t]; exact Or.inr ⟨i, by omega, rfl⟩
          | false => rw [zk_f]; exact Or.inr ⟨b, hb, eb⟩
  refine ⟨key.2, fun i hi => ⟨fun _ => (tb i hi).2.2.1, fun _ _ => (tb i hi).2.2.1⟩, ?_, zv_th hI 0⟩
  exact key.1.trans sim.1
/-- deeds told by all kinds -/
theorem zh_dk {N M' : zMem} {s g : Nat} (hS : zc_St N s (M' 195)) (hg : g < 2147483648) : ∃ A, A < 256 ∧ v_S_deedsOfKinds N s (Int32.ofNat g) = Int32.ofNat A ∧ ∀ d, A.testBit d = true ↔ ∃ k, k < 8 ∧ g.testBit k = true ∧ N (s + 2) k = Int32.ofNat d ∧ d < 8 := by
  have ht : ∀ k, k < 8 → ∃ d, d < 8 ∧ N (s + 2) k = Int32.ofNat d ∧ (N (s + 2) k).toNatClampNeg = d := fun k hk => by
    obtain ⟨d, d1, d2, d3⟩ := zr_ex (hS.1 k hk).2.2.1
    exact ⟨d, by omega, d2, d3⟩
  obtain ⟨A, a1, a2, a3⟩ := zor (fun i => g.testBit i) (fun i => (N (s + 2) i).toNatClampNeg) 8 8 (fun i hi _ => by
    obtain ⟨d, d1, d2, d3⟩ := ht i hi
    show (N (s + 2) i).toNatClampNeg < 8
    omega)
  refine ⟨A, a1, ?_, fun d => ?_⟩
  · rw [← a2]
    unfold v_S_deedsOfKinds
    refine zf_cg 8 _ fun i hi a => ?_
    unfold f_S_deedsOfKinds_1
    obtain ⟨d, d1, d2, d3⟩ := ht i hi
    rw [zN_d0 g i hg (by omega), d3, d2, zN_sl1 d (by omega), Nat.one_shiftLeft]
    cases g.testBit i
    · rw [Bool.not_false, zk_t, zk_f, zx_or]
    · rw [Bool.not_true, zk_f, zk_t]
  · rw [a3]
    refine ⟨fun ⟨i, b1, b2, b3⟩ => ?_, fun ⟨k, b1, b2, b3, b4⟩ => ⟨k, b1, b2, ?_⟩⟩
    · obtain ⟨d', d1, d2, d3⟩ := ht i b1
      have b3 : (N (s + 2) i).toNatClampNeg = d := b3
      exact ⟨i, b1, b2, by rw [d2, ← b3, d3], by omega⟩
    · show (N (s + 2) k).toNatClampNeg = d
      rw [b3, zi_nat (by omega)]
theorem zh_tl {N M' : zMem} {s d : Nat} (hS : zc_St N s (M' 195)) : (v_D_tellersOf M' (Int32.ofNat d) = 0 ↔ ¬ ∃ k, k < 8 ∧ N (s + 2) k = Int32.ofNat d) ∧ ok_D_tellersOf M' (Int32.ofNat d) := by
  obtain ⟨A, a1, a2, a3⟩ := zor (fun i => decide (N (s + 2) i = Int32.ofNat d)) (fun i => i) 8 8 (fun i hi _ => hi)
  have e : v_D_tellersOf M' (Int32.ofNat d) = Int32.ofNat A := by
    rw [← a2]
    unfold v_D_tellersOf
    refine zf_cg 8 _ fun i hi a => ?_
    unfold f_D_tellersOf_1
    rw [(zh_kd hS hi).2.1, zN_sl1 i (by omega), Nat.one_shiftLeft]
  refine ⟨?_, fun i hi => (zh_kok M' hi).2.1⟩
  rw [e, show (0 : Int32) = Int32.ofNat 0 from rfl, zN_inj (by omega) (by omega)]
  refine ⟨fun h => ?_, fun h => ?_⟩
  · rintro ⟨k, k1, k2⟩
    have := (a3 k).mpr ⟨k, k1, decide_eq_true k2, rfl⟩
    rw [h, Nat.zero_testBit] at this
    cases this
  · apply Nat.eq_of_testBit_eq
    intro i
    rw [Nat.zero_testBit]
    cases hb : A.testBit i with
    | false => rfl
    | true =>
      obtain ⟨k, k1, k2, -⟩ := (a3 i).mp hb
      exact absurd ⟨k, k1, of_decide_eq_true k2⟩ h
theorem zr_nn {b : Nat} (hb : b ≤ 65535) : zrg 0 65535 (Int32.ofNat b) := ⟨by rw [zi_val (by omega)]; omega, by rw [zi_val (by omega)]; omega⟩
theorem zq_pn {M : zMem} (hI : zv_Inv M) : zrg 0 65535 (v_S_plainOnes M 4) := by
  obtain ⟨n, hn, n1, n2, n3, n4⟩ := zq_n hI
  unfold v_S_plainOnes
  rw [n1]
  refine zf_ind (fun _ a => zrg 0 65535 a) n ⟨by decide, by decide⟩ (fun i a hi ha => ?_)
  unfold f_S_plainOnes_1
  cases v_S_isPlain M 4 (Int32.ofNat i) with
  | false => rw [zk_f]; exact ha
  | true =>
    rw [zk_t, zN_sl1 i (by omega), Nat.one_shiftLeft]
    refine zr_or ha (zr_nn ?_)
    have : 2 ^ i ≤ 2 ^ 6 := Nat.pow_le_pow_right (by omega) (by omega)
    omega
theorem zo28 : zo_28 zv_Inv := by
  intro M x hI
  have h := zq_h M 0
  have hS : zc_St M 4 ((zz_up M 194 0 0) 195) := zv_St hI
  obtain ⟨n, hn, n1, n2, n3, n4⟩ := zq_n hI
  obtain ⟨p1, p2⟩ := zp2 hn
  have ev : v_S_everybody M 4 = Int32.ofNat (2 ^ n - 1) := by
    unfold v_S_everybody
    rw [n3]; exact (zev n hn).1
  obtain ⟨b1, b2, b3, A, a1, a2⟩ := zh_tb hS (g := 2 ^ n - 1) (by omega)
  obtain ⟨X, x1, x2⟩ := zN_255 x
  obtain ⟨C, c1, c2, c3⟩ := zN_not x1 a1
  obtain ⟨D, d1, d2, d3⟩ := zh_dk hS (g := 255) (by omega)
  obtain ⟨E, e1, e2, e3⟩ := zN_not c1 d1
  obtain ⟨pl1, pl2, pl3⟩ := zq_plain hI h
  unfold ok_N_inks ok_D_inks v_N_inks v_D_inks
  rw [n4, (zev n hn).1, ev, b1, a2, x2, c2, show (255 : Int32) = Int32.ofNat 255 from rfl, d2, e2, zN_count (zr_nn (b := C) (by omega)), zN_count (zq_pn hI), pl3]
  have fd : ∀ i (a : Bool), i < 8 → f_D_inks_1 M x i a = (bif a then (bif C.testBit i then (bif decide (v_D_tellersOf (zz_up M 194 0 0) (Int32.ofNat i) = 0) then false else true) else true) else false) := by
    intro i a hi
    unfold f_D_inks_1
    rw [n4, (zev n hn).1, a2, x2, c2, zN_isOf (by omega) (by omega)]
  have loop : ∀ (a : Bool), zf_for 8 (f_D_inks_1 M x) a = (a && decide (E = 0)) := by
    intro a
    have key : ∀ m, m ≤ 8 → (zf_for m (f_D_inks_1 M x) a = true ↔ a = true ∧ ∀ i, i < m → E.testBit i = false) := by
      intro m
      induction m with
      | zero => intro _; exact ⟨fun hh => ⟨hh, fun i hi => by omega⟩, fun hh => hh.1⟩
      | succ m ih =>
        intro hm
        show f_D_inks_1 M x m (zf_for m (f_D_inks_1 M x) a) = true ↔ _
        rw [fd m _ (by omega)]
        have ih := ih (by omega)
        have hE : (bif C.testBit m then (bif decide (v_D_tellersOf (zz_up M 194 0 0) (Int32.ofNat m) = 0) then false else true) else true) = !E.testBit m := by
          rw [e3]
          cases hc : C.testBit m with
          | false => rfl
          | true =>
            rw [zk_t, Bool.true_and, Bool.not_not]
            by_cases ht : v_D_tellersOf (zz_up M 194 0 0) (Int32.ofNat m) = 0
            · rw [decide_eq_true ht, zk_t]
              cases hd : D.testBit m with
              | false => rfl
              | true =>
                obtain ⟨k, k1, -, k3, -⟩ := (d3 m).mp hd
                exact absurd ⟨k, k1, k3⟩ ((zh_tl hS).1.mp ht)
            · rw [decide_eq_false ht, zk_f]
              cases hd : D.testBit m with
              | true => rfl
              | false =>
                exfalso
                apply ht
                refine (zh_tl hS).1.mpr ?_
                rintro ⟨k, k1, k2⟩
                have : D.testBit m = true := (d3 m).mpr ⟨k, k1, by rw [show (255 : Nat) = 2 ^ 8 - 1 from rfl, Nat.testBit_two_pow_sub_one]; exact decide_eq_true k1, k2, by omega⟩
                rw [hd] at this
                cases this
        rw [hE]
        cases hz : zf_for m (f_D_inks_1 M x) a with
        | false =>
          rw [zk_f]
          refine ⟨(fun hh => by cases hh), fun ⟨q1, q2⟩ => ?_⟩
          rw [← hz]
          exact ih.mpr ⟨q1, fun i hi => q2 i (by omega)⟩
        | true =>
          obtain ⟨q1, q2⟩ := ih.mp hz
          rw [zk_t]
          refine ⟨fun hh => ⟨q1, fun i hi => ?_⟩, fun hh => by rw [hh.2 m (by omega)]; rfl⟩
          by_cases e : i = m
          · subst e
            cases he : E.testBit i with
            | false => rfl
            | true => rw [he] at hh; cases hh
          · exact q2 i (by omega)
    have hz : E = 0 ↔ ∀ i, i < 8 → E.testBit i = false := by
      refine ⟨fun hh i _ => by rw [hh, Nat.zero_testBit], fun hh => ?_⟩
      apply Nat.eq_of_testBit_eq
      intro i
      rw [Nat.zero_testBit]
      by_cases hi : i < 8
      · exact hh i hi
      · exact Nat.testBit_lt_two_pow (Nat.lt_of_lt_of_le e1 (Nat.pow_le_pow_right (n := 2) (i := 8) (by omega) (by omega)))
    apply Bool.eq_iff_iff.mpr
    rw [key 8 (by omega), Bool.and_eq_true, decide_eq_true_iff, hz]
  rw [loop, show decide (Int32.ofNat E = 0) = decide (E = 0) from zN_eq (a := E) (b := 0) (by omega) (by omega)]
  refine ⟨⟨b2, fun _ => pl1⟩, ⟨b3, pl2, fun i hi _ _ => (zh_tl hS).2⟩, ?_, zv_th hI 0⟩
  cases decide (E = 0)
  · rw [Bool.and_false, zk_f, zk_f]
  · rw [Bool.and_true, zk_t]
    cases decide (v_D_bits (v_D_plainOnes (zz_up M 194 0 0)) < v_D_bits (Int32.ofNat C))
    · rw [zk_f, zk_f, zk_t]
    · rw [zk_t, zk_t, zk_f]
