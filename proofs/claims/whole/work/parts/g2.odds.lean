/-! call 34 -/
theorem zo34 : zo_34 zv_Inv := by
  intro M x y hI
  have hL : zc_Lw M 37 (M 195) := (zv_al hI).2.1
  rcases zg_p hI (M' := M) rfl x with ⟨p, hp, e, en, t, i⟩ | ⟨t, i⟩
  · subst e
    have hy : (v_D_isIn y 0 4 = true ∧ t_N_needYears y 4 = 0 ∧ ∃ n, n ≤ 4 ∧ y = Int32.ofNat n ∧ y.toNatClampNeg = n) ∨ (v_D_isIn y 0 4 = false ∧ t_N_needYears y 4 = 1) := by
      have e0 : (0 : Int32).toInt = 0 := by decide
      have e4 : (4 : Int32).toInt = 4 := by decide
      unfold t_N_needYears
      rw [zg_in, zi_lei y 4, zg_lt0, e0, e4]
      by_cases h1 : y.toInt < 0
      · rw [decide_eq_true h1, decide_eq_false (show ¬ (0 ≤ y.toInt ∧ y.toInt ≤ 4) by omega)]
        exact Or.inr ⟨rfl, rfl⟩
      · rw [decide_eq_false h1]
        by_cases h2 : y.toInt ≤ 4
        · rw [decide_eq_true h2, decide_eq_true (show 0 ≤ y.toInt ∧ y.toInt ≤ 4 by omega)]
          obtain ⟨n, n1, n2, n3⟩ := zr_ex (x := y) (hi := 4) ⟨by omega, h2⟩
          exact Or.inl ⟨rfl, rfl, n, by omega, n2, n3⟩
        · rw [decide_eq_false h2, decide_eq_false (show ¬ (0 ≤ y.toInt ∧ y.toInt ≤ 4) by omega)]
          exact Or.inr ⟨rfl, rfl⟩
    rcases hy with ⟨j, u, n, n1, n2, n3⟩ | ⟨j, u⟩
    · have W := zc_w (zv_St hI)
      obtain ⟨⟨c1, -, -⟩, c4, -⟩ := zL_asks W hL hp (by omega)
      have hpo := zh_pok (zv_St hI) hp
      have i6 : zz_in (Int32.ofNat p) 6 = true := zi_in hp (by omega)
      obtain ⟨N1, hN1⟩ : ∃ N, N = w_N_odds M (Int32.ofNat p) y := ⟨_, rfl⟩
      have fN : ∀ a k, a ≠ 42 → a ≠ 43 → N1 a k = M a k := by
        intro a k h1 h2
        rw [hN1]
        unfold w_N_odds
        simp only [t, u, zn_0, zk_t]
        cases v_S_awaitsDeed M 4 (Int32.ofNat p)
        · rw [zk_f]
        · rw [zk_t]; exact c4 a k h1 h2
      have r195 : N1 195 = M 195 := funext fun k => fN 195 k (by omega) (by omega)
      obtain ⟨B, hB⟩ : ∃ N, N = zz_up N1 194 0 0 := ⟨_, rfl⟩
      have fB : ∀ a k, ¬ (a = 194 ∧ k = 0) → B a k = N1 a k := fun a k hh => by rw [hB, zu_o hh]
      have B195 : B 195 = M 195 := by rw [← r195]; exact funext fun k => fB 195 k (by omega)
      have hi1 := (zi_one (Int32.ofNat p) N1 r195).trans i
      have haw : v_S_awaitsDeed M 4 (Int32.ofNat p) = (bif v_D_isPlain B (Int32.ofNat p) then false else (bif v_D_isOf (v_D_of B (Int32.ofNat p) 4) (v_D_deedOf B (Int32.ofNat p)) then false else true)) ∧ ok_S_awaitsDeed M 4 (Int32.ofNat p) := by
        have hS : zc_St M 4 (B 195) := by rw [B195]; exact zv_St hI
        unfold v_S_awaitsDeed v_S_hasDoneItsDeed ok_S_awaitsDeed ok_S_hasDoneItsDeed
        refine ⟨?_, hpo.1, fun _ => ⟨i6, hpo.2.2.1⟩⟩
        rcases zh_p hS hp with ⟨-, a, b, -⟩ | ⟨k, d, hk, hd, v, a, b, t', cc, e, -⟩
        · rw [a, b, zk_t, zk_t]
        · obtain ⟨bb, b1, b2⟩ := zh_dn hS hp
          rw [a, b, zk_f, zk_f, e, cc, (zh_of hS hp).2.2.2.2.1, zi_nat (by omega), b2, zN_isOf (by omega) (by omega), ← Nat.one_shiftLeft, ← zN_sl1 d (by omega), zN_bit (by omega) (by omega)]
          cases bb.testBit d <;> rfl
      have hok := zh_pok (M' := B) (show zc_St M 4 (B 195) by rw [B195]; exact zv_St hI) hp
      have key : (fun q : Int32 × zMem => q.1 = (bif v_S_awaitsDeed M 4 (Int32.ofNat p) then (zf_for n (f_N_odds_1 M (Int32.ofNat p) y) (10000 : Int32)) else (10000 : Int32)) ∧ q.2 195 = M 195 ∧ (∀ a k, a ≠ 200 → ¬ (a = 194 ∧ (k = 9 ∨ k = 10 ∨ k = 11 ∨ k = 13 ∨ k = 15 ∨ k = 16 ∨ k = 17 ∨ k = 18)) → q.2 a k = B a k) ∧ zz_b01 (q.2 194 15) = true ∧ zz_b01 (q.2 194 16) = true) (zf_wh 1000 (g_D_odds_1 N1 (Int32.ofNat p) y) 0 ((10000 : Int32), B)) ∧ zf_wk 1000 (g_D_odds_1 N1 (Int32.ofNat p) y) (kb_D_odds_1 N1 (Int32.ofNat p) y) 0 ((10000 : Int32), B) := by
        refine zf_wq (g := g_D_odds_1 N1 (Int32.ofNat p) y) (k := kb_D_odds_1 N1 (Int32.ofNat p) y) (fun k q => k ≤ n ∧ q.1 = zf_for k (f_N_odds_1 M (Int32.ofNat p) y) (10000 : Int32) ∧ (v_S_awaitsDeed M 4 (Int32.ofNat p) = false → k = 0) ∧ q.2 195 = M 195 ∧ (∀ a k, a ≠ 200 → ¬ (a = 194 ∧ (k = 9 ∨ k = 10 ∨ k = 11 ∨ k = 13 ∨ k = 15 ∨ k = 16 ∨ k = 17 ∨ k = 18)) → q.2 a k = B a k) ∧ zz_b01 (q.2 194 15) = true ∧ zz_b01 (q.2 194 16) = true) (fun q : Int32 × zMem => q.1 = (bif v_S_awaitsDeed M 4 (Int32.ofNat p) then (zf_for n (f_N_odds_1 M (Int32.ofNat p) y) (10000 : Int32)) else (10000 : Int32)) ∧ q.2 195 = M 195 ∧ (∀ a k, a ≠ 200 → ¬ (a = 194 ∧ (k = 9 ∨ k = 10 ∨ k = 11 ∨ k = 13 ∨ k = 15 ∨ k = 16 ∨ k = 17 ∨ k = 18)) → q.2 a k = B a k) ∧ zz_b01 (q.2 194 15) = true ∧ zz_b01 (q.2 194 16) = true) n (fun k q hq => ?_) 1000 0 ((10000 : Int32), B) ⟨by omega, rfl, fun _ => rfl, B195, fun _ _ _ _ => rfl, ?_, ?_⟩ (by omega)
        · obtain ⟨q1, q2, q3, q4, q5, q6, q7⟩ := hq
          have hLq : zc_Lw M 37 (q.2 195) := by rw [q4]; exact hL
          obtain ⟨⟨a1, a2, a3⟩, a4, a5, a6, -⟩ := zL_asks (M' := q.2) (show zc_W M 4 (q.2 195) by rw [q4]; exact W) hLq hp (by omega)
          have ec : decide (y ≤ Int32.ofNat k) = decide (n ≤ k) := by rw [n2]; exact zi_le (by omega) (by omega)
          unfold g_D_odds_1 kb_D_odds_1
          simp only [hi1, j, zk_t]
          rw [← hB, ← haw.1, ec]
          by_cases hc : n ≤ k
          · rw [decide_eq_true hc]
            simp only [zk_t]
            refine ⟨q1, (fun hh => by cases hh), (fun hh => by cases hh), fun _ => ⟨?_, q4, q5, q6, q7⟩⟩
            have : k = n := by omega
            cases hw : v_S_awaitsDeed M 4 (Int32.ofNat p) with
            | true => rw [zk_t, q2, this]
            | false => rw [zk_f, q2, q3 hw]; rfl
          · rw [decide_eq_false hc]
            simp only [zk_f]
            cases hw : v_S_awaitsDeed M 4 (Int32.ofNat p) with
            | true =>
              simp only [zk_t]
              unfold ok_D_comesOf w_D_comesOf v_D_comesOf
              refine ⟨q1, fun _ _ => a2, fun _ => ⟨by omega, ?_, (fun hh => by cases hh), ?_, ?_, a6 q6 q7⟩, (fun hh => by cases hh)⟩
              · rw [q2, ← a3]; rfl
              · rw [← q4]; exact funext fun z => a5 195 z (by omega) (by omega)
              · intro a z h1 h2
                rw [a5 a z h1 h2]; exact q5 a z h1 h2
            | false =>
              simp only [zk_f]
              refine ⟨q1, (fun _ hh => by cases hh), (fun hh => by cases hh), fun _ => ⟨?_, q4, q5, q6, q7⟩⟩
              rw [q2, q3 hw]; rfl
        · show zz_b01 (B 194 15) = true
          rw [fB 194 15 (by omega), fN 194 15 (by omega) (by omega)]; exact hI.2.1
        · show zz_b01 (B 194 16) = true
          rw [fB 194 16 (by omega), fN 194 16 (by omega) (by omega)]; exact hI.2.2
      obtain ⟨⟨k1, k2, k3, k4, k5⟩, k6⟩ := key
      rw [← hN1]
      unfold ok_N_odds t_N_odds ok_D_odds v_N_odds v_D_odds w_D_odds
      simp only [t, u, hi1, j, zn_0, zk_t, zd_0]
      rw [← hB, n3]
      refine ⟨fun _ _ => ⟨haw.2, fun _ => c1⟩, fun k => fN 0 k (by omega) (by omega), Or.inl trivial, fun _ => ⟨hok.2.1, fun _ => ⟨(zh_ok B hp).2.2.2.2.1, hok.2.2.2.1⟩, k6⟩, ?_, fun _ => k1.symm, ?_⟩
      · unfold v_D_thrown
        refine (k3 194 0 (by omega) (by omega)).trans ?_
        rw [hB, zu_eq]; rfl
      · refine zv_mk (zc_AllC (fun a k hs => ?_) (zv_al hI)) k4 k5
        obtain ⟨z1, z2, z3⟩ := zs_o hs
        rw [k3 a k (by omega) (by omega), fB a k (by omega)]
        exact fN a k (by omega) (by omega)
    · unfold ok_N_odds t_N_odds ok_D_odds v_N_odds v_D_odds w_D_odds w_N_odds
      have zn1 : Nat.beq 1 0 = false := rfl
      simp only [t, u, zn_0, zn1, zk_f, zk_t, i, j, zd_2]
      exact ⟨fun _ => (fun h => by cases h), fun _ => (by first | rfl | trivial), Or.inr (Or.inr (by first | rfl | trivial)), (fun h => by cases h), (by first | rfl | trivial), (fun h => by cases h), zv_th hI _⟩
  · unfold ok_N_odds t_N_odds ok_D_odds v_N_odds v_D_odds w_D_odds w_N_odds
    simp only [t, i, zn_3, zk_f, zd_1]
    exact ⟨(fun h => by cases h), fun _ => (by first | rfl | trivial), Or.inr (Or.inl (by first | rfl | trivial)), (fun h => by cases h), (by first | rfl | trivial), (fun h => by cases h), zv_th hI _⟩
