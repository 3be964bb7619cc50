/-- one round of pairs -/
theorem zq_nx {n L : Nat} {d : Nat → Nat → Int32} {t : Nat → Int32} {f : Nat → Int32} (hn : n ≤ 6) (h0 : L ≠ 0) (hL : L < 2 ^ n) (hA : zqA n d t L (f L)) : (Int32.ofNat (2 ^ n - 1 - L)) ||| ((zsl (1 : Int32) (Int32.ofNat (zpl L))) ||| (bif decide (f L = (-1 : Int32)) then (0 : Int32) else (zsl (1 : Int32) (f L)))) = Int32.ofNat (2 ^ n - 1 - zqN f L) ∧ (bif decide (f L = (-1 : Int32)) then Int32.ofNat (L - 2 ^ zpl L) else (Int32.ofNat (L - 2 ^ zpl L) &&& ((zsl (1 : Int32) (f L)) ^^^ (-1 : Int32)))) = Int32.ofNat (zqN f L) ∧ ∀ q, q < zpl L + 1 → (zqN f L).testBit q = false := by
  have h64 := z264 hn
  have hL6 : L < 64 := by omega
  obtain ⟨t1, t2, t3⟩ := zq_t1 L hL6 h0
  have tn := (zq_t5 n (by omega) L hL).1 h0
  obtain ⟨u1, u2, u3, u4⟩ := zq_t2 L hL6 (zpl L) t1 t2
  have hF := zqA_f hA
  unfold zqN
  generalize zpl L = p at t1 t2 t3 tn u1 u2 u3 u4 hF ⊢
  have hl6 : L - 2 ^ p < 64 := Nat.lt_of_le_of_lt (Nat.sub_le _ _) hL6
  have hp31 : p < 31 := Nat.lt_trans t1 (by decide)
  have ep : zsl (1 : Int32) (Int32.ofNat p) = Int32.ofNat (2 ^ p) := by rw [zN_sl1 p hp31, Nat.one_shiftLeft]
  have low : ∀ q, q < p + 1 → (L - 2 ^ p).testBit q = false := fun q hq => by
    by_cases e : q = p
    · rw [e]; exact u3
    · rw [u4 q (by clear u1 hl6; omega) e]; exact t3 q (by clear u1 hl6; omega)
  rcases hF with h | ⟨q, q0, q1, q2, q3⟩
  · rw [decide_eq_true h, zk_t, zk_t, zk_t, ep]
    refine ⟨?_, rfl, low⟩
    have e1 : Int32.ofNat (2 ^ p) ||| (0 : Int32) = Int32.ofNat (2 ^ p) := (zN_or _ 0).trans (by rw [Nat.or_zero])
    rw [e1, zN_or, (zq_t3 n (by omega) L hL p tn).2 t2]
  · have hq6 : q < 6 := by clear u1 hl6; omega
    have hqp : q ≠ p := Nat.ne_of_gt q0
    have hq31 : q < 31 := Nat.lt_trans hq6 (by decide)
    have eq : zsl (1 : Int32) (Int32.ofNat q) = Int32.ofNat (2 ^ q) := by rw [zN_sl1 q hq31, Nat.one_shiftLeft]
    obtain ⟨w1, w2, w3, w4⟩ := zq_t2 (L - 2 ^ p) hl6 q hq6 (by rw [u4 _ hq6 hqp]; exact q3)
    rw [q2, decide_eq_false (zne1 (Nat.lt_trans hq6 (by decide))), zk_f, zk_f, zk_f, zi_nat (Nat.lt_trans hq6 (by decide))]
    refine ⟨?_, w2, fun r hr => ?_⟩
    · rw [ep, eq, zN_or, zN_or, (zq_t4 n (by omega) L hL p tn q q1 t2 hqp.symm).2 q3]
    · rw [w4 r (by clear u1 hl6 w1; omega) (by clear u1 hl6 w1; omega)]
      exact low r hr
/-- the class's answer -/
theorem zq_co {W : zMem} {n : Nat} {d : Nat → Nat → Int32} {t : Nat → Int32} (x0 : Int32) (hC : zqC W n d) (hW : ∀ L, L < 2 ^ n → W 193 (2 ^ n - 1 - L) = t L) (hz : ∀ L : Nat, L < 2 ^ n → zrg 0 (31 * (L : Int)) (t L)) : zqQ (fun L => v_G_firstPartner W (Int32.ofNat (2 ^ n - 1 - L)) (Int32.ofNat (zpl L))) (2 ^ n - 1) x0 (zf_wh 1000 (g_G_partner_1 W x0) 0 ((0 : Int32), false, 0)).2.1 (zf_wh 1000 (g_G_partner_1 W x0) 0 ((0 : Int32), false, 0)).2.2 ∧ zf_wk 1000 (g_G_partner_1 W x0) (kb_G_partner_1 W x0) 0 ((0 : Int32), false, 0) := by
  have hn := hC.1
  have h10 := hC.2.1
  have h64 := z264 hn
  have hpos : 0 < 2 ^ n := Nat.pow_pos (by omega)
  have hcf := fun L h0 hL => zq_cf (L := L) hC h0 hL hW hz
  obtain ⟨f, hf⟩ : ∃ f : Nat → Int32, f = (fun L => v_G_firstPartner W (Int32.ofNat (2 ^ n - 1 - L)) (Int32.ofNat (zpl L))) := ⟨_, rfl⟩
  have hfL : ∀ L, v_G_firstPartner W (Int32.ofNat (2 ^ n - 1 - L)) (Int32.ofNat (zpl L)) = f L := fun L => by rw [hf]
  rw [← hf]
  refine zf_wq (g := g_G_partner_1 W x0) (k := kb_G_partner_1 W x0) (fun i (s : Int32 × Bool × Int32) => i ≤ n ∧ ∃ k, s.1 = Int32.ofNat (2 ^ n - 1 - zqI f (2 ^ n - 1) k) ∧ (∀ q, q < i → (zqI f (2 ^ n - 1) k).testBit q = false) ∧ ∀ j, j < k → ¬ zqH f (2 ^ n - 1) x0 j) (fun (s : Int32 × Bool × Int32) => zqQ f (2 ^ n - 1) x0 s.2.1 s.2.2) n (fun i s ⟨hi, k, k1, k2, k3⟩ => ?_) 1000 0 ((0 : Int32), false, 0) ⟨by omega, 0, ?_, fun q hq => by omega, fun j hj => by omega⟩ (by omega)
  · obtain ⟨L, hLe⟩ : ∃ L, L = zqI f (2 ^ n - 1) k := ⟨_, rfl⟩
    have hLle := zqI_le f (2 ^ n - 1) k
    rw [← hLe] at k1 k2 hLle
    have hL : L < 2 ^ n := by omega
    have ec : decide ((W 4 10) ≤ (Int32.ofNat i)) = decide (n ≤ i) := by rw [h10]; exact zi_le (by omega) (by omega)
    by_cases hc : n ≤ i
    · rw [decide_eq_true hc] at ec
      have eg : g_G_partner_1 W x0 i s = (false, (s.1, false, s.2.2)) := by
        unfold g_G_partner_1
        rw [ec, zk_t, zk_t, zk_t, zk_t]
      have ek : kb_G_partner_1 W x0 i s := by
        unfold kb_G_partner_1
        rw [ec]
        exact fun h => by cases h
      rw [eg]
      refine ⟨hi, ek, (fun h => by cases h), fun _ => Or.inl ⟨rfl, fun j => ?_⟩⟩
      have hL0 : L = 0 := (zq_t5 n (by omega) L hL).2 (fun q hq => k2 q (by omega))
      by_cases hj : j < k
      · exact k3 j hj
      · intro hh
        exact hh.1 (zqI_0 (hLe.symm.trans hL0) j (by omega))
    · rw [decide_eq_false hc] at ec
      have eb : decide (((zsr s.1 (Int32.ofNat i)) &&& (1 : Int32)) = 0) = L.testBit i := by
        rw [k1, zN_d0 _ i (by omega) (by omega), (zq_t3 n (by omega) L hL i (by omega)).1, Bool.not_not]
      cases hb : L.testBit i with
      | false =>
        rw [hb] at eb
        have eg : g_G_partner_1 W x0 i s = (true, (s.1, false, s.2.2)) := by
          unfold g_G_partner_1
          rw [ec, eb]
          simp only [zk_f]
        have ek : kb_G_partner_1 W x0 i s := by
          unfold kb_G_partner_1
          rw [eb]
          exact fun _ h => by cases h
        rw [eg]
        refine ⟨hi, ek, fun _ => ⟨by omega, k, ?_, ?_, k3⟩, (fun h => by cases h)⟩
        · show s.1 = _
          rw [← hLe]; exact k1
        · rw [← hLe]
          intro q hq
          by_cases e : q = i
          · rw [e]; exact hb
          · exact k2 q (by omega)
      | true =>
        rw [hb] at eb
        obtain ⟨h0, hp⟩ := zpl_i (show L < 64 by omega) (show i < 6 by omega) hb k2
        obtain ⟨cA, cok⟩ := hcf L h0 hL
        rw [hfL L] at cA
        have ef : v_G_firstPartner W s.1 (Int32.ofNat i) = f L := by rw [k1, ← hp]; exact hfL L
        obtain ⟨x1, -, x3⟩ := zq_nx hn h0 hL cA
        rw [hp] at x1 x3 cok
        have ek : kb_G_partner_1 W x0 i s := by
          unfold kb_G_partner_1
          rw [k1]
          exact fun _ _ => cok
        by_cases hx : Int32.ofNat i = x0
        · have eg : g_G_partner_1 W x0 i s = (false, (s.1, true, f L)) := by
            unfold g_G_partner_1
            rw [ec, eb, ef, decide_eq_true hx]
            simp only [zk_f, zk_t]
          rw [eg]
          refine ⟨hi, ek, (fun h => by cases h), fun _ => Or.inr ⟨rfl, k, ⟨by rw [← hLe]; exact h0, Or.inl (by rw [← hLe, hp]; exact hx)⟩, k3, ?_⟩⟩
          show f L = _
          rw [← hLe, hp, decide_eq_true hx, zk_t]
        · by_cases hy : f L = x0
          · have eg : g_G_partner_1 W x0 i s = (false, (s.1, true, Int32.ofNat i)) := by
              unfold g_G_partner_1
              rw [ec, eb, ef, decide_eq_false hx, decide_eq_true hy]
              simp only [zk_f, zk_t]
            rw [eg]
            refine ⟨hi, ek, (fun h => by cases h), fun _ => Or.inr ⟨rfl, k, ⟨by rw [← hLe]; exact h0, Or.inr (by rw [← hLe]; exact hy)⟩, k3, ?_⟩⟩
            show Int32.ofNat i = _
            rw [← hLe, hp, decide_eq_false hx, zk_f]
          · have eg : g_G_partner_1 W x0 i s = (true, (Int32.ofNat (2 ^ n - 1 - zqN f L), false, s.2.2)) := by
              unfold g_G_partner_1
              rw [ec, eb, ef, decide_eq_false hx, decide_eq_false hy, k1, x1]
              simp only [zk_f, zk_t]
            rw [eg]
            refine ⟨hi, ek, fun _ => ⟨by omega, k + 1, ?_, ?_, fun j hj => ?_⟩, (fun h => by cases h)⟩
            · show Int32.ofNat (2 ^ n - 1 - zqN f L) = Int32.ofNat (2 ^ n - 1 - zqN f (zqI f (2 ^ n - 1) k))
              rw [← hLe]
            · show ∀ q, q < i + 1 → (zqN f (zqI f (2 ^ n - 1) k)).testBit q = false
              rw [← hLe]
              exact x3
            · by_cases e : j = k
              · rw [e]
                intro hh
                unfold zqH at hh
                rw [← hLe, hp] at hh
                rcases hh.2 with a | a
                · exact hx a
                · exact hy a
              · exact k3 j (by omega)
  · show (0 : Int32) = Int32.ofNat (2 ^ n - 1 - (2 ^ n - 1))
    rw [Nat.sub_self]
    rfl
/-- the reference's answer -/
theorem zq_ro {N W : zMem} {n : Nat} {t : Nat → Int32} {f : Nat → Int32} (x0 : Int32) (hn : n ≤ 6) (h3 : (zqZ W x0) 195 3 = Int32.ofNat n) (hS : zc_St N 4 ((zqZ W x0) 195)) (hZ : ∀ L, L < 2 ^ n → (zqZ W x0) 203 L = t L) (hA : ∀ L, L ≠ 0 → L < 2 ^ n → zqA n (fun p q => v_D_apart (zqZ W x0) (Int32.ofNat p) (Int32.ofNat q)) t L (f L)) : zqQ f (2 ^ n - 1) x0 (zf_wh 1000 (g_D_pairs_1 W x0) 0 (Int32.ofNat (2 ^ n - 1), false, 0)).2.1 (zf_wh 1000 (g_D_pairs_1 W x0) 0 (Int32.ofNat (2 ^ n - 1), false, 0)).2.2 ∧ zf_wk 1000 (g_D_pairs_1 W x0) (kb_D_pairs_1 W x0) 0 (Int32.ofNat (2 ^ n - 1), false, 0) := by
  have h64 := z264 hn
  have hpos : 0 < 2 ^ n := Nat.pow_pos (by omega)
  refine zf_wq (g := g_D_pairs_1 W x0) (k := kb_D_pairs_1 W x0) (fun i (s : Int32 × Bool × Int32) => s.1 = Int32.ofNat (zqI f (2 ^ n - 1) i) ∧ zqI f (2 ^ n - 1) i + i ≤ 2 ^ n - 1 ∧ ∀ j, j < i → ¬ zqH f (2 ^ n - 1) x0 j) (fun (s : Int32 × Bool × Int32) => zqQ f (2 ^ n - 1) x0 s.2.1 s.2.2) (2 ^ n - 1) (fun i s ⟨k1, k2, k3⟩ => ?_) 1000 0 (Int32.ofNat (2 ^ n - 1), false, 0) ⟨rfl, by show 2 ^ n - 1 + 0 ≤ _; omega, fun j hj => by omega⟩ (by omega)
  obtain ⟨L, hLe⟩ : ∃ L, L = zqI f (2 ^ n - 1) i := ⟨_, rfl⟩
  rw [← hLe] at k1 k2
  have hL : L < 2 ^ n := by omega
  have hi : i ≤ 2 ^ n - 1 := by omega
  have ez : decide (s.1 = 0) = decide (L = 0) := by rw [k1]; exact zN_eq (b := 0) (by omega) (by omega)
  by_cases h0 : L = 0
  · rw [decide_eq_true h0] at ez
    have eg : g_D_pairs_1 W x0 i s = (false, (s.1, false, s.2.2)) := by
      rw [zp1e, ez, zk_t, zk_t, zk_t, zk_t]
    have ek : kb_D_pairs_1 W x0 i s := by
      rw [zp1k, ez]
      exact fun h => by cases h
    rw [eg]
    refine ⟨hi, ek, (fun h => by cases h), fun _ => Or.inl ⟨rfl, fun j => ?_⟩⟩
    by_cases hj : j < i
    · exact k3 j hj
    · intro hh
      exact hh.1 (zqI_0 (hLe.symm.trans h0) j (by omega))
  · rw [decide_eq_false h0] at ez
    obtain ⟨t1, t2, t3⟩ := zq_t1 L (by omega) h0
    obtain ⟨low, lok⟩ := zq_low (L := L) (by omega) t1 t2 t3
    obtain ⟨-, u2, -⟩ := zq_t2 L (by omega) (zpl L) t1 t2
    have el : v_D_lowest s.1 = Int32.ofNat (zpl L) := by rw [k1]; exact low
    obtain ⟨rA, rk⟩ := zq_rf hn h0 hL h3 hS hZ s k1 (g_D_pairs_2 W x0 i s) (kb_D_pairs_2 W x0 i s) (zp2e W x0 i s) (zp2k W x0 i s)
    have eX : (zf_wh 1000 (g_D_pairs_2 W x0 i s) 0 ((-1 : Int32), ((zqZ W x0) 195 3) - (1 : Int32))).1 = f L := zqA_u rA (hA L h0 hL)
    obtain ⟨-, x2, x3⟩ := zq_nx hn h0 hL (hA L h0 hL)
    have eE : s.1 &&& ((zsl (1 : Int32) (v_D_lowest s.1)) ^^^ (-1 : Int32)) = Int32.ofNat (L - 2 ^ zpl L) := by rw [el, k1]; exact u2
    have ek : kb_D_pairs_1 W x0 i s := by
      rw [zp1k]
      exact fun _ => ⟨by rw [k1]; exact lok, rk⟩
    by_cases hx : Int32.ofNat (zpl L) = x0
    · have eg : g_D_pairs_1 W x0 i s = (false, (s.1, true, f L)) := by
        rw [zp1e, eX, el, ez, decide_eq_true hx]
        simp only [zk_f, zk_t]
      rw [eg]
      refine ⟨hi, ek, (fun h => by cases h), fun _ => Or.inr ⟨rfl, i, ⟨by rw [← hLe]; exact h0, Or.inl (by rw [← hLe]; exact hx)⟩, k3, ?_⟩⟩
      show f L = _
      rw [← hLe, decide_eq_true hx, zk_t]
    · by_cases hy : f L = x0
      · have eg : g_D_pairs_1 W x0 i s = (false, (s.1, true, Int32.ofNat (zpl L))) := by
          rw [zp1e, eX, el, ez, decide_eq_false hx, decide_eq_true hy]
          simp only [zk_f, zk_t]
        rw [eg]
        refine ⟨hi, ek, (fun h => by cases h), fun _ => Or.inr ⟨rfl, i, ⟨by rw [← hLe]; exact h0, Or.inr (by rw [← hLe]; exact hy)⟩, k3, ?_⟩⟩
        show Int32.ofNat (zpl L) = _
        rw [← hLe, decide_eq_false hx, zk_f]
      · have eg : g_D_pairs_1 W x0 i s = (true, (Int32.ofNat (zqN f L), false, s.2.2)) := by
          rw [zp1e, eX, eE, el, ez, decide_eq_false hx, decide_eq_false hy, x2]
          simp only [zk_f, zk_t]
        rw [eg]
        refine ⟨hi, ek, fun _ => ⟨?_, ?_, fun j hj => ?_⟩, (fun h => by cases h)⟩
        · show Int32.ofNat (zqN f L) = Int32.ofNat (zqN f (zqI f (2 ^ n - 1) i))
          rw [← hLe]
        · have h9 := zqN_le f L
          show zqN f (zqI f (2 ^ n - 1) i) + (i + 1) ≤ 2 ^ n - 1
          rw [← hLe]
          omega
        · by_cases e : j = i
          · rw [e]
            intro hh
            unfold zqH at hh
            rw [← hLe] at hh
            rcases hh.2 with a | a
            · exact hx a
            · exact hy a
          · exact k3 j (by omega)
