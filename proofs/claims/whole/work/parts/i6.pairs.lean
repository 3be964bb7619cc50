/-- the reference's pairs, its table named -/
def zqZ (M : zMem) (x0 : Int32) : zMem := (w_D_allBest (zz_up M 194 0 (zb (bif (decide (x0 = (-1 : Int32))) then false else (bif (v_D_isOne M x0) then false else true)))))
theorem zp2e (M : zMem) (x0 : Int32) (i1 : Nat) (a1 : Int32 × Bool × Int32) (i2 : Nat) (a2 : Int32 × Int32) : g_D_pairs_2 M x0 i1 a1 i2 a2 = ((bif (decide (a2.2 ≤ (v_D_lowest a1.1))) then false else (bif (decide (((zqZ M x0) 203 (a1.1 &&& ((zsl (1 : Int32) (v_D_lowest a1.1)) ^^^ (-1 : Int32))).toNatClampNeg) = ((zqZ M x0) 203 (a1.1).toNatClampNeg))) then false else true)), ((bif (decide (a2.2 ≤ (v_D_lowest a1.1))) then a2.1 else (bif (decide (((zqZ M x0) 203 (a1.1 &&& ((zsl (1 : Int32) (v_D_lowest a1.1)) ^^^ (-1 : Int32))).toNatClampNeg) = ((zqZ M x0) 203 (a1.1).toNatClampNeg))) then a2.1 else (bif (v_D_isOf (a1.1 &&& ((zsl (1 : Int32) (v_D_lowest a1.1)) ^^^ (-1 : Int32))) a2.2) then (bif (decide (((v_D_apart (zqZ M x0) (v_D_lowest a1.1) a2.2) + ((zqZ M x0) 203 ((a1.1 &&& ((zsl (1 : Int32) (v_D_lowest a1.1)) ^^^ (-1 : Int32))) &&& ((zsl (1 : Int32) a2.2) ^^^ (-1 : Int32))).toNatClampNeg)) = ((zqZ M x0) 203 (a1.1).toNatClampNeg))) then a2.2 else a2.1) else a2.1))), (bif (decide (a2.2 ≤ (v_D_lowest a1.1))) then a2.2 else (bif (decide (((zqZ M x0) 203 (a1.1 &&& ((zsl (1 : Int32) (v_D_lowest a1.1)) ^^^ (-1 : Int32))).toNatClampNeg) = ((zqZ M x0) 203 (a1.1).toNatClampNeg))) then a2.2 else (a2.2 + (-1 : Int32)))))) := by
  unfold g_D_pairs_2 zqZ
  rfl
theorem zp2k (M : zMem) (x0 : Int32) (i1 : Nat) (a1 : Int32 × Bool × Int32) (i2 : Nat) (a2 : Int32 × Int32) : kb_D_pairs_2 M x0 i1 a1 i2 a2 = ((decide (a2.2 ≤ (v_D_lowest a1.1))) = false → (zz_in (a1.1 &&& ((zsl (1 : Int32) (v_D_lowest a1.1)) ^^^ (-1 : Int32))) 64 = true ∧ (zz_in a1.1 64 = true ∧ ((decide (((zqZ M x0) 203 (a1.1 &&& ((zsl (1 : Int32) (v_D_lowest a1.1)) ^^^ (-1 : Int32))).toNatClampNeg) = ((zqZ M x0) 203 (a1.1).toNatClampNeg))) = false → ((v_D_isOf (a1.1 &&& ((zsl (1 : Int32) (v_D_lowest a1.1)) ^^^ (-1 : Int32))) a2.2) = true → (ok_D_apart (zqZ M x0) (v_D_lowest a1.1) a2.2 ∧ zz_in ((a1.1 &&& ((zsl (1 : Int32) (v_D_lowest a1.1)) ^^^ (-1 : Int32))) &&& ((zsl (1 : Int32) a2.2) ^^^ (-1 : Int32))) 64 = true)))))) := by
  unfold kb_D_pairs_2 zqZ
  rfl
theorem zp1e (M : zMem) (x0 : Int32) (i1 : Nat) (a1 : Int32 × Bool × Int32) : g_D_pairs_1 M x0 i1 a1 = ((bif (decide (a1.1 = 0)) then false else (bif (decide ((v_D_lowest a1.1) = x0)) then false else (bif (decide ((zf_wh 1000 (g_D_pairs_2 M x0 i1 a1) 0 ((-1 : Int32), (((zqZ M x0) 195 3) - (1 : Int32)))).1 = x0)) then false else true))), ((bif (decide (a1.1 = 0)) then a1.1 else (bif (decide ((v_D_lowest a1.1) = x0)) then a1.1 else (bif (decide ((zf_wh 1000 (g_D_pairs_2 M x0 i1 a1) 0 ((-1 : Int32), (((zqZ M x0) 195 3) - (1 : Int32)))).1 = x0)) then a1.1 else (bif (decide ((zf_wh 1000 (g_D_pairs_2 M x0 i1 a1) 0 ((-1 : Int32), (((zqZ M x0) 195 3) - (1 : Int32)))).1 = (-1 : Int32))) then (a1.1 &&& ((zsl (1 : Int32) (v_D_lowest a1.1)) ^^^ (-1 : Int32))) else ((a1.1 &&& ((zsl (1 : Int32) (v_D_lowest a1.1)) ^^^ (-1 : Int32))) &&& ((zsl (1 : Int32) (zf_wh 1000 (g_D_pairs_2 M x0 i1 a1) 0 ((-1 : Int32), (((zqZ M x0) 195 3) - (1 : Int32)))).1) ^^^ (-1 : Int32))))))), (bif (decide (a1.1 = 0)) then false else (bif (decide ((v_D_lowest a1.1) = x0)) then true else (decide ((zf_wh 1000 (g_D_pairs_2 M x0 i1 a1) 0 ((-1 : Int32), (((zqZ M x0) 195 3) - (1 : Int32)))).1 = x0)))), (bif (decide (a1.1 = 0)) then a1.2.2 else (bif (decide ((v_D_lowest a1.1) = x0)) then (zf_wh 1000 (g_D_pairs_2 M x0 i1 a1) 0 ((-1 : Int32), (((zqZ M x0) 195 3) - (1 : Int32)))).1 else (bif (decide ((zf_wh 1000 (g_D_pairs_2 M x0 i1 a1) 0 ((-1 : Int32), (((zqZ M x0) 195 3) - (1 : Int32)))).1 = x0)) then (v_D_lowest a1.1) else a1.2.2))))) := by
  unfold g_D_pairs_1 zqZ
  rfl
theorem zp1k (M : zMem) (x0 : Int32) (i1 : Nat) (a1 : Int32 × Bool × Int32) : kb_D_pairs_1 M x0 i1 a1 = ((decide (a1.1 = 0)) = false → (ok_D_lowest a1.1 ∧ (zf_wk 1000 (g_D_pairs_2 M x0 i1 a1) (kb_D_pairs_2 M x0 i1 a1) 0 ((-1 : Int32), (((zqZ M x0) 195 3) - (1 : Int32)))))) := by
  unfold kb_D_pairs_1 zqZ
  rfl
theorem zv31 (M : zMem) (x0 : Int32) : v_D_pairs M x0 = (bif (decide ((zb (bif (decide (x0 = (-1 : Int32))) then false else (bif (v_D_isOne M x0) then false else true))) ≤ 0)) then (bif (decide (x0 = (-1 : Int32))) then ((zqZ M x0) 203 ((zsl (1 : Int32) ((zqZ M x0) 195 3)) - (1 : Int32)).toNatClampNeg) else (bif (zf_wh 1000 (g_D_pairs_1 M x0) 0 (((zsl (1 : Int32) ((zqZ M x0) 195 3)) - (1 : Int32)), false, 0)).2.1 then (zf_wh 1000 (g_D_pairs_1 M x0) 0 (((zsl (1 : Int32) ((zqZ M x0) 195 3)) - (1 : Int32)), false, 0)).2.2 else (-1 : Int32))) else (0 : Int32)) := by
  unfold v_D_pairs zqZ
  rfl
theorem zw31 (M : zMem) (x0 : Int32) : w_D_pairs M x0 = (bif (decide ((zb (bif (decide (x0 = (-1 : Int32))) then false else (bif (v_D_isOne M x0) then false else true))) ≤ 0)) then (zqZ M x0) else (zz_up M 194 0 (zb (bif (decide (x0 = (-1 : Int32))) then false else (bif (v_D_isOne M x0) then false else true))))) := by
  unfold w_D_pairs zqZ
  rfl
theorem zk31 (M : zMem) (x0 : Int32) : ok_D_pairs M x0 = ((decide ((zb (bif (decide (x0 = (-1 : Int32))) then false else (bif (v_D_isOne M x0) then false else true))) ≤ 0)) = true → (ok_D_allBest (zz_up M 194 0 (zb (bif (decide (x0 = (-1 : Int32))) then false else (bif (v_D_isOne M x0) then false else true)))) ∧ (((decide (x0 = (-1 : Int32))) = true → zz_in ((zsl (1 : Int32) ((zqZ M x0) 195 3)) - (1 : Int32)) 64 = true) ∧ ((decide (x0 = (-1 : Int32))) = false → (zf_wk 1000 (g_D_pairs_1 M x0) (kb_D_pairs_1 M x0) 0 (((zsl (1 : Int32) ((zqZ M x0) 195 3)) - (1 : Int32)), false, 0)))))) := by
  unfold ok_D_pairs zqZ
  rfl
/-- who is the first partner -/
def zqG (d : Nat → Nat → Int32) (t : Nat → Int32) (L q : Nat) : Prop := L.testBit q = true ∧ d (zpl L) q + t (L - 2 ^ zpl L - 2 ^ q) = t L
def zqA (n : Nat) (d : Nat → Nat → Int32) (t : Nat → Int32) (L : Nat) (x : Int32) : Prop := (t (L - 2 ^ zpl L) = t L ∧ x = -1) ∨ (¬ t (L - 2 ^ zpl L) = t L ∧ ((x = -1 ∧ ∀ q, zpl L < q → q < n → ¬ zqG d t L q) ∨ ∃ q, zpl L < q ∧ q < n ∧ x = Int32.ofNat q ∧ zqG d t L q ∧ ∀ q', zpl L < q' → q' < q → ¬ zqG d t L q'))
theorem zqA_u {n : Nat} {d : Nat → Nat → Int32} {t : Nat → Int32} {L : Nat} {x y : Int32} (hx : zqA n d t L x) (hy : zqA n d t L y) : x = y := by
  rcases hx with ⟨a, b⟩ | ⟨a, h⟩
  · rcases hy with ⟨a', b'⟩ | ⟨a', -⟩
    · rw [b, b']
    · exact absurd a a'
  · rcases hy with ⟨a', -⟩ | ⟨-, h'⟩
    · exact absurd a' a
    · rcases h with ⟨b, c⟩ | ⟨q, q0, q1, q2, q3, q4⟩
      · rcases h' with ⟨b', -⟩ | ⟨q, q0, q1, q2, q3, q4⟩
        · rw [b, b']
        · exact absurd q3 (c q q0 q1)
      · rcases h' with ⟨-, c⟩ | ⟨r, r0, r1, r2, r3, r4⟩
        · exact absurd q3 (c q q0 q1)
        · have e : q = r := by
            by_cases h1 : q < r
            · exact absurd q3 (r4 q q0 h1)
            · by_cases h2 : r < q
              · exact absurd r3 (q4 r r0 h2)
              · omega
          rw [q2, r2, e]
theorem zq_cf {W : zMem} {n L : Nat} {d : Nat → Nat → Int32} {t : Nat → Int32} (hC : zqC W n d) (h0 : L ≠ 0) (hL : L < 2 ^ n) (hW : ∀ L, L < 2 ^ n → W 193 (2 ^ n - 1 - L) = t L) (hz : ∀ L : Nat, L < 2 ^ n → zrg 0 (31 * (L : Int)) (t L)) : zqA n d t L (v_G_firstPartner W (Int32.ofNat (2 ^ n - 1 - L)) (Int32.ofNat (zpl L))) ∧ ok_G_firstPartner W (Int32.ofNat (2 ^ n - 1 - L)) (Int32.ofNat (zpl L)) := by
  have hC' := hC
  obtain ⟨hn, h10, hd⟩ := hC'
  have h64 := z264 hn
  obtain ⟨t1, t2, t3⟩ := zq_t1 L (by omega) h0
  have tn := (zq_t5 n (by omega) L hL).1 h0
  unfold zqA
  have hG : ∀ q, zqG d t L q ↔ L.testBit q = true ∧ d (zpl L) q + t (L - 2 ^ zpl L - 2 ^ q) = t L := fun q => Iff.rfl
  generalize hP : zqG d t L = P at hG ⊢
  clear hP
  generalize zpl L = p at t1 t2 t3 tn hG ⊢
  have hl1 : L - 2 ^ p < 2 ^ n := Nat.lt_of_le_of_lt (Nat.sub_le _ _) hL
  have eS : (Int32.ofNat (2 ^ n - 1 - L)).toNatClampNeg = 2 ^ n - 1 - L := zi_nat (by omega)
  have ei : (Int32.ofNat (2 ^ n - 1 - L)) ||| (zsl (1 : Int32) (Int32.ofNat p)) = Int32.ofNat (2 ^ n - 1 - (L - 2 ^ p)) := by
    rw [zN_sl1 _ (by omega), Nat.one_shiftLeft, zN_or, (zq_t3 n (by omega) L hL _ tn).2 t2]
  have hli : 2 ^ n - 1 - (L - 2 ^ p) < 64 := Nat.lt_of_le_of_lt (Nat.sub_le _ _) (by omega)
  have e1 : W 193 (Int32.ofNat (2 ^ n - 1 - (L - 2 ^ p))).toNatClampNeg = t (L - 2 ^ p) := by
    rw [zi_nat (Nat.lt_trans hli (by omega))]; exact hW _ hl1
  have nL := (hz L hL).1
  have lp := zf_wq (g := g_G_firstPartner_1 W (Int32.ofNat (2 ^ n - 1 - L)) (Int32.ofNat p)) (k := kb_G_firstPartner_1 W (Int32.ofNat (2 ^ n - 1 - L)) (Int32.ofNat p)) (fun k (s : Int32 × Bool × Int32) => k ≤ n - 1 - p ∧ s.1 = Int32.ofNat (p + 1 + k) ∧ ∀ q, p < q → q < p + 1 + k → ¬ P q) (fun (s : Int32 × Bool × Int32) => (s.2.1 = false ∧ ∀ q, p < q → q < n → ¬ P q) ∨ (s.2.1 = true ∧ ∃ q, p < q ∧ q < n ∧ s.2.2 = Int32.ofNat q ∧ P q ∧ ∀ q', p < q' → q' < q → ¬ P q')) (n - 1 - p) (fun k s ⟨hk, h1, h2⟩ => by
    have ec : decide ((W 4 10) ≤ s.1) = decide (n ≤ p + 1 + k) := by rw [h10, h1]; exact zi_le (by omega) (by omega)
    by_cases hc : n ≤ p + 1 + k
    · rw [decide_eq_true hc] at ec
      have eg : g_G_firstPartner_1 W (Int32.ofNat (2 ^ n - 1 - L)) (Int32.ofNat p) k s = (false, (s.1, false, s.2.2)) := by
        unfold g_G_firstPartner_1
        rw [ec, zk_t, zk_t, zk_t, zk_t]
      have ek : kb_G_firstPartner_1 W (Int32.ofNat (2 ^ n - 1 - L)) (Int32.ofNat p) k s := by
        unfold kb_G_firstPartner_1
        rw [ec]
        exact fun h => by cases h
      rw [eg]
      exact ⟨hk, ek, (fun h => by cases h), fun _ => Or.inl ⟨rfl, fun q q0 q1 => h2 q q0 (by omega)⟩⟩
    · rw [decide_eq_false hc] at ec
      obtain ⟨w1, w2⟩ := zq_gw (p := p) (q := p + 1 + k) hC hL tn (by omega) (by omega) t2
      have ed : decide ((v_G_gainedWith W (Int32.ofNat (2 ^ n - 1 - L)) (Int32.ofNat p) s.1) = (W 193 (Int32.ofNat (2 ^ n - 1 - L)).toNatClampNeg)) = true ↔ P (p + 1 + k) := by
        rw [h1, w1, eS, hW L hL, hG, hW _ (Nat.lt_of_le_of_lt (Nat.sub_le _ _) hl1)]
        cases L.testBit (p + 1 + k) with
        | false =>
          rw [zk_f]
          refine ⟨fun h => ?_, fun h => by cases h.1⟩
          have e := of_decide_eq_true h
          rw [← e] at nL
          exact absurd nL (by decide)
        | true =>
          rw [zk_t]
          exact ⟨fun h => ⟨rfl, of_decide_eq_true h⟩, fun h => decide_eq_true h.2⟩
      have ek : kb_G_firstPartner_1 W (Int32.ofNat (2 ^ n - 1 - L)) (Int32.ofNat p) k s := by
        unfold kb_G_firstPartner_1
        rw [h1]
        exact fun _ => w2
      cases hb : decide ((v_G_gainedWith W (Int32.ofNat (2 ^ n - 1 - L)) (Int32.ofNat p) s.1) = (W 193 (Int32.ofNat (2 ^ n - 1 - L)).toNatClampNeg)) with
      | true =>
        have eg : g_G_firstPartner_1 W (Int32.ofNat (2 ^ n - 1 - L)) (Int32.ofNat p) k s = (false, (s.1, true, s.1)) := by
          unfold g_G_firstPartner_1
          rw [ec, hb]
          simp only [zk_f, zk_t]
        rw [eg]
        exact ⟨hk, ek, (fun h => by cases h), fun _ => Or.inr ⟨rfl, p + 1 + k, by omega, by omega, h1, ed.mp hb, h2⟩⟩
      | false =>
        have eg : g_G_firstPartner_1 W (Int32.ofNat (2 ^ n - 1 - L)) (Int32.ofNat p) k s = (true, (s.1 + (1 : Int32), false, s.2.2)) := by
          unfold g_G_firstPartner_1
          rw [ec, hb]
          simp only [zk_f]
        rw [eg]
        refine ⟨hk, ek, fun _ => ⟨by omega, ?_, fun q q0 q1 => ?_⟩, (fun h => by cases h)⟩
        · show s.1 + (1 : Int32) = Int32.ofNat (p + 1 + (k + 1))
          rw [h1, zi_succ]; rfl
        · by_cases e : q = p + 1 + k
          · rw [e]
            intro hh
            rw [ed.mpr hh] at hb
            cases hb
          · exact h2 q q0 (by omega)) 1000 0 ((Int32.ofNat p) + (1 : Int32), false, 0) ⟨by omega, zi_succ p, fun q q0 q1 => by omega⟩ (by omega)
  unfold v_G_firstPartner ok_G_firstPartner
  rw [ei, e1, eS, hW L hL]
  refine ⟨?_, zi_in (Nat.lt_trans hli (by omega)) (by omega), zi_in (by omega) (by omega), fun _ => lp.2⟩
  by_cases hc : t (L - 2 ^ p) = t L
  · rw [decide_eq_true hc, zk_t]
    exact Or.inl ⟨hc, rfl⟩
  · rw [decide_eq_false hc, zk_f]
    refine Or.inr ⟨hc, ?_⟩
    rcases lp.1 with ⟨a, b⟩ | ⟨a, b⟩
    · rw [a, zk_f]; exact Or.inl ⟨rfl, b⟩
    · rw [a, zk_t]; exact Or.inr b
