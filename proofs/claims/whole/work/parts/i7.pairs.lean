theorem zq_rf {N Z : zMem} {n L : Nat} {t : Nat → Int32} (hn : n ≤ 6) (h0 : L ≠ 0) (hL : L < 2 ^ n) (h3 : Z 195 3 = Int32.ofNat n) (hS : zc_St N 4 (Z 195)) (hZ : ∀ L, L < 2 ^ n → Z 203 L = t L) (a1 : Int32 × Bool × Int32) (ha : a1.1 = Int32.ofNat L) (g : Nat → Int32 × Int32 → Bool × (Int32 × Int32)) (kb : Nat → Int32 × Int32 → Prop) (ze : ∀ i2 a2, g i2 a2 = ((bif (decide (a2.2 ≤ (v_D_lowest a1.1))) then false else (bif (decide ((Z 203 (a1.1 &&& ((zsl (1 : Int32) (v_D_lowest a1.1)) ^^^ (-1 : Int32))).toNatClampNeg) = (Z 203 (a1.1).toNatClampNeg))) then false else true)), ((bif (decide (a2.2 ≤ (v_D_lowest a1.1))) then a2.1 else (bif (decide ((Z 203 (a1.1 &&& ((zsl (1 : Int32) (v_D_lowest a1.1)) ^^^ (-1 : Int32))).toNatClampNeg) = (Z 203 (a1.1).toNatClampNeg))) then a2.1 else (bif (v_D_isOf (a1.1 &&& ((zsl (1 : Int32) (v_D_lowest a1.1)) ^^^ (-1 : Int32))) a2.2) then (bif (decide (((v_D_apart Z (v_D_lowest a1.1) a2.2) + (Z 203 ((a1.1 &&& ((zsl (1 : Int32) (v_D_lowest a1.1)) ^^^ (-1 : Int32))) &&& ((zsl (1 : Int32) a2.2) ^^^ (-1 : Int32))).toNatClampNeg)) = (Z 203 (a1.1).toNatClampNeg))) then a2.2 else a2.1) else a2.1))), (bif (decide (a2.2 ≤ (v_D_lowest a1.1))) then a2.2 else (bif (decide ((Z 203 (a1.1 &&& ((zsl (1 : Int32) (v_D_lowest a1.1)) ^^^ (-1 : Int32))).toNatClampNeg) = (Z 203 (a1.1).toNatClampNeg))) then a2.2 else (a2.2 + (-1 : Int32))))))) (zk : ∀ i2 a2, kb i2 a2 = ((decide (a2.2 ≤ (v_D_lowest a1.1))) = false → (zz_in (a1.1 &&& ((zsl (1 : Int32) (v_D_lowest a1.1)) ^^^ (-1 : Int32))) 64 = true ∧ (zz_in a1.1 64 = true ∧ ((decide ((Z 203 (a1.1 &&& ((zsl (1 : Int32) (v_D_lowest a1.1)) ^^^ (-1 : Int32))).toNatClampNeg) = (Z 203 (a1.1).toNatClampNeg))) = false → ((v_D_isOf (a1.1 &&& ((zsl (1 : Int32) (v_D_lowest a1.1)) ^^^ (-1 : Int32))) a2.2) = true → (ok_D_apart Z (v_D_lowest a1.1) a2.2 ∧ zz_in ((a1.1 &&& ((zsl (1 : Int32) (v_D_lowest a1.1)) ^^^ (-1 : Int32))) &&& ((zsl (1 : Int32) a2.2) ^^^ (-1 : Int32))) 64 = true))))))) : zqA n (fun p q => v_D_apart Z (Int32.ofNat p) (Int32.ofNat q)) t L (zf_wh 1000 g 0 ((-1 : Int32), (Z 195 3) - (1 : Int32))).1 ∧ zf_wk 1000 g kb 0 ((-1 : Int32), (Z 195 3) - (1 : Int32)) := by
  have h64 := z264 hn
  obtain ⟨t1, t2, t3⟩ := zq_t1 L (by omega) h0
  have tn := (zq_t5 n (by omega) L hL).1 h0
  obtain ⟨low, -⟩ := zq_low (L := L) (by omega) t1 t2 t3
  obtain ⟨u1, u2, u3, u4⟩ := zq_t2 L (by omega) (zpl L) t1 t2
  unfold zqA
  have hG : ∀ q, zqG (fun p q => v_D_apart Z (Int32.ofNat p) (Int32.ofNat q)) t L q ↔ L.testBit q = true ∧ v_D_apart Z (Int32.ofNat (zpl L)) (Int32.ofNat q) + t (L - 2 ^ zpl L - 2 ^ q) = t L := fun q => Iff.rfl
  generalize hP : zqG (fun p q => v_D_apart Z (Int32.ofNat p) (Int32.ofNat q)) t L = P at hG ⊢
  clear hP
  generalize zpl L = p at t1 t2 t3 tn low u1 u2 u3 u4 hG ⊢
  have hl1 : L - 2 ^ p < 2 ^ n := Nat.lt_of_le_of_lt (Nat.sub_le _ _) hL
  have hl6 : L - 2 ^ p < 64 := Nat.lt_of_lt_of_le hl1 h64
  have el : v_D_lowest a1.1 = Int32.ofNat p := by rw [ha]; exact low
  have eE : a1.1 &&& ((zsl (1 : Int32) (v_D_lowest a1.1)) ^^^ (-1 : Int32)) = Int32.ofNat (L - 2 ^ p) := by rw [el, ha]; exact u2
  have r1 : Z 203 (Int32.ofNat (L - 2 ^ p)).toNatClampNeg = t (L - 2 ^ p) := by
    rw [zi_nat (Nat.lt_trans hl6 (by omega))]; exact hZ _ hl1
  have r0 : Z 203 (a1.1).toNatClampNeg = t L := by
    rw [ha, zi_nat (by omega)]; exact hZ _ hL
  have i1 : zz_in (Int32.ofNat (L - 2 ^ p)) 64 = true := zi_in hl6 (by omega)
  have i0 : zz_in a1.1 64 = true := by rw [ha]; exact zi_in (by omega) (by omega)
  have est : (Z 195 3 - (1 : Int32)).toInt = (n : Int) - 1 := by
    rw [h3, Int32.toInt_sub, zi_val (by omega), show (1 : Int32).toInt = 1 from rfl, Int.bmod_eq_of_le (by omega) (by omega)]
  by_cases hne : t (L - 2 ^ p) = t L
  · have eg : g 0 ((-1 : Int32), (Z 195 3) - (1 : Int32)) = (false, ((-1 : Int32), (Z 195 3) - (1 : Int32))) := by
      rw [ze, eE, r1, r0, decide_eq_true hne]
      cases decide (((-1 : Int32), (Z 195 3) - (1 : Int32)).2 ≤ v_D_lowest a1.1) <;> simp only [zk_t, zk_f]
    refine ⟨Or.inl ⟨hne, ?_⟩, zf_k0 eg ?_⟩
    · rw [show (1000 : Nat) = 999 + 1 from rfl, zf_w0 eg]
    · rw [zk, eE, r1, r0, decide_eq_true hne]
      exact fun _ => ⟨i1, i0, (fun h => by cases h)⟩
  · have lp := zf_wq (g := g) (k := kb) (fun k (s : Int32 × Int32) => k ≤ n - 1 - p ∧ s.2.toInt = (n : Int) - 1 - k ∧ ((s.1 = -1 ∧ ∀ q, n - k ≤ q → q < n → ¬ P q) ∨ (∃ q, n - k ≤ q ∧ q < n ∧ s.1 = Int32.ofNat q ∧ P q ∧ ∀ q', n - k ≤ q' → q' < q → ¬ P q'))) (fun (s : Int32 × Int32) => (s.1 = -1 ∧ ∀ q, p < q → q < n → ¬ P q) ∨ (∃ q, p < q ∧ q < n ∧ s.1 = Int32.ofNat q ∧ P q ∧ ∀ q', p < q' → q' < q → ¬ P q')) (n - 1 - p) (fun k s ⟨hk, h1, h2⟩ => by
      have ec : decide (s.2 ≤ v_D_lowest a1.1) = decide ((n : Int) - 1 - k ≤ p) := by
        rw [el, zi_lei, h1, zi_val (by omega)]
      by_cases hc : (n : Int) - 1 - k ≤ p
      · rw [decide_eq_true hc] at ec
        have eg : g k s = (false, (s.1, s.2)) := by
          rw [ze, ec, zk_t, zk_t, zk_t]
        have ek : kb k s := by
          rw [zk, ec]
          exact fun h => by cases h
        rw [eg]
        refine ⟨hk, ek, (fun h => by cases h), fun _ => ?_⟩
        rcases h2 with ⟨b1, b2⟩ | ⟨q, q0, q1, q2, q3, q4⟩
        · exact Or.inl ⟨b1, fun q q0 q1 => b2 q (by omega) q1⟩
        · exact Or.inr ⟨q, by omega, q1, q2, q3, fun q' q5 q6 => q4 q' (by omega) q6⟩
      · rw [decide_eq_false hc] at ec
        obtain ⟨q, hq, hqn, hpq, hq6, hqk⟩ : ∃ q, q = n - 1 - k ∧ q < n ∧ p < q ∧ q < 6 ∧ ((q : Int) = (n : Int) - 1 - k) := ⟨n - 1 - k, rfl, by clear hl1 hl6 u1; omega, by clear hl1 hl6 u1; omega, by clear hl1 hl6 u1; omega, by clear hl1 hl6 u1; omega⟩
        have hqb : q < 2147483648 := Nat.lt_trans hq6 (by decide)
        have hq31 : q < 31 := Nat.lt_trans hq6 (by decide)
        have hqp : q ≠ p := Nat.ne_of_gt hpq
        have es : s.2 = Int32.ofNat q := zi_eq (by rw [h1, zi_val hqb, hqk])
        have eo : v_D_isOf (Int32.ofNat (L - 2 ^ p)) s.2 = L.testBit q := by
          rw [es, zN_isOf (Nat.lt_trans hl6 (by decide)) hq31]
          exact u4 _ hq6 hqp
        have hl2 : L - 2 ^ p - 2 ^ q < 2 ^ n := Nat.lt_of_le_of_lt (Nat.sub_le _ _) hl1
        have hl3 : L - 2 ^ p - 2 ^ q < 64 := Nat.lt_of_lt_of_le hl2 h64
        have eF : L.testBit q = true → (Int32.ofNat (L - 2 ^ p)) &&& ((zsl (1 : Int32) s.2) ^^^ (-1 : Int32)) = Int32.ofNat (L - 2 ^ p - 2 ^ q) := fun hb => by
          rw [es]
          exact (zq_t2 (L - 2 ^ p) hl6 q hq6 (by rw [u4 _ hq6 hqp]; exact hb)).2.1
        have er : Z 203 (Int32.ofNat (L - 2 ^ p - 2 ^ q)).toNatClampNeg = t (L - 2 ^ p - 2 ^ q) := by
          rw [zi_nat (Nat.lt_trans hl3 (by decide))]; exact hZ _ hl2
        obtain ⟨-, -, okA, -⟩ := zq_ap (p := p) (q := q) hS t1 hq6
        have ek : kb k s := by
          rw [zk, eE, eo]
          refine fun _ => ⟨i1, i0, fun _ hb => ⟨by rw [el, es]; exact okA, ?_⟩⟩
          rw [eF hb]; exact zi_in hl3 (by decide)
        have hV : ∃ v, g k s = (true, (v, s.2 + (-1 : Int32))) ∧ ((v = s.1 ∧ ¬ P q) ∨ (v = Int32.ofNat q ∧ P q)) := by
          cases hb : L.testBit q with
          | false =>
            rw [hb] at eo
            refine ⟨s.1, ?_, Or.inl ⟨rfl, fun h => ?_⟩⟩
            · rw [ze, eE, r1, r0, ec, decide_eq_false hne, eo]
              simp only [zk_f]
            · have := ((hG q).mp h).1
              rw [hb] at this
              cases this
          | true =>
            rw [hb] at eo
            have ea : v_D_apart Z (v_D_lowest a1.1) s.2 = v_D_apart Z (Int32.ofNat p) (Int32.ofNat q) := by rw [el, es]
            by_cases hd : v_D_apart Z (Int32.ofNat p) (Int32.ofNat q) + t (L - 2 ^ p - 2 ^ q) = t L
            · refine ⟨s.2, ?_, Or.inr ⟨es, (hG q).mpr ⟨hb, hd⟩⟩⟩
              rw [ze, ea, eE, eF hb, er, r1, r0, ec, eo, decide_eq_true hd, decide_eq_false hne]
              simp only [zk_f, zk_t]
            · refine ⟨s.1, ?_, Or.inl ⟨rfl, fun h => hd ((hG q).mp h).2⟩⟩
              rw [ze, ea, eE, eF hb, er, r1, r0, ec, eo, decide_eq_false hd, decide_eq_false hne]
              simp only [zk_f, zk_t]
        obtain ⟨v, eg, hV⟩ := hV
        clear er eF eo hl2 hl3 hl1 hl6 u1 u2 u3 u4 r1 r0 i1 i0 eE
        have hdn : (s.2 + (-1 : Int32)).toInt = (n : Int) - 1 - ((k + 1 : Nat) : Int) := by
          rw [zi_dn h1 (by omega)]; omega
        generalize s.2 + (-1 : Int32) = v2 at hdn eg
        rw [eg]
        have hk1 : k + 1 ≤ n - 1 - p := by clear hdn h1 h2 hV hG est; omega
        refine ⟨hk, ek, fun _ => ⟨hk1, hdn, ?_⟩, (fun h => by cases h)⟩
        clear hdn eg est ec ek hc
        show (v = -1 ∧ ∀ q, n - (k + 1) ≤ q → q < n → ¬ P q) ∨ (∃ q, n - (k + 1) ≤ q ∧ q < n ∧ v = Int32.ofNat q ∧ P q ∧ ∀ q', n - (k + 1) ≤ q' → q' < q → ¬ P q')
        rcases hV with ⟨hv, hnq⟩ | ⟨hv, hnq⟩
        · rcases h2 with ⟨b1, b2⟩ | ⟨r, r0', r1', r2', r3', r4'⟩
          · refine Or.inl ⟨by rw [hv]; exact b1, fun r hr hr2 => ?_⟩
            by_cases e : r = q
            · rw [e]; exact hnq
            · exact b2 r (by omega) hr2
          · refine Or.inr ⟨r, by omega, r1', by rw [hv]; exact r2', r3', fun r' hr' hr2 => ?_⟩
            by_cases e : r' = q
            · rw [e]; exact hnq
            · exact r4' r' (by omega) hr2
        · exact Or.inr ⟨q, by omega, by omega, hv, hnq, fun r' h1' h2' => by omega⟩) 1000 0 ((-1 : Int32), (Z 195 3) - (1 : Int32)) ⟨by omega, by
        show (Z 195 3 - (1 : Int32)).toInt = _
        rw [est]; omega, Or.inl ⟨rfl, fun q hq hq2 => by omega⟩⟩ (by omega)
    exact ⟨Or.inr ⟨hne, lp.1⟩, lp.2⟩
/-- the sets left, round by round -/
def zqN (f : Nat → Int32) (L : Nat) : Nat := bif decide (f L = (-1 : Int32)) then L - 2 ^ zpl L else L - 2 ^ zpl L - 2 ^ (f L).toNatClampNeg
def zqI (f : Nat → Int32) (A : Nat) : Nat → Nat
  | 0 => A
  | k + 1 => zqN f (zqI f A k)
theorem zqN_le (f : Nat → Int32) (L : Nat) : zqN f L ≤ L - 1 := by
  have hp : 0 < 2 ^ zpl L := Nat.pow_pos (by omega)
  unfold zqN
  cases decide (f L = (-1 : Int32)) with
  | true => rw [zk_t]; omega
  | false =>
    rw [zk_f]
    exact Nat.le_trans (Nat.sub_le _ _) (by omega)
theorem zqI_le (f : Nat → Int32) (A : Nat) : ∀ k, zqI f A k ≤ A - k
  | 0 => Nat.le_refl _
  | k + 1 => by
    have h1 := zqI_le f A k
    have h2 := zqN_le f (zqI f A k)
    show zqN f (zqI f A k) ≤ A - (k + 1)
    omega
theorem zqI_0 {f : Nat → Int32} {A k : Nat} (h : zqI f A k = 0) : ∀ j, k ≤ j → zqI f A j = 0
  | 0, hj => by
    have e : k = 0 := by omega
    subst e
    exact h
  | j + 1, hj => by
    by_cases e : k = j + 1
    · rw [← e]; exact h
    · have ih := zqI_0 h j (by omega)
      have h2 := zqN_le f (zqI f A j)
      show zqN f (zqI f A j) = 0
      omega
def zqH (f : Nat → Int32) (A : Nat) (x : Int32) (j : Nat) : Prop := zqI f A j ≠ 0 ∧ (Int32.ofNat (zpl (zqI f A j)) = x ∨ f (zqI f A j) = x)
def zqQ (f : Nat → Int32) (A : Nat) (x : Int32) (b : Bool) (v : Int32) : Prop := (b = false ∧ ∀ j, ¬ zqH f A x j) ∨ (b = true ∧ ∃ j, zqH f A x j ∧ (∀ j', j' < j → ¬ zqH f A x j') ∧ v = (bif decide (Int32.ofNat (zpl (zqI f A j)) = x) then f (zqI f A j) else Int32.ofNat (zpl (zqI f A j))))
theorem zqQ_u {f : Nat → Int32} {A : Nat} {x : Int32} {b b' : Bool} {v v' : Int32} (h : zqQ f A x b v) (h' : zqQ f A x b' v') : (bif b then v else (-1 : Int32)) = (bif b' then v' else (-1 : Int32)) := by
  rcases h with ⟨e, h⟩ | ⟨e, j, j1, j2, j3⟩
  · rcases h' with ⟨e', -⟩ | ⟨e', j, j1, -⟩
    · rw [e, e', zk_f, zk_f]
    · exact absurd j1 (h j)
  · rcases h' with ⟨e', h'⟩ | ⟨e', k, k1, k2, k3⟩
    · exact absurd j1 (h' j)
    · have ee : j = k := by
        by_cases h1 : j < k
        · exact absurd j1 (k2 j h1)
        · by_cases h2 : k < j
          · exact absurd k1 (j2 k h2)
          · omega
      rw [e, e', zk_t, zk_t, j3, k3, ee]
/-- what follows of the first partner -/
theorem zqA_f {n : Nat} {d : Nat → Nat → Int32} {t : Nat → Int32} {L : Nat} {x : Int32} (h : zqA n d t L x) : x = -1 ∨ ∃ q, zpl L < q ∧ q < n ∧ x = Int32.ofNat q ∧ L.testBit q = true := by
  rcases h with ⟨-, b⟩ | ⟨-, ⟨b, -⟩ | ⟨q, q0, q1, q2, q3, -⟩⟩
  · exact Or.inl b
  · exact Or.inl b
  · exact Or.inr ⟨q, q0, q1, q2, q3.1⟩
theorem zpl_i {L i : Nat} (hL : L < 64) (hi : i < 6) (h : L.testBit i = true) (h0 : ∀ q, q < i → L.testBit q = false) : L ≠ 0 ∧ zpl L = i := by
  have hne : L ≠ 0 := fun e => by
    rw [e, Nat.zero_testBit] at h
    cases h
  obtain ⟨t1, t2, t3⟩ := zq_t1 L hL hne
  refine ⟨hne, ?_⟩
  by_cases a : zpl L < i
  · rw [h0 _ a] at t2; cases t2
  · by_cases b : i < zpl L
    · rw [t3 _ b] at h; cases h
    · omega
