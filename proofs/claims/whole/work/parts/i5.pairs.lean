/-- what is given of the class's side -/
def zqC (W : zMem) (n : Nat) (d : Nat → Nat → Int32) : Prop := n ≤ 6 ∧ W 4 10 = Int32.ofNat n ∧ ∀ p q, p < 6 → q < 6 → v_ji_bitCount ((v_S_deedsHad W 4 (Int32.ofNat p)) ^^^ (v_S_deedsHad W 4 (Int32.ofNat q))) = d p q ∧ zrg 0 31 (d p q) ∧ ok_S_deedsHad W 4 (Int32.ofNat p) ∧ ok_S_deedsHad W 4 (Int32.ofNat q)
theorem zq_gw {W : zMem} {n L p q : Nat} {d : Nat → Nat → Int32} (hC : zqC W n d) (hL : L < 2 ^ n) (hpn : p < n) (hqn : q < n) (hpq : p ≠ q) (hp : L.testBit p = true) : v_G_gainedWith W (Int32.ofNat (2 ^ n - 1 - L)) (Int32.ofNat p) (Int32.ofNat q) = (bif L.testBit q then d p q + W 193 (2 ^ n - 1 - (L - 2 ^ p - 2 ^ q)) else (-1 : Int32)) ∧ ok_G_gainedWith W (Int32.ofNat (2 ^ n - 1 - L)) (Int32.ofNat p) (Int32.ofNat q) := by
  obtain ⟨hn, -, hd⟩ := hC
  have h64 := z264 hn
  obtain ⟨d1, d2, d3, d4⟩ := hd p q (by omega) (by omega)
  obtain ⟨t1, t2⟩ := zq_t4 n (by omega) L hL p hpn q hqn hp hpq
  have ep : zsl (1 : Int32) (Int32.ofNat p) = Int32.ofNat (2 ^ p) := by rw [zN_sl1 p (by omega), Nat.one_shiftLeft]
  have eq : zsl (1 : Int32) (Int32.ofNat q) = Int32.ofNat (2 ^ q) := by rw [zN_sl1 q (by omega), Nat.one_shiftLeft]
  have ec : decide ((Int32.ofNat (2 ^ n - 1 - L)) &&& ((zsl (1 : Int32) (Int32.ofNat p)) ||| (zsl (1 : Int32) (Int32.ofNat q))) = 0) = L.testBit q := by
    rw [ep, eq, zN_or, zN_and, ← t1]
    have hlt : (2 ^ n - 1 - L) &&& (2 ^ p ||| 2 ^ q) < 64 := Nat.lt_of_le_of_lt Nat.and_le_left (by omega)
    exact zN_eq (b := 0) (by omega) (by omega)
  have ei : L.testBit q = true → (Int32.ofNat (2 ^ n - 1 - L)) ||| ((zsl (1 : Int32) (Int32.ofNat p)) ||| (zsl (1 : Int32) (Int32.ofNat q))) = Int32.ofNat (2 ^ n - 1 - (L - 2 ^ p - 2 ^ q)) := fun h => by
    rw [ep, eq, zN_or, zN_or, t2 h]
  unfold v_G_gainedWith ok_G_gainedWith
  rw [ec, d1]
  cases hb : L.testBit q with
  | false => exact ⟨by rw [zk_f, zk_f], (fun h => by cases h)⟩
  | true =>
    have hl : 2 ^ n - 1 - (L - 2 ^ p - 2 ^ q) < 64 := Nat.lt_of_le_of_lt (Nat.sub_le _ _) (by omega)
    rw [ei hb, zk_t, zk_t, zi_nat (Nat.lt_trans hl (by omega))]
    exact ⟨rfl, fun _ => ⟨d3, d4, zi_in (Nat.lt_trans hl (by omega)) (by omega)⟩⟩
theorem zmxn {a : Int32} (h : 0 ≤ a.toInt) : v_jm_max a (-1 : Int32) = a := by
  apply zi_eq
  rw [zi_max, show (-1 : Int32).toInt = -1 from rfl]
  omega
/-- a cell of the class's -/
theorem zq_c2 {M : zMem} {n L i : Nat} {d : Nat → Nat → Int32} {t : Nat → Int32} {a : Int32 × zMem} (hC : zqC a.2 n d) (h0 : L ≠ 0) (hL : L < 2 ^ n) (ha : a.1 = Int32.ofNat (2 ^ n - 1 - L)) (ht : ∀ x, x < L → a.2 193 (2 ^ n - 1 - x) = t x) (hz : ∀ x, x < L → zrg 0 (31 * (x : Int)) (t x)) : (zf_wh 1000 (g_G_pairPeople_2 M i a) 0 (t (L - 2 ^ zpl L), Int32.ofNat (zpl L) + (1 : Int32))).1 = zqM d t L (zpl L) (n - 1 - zpl L) ∧ zf_wk 1000 (g_G_pairPeople_2 M i a) (kb_G_pairPeople_2 M i a) 0 (t (L - 2 ^ zpl L), Int32.ofNat (zpl L) + (1 : Int32)) := by
  have hC' := hC
  obtain ⟨hn, h10, hd⟩ := hC'
  have h64 := z264 hn
  obtain ⟨t1, t2, t3⟩ := zq_t1 L (by omega) h0
  have tn := (zq_t5 n (by omega) L hL).1 h0
  have us : v_G_firstUnsettled a.1 = Int32.ofNat (zpl L) := by
    rw [ha]
    exact (zq_uns (by omega) t1 (by rw [(zq_t3 n (by omega) L hL _ tn).1, t2]; rfl) (fun q hq => by rw [(zq_t3 n (by omega) L hL q (by omega)).1, t3 q hq]; rfl)).1
  generalize zpl L = p at t1 t2 t3 tn us ⊢
  have hpp : 0 < 2 ^ p := Nat.pow_pos (by omega)
  have nn := zqM_n (d := d) (t := t) (p := p) h0 (by omega) (fun q hq => (hd p q (by omega) hq).2.1) hz
  refine zf_wq (g := g_G_pairPeople_2 M i a) (k := kb_G_pairPeople_2 M i a) (fun k (s : Int32 × Int32) => k ≤ n - 1 - p ∧ s.2 = Int32.ofNat (p + 1 + k) ∧ s.1 = zqM d t L p k) (fun (s : Int32 × Int32) => s.1 = zqM d t L p (n - 1 - p)) (n - 1 - p) (fun k s ⟨hk, h1, h2⟩ => ?_) 1000 0 _ ⟨by omega, zi_succ p, rfl⟩ (by omega)
  have ec : decide ((a.2 4 10) ≤ s.2) = decide (n ≤ p + 1 + k) := by rw [h10, h1]; exact zi_le (by omega) (by omega)
  by_cases hc : n ≤ p + 1 + k
  · rw [decide_eq_true hc] at ec
    have eg : g_G_pairPeople_2 M i a k s = (false, (s.1, s.2)) := by
      unfold g_G_pairPeople_2
      rw [ec, zk_t, zk_t, zk_t]
    have ek : kb_G_pairPeople_2 M i a k s := by
      unfold kb_G_pairPeople_2
      rw [ec]
      exact fun h => by cases h
    rw [eg]
    refine ⟨hk, ek, (fun h => by cases h), fun _ => ?_⟩
    show s.1 = _
    rw [h2, show k = n - 1 - p by omega]
  · rw [decide_eq_false hc] at ec
    obtain ⟨w1, w2⟩ := zq_gw (p := p) (q := p + 1 + k) hC hL tn (by omega) (by omega) t2
    have eg : g_G_pairPeople_2 M i a k s = (true, (v_jm_max s.1 (v_G_gainedWith a.2 (Int32.ofNat (2 ^ n - 1 - L)) (Int32.ofNat p) (Int32.ofNat (p + 1 + k))), s.2 + (1 : Int32))) := by
      unfold g_G_pairPeople_2
      rw [ec, zk_f, zk_f, zk_f, us, ha, h1]
    have ek : kb_G_pairPeople_2 M i a k s := by
      unfold kb_G_pairPeople_2
      rw [us, ha, h1]
      exact fun _ => w2
    rw [eg]
    refine ⟨hk, ek, fun _ => ⟨by omega, ?_, ?_⟩, (fun h => by cases h)⟩
    · show s.2 + (1 : Int32) = Int32.ofNat (p + 1 + (k + 1))
      rw [h1, zi_succ]; rfl
    · show v_jm_max s.1 (v_G_gainedWith a.2 (Int32.ofNat (2 ^ n - 1 - L)) (Int32.ofNat p) (Int32.ofNat (p + 1 + k))) = (bif L.testBit (p + 1 + k) then v_D_greater (zqM d t L p k) (d p (p + 1 + k) + t (L - 2 ^ p - 2 ^ (p + 1 + k))) else zqM d t L p k)
      have nk := (nn k (by omega)).1
      rw [← h2] at nk
      rw [w1]
      cases hb : L.testBit (p + 1 + k) with
      | false => rw [zk_f, zk_f, zmxn nk, h2]
      | true => rw [zk_t, zk_t, ht _ (Nat.lt_of_le_of_lt (Nat.sub_le _ _) (by omega)), zi_mg, h2]
/-- the class's table -/
theorem zq_ct {M R : zMem} {n : Nat} {t : Nat → Int32} (hn : n ≤ 6) (h10 : M 4 10 = Int32.ofNat n) (hS : zc_St M 4 (R 195)) (hB : zqB n (fun p q => v_D_apart R (Int32.ofNat p) (Int32.ofNat q)) t) : ((∀ L, L < 2 ^ n → (w_G_pairPeople M) 193 (2 ^ n - 1 - L) = t L) ∧ ∀ a q, a ≠ 193 → (w_G_pairPeople M) a q = M a q) ∧ ok_G_pairPeople M := by
  have h64 := z264 hn
  have hpos : 0 < 2 ^ n := Nat.pow_pos (by omega)
  have ev : v_S_everybody M 4 = Int32.ofNat (2 ^ n - 1) := by
    unfold v_S_everybody
    rw [h10]
    exact (zev n hn).1
  have hd : ∀ p q, p < 6 → q < 6 → zrg 0 31 (v_D_apart R (Int32.ofNat p) (Int32.ofNat q)) := fun p q hp hq => (zq_ap hS hp hq).2.1
  have hz := zqB_n hn (d := fun p q => v_D_apart R (Int32.ofNat p) (Int32.ofNat q)) hd hB
  unfold w_G_pairPeople ok_G_pairPeople
  rw [ev, zi_nat (by omega)]
  have lp := zf_wq (g := g_G_pairPeople_1 M) (k := kb_G_pairPeople_1 M) (fun i (s : Int32 × zMem) => i + 1 ≤ 2 ^ n ∧ s.1.toInt = (2 ^ n : Nat) - 2 - (i : Int) ∧ (∀ L, L < i + 1 → s.2 193 (2 ^ n - 1 - L) = t L) ∧ ∀ a q, a ≠ 193 → s.2 a q = M a q) (fun (s : Int32 × zMem) => (∀ L, L < 2 ^ n → s.2 193 (2 ^ n - 1 - L) = t L) ∧ ∀ a q, a ≠ 193 → s.2 a q = M a q) (2 ^ n) (fun i s ⟨hi, h1, h2, hf⟩ => ?_) 1000 0 ((Int32.ofNat (2 ^ n - 1) - (1 : Int32)), zz_up M 193 (2 ^ n - 1) (0 : Int32)) ⟨by omega, ?_, fun L hL => ?_, fun a q h => zu_o (by omega)⟩ (by omega)
  · exact ⟨lp.1, zi_in (by omega) (by omega), lp.2⟩
  · have e0 : decide (s.1 < 0) = decide (((2 ^ n : Nat) : Int) - 2 - (i : Int) < 0) := by rw [zg_lt0, h1]
    by_cases hc : ((2 ^ n : Nat) : Int) - 2 - (i : Int) < 0
    · rw [decide_eq_true hc] at e0
      have eg : g_G_pairPeople_1 M i s = (false, (s.1, s.2)) := by
        unfold g_G_pairPeople_1
        rw [e0, zk_t, zk_t, zk_t]
      have ek : kb_G_pairPeople_1 M i s := by
        unfold kb_G_pairPeople_1
        rw [e0]
        exact fun h => by cases h
      rw [eg]
      exact ⟨by omega, ek, (fun h => by cases h), fun _ => ⟨fun L hL => h2 L (by omega), hf⟩⟩
    · rw [decide_eq_false hc] at e0
      have hL : i + 1 < 2 ^ n := by omega
      have es : s.1 = Int32.ofNat (2 ^ n - 1 - (i + 1)) := zi_eq (by rw [h1, zi_val (by omega)]; omega)
      obtain ⟨t1, t2, t3⟩ := zq_t1 (i + 1) (by omega) (by omega)
      have tn := (zq_t5 n (by omega) (i + 1) hL).1 (by omega)
      obtain ⟨us, uok⟩ := zq_uns (S := 2 ^ n - 1 - (i + 1)) (p := zpl (i + 1)) (by omega) t1 (by rw [(zq_t3 n (by omega) (i + 1) hL _ tn).1, t2]; rfl) (fun q hq => by rw [(zq_t3 n (by omega) (i + 1) hL q (by omega)).1, t3 q hq]; rfl)
      have hlt : i + 1 - 2 ^ zpl (i + 1) < i + 1 := by
        have : 0 < 2 ^ zpl (i + 1) := Nat.pow_pos (by omega)
        omega
      have ei : s.1 ||| (zsl (1 : Int32) (v_G_firstUnsettled s.1)) = Int32.ofNat (2 ^ n - 1 - (i + 1 - 2 ^ zpl (i + 1))) := by
        rw [es, us, zN_sl1 _ (by omega), Nat.one_shiftLeft, zN_or, (zq_t3 n (by omega) (i + 1) hL _ tn).2 t2]
      have eu : v_G_firstUnsettled s.1 = Int32.ofNat (zpl (i + 1)) := by rw [es]; exact us
      have hS2 : zc_St s.2 4 (R 195) := zc_cg (fun j hj => funext fun q => hf _ _ (by omega)) (fun i _ => rfl) hS
      have hC : zqC s.2 n (fun p q => v_D_apart R (Int32.ofNat p) (Int32.ofNat q)) := ⟨hn, by rw [hf 4 10 (by omega)]; exact h10, fun p q hp hq => by
        obtain ⟨x1, x2, -, x4, x5⟩ := zq_ap hS2 hp hq
        exact ⟨x1, x2, x4, x5⟩⟩
      obtain ⟨c1, c2⟩ := zq_c2 (M := M) (i := i) hC (show i + 1 ≠ 0 by omega) hL es (fun x hx => h2 x hx) (fun x hx => hz x (by omega))
      have er : s.2 193 (Int32.ofNat (2 ^ n - 1 - (i + 1 - 2 ^ zpl (i + 1)))).toNatClampNeg = t (i + 1 - 2 ^ zpl (i + 1)) := by
        rw [zi_nat (Nat.lt_of_le_of_lt (Nat.sub_le _ _) (by omega))]
        exact h2 _ hlt
      have ew : (s.1).toNatClampNeg = 2 ^ n - 1 - (i + 1) := by rw [es, zi_nat (by omega)]
      have eg : g_G_pairPeople_1 M i s = (true, (s.1 + (-1 : Int32), zz_up s.2 193 (2 ^ n - 1 - (i + 1)) (zqM (fun p q => v_D_apart R (Int32.ofNat p) (Int32.ofNat q)) t (i + 1) (zpl (i + 1)) (n - 1 - zpl (i + 1))))) := by
        unfold g_G_pairPeople_1
        rw [e0, zk_f, zk_f, zk_f, ei, eu, er, ew, c1]
      have ek : kb_G_pairPeople_1 M i s := by
        unfold kb_G_pairPeople_1
        rw [ei, eu, er]
        refine fun _ => ⟨by rw [es]; exact uok, zi_in (Nat.lt_of_le_of_lt (Nat.sub_le _ _) (by omega)) (by omega), c2, by rw [es]; exact zi_in (by omega) (by omega)⟩
      rw [← hB.2 (i + 1) (by omega) hL] at eg
      rw [eg]
      refine ⟨by omega, ek, fun _ => ⟨by omega, ?_, fun L hL' => ?_, fun a q h => ?_⟩, (fun h => by cases h)⟩
      · show (s.1 + (-1 : Int32)).toInt = _
        rw [zi_dn h1 (by omega)]
        omega
      · show zz_up s.2 193 (2 ^ n - 1 - (i + 1)) (t (i + 1)) 193 (2 ^ n - 1 - L) = t L
        by_cases e : L = i + 1
        · rw [e, zu_at rfl rfl]
        · rw [zu_o (by omega)]; exact h2 L (by omega)
      · show zz_up s.2 193 (2 ^ n - 1 - (i + 1)) (t (i + 1)) a q = M a q
        rw [zu_o (by omega)]; exact hf a q h
  · show (Int32.ofNat (2 ^ n - 1) - (1 : Int32)).toInt = _
    rw [Int32.toInt_sub, zi_val (by omega), show (1 : Int32).toInt = 1 from rfl, Int.bmod_eq_of_le (by omega) (by omega)]
    omega
  · have e : L = 0 := by omega
    subst e
    show zz_up M 193 (2 ^ n - 1) (0 : Int32) 193 (2 ^ n - 1 - 0) = t 0
    rw [Nat.sub_zero, zu_at rfl rfl]
    exact hB.1.symm
