/-! FEWEST PLACES: what 3 of call 5 -/
def zfU (Q : Nat → Nat) (k s : Nat) : Nat → Nat
  | 0 => 2 ^ k
  | p + 1 => bif s.testBit p then zfU Q k s p ||| Q p else zfU Q k s p
theorem zfU_cg {Q : Nat → Nat} {k s s' : Nat} : ∀ p, (∀ j, j < p → s.testBit j = s'.testBit j) → zfU Q k s p = zfU Q k s' p
  | 0, _ => rfl
  | p + 1, h => by
    show (bif s.testBit p then zfU Q k s p ||| Q p else zfU Q k s p) = (bif s'.testBit p then zfU Q k s' p ||| Q p else zfU Q k s' p)
    rw [zfU_cg p (fun j hj => h j (by omega)), h p (by omega)]
theorem zfU_lt {Q : Nat → Nat} {k s : Nat} (hQ : ∀ p, p < 16 → Q p < 256) (hk : k < 8) : ∀ p, p ≤ 16 → zfU Q k s p < 256
  | 0, _ => by
    have : 2 ^ k < 2 ^ 8 := Nat.pow_lt_pow_right (by omega) hk
    exact this
  | p + 1, hp => by
    show (bif s.testBit p then zfU Q k s p ||| Q p else zfU Q k s p) < 256
    have ih := zfU_lt (s := s) hQ hk p (by omega)
    cases s.testBit p
    · exact ih
    · exact Nat.or_lt_two_pow (n := 8) ih (hQ p (by omega))
theorem zfU_b {Q : Nat → Nat} {k s j : Nat} : ∀ p, (zfU Q k s p).testBit j = true ↔ (j = k ∨ ∃ i, i < p ∧ s.testBit i = true ∧ (Q i).testBit j = true)
  | 0 => by
    show (2 ^ k).testBit j = true ↔ _
    rw [Nat.testBit_two_pow]
    refine ⟨fun h => Or.inl (of_decide_eq_true h).symm, fun h => ?_⟩
    rcases h with h | ⟨i, hi, -⟩
    · exact decide_eq_true h.symm
    · omega
  | p + 1 => by
    have ih := zfU_b (Q := Q) (k := k) (s := s) (j := j) p
    show (bif s.testBit p then zfU Q k s p ||| Q p else zfU Q k s p).testBit j = true ↔ _
    cases hs : s.testBit p with
    | false =>
      rw [zk_f, ih]
      refine ⟨fun h => ?_, fun h => ?_⟩
      · rcases h with h | ⟨i, h1, h2⟩
        · exact Or.inl h
        · exact Or.inr ⟨i, by omega, h2⟩
      · rcases h with h | ⟨i, h1, h2⟩
        · exact Or.inl h
        · by_cases e : i = p
          · rw [e, hs] at h2; cases h2.1
          · exact Or.inr ⟨i, by omega, h2⟩
    | true =>
      rw [zk_t, Nat.testBit_or, Bool.or_eq_true, ih]
      refine ⟨fun h => ?_, fun h => ?_⟩
      · rcases h with (h | ⟨i, h1, h2⟩) | h
        · exact Or.inl h
        · exact Or.inr ⟨i, by omega, h2⟩
        · exact Or.inr ⟨p, by omega, hs, h⟩
      · rcases h with h | ⟨i, h1, h2⟩
        · exact Or.inl (Or.inl h)
        · by_cases e : i = p
          · rw [e] at h2; exact Or.inr h2.2
          · exact Or.inl (Or.inr ⟨i, by omega, h2⟩)
def zfD (Q : Nat → Nat) (k P : Nat) (b : Nat → Nat) : Prop := (∀ T, T < 256 → b T ≤ 1073741824) ∧ (∀ s, s < 2 ^ P → b (zfU Q k s P) ≤ 65536 * zpc s P + s) ∧ (∀ T, T < 256 → b T < 1073741824 → ∃ s, s < 2 ^ P ∧ zfU Q k s P = T ∧ b T = 65536 * zpc s P + s)
def zfI (b b' : Nat → Nat) (q c a : Nat) : Prop := (∀ T, T < 256 → b' T ≤ b T) ∧ (∀ T, T < a → b' (T ||| q) ≤ b T + c) ∧ (∀ T, T < 256 → b' T = b T ∨ ∃ T0, T0 < 256 ∧ T0 ||| q = T ∧ b' T = b T0 + c) ∧ (∀ T, T < 256 → ¬ T ||| q = T → b' T = b T)
theorem zorq (a q : Nat) : (a ||| q) ||| q = a ||| q := by rw [Nat.or_assoc, Nat.or_self]
theorem zfI_s {b b' : Nat → Nat} {q c a : Nat} (h : zfI b b' q c a) (ha : a < 256) (hq : q < 256) : zfI b (fun T => if T = a ||| q then min (b' (a ||| q)) (b' a + c) else b' T) q c (a + 1) := by
  obtain ⟨h1, h2, h3, h4⟩ := h
  have ht : a ||| q < 256 := Nat.or_lt_two_pow (n := 8) ha hq
  have hle : ∀ T, (if T = a ||| q then min (b' (a ||| q)) (b' a + c) else b' T) ≤ b' T := fun T => by
    by_cases e : T = a ||| q
    · rw [if_pos e, e]; omega
    · rw [if_neg e]; omega
  refine ⟨fun T hT => Nat.le_trans (hle T) (h1 T hT), fun T hT => ?_, fun T hT => ?_, fun T hT hn => ?_⟩
  · by_cases e : T = a
    · subst e
      show (if T ||| q = T ||| q then min (b' (T ||| q)) (b' T + c) else b' (T ||| q)) ≤ b T + c
      rw [if_pos rfl]
      have := h1 T ha
      omega
    · exact Nat.le_trans (hle _) (h2 T (by omega))
  · show (if T = a ||| q then min (b' (a ||| q)) (b' a + c) else b' T) = b T ∨ ∃ T0, T0 < 256 ∧ T0 ||| q = T ∧ (if T = a ||| q then min (b' (a ||| q)) (b' a + c) else b' T) = b T0 + c
    by_cases e : T = a ||| q
    · rw [if_pos e]
      by_cases m : b' (a ||| q) ≤ b' a + c
      · rw [Nat.min_eq_left m, ← e]; exact h3 T hT
      · rw [Nat.min_eq_right (by omega)]
        by_cases eq : a ||| q = a
        · rw [eq] at m; omega
        · rw [h4 a ha eq]
          exact Or.inr ⟨a, ha, e.symm, rfl⟩
    · rw [if_neg e]; exact h3 T hT
  · show (if T = a ||| q then min (b' (a ||| q)) (b' a + c) else b' T) = b T
    have e : ¬ T = a ||| q := fun e => hn (by rw [e]; exact zorq a q)
    rw [if_neg e]; exact h4 T hT hn
theorem zpow_lt {s P : Nat} (h : s < 2 ^ P) : s.testBit P = false := Nat.testBit_lt_two_pow h
theorem zpc_s (x n : Nat) : zpc x (n + 1) = zpc x n + (x.testBit n).toNat := by
  show zpc x n + ((x >>> n) &&& 1) = _
  rw [Nat.and_one_is_mod, Nat.shiftRight_eq_div_pow, ← Nat.toNat_testBit]
theorem zfD_s {Q : Nat → Nat} {k P : Nat} {b b' : Nat → Nat} (hQ : ∀ p, p < 16 → Q p < 256) (hk : k < 8) (hP : P < 16) (h : zfD Q k P b) (hi : zfI b b' (Q P) (65536 + 2 ^ P) 256) : zfD Q k (P + 1) b' := by
  obtain ⟨d1, d2, d3⟩ := h
  obtain ⟨i1, i2, i3, -⟩ := hi
  have up : ∀ s, s < 2 ^ P → (∀ j, j < P → (2 ^ P + s).testBit j = s.testBit j) ∧ (2 ^ P + s).testBit P = true ∧ zfU Q k (2 ^ P + s) (P + 1) = zfU Q k s P ||| Q P ∧ zpc (2 ^ P + s) (P + 1) = zpc s P + 1 := by
    intro s hs
    have a1 : ∀ j, j < P → (2 ^ P + s).testBit j = s.testBit j := fun j hj => Nat.testBit_two_pow_add_gt hj s
    have a2 : (2 ^ P + s).testBit P = true := by rw [Nat.testBit_two_pow_add_eq, zpow_lt hs]; rfl
    refine ⟨a1, a2, ?_, ?_⟩
    · show (bif (2 ^ P + s).testBit P then zfU Q k (2 ^ P + s) P ||| Q P else zfU Q k (2 ^ P + s) P) = _
      rw [a2, zk_t, zfU_cg P a1]
    · rw [zpc_s, a2, zpc_cg P a1]; rfl
  have dn : ∀ s, s < 2 ^ P → zfU Q k s (P + 1) = zfU Q k s P ∧ zpc s (P + 1) = zpc s P := by
    intro s hs
    refine ⟨?_, ?_⟩
    · show (bif s.testBit P then zfU Q k s P ||| Q P else zfU Q k s P) = _
      rw [zpow_lt hs, zk_f]
    · rw [zpc_s, zpow_lt hs]; rfl
  have hpp : 2 ^ (P + 1) = 2 ^ P + 2 ^ P := by rw [Nat.pow_succ]; omega
  refine ⟨fun T hT => Nat.le_trans (i1 T hT) (d1 T hT), fun s hs => ?_, fun T hT hb => ?_⟩
  · by_cases c : s < 2 ^ P
    · obtain ⟨e1, e2⟩ := dn s c
      rw [e1, e2]
      exact Nat.le_trans (i1 _ (zfU_lt hQ hk P (by omega))) (d2 s c)
    · obtain ⟨r, hr⟩ : ∃ r, s = 2 ^ P + r := ⟨s - 2 ^ P, by omega⟩
      have hr2 : r < 2 ^ P := by omega
      obtain ⟨-, -, e1, e2⟩ := up r hr2
      rw [hr, e1, e2]
      have := i2 _ (zfU_lt (s := r) hQ hk P (by omega))
      have := d2 r hr2
      omega
  · rcases i3 T hT with e | ⟨T0, t1, t2, t3⟩
    · rw [e] at hb ⊢
      obtain ⟨s, s1, s2, s3⟩ := d3 T hT hb
      obtain ⟨e1, e2⟩ := dn s s1
      exact ⟨s, by omega, by rw [e1]; exact s2, by rw [e2]; exact s3⟩
    · obtain ⟨s, s1, s2, s3⟩ := d3 T0 t1 (Nat.lt_of_le_of_lt (Nat.le_trans (Nat.le_add_right _ _) (Nat.le_of_eq t3.symm)) hb)
      obtain ⟨-, -, e1, e2⟩ := up s s1
      refine ⟨2 ^ P + s, by omega, by rw [e1, s2]; exact t2, ?_⟩
      rw [t3, s3, e2]
      omega
/-- what parts a kind from the others at a place -/
def zfe (M : zMem) (x : Int32) (P : Nat) : Int32 := (bif (decide (((zsr (v_S_kindsMarkedAt M 4 (Int32.ofNat P)) x) &&& (1 : Int32)) = 0)) then (v_S_kindsMarkedAt M 4 (Int32.ofNat P)) else ((255 : Int32) &&& ((v_S_kindsMarkedAt M 4 (Int32.ofNat P)) ^^^ (-1 : Int32))))
def zfq (M : zMem) (k P : Nat) : Nat := (zfe M (Int32.ofNat k) P).toNatClampNeg
def zfm (M : zMem) (d : Nat) : Nat := (M 5 d).toNatClampNeg
theorem zfm_e {M : zMem} (hI : zv_Inv M) {d : Nat} (hd : d < 8) : zfm M d < 65536 ∧ M 5 d = Int32.ofNat (zfm M d) := by
  obtain ⟨m, h1, h2, h3⟩ := zr_ex (zv_K hI hd).2.1
  unfold zfm
  rw [h3]
  exact ⟨by omega, h2⟩
theorem zkm_c {a M : zMem} (h : a 5 = M 5) (x : Int32) : v_S_kindsMarkedAt a 4 x = v_S_kindsMarkedAt M 4 x := zf_cg 8 _ (fun i _ b => by
  unfold f_S_kindsMarkedAt_1
  rw [show a (4 + 1) i = M (4 + 1) i from congrFun h i])
theorem zfe_c {a M : zMem} (h : a 5 = M 5) (x : Int32) (P : Nat) : zfe a x P = zfe M x P := by
  unfold zfe
  rw [zkm_c h]
theorem zfq_e {M : zMem} (hI : zv_Inv M) {k P : Nat} (hk : k < 8) (hP : P < 16) : zfe M (Int32.ofNat k) P = Int32.ofNat (zfq M k P) ∧ zfq M k P < 256 ∧ ∀ j, j < 8 → (zfq M k P).testBit j = ((zfm M j).testBit P != (zfm M k).testBit P) := by
  obtain ⟨A, a1, a2, a3⟩ := zh_km (N := M) (M' := M) (s := 4) (l := P) (zv_St hI) hP
  have a4 : ∀ d, d < 8 → A.testBit d = (zfm M d).testBit P := by
    intro d hd
    obtain ⟨m, m1, m2, m3⟩ := a3 d hd
    obtain ⟨f1, f2⟩ := zfm_e hI hd
    have m2 : M 5 d = Int32.ofNat m := m2
    rw [m2, zN_inj (by omega) (by omega)] at f2
    rw [m3, f2]
  have key : ∃ q, q < 256 ∧ zfe M (Int32.ofNat k) P = Int32.ofNat q ∧ ∀ j, j < 8 → q.testBit j = ((zfm M j).testBit P != (zfm M k).testBit P) := by
    unfold zfe
    rw [a2, zN_d0 A k (by omega) (by omega), a4 k hk]
    cases (zfm M k).testBit P with
    | false =>
      rw [Bool.not_false, zk_t]
      refine ⟨A, a1, rfl, fun j hj => ?_⟩
      rw [a4 j hj]
      cases (zfm M j).testBit P <;> rfl
    | true =>
      rw [Bool.not_true, zk_f, show (255 : Int32) = Int32.ofNat 255 from rfl]
      obtain ⟨c, c1, c2, c3⟩ := zN_not (a := 255) (b := A) (by omega) a1
      refine ⟨c, c1, c2, fun j hj => ?_⟩
      have e255 : ∀ j, j < 8 → (255 : Nat).testBit j = true := by decide +kernel
      rw [c3, e255 j hj, a4 j hj]
      cases (zfm M j).testBit P <;> rfl
  obtain ⟨q, q1, q2, q3⟩ := key
  have e : zfq M k P = q := by unfold zfq; rw [q2, zi_nat (by omega)]
  rw [e]
  exact ⟨q2, q1, q3⟩
theorem zfmin {x y c : Nat} (hx : x ≤ 1073741824) (hy : y ≤ 1073741824) (hc : c ≤ 131072) : v_jm_min (Int32.ofNat x) (Int32.ofNat y + Int32.ofNat c) = Int32.ofNat (min x (y + c)) := by
  apply zi_eq
  rw [zi_min, zi_ad, zi_val (by omega), zi_val (by omega), zi_val (by omega)]
  omega
theorem zfpr : ∀ P, P < 16 → (65536 : Int32) + zsl (1 : Int32) (Int32.ofNat P) = Int32.ofNat (65536 + 2 ^ P) ∧ 65536 + 2 ^ P ≤ 131072 := by decide +kernel
/-- one place in the class's table -/
theorem zf_pl {M a : zMem} (hI : zv_Inv M) {k P : Nat} (hk : k < 8) (hP : P < 16) {b : Nat → Nat} (hD : zfD (zfq M k) k P b) (hb : ∀ T, T < 256 → a 193 T = Int32.ofNat (b T)) (hf : ∀ r i, r ≠ 193 → a r i = M r i) : ∀ n, n ≤ 256 → ∃ b', zfI b b' (zfq M k P) (65536 + 2 ^ P) n ∧ (∀ T, T < 256 → (zf_for n (f_G_fewestPlaces_3 M (Int32.ofNat k) P a) a) 193 T = Int32.ofNat (b' T)) ∧ (∀ r i, r ≠ 193 → (zf_for n (f_G_fewestPlaces_3 M (Int32.ofNat k) P a) a) r i = M r i) := by
  have h5 : a 5 = M 5 := funext fun i => hf 5 i (by omega)
  obtain ⟨q1, q2, -⟩ := zfq_e hI hk hP
  rw [← zfe_c h5] at q1
  intro n
  induction n with
  | zero => exact fun _ => ⟨b, ⟨fun T _ => Nat.le_refl _, fun T hT => by omega, fun T _ => Or.inl rfl, fun T _ _ => rfl⟩, hb, hf⟩
  | succ n ih =>
    intro hn
    obtain ⟨b', i1, i2, i3⟩ := ih (by omega)
    have es : zf_for (n + 1) (f_G_fewestPlaces_3 M (Int32.ofNat k) P a) a = f_G_fewestPlaces_3 M (Int32.ofNat k) P a n (zf_for n (f_G_fewestPlaces_3 M (Int32.ofNat k) P a) a) := rfl
    rw [es]
    generalize zf_for n (f_G_fewestPlaces_3 M (Int32.ofNat k) P a) a = Z at i2 i3 ⊢
    have ht : n ||| zfq M k P < 256 := Nat.or_lt_two_pow (n := 8) (by omega) q2
    have l1 : b' (n ||| zfq M k P) ≤ 1073741824 := Nat.le_trans (i1.1 _ ht) (hD.1 _ ht)
    have l2 : b' n ≤ 1073741824 := Nat.le_trans (i1.1 n (by omega)) (hD.1 n (by omega))
    have ef : f_G_fewestPlaces_3 M (Int32.ofNat k) P a n Z = zz_up Z 193 (n ||| zfq M k P) (Int32.ofNat (min (b' (n ||| zfq M k P)) (b' n + (65536 + 2 ^ P)))) := by
      show zz_up Z 193 (Int32.ofNat n ||| zfe a (Int32.ofNat k) P).toNatClampNeg (v_jm_min (Z 193 (Int32.ofNat n ||| zfe a (Int32.ofNat k) P).toNatClampNeg) (Z 193 n + ((65536 : Int32) + zsl (1 : Int32) (Int32.ofNat P)))) = _
      rw [q1, zN_or, zi_nat (by omega), i2 _ ht, i2 n (by omega), (zfpr P hP).1, zfmin l1 l2 (zfpr P hP).2]
    rw [ef]
    refine ⟨_, zfI_s i1 (by omega) q2, fun T hT => ?_, fun r i hr => ?_⟩
    · show zz_up Z 193 (n ||| zfq M k P) _ 193 T = Int32.ofNat (if T = n ||| zfq M k P then min (b' (n ||| zfq M k P)) (b' n + (65536 + 2 ^ P)) else b' T)
      by_cases e : T = n ||| zfq M k P
      · rw [zu_at rfl e, if_pos e]
      · rw [zu_o (by omega), if_neg e]; exact i2 T hT
    · rw [zu_o (by omega)]; exact i3 r i hr
theorem zf_all {M : zMem} (hI : zv_Inv M) {k : Nat} (hk : k < 8) : ∀ n, n ≤ 16 → ∃ b, zfD (zfq M k) k n b ∧ (∀ T, T < 256 → (zf_for n (f_G_fewestPlaces_2 M (Int32.ofNat k)) (zz_up (zf_for 256 (f_G_fewestPlaces_1 M (Int32.ofNat k)) M) 193 (zsl (1 : Int32) (Int32.ofNat k)).toNatClampNeg (0 : Int32))) 193 T = Int32.ofNat (b T)) ∧ (∀ r i, r ≠ 193 → (zf_for n (f_G_fewestPlaces_2 M (Int32.ofNat k)) (zz_up (zf_for 256 (f_G_fewestPlaces_1 M (Int32.ofNat k)) M) 193 (zsl (1 : Int32) (Int32.ofNat k)).toNatClampNeg (0 : Int32))) r i = M r i) := by
  intro n
  induction n with
  | zero =>
    intro _
    have key := zf_ind (f := f_G_fewestPlaces_1 M (Int32.ofNat k)) (fun i (a : zMem) => (∀ T, T < i → a 193 T = (1073741824 : Int32)) ∧ (∀ r i, r ≠ 193 → a r i = M r i)) (a := M) 256 ⟨fun T hT => by omega, fun _ _ _ => rfl⟩ (fun i a hi ⟨h1, h2⟩ => by
      refine ⟨fun T hT => ?_, fun r j hr => ?_⟩
      · show zz_up a 193 i (1073741824 : Int32) 193 T = _
        by_cases e : T = i
        · rw [zu_at rfl e]
        · rw [zu_o (by omega)]; exact h1 T (by omega)
      · show zz_up a 193 i (1073741824 : Int32) r j = _
        rw [zu_o (by omega)]; exact h2 r j hr)
    have hp : 2 ^ k < 2 ^ 8 := Nat.pow_lt_pow_right (by omega) hk
    have ek : (zsl (1 : Int32) (Int32.ofNat k)).toNatClampNeg = 2 ^ k := by rw [zN_sl1 k (by omega), Nat.one_shiftLeft, zi_nat (by omega)]
    refine ⟨fun T => if T = 2 ^ k then 0 else 1073741824, ⟨fun T _ => ?_, fun s hs => ?_, fun T _ hT => ?_⟩, fun T hT => ?_, fun r i hr => ?_⟩
    · show (if T = 2 ^ k then 0 else 1073741824) ≤ 1073741824
      split <;> omega
    · rw [show zfU (zfq M k) k s 0 = 2 ^ k from rfl]
      show (if 2 ^ k = 2 ^ k then 0 else 1073741824) ≤ _
      rw [if_pos rfl]; omega
    · have hT : (if T = 2 ^ k then 0 else 1073741824) < 1073741824 := hT
      by_cases e : T = 2 ^ k
      · exact ⟨0, by decide, e.symm, by show (if T = 2 ^ k then 0 else 1073741824) = _; rw [if_pos e]; rfl⟩
      · rw [if_neg e] at hT; omega
    · show zz_up (zf_for 256 (f_G_fewestPlaces_1 M (Int32.ofNat k)) M) 193 (zsl (1 : Int32) (Int32.ofNat k)).toNatClampNeg (0 : Int32) 193 T = Int32.ofNat (if T = 2 ^ k then 0 else 1073741824)
      rw [ek]
      by_cases e : T = 2 ^ k
      · rw [zu_at rfl e, if_pos e]; rfl
      · rw [zu_o (by omega), if_neg e, key.1 T hT]; rfl
    · show zz_up (zf_for 256 (f_G_fewestPlaces_1 M (Int32.ofNat k)) M) 193 (zsl (1 : Int32) (Int32.ofNat k)).toNatClampNeg (0 : Int32) r i = _
      rw [zu_o (by omega)]; exact key.2 r i hr
  | succ n ih =>
    intro hn
    obtain ⟨b, d1, d2, d3⟩ := ih (by omega)
    have es : zf_for (n + 1) (f_G_fewestPlaces_2 M (Int32.ofNat k)) (zz_up (zf_for 256 (f_G_fewestPlaces_1 M (Int32.ofNat k)) M) 193 (zsl (1 : Int32) (Int32.ofNat k)).toNatClampNeg (0 : Int32)) = f_G_fewestPlaces_2 M (Int32.ofNat k) n (zf_for n (f_G_fewestPlaces_2 M (Int32.ofNat k)) (zz_up (zf_for 256 (f_G_fewestPlaces_1 M (Int32.ofNat k)) M) 193 (zsl (1 : Int32) (Int32.ofNat k)).toNatClampNeg (0 : Int32))) := rfl
    rw [es]
    generalize zf_for n (f_G_fewestPlaces_2 M (Int32.ofNat k)) (zz_up (zf_for 256 (f_G_fewestPlaces_1 M (Int32.ofNat k)) M) 193 (zsl (1 : Int32) (Int32.ofNat k)).toNatClampNeg (0 : Int32)) = Z at d2 d3 ⊢
    obtain ⟨b', i1, i2, i3⟩ := zf_pl hI hk (show n < 16 by omega) d1 d2 d3 256 (Nat.le_refl _)
    exact ⟨b', zfD_s (fun p hp => (zfq_e hI hk hp).2.1) hk (by omega) d1 i1, i2, i3⟩
/-- what tells a kind apart -/
def zTA (M : zMem) (k s : Nat) : Prop := ∀ j, j < 8 → j ≠ k → ((zfm M j) ^^^ (zfm M k)) &&& s ≠ 0
theorem zD_ta {M M' : zMem} (hI : zv_Inv M) (h : M' 195 = M 195) {k s : Nat} (hk : k < 8) (hs : s < 65536) : (v_D_tellsApart M' (Int32.ofNat k) (Int32.ofNat s) = true ↔ zTA M k s) ∧ ok_D_tellsApart M' (Int32.ofNat k) (Int32.ofNat s) := by
  have hm : ∀ d, d < 8 → v_D_ofKind M' (Int32.ofNat d) (0 : Int32) = Int32.ofNat (zfm M d) := fun d hd => by
    rw [← (zfm_e hI hd).2]; exact zq_kd hI h hd 0 (by omega)
  unfold v_D_tellsApart ok_D_tellsApart zTA
  refine zf_wq (g := g_D_tellsApart_1 M' (Int32.ofNat k) (Int32.ofNat s)) (k := kb_D_tellsApart_1 M' (Int32.ofNat k) (Int32.ofNat s)) (fun i (b : Bool) => i ≤ 8 ∧ (b = true ↔ ∀ j, j < i → j ≠ k → ((zfm M j) ^^^ (zfm M k)) &&& s ≠ 0)) (fun (b : Bool) => (b = true ↔ ∀ j, j < 8 → j ≠ k → ((zfm M j) ^^^ (zfm M k)) &&& s ≠ 0)) 8 (fun i b ⟨hi, h2⟩ => ?_) 1000 0 true ⟨by omega, fun _ j hj => by omega, fun _ => rfl⟩ (by omega)
  unfold g_D_tellsApart_1 kb_D_tellsApart_1
  rw [zi_8i (by omega)]
  by_cases c : 8 ≤ i
  · have e : i = 8 := by omega
    subst e
    rw [decide_eq_true c]
    exact ⟨hi, (fun h => by cases h), (fun h => by cases h), fun _ => h2⟩
  · rw [decide_eq_false c, hm i (by omega), hm k hk, zN_xor, zN_and, zN_eq (by omega) (by omega), show (0 : Int32) = Int32.ofNat 0 from rfl, zN_eq (Nat.lt_of_le_of_lt Nat.and_le_right (by omega)) (by omega)]
    cases b with
    | false =>
      refine ⟨hi, (fun _ h => by cases h), (fun h => by cases h), fun _ => ⟨(fun h => by cases h), fun h => ?_⟩⟩
      exact absurd (h2.mpr (fun j hj => h j (by omega))) (by decide)
    | true =>
      refine ⟨hi, fun _ _ _ => ⟨zd_kdk _ (by omega) (k := 0) (by omega), zd_kdk _ hk (k := 0) (by omega)⟩, fun _ => ⟨by omega, ?_⟩, (fun h => by cases h)⟩
      show (bif false then true else (bif true then (bif decide (i = k) then true else (bif decide (((zfm M i) ^^^ (zfm M k)) &&& s = 0) then false else true)) else true)) = true ↔ _
      rw [zk_f, zk_t]
      have h3 := h2.mp rfl
      by_cases c1 : i = k
      · rw [decide_eq_true c1, zk_t]
        refine ⟨fun _ j hj hne => ?_, fun _ => rfl⟩
        exact h3 j (by omega) hne
      · rw [decide_eq_false c1, zk_f]
        by_cases c2 : ((zfm M i) ^^^ (zfm M k)) &&& s = 0
        · rw [decide_eq_true c2, zk_t]
          exact ⟨(fun h => by cases h), fun h => absurd c2 (h i (by omega) c1)⟩
        · rw [decide_eq_false c2, zk_f]
          refine ⟨fun _ j hj hne => ?_, fun _ => rfl⟩
          by_cases e : j = i
          · rw [e]; exact c2
          · exact h3 j (by omega) hne
theorem zne_b {x : Nat} : x ≠ 0 ↔ ∃ p, x.testBit p = true := by
  refine ⟨fun h => Nat.exists_testBit_of_ne_zero h, fun ⟨p, hp⟩ e => ?_⟩
  rw [e, Nat.zero_testBit] at hp
  cases hp
theorem zTA_U {M : zMem} (hI : zv_Inv M) {k s : Nat} (hk : k < 8) (hs : s < 65536) : zTA M k s ↔ zfU (zfq M k) k s 16 = 255 := by
  have hlt := zfU_lt (Q := zfq M k) (s := s) (fun p hp => (zfq_e hI hk hp).2.1) hk 16 (Nat.le_refl _)
  have e255 : ∀ j, j < 8 → (255 : Nat).testBit j = true := by decide +kernel
  refine ⟨fun h => ?_, fun h j hj hne => ?_⟩
  · apply Nat.eq_of_testBit_eq
    intro j
    by_cases c : j < 8
    · rw [e255 j c, zfU_b]
      by_cases e : j = k
      · exact Or.inl e
      · obtain ⟨p, hp⟩ := zne_b.mp (h j c e)
        rw [Nat.testBit_and, Bool.and_eq_true, Nat.testBit_xor] at hp
        have hp16 : p < 16 := by
          by_cases c16 : p < 16
          · exact c16
          · rw [zhi hs c16] at hp; cases hp.2
        refine Or.inr ⟨p, hp16, hp.2, ?_⟩
        rw [(zfq_e hI hk hp16).2.2 j c]
        exact hp.1
    · rw [Nat.testBit_lt_two_pow (Nat.lt_of_lt_of_le hlt (Nat.pow_le_pow_right (n := 2) (i := 8) (by omega) (by omega))), Nat.testBit_lt_two_pow (Nat.lt_of_lt_of_le (show 255 < 2 ^ 8 by decide) (Nat.pow_le_pow_right (n := 2) (i := 8) (by omega) (by omega)))]
  · have hb : (zfU (zfq M k) k s 16).testBit j = true := by rw [h]; exact e255 j hj
    rcases zfU_b 16 |>.mp hb with e | ⟨p, p1, p2, p3⟩
    · exact absurd e hne
    · rw [zne_b]
      refine ⟨p, ?_⟩
      rw [(zfq_e hI hk p1).2.2 j hj] at p3
      rw [Nat.testBit_and, Bool.and_eq_true, Nat.testBit_xor]
      exact ⟨p3, p2⟩
theorem zb16 {x : Nat} (hx : x < 65536) : v_D_bits (Int32.ofNat x) = Int32.ofNat (zpc x 16) := by
  rw [zN_bits (by omega), show (31 : Nat) = 16 + 15 from rfl, zpc_hi hx 15]
theorem z16f {x : Nat} (hx : x < 65536) (h : zpc x 16 = 16) : x = 65535 := by
  have e : ∀ q, q < 16 → (65535 : Nat).testBit q = true := by decide +kernel
  have m := zpc_m (a := x) (b := 65535) 16 (fun q hq _ => e q hq)
  exact zeq16 hx (by omega) (m.2 (by rw [h]; decide +kernel))
/-- the reference's search -/
theorem zD_few {M M' : zMem} (hI : zv_Inv M) (h : M' 195 = M 195) {k : Nat} (hk : k < 8) (h0 : zTA M k 65535) : ∀ n, n ≤ 65535 → ∃ F, F < 65536 ∧ zf_for n (f_D_few_1 M' (Int32.ofNat k)) (65535 : Int32) = Int32.ofNat F ∧ zTA M k F ∧ (F < n ∨ F = 65535) ∧ ∀ s, s < n → zTA M k s → 65536 * zpc F 16 + F ≤ 65536 * zpc s 16 + s
  | 0, _ => ⟨65535, by omega, rfl, h0, Or.inr rfl, fun s hs => by omega⟩
  | n + 1, hn => by
    obtain ⟨F, f1, f2, f3, f4, f5⟩ := zD_few hI h hk h0 n (by omega)
    have es : zf_for (n + 1) (f_D_few_1 M' (Int32.ofNat k)) (65535 : Int32) = f_D_few_1 M' (Int32.ofNat k) n (zf_for n (f_D_few_1 M' (Int32.ofNat k)) (65535 : Int32)) := rfl
    rw [es, f2]
    unfold f_D_few_1
    have t1 := zpc_le2 F 16
    have t2 := zpc_le2 n 16
    rw [zb16 f1, zb16 (show n < 65536 by omega), zi_le (by omega) (by omega)]
    by_cases c : zpc F 16 ≤ zpc n 16
    · rw [decide_eq_true c, zk_t]
      refine ⟨F, f1, rfl, f3, by omega, fun s hs hT => ?_⟩
      by_cases e : s = n
      · subst e
        rcases f4 with g | g
        · omega
        · have g16 : zpc F 16 = 16 := by rw [g]; decide +kernel
          have := z16f (x := s) (by omega) (by omega)
          omega
      · exact f5 s (by omega) hT
    · rw [decide_eq_false c, zk_f]
      obtain ⟨a1, -⟩ := zD_ta (s := n) hI h hk (by omega)
      cases hT : v_D_tellsApart M' (Int32.ofNat k) (Int32.ofNat n) with
      | true =>
        rw [zk_t]
        refine ⟨n, by omega, rfl, a1.mp hT, Or.inl (by omega), fun s hs hs2 => ?_⟩
        by_cases e : s = n
        · rw [e]; omega
        · have := f5 s (by omega) hs2
          omega
      | false =>
        rw [zk_f]
        refine ⟨F, f1, rfl, f3, by omega, fun s hs hs2 => ?_⟩
        by_cases e : s = n
        · rw [e] at hs2
          rw [a1.mpr hs2] at hT
          cases hT
        · exact f5 s (by omega) hs2
theorem zq_few {M : zMem} (hI : zv_Inv M) {k : Nat} (hk : k < 8) (M' : zMem) (h : M' 195 = M 195) : v_G_fewestPlaces M (Int32.ofNat k) = v_D_few M' (Int32.ofNat k) ∧ ok_G_fewestPlaces M (Int32.ofNat k) ∧ ok_D_few M' (Int32.ofNat k) ∧ (∀ r i, r ≠ 193 → w_G_fewestPlaces M (Int32.ofNat k) r i = M r i) := by
  obtain ⟨b, ⟨d1, d2, d3⟩, e1, e2⟩ := zf_all hI hk 16 (Nat.le_refl _)
  have e16 : ∀ y, y &&& 65535 = y % 65536 := fun y => by
    have := Nat.and_two_pow_sub_one_eq_mod y 16
    rw [show (2 : Nat) ^ 16 = 65536 by decide +kernel, show 65536 - 1 = 65535 by decide +kernel] at this
    exact this
  have hp : 2 ^ k < 2 ^ 8 := Nat.pow_lt_pow_right (by omega) hk
  have okG : ok_G_fewestPlaces M (Int32.ofNat k) := by
    refine ⟨by rw [zN_sl1 k (by omega), Nat.one_shiftLeft]; exact zi_in (by omega) (by omega), fun P hP n hn => ?_⟩
    obtain ⟨b2, -, -, g3⟩ := zf_all hI hk P (by omega)
    obtain ⟨q1, q2, -⟩ := zfq_e hI hk hP
    show zz_in (Int32.ofNat n ||| zfe (zf_for P (f_G_fewestPlaces_2 M (Int32.ofNat k)) (zz_up (zf_for 256 (f_G_fewestPlaces_1 M (Int32.ofNat k)) M) 193 (zsl (1 : Int32) (Int32.ofNat k)).toNatClampNeg (0 : Int32))) (Int32.ofNat k) P) 448 = true
    rw [zfe_c (funext fun i => g3 5 i (by omega)), q1, zN_or]
    have : n ||| zfq M k P < 256 := Nat.or_lt_two_pow (n := 8) hn q2
    exact zi_in (by omega) (by omega)
  obtain ⟨a1, a2⟩ := zD_ta (s := 65535) hI h hk (by omega)
  have a1 : v_D_tellsApart M' (Int32.ofNat k) (65535 : Int32) = true ↔ zTA M k 65535 := a1
  have hb := d1 255 (by omega)
  have mono : ∀ s, s < 65536 → zTA M k s → zTA M k 65535 := by
    intro s hs ht j hj hne
    obtain ⟨p, hp⟩ := zne_b.mp (ht j hj hne)
    rw [Nat.testBit_and, Bool.and_eq_true] at hp
    have hp16 : p < 16 := by
      by_cases c16 : p < 16
      · exact c16
      · rw [zhi hs c16] at hp; cases hp.2
    have e : ∀ q, q < 16 → (65535 : Nat).testBit q = true := by decide +kernel
    rw [zne_b]
    exact ⟨p, by rw [Nat.testBit_and, hp.1, e p hp16]; rfl⟩
  have eb : (zf_for 16 (f_G_fewestPlaces_2 M (Int32.ofNat k)) (zz_up (zf_for 256 (f_G_fewestPlaces_1 M (Int32.ofNat k)) M) 193 (zsl (1 : Int32) (Int32.ofNat k)).toNatClampNeg (0 : Int32))) 193 255 = Int32.ofNat (b 255) := e1 255 (by omega)
  have ed : decide (Int32.ofNat (b 255) < (1073741824 : Int32)) = decide (b 255 < 1073741824) := by
    rw [zi_lti, zi_val (by omega), show (1073741824 : Int32).toInt = 1073741824 from rfl]
    exact decide_eq_decide.mpr (by omega)
  unfold v_G_fewestPlaces v_D_few ok_D_few
  rw [eb, ed]
  by_cases hT : zTA M k 65535
  · have hU := (zTA_U hI hk (s := 65535) (by omega)).mp hT
    have hc := d2 65535 (by decide)
    rw [hU] at hc
    have t0 := zpc_le2 65535 16
    have hlt : b 255 < 1073741824 := by omega
    obtain ⟨s, s1, s2, s3⟩ := d3 255 (by omega) hlt
    have s1 : s < 65536 := s1
    have sT : zTA M k s := (zTA_U hI hk s1).mpr s2
    obtain ⟨F, f1, f2, f3, f4, f5⟩ := zD_few hI h hk hT 65535 (Nat.le_refl _)
    have hF := d2 F f1
    rw [(zTA_U hI hk f1).mp f3] at hF
    have hle : 65536 * zpc F 16 + F ≤ 65536 * zpc s 16 + s := by
      by_cases c : s < 65535
      · exact f5 s c sT
      · have es : s = 65535 := by omega
        rcases f4 with g | g
        · have u1 := zpc_le2 F 16
          have u2 : zpc s 16 = 16 := by rw [es]; decide +kernel
          by_cases u3 : zpc F 16 = 16
          · have := z16f f1 u3
            omega
          · omega
        · exact Nat.le_of_eq (by rw [g, es])
    have eq : s = F := by omega
    rw [decide_eq_true hlt, a1.mpr hT, zk_t, zk_t, f2, s3, show (65535 : Int32) = Int32.ofNat 65535 from rfl, zN_and, e16]
    refine ⟨congrArg Int32.ofNat (by omega), okG, ⟨a2, fun _ i hi _ => (zD_ta (s := i) hI h hk (by omega)).2⟩, e2⟩
  · have hlt : ¬ b 255 < 1073741824 := fun hl => by
      obtain ⟨s, s1, s2, -⟩ := d3 255 (by omega) hl
      exact hT (mono s s1 ((zTA_U hI hk s1).mpr s2))
    have hv : v_D_tellsApart M' (Int32.ofNat k) (65535 : Int32) = false := by
      cases hc : v_D_tellsApart M' (Int32.ofNat k) (65535 : Int32) with
      | false => rfl
      | true => exact absurd (a1.mp hc) hT
    rw [decide_eq_false hlt, hv, zk_f, zk_f]
    exact ⟨rfl, okG, ⟨a2, fun hh => by cases hh⟩, e2⟩
