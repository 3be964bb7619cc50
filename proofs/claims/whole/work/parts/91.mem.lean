/-! MEMORY: what is elsewhere stays; loops by an invariant; copies of states. -/
theorem zb_ne {a b : Nat} (h : ¬ a = b) : Nat.beq a b = false := by
  cases e : Nat.beq a b with
  | false => rfl
  | true => exact absurd (Nat.eq_of_beq_eq_true e) h
theorem zu_o {α : Type} {M : Nat → Nat → α} {q k a i : Nat} {x : α} (h : ¬ (a = q ∧ i = k)) : zz_up M q k x a i = M a i := by
  by_cases e : a = q
  · exact zu_nk (zb_ne (fun e2 => h ⟨e, e2⟩))
  · exact zu_ne (zb_ne e)
theorem zu_at {α : Type} {M : Nat → Nat → α} {q k a i : Nat} {x : α} (h : a = q) (h2 : i = k) : zz_up M q k x a i = x := by
  subst h
  subst h2
  exact zu_eq
theorem zw_o {α : Type} {M : Nat → Nat → α} {q a i : Nat} {f : Nat → α} (h : ¬ a = q) : zz_row M q f a i = M a i := by
  unfold zz_row
  rw [zb_ne h]; rfl
theorem zw_e {α : Type} {M : Nat → Nat → α} {q i : Nat} {f : Nat → α} : zz_row M q f q i = f i := by
  unfold zz_row
  rw [Nat.beq_refl]; rfl
theorem zs_o {a i : Nat} (h : zs_scr a i = false) : (a ≠ 0 ∧ (a < 15 ∨ 25 < a) ∧ (a < 42 ∨ 50 < a) ∧ a ≠ 56 ∧ a ≠ 57 ∧ a ≠ 193 ∧ a ≠ 197 ∧ (a < 200 ∨ 203 < a)) ∧ (a = 2 → i < 2) ∧ (a = 194 → (i = 3 ∨ i = 6 ∨ i = 8 ∨ i = 12)) := by
  refine ⟨⟨fun e => ?_, ?_, ?_, fun e => ?_, fun e => ?_, fun e => ?_, fun e => ?_, ?_⟩, fun e => ?_, fun e => ?_⟩
  · subst e; cases h
  · by_cases c : 15 ≤ a ∧ a ≤ 25
    · rcases (show a = 15 ∨ a = 16 ∨ a = 17 ∨ a = 18 ∨ a = 19 ∨ a = 20 ∨ a = 21 ∨ a = 22 ∨ a = 23 ∨ a = 24 ∨ a = 25 by omega) with e | e | e | e | e | e | e | e | e | e | e <;> (subst e; cases h)
    · omega
  · by_cases c : 42 ≤ a ∧ a ≤ 50
    · rcases (show a = 42 ∨ a = 43 ∨ a = 44 ∨ a = 45 ∨ a = 46 ∨ a = 47 ∨ a = 48 ∨ a = 49 ∨ a = 50 by omega) with e | e | e | e | e | e | e | e | e <;> (subst e; cases h)
    · omega
  · subst e; cases h
  · subst e; cases h
  · subst e; cases h
  · subst e; cases h
  · by_cases c : 200 ≤ a ∧ a ≤ 203
    · rcases (show a = 200 ∨ a = 201 ∨ a = 202 ∨ a = 203 by omega) with e | e | e | e <;> (subst e; cases h)
    · omega
  · subst e
    have e2 : zs_scr 2 i = (Nat.ble 2 i || false) := rfl
    rw [e2] at h
    by_cases c : 2 ≤ i
    · rw [show Nat.ble 2 i = true from Nat.ble_eq.mpr c] at h
      cases h
    · omega
  · subst e
    by_cases c : i = 3 ∨ i = 6 ∨ i = 8 ∨ i = 12
    · exact c
    · have e2 : zs_scr 194 i = !(Nat.beq i 3 || (Nat.beq i 6 || (Nat.beq i 8 || (Nat.beq i 12 || false)))) := rfl
      rw [e2, zb_ne (show ¬ i = 3 by omega), zb_ne (show ¬ i = 6 by omega), zb_ne (show ¬ i = 8 by omega), zb_ne (show ¬ i = 12 by omega)] at h
      cases h
/-- only scratch cells change -/
theorem zv_sc {M M' : zMem} (hI : zv_Inv M) (h : ∀ a i, zs_scr a i = false → M' a i = M a i) (h1 : M' 194 15 = M 194 15) (h2 : M' 194 16 = M 194 16) : zv_Inv M' := zv_fr hI (zs_fr h) h1 h2
/-- a general loop by an invariant R, what is wanted of its end by Q -/
theorem zf_wq {α : Type} {g : Nat → α → Bool × α} {k : Nat → α → Prop} (R : Nat → α → Prop) (Q : α → Prop) (n : Nat) (h : ∀ i x, R i x → i ≤ n ∧ k i x ∧ ((g i x).1 = true → R (i + 1) (g i x).2) ∧ ((g i x).1 = false → Q (g i x).2)) : ∀ (N i : Nat) (a : α), R i a → n < N + i → Q (zf_wh N g i a) ∧ zf_wk N g k i a
  | 0, i, a, hR, hn => by
    have := (h i a hR).1
    omega
  | N + 1, i, a, hR, hn => by
    obtain ⟨h1, h2, h3, h4⟩ := h i a hR
    cases hc : (g i a).1 with
    | false =>
      refine ⟨?_, h2, fun hd => by rw [hc] at hd; cases hd⟩
      show Q (bif (g i a).1 then zf_wh N g (i + 1) (g i a).2 else (g i a).2)
      rw [hc]
      exact h4 hc
    | true =>
      obtain ⟨b1, b2⟩ := zf_wq R Q n h N (i + 1) (g i a).2 (h3 hc) (by omega)
      refine ⟨?_, h2, fun _ => b2⟩
      show Q (bif (g i a).1 then zf_wh N g (i + 1) (g i a).2 else (g i a).2)
      rw [hc]
      exact b1
/-- states copied -/
def zcp (M : zMem) (s r k q : Nat) (N : zMem) : Prop := (∀ a i, (a < s ∨ s + 10 < a) → N a i = M a i) ∧ (∀ j i, 1 ≤ j → j ≤ k → N (s + j) i = M (r + j) i) ∧ (∀ i, 10 ≤ i → i < 10 + q → N s i = M r i)
theorem zcp_r {M N : zMem} {s r : Nat} (hd : r + 10 < s ∨ s + 10 < r) (k : Nat) (hk : k < 10) (h : zcp M s r k 0 N) : zcp M s r (k + 1) 0 (zz_row N (s + (k + 1)) (N (r + (k + 1)))) := by
  obtain ⟨h1, h2, h3⟩ := h
  refine ⟨fun a i ha => ?_, fun j i j1 j2 => ?_, fun i i1 i2 => ?_⟩
  · rw [zw_o (by omega)]; exact h1 a i ha
  · by_cases e : j = k + 1
    · subst e
      rw [zw_e]; exact h1 _ i (by omega)
    · rw [zw_o (by omega)]; exact h2 j i j1 (by omega)
  · omega
theorem zcp_f {M N : zMem} {s r : Nat} (hd : r + 10 < s ∨ s + 10 < r) (q : Nat) (h : zcp M s r 10 q N) : zcp M s r 10 (q + 1) (zz_up N s (10 + q) (N r (10 + q))) := by
  obtain ⟨h1, h2, h3⟩ := h
  refine ⟨fun a i ha => ?_, fun j i j1 j2 => ?_, fun i i1 i2 => ?_⟩
  · rw [zu_o (by omega)]; exact h1 a i ha
  · rw [zu_o (by omega)]; exact h2 j i j1 j2
  · by_cases e : i = 10 + q
    · subst e
      rw [zu_eq]; exact h1 _ _ (by omega)
    · rw [zu_o (by omega)]; exact h3 i i1 (by omega)
theorem zcp_0 (M : zMem) (s r : Nat) : zcp M s r 0 0 M := ⟨fun _ _ _ => rfl, fun j i h1 h2 => by omega, fun i h1 h2 => by omega⟩
theorem zcp_all (M : zMem) {s r : Nat} (hd : r + 10 < s ∨ s + 10 < r) : zcp M s r 10 8 (w_S_copyFrom M s r) :=
  zcp_f hd 7 (zcp_f hd 6 (zcp_f hd 5 (zcp_f hd 4 (zcp_f hd 3 (zcp_f hd 2 (zcp_f hd 1 (zcp_f hd 0 (zcp_r hd 9 (by omega) (zcp_r hd 8 (by omega) (zcp_r hd 7 (by omega) (zcp_r hd 6 (by omega) (zcp_r hd 5 (by omega) (zcp_r hd 4 (by omega) (zcp_r hd 3 (by omega) (zcp_r hd 2 (by omega) (zcp_r hd 1 (by omega) (zcp_r hd 0 (by omega) (zcp_0 M s r))))))))))))))))))
/-- a copy is the same row -/
theorem zcp_St {M N : zMem} {s r : Nat} {w : Nat → Int32} (hc : zcp M s r 10 8 N) (hS : zc_St M r w) : zc_St N s w := by
  obtain ⟨-, h2, h3⟩ := hc
  obtain ⟨hK, hP, hF, hG⟩ := hS
  refine ⟨fun k hk => ?_, fun p hp => ?_, ?_, fun g hg => ?_⟩
  · rw [h2 1 k (by omega) (by omega), h2 2 k (by omega) (by omega), h2 3 k (by omega) (by omega)]
    exact hK k hk
  · rw [h2 4 p (by omega) (by omega), h2 5 p (by omega) (by omega), h2 6 p (by omega) (by omega), h2 7 p (by omega) (by omega), h2 8 p (by omega) (by omega), h2 9 p (by omega) (by omega)]
    exact hP p hp
  · unfold zc_F
    rw [h3 10 (by omega) (by omega), h3 11 (by omega) (by omega), h3 12 (by omega) (by omega), h3 13 (by omega) (by omega), h3 14 (by omega) (by omega), h3 15 (by omega) (by omega), h3 16 (by omega) (by omega), h3 17 (by omega) (by omega)]
    exact hF
  · rw [h3 16 (by omega) (by omega)] at hg
    rw [h3 17 (by omega) (by omega), h2 10 _ (by omega) (by omega)]
    exact hG g hg
/-- a state by its cells alone -/
theorem zc_pt {N N' : zMem} {s : Nat} {r r' : Nat → Int32} (h : ∀ a i, s ≤ a → a ≤ s + 10 → (a = s → 10 ≤ i) → N' a i = N a i) (hr : ∀ i, i < 309 → r' i = r i) (hS : zc_St N s r) : zc_St N' s r' := by
  obtain ⟨hK, hP, hF, hG⟩ := hS
  have hlog : ∀ g : Nat, (g : Int) < (N s 16).toInt → g < 60 := by
    intro g hg
    have h1 := hF.2.2.2.2.2.2.1.2
    omega
  have f : ∀ i, 10 ≤ i → N' s i = N s i := fun i hi => h s i (by omega) (by omega) (fun _ => hi)
  have e : ∀ j i, 1 ≤ j → j ≤ 10 → N' (s + j) i = N (s + j) i := fun j i j1 j2 => h (s + j) i (by omega) (by omega) (by omega)
  refine ⟨fun k hk => ?_, fun p hp => ?_, ?_, fun g hg => ?_⟩
  · rw [e 1 k (by omega) (by omega), e 2 k (by omega) (by omega), e 3 k (by omega) (by omega), hr (9 + 3 * k) (by omega), hr (10 + 3 * k) (by omega), hr (11 + 3 * k) (by omega)]
    exact hK k hk
  · rw [e 4 p (by omega) (by omega), e 5 p (by omega) (by omega), e 6 p (by omega) (by omega), e 7 p (by omega) (by omega), e 8 p (by omega) (by omega), e 9 p (by omega) (by omega), hr (33 + 6 * p) (by omega), hr (34 + 6 * p) (by omega), hr (35 + 6 * p) (by omega), hr (36 + 6 * p) (by omega), hr (37 + 6 * p) (by omega), hr (38 + 6 * p) (by omega)]
    exact hP p hp
  · unfold zc_F
    rw [f 10 (by omega), f 11 (by omega), f 12 (by omega), f 13 (by omega), f 14 (by omega), f 15 (by omega), f 16 (by omega), f 17 (by omega), hr 3 (by omega), hr 5 (by omega), hr 4 (by omega), hr 6 (by omega), hr 8 (by omega), hr 0 (by omega), hr 7 (by omega)]
    exact hF
  · rw [f 16 (by omega)] at hg
    have hl := hlog g hg
    rw [f 17 (by omega), e 10 _ (by omega) (by omega), hr (69 + 4 * g) (by omega), hr (70 + 4 * g) (by omega), hr (71 + 4 * g) (by omega), hr (72 + 4 * g) (by omega)]
    exact hG g hg
