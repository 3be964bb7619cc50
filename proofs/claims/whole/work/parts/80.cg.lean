/-! the invariant's parts under changes elsewhere -/
theorem zc_cg {N N' : zMem} {s : Nat} {r r' : Nat → Int32} (h : ∀ j, j ≤ 10 → N' (s + j) = N (s + j)) (hr : ∀ i, i < 309 → r' i = r i) (hS : zc_St N s r) : zc_St N' s r' := by
  have h0 : N' s = N s := h 0 (by omega)
  obtain ⟨hK, hP, hF, hG⟩ := hS
  have hlog : ∀ g : Nat, (g : Int) < (N s 16).toInt → g < 60 := by
    intro g hg
    have h1 := hF.2.2.2.2.2.2.1.2
    omega
  refine ⟨fun k hk => ?_, fun p hp => ?_, ?_, fun g hg => ?_⟩
  · rw [h 1 (by omega), h 2 (by omega), h 3 (by omega), hr (9 + 3 * k) (by omega), hr (10 + 3 * k) (by omega), hr (11 + 3 * k) (by omega)]
    exact hK k hk
  · rw [h 4 (by omega), h 5 (by omega), h 6 (by omega), h 7 (by omega), h 8 (by omega), h 9 (by omega), hr (33 + 6 * p) (by omega), hr (34 + 6 * p) (by omega), hr (35 + 6 * p) (by omega), hr (36 + 6 * p) (by omega), hr (37 + 6 * p) (by omega), hr (38 + 6 * p) (by omega)]
    exact hP p hp
  · unfold zc_F
    rw [h0, hr 3 (by omega), hr 5 (by omega), hr 4 (by omega), hr 6 (by omega), hr 8 (by omega), hr 0 (by omega), hr 7 (by omega)]
    exact hF
  · rw [h0] at hg ⊢
    have hl := hlog g hg
    rw [h 10 (by omega), hr (69 + 4 * g) (by omega), hr (70 + 4 * g) (by omega), hr (71 + 4 * g) (by omega), hr (72 + 4 * g) (by omega)]
    exact hG g hg
theorem zpTx_cg {f g : Nat → Int32} {n : Nat} (h : ∀ i, i < n → f i = g i) : zpTx f n = zpTx g n := by
  funext i
  unfold zpTx
  by_cases hi : i < n
  · rw [decide_eq_true hi, zk_t, zk_t, h i hi]
  · rw [decide_eq_false hi, zk_f, zk_f]
theorem zc_LwC {N N' : zMem} {l : Nat} {r r' : Nat → Int32} (h : ∀ j, j ≤ 4 → N' (l + j) = N (l + j)) (hr : ∀ i, (i = 1 ∨ i = 2 ∨ (309 ≤ i ∧ i < 709)) → r' i = r i) (hL : zc_Lw N l r) : zc_Lw N' l r' := by
  obtain ⟨a, b, c, d⟩ := hL
  have h0 : N' l = N l := h 0 (by omega)
  have h1 : N' (l + 1) = N (l + 1) := h 1 (by omega)
  have h2 : N' (l + 2) = N (l + 2) := h 2 (by omega)
  have h3 : N' (l + 3) = N (l + 3) := h 3 (by omega)
  have h4 : N' (l + 4) = N (l + 4) := h 4 (by omega)
  have e1 : r' 1 = r 1 := hr 1 (Or.inl rfl)
  have e2 : r' 2 = r 2 := hr 2 (Or.inr (Or.inl rfl))
  have c2 := c.2
  have et : zpTx (fun i => r' (309 + i)) (r 2).toInt.toNat = zpTx (fun i => r (309 + i)) (r 2).toInt.toNat := zpTx_cg (fun i hi => hr (309 + i) (Or.inr (Or.inr ⟨by omega, by omega⟩)))
  unfold zc_Lw
  rw [h0, e1, e2, et]
  refine ⟨a, b, c, fun hh => ?_⟩
  have hd := d hh
  unfold zpObj zpEnc at hd ⊢
  rw [h0, h1, h2, h3, h4]
  exact hd
/-- only the tape changes -/
theorem zc_tp {N N' : zMem} (hr : ∀ a, a ≠ 2 → a ≠ 3 → a ≠ 199 → a ≠ 194 → N' a = N a) (h3 : N' 194 3 = N 194 3) (h6 : N' 194 6 = N 194 6) (h12 : N' 194 12 = N 194 12) (hT : zc_T N') (hN : zc_All N) : zc_All N' := by
  obtain ⟨hS, hL, -, hF, hA, hK⟩ := hN
  have e195 : N' 195 = N 195 := hr 195 (by omega) (by omega) (by omega) (by omega)
  have e196 : N' 196 = N 196 := hr 196 (by omega) (by omega) (by omega) (by omega)
  have e198 : N' 198 = N 198 := hr 198 (by omega) (by omega) (by omega) (by omega)
  have e1 : N' 1 = N 1 := hr 1 (by omega) (by omega) (by omega) (by omega)
  have e58 : N' 58 = N 58 := hr 58 (by omega) (by omega) (by omega) (by omega)
  have e37 : N' 37 = N 37 := hr 37 (by omega) (by omega) (by omega) (by omega)
  have e51 : N' 51 = N 51 := hr 51 (by omega) (by omega) (by omega) (by omega)
  refine ⟨zc_cg (fun j hj => hr _ (by omega) (by omega) (by omega) (by omega)) (fun i _ => by rw [e195]) hS, ?_, hT, by rw [e1, h12]; exact hF, ⟨?_, fun b hb => ?_⟩, ?_⟩
  · exact zc_LwC (fun j hj => hr _ (by omega) (by omega) (by omega) (by omega)) (fun i _ => by rw [e195]) hL
  · rw [e58, h6]; exact hA.1
  · rw [e58] at hb
    obtain ⟨a1, a2, a3⟩ := hA.2 b hb
    have hm : ((N 58 1).toInt.toNat + 11 - b) % 12 < 12 := Nat.mod_lt _ (by omega)
    rw [e58, e195]
    refine ⟨zc_cg (fun j hj => hr _ (by omega) (by omega) (by omega) (by omega)) (fun i _ => by rw [e198]) a1, ?_, ?_⟩
    · rw [e198]; exact a2
    · rw [e198]; exact a3
  · unfold zc_I
    rw [e1, h3, e196]
    refine ⟨hK.1, hK.2.1, fun hh => ?_⟩
    obtain ⟨b1, b2⟩ := hK.2.2 hh
    exact ⟨zc_cg (fun j hj => hr _ (by omega) (by omega) (by omega) (by omega)) (fun i _ => rfl) b1, zc_LwC (fun j hj => hr _ (by omega) (by omega) (by omega) (by omega)) (fun i _ => rfl) b2⟩
