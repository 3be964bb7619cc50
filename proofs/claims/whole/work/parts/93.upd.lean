/-! ONE CELL of a state changes, on both sides. -/
def zrf (j : Nat) (x : Int32) : Prop := match j with
  | 0 => zrg (-1) 7 x
  | 1 => zrg 0 65535 x
  | 2 => zrg 0 99 x
  | 3 => zrg 0 9 x
  | 4 => zrg 0 255 x
  | _ => zrg 0 999 x
def zrk (j : Nat) (x : Int32) : Prop := match j with
  | 0 => zrg 0 65535 x
  | 1 => zrg 0 7 x
  | _ => zrg (-1) 7 x
theorem zc_Pj {N : zMem} {s : Nat} {r : Nat → Int32} (hP : zc_P N s r) : ∀ q, q < 6 → ∀ j, j < 6 → N (s + 4 + j) q = r (33 + 6 * q + j) ∧ zrf j (N (s + 4 + j) q) := by
  intro q hq j hj
  obtain ⟨⟨a0, a1, a2, a3, a4, a5⟩, b0, b1, b2, b3, b4, b5⟩ := hP q hq
  match j, hj with
  | 0, _ => exact ⟨a0, b0⟩
  | 1, _ => exact ⟨by rw [show 33 + 6 * q + 1 = 34 + 6 * q by omega]; exact a1, b1⟩
  | 2, _ => exact ⟨by rw [show 33 + 6 * q + 2 = 35 + 6 * q by omega]; exact a2, b2⟩
  | 3, _ => exact ⟨by rw [show 33 + 6 * q + 3 = 36 + 6 * q by omega]; exact a3, b3⟩
  | 4, _ => exact ⟨by rw [show 33 + 6 * q + 4 = 37 + 6 * q by omega]; exact a4, b4⟩
  | 5, _ => exact ⟨by rw [show 33 + 6 * q + 5 = 38 + 6 * q by omega]; exact a5, b5⟩
  | j + 6, hj => exact absurd hj (by omega)
theorem zc_jP {N : zMem} {s : Nat} {r : Nat → Int32} (h : ∀ q, q < 6 → ∀ j, j < 6 → N (s + 4 + j) q = r (33 + 6 * q + j) ∧ zrf j (N (s + 4 + j) q)) : zc_P N s r := by
  intro q hq
  have h0 := h q hq 0 (by omega)
  have h1 := h q hq 1 (by omega)
  have h2 := h q hq 2 (by omega)
  have h3 := h q hq 3 (by omega)
  have h4 := h q hq 4 (by omega)
  have h5 := h q hq 5 (by omega)
  rw [show 33 + 6 * q + 1 = 34 + 6 * q by omega] at h1
  rw [show 33 + 6 * q + 2 = 35 + 6 * q by omega] at h2
  rw [show 33 + 6 * q + 3 = 36 + 6 * q by omega] at h3
  rw [show 33 + 6 * q + 4 = 37 + 6 * q by omega] at h4
  rw [show 33 + 6 * q + 5 = 38 + 6 * q by omega] at h5
  exact ⟨⟨h0.1, h1.1, h2.1, h3.1, h4.1, h5.1⟩, h0.2, h1.2, h2.2, h3.2, h4.2, h5.2⟩
theorem zc_Kj {N : zMem} {s : Nat} {r : Nat → Int32} (hK : zc_K N s r) : ∀ q, q < 8 → ∀ j, j < 3 → N (s + 1 + j) q = r (9 + 3 * q + j) ∧ zrk j (N (s + 1 + j) q) := by
  intro q hq j hj
  obtain ⟨⟨a0, a1, a2⟩, b0, b1, b2⟩ := hK q hq
  match j, hj with
  | 0, _ => exact ⟨a0, b0⟩
  | 1, _ => exact ⟨by rw [show 9 + 3 * q + 1 = 10 + 3 * q by omega]; exact a1, b1⟩
  | 2, _ => exact ⟨by rw [show 9 + 3 * q + 2 = 11 + 3 * q by omega]; exact a2, b2⟩
  | j + 3, hj => exact absurd hj (by omega)
theorem zc_jK {N : zMem} {s : Nat} {r : Nat → Int32} (h : ∀ q, q < 8 → ∀ j, j < 3 → N (s + 1 + j) q = r (9 + 3 * q + j) ∧ zrk j (N (s + 1 + j) q)) : zc_K N s r := by
  intro q hq
  have h0 := h q hq 0 (by omega)
  have h1 := h q hq 1 (by omega)
  have h2 := h q hq 2 (by omega)
  rw [show 9 + 3 * q + 1 = 10 + 3 * q by omega] at h1
  rw [show 9 + 3 * q + 2 = 11 + 3 * q by omega] at h2
  exact ⟨⟨h0.1, h1.1, h2.1⟩, h0.2, h1.2, h2.2⟩
theorem zc_FC {N N' : zMem} {s : Nat} {r r' : Nat → Int32} (h : ∀ i, 10 ≤ i → i < 18 → N' s i = N s i) (hr : ∀ i, i < 9 → r' i = r i) (hF : zc_F N s r) : zc_F N' s r' := by
  unfold zc_F
  rw [h 10 (by omega) (by omega), h 11 (by omega) (by omega), h 12 (by omega) (by omega), h 13 (by omega) (by omega), h 14 (by omega) (by omega), h 15 (by omega) (by omega), h 16 (by omega) (by omega), h 17 (by omega) (by omega), hr 3 (by omega), hr 5 (by omega), hr 4 (by omega), hr 6 (by omega), hr 8 (by omega), hr 0 (by omega), hr 7 (by omega)]
  exact hF
theorem zc_GC {N N' : zMem} {s : Nat} {r r' : Nat → Int32} (h16 : N' s 16 = N s 16) (h17 : N' s 17 = N s 17) (h : ∀ i, N' (s + 10) i = N (s + 10) i) (hr : ∀ i, 69 ≤ i → i < 309 → r' i = r i) (hF : zc_F N s r) (hG : zc_G N s r) : zc_G N' s r' := by
  intro g hg
  rw [h16] at hg
  have h1 := hF.2.2.2.2.2.2.1.2
  rw [h17, h, hr (69 + 4 * g) (by omega) (by omega), hr (70 + 4 * g) (by omega) (by omega), hr (71 + 4 * g) (by omega) (by omega), hr (72 + 4 * g) (by omega) (by omega)]
  exact hG g hg
/-- of a person -/
theorem zc_uP {N R : zMem} {s : Nat} (hS : zc_St N s (R 195)) {p f : Nat} (hp : p < 6) (hf : f < 6) {v : Int32} (hv : zrf f v) : zc_St (zz_up N (s + 4 + f) p v) s ((zz_up R 195 (33 + 6 * p + f) v) 195) := by
  obtain ⟨hK, hP, hF, hG⟩ := hS
  have hK := zc_Kj hK
  have hP := zc_Pj hP
  refine ⟨zc_jK fun q hq j hj => ?_, zc_jP fun q hq j hj => ?_, zc_FC (fun i _ _ => zu_o (by omega)) (fun i _ => zu_o (by omega)) hF, zc_GC (zu_o (by omega)) (zu_o (by omega)) (fun i => zu_o (by omega)) (fun i _ _ => zu_o (by omega)) hF hG⟩
  · rw [zu_o (by omega), zu_o (by omega)]
    exact hK q hq j hj
  · by_cases c : q = p ∧ j = f
    · obtain ⟨c1, c2⟩ := c
      subst c1
      subst c2
      rw [zu_eq, zu_eq]
      exact ⟨rfl, hv⟩
    · rw [zu_o (by omega), zu_o (by omega)]
      exact hP q hq j hj
/-- of a kind -/
theorem zc_uK {N R : zMem} {s : Nat} (hS : zc_St N s (R 195)) {p f : Nat} (hp : p < 8) (hf : f < 3) {v : Int32} (hv : zrk f v) : zc_St (zz_up N (s + 1 + f) p v) s ((zz_up R 195 (9 + 3 * p + f) v) 195) := by
  obtain ⟨hK, hP, hF, hG⟩ := hS
  have hK := zc_Kj hK
  have hP := zc_Pj hP
  refine ⟨zc_jK fun q hq j hj => ?_, zc_jP fun q hq j hj => ?_, zc_FC (fun i _ _ => zu_o (by omega)) (fun i _ => zu_o (by omega)) hF, zc_GC (zu_o (by omega)) (zu_o (by omega)) (fun i => zu_o (by omega)) (fun i _ _ => zu_o (by omega)) hF hG⟩
  · by_cases c : q = p ∧ j = f
    · obtain ⟨c1, c2⟩ := c
      subst c1
      subst c2
      rw [zu_eq, zu_eq]
      exact ⟨rfl, hv⟩
    · rw [zu_o (by omega), zu_o (by omega)]
      exact hK q hq j hj
  · rw [zu_o (by omega), zu_o (by omega)]
    exact hP q hq j hj
theorem zc_uF10 {N R : zMem} {s : Nat} (hS : zc_St N s (R 195)) {v : Int32} (hv : zrg 0 6 v) : zc_St (zz_up N s 10 v) s ((zz_up R 195 3 v) 195) := by
  obtain ⟨hK, hP, hF, hG⟩ := hS
  have hK := zc_Kj hK
  have hP := zc_Pj hP
  refine ⟨zc_jK fun q hq j hj => ?_, zc_jP fun q hq j hj => ?_, ⟨⟨(by rw [zu_eq, zu_eq]), (by rw [zu_o (by omega), zu_o (by omega)]; exact hF.1.2.1), (by rw [zu_o (by omega), zu_o (by omega)]; exact hF.1.2.2.1), (by rw [zu_o (by omega), zu_o (by omega)]; exact hF.1.2.2.2.1), (by rw [zu_o (by omega), zu_o (by omega)]; exact hF.1.2.2.2.2.1), (by rw [zu_o (by omega), zu_o (by omega)]; exact hF.1.2.2.2.2.2.1), (by rw [zu_o (by omega), zu_o (by omega)]; exact hF.1.2.2.2.2.2.2)⟩, ⟨(by rw [zu_eq]; exact hv), (by rw [zu_o (by omega)]; exact hF.2.2.1), (by rw [zu_o (by omega)]; exact hF.2.2.2.1), (by rw [zu_o (by omega)]; exact hF.2.2.2.2.1), (by rw [zu_o (by omega)]; exact hF.2.2.2.2.2.1), (by rw [zu_o (by omega)]; exact hF.2.2.2.2.2.2.1), (by rw [zu_o (by omega)]; exact hF.2.2.2.2.2.2.2)⟩⟩, zc_GC (zu_o (by omega)) (zu_o (by omega)) (fun i => zu_o (by omega)) (fun i _ _ => zu_o (by omega)) hF hG⟩
  · rw [zu_o (by omega), zu_o (by omega)]
    exact hK q hq j hj
  · rw [zu_o (by omega), zu_o (by omega)]
    exact hP q hq j hj
theorem zc_uF11 {N R : zMem} {s : Nat} (hS : zc_St N s (R 195)) {v : Int32} (hv : zrg 0 100 v) : zc_St (zz_up N s 11 v) s ((zz_up R 195 5 v) 195) := by
  obtain ⟨hK, hP, hF, hG⟩ := hS
  have hK := zc_Kj hK
  have hP := zc_Pj hP
  refine ⟨zc_jK fun q hq j hj => ?_, zc_jP fun q hq j hj => ?_, ⟨⟨(by rw [zu_o (by omega), zu_o (by omega)]; exact hF.1.1), (by rw [zu_eq, zu_eq]), (by rw [zu_o (by omega), zu_o (by omega)]; exact hF.1.2.2.1), (by rw [zu_o (by omega), zu_o (by omega)]; exact hF.1.2.2.2.1), (by rw [zu_o (by omega), zu_o (by omega)]; exact hF.1.2.2.2.2.1), (by rw [zu_o (by omega), zu_o (by omega)]; exact hF.1.2.2.2.2.2.1), (by rw [zu_o (by omega), zu_o (by omega)]; exact hF.1.2.2.2.2.2.2)⟩, ⟨(by rw [zu_o (by omega)]; exact hF.2.1), (by rw [zu_eq]; exact hv), (by rw [zu_o (by omega)]; exact hF.2.2.2.1), (by rw [zu_o (by omega)]; exact hF.2.2.2.2.1), (by rw [zu_o (by omega)]; exact hF.2.2.2.2.2.1), (by rw [zu_o (by omega)]; exact hF.2.2.2.2.2.2.1), (by rw [zu_o (by omega)]; exact hF.2.2.2.2.2.2.2)⟩⟩, zc_GC (zu_o (by omega)) (zu_o (by omega)) (fun i => zu_o (by omega)) (fun i _ _ => zu_o (by omega)) hF hG⟩
  · rw [zu_o (by omega), zu_o (by omega)]
    exact hK q hq j hj
  · rw [zu_o (by omega), zu_o (by omega)]
    exact hP q hq j hj
theorem zc_uF12 {N R : zMem} {s : Nat} (hS : zc_St N s (R 195)) {v : Int32} (hv : zrg 0 9999 v) : zc_St (zz_up N s 12 v) s ((zz_up R 195 4 v) 195) := by
  obtain ⟨hK, hP, hF, hG⟩ := hS
  have hK := zc_Kj hK
  have hP := zc_Pj hP
  refine ⟨zc_jK fun q hq j hj => ?_, zc_jP fun q hq j hj => ?_, ⟨⟨(by rw [zu_o (by omega), zu_o (by omega)]; exact hF.1.1), (by rw [zu_o (by omega), zu_o (by omega)]; exact hF.1.2.1), (by rw [zu_eq, zu_eq]), (by rw [zu_o (by omega), zu_o (by omega)]; exact hF.1.2.2.2.1), (by rw [zu_o (by omega), zu_o (by omega)]; exact hF.1.2.2.2.2.1), (by rw [zu_o (by omega), zu_o (by omega)]; exact hF.1.2.2.2.2.2.1), (by rw [zu_o (by omega), zu_o (by omega)]; exact hF.1.2.2.2.2.2.2)⟩, ⟨(by rw [zu_o (by omega)]; exact hF.2.1), (by rw [zu_o (by omega)]; exact hF.2.2.1), (by rw [zu_eq]; exact hv), (by rw [zu_o (by omega)]; exact hF.2.2.2.2.1), (by rw [zu_o (by omega)]; exact hF.2.2.2.2.2.1), (by rw [zu_o (by omega)]; exact hF.2.2.2.2.2.2.1), (by rw [zu_o (by omega)]; exact hF.2.2.2.2.2.2.2)⟩⟩, zc_GC (zu_o (by omega)) (zu_o (by omega)) (fun i => zu_o (by omega)) (fun i _ _ => zu_o (by omega)) hF hG⟩
  · rw [zu_o (by omega), zu_o (by omega)]
    exact hK q hq j hj
  · rw [zu_o (by omega), zu_o (by omega)]
    exact hP q hq j hj
theorem zc_uF13 {N R : zMem} {s : Nat} (hS : zc_St N s (R 195)) {v : Int32} (hv : zrg 0 9999 v) : zc_St (zz_up N s 13 v) s ((zz_up R 195 6 v) 195) := by
  obtain ⟨hK, hP, hF, hG⟩ := hS
  have hK := zc_Kj hK
  have hP := zc_Pj hP
  refine ⟨zc_jK fun q hq j hj => ?_, zc_jP fun q hq j hj => ?_, ⟨⟨(by rw [zu_o (by omega), zu_o (by omega)]; exact hF.1.1), (by rw [zu_o (by omega), zu_o (by omega)]; exact hF.1.2.1), (by rw [zu_o (by omega), zu_o (by omega)]; exact hF.1.2.2.1), (by rw [zu_eq, zu_eq]), (by rw [zu_o (by omega), zu_o (by omega)]; exact hF.1.2.2.2.2.1), (by rw [zu_o (by omega), zu_o (by omega)]; exact hF.1.2.2.2.2.2.1), (by rw [zu_o (by omega), zu_o (by omega)]; exact hF.1.2.2.2.2.2.2)⟩, ⟨(by rw [zu_o (by omega)]; exact hF.2.1), (by rw [zu_o (by omega)]; exact hF.2.2.1), (by rw [zu_o (by omega)]; exact hF.2.2.2.1), (by rw [zu_eq]; exact hv), (by rw [zu_o (by omega)]; exact hF.2.2.2.2.2.1), (by rw [zu_o (by omega)]; exact hF.2.2.2.2.2.2.1), (by rw [zu_o (by omega)]; exact hF.2.2.2.2.2.2.2)⟩⟩, zc_GC (zu_o (by omega)) (zu_o (by omega)) (fun i => zu_o (by omega)) (fun i _ _ => zu_o (by omega)) hF hG⟩
  · rw [zu_o (by omega), zu_o (by omega)]
    exact hK q hq j hj
  · rw [zu_o (by omega), zu_o (by omega)]
    exact hP q hq j hj
theorem zc_uF14 {N R : zMem} {s : Nat} (hS : zc_St N s (R 195)) {v : Int32} (hv : True) : zc_St (zz_up N s 14 v) s ((zz_up R 195 8 v) 195) := by
  obtain ⟨hK, hP, hF, hG⟩ := hS
  have hK := zc_Kj hK
  have hP := zc_Pj hP
  refine ⟨zc_jK fun q hq j hj => ?_, zc_jP fun q hq j hj => ?_, ⟨⟨(by rw [zu_o (by omega), zu_o (by omega)]; exact hF.1.1), (by rw [zu_o (by omega), zu_o (by omega)]; exact hF.1.2.1), (by rw [zu_o (by omega), zu_o (by omega)]; exact hF.1.2.2.1), (by rw [zu_o (by omega), zu_o (by omega)]; exact hF.1.2.2.2.1), (by rw [zu_eq, zu_eq]), (by rw [zu_o (by omega), zu_o (by omega)]; exact hF.1.2.2.2.2.2.1), (by rw [zu_o (by omega), zu_o (by omega)]; exact hF.1.2.2.2.2.2.2)⟩, ⟨(by rw [zu_o (by omega)]; exact hF.2.1), (by rw [zu_o (by omega)]; exact hF.2.2.1), (by rw [zu_o (by omega)]; exact hF.2.2.2.1), (by rw [zu_o (by omega)]; exact hF.2.2.2.2.1), (by rw [zu_o (by omega)]; exact hF.2.2.2.2.2.1), (by rw [zu_o (by omega)]; exact hF.2.2.2.2.2.2.1), (by rw [zu_o (by omega)]; exact hF.2.2.2.2.2.2.2)⟩⟩, zc_GC (zu_o (by omega)) (zu_o (by omega)) (fun i => zu_o (by omega)) (fun i _ _ => zu_o (by omega)) hF hG⟩
  · rw [zu_o (by omega), zu_o (by omega)]
    exact hK q hq j hj
  · rw [zu_o (by omega), zu_o (by omega)]
    exact hP q hq j hj
theorem zc_uF15 {N R : zMem} {s : Nat} (hS : zc_St N s (R 195)) {v : Int32} (hv : zrg 0 12 v) : zc_St (zz_up N s 15 v) s ((zz_up R 195 0 v) 195) := by
  obtain ⟨hK, hP, hF, hG⟩ := hS
  have hK := zc_Kj hK
  have hP := zc_Pj hP
  refine ⟨zc_jK fun q hq j hj => ?_, zc_jP fun q hq j hj => ?_, ⟨⟨(by rw [zu_o (by omega), zu_o (by omega)]; exact hF.1.1), (by rw [zu_o (by omega), zu_o (by omega)]; exact hF.1.2.1), (by rw [zu_o (by omega), zu_o (by omega)]; exact hF.1.2.2.1), (by rw [zu_o (by omega), zu_o (by omega)]; exact hF.1.2.2.2.1), (by rw [zu_o (by omega), zu_o (by omega)]; exact hF.1.2.2.2.2.1), (by rw [zu_eq, zu_eq]), (by rw [zu_o (by omega), zu_o (by omega)]; exact hF.1.2.2.2.2.2.2)⟩, ⟨(by rw [zu_o (by omega)]; exact hF.2.1), (by rw [zu_o (by omega)]; exact hF.2.2.1), (by rw [zu_o (by omega)]; exact hF.2.2.2.1), (by rw [zu_o (by omega)]; exact hF.2.2.2.2.1), (by rw [zu_eq]; exact hv), (by rw [zu_o (by omega)]; exact hF.2.2.2.2.2.2.1), (by rw [zu_o (by omega)]; exact hF.2.2.2.2.2.2.2)⟩⟩, zc_GC (zu_o (by omega)) (zu_o (by omega)) (fun i => zu_o (by omega)) (fun i _ _ => zu_o (by omega)) hF hG⟩
  · rw [zu_o (by omega), zu_o (by omega)]
    exact hK q hq j hj
  · rw [zu_o (by omega), zu_o (by omega)]
    exact hP q hq j hj
/-- the reference's log moves on -/
theorem zl_c {i : Nat} (hi : i ≤ 236) {c : Int32} (hc : c = Int32.ofNat (239 - i)) : decide (c < (4 : Int32)) = decide (236 ≤ i) ∧ c + (-1 : Int32) = Int32.ofNat (239 - i) - Int32.ofNat 1 ∧ ((69 : Int32) + c) = Int32.ofNat (308 - i) ∧ (((69 : Int32) + c) - (4 : Int32)) = Int32.ofNat (304 - i) := by
  have e1 : ((69 : Int32) + c) = Int32.ofNat (308 - i) := by
    rw [hc, show (69 : Int32) = Int32.ofNat 69 from rfl, zi_ad]
    congr 1
    omega
  refine ⟨?_, ?_, e1, ?_⟩
  · rw [hc, zi_lti, zi_val (by omega)]
    refine decide_eq_decide.mpr ?_
    have : (4 : Int32).toInt = 4 := rfl
    omega
  · rw [hc]
    apply zi_eq
    rw [Int32.toInt_add, zi_sub (by rw [zi_val (by omega), zi_val (by omega)]; omega) (by rw [zi_val (by omega), zi_val (by omega)]; omega), zi_val (by omega), zi_val (by omega), show (-1 : Int32).toInt = -1 from rfl]
    exact Int.bmod_eq_of_le (by omega) (by omega)
  · rw [e1, show (4 : Int32) = Int32.ofNat 4 from rfl, zN_sub (by omega)]
    congr 1
    omega
theorem zl_w (M : zMem) (x0 x1 x2 : Int32) : ((∀ j, 73 ≤ j → j < 309 → (zf_wh 1000 (g_D_logs_1 M x0 x1 x2) 0 ((239 : Int32), M)).2 195 j = M 195 (j - 4)) ∧ (∀ a j, ¬ (a = 195 ∧ 73 ≤ j ∧ j < 309) → (zf_wh 1000 (g_D_logs_1 M x0 x1 x2) 0 ((239 : Int32), M)).2 a j = M a j)) ∧ ok_D_logs M x0 x1 x2 := by
  refine zf_wq (k := kb_D_logs_1 M x0 x1 x2) (fun i (st : Int32 × zMem) => i ≤ 236 ∧ st.1 = Int32.ofNat (239 - i) ∧ (∀ j, 309 - i ≤ j → j < 309 → st.2 195 j = M 195 (j - 4)) ∧ (∀ a j, ¬ (a = 195 ∧ 309 - i ≤ j ∧ j < 309) → st.2 a j = M a j)) (fun (st : Int32 × zMem) => (∀ j, 73 ≤ j → j < 309 → st.2 195 j = M 195 (j - 4)) ∧ (∀ a j, ¬ (a = 195 ∧ 73 ≤ j ∧ j < 309) → st.2 a j = M a j)) 236 ?_ 1000 0 ((239 : Int32), M) ⟨by omega, rfl, fun j h1 h2 => by omega, fun a j _ => rfl⟩ (by omega)
  intro i st ⟨hi, hc, h1, h2⟩
  obtain ⟨q1, q2, q3, q4⟩ := zl_c hi hc
  refine ⟨hi, ?_, ?_, ?_⟩
  · unfold kb_D_logs_1
    rw [q1, q4, q3]
    intro hd
    have hd := of_decide_eq_false hd
    exact ⟨zi_in (by omega) (by omega), zi_in (by omega) (by omega)⟩
  · unfold g_D_logs_1
    rw [q1, q2, q4, q3, zi_nat (by omega), zi_nat (by omega)]
    by_cases c : 236 ≤ i
    · rw [decide_eq_true c]
      intro h; cases h
    · rw [decide_eq_false c]
      intro _
      refine ⟨by omega, ?_, fun j j1 j2 => ?_, fun a j hj => ?_⟩
      · show Int32.ofNat (239 - i) - Int32.ofNat 1 = _
        rw [zN_sub (by omega)]
        congr 1
      · show zz_up st.2 195 (308 - i) (st.2 195 (304 - i)) 195 j = _
        by_cases e : j = 308 - i
        · subst e
          rw [zu_eq, h2 195 (304 - i) (by omega)]
          congr 1
          omega
        · rw [zu_o (by omega)]
          exact h1 j (by omega) j2
      · show zz_up st.2 195 (308 - i) (st.2 195 (304 - i)) a j = _
        rw [zu_o (by omega)]
        exact h2 a j (by omega)
  · unfold g_D_logs_1
    rw [q1]
    by_cases c : 236 ≤ i
    · rw [decide_eq_true c]
      intro _
      exact ⟨fun j j1 j2 => h1 j (by omega) j2, fun a j hj => h2 a j (by omega)⟩
    · rw [decide_eq_false c]
      intro h; cases h
theorem zl_D (M : zMem) (x0 x1 x2 : Int32) : ((∀ j, 73 ≤ j → j < 309 → w_D_logs M x0 x1 x2 195 j = M 195 (j - 4)) ∧ w_D_logs M x0 x1 x2 195 69 = M 195 4 ∧ w_D_logs M x0 x1 x2 195 70 = x1 ∧ w_D_logs M x0 x1 x2 195 71 = x0 ∧ w_D_logs M x0 x1 x2 195 72 = x2 ∧ w_D_logs M x0 x1 x2 195 7 = v_D_lesser (60 : Int32) (M 195 7 + (1 : Int32)) ∧ (∀ a j, ¬ (a = 195 ∧ (j = 7 ∨ (69 ≤ j ∧ j < 309))) → w_D_logs M x0 x1 x2 a j = M a j)) ∧ ok_D_logs M x0 x1 x2 := by
  obtain ⟨⟨h1, h2⟩, h3⟩ := zl_w M x0 x1 x2
  unfold w_D_logs
  refine ⟨⟨fun j j1 j2 => ?_, ?_, ?_, ?_, ?_, ?_, fun a j hj => ?_⟩, h3⟩
  · rw [zu_o (by omega), zu_o (by omega), zu_o (by omega), zu_o (by omega), zu_o (by omega)]
    exact h1 j j1 j2
  · rw [zu_o (by omega), zu_o (by omega), zu_o (by omega), zu_o (by omega), zu_eq, h2 195 4 (by omega)]
  · rw [zu_o (by omega), zu_o (by omega), zu_o (by omega), zu_eq]
  · rw [zu_o (by omega), zu_o (by omega), zu_eq]
  · rw [zu_o (by omega), zu_eq]
  · rw [zu_eq, h2 195 7 (by omega)]
  · rw [zu_o (by omega), zu_o (by omega), zu_o (by omega), zu_o (by omega), zu_o (by omega)]
    exact h2 a j (by omega)
theorem zi_r60 : ∀ t, t < 60 → zrm (Int32.ofNat t + (1 : Int32)) (60 : Int32) = Int32.ofNat ((t + 1) % 60) := by decide +kernel
theorem zi_m60 : ∀ k, k ≤ 60 → v_jm_min (Int32.ofNat k + (1 : Int32)) (60 : Int32) = Int32.ofNat (min (k + 1) 60) ∧ v_D_lesser (60 : Int32) (Int32.ofNat k + (1 : Int32)) = Int32.ofNat (min (k + 1) 60) := by decide +kernel
/-- the class's log -/
theorem zl_N {N : zMem} {s : Nat} {r : Nat → Int32} (hF : zc_F N s r) (x0 x1 x2 : Int32) : ∃ t c, t < 60 ∧ c ≤ 60 ∧ N s 17 = Int32.ofNat t ∧ N s 16 = Int32.ofNat c ∧ ok_S_addRow N s x0 x1 x2 ∧ w_S_addRow N s x0 x1 x2 = zz_up (zz_up (zz_up N (s + 10) t (((((N s 12 * (8 : Int32)) + x0) * (4 : Int32)) + x1) * (16 : Int32) + x2)) s 17 (Int32.ofNat ((t + 1) % 60))) s 16 (Int32.ofNat (min (c + 1) 60)) := by
  obtain ⟨t, t1, t2, t3⟩ := zr_ex hF.2.2.2.2.2.2.2
  obtain ⟨c, c1, c2, -⟩ := zr_ex hF.2.2.2.2.2.2.1
  have q1 : decide (Int32.ofNat t < 0) = false := by
    rw [zg_lt0, zi_val (by omega)]; exact decide_eq_false (by omega)
  have q2 : decide (Int32.ofNat t < (60 : Int32)) = true := by
    rw [zi_lti, zi_val (by omega)]
    exact decide_eq_true (by show (t : Int) < 60; omega)
  refine ⟨t, c, by omega, by omega, t2, c2, ?_, ?_⟩
  · unfold ok_S_addRow
    rw [t2]
    exact fun _ _ => zi_in (by omega) (by omega)
  · unfold w_S_addRow
    rw [t3, t2, c2, q1, q2, zk_f, zk_t, zi_r60 t (by omega), (zi_m60 c (by omega)).1]
/-- a row is added -/
theorem zc_uG {N R : zMem} {s : Nat} (hS : zc_St N s (R 195)) {p q v : Nat} (hp : p ≤ 5) (hq : q ≤ 3) (hv : v ≤ 15) : zc_St (w_S_addRow N s (Int32.ofNat p) (Int32.ofNat q) (Int32.ofNat v)) s ((w_D_logs R (Int32.ofNat q) (Int32.ofNat p) (Int32.ofNat v)) 195) := by
  obtain ⟨hK, hP, hF, hG⟩ := hS
  have hK := zc_Kj hK
  have hP := zc_Pj hP
  obtain ⟨t, c, ht, hc, t2, c2, -, ew⟩ := zl_N hF (Int32.ofNat p) (Int32.ofNat q) (Int32.ofNat v)
  obtain ⟨⟨l1, l2, l3, l4, l5, l6, l7⟩, -⟩ := zl_D R (Int32.ofNat q) (Int32.ofNat p) (Int32.ofNat v)
  have rr : ∀ i, i < 69 → i ≠ 7 → w_D_logs R (Int32.ofNat q) (Int32.ofNat p) (Int32.ofNat v) 195 i = R 195 i := fun i h1 h2 => l7 195 i (by omega)
  have e7 : R 195 7 = Int32.ofNat c := by rw [← c2]; exact hF.1.2.2.2.2.2.2.symm
  have hm : (t + 1) % 60 < 60 := Nat.mod_lt _ (by omega)
  rw [ew]
  refine ⟨zc_jK fun k hk j hj => ?_, zc_jP fun k hk j hj => ?_, ⟨⟨?_, ?_, ?_, ?_, ?_, ?_, ?_⟩, ⟨?_, ?_, ?_, ?_, ?_, ?_, ?_⟩⟩, fun g hg => ?_⟩
  · rw [zu_o (by omega), zu_o (by omega), zu_o (by omega), rr _ (by omega) (by omega)]
    exact hK k hk j hj
  · rw [zu_o (by omega), zu_o (by omega), zu_o (by omega), rr _ (by omega) (by omega)]
    exact hP k hk j hj
  · rw [zu_o (by omega), zu_o (by omega), zu_o (by omega), rr _ (by omega) (by omega)]; exact hF.1.1
  · rw [zu_o (by omega), zu_o (by omega), zu_o (by omega), rr _ (by omega) (by omega)]; exact hF.1.2.1
  · rw [zu_o (by omega), zu_o (by omega), zu_o (by omega), rr _ (by omega) (by omega)]; exact hF.1.2.2.1
  · rw [zu_o (by omega), zu_o (by omega), zu_o (by omega), rr _ (by omega) (by omega)]; exact hF.1.2.2.2.1
  · rw [zu_o (by omega), zu_o (by omega), zu_o (by omega), rr _ (by omega) (by omega)]; exact hF.1.2.2.2.2.1
  · rw [zu_o (by omega), zu_o (by omega), zu_o (by omega), rr _ (by omega) (by omega)]; exact hF.1.2.2.2.2.2.1
  · rw [zu_eq, l6, e7, (zi_m60 c hc).2]
  · rw [zu_o (by omega), zu_o (by omega), zu_o (by omega)]; exact hF.2.1
  · rw [zu_o (by omega), zu_o (by omega), zu_o (by omega)]; exact hF.2.2.1
  · rw [zu_o (by omega), zu_o (by omega), zu_o (by omega)]; exact hF.2.2.2.1
  · rw [zu_o (by omega), zu_o (by omega), zu_o (by omega)]; exact hF.2.2.2.2.1
  · rw [zu_o (by omega), zu_o (by omega), zu_o (by omega)]; exact hF.2.2.2.2.2.1
  · rw [zu_eq]; exact ⟨by rw [zi_val (by omega)]; omega, by rw [zi_val (by omega)]; omega⟩
  · rw [zu_o (by omega), zu_eq]; exact ⟨by rw [zi_val (by omega)]; omega, by rw [zi_val (by omega)]; omega⟩
  · rw [zu_eq, zi_val (by omega)] at hg
    have hg2 : g < min (c + 1) 60 := by omega
    have et : (zz_up (zz_up (zz_up N (s + 10) t (((((N s 12 * (8 : Int32)) + Int32.ofNat p) * (4 : Int32)) + Int32.ofNat q) * (16 : Int32) + Int32.ofNat v)) s 17 (Int32.ofNat ((t + 1) % 60))) s 16 (Int32.ofNat (min (c + 1) 60)) s 17).toInt.toNat = (t + 1) % 60 := by
      rw [zu_o (by omega), zu_eq, zi_val (by omega)]; rfl
    rw [et, zu_o (by omega), zu_o (by omega)]
    by_cases cg : g = 0
    · subst cg
      have ei : ((t + 1) % 60 + 59 - 0) % 60 = t := by omega
      rw [ei, zu_eq]
      show (zrg 0 9999 (w_D_logs R _ _ _ 195 69) ∧ zrg 0 5 (w_D_logs R _ _ _ 195 70) ∧ zrg 0 3 (w_D_logs R _ _ _ 195 71) ∧ zrg 0 15 (w_D_logs R _ _ _ 195 72)) ∧ _ = ((w_D_logs R _ _ _ 195 69 * 8 + w_D_logs R _ _ _ 195 70) * 4 + w_D_logs R _ _ _ 195 71) * 16 + w_D_logs R _ _ _ 195 72
      rw [l2, l3, l4, l5, ← hF.1.2.2.1]
      refine ⟨⟨hF.2.2.2.1, ⟨?_, ?_⟩, ⟨?_, ?_⟩, ⟨?_, ?_⟩⟩, rfl⟩ <;> (rw [zi_val (by omega)]; omega)
    · have hr1 : zc_G N s (R 195) := hG
      obtain ⟨⟨o0, o1, o2, o3⟩, o4⟩ := hr1 (g - 1) (by rw [c2, zi_val (by omega)]; omega)
      have ot : (N s 17).toInt.toNat = t := by rw [t2, zi_val (by omega)]; rfl
      rw [ot] at o4
      have ei : ((t + 1) % 60 + 59 - g) % 60 = (t + 59 - (g - 1)) % 60 := by omega
      have hne : ¬ (t + 59 - (g - 1)) % 60 = t := by omega
      rw [ei, zu_o (by omega), l1 (69 + 4 * g) (by omega) (by omega), l1 (70 + 4 * g) (by omega) (by omega), l1 (71 + 4 * g) (by omega) (by omega), l1 (72 + 4 * g) (by omega) (by omega), show 69 + 4 * g - 4 = 69 + 4 * (g - 1) by omega, show 70 + 4 * g - 4 = 70 + 4 * (g - 1) by omega, show 71 + 4 * g - 4 = 71 + 4 * (g - 1) by omega, show 72 + 4 * g - 4 = 72 + 4 * (g - 1) by omega]
      exact ⟨⟨o0, o1, o2, o3⟩, o4⟩
