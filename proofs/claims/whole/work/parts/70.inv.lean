/-! THE INVARIANT of the memory between two calls of the law. Scratch cells are masked out. -/
def zs_A : List Nat := [0, 15, 16, 17, 18, 19, 20, 21, 22, 23, 24, 25, 42, 43, 44, 45, 46, 47, 48, 49, 50, 56, 57, 193, 197, 200, 201, 202, 203]
def zs_scr (a i : Nat) : Bool := zs_A.any (Nat.beq a) || ((Nat.beq a 2 && Nat.ble 2 i) || (Nat.beq a 194 && !([3, 6, 8, 12].any (Nat.beq i))))
def zs_mk (M : zMem) : zMem := fun a i => bif zs_scr a i then 0 else M a i
theorem zs_up {M : zMem} {q k : Nat} {x : Int32} (h : zs_scr q k = true) : zs_mk (zz_up M q k x) = zs_mk M := by
  funext a i
  unfold zs_mk
  cases hs : zs_scr a i with
  | true => rfl
  | false =>
    show zz_up M q k x a i = M a i
    cases e1 : Nat.beq a q with
    | false => exact zu_ne e1
    | true =>
      cases e2 : Nat.beq i k with
      | false => exact zu_nk e2
      | true =>
        rw [Nat.eq_of_beq_eq_true e1, Nat.eq_of_beq_eq_true e2, h] at hs
        cases hs
theorem zs_at {M : zMem} {a i : Nat} (h : zs_scr a i = false) : zs_mk M a i = M a i := by unfold zs_mk; rw [h]; rfl
theorem zs_fr {M M' : zMem} (h : ∀ a i, zs_scr a i = false → M' a i = M a i) : zs_mk M' = zs_mk M := by
  funext a i
  unfold zs_mk
  cases hs : zs_scr a i with
  | true => rfl
  | false => exact h a i hs
def zrg (lo hi : Int) (x : Int32) : Prop := lo ≤ x.toInt ∧ x.toInt ≤ hi
/-- a state object s is the row r: kinds -/
def zc_K (N : zMem) (s : Nat) (r : Nat → Int32) : Prop := ∀ k, k < 8 → (N (s + 1) k = r (9 + 3 * k) ∧ N (s + 2) k = r (10 + 3 * k) ∧ N (s + 3) k = r (11 + 3 * k)) ∧ (zrg 0 65535 (N (s + 1) k) ∧ zrg 0 7 (N (s + 2) k) ∧ zrg (-1) 7 (N (s + 3) k))
/-- people -/
def zc_P (N : zMem) (s : Nat) (r : Nat → Int32) : Prop := ∀ p, p < 6 → (N (s + 4) p = r (33 + 6 * p) ∧ N (s + 5) p = r (34 + 6 * p) ∧ N (s + 6) p = r (35 + 6 * p) ∧ N (s + 7) p = r (36 + 6 * p) ∧ N (s + 8) p = r (37 + 6 * p) ∧ N (s + 9) p = r (38 + 6 * p)) ∧ (zrg (-1) 7 (N (s + 4) p) ∧ zrg 0 65535 (N (s + 5) p) ∧ zrg 0 99 (N (s + 6) p) ∧ zrg 0 9 (N (s + 7) p) ∧ zrg 0 255 (N (s + 8) p) ∧ zrg 0 999 (N (s + 9) p))
/-- single numbers -/
def zc_F (N : zMem) (s : Nat) (r : Nat → Int32) : Prop := (N s 10 = r 3 ∧ N s 11 = r 5 ∧ N s 12 = r 4 ∧ N s 13 = r 6 ∧ N s 14 = r 8 ∧ N s 15 = r 0 ∧ N s 16 = r 7) ∧ (zrg 0 6 (N s 10) ∧ zrg 0 100 (N s 11) ∧ zrg 0 9999 (N s 12) ∧ zrg 0 9999 (N s 13) ∧ zrg 0 12 (N s 15) ∧ zrg 0 60 (N s 16) ∧ zrg 0 59 (N s 17))
/-- the log -/
def zc_G (N : zMem) (s : Nat) (r : Nat → Int32) : Prop := ∀ g : Nat, (g : Int) < (N s 16).toInt → (zrg 0 9999 (r (69 + 4 * g)) ∧ zrg 0 5 (r (70 + 4 * g)) ∧ zrg 0 3 (r (71 + 4 * g)) ∧ zrg 0 15 (r (72 + 4 * g))) ∧ N (s + 10) (((N s 17).toInt.toNat + 59 - g) % 60) = ((r (69 + 4 * g) * 8 + r (70 + 4 * g)) * 4 + r (71 + 4 * g)) * 16 + r (72 + 4 * g)
def zc_St (N : zMem) (s : Nat) (r : Nat → Int32) : Prop := zc_K N s r ∧ zc_P N s r ∧ zc_F N s r ∧ zc_G N s r
/-- a law object l is the text of the row r -/
def zc_Lw (N : zMem) (l : Nat) (r : Nat → Int32) : Prop := N l 0 = r 1 ∧ zrg (-1) 12 (r 1) ∧ zrg 0 400 (r 2) ∧ (1 ≤ (r 1).toInt → zpObj N l (zpTx (fun i => r (309 + i)) (r 2).toInt.toNat) (r 2).toInt.toNat)
def zc_T (N : zMem) : Prop := N 2 1 = N 194 8 ∧ zrg 0 400 (N 2 1) ∧ ∀ i, i < 400 → N 3 i = N 199 i ∧ zrg 0 255 (N 3 i)
/-- what is remembered -/
def zc_A (N : zMem) : Prop := (N 58 2 = N 194 6 ∧ zrg 0 12 (N 58 2) ∧ zrg 0 11 (N 58 1)) ∧ ∀ b : Nat, (b : Int) < (N 58 2).toInt → zc_St N (60 + 11 * (((N 58 1).toInt.toNat + 11 - b) % 12)) (fun i => N 198 (309 * ((N 58 2).toInt.toNat - 1 - b) + i)) ∧ N 198 (309 * ((N 58 2).toInt.toNat - 1 - b) + 1) = N 195 1 ∧ N 198 (309 * ((N 58 2).toInt.toNat - 1 - b) + 2) = N 195 2
/-- what is kept -/
def zc_I (N : zMem) : Prop := N 1 8 = N 194 3 ∧ zz_b01 (N 1 8) = true ∧ (N 1 8 ≠ 0 → zc_St N 26 (N 196) ∧ zc_Lw N 51 (N 196))
def zc_All (N : zMem) : Prop := zc_St N 4 (N 195) ∧ zc_Lw N 37 (N 195) ∧ zc_T N ∧ N 1 1 = N 194 12 ∧ zc_A N ∧ zc_I N
def zv_Inv (M : zMem) : Prop := zc_All (zs_mk M) ∧ zz_b01 (M 194 15) = true ∧ zz_b01 (M 194 16) = true
theorem zv_fr {M M' : zMem} (hI : zv_Inv M) (h : zs_mk M' = zs_mk M) (h1 : M' 194 15 = M 194 15) (h2 : M' 194 16 = M 194 16) : zv_Inv M' := by
  obtain ⟨a, b, c⟩ := hI
  refine ⟨by rw [h]; exact a, by rw [h1]; exact b, by rw [h2]; exact c⟩
/-- the answer "thrown" is laid -/
theorem zv_th {M : zMem} (hI : zv_Inv M) (x : Int32) : zv_Inv (zz_up M 194 0 x) := zv_fr hI (zs_up rfl) rfl rfl
theorem zv_K {M : zMem} (hI : zv_Inv M) {k : Nat} (hk : k < 8) : (M 5 k = M 195 (9 + 3 * k) ∧ M 6 k = M 195 (10 + 3 * k) ∧ M 7 k = M 195 (11 + 3 * k)) ∧ (zrg 0 65535 (M 5 k) ∧ zrg 0 7 (M 6 k) ∧ zrg (-1) 7 (M 7 k)) := hI.1.1.1 k hk
theorem zv_P {M : zMem} (hI : zv_Inv M) {p : Nat} (hp : p < 6) : (M 8 p = M 195 (33 + 6 * p) ∧ M 9 p = M 195 (34 + 6 * p) ∧ M 10 p = M 195 (35 + 6 * p) ∧ M 11 p = M 195 (36 + 6 * p) ∧ M 12 p = M 195 (37 + 6 * p) ∧ M 13 p = M 195 (38 + 6 * p)) ∧ (zrg (-1) 7 (M 8 p) ∧ zrg 0 65535 (M 9 p) ∧ zrg 0 99 (M 10 p) ∧ zrg 0 9 (M 11 p) ∧ zrg 0 255 (M 12 p) ∧ zrg 0 999 (M 13 p)) := hI.1.1.2.1 p hp
theorem zv_F {M : zMem} (hI : zv_Inv M) : (M 4 10 = M 195 3 ∧ M 4 11 = M 195 5 ∧ M 4 12 = M 195 4 ∧ M 4 13 = M 195 6 ∧ M 4 14 = M 195 8 ∧ M 4 15 = M 195 0 ∧ M 4 16 = M 195 7) ∧ (zrg 0 6 (M 4 10) ∧ zrg 0 100 (M 4 11) ∧ zrg 0 9999 (M 4 12) ∧ zrg 0 9999 (M 4 13) ∧ zrg 0 12 (M 4 15) ∧ zrg 0 60 (M 4 16) ∧ zrg 0 59 (M 4 17)) := hI.1.1.2.2.1
theorem zv_Fa {M : zMem} (hI : zv_Inv M) : M 1 1 = M 194 12 := hI.1.2.2.2.1
theorem zv_Tp {M : zMem} (hI : zv_Inv M) : M 2 1 = M 194 8 ∧ zrg 0 400 (M 2 1) ∧ ∀ i, i < 400 → M 3 i = M 199 i ∧ zrg 0 255 (M 3 i) := hI.1.2.2.1
/-- loops over the same range -/
theorem zf_cg {α : Type} {f g : Nat → α → α} : ∀ (n : Nat) (a : α), (∀ i, i < n → ∀ x, f i x = g i x) → zf_for n f a = zf_for n g a
  | 0, a, _ => rfl
  | n + 1, a, h => by
    show f n (zf_for n f a) = g n (zf_for n g a)
    rw [zf_cg n a (fun i hi => h i (Nat.lt_succ_of_lt hi)), h n (Nat.lt_succ_self n)]
/-- numbers as places -/
theorem zr_nat {lo hi : Int} {x : Int32} (h : zrg lo hi x) (h0 : 0 ≤ lo) : (x.toNatClampNeg : Int) = x.toInt := by
  unfold Int32.toNatClampNeg
  have := h.1
  omega
theorem zr_ex {hi : Int} {x : Int32} (h : zrg 0 hi x) : ∃ n : Nat, (n : Int) ≤ hi ∧ x = Int32.ofNat n ∧ x.toNatClampNeg = n := by
  have e : x = Int32.ofNat x.toNatClampNeg := by
    apply Int32.toInt_inj.mp
    rw [zi_val (zi_tn x), zr_nat h (by omega)]
  refine ⟨x.toNatClampNeg, ?_, e, rfl⟩
  rw [zr_nat h (by omega)]
  exact h.2
theorem zx_of : ∀ p, p < 6 → ∀ k, k < 6 → (((33 : Int32) + ((6 : Int32) * Int32.ofNat p)) + Int32.ofNat k).toNatClampNeg = 33 + 6 * p + k := by decide +kernel
theorem zx_ofi : ∀ p, p < 6 → ∀ k, k < 6 → zz_in (((33 : Int32) + ((6 : Int32) * Int32.ofNat p)) + Int32.ofNat k) 709 = true := by decide +kernel
theorem zx_ki : ∀ p, p < 8 → ∀ k, k < 3 → (((9 : Int32) + ((3 : Int32) * Int32.ofNat p)) + Int32.ofNat k).toNatClampNeg = 9 + 3 * p + k := by decide +kernel
theorem zx_kii : ∀ p, p < 8 → ∀ k, k < 3 → zz_in (((9 : Int32) + ((3 : Int32) * Int32.ofNat p)) + Int32.ofNat k) 709 = true := by decide +kernel
/-- the reference's reading of a person, of a kind -/
theorem zd_of (M : zMem) {p k : Nat} (hp : p < 6) (hk : k < 6) : v_D_of M (Int32.ofNat p) (Int32.ofNat k) = M 195 (33 + 6 * p + k) := by
  unfold v_D_of
  rw [zx_of p hp k hk]
theorem zd_ofk (M : zMem) {p k : Nat} (hp : p < 6) (hk : k < 6) : ok_D_of M (Int32.ofNat p) (Int32.ofNat k) := zx_ofi p hp k hk
theorem zd_kd (M : zMem) {p k : Nat} (hp : p < 8) (hk : k < 3) : v_D_ofKind M (Int32.ofNat p) (Int32.ofNat k) = M 195 (9 + 3 * p + k) := by
  unfold v_D_ofKind
  rw [zx_ki p hp k hk]
theorem zd_kdk (M : zMem) {p k : Nat} (hp : p < 8) (hk : k < 3) : ok_D_ofKind M (Int32.ofNat p) (Int32.ofNat k) := zx_kii p hp k hk
/-! the first calls -/
theorem zo4 : zo_4 zv_Inv := by
  intro M hI
  exact ⟨zv_Fa hI, zv_th hI 0⟩
