/-! what the law says of a person, on both sides -/
def zA1 (M : zMem) (x : Int32) : zMem := zz_up (zz_up M 194 17 (((v_D_of M x (2 : Int32)) / (10 : Int32)) + (v_D_of M x (3 : Int32)))) 194 18 (10 : Int32)
def zA3 (M : zMem) (x : Int32) : zMem := zz_up (zA1 M x) 200 0 x
def zA4 (M : zMem) (x : Int32) : zMem := zz_up (zA3 M x) 200 1 (v_D_of (zA3 M x) x (0 : Int32))
def zA5 (M : zMem) (x : Int32) : zMem := zz_up (zA4 M x) 200 2 (v_D_of (zA4 M x) x (2 : Int32))
def zA6 (M : zMem) (x : Int32) : zMem := zz_up (zA5 M x) 200 3 (v_D_of (zA5 M x) x (3 : Int32))
def zA7 (M : zMem) (x : Int32) : zMem := zz_up (zA6 M x) 200 4 (v_D_bits (v_D_of (zA6 M x) x (4 : Int32)))
def zA8 (M : zMem) (x : Int32) : zMem := zz_up (zA7 M x) 200 5 (v_D_bits (v_D_of (zA7 M x) x (1 : Int32)))
def zA9 (M : zMem) (x : Int32) : zMem := zz_up (zA8 M x) 200 6 (v_D_deedOf (zA8 M x) x)
def zA10 (M : zMem) (x : Int32) : zMem := zz_up (zA9 M x) 200 7 (zrm (M 195 4) (100 : Int32))
def zA11 (M : zMem) (x : Int32) : zMem := zz_up (zA10 M x) 194 15 (zb (decide (((v_D_marksOf (zA10 M x) x) &&& ((v_D_of (zA10 M x) x (1 : Int32)) ^^^ (-1 : Int32))) = 0)))
def zA12 (M : zMem) (x : Int32) : zMem := zz_up (zA11 M x) 194 16 (zb (decide ((v_D_bits (v_D_fitting (zA11 M x) x)) = (1 : Int32))))
def zA17 (M : zMem) (x : Int32) : zMem := zz_up (zz_up (zz_up (zz_up (zz_up (zA12 M x) 194 12 (-1 : Int32)) 194 9 (309 : Int32)) 194 10 (bif (decide ((1 : Int32) ≤ (M 195 1))) then (M 195 2) else (0 : Int32))) 194 11 (0 : Int32)) 194 13 (0 : Int32)
theorem zAs_w (M : zMem) (x : Int32) : w_D_asks M x = (bif (v_D_isPlain (zA1 M x) x) then (zz_up (zA1 M x) 194 17 (0 : Int32)) else (zz_up (zz_up (w_D_read (zA17 M x) true) 194 12 (M 194 12)) 194 17 (v_D_greater (0 : Int32) (v_D_lesser (100 : Int32) ((w_D_read (zA17 M x) true) 194 17))))) := rfl
theorem zAs_k (M : zMem) (x : Int32) : ok_D_asks M x = (ok_D_of M x (2 : Int32) ∧ (ok_D_of M x (3 : Int32) ∧ (ok_D_isPlain (zA1 M x) x ∧ ((v_D_isPlain (zA1 M x) x) = false → (ok_D_of (zA3 M x) x (0 : Int32) ∧ (ok_D_of (zA4 M x) x (2 : Int32) ∧ (ok_D_of (zA5 M x) x (3 : Int32) ∧ (ok_D_of (zA6 M x) x (4 : Int32) ∧ (ok_D_of (zA7 M x) x (1 : Int32) ∧ (ok_D_deedOf (zA8 M x) x ∧ (ok_D_marksOf (zA10 M x) x ∧ (ok_D_of (zA10 M x) x (1 : Int32) ∧ (ok_D_fitting (zA11 M x) x ∧ ok_D_read (zA17 M x) true))))))))))))) := rfl
theorem zAr (M : zMem) (x : Int32) : (zA1 M x) 195 = M 195 ∧ (zA3 M x) 195 = M 195 ∧ (zA4 M x) 195 = M 195 ∧ (zA5 M x) 195 = M 195 ∧ (zA6 M x) 195 = M 195 ∧ (zA7 M x) 195 = M 195 ∧ (zA8 M x) 195 = M 195 ∧ (zA9 M x) 195 = M 195 ∧ (zA10 M x) 195 = M 195 ∧ (zA11 M x) 195 = M 195 ∧ (zA12 M x) 195 = M 195 ∧ (zA17 M x) 195 = M 195 := ⟨rfl, rfl, rfl, rfl, rfl, rfl, rfl, rfl, rfl, rfl, rfl, rfl⟩
theorem zAe1 (M : zMem) (x : Int32) : zA1 M x = zz_up (zz_up M 194 17 (((v_D_of M x (2 : Int32)) / (10 : Int32)) + (v_D_of M x (3 : Int32)))) 194 18 (10 : Int32) := rfl
theorem zAe3 (M : zMem) (x : Int32) : zA3 M x = zz_up (zA1 M x) 200 0 x := rfl
theorem zAe4 (M : zMem) (x : Int32) : zA4 M x = zz_up (zA3 M x) 200 1 (v_D_of (zA3 M x) x (0 : Int32)) := rfl
theorem zAe5 (M : zMem) (x : Int32) : zA5 M x = zz_up (zA4 M x) 200 2 (v_D_of (zA4 M x) x (2 : Int32)) := rfl
theorem zAe6 (M : zMem) (x : Int32) : zA6 M x = zz_up (zA5 M x) 200 3 (v_D_of (zA5 M x) x (3 : Int32)) := rfl
theorem zAe7 (M : zMem) (x : Int32) : zA7 M x = zz_up (zA6 M x) 200 4 (v_D_bits (v_D_of (zA6 M x) x (4 : Int32))) := rfl
theorem zAe8 (M : zMem) (x : Int32) : zA8 M x = zz_up (zA7 M x) 200 5 (v_D_bits (v_D_of (zA7 M x) x (1 : Int32))) := rfl
theorem zAe9 (M : zMem) (x : Int32) : zA9 M x = zz_up (zA8 M x) 200 6 (v_D_deedOf (zA8 M x) x) := rfl
theorem zAe10 (M : zMem) (x : Int32) : zA10 M x = zz_up (zA9 M x) 200 7 (zrm (M 195 4) (100 : Int32)) := rfl
theorem zAe11 (M : zMem) (x : Int32) : zA11 M x = zz_up (zA10 M x) 194 15 (zb (decide (((v_D_marksOf (zA10 M x) x) &&& ((v_D_of (zA10 M x) x (1 : Int32)) ^^^ (-1 : Int32))) = 0))) := rfl
theorem zAe12 (M : zMem) (x : Int32) : zA12 M x = zz_up (zA11 M x) 194 16 (zb (decide ((v_D_bits (v_D_fitting (zA11 M x) x)) = (1 : Int32)))) := rfl
theorem zAe17 (M : zMem) (x : Int32) : zA17 M x = zz_up (zz_up (zz_up (zz_up (zz_up (zA12 M x) 194 12 (-1 : Int32)) 194 9 (309 : Int32)) 194 10 (bif (decide ((1 : Int32) ≤ (M 195 1))) then (M 195 2) else (0 : Int32))) 194 11 (0 : Int32)) 194 13 (0 : Int32) := rfl
theorem zAv0 (M : zMem) (x : Int32) : (zA12 M x) 200 0 = x := by rw [zAe12, zu_o (by omega), zAe11, zu_o (by omega), zAe10, zu_o (by omega), zAe9, zu_o (by omega), zAe8, zu_o (by omega), zAe7, zu_o (by omega), zAe6, zu_o (by omega), zAe5, zu_o (by omega), zAe4, zu_o (by omega), zAe3, zu_at rfl rfl]
theorem zAv1 (M : zMem) (x : Int32) : (zA12 M x) 200 1 = (v_D_of (zA3 M x) x (0 : Int32)) := by rw [zAe12, zu_o (by omega), zAe11, zu_o (by omega), zAe10, zu_o (by omega), zAe9, zu_o (by omega), zAe8, zu_o (by omega), zAe7, zu_o (by omega), zAe6, zu_o (by omega), zAe5, zu_o (by omega), zAe4, zu_at rfl rfl]
theorem zAv2 (M : zMem) (x : Int32) : (zA12 M x) 200 2 = (v_D_of (zA4 M x) x (2 : Int32)) := by rw [zAe12, zu_o (by omega), zAe11, zu_o (by omega), zAe10, zu_o (by omega), zAe9, zu_o (by omega), zAe8, zu_o (by omega), zAe7, zu_o (by omega), zAe6, zu_o (by omega), zAe5, zu_at rfl rfl]
theorem zAv3 (M : zMem) (x : Int32) : (zA12 M x) 200 3 = (v_D_of (zA5 M x) x (3 : Int32)) := by rw [zAe12, zu_o (by omega), zAe11, zu_o (by omega), zAe10, zu_o (by omega), zAe9, zu_o (by omega), zAe8, zu_o (by omega), zAe7, zu_o (by omega), zAe6, zu_at rfl rfl]
theorem zAv4 (M : zMem) (x : Int32) : (zA12 M x) 200 4 = (v_D_bits (v_D_of (zA6 M x) x (4 : Int32))) := by rw [zAe12, zu_o (by omega), zAe11, zu_o (by omega), zAe10, zu_o (by omega), zAe9, zu_o (by omega), zAe8, zu_o (by omega), zAe7, zu_at rfl rfl]
theorem zAv5 (M : zMem) (x : Int32) : (zA12 M x) 200 5 = (v_D_bits (v_D_of (zA7 M x) x (1 : Int32))) := by rw [zAe12, zu_o (by omega), zAe11, zu_o (by omega), zAe10, zu_o (by omega), zAe9, zu_o (by omega), zAe8, zu_at rfl rfl]
theorem zAv6 (M : zMem) (x : Int32) : (zA12 M x) 200 6 = (v_D_deedOf (zA8 M x) x) := by rw [zAe12, zu_o (by omega), zAe11, zu_o (by omega), zAe10, zu_o (by omega), zAe9, zu_at rfl rfl]
theorem zAv7 (M : zMem) (x : Int32) : (zA12 M x) 200 7 = (zrm (M 195 4) (100 : Int32)) := by rw [zAe12, zu_o (by omega), zAe11, zu_o (by omega), zAe10, zu_at rfl rfl]
theorem zAv15 (M : zMem) (x : Int32) : (zA12 M x) 194 15 = (zb (decide (((v_D_marksOf (zA10 M x) x) &&& ((v_D_of (zA10 M x) x (1 : Int32)) ^^^ (-1 : Int32))) = 0))) := by rw [zAe12, zu_o (by omega), zAe11, zu_at rfl rfl]
theorem zAv16 (M : zMem) (x : Int32) : (zA12 M x) 194 16 = (zb (decide ((v_D_bits (v_D_fitting (zA11 M x) x)) = (1 : Int32)))) := by rw [zAe12, zu_at rfl rfl]
theorem zAf12 (M : zMem) (x : Int32) (a i : Nat) (h : a ≠ 200) (h2 : ¬ (a = 194 ∧ (i = 15 ∨ i = 16))) : (zA12 M x) a i = (zA1 M x) a i := by rw [zAe12, zu_o (by omega), zAe11, zu_o (by omega), zAe10, zu_o (by omega), zAe9, zu_o (by omega), zAe8, zu_o (by omega), zAe7, zu_o (by omega), zAe6, zu_o (by omega), zAe5, zu_o (by omega), zAe4, zu_o (by omega), zAe3, zu_o (by omega)]
theorem zAg9 (M : zMem) (x : Int32) : (zA17 M x) 194 9 = 309 := by rw [zAe17, zu_o (by omega), zu_o (by omega), zu_o (by omega), zu_at rfl rfl]
theorem zAg10 (M : zMem) (x : Int32) : (zA17 M x) 194 10 = (bif (decide ((1 : Int32) ≤ (M 195 1))) then (M 195 2) else (0 : Int32)) := by rw [zAe17, zu_o (by omega), zu_o (by omega), zu_at rfl rfl]
theorem zAg11 (M : zMem) (x : Int32) : (zA17 M x) 194 11 = 0 := by rw [zAe17, zu_o (by omega), zu_at rfl rfl]
theorem zAg12 (M : zMem) (x : Int32) : (zA17 M x) 194 12 = -1 := by rw [zAe17, zu_o (by omega), zu_o (by omega), zu_o (by omega), zu_o (by omega), zu_at rfl rfl]
theorem zAg13 (M : zMem) (x : Int32) : (zA17 M x) 194 13 = 0 := by rw [zAe17, zu_at rfl rfl]
theorem zAf17 (M : zMem) (x : Int32) (a i : Nat) (h2 : ¬ (a = 194 ∧ (i = 9 ∨ i = 10 ∨ i = 11 ∨ i = 12 ∨ i = 13))) : (zA17 M x) a i = (zA12 M x) a i := by rw [zAe17, zu_o (by omega), zu_o (by omega), zu_o (by omega), zu_o (by omega), zu_o (by omega)]
theorem zAg17 (M : zMem) (x : Int32) : (zA17 M x) 194 17 = (((v_D_of M x (2 : Int32)) / (10 : Int32)) + (v_D_of M x (3 : Int32))) := by rw [zAf17 _ _ _ _ (by omega), zAf12 _ _ _ _ (by omega) (by omega), zAe1, zu_o (by omega), zu_at rfl rfl]
theorem zAg18 (M : zMem) (x : Int32) : (zA17 M x) 194 18 = 10 := by rw [zAf17 _ _ _ _ (by omega), zAf12 _ _ _ _ (by omega) (by omega), zAe1, zu_at rfl rfl]
theorem zAf (M : zMem) (x : Int32) (a i : Nat) (h : a ≠ 200) (h2 : ¬ (a = 194 ∧ (i = 9 ∨ i = 10 ∨ i = 11 ∨ i = 12 ∨ i = 13 ∨ i = 15 ∨ i = 16 ∨ i = 17 ∨ i = 18))) : (zA17 M x) a i = M a i := by rw [zAf17 _ _ _ _ (by omega), zAf12 _ _ _ _ (by omega) (by omega), zAe1, zu_o (by omega), zu_o (by omega)]
theorem zAF (M : zMem) (x : Int32) {F : Nat → Int32} (h : zFa (zA12 M x) F) : zFa (zA17 M x) F := by
  obtain ⟨a, b, c, d, e⟩ := h
  refine ⟨fun j hj => (zAf17 M x 200 j (by omega)).trans (a j hj), ?_, ?_, ?_, ?_⟩
  · rw [zAf17 M x 194 15 (by omega)]; exact b
  · rw [zAf17 M x 194 16 (by omega)]; exact c
  · rw [zAf17 M x 194 15 (by omega)]; exact d
  · rw [zAf17 M x 194 16 (by omega)]; exact e
theorem zLv (N : zMem) (v0 v1 v2 v3 v4 v5 v6 v7 v8 v9 : Int32) : ∀ W, W = zz_up (zz_up (zz_up (zz_up (zz_up (zz_up (zz_up (zz_up (zz_up (zz_up N 42 0 v0) 42 1 v1) 42 2 v2) 42 3 v3) 42 4 v4) 42 5 v5) 42 6 v6) 42 7 v7) 42 8 v8) 42 9 v9 → W 42 0 = v0 ∧ W 42 1 = v1 ∧ W 42 2 = v2 ∧ W 42 3 = v3 ∧ W 42 4 = v4 ∧ W 42 5 = v5 ∧ W 42 6 = v6 ∧ W 42 7 = v7 ∧ W 42 8 = v8 ∧ W 42 9 = v9 ∧ (∀ a i, a ≠ 42 → W a i = N a i) := by
  intro W e
  subst e
  refine ⟨rfl, rfl, rfl, rfl, rfl, rfl, rfl, rfl, rfl, rfl, fun a i h => ?_⟩
  rw [zu_o (by omega), zu_o (by omega), zu_o (by omega), zu_o (by omega), zu_o (by omega), zu_o (by omega), zu_o (by omega), zu_o (by omega), zu_o (by omega), zu_o (by omega)]
/-- facts that the class learns -/
theorem zkn : ∀ A, A < 256 → ∀ k, k < 8 → (A.testBit k = true → decide (zpc A 8 = 1) = decide (A = 2 ^ k)) := by decide +kernel
theorem zL_kl {N M : zMem} {s : Nat} (a b : Int32) (h : ∀ i, M (s + 1) i = N (s + 1) i) : v_S_kindsLike M s a b = v_S_kindsLike N s a b := by
  unfold v_S_kindsLike
  refine zf_cg 8 _ fun i hi x => ?_
  unfold f_S_kindsLike_1
  rw [h, h]
def zlE (a b : Int32) : Int32 := zb (decide (a = b))
theorem zL_w1 (M : zMem) (s : Nat) (x0 : Int32) : w_L_learn M s x0 = (bif (decide ((M (s + 4) (x0).toNatClampNeg) < 0)) then M else (bif (decide ((M (s + 4) (x0).toNatClampNeg) < (8 : Int32))) then (zy_l (zy_l (zy_l (zy_l (zz_up (zy_l (zy_l (zy_l (zz_up (zz_up M 42 0 x0) 42 1 (M (s + 4) (x0).toNatClampNeg)) (fun N => (zz_up N 42 2 (N (s + 6) (x0).toNatClampNeg)))) (fun N => (zz_up N 42 3 (N (s + 7) (x0).toNatClampNeg)))) (fun N => (zz_up N 42 4 (v_ji_bitCount (N (s + 8) (x0).toNatClampNeg))))) 42 5 (v_ji_bitCount (M (s + 5) (x0).toNatClampNeg))) (fun N => (zz_up N 42 6 (N (s + 2) (M (s + 4) (x0).toNatClampNeg).toNatClampNeg)))) (fun N => (zz_up N 42 7 (zrm (N s 12) (100 : Int32))))) (fun N => (zz_up N 42 8 (zlE ((N (s + 1) (M (s + 4) (x0).toNatClampNeg).toNatClampNeg) &&& ((M (s + 5) (x0).toNatClampNeg) ^^^ (-1 : Int32))) 0)))) (fun N => (zz_up N 42 9 (zlE (v_S_kindsLike N s (M (s + 4) (x0).toNatClampNeg) (M (s + 5) (x0).toNatClampNeg)) (zsl (1 : Int32) (M (s + 4) (x0).toNatClampNeg)))))) else M)) := rfl
theorem zL_lw {N : zMem} {s p k : Nat} (hp : p < 6) (h4 : s + 10 < 37) (hk : k < 8) (u : N (s + 4) p = Int32.ofNat k) : w_L_learn N s (Int32.ofNat p) = zz_up (zz_up (zz_up (zz_up (zz_up (zz_up (zz_up (zz_up (zz_up (zz_up N 42 0 (Int32.ofNat p)) 42 1 (Int32.ofNat k)) 42 2 (N (s + 6) p)) 42 3 (N (s + 7) p)) 42 4 (v_ji_bitCount (N (s + 8) p))) 42 5 (v_ji_bitCount (N (s + 5) p))) 42 6 (N (s + 2) k)) 42 7 (zrm (N s 12) (100 : Int32))) 42 8 (zlE (N (s + 1) k &&& ((N (s + 5) p) ^^^ (-1 : Int32))) 0)) 42 9 (zlE (v_S_kindsLike N s (Int32.ofNat k) (N (s + 5) p)) (zsl (1 : Int32) (Int32.ofNat k))) := by
  have o : ∀ (M : zMem) (a i j : Nat) (v : Int32), a < 42 → zz_up M 42 i v a j = M a j := fun M a i j v h => zu_o (by omega)
  have c1 : decide ((Int32.ofNat k) < (0 : Int32)) = false := (zi_lt' (a := k) (b := 0) (by omega) (by omega)).trans (decide_eq_false (by omega))
  have c2 : decide ((Int32.ofNat k) < (8 : Int32)) = true := (zi_lt' (a := k) (b := 8) (by omega) (by omega)).trans (decide_eq_true (by omega))
  rw [zL_w1, zi_nat (by omega), u, c1, c2, zk_f, zk_t, zi_nat (i := k) (by omega)]
  simp only [zy_l]
  rw [zL_kl (N := N) _ _ (fun i => by simp only [o _ (s + 1) _ _ _ (by omega)])]
  simp only [o _ (s + 1) _ _ _ (by omega), o _ (s + 2) _ _ _ (by omega), o _ (s + 6) _ _ _ (by omega), o _ (s + 7) _ _ _ (by omega), o _ (s + 8) _ _ _ (by omega), o _ s _ _ _ (by omega)]
theorem zL_fk {N M' : zMem} {s p k : Nat} (hS : zc_W N s (M' 195)) (hp : p < 6) (hk : k < 8) (u : N (s + 4) p = Int32.ofNat k) (hne : v_D_isPlain M' (Int32.ofNat p) = false) : ok_S_kindsLike N s (Int32.ofNat k) (N (s + 5) p) ∧ ∃ A, A < 256 ∧ v_D_fitting M' (Int32.ofNat p) = Int32.ofNat A ∧ v_S_kindsLike N s (Int32.ofNat k) (N (s + 5) p) = Int32.ofNat A ∧ A.testBit k = true := by
  have hof := zw_of hS hp
  have g : v_D_marksOf M' (Int32.ofNat p) = N (s + 1) k := by
    unfold v_D_marksOf
    rw [hne, zk_f, hof.1, u, (zw_kd hS hk).1]
  have hD : ∀ i, i < 8 → ∀ x, f_D_fitting_1 M' (Int32.ofNat p) i x = x ||| (bif (decide (((N (s + 1) i ^^^ N (s + 1) k) &&& N (s + 5) p) = 0)) then Int32.ofNat (2 ^ i) else 0) := by
    intro i hi x
    unfold f_D_fitting_1
    rw [(zw_kd hS hi).1, g, hof.2.1, zN_sl1 i (by omega), Nat.one_shiftLeft]
  obtain ⟨A, a1, a2, a3⟩ := zor (fun i => decide (((N (s + 1) i ^^^ N (s + 1) k) &&& N (s + 5) p) = 0)) (fun i => i) 8 8 (fun i hi _ => hi)
  refine ⟨fun i hi => zi_in hk (by omega), A, a1, ?_, ?_, ?_⟩
  · unfold v_D_fitting
    rw [hne, zk_f, ← a2]; exact zf_cg 8 _ hD
  · rw [← a2]
    unfold v_S_kindsLike
    refine zf_cg 8 _ fun i hi x => ?_
    unfold f_S_kindsLike_1
    rw [zi_nat (by omega), zN_sl1 i (by omega), Nat.one_shiftLeft, zx_sel]
  · refine (a3 k).mpr ⟨k, hk, decide_eq_true ?_, rfl⟩
    rw [Int32.xor_self, Int32.zero_and]
theorem zcg_mk {M M' : zMem} (h : M 195 = M' 195) (x : Int32) : v_D_marksOf M x = v_D_marksOf M' x ∧ v_D_deedOf M x = v_D_deedOf M' x ∧ v_D_fitting M x = v_D_fitting M' x := by
  unfold v_D_fitting
  unfold f_D_fitting_1
  unfold v_D_marksOf v_D_deedOf v_D_isPlain v_D_of v_D_ofKind
  rw [h]
  exact ⟨rfl, rfl, rfl⟩
theorem zL_learn {N M' : zMem} {s p : Nat} (hS : zc_W N s (M' 195)) (hp : p < 6) (h4 : s + 10 < 37) (hne : v_D_isPlain M' (Int32.ofNat p) = false) : ok_L_learn N s (Int32.ofNat p) ∧ (∀ a i, a ≠ 42 → w_L_learn N s (Int32.ofNat p) a i = N a i) ∧ zFa (zA12 M' (Int32.ofNat p)) (fun j => w_L_learn N s (Int32.ofNat p) 42 j) := by
  rcases zw_p hS hp with ⟨-, a, b, -⟩ | ⟨k, d, hk, hd, u, a, b, t, c, e, f, g⟩
  · rw [b] at hne; cases hne
  · have hof := zw_of hS hp
    obtain ⟨f1, A, f2, f3, f4, f5⟩ := zL_fk hS hp hk u hne
    have g' : v_D_marksOf M' (Int32.ofNat p) = N (s + 1) k := by
      unfold v_D_marksOf
      rw [hne, zk_f, hof.1, u, (zw_kd hS hk).1]
    obtain ⟨b1, b2, b3⟩ := zw_rb hS hp
    obtain ⟨d1, d2, d3⟩ := zw_dn hS hp
    obtain ⟨-, r3, r4, r5, r6, r7, r8, r9, r10, r11, r12, -⟩ := zAr M' (Int32.ofNat p)
    have o3 := zw_of (M' := zA3 M' (Int32.ofNat p)) (by rw [r3]; exact hS) hp
    have o4 := zw_of (M' := zA4 M' (Int32.ofNat p)) (by rw [r4]; exact hS) hp
    have o5 := zw_of (M' := zA5 M' (Int32.ofNat p)) (by rw [r5]; exact hS) hp
    have o6 := zw_of (M' := zA6 M' (Int32.ofNat p)) (by rw [r6]; exact hS) hp
    have o7 := zw_of (M' := zA7 M' (Int32.ofNat p)) (by rw [r7]; exact hS) hp
    have o10 := zw_of (M' := zA10 M' (Int32.ofNat p)) (by rw [r10]; exact hS) hp
    have b01 : ∀ q : Bool, zz_b01 (zb q) = true := fun q => by cases q <;> rfl
    have e15 : (zA12 M' (Int32.ofNat p)) 194 15 = zb (decide (((v_D_marksOf (zA10 M' (Int32.ofNat p)) (Int32.ofNat p)) &&& ((v_D_of (zA10 M' (Int32.ofNat p)) (Int32.ofNat p) (1 : Int32)) ^^^ (-1 : Int32))) = 0)) := zAv15 _ _
    have e16 : (zA12 M' (Int32.ofNat p)) 194 16 = zb (decide ((v_D_bits (v_D_fitting (zA11 M' (Int32.ofNat p)) (Int32.ofNat p))) = (1 : Int32))) := zAv16 _ _
    obtain ⟨v0, v1, v2, v3, v4, v5, v6, v7, v8, v9, vf⟩ := zLv N _ _ _ _ _ _ _ _ _ _ _ (zL_lw hp h4 hk u)
    refine ⟨?_, vf, ?_⟩
    · unfold ok_L_learn
      rw [zi_nat (by omega), u]
      refine ⟨zi_in hp (by omega), fun _ _ => ⟨zi_in hk (by omega), fun i hi => zi_in hk (by omega)⟩⟩
    · refine ⟨fun j hj => ?_, ?_, ?_, ?_, ?_⟩
      · match j, hj with
        | 0, _ => show (zA12 M' (Int32.ofNat p)) 200 0 = w_L_learn N s (Int32.ofNat p) 42 0; rw [zAv0, v0]
        | 1, _ => show (zA12 M' (Int32.ofNat p)) 200 1 = w_L_learn N s (Int32.ofNat p) 42 1; rw [zAv1, v1, o3.1, u]
        | 2, _ => show (zA12 M' (Int32.ofNat p)) 200 2 = w_L_learn N s (Int32.ofNat p) 42 2; rw [zAv2, v2, o4.2.2.1]
        | 3, _ => show (zA12 M' (Int32.ofNat p)) 200 3 = w_L_learn N s (Int32.ofNat p) 42 3; rw [zAv3, v3, o5.2.2.2.1]
        | 4, _ => show (zA12 M' (Int32.ofNat p)) 200 4 = w_L_learn N s (Int32.ofNat p) 42 4; rw [zAv4, v4, o6.2.2.2.2.1, zN_count ⟨(hS.2.1 p hp).2.2.2.2.2.1.1, Int.le_trans (hS.2.1 p hp).2.2.2.2.2.1.2 (by omega)⟩]
        | 5, _ => show (zA12 M' (Int32.ofNat p)) 200 5 = w_L_learn N s (Int32.ofNat p) 42 5; rw [zAv5, v5, o7.2.1, zN_count ((hS.2.1 p hp).2.2.1)]
        | 6, _ =>
          show (zA12 M' (Int32.ofNat p)) 200 6 = w_L_learn N s (Int32.ofNat p) 42 6
          rw [zAv6, v6, (zcg_mk r8 _).2.1]
          unfold v_D_deedOf
          rw [hne, zk_f, hof.1, u, (zw_kd hS hk).2.1]
        | 7, _ => show (zA12 M' (Int32.ofNat p)) 200 7 = w_L_learn N s (Int32.ofNat p) 42 7; rw [zAv7, v7, hS.2.2.1.1.2]
      · show w_L_learn N s (Int32.ofNat p) 42 8 = (zA12 M' (Int32.ofNat p)) 194 15
        rw [e15, (zcg_mk r10 _).1, o10.2.1, g', v8]
        rfl
      · show w_L_learn N s (Int32.ofNat p) 42 9 = (zA12 M' (Int32.ofNat p)) 194 16
        rw [e16, (zcg_mk r11 _).2.2, f3, zN_bits8 f2, v9]
        unfold zlE
        rw [f4, zN_sl1 k (by omega), Nat.one_shiftLeft]
        have z := zkn A f2 k hk f5
        have z1 : decide (Int32.ofNat (zpc A 8) = (1 : Int32)) = decide (zpc A 8 = 1) := zN_eq (b := 1) (by have := zpc_le A 8; omega) (by omega)
        have z2 : decide (Int32.ofNat A = Int32.ofNat (2 ^ k)) = decide (A = 2 ^ k) := zN_eq (by omega) (Nat.lt_of_lt_of_le (Nat.pow_lt_pow_right (by omega) (show k < 31 by omega)) (by decide))
        rw [z1, z2, z]
      · rw [e15]; exact b01 _
      · rw [e16]; exact b01 _
theorem zS17_t (F : Nat → Int32) : ∀ (L : List (Int32 × Int32 × List Int32)) (c a b : Int32), zS17 F L (c + a - b) = c + zpTot F 0 L a - zpTot F 1 L b
  | [], c, a, b => rfl
  | x :: l, c, a, b => by
    show zS17 F l (zq17 F x (c + a - b)) = c + zpTot F 0 l (bif decide (x.1 = 0) then (bif zpHolds F x.2.2 then a + x.2.1 else a) else a) - zpTot F 1 l (bif decide (x.1 = 1) then (bif zpHolds F x.2.2 then b + x.2.1 else b) else b)
    rw [← zS17_t F l]
    congr 1
    unfold zq17
    cases zpHolds F x.2.2
    · simp only [zk_f]
      cases decide (x.1 = 0) <;> cases decide (x.1 = 1) <;> rfl
    · simp only [zk_t]
      by_cases h0 : x.1 = 0
      · rw [decide_eq_true h0, decide_eq_false (show ¬ x.1 = 1 by rw [h0]; decide), zk_t, zk_t, zk_f, Int32.sub_eq_add_neg, Int32.sub_eq_add_neg]; ac_rfl
      · rw [decide_eq_false h0, zk_f, zk_f]
        by_cases h1 : x.1 = 1
        · rw [decide_eq_true h1, zk_t, zk_t, Int32.sub_eq_add_neg, Int32.sub_eq_add_neg, Int32.neg_add, Int32.sub_eq_add_neg (-b)]; ac_rfl
        · rw [decide_eq_false h1, zk_f, zk_f, Int32.add_zero]
theorem zS18_t (F : Nat → Int32) : ∀ (L : List (Int32 × Int32 × List Int32)) (c a : Int32), zS18 F L (c + a) = c + zpTot F 2 L a
  | [], c, a => rfl
  | x :: l, c, a => by
    show zS18 F l (zq18 F x (c + a)) = c + zpTot F 2 l (bif decide (x.1 = 2) then (bif zpHolds F x.2.2 then a + x.2.1 else a) else a)
    rw [← zS18_t F l]
    congr 1
    unfold zq18
    cases zpHolds F x.2.2
    · simp only [zk_f]
      cases decide (x.1 = 2) <;> rfl
    · simp only [zk_t]
      cases decide (x.1 = 2)
      · simp only [zk_f]; rw [Int32.add_zero]
      · simp only [zk_t]; ac_rfl
theorem zL_cl (t : Int32) : v_jm_max 0 (v_jm_min t 100) = v_D_greater 0 (v_D_lesser 100 t) := by
  apply Int32.toInt_inj.mp
  have e0 : (0 : Int32).toInt = 0 := by decide
  have e1 : (100 : Int32).toInt = 100 := by decide
  rw [zi_max, zi_min]
  unfold v_D_greater v_D_lesser
  rw [zi_lei t 100, e1]
  by_cases h : t.toInt ≤ 100
  · rw [decide_eq_true h, zk_t, zi_lei, e0]
    by_cases g : 0 ≤ t.toInt
    · rw [decide_eq_true g, zk_t]; omega
    · rw [decide_eq_false g, zk_f, e0]; omega
  · rw [decide_eq_false h, zk_f, zi_lei, e0, e1, decide_eq_true (by decide), zk_t, e1]; omega
theorem zpEnc_cg {N W : zMem} {L : List (Int32 × Int32 × List Int32)} (h : ∀ a i, a ≠ 42 → a ≠ 43 → W a i = N a i) (hE : zpEnc N 37 L) : zpEnc W 37 L := by
  obtain ⟨⟨a1, a2, a3, a4⟩, b, c⟩ := hE
  refine ⟨⟨(h 37 0 (by omega) (by omega)).trans a1, a2, (h 37 1 (by omega) (by omega)).trans a3, a4⟩, fun i hi => ?_, fun j hj => (h 41 j (by omega) (by omega)).trans (c j hj)⟩
  obtain ⟨b1, b2, b3⟩ := b i hi
  exact ⟨(h 38 i (by omega) (by omega)).trans b1, (h 39 i (by omega) (by omega)).trans b2, (h 40 i (by omega) (by omega)).trans b3⟩
theorem zL_t0 {V : zMem} (k : Int32) (h : (V 37 0).toInt < 1) : v_L_total V k = 0 ∧ ok_L_total V k ∧ (∀ b j, b ≠ 43 → w_L_total V k b j = V b j) := by
  have c : decide ((V 37 0) ≤ (Int32.ofNat 0)) = true := by
    rw [zi_lei]
    exact decide_eq_true (by show (V 37 0).toInt ≤ 0; omega)
  have e : g_L_total_1 V k 0 ((0 : Int32), (0 : Int32), V) = (false, ((0 : Int32), (0 : Int32), V)) := by
    unfold g_L_total_1
    simp only [c, zk_t]
  have kb : kb_L_total_1 V k 0 ((0 : Int32), (0 : Int32), V) := by
    intro hh
    rw [c] at hh; cases hh
  unfold v_L_total w_L_total ok_L_total
  rw [zf_w0 e]
  exact ⟨rfl, zf_k0 e kb, fun _ _ _ => rfl⟩
/-- amounts are small -/
def zpAm (L : List (Int32 × Int32 × List Int32)) : Prop := ∀ x, x ∈ L → 0 ≤ x.2.1.toInt ∧ x.2.1.toInt ≤ 999
theorem zpAm_ll {t : Nat → Int32} {n : Nat} (hn : n ≤ 400) : ∀ f i (r : (Nat × Int32) × List (Int32 × Int32 × List Int32)), r.1.1 ≤ n → zpAm r.2 → zpAm (zpLinesL t n f i r).2
  | 0, i, r, h, hl => hl
  | f + 1, i, r, h, hl => by
    show zpAm (bif zpCome t n i r.1 then (bif decide (i < 12) then zpLinesL t n f (i + 1) ((zpLine t n (zpStep t n i r.1)).1, r.2 ++ [(zpLine t n (zpStep t n i r.1)).2]) else (zpFail n (zpStep t n i r.1), r.2)) else (bif decide (r.1.1 < n) then (zpFail n r.1, r.2) else r)).2
    cases hc : zpCome t n i r.1 with
    | true =>
      rw [zk_t]
      have g : zpG1 n r.1 (zpStep t n i r.1) 0 := by
        unfold zpCome at hc
        unfold zpStep
        cases q : Nat.beq i 0 with
        | true => rw [zk_t]; exact zpG_rf h
        | false =>
          rw [q, zk_f] at hc
          rw [zk_f]
          exact zpG_wk (zpG_nx hc) (by omega)
      cases decide (i < 12)
      · rw [zk_f]; exact hl
      · rw [zk_t]
        have a := zpG_ln (t := t) hn g.1
        refine zpAm_ll hn f (i + 1) _ a.1 (fun x hx => ?_)
        rcases List.mem_append.mp hx with h1 | h1
        · exact hl x h1
        · rw [List.mem_singleton.mp h1, zpLine_eq]
          exact zpNum_r (zpG_vb (t := t) hn g.1).1
    | false =>
      rw [zk_f]
      cases decide (r.1.1 < n)
      · rw [zk_f]; exact hl
      · rw [zk_t]; exact hl
theorem zpTot_b (F : Nat → Int32) (k : Int32) : ∀ (L : List (Int32 × Int32 × List Int32)) (a : Int32) (c : Nat), zpAm L → 0 ≤ a.toInt → a.toInt ≤ c → c + 999 * L.length < 2147483648 → 0 ≤ (zpTot F k L a).toInt ∧ (zpTot F k L a).toInt ≤ c + 999 * L.length
  | [], a, c, _, h1, h2, _ => ⟨h1, by show a.toInt ≤ (c : Int) + 999 * (0 : Nat); omega⟩
  | x :: l, a, c, hm, h1, h2, h3 => by
    show 0 ≤ (zpTot F k l (bif decide (x.1 = k) then (bif zpHolds F x.2.2 then a + x.2.1 else a) else a)).toInt ∧ (zpTot F k l (bif decide (x.1 = k) then (bif zpHolds F x.2.2 then a + x.2.1 else a) else a)).toInt ≤ (c : Int) + 999 * ((l.length + 1 : Nat) : Int)
    have h3 : c + 999 * (l.length + 1) < 2147483648 := h3
    have hx := hm x (List.mem_cons_self ..)
    have e : (a + x.2.1).toInt = a.toInt + x.2.1.toInt := by
      rw [Int32.toInt_add]
      exact Int.bmod_eq_of_le (by omega) (by omega)
    have hb : 0 ≤ (bif decide (x.1 = k) then (bif zpHolds F x.2.2 then a + x.2.1 else a) else a).toInt ∧ (bif decide (x.1 = k) then (bif zpHolds F x.2.2 then a + x.2.1 else a) else a).toInt ≤ ((c + 999 : Nat) : Int) := by
      cases decide (x.1 = k)
      · rw [zk_f]; omega
      · rw [zk_t]
        cases zpHolds F x.2.2
        · rw [zk_f]; omega
        · rw [zk_t, e]; omega
    have z := zpTot_b F k l _ (c + 999) (fun y hy => hm y (List.mem_cons_of_mem _ hy)) hb.1 hb.2 (by omega)
    omega
theorem zL_core {N M' : zMem} {s p : Nat} (hS : zc_W N s (M' 195)) (hL : zc_Lw N 37 (M' 195)) (hp : p < 6) (h4 : s + 10 < 37) (hne : v_D_isPlain M' (Int32.ofNat p) = false) : ∃ (F : Nat → Int32) (L : List (Int32 × Int32 × List Int32)), (zpAm L ∧ L.length ≤ 12) ∧ (∀ V : zMem, (∀ a i, a ≠ 43 → V a i = w_L_learn N s (Int32.ofNat p) a i) → ∀ k, v_L_total V k = zpTot F k L 0 ∧ ok_L_total V k ∧ (∀ b j, b ≠ 43 → w_L_total V k b j = V b j)) ∧ ok_D_read (zA17 M' (Int32.ofNat p)) true ∧ zRg (zA17 M' (Int32.ofNat p)) (w_D_read (zA17 M' (Int32.ofNat p)) true) ∧ (w_D_read (zA17 M' (Int32.ofNat p)) true) 194 17 = zS17 F L ((zA17 M' (Int32.ofNat p)) 194 17) ∧ (w_D_read (zA17 M' (Int32.ofNat p)) true) 194 18 = zS18 F L ((zA17 M' (Int32.ofNat p)) 194 18) := by
  obtain ⟨l1, l2, l3⟩ := zL_learn hS hp h4 hne
  obtain ⟨w1, w2, w3, w4⟩ := hL
  have hF : zFa (zA17 M' (Int32.ofNat p)) (fun j => w_L_learn N s (Int32.ofNat p) 42 j) := zAF _ _ l3
  have hz : ∀ n, n ≤ 400 → (zA17 M' (Int32.ofNat p)) 194 10 = Int32.ofNat n → zR (zA17 M' (Int32.ofNat p)) (zpTx (fun i => M' 195 (309 + i)) n) n (zpSk (zpTx (fun i => M' 195 (309 + i)) n) n 0, -1) 0 := by
    intro n hn e
    refine ⟨⟨hn, e, Or.inr ⟨zAg9 _ _, fun i hi => ?_⟩⟩, zAg12 _ _, ⟨zAg13 _ _, by omega⟩, 0, zAg11 _ _, by omega, fun _ => ⟨by omega, rfl⟩⟩
    rw [zAf _ _ _ _ (by omega) (by omega)]
    unfold zpTx
    rw [decide_eq_true hi, zk_t]
  have e10 : (zA17 M' (Int32.ofNat p)) 194 10 = (bif (decide ((1 : Int32) ≤ (M' 195 1))) then (M' 195 2) else (0 : Int32)) := zAg10 _ _
  have c1 : decide ((1 : Int32) ≤ (M' 195 1)) = decide (1 ≤ (M' 195 1).toInt) := zi_lei 1 (M' 195 1)
  by_cases h1 : 1 ≤ (M' 195 1).toInt
  · obtain ⟨n, n1, n2, n3⟩ := zr_ex w3
    have n4 : (M' 195 2).toInt.toNat = n := by rw [← n3]; rfl
    obtain ⟨o1, o2⟩ := w4 h1
    rw [n4] at o1 o2
    rw [c1, decide_eq_true h1, zk_t, n2] at e10
    obtain ⟨r1, r2, r3, r4⟩ := zR_law (hz n (by omega) e10) hF
    obtain ⟨-, r5, r6⟩ := r4 o1
    refine ⟨_, _, ⟨zpAm_ll (by omega) 13 0 _ (zpSk_le (by omega)).1 (fun x hx => by cases hx), o2.1.2.1⟩, fun V hV k => ?_, r1, r2, r5, r6⟩
    exact zL_tot k (zpEnc_cg (N := N) (fun a i x y => (hV a i y).trans (l2 a i x)) o2) (zpFl_law (by omega) o1) (fun j hj => hV 42 j (by omega))
  · rw [c1, decide_eq_false h1, zk_f] at e10
    obtain ⟨r1, r2, r3, r4⟩ := zR_law (hz 0 (by omega) e10) hF
    have ez : zpLaw (zpTx (fun i => M' 195 (309 + i)) 0) 0 = ((0, -1), []) := rfl
    rw [ez] at r4
    obtain ⟨-, r5, r6⟩ := r4 rfl
    refine ⟨_, [], ⟨(fun x hx => by cases hx), by decide⟩, fun V hV k => ?_, r1, r2, r5, r6⟩
    refine zL_t0 k ?_
    rw [hV 37 0 (by omega), l2 37 0 (by omega), w1]
    omega
/-- what the law lets come, on both sides -/
theorem zL_asks {N M' : zMem} {s p : Nat} (hS : zc_W N s (M' 195)) (hL : zc_Lw N 37 (M' 195)) (hp : p < 6) (h4 : s + 10 < 37) : (ok_L_comes N s (Int32.ofNat p) ∧ ok_D_asks M' (Int32.ofNat p) ∧ v_L_comes N s (Int32.ofNat p) = (w_D_asks M' (Int32.ofNat p)) 194 17) ∧ (∀ a i, a ≠ 42 → a ≠ 43 → w_L_comes N s (Int32.ofNat p) a i = N a i) ∧ (∀ a i, a ≠ 200 → ¬ (a = 194 ∧ (i = 9 ∨ i = 10 ∨ i = 11 ∨ i = 13 ∨ i = 15 ∨ i = 16 ∨ i = 17 ∨ i = 18)) → (w_D_asks M' (Int32.ofNat p)) a i = M' a i) ∧ (zz_b01 (M' 194 15) = true → zz_b01 (M' 194 16) = true → zz_b01 ((w_D_asks M' (Int32.ofNat p)) 194 15) = true ∧ zz_b01 ((w_D_asks M' (Int32.ofNat p)) 194 16) = true) ∧ (v_D_isPlain M' (Int32.ofNat p) = false → (0 ≤ (v_L_makesKnown N s (Int32.ofNat p)).toInt ∧ (v_L_makesKnown N s (Int32.ofNat p)).toInt ≤ 12000) ∧ ok_L_makesKnown N s (Int32.ofNat p) ∧ v_L_makesKnown N s (Int32.ofNat p) = (w_D_asks M' (Int32.ofNat p)) 194 18 ∧ (∀ a i, a ≠ 42 → a ≠ 43 → w_L_makesKnown N s (Int32.ofNat p) a i = N a i)) := by
  have hpo := zw_pok hS hp
  have ho := zh_ok M' hp
  have hof := zw_of hS hp
  have i6 : zz_in (Int32.ofNat p) 6 = true := zi_in hp (by omega)
  have e1 : v_D_isPlain (zA1 M' (Int32.ofNat p)) (Int32.ofNat p) = v_D_isPlain M' (Int32.ofNat p) := rfl
  have epl : v_S_isPlain N s (Int32.ofNat p) = v_D_isPlain M' (Int32.ofNat p) := by
    rcases zw_p hS hp with ⟨-, a, b, -⟩ | ⟨k, d, hk, hd, u, a, b, -⟩
    · rw [a, b]
    · rw [a, b]
  rw [zAs_w, zAs_k, e1]
  unfold ok_L_comes v_L_comes w_L_comes
  rw [epl]
  cases hpl : v_D_isPlain M' (Int32.ofNat p) with
  | true =>
    simp only [zk_t]
    refine ⟨⟨⟨hpo.1, fun h => by cases h⟩, ⟨ho.2.2.1, ho.2.2.2.1, hpo.2.1, fun h => by cases h⟩, (zu_at rfl rfl).symm⟩, fun _ _ _ _ => trivial, fun a i h1 h2 => ?_, fun u1 u2 => ?_, fun h => by cases h⟩
    · rw [zu_o (by omega)]
      unfold zA1
      rw [zu_o (by omega), zu_o (by omega)]
    · rw [zu_o (by omega), zu_o (by omega)]
      unfold zA1
      rw [zu_o (by omega), zu_o (by omega), zu_o (by omega), zu_o (by omega)]
      exact ⟨u1, u2⟩
  | false =>
    simp only [zk_f]
    obtain ⟨l1, l2, l3⟩ := zL_learn hS hp h4 hpl
    obtain ⟨F, L, ⟨am, ll⟩, t, r1, r2, r5, r6⟩ := zL_core hS hL hp h4 hpl
    have t0 := t (w_L_learn N s (Int32.ofNat p)) (fun _ _ _ => rfl) 0
    have t1 := t (w_L_total (w_L_learn N s (Int32.ofNat p)) 0) t0.2.2 1
    have t2 := t (w_L_learn N s (Int32.ofNat p)) (fun _ _ _ => rfl) 2
    obtain ⟨-, r3, r4, r5', r6', r7, r8, r9, r10, r11, r12, -⟩ := zAr M' (Int32.ofNat p)
    have q8 := zw_pok (M' := zA8 M' (Int32.ofNat p)) (by rw [r8]; exact hS) hp
    have q10 := zw_pok (M' := zA10 M' (Int32.ofNat p)) (by rw [r10]; exact hS) hp
    have q11 := zw_fit (M' := zA11 M' (Int32.ofNat p)) (by rw [r11]; exact hS) hp
    have e17 : (zA17 M' (Int32.ofNat p)) 194 17 = N (s + 6) p / 10 + N (s + 7) p := by
      rw [← hof.2.2.1, ← hof.2.2.2.1]; exact zAg17 _ _
    have e18 : (zA17 M' (Int32.ofNat p)) 194 18 = 10 := zAg18 _ _
    refine ⟨⟨⟨hpo.1, fun _ => ⟨l1, i6, t0.2.1, t1.2.1⟩⟩, ⟨ho.2.2.1, ho.2.2.2.1, hpo.2.1, fun _ => ⟨ho.1, ho.2.2.1, ho.2.2.2.1, ho.2.2.2.2.1, ho.2.1, q8.2.2.2.1, q10.2.2.2.2.2, ho.2.1, q11.2.2.1, r1⟩⟩, ?_⟩, ?_, ?_, fun _ _ => ?_, fun _ => ⟨?_, ⟨l1, t2.2.1⟩, ?_, ?_⟩⟩
    · refine Eq.trans ?_ (zu_at rfl rfl).symm
      rw [r5, e17, t0.1, t1.1, zi_nat (by omega), l2 (s + 6) p (by omega), l2 (s + 7) p (by omega), zL_cl]
      have z := zS17_t F L (N (s + 6) p / 10 + N (s + 7) p) 0 0
      rw [Int32.sub_zero, Int32.add_zero] at z
      rw [z]
    · intro a i h1 h2
      rw [t1.2.2 a i h2, t0.2.2 a i h2, l2 a i h1]
    · intro a i h1 h2
      rw [zu_o (by omega)]
      by_cases h3 : a = 194 ∧ i = 12
      · obtain ⟨rfl, rfl⟩ := h3
        exact zu_at rfl rfl
      · rw [zu_o h3, r2 a i (by omega)]
        exact zAf _ _ _ _ h1 (by omega)
    · rw [zu_o (by omega), zu_o (by omega), zu_o (by omega), zu_o (by omega), r2 194 15 (by omega), r2 194 16 (by omega), zAf17 _ _ _ _ (by omega), zAf17 _ _ _ _ (by omega)]
      exact ⟨l3.2.2.2.1, l3.2.2.2.2⟩
    · have z := zpTot_b F 2 L 0 0 am (by decide) (by decide) (by omega)
      have e10 : (10 : Int32).toInt = 10 := by decide
      unfold v_L_makesKnown
      rw [t2.1, Int32.toInt_add, Int.bmod_eq_of_le (by omega) (by omega), e10]
      omega
    · refine Eq.trans ?_ ((zu_o (by omega)).trans (zu_o (by omega))).symm
      rw [r6, e18]
      unfold v_L_makesKnown
      rw [t2.1]
      have z := zS18_t F L 10 0
      rw [Int32.add_zero] at z
      rw [z]
    · intro a i h1 h2
      unfold w_L_makesKnown
      rw [t2.2.2 a i h2, l2 a i h1]
