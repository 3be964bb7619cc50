/-! THE FIELD: places beside places, ways; call 18; holes. -/
theorem zN_sl {a k : Nat} (hk : k < 32) : zsl (Int32.ofNat a) (Int32.ofNat k) = Int32.ofNat (a <<< k) := by
  unfold zsl
  apply Int32.toBitVec_inj.mp
  show (Int32.ofNat a).toBitVec <<< ((Int32.ofNat k &&& (31 : Int32)).toBitVec.smod 32) = _
  rw [BitVec.shiftLeft_eq', zN_sm k hk, zN_bv, zN_bv]
  apply BitVec.eq_of_toNat_eq
  rw [BitVec.toNat_shiftLeft, BitVec.toNat_ofNat, BitVec.toNat_ofNat, Nat.shiftLeft_eq, Nat.shiftLeft_eq, Nat.mul_mod, Nat.mod_mod, ← Nat.mul_mod]
theorem zma {n : Nat} (h : n < 65536) : n &&& 4294932343 = n &&& 30583 ∧ n &&& 4294962926 = n &&& 61166 := by
  have c1 : ∀ i, i < 16 → (4294932343 : Nat).testBit i = (30583 : Nat).testBit i ∧ (4294962926 : Nat).testBit i = (61166 : Nat).testBit i := by decide +kernel
  have hi : ∀ i, ¬ i < 16 → n.testBit i = false := fun i hi => Nat.testBit_lt_two_pow (Nat.lt_of_lt_of_le h (Nat.pow_le_pow_right (n := 2) (i := 16) (by omega) (by omega)))
  refine ⟨Nat.eq_of_testBit_eq fun i => ?_, Nat.eq_of_testBit_eq fun i => ?_⟩
  · rw [Nat.testBit_and, Nat.testBit_and]
    by_cases c : i < 16
    · rw [(c1 i c).1]
    · rw [hi i c, Bool.false_and, Bool.false_and]
  · rw [Nat.testBit_and, Nat.testBit_and]
    by_cases c : i < 16
    · rw [(c1 i c).2]
    · rw [hi i c, Bool.false_and, Bool.false_and]
def zgr (n : Nat) : Nat := (n ||| (((n &&& 30583) <<< 1) ||| ((n &&& 61166) >>> 1))) ||| (((n <<< 4) &&& 65535) ||| (n >>> 4))
theorem zF_gr {n : Nat} (h : n < 65536) : v_F_grown (Int32.ofNat n) = Int32.ofNat (zgr n) := by
  have h1 : n &&& 61166 ≤ n := Nat.and_le_left
  unfold v_F_grown zgr
  rw [show (-34953 : Int32) = Int32.ofNat 4294932343 from rfl, show (-4370 : Int32) = Int32.ofNat 4294962926 from rfl, show (65535 : Int32) = Int32.ofNat 65535 from rfl, show (1 : Int32) = Int32.ofNat 1 from rfl, show (4 : Int32) = Int32.ofNat 4 from rfl, zN_and, zN_and, (zma h).1, (zma h).2, zN_sl (by omega), zN_sl (by omega), zN_sr (by omega) (by omega), zN_sr (by omega) (by omega), zN_and, zN_or, zN_or, zN_or, zN_or]
def zbq (p : Nat) : Nat := ((((bif Nat.beq (p % 4) 0 then 0 else 1 <<< (p - 1)) ||| (bif Nat.beq (p % 4) 3 then 0 else 1 <<< (p + 1))) ||| (bif Nat.ble p 3 then 0 else 1 <<< (p - 4))) ||| (bif Nat.ble 12 p then 0 else 1 <<< (p + 4)))
def zbs (n : Nat) : Nat → Nat
  | 0 => 0
  | k + 1 => bif n.testBit k then zbs n k ||| zbq k else zbs n k
theorem zD_b4 : ∀ i, i < 16 → ((((bif (decide ((zrm (Int32.ofNat i) (4 : Int32)) ≤ 0)) then (0 : Int32) else (zsl (1 : Int32) ((Int32.ofNat i) - (1 : Int32)))) ||| (bif (decide ((3 : Int32) ≤ (zrm (Int32.ofNat i) (4 : Int32)))) then (0 : Int32) else (zsl (1 : Int32) ((Int32.ofNat i) + (1 : Int32))))) ||| (bif (decide ((Int32.ofNat i) ≤ (3 : Int32))) then (0 : Int32) else (zsl (1 : Int32) ((Int32.ofNat i) - (4 : Int32))))) ||| (bif (decide ((12 : Int32) ≤ (Int32.ofNat i))) then (0 : Int32) else (zsl (1 : Int32) ((Int32.ofNat i) + (4 : Int32))))) = Int32.ofNat (zbq i) := by decide +kernel
theorem zD_bs {n : Nat} (h : n < 65536) : v_D_beside (Int32.ofNat n) = Int32.ofNat (zbs n 16) := by
  unfold v_D_beside
  have key : ∀ k, k ≤ 16 → zf_for k (f_D_beside_1 (Int32.ofNat n)) 0 = Int32.ofNat (zbs n k) := by
    intro k
    induction k with
    | zero => intro _; rfl
    | succ k ih =>
      intro hk
      show f_D_beside_1 (Int32.ofNat n) k (zf_for k (f_D_beside_1 (Int32.ofNat n)) 0) = Int32.ofNat (bif n.testBit k then zbs n k ||| zbq k else zbs n k)
      rw [ih (by omega)]
      unfold f_D_beside_1
      rw [zN_isOf (by omega) (by omega), zD_b4 k (by omega), zN_or]
      cases n.testBit k
      · rw [zk_f, zk_f]
      · rw [zk_t, zk_t]
  exact key 16 (Nat.le_refl 16)
def zgt (n : Nat) : Bool := Nat.beq (zgr n) (n ||| zbs n 16) && Nat.ble (zgr n) 65535
theorem zgt_0 : zck zgt 12 0 = true := by decide +kernel
theorem zgt_1 : zck zgt 12 4096 = true := by decide +kernel
theorem zgt_2 : zck zgt 12 8192 = true := by decide +kernel
theorem zgt_3 : zck zgt 12 12288 = true := by decide +kernel
theorem zgt_4 : zck zgt 12 16384 = true := by decide +kernel
theorem zgt_5 : zck zgt 12 20480 = true := by decide +kernel
theorem zgt_6 : zck zgt 12 24576 = true := by decide +kernel
theorem zgt_7 : zck zgt 12 28672 = true := by decide +kernel
theorem zgt_8 : zck zgt 12 32768 = true := by decide +kernel
theorem zgt_9 : zck zgt 12 36864 = true := by decide +kernel
theorem zgt_10 : zck zgt 12 40960 = true := by decide +kernel
theorem zgt_11 : zck zgt 12 45056 = true := by decide +kernel
theorem zgt_12 : zck zgt 12 49152 = true := by decide +kernel
theorem zgt_13 : zck zgt 12 53248 = true := by decide +kernel
theorem zgt_14 : zck zgt 12 57344 = true := by decide +kernel
theorem zgt_15 : zck zgt 12 61440 = true := by decide +kernel
theorem zgt_ok {x : Nat} (h : x < 65536) : zgt x = true := by
  rcases (show x < 4096 ∨ (4096 ≤ x ∧ x < 8192) ∨ (8192 ≤ x ∧ x < 12288) ∨ (12288 ≤ x ∧ x < 16384) ∨ (16384 ≤ x ∧ x < 20480) ∨ (20480 ≤ x ∧ x < 24576) ∨ (24576 ≤ x ∧ x < 28672) ∨ (28672 ≤ x ∧ x < 32768) ∨ (32768 ≤ x ∧ x < 36864) ∨ (36864 ≤ x ∧ x < 40960) ∨ (40960 ≤ x ∧ x < 45056) ∨ (45056 ≤ x ∧ x < 49152) ∨ (49152 ≤ x ∧ x < 53248) ∨ (53248 ≤ x ∧ x < 57344) ∨ (57344 ≤ x ∧ x < 61440) ∨ (61440 ≤ x ∧ x < 65536) by omega) with a | a | a | a | a | a | a | a | a | a | a | a | a | a | a | a
  · exact zck_ok zgt 12 0 zgt_0 x (by omega) (by show x < 0 + 4096; omega)
  · exact zck_ok zgt 12 4096 zgt_1 x (by omega) (by show x < 4096 + 4096; omega)
  · exact zck_ok zgt 12 8192 zgt_2 x (by omega) (by show x < 8192 + 4096; omega)
  · exact zck_ok zgt 12 12288 zgt_3 x (by omega) (by show x < 12288 + 4096; omega)
  · exact zck_ok zgt 12 16384 zgt_4 x (by omega) (by show x < 16384 + 4096; omega)
  · exact zck_ok zgt 12 20480 zgt_5 x (by omega) (by show x < 20480 + 4096; omega)
  · exact zck_ok zgt 12 24576 zgt_6 x (by omega) (by show x < 24576 + 4096; omega)
  · exact zck_ok zgt 12 28672 zgt_7 x (by omega) (by show x < 28672 + 4096; omega)
  · exact zck_ok zgt 12 32768 zgt_8 x (by omega) (by show x < 32768 + 4096; omega)
  · exact zck_ok zgt 12 36864 zgt_9 x (by omega) (by show x < 36864 + 4096; omega)
  · exact zck_ok zgt 12 40960 zgt_10 x (by omega) (by show x < 40960 + 4096; omega)
  · exact zck_ok zgt 12 45056 zgt_11 x (by omega) (by show x < 45056 + 4096; omega)
  · exact zck_ok zgt 12 49152 zgt_12 x (by omega) (by show x < 49152 + 4096; omega)
  · exact zck_ok zgt 12 53248 zgt_13 x (by omega) (by show x < 53248 + 4096; omega)
  · exact zck_ok zgt 12 57344 zgt_14 x (by omega) (by show x < 57344 + 4096; omega)
  · exact zck_ok zgt 12 61440 zgt_15 x (by omega) (by show x < 61440 + 4096; omega)
theorem zgr_b {n : Nat} (h : n < 65536) : zgr n = n ||| zbs n 16 ∧ zgr n < 65536 := by
  have hh : (Nat.beq (zgr n) (n ||| zbs n 16) && Nat.ble (zgr n) 65535) = true := zgt_ok h
  rw [Bool.and_eq_true] at hh
  exact ⟨Nat.eq_of_beq_eq_true hh.1, by have := Nat.le_of_ble_eq_true hh.2; omega⟩
/-- one step within w -/
theorem zst {r w : Nat} (hr : r < 65536) (hs : r &&& w = r) : zgr r &&& w = r ||| (zbs r 16 &&& w) := by
  rw [(zgr_b hr).1]
  apply Nat.eq_of_testBit_eq
  intro i
  have h := congrArg (fun n => Nat.testBit n i) hs
  simp only [Nat.testBit_and] at h
  rw [Nat.testBit_and, Nat.testBit_or, Nat.testBit_or, Nat.testBit_and]
  revert h
  cases r.testBit i <;> cases w.testBit i <;> cases (zbs r 16).testBit i <;> decide
theorem zN_sub_ {a w : Nat} : (a &&& w) &&& w = a &&& w := by
  rw [Nat.and_assoc, Nat.and_self]
theorem zan_lt {a w : Nat} (h : w < 65536) : a &&& w < 65536 := Nat.lt_of_le_of_lt Nat.and_le_right h
theorem zr_ofk {M : zMem} (hI : zv_Inv M) {k : Nat} (hk : k < 8) : ∃ m, m < 65536 ∧ M 5 k = Int32.ofNat m := by
  obtain ⟨m, m1, m2, -⟩ := zr_ex (zv_K hI hk).2.1
  exact ⟨m, by omega, m2⟩
theorem zw_loop {M : zMem} {x y : Int32} {m l : Nat} (x0 x1 : Int32) (hm : m < 65536) (hl : l < 16) (z : Int32) (hz : z = Int32.ofNat l) (hk : v_D_ofKind (zz_up M 194 0 (zb (bif (v_D_isKind x) then (bif (v_D_isIn y (0 : Int32) (15 : Int32)) then (bif (v_D_isIn z (0 : Int32) (15 : Int32)) then false else true) else true) else true))) x (0 : Int32) = Int32.ofNat m) {a : Int32} {r : Nat} (hr : r < 65536) (hs : r &&& m = r) (ha : a = Int32.ofNat r) : zf_wh 1000 (g_F_steps_1 (Int32.ofNat m) x1 z) 0 (a, false, 0) = zf_wh 1000 (g_D_reach_1 M x y z) 0 (a, false, 0) ∧ zf_wk 1000 (g_F_steps_1 (Int32.ofNat m) x1 z) (kb_F_steps_1 (Int32.ofNat m) x1 z) 0 (a, false, 0) ∧ zf_wk 1000 (g_D_reach_1 M x y z) (kb_D_reach_1 M x y z) 0 (a, false, 0) := by
  have e16 : ∀ i, i < 1000 → decide ((16 : Int32) ≤ Int32.ofNat i) = decide (16 ≤ i) := fun i hi => zi_len (n := 16) (by omega) hi
  have hN : ∀ i (s : Int32 × Bool × Int32), (i ≤ 16 ∧ ∃ r, r < 65536 ∧ r &&& m = r ∧ s.1 = Int32.ofNat r) → g_F_steps_1 (Int32.ofNat m) x1 z i s = g_D_reach_1 M x y z i s ∧ ((g_F_steps_1 (Int32.ofNat m) x1 z i s).1 = true → (i + 1 ≤ 16 ∧ ∃ r, r < 65536 ∧ r &&& m = r ∧ (g_F_steps_1 (Int32.ofNat m) x1 z i s).2.1 = Int32.ofNat r)) := by
    intro i s ⟨hi, r, r1, r2, r3⟩
    have hd : decide ((zsr s.1 z &&& (1 : Int32)) = 0) = !r.testBit l := by rw [r3, hz]; exact zN_d0 r l (by omega) (by omega)
    have ho : v_D_isOf s.1 z = r.testBit l := by rw [r3, hz]; exact zN_isOf (by omega) (by omega)
    have e1 : v_F_grown s.1 &&& Int32.ofNat m = Int32.ofNat (zgr r &&& m) := by rw [r3, zF_gr r1, zN_and]
    have e2 : s.1 ||| (v_D_beside s.1 &&& Int32.ofNat m) = Int32.ofNat (zgr r &&& m) := by rw [r3, zD_bs r1, zN_and, zN_or, ← zst r1 r2]
    unfold g_F_steps_1 g_D_reach_1
    rw [hk, hd, ho, e1, e2, e16 i (by omega)]
    by_cases c : 16 ≤ i
    · rw [decide_eq_true c]
      simp only [zk_t]
      exact ⟨trivial, (fun h => by cases h)⟩
    · rw [decide_eq_false c]
      cases r.testBit l
      · simp only [zk_f, zk_t, Bool.not_false]
        exact ⟨trivial, fun _ => ⟨by omega, _, zan_lt hm, zN_sub_, rfl⟩⟩
      · simp only [zk_f, zk_t, Bool.not_true]
        exact ⟨trivial, (fun h => by cases h)⟩
  have h0 : (0 ≤ 16 ∧ ∃ r, r < 65536 ∧ r &&& m = r ∧ ((a, false, 0) : Int32 × Bool × Int32).1 = Int32.ofNat r) := ⟨by omega, r, hr, hs, ha⟩
  refine ⟨zf_wcg (fun i (s : Int32 × Bool × Int32) => i ≤ 16 ∧ ∃ r, r < 65536 ∧ r &&& m = r ∧ s.1 = Int32.ofNat r) hN 1000 0 _ h0, zf_wke (fun i (s : Int32 × Bool × Int32) => i ≤ 16 ∧ ∃ r, r < 65536 ∧ r &&& m = r ∧ s.1 = Int32.ofNat r) 16 (fun i s h => h.1) (fun i s h => ⟨trivial, (hN i s h).2⟩) 1000 0 _ h0 (by omega), zf_wke (fun i (s : Int32 × Bool × Int32) => i ≤ 16 ∧ ∃ r, r < 65536 ∧ r &&& m = r ∧ s.1 = Int32.ofNat r) 16 (fun i s h => h.1) (fun i s h => ⟨trivial, ?_⟩) 1000 0 _ h0 (by omega)⟩
  rw [← (hN i s h).1]
  exact (hN i s h).2
theorem zo18 : zo_18 zv_Inv := by
  intro M x y z hI
  rcases zg_k x with ⟨k, hk, e, en, t, i⟩ | ⟨t, i⟩
  · rcases zg_l y with ⟨p, hp, e2, -, t2, i2⟩ | ⟨t2, i2⟩
    · rcases zg_l z with ⟨q, hq, e3, -, t3, i3⟩ | ⟨t3, i3⟩
      · obtain ⟨m, m1, m2⟩ := zr_ofk hI hk
        have hi : v_D_isKind x = true := i
        have hkd : v_D_ofKind (zz_up M 194 0 (zb (bif (v_D_isKind x) then (bif (v_D_isIn y (0 : Int32) (15 : Int32)) then (bif (v_D_isIn z (0 : Int32) (15 : Int32)) then false else true) else true) else true))) x (0 : Int32) = Int32.ofNat m := by
          rw [e, show v_D_ofKind (zz_up M 194 0 (zb (bif (v_D_isKind (Int32.ofNat k)) then (bif (v_D_isIn y (0 : Int32) (15 : Int32)) then (bif (v_D_isIn z (0 : Int32) (15 : Int32)) then false else true) else true) else true))) (Int32.ofNat k) (0 : Int32) = M 5 k from zq_kd hI (zq_h M _) hk 0 (by omega)]
          exact m2
        have ea : Int32.ofNat m &&& zsl (1 : Int32) y = Int32.ofNat (m &&& 2 ^ p) := by
          rw [e2, zN_sl1 p (by omega), Nat.one_shiftLeft, zN_and]
        have eb : zsl (1 : Int32) y &&& Int32.ofNat m = Int32.ofNat (m &&& 2 ^ p) := by
          rw [e2, zN_sl1 p (by omega), Nat.one_shiftLeft, zN_and, Nat.and_comm]
        have hs : (m &&& 2 ^ p) &&& m = m &&& 2 ^ p := by
          rw [Nat.and_comm m, zN_sub_]
        obtain ⟨l1, l2, l3⟩ := zw_loop (M := M) (x := x) (y := y) x y m1 hq z e3 hkd (a := Int32.ofNat (m &&& 2 ^ p)) (Nat.lt_of_le_of_lt Nat.and_le_left m1) hs rfl
        unfold ok_N_reach t_N_reach ok_D_reach v_N_reach v_D_reach w_D_reach v_F_steps ok_F_steps
        rw [hkd, t, t2, t3, en, m2, ea, eb, l1]
        simp only [hi, i2, i3, zn_0, zk_t, zb_f, zd_0]
        refine ⟨fun _ _ _ => ⟨by rw [e]; exact zi_in hk (by omega), l2⟩, Or.inl trivial, fun _ => ⟨by rw [e]; exact zd_kdk _ hk (k := 0) (by omega), l3⟩, rfl, fun _ => trivial, zv_th hI _⟩
      · have hi : v_D_isKind x = true := i
        unfold ok_N_reach t_N_reach ok_D_reach v_N_reach v_D_reach w_D_reach
        simp only [t, t2, t3, hi, i2, i3, zn_0, zn_3, zk_f, zk_t, zb_t, zd_1]
        exact ⟨(fun _ _ h => by cases h), Or.inr trivial, (fun h => by cases h), rfl, (fun h => by cases h), zv_th hI _⟩
    · have hi : v_D_isKind x = true := i
      unfold ok_N_reach t_N_reach ok_D_reach v_N_reach v_D_reach w_D_reach
      simp only [t, t2, hi, i2, zn_0, zn_3, zk_f, zk_t, zb_t, zd_1]
      exact ⟨(fun _ h => by cases h), Or.inr trivial, (fun h => by cases h), rfl, (fun h => by cases h), zv_th hI _⟩
  · have hi : v_D_isKind x = false := i
    unfold ok_N_reach t_N_reach ok_D_reach v_N_reach v_D_reach w_D_reach
    simp only [t, hi, zn_3, zk_f, zb_t, zd_1]
    exact ⟨(fun h => by cases h), Or.inr trivial, (fun h => by cases h), rfl, (fun h => by cases h), zv_th hI _⟩
/-- spreading sixteen times -/
def zsp (w : Nat) : Nat → Nat → Nat
  | 0, r => r
  | k + 1, r => zgr (zsp w k r) &&& w
theorem zsp_lt {w r : Nat} (hw : w < 65536) (hr : r < 65536) : ∀ k, zsp w k r < 65536
  | 0 => hr
  | k + 1 => zan_lt hw
theorem zsp_s {w r : Nat} (hs : r &&& w = r) : ∀ k, zsp w k r &&& w = zsp w k r
  | 0 => hs
  | k + 1 => zN_sub_
theorem zF_sp {w r : Nat} (hw : w < 65536) (hr : r < 65536) : v_F_spread (Int32.ofNat r) (Int32.ofNat w) = Int32.ofNat (zsp w 16 r) := by
  unfold v_F_spread
  have key : ∀ k, zf_for k (f_F_spread_1 (Int32.ofNat r) (Int32.ofNat w)) (Int32.ofNat r) = Int32.ofNat (zsp w k r) := by
    intro k
    induction k with
    | zero => rfl
    | succ k ih =>
      show f_F_spread_1 (Int32.ofNat r) (Int32.ofNat w) k (zf_for k (f_F_spread_1 (Int32.ofNat r) (Int32.ofNat w)) (Int32.ofNat r)) = Int32.ofNat (zgr (zsp w k r) &&& w)
      rw [ih]
      unfold f_F_spread_1
      rw [zF_gr (zsp_lt hw hr k), zN_and]
  exact key 16
theorem zD_fl {w f : Nat} (hw : w < 65536) : v_D_floods (Int32.ofNat f) (Int32.ofNat w) = Int32.ofNat (zsp w 16 (f &&& w)) := by
  unfold v_D_floods
  rw [zN_and]
  have key : ∀ k, zf_for k (f_D_floods_1 (Int32.ofNat f) (Int32.ofNat w)) (Int32.ofNat (f &&& w)) = Int32.ofNat (zsp w k (f &&& w)) := by
    intro k
    induction k with
    | zero => rfl
    | succ k ih =>
      show f_D_floods_1 (Int32.ofNat f) (Int32.ofNat w) k (zf_for k (f_D_floods_1 (Int32.ofNat f) (Int32.ofNat w)) (Int32.ofNat (f &&& w))) = Int32.ofNat (zgr (zsp w k (f &&& w)) &&& w)
      rw [ih]
      unfold f_D_floods_1
      have hl := zsp_lt hw (zan_lt (a := f) hw) k
      rw [zD_bs hl, zN_and, zN_or, ← zst hl (zsp_s zN_sub_ k)]
  exact key 16
theorem zD_edge (M : zMem) (x : Int32) : zf_for 16 (f_D_holes_1 M x) (0 : Int32) = Int32.ofNat 63903 := by
  have e : zf_for 16 (fun i1 (a1 : Int32) => (a1 ||| (bif (decide ((Int32.ofNat i1) < (4 : Int32))) then (zsl (1 : Int32) (Int32.ofNat i1)) else (bif (decide ((11 : Int32) < (Int32.ofNat i1))) then (zsl (1 : Int32) (Int32.ofNat i1)) else (bif (decide ((zrm (Int32.ofNat i1) (4 : Int32)) = 0)) then (zsl (1 : Int32) (Int32.ofNat i1)) else (bif (decide ((zrm (Int32.ofNat i1) (4 : Int32)) = (3 : Int32))) then (zsl (1 : Int32) (Int32.ofNat i1)) else (0 : Int32))))))) (0 : Int32) = Int32.ofNat 63903 := by decide +kernel
  exact e
theorem zq_hol {M M' : zMem} (hI : zv_Inv M) (h : M' 195 = M 195) {k : Nat} (hk : k < 8) : v_F_holes (M 5 k) = v_D_holes M' (Int32.ofNat k) := by
  obtain ⟨m, m1, m2⟩ := zr_ofk hI hk
  have e0 : v_D_ofKind M' (Int32.ofNat k) (0 : Int32) = Int32.ofNat m := by
    rw [show v_D_ofKind M' (Int32.ofNat k) (0 : Int32) = M 5 k from zq_kd hI h hk 0 (by omega)]; exact m2
  unfold v_F_holes v_D_holes
  rw [e0, m2, zD_edge, show (65535 : Int32) = Int32.ofNat 65535 from rfl, show (-1 : Int32) = Int32.ofNat 4294967295 from rfl, show (63903 : Int32) = Int32.ofNat 63903 from rfl, zN_xor, zN_and, zN_and]
  have hb : 65535 &&& (m ^^^ 4294967295) < 65536 := Nat.lt_of_le_of_lt Nat.and_le_left (by omega)
  rw [zF_sp hb (Nat.lt_of_le_of_lt Nat.and_le_left hb), zD_fl hb, Nat.and_comm 63903]
