/-! more rows for the lifting -/
theorem zz_jn {X Y z : Option zz_R} (h1 : X = z → Y = z) (h2 : X = z) : Y = z := h1 h2
theorem zz_bc (c : Bool) : c = true ∨ c = false := by cases c <;> simp
theorem zz_ec {c : Bool} {A B z : Option zz_R} (h1 : c = true → A = z) (h2 : c = false → B = z) : (bif c then A else B) = z := by
  cases c
  · exact h2 rfl
  · exact h1 rfl
theorem zf_whY {α : Type} {X : Nat → α → Option zz_R} {Y : α → Option zz_R} {z : Option zz_R} {g : Nat → α → Bool × α} {k : Nat → α → Prop} (hs : ∀ i a, k i a → ((g i a).1 = true → X (i + 1) (g i a).2 = z) → ((g i a).1 = false → Y (g i a).2 = z) → X i a = z) (n i : Nat) (a : α) (hk : zf_wk n g k i a) (hY : Y (zf_wh n g i a) = z) : X i a = z :=
  zf_whD (E := fun a => Y a = z) hs n i a hk hY
theorem zb_t : zb true = 1 := rfl
theorem zb_f : zb false = 0 := rfl
/-- a memory named once -/
def zy_l (M : zMem) (f : zMem → zMem) : zMem := f M
theorem zc_eqT {m : zz_M} {d pc np a b : Nat} {o : Int} {k : Int32} {L : List (Option Value)} {st : List Value} {h : zz_H} {x y : Int32} {z : Option zz_R} (hf : zz_find m.1 pc = some (.if_icmp .eq o, np, a, b, k)) (hc : decide (x = y) = true) (hz : zz_D (m, d, a, L, st) h = z) : zz_D (m, d, pc, L, .int y :: .int x :: st) h = z :=
  (zz_go 1 (fun rec => by
    show zz_step _ _ rec _ _ = _
    unfold zz_step
    simp only [hf, zz_cmp, hc, Bool.not_true, Bool.not_false, cond_true, cond_false])).trans hz
theorem zo_eqT {m : zz_M} {d pc np a b : Nat} {o : Int} {k : Int32} {L : List (Option Value)} {st : List Value} {h : zz_H} {x : Int32} {z : Option zz_R} (hf : zz_find m.1 pc = some (.ifCond .eq o, np, a, b, k)) (hc : decide (x = 0) = true) (hz : zz_D (m, d, a, L, st) h = z) : zz_D (m, d, pc, L, .int x :: st) h = z :=
  (zz_go 1 (fun rec => by
    show zz_step _ _ rec _ _ = _
    unfold zz_step
    simp only [hf, zz_cmp0, hc, Bool.not_true, Bool.not_false, cond_true, cond_false])).trans hz
theorem zc_eqF {m : zz_M} {d pc np a b : Nat} {o : Int} {k : Int32} {L : List (Option Value)} {st : List Value} {h : zz_H} {x y : Int32} {z : Option zz_R} (hf : zz_find m.1 pc = some (.if_icmp .eq o, np, a, b, k)) (hc : decide (x = y) = false) (hz : zz_D (m, d, np, L, st) h = z) : zz_D (m, d, pc, L, .int y :: .int x :: st) h = z :=
  (zz_go 1 (fun rec => by
    show zz_step _ _ rec _ _ = _
    unfold zz_step
    simp only [hf, zz_cmp, hc, Bool.not_true, Bool.not_false, cond_true, cond_false])).trans hz
theorem zo_eqF {m : zz_M} {d pc np a b : Nat} {o : Int} {k : Int32} {L : List (Option Value)} {st : List Value} {h : zz_H} {x : Int32} {z : Option zz_R} (hf : zz_find m.1 pc = some (.ifCond .eq o, np, a, b, k)) (hc : decide (x = 0) = false) (hz : zz_D (m, d, np, L, st) h = z) : zz_D (m, d, pc, L, .int x :: st) h = z :=
  (zz_go 1 (fun rec => by
    show zz_step _ _ rec _ _ = _
    unfold zz_step
    simp only [hf, zz_cmp0, hc, Bool.not_true, Bool.not_false, cond_true, cond_false])).trans hz
theorem zc_neT {m : zz_M} {d pc np a b : Nat} {o : Int} {k : Int32} {L : List (Option Value)} {st : List Value} {h : zz_H} {x y : Int32} {z : Option zz_R} (hf : zz_find m.1 pc = some (.if_icmp .ne o, np, a, b, k)) (hc : decide (x = y) = true) (hz : zz_D (m, d, np, L, st) h = z) : zz_D (m, d, pc, L, .int y :: .int x :: st) h = z :=
  (zz_go 1 (fun rec => by
    show zz_step _ _ rec _ _ = _
    unfold zz_step
    simp only [hf, zz_cmp, hc, Bool.not_true, Bool.not_false, cond_true, cond_false])).trans hz
theorem zo_neT {m : zz_M} {d pc np a b : Nat} {o : Int} {k : Int32} {L : List (Option Value)} {st : List Value} {h : zz_H} {x : Int32} {z : Option zz_R} (hf : zz_find m.1 pc = some (.ifCond .ne o, np, a, b, k)) (hc : decide (x = 0) = true) (hz : zz_D (m, d, np, L, st) h = z) : zz_D (m, d, pc, L, .int x :: st) h = z :=
  (zz_go 1 (fun rec => by
    show zz_step _ _ rec _ _ = _
    unfold zz_step
    simp only [hf, zz_cmp0, hc, Bool.not_true, Bool.not_false, cond_true, cond_false])).trans hz
theorem zc_neF {m : zz_M} {d pc np a b : Nat} {o : Int} {k : Int32} {L : List (Option Value)} {st : List Value} {h : zz_H} {x y : Int32} {z : Option zz_R} (hf : zz_find m.1 pc = some (.if_icmp .ne o, np, a, b, k)) (hc : decide (x = y) = false) (hz : zz_D (m, d, a, L, st) h = z) : zz_D (m, d, pc, L, .int y :: .int x :: st) h = z :=
  (zz_go 1 (fun rec => by
    show zz_step _ _ rec _ _ = _
    unfold zz_step
    simp only [hf, zz_cmp, hc, Bool.not_true, Bool.not_false, cond_true, cond_false])).trans hz
theorem zo_neF {m : zz_M} {d pc np a b : Nat} {o : Int} {k : Int32} {L : List (Option Value)} {st : List Value} {h : zz_H} {x : Int32} {z : Option zz_R} (hf : zz_find m.1 pc = some (.ifCond .ne o, np, a, b, k)) (hc : decide (x = 0) = false) (hz : zz_D (m, d, a, L, st) h = z) : zz_D (m, d, pc, L, .int x :: st) h = z :=
  (zz_go 1 (fun rec => by
    show zz_step _ _ rec _ _ = _
    unfold zz_step
    simp only [hf, zz_cmp0, hc, Bool.not_true, Bool.not_false, cond_true, cond_false])).trans hz
theorem zc_ltT {m : zz_M} {d pc np a b : Nat} {o : Int} {k : Int32} {L : List (Option Value)} {st : List Value} {h : zz_H} {x y : Int32} {z : Option zz_R} (hf : zz_find m.1 pc = some (.if_icmp .lt o, np, a, b, k)) (hc : decide (x < y) = true) (hz : zz_D (m, d, a, L, st) h = z) : zz_D (m, d, pc, L, .int y :: .int x :: st) h = z :=
  (zz_go 1 (fun rec => by
    show zz_step _ _ rec _ _ = _
    unfold zz_step
    simp only [hf, zz_cmp, hc, Bool.not_true, Bool.not_false, cond_true, cond_false])).trans hz
theorem zo_ltT {m : zz_M} {d pc np a b : Nat} {o : Int} {k : Int32} {L : List (Option Value)} {st : List Value} {h : zz_H} {x : Int32} {z : Option zz_R} (hf : zz_find m.1 pc = some (.ifCond .lt o, np, a, b, k)) (hc : decide (x < 0) = true) (hz : zz_D (m, d, a, L, st) h = z) : zz_D (m, d, pc, L, .int x :: st) h = z :=
  (zz_go 1 (fun rec => by
    show zz_step _ _ rec _ _ = _
    unfold zz_step
    simp only [hf, zz_cmp0, hc, Bool.not_true, Bool.not_false, cond_true, cond_false])).trans hz
theorem zc_ltF {m : zz_M} {d pc np a b : Nat} {o : Int} {k : Int32} {L : List (Option Value)} {st : List Value} {h : zz_H} {x y : Int32} {z : Option zz_R} (hf : zz_find m.1 pc = some (.if_icmp .lt o, np, a, b, k)) (hc : decide (x < y) = false) (hz : zz_D (m, d, np, L, st) h = z) : zz_D (m, d, pc, L, .int y :: .int x :: st) h = z :=
  (zz_go 1 (fun rec => by
    show zz_step _ _ rec _ _ = _
    unfold zz_step
    simp only [hf, zz_cmp, hc, Bool.not_true, Bool.not_false, cond_true, cond_false])).trans hz
theorem zo_ltF {m : zz_M} {d pc np a b : Nat} {o : Int} {k : Int32} {L : List (Option Value)} {st : List Value} {h : zz_H} {x : Int32} {z : Option zz_R} (hf : zz_find m.1 pc = some (.ifCond .lt o, np, a, b, k)) (hc : decide (x < 0) = false) (hz : zz_D (m, d, np, L, st) h = z) : zz_D (m, d, pc, L, .int x :: st) h = z :=
  (zz_go 1 (fun rec => by
    show zz_step _ _ rec _ _ = _
    unfold zz_step
    simp only [hf, zz_cmp0, hc, Bool.not_true, Bool.not_false, cond_true, cond_false])).trans hz
theorem zc_geT {m : zz_M} {d pc np a b : Nat} {o : Int} {k : Int32} {L : List (Option Value)} {st : List Value} {h : zz_H} {x y : Int32} {z : Option zz_R} (hf : zz_find m.1 pc = some (.if_icmp .ge o, np, a, b, k)) (hc : decide (y ≤ x) = true) (hz : zz_D (m, d, a, L, st) h = z) : zz_D (m, d, pc, L, .int y :: .int x :: st) h = z :=
  (zz_go 1 (fun rec => by
    show zz_step _ _ rec _ _ = _
    unfold zz_step
    simp only [hf, zz_cmp, hc, Bool.not_true, Bool.not_false, cond_true, cond_false])).trans hz
theorem zo_geT {m : zz_M} {d pc np a b : Nat} {o : Int} {k : Int32} {L : List (Option Value)} {st : List Value} {h : zz_H} {x : Int32} {z : Option zz_R} (hf : zz_find m.1 pc = some (.ifCond .ge o, np, a, b, k)) (hc : decide (0 ≤ x) = true) (hz : zz_D (m, d, a, L, st) h = z) : zz_D (m, d, pc, L, .int x :: st) h = z :=
  (zz_go 1 (fun rec => by
    show zz_step _ _ rec _ _ = _
    unfold zz_step
    simp only [hf, zz_cmp0, hc, Bool.not_true, Bool.not_false, cond_true, cond_false])).trans hz
theorem zc_geF {m : zz_M} {d pc np a b : Nat} {o : Int} {k : Int32} {L : List (Option Value)} {st : List Value} {h : zz_H} {x y : Int32} {z : Option zz_R} (hf : zz_find m.1 pc = some (.if_icmp .ge o, np, a, b, k)) (hc : decide (y ≤ x) = false) (hz : zz_D (m, d, np, L, st) h = z) : zz_D (m, d, pc, L, .int y :: .int x :: st) h = z :=
  (zz_go 1 (fun rec => by
    show zz_step _ _ rec _ _ = _
    unfold zz_step
    simp only [hf, zz_cmp, hc, Bool.not_true, Bool.not_false, cond_true, cond_false])).trans hz
theorem zo_geF {m : zz_M} {d pc np a b : Nat} {o : Int} {k : Int32} {L : List (Option Value)} {st : List Value} {h : zz_H} {x : Int32} {z : Option zz_R} (hf : zz_find m.1 pc = some (.ifCond .ge o, np, a, b, k)) (hc : decide (0 ≤ x) = false) (hz : zz_D (m, d, np, L, st) h = z) : zz_D (m, d, pc, L, .int x :: st) h = z :=
  (zz_go 1 (fun rec => by
    show zz_step _ _ rec _ _ = _
    unfold zz_step
    simp only [hf, zz_cmp0, hc, Bool.not_true, Bool.not_false, cond_true, cond_false])).trans hz
theorem zc_gtT {m : zz_M} {d pc np a b : Nat} {o : Int} {k : Int32} {L : List (Option Value)} {st : List Value} {h : zz_H} {x y : Int32} {z : Option zz_R} (hf : zz_find m.1 pc = some (.if_icmp .gt o, np, a, b, k)) (hc : decide (y < x) = true) (hz : zz_D (m, d, a, L, st) h = z) : zz_D (m, d, pc, L, .int y :: .int x :: st) h = z :=
  (zz_go 1 (fun rec => by
    show zz_step _ _ rec _ _ = _
    unfold zz_step
    simp only [hf, zz_cmp, hc, Bool.not_true, Bool.not_false, cond_true, cond_false])).trans hz
theorem zo_gtT {m : zz_M} {d pc np a b : Nat} {o : Int} {k : Int32} {L : List (Option Value)} {st : List Value} {h : zz_H} {x : Int32} {z : Option zz_R} (hf : zz_find m.1 pc = some (.ifCond .gt o, np, a, b, k)) (hc : decide (0 < x) = true) (hz : zz_D (m, d, a, L, st) h = z) : zz_D (m, d, pc, L, .int x :: st) h = z :=
  (zz_go 1 (fun rec => by
    show zz_step _ _ rec _ _ = _
    unfold zz_step
    simp only [hf, zz_cmp0, hc, Bool.not_true, Bool.not_false, cond_true, cond_false])).trans hz
theorem zc_gtF {m : zz_M} {d pc np a b : Nat} {o : Int} {k : Int32} {L : List (Option Value)} {st : List Value} {h : zz_H} {x y : Int32} {z : Option zz_R} (hf : zz_find m.1 pc = some (.if_icmp .gt o, np, a, b, k)) (hc : decide (y < x) = false) (hz : zz_D (m, d, np, L, st) h = z) : zz_D (m, d, pc, L, .int y :: .int x :: st) h = z :=
  (zz_go 1 (fun rec => by
    show zz_step _ _ rec _ _ = _
    unfold zz_step
    simp only [hf, zz_cmp, hc, Bool.not_true, Bool.not_false, cond_true, cond_false])).trans hz
theorem zo_gtF {m : zz_M} {d pc np a b : Nat} {o : Int} {k : Int32} {L : List (Option Value)} {st : List Value} {h : zz_H} {x : Int32} {z : Option zz_R} (hf : zz_find m.1 pc = some (.ifCond .gt o, np, a, b, k)) (hc : decide (0 < x) = false) (hz : zz_D (m, d, np, L, st) h = z) : zz_D (m, d, pc, L, .int x :: st) h = z :=
  (zz_go 1 (fun rec => by
    show zz_step _ _ rec _ _ = _
    unfold zz_step
    simp only [hf, zz_cmp0, hc, Bool.not_true, Bool.not_false, cond_true, cond_false])).trans hz
theorem zc_leT {m : zz_M} {d pc np a b : Nat} {o : Int} {k : Int32} {L : List (Option Value)} {st : List Value} {h : zz_H} {x y : Int32} {z : Option zz_R} (hf : zz_find m.1 pc = some (.if_icmp .le o, np, a, b, k)) (hc : decide (x ≤ y) = true) (hz : zz_D (m, d, a, L, st) h = z) : zz_D (m, d, pc, L, .int y :: .int x :: st) h = z :=
  (zz_go 1 (fun rec => by
    show zz_step _ _ rec _ _ = _
    unfold zz_step
    simp only [hf, zz_cmp, hc, Bool.not_true, Bool.not_false, cond_true, cond_false])).trans hz
theorem zo_leT {m : zz_M} {d pc np a b : Nat} {o : Int} {k : Int32} {L : List (Option Value)} {st : List Value} {h : zz_H} {x : Int32} {z : Option zz_R} (hf : zz_find m.1 pc = some (.ifCond .le o, np, a, b, k)) (hc : decide (x ≤ 0) = true) (hz : zz_D (m, d, a, L, st) h = z) : zz_D (m, d, pc, L, .int x :: st) h = z :=
  (zz_go 1 (fun rec => by
    show zz_step _ _ rec _ _ = _
    unfold zz_step
    simp only [hf, zz_cmp0, hc, Bool.not_true, Bool.not_false, cond_true, cond_false])).trans hz
theorem zc_leF {m : zz_M} {d pc np a b : Nat} {o : Int} {k : Int32} {L : List (Option Value)} {st : List Value} {h : zz_H} {x y : Int32} {z : Option zz_R} (hf : zz_find m.1 pc = some (.if_icmp .le o, np, a, b, k)) (hc : decide (x ≤ y) = false) (hz : zz_D (m, d, np, L, st) h = z) : zz_D (m, d, pc, L, .int y :: .int x :: st) h = z :=
  (zz_go 1 (fun rec => by
    show zz_step _ _ rec _ _ = _
    unfold zz_step
    simp only [hf, zz_cmp, hc, Bool.not_true, Bool.not_false, cond_true, cond_false])).trans hz
theorem zo_leF {m : zz_M} {d pc np a b : Nat} {o : Int} {k : Int32} {L : List (Option Value)} {st : List Value} {h : zz_H} {x : Int32} {z : Option zz_R} (hf : zz_find m.1 pc = some (.ifCond .le o, np, a, b, k)) (hc : decide (x ≤ 0) = false) (hz : zz_D (m, d, np, L, st) h = z) : zz_D (m, d, pc, L, .int x :: st) h = z :=
  (zz_go 1 (fun rec => by
    show zz_step _ _ rec _ _ = _
    unfold zz_step
    simp only [hf, zz_cmp0, hc, Bool.not_true, Bool.not_false, cond_true, cond_false])).trans hz
theorem zq_eT {m : zz_M} {d pc np a b : Nat} {o : Int} {k : Int32} {L : List (Option Value)} {st : List Value} {h : zz_H} {c : Bool} {z : Option zz_R} (hf : zz_find m.1 pc = some (.ifCond .eq o, np, a, b, k)) (hc : c = true) (hz : zz_D (m, d, np, L, st) h = z) : zz_D (m, d, pc, L, .int (zb c) :: st) h = z :=
  (zz_go 1 (fun rec => by
    show zz_step _ _ rec _ _ = _
    unfold zz_step
    simp only [hf, zz_cmp0, zb_eq0, hc, Bool.not_true, Bool.not_false, cond_true, cond_false])).trans hz
theorem zq_eF {m : zz_M} {d pc np a b : Nat} {o : Int} {k : Int32} {L : List (Option Value)} {st : List Value} {h : zz_H} {c : Bool} {z : Option zz_R} (hf : zz_find m.1 pc = some (.ifCond .eq o, np, a, b, k)) (hc : c = false) (hz : zz_D (m, d, a, L, st) h = z) : zz_D (m, d, pc, L, .int (zb c) :: st) h = z :=
  (zz_go 1 (fun rec => by
    show zz_step _ _ rec _ _ = _
    unfold zz_step
    simp only [hf, zz_cmp0, zb_eq0, hc, Bool.not_true, Bool.not_false, cond_true, cond_false])).trans hz
theorem zq_fT {m : zz_M} {d pc np a b : Nat} {o : Int} {k : Int32} {L : List (Option Value)} {st : List Value} {h : zz_H} {c : Bool} {z : Option zz_R} (hf : zz_find m.1 pc = some (.ifCond .ne o, np, a, b, k)) (hc : c = true) (hz : zz_D (m, d, a, L, st) h = z) : zz_D (m, d, pc, L, .int (zb c) :: st) h = z :=
  (zz_go 1 (fun rec => by
    show zz_step _ _ rec _ _ = _
    unfold zz_step
    simp only [hf, zz_cmp0, zb_eq0, hc, Bool.not_true, Bool.not_false, cond_true, cond_false])).trans hz
theorem zq_fF {m : zz_M} {d pc np a b : Nat} {o : Int} {k : Int32} {L : List (Option Value)} {st : List Value} {h : zz_H} {c : Bool} {z : Option zz_R} (hf : zz_find m.1 pc = some (.ifCond .ne o, np, a, b, k)) (hc : c = false) (hz : zz_D (m, d, np, L, st) h = z) : zz_D (m, d, pc, L, .int (zb c) :: st) h = z :=
  (zz_go 1 (fun rec => by
    show zz_step _ _ rec _ _ = _
    unfold zz_step
    simp only [hf, zz_cmp0, zb_eq0, hc, Bool.not_true, Bool.not_false, cond_true, cond_false])).trans hz
theorem zi_gtc {i n : Nat} {N : Int32} (h : i < n + 1) (hN : N.toNatClampNeg = n) (hp : decide (0 ≤ N) = true) : decide (N < Int32.ofNat i) = false := by
  have h2 : N.toInt < 2147483648 := by have := Int32.toInt_lt N; omega
  have hp := of_decide_eq_true hp
  rw [Int32.le_iff_toInt_le] at hp
  have hp : 0 ≤ N.toInt := hp
  unfold Int32.toNatClampNeg at hN
  refine decide_eq_false ?_
  rw [Int32.lt_iff_toInt_lt, zi_val (by omega)]
  omega
theorem zk_t {α : Type} (a b : α) : (bif true then a else b) = a := by
  generalize h : true = c
  cases c with
  | true => rfl
  | false => cases h
theorem zk_f {α : Type} (a b : α) : (bif false then a else b) = b := by
  generalize h : false = c
  cases c with
  | false => rfl
  | true => cases h
