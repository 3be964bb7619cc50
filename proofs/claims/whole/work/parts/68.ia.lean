/-! THE CONSTRUCTORS: the heap grows by fixed lists of writes. -/
def zi_wl : List (Nat × Nat × Int32) := [(2, 4, -1), (1, 1, -1), (6, 0, 0), (7, 0, -1), (6, 1, 1), (7, 1, -1), (6, 2, 2), (7, 2, -1), (6, 3, 3), (7, 3, -1), (6, 4, 4), (7, 4, -1), (6, 5, 5), (7, 5, -1), (6, 6, 6), (7, 6, -1), (6, 7, 7), (7, 7, -1), (4, 13, 100), (4, 14, 1), (17, 0, 0), (18, 0, -1), (17, 1, 1), (18, 1, -1), (17, 2, 2), (18, 2, -1), (17, 3, 3), (18, 3, -1), (17, 4, 4), (18, 4, -1), (17, 5, 5), (18, 5, -1), (17, 6, 6), (18, 6, -1), (17, 7, 7), (18, 7, -1), (15, 13, 100), (15, 14, 1), (28, 0, 0), (29, 0, -1), (28, 1, 1), (29, 1, -1), (28, 2, 2), (29, 2, -1), (28, 3, 3), (29, 3, -1), (28, 4, 4), (29, 4, -1), (28, 5, 5), (29, 5, -1), (28, 6, 6), (29, 6, -1), (28, 7, 7), (29, 7, -1), (26, 13, 100), (26, 14, 1), (37, 0, -1), (44, 0, -1), (51, 0, -1), (1, 8, 0), (62, 0, 0), (63, 0, -1), (62, 1, 1), (63, 1, -1), (62, 2, 2), (63, 2, -1), (62, 3, 3), (63, 3, -1), (62, 4, 4), (63, 4, -1), (62, 5, 5), (63, 5, -1), (62, 6, 6), (63, 6, -1), (62, 7, 7), (63, 7, -1), (60, 13, 100), (60, 14, 1), (73, 0, 0), (74, 0, -1), (73, 1, 1), (74, 1, -1), (73, 2, 2), (74, 2, -1), (73, 3, 3), (74, 3, -1), (73, 4, 4), (74, 4, -1), (73, 5, 5), (74, 5, -1), (73, 6, 6), (74, 6, -1), (73, 7, 7), (74, 7, -1), (71, 13, 100), (71, 14, 1), (84, 0, 0), (85, 0, -1), (84, 1, 1), (85, 1, -1), (84, 2, 2), (85, 2, -1), (84, 3, 3), (85, 3, -1), (84, 4, 4), (85, 4, -1), (84, 5, 5), (85, 5, -1), (84, 6, 6), (85, 6, -1), (84, 7, 7), (85, 7, -1), (82, 13, 100), (82, 14, 1), (95, 0, 0), (96, 0, -1), (95, 1, 1), (96, 1, -1), (95, 2, 2), (96, 2, -1), (95, 3, 3), (96, 3, -1), (95, 4, 4), (96, 4, -1), (95, 5, 5), (96, 5, -1), (95, 6, 6), (96, 6, -1), (95, 7, 7), (96, 7, -1), (93, 13, 100), (93, 14, 1), (106, 0, 0), (107, 0, -1), (106, 1, 1), (107, 1, -1), (106, 2, 2), (107, 2, -1), (106, 3, 3), (107, 3, -1), (106, 4, 4), (107, 4, -1), (106, 5, 5), (107, 5, -1), (106, 6, 6), (107, 6, -1), (106, 7, 7), (107, 7, -1), (104, 13, 100), (104, 14, 1), (117, 0, 0), (118, 0, -1), (117, 1, 1), (118, 1, -1), (117, 2, 2), (118, 2, -1), (117, 3, 3), (118, 3, -1), (117, 4, 4), (118, 4, -1), (117, 5, 5), (118, 5, -1), (117, 6, 6), (118, 6, -1), (117, 7, 7), (118, 7, -1), (115, 13, 100), (115, 14, 1), (128, 0, 0), (129, 0, -1), (128, 1, 1), (129, 1, -1), (128, 2, 2), (129, 2, -1), (128, 3, 3), (129, 3, -1), (128, 4, 4), (129, 4, -1), (128, 5, 5), (129, 5, -1), (128, 6, 6), (129, 6, -1), (128, 7, 7), (129, 7, -1), (126, 13, 100), (126, 14, 1), (139, 0, 0), (140, 0, -1), (139, 1, 1), (140, 1, -1), (139, 2, 2), (140, 2, -1), (139, 3, 3), (140, 3, -1), (139, 4, 4), (140, 4, -1), (139, 5, 5), (140, 5, -1), (139, 6, 6), (140, 6, -1), (139, 7, 7), (140, 7, -1), (137, 13, 100), (137, 14, 1), (150, 0, 0), (151, 0, -1), (150, 1, 1), (151, 1, -1), (150, 2, 2), (151, 2, -1), (150, 3, 3), (151, 3, -1), (150, 4, 4), (151, 4, -1), (150, 5, 5), (151, 5, -1), (150, 6, 6), (151, 6, -1), (150, 7, 7), (151, 7, -1), (148, 13, 100), (148, 14, 1), (161, 0, 0), (162, 0, -1), (161, 1, 1), (162, 1, -1), (161, 2, 2), (162, 2, -1), (161, 3, 3), (162, 3, -1), (161, 4, 4), (162, 4, -1), (161, 5, 5), (162, 5, -1), (161, 6, 6), (162, 6, -1), (161, 7, 7), (162, 7, -1), (159, 13, 100), (159, 14, 1), (172, 0, 0), (173, 0, -1), (172, 1, 1), (173, 1, -1), (172, 2, 2), (173, 2, -1), (172, 3, 3), (173, 3, -1), (172, 4, 4), (173, 4, -1), (172, 5, 5), (173, 5, -1), (172, 6, 6), (173, 6, -1), (172, 7, 7), (173, 7, -1), (170, 13, 100), (170, 14, 1), (183, 0, 0), (184, 0, -1), (183, 1, 1), (184, 1, -1), (183, 2, 2), (184, 2, -1), (183, 3, 3), (184, 3, -1), (183, 4, 4), (184, 4, -1), (183, 5, 5), (184, 5, -1), (183, 6, 6), (184, 6, -1), (183, 7, 7), (184, 7, -1), (181, 13, 100), (181, 14, 1), (194, 12, -1), (195, 1, -1), (195, 6, 100), (195, 8, 1), (195, 10, 0), (195, 11, -1), (195, 13, 1), (195, 14, -1), (195, 16, 2), (195, 17, -1), (195, 19, 3), (195, 20, -1), (195, 22, 4), (195, 23, -1), (195, 25, 5), (195, 26, -1), (195, 28, 6), (195, 29, -1), (195, 31, 7), (195, 32, -1)]
def zi_rl : List (Nat × Nat × Nat) := [(2, 0, 3), (1, 0, 2), (4, 0, 5), (4, 1, 6), (4, 2, 7), (4, 3, 8), (4, 4, 9), (4, 5, 10), (4, 6, 11), (4, 7, 12), (4, 8, 13), (4, 9, 14), (1, 2, 4), (15, 0, 16), (15, 1, 17), (15, 2, 18), (15, 3, 19), (15, 4, 20), (15, 5, 21), (15, 6, 22), (15, 7, 23), (15, 8, 24), (15, 9, 25), (1, 3, 15), (26, 0, 27), (26, 1, 28), (26, 2, 29), (26, 3, 30), (26, 4, 31), (26, 5, 32), (26, 6, 33), (26, 7, 34), (26, 8, 35), (26, 9, 36), (1, 4, 26), (37, 2, 38), (37, 3, 39), (37, 4, 40), (37, 5, 41), (37, 6, 42), (37, 7, 43), (1, 5, 37), (44, 2, 45), (44, 3, 46), (44, 4, 47), (44, 5, 48), (44, 6, 49), (44, 7, 50), (1, 6, 44), (51, 2, 52), (51, 3, 53), (51, 4, 54), (51, 5, 55), (51, 6, 56), (51, 7, 57), (1, 7, 51), (58, 0, 59), (60, 0, 61), (60, 1, 62), (60, 2, 63), (60, 3, 64), (60, 4, 65), (60, 5, 66), (60, 6, 67), (60, 7, 68), (60, 8, 69), (60, 9, 70), (59, 0, 60), (71, 0, 72), (71, 1, 73), (71, 2, 74), (71, 3, 75), (71, 4, 76), (71, 5, 77), (71, 6, 78), (71, 7, 79), (71, 8, 80), (71, 9, 81), (59, 1, 71), (82, 0, 83), (82, 1, 84), (82, 2, 85), (82, 3, 86), (82, 4, 87), (82, 5, 88), (82, 6, 89), (82, 7, 90), (82, 8, 91), (82, 9, 92), (59, 2, 82), (93, 0, 94), (93, 1, 95), (93, 2, 96), (93, 3, 97), (93, 4, 98), (93, 5, 99), (93, 6, 100), (93, 7, 101), (93, 8, 102), (93, 9, 103), (59, 3, 93), (104, 0, 105), (104, 1, 106), (104, 2, 107), (104, 3, 108), (104, 4, 109), (104, 5, 110), (104, 6, 111), (104, 7, 112), (104, 8, 113), (104, 9, 114), (59, 4, 104), (115, 0, 116), (115, 1, 117), (115, 2, 118), (115, 3, 119), (115, 4, 120), (115, 5, 121), (115, 6, 122), (115, 7, 123), (115, 8, 124), (115, 9, 125), (59, 5, 115), (126, 0, 127), (126, 1, 128), (126, 2, 129), (126, 3, 130), (126, 4, 131), (126, 5, 132), (126, 6, 133), (126, 7, 134), (126, 8, 135), (126, 9, 136), (59, 6, 126), (137, 0, 138), (137, 1, 139), (137, 2, 140), (137, 3, 141), (137, 4, 142), (137, 5, 143), (137, 6, 144), (137, 7, 145), (137, 8, 146), (137, 9, 147), (59, 7, 137), (148, 0, 149), (148, 1, 150), (148, 2, 151), (148, 3, 152), (148, 4, 153), (148, 5, 154), (148, 6, 155), (148, 7, 156), (148, 8, 157), (148, 9, 158), (59, 8, 148), (159, 0, 160), (159, 1, 161), (159, 2, 162), (159, 3, 163), (159, 4, 164), (159, 5, 165), (159, 6, 166), (159, 7, 167), (159, 8, 168), (159, 9, 169), (59, 9, 159), (170, 0, 171), (170, 1, 172), (170, 2, 173), (170, 3, 174), (170, 4, 175), (170, 5, 176), (170, 6, 177), (170, 7, 178), (170, 8, 179), (170, 9, 180), (59, 10, 170), (181, 0, 182), (181, 1, 183), (181, 2, 184), (181, 3, 185), (181, 4, 186), (181, 5, 187), (181, 6, 188), (181, 7, 189), (181, 8, 190), (181, 9, 191), (59, 11, 181), (1, 9, 58), (192, 0, 193), (1, 10, 192), (194, 1, 195), (194, 2, 196), (194, 4, 197), (194, 5, 198), (194, 7, 199), (194, 14, 200), (194, 19, 201), (194, 20, 202), (194, 21, 203)]
def zi_T (L n : Nat) : List (Nat × Nat) := (100, L) :: zt_Tl.take (n - 1)
def zi_Rf (l : List (Nat × Nat × Nat)) : zRef := l.foldl (fun R w => zz_up R w.1 w.2.1 (some w.2.2)) (fun _ _ => none)
def zi_Mf (xs : Nat → Int32) (l : List (Nat × Nat × Int32)) : zMem := l.foldl (fun M w => zz_up M w.1 w.2.1 w.2.2) (fun a i => bif Nat.beq a 0 then xs i else 0)
def zi_R (b : Nat) : zRef := zi_Rf (zi_rl.take b)
def zi_M (xs : Nat → Int32) (a : Nat) : zMem := zi_Mf xs (zi_wl.take a)
def zi_H (L : Nat) (xs : Nat → Int32) (n b a : Nat) : zz_H := (zi_T L n, zi_R b, zi_M xs a, (fun _ _ => 0), 0)
theorem zi_up1 (xs : Nat → Int32) {a q k : Nat} {v : Int32} (h : zi_wl[a]? = some (q, k, v)) : zi_M xs (a + 1) = zz_up (zi_M xs a) q k v := by
  unfold zi_M zi_Mf
  rw [List.take_add_one, h, List.foldl_append]
  rfl
theorem zi_up2 {b q k r : Nat} (h : zi_rl[b]? = some (q, k, r)) : zi_R (b + 1) = zz_up (zi_R b) q k (some r) := by
  unfold zi_R zi_Rf
  rw [List.take_add_one, h, List.foldl_append]
  rfl
theorem zi_Mn (xs : Nat → Int32) (q : Nat) (hq : Nat.blt 0 q = true) : ∀ (l : List (Nat × Nat × Int32)) (M : zMem), (M q = fun _ => 0) → l.all (fun w => Nat.blt w.1 q) = true → (l.foldl (fun M w => zz_up M w.1 w.2.1 w.2.2) M) q = fun _ => 0
  | [], M, h, _ => h
  | w :: l, M, h, h2 => by
    rw [List.all_cons, Bool.and_eq_true] at h2
    refine zi_Mn xs q hq l _ ?_ h2.2
    have h3 : w.1 < q := Nat.blt_eq.mp h2.1
    funext i
    show zz_up M w.1 w.2.1 w.2.2 q i = 0
    rw [zu_ne (by cases e : Nat.beq q w.1 with | false => rfl | true => have := Nat.eq_of_beq_eq_true e; omega), h]
theorem zi_Rn (q : Nat) : ∀ (l : List (Nat × Nat × Nat)) (R : zRef), (R q = fun _ => none) → l.all (fun w => Nat.blt w.1 q) = true → (l.foldl (fun R w => zz_up R w.1 w.2.1 (some w.2.2)) R) q = fun _ => none
  | [], R, h, _ => h
  | w :: l, R, h, h2 => by
    rw [List.all_cons, Bool.and_eq_true] at h2
    refine zi_Rn q l _ ?_ h2.2
    have h3 : w.1 < q := Nat.blt_eq.mp h2.1
    funext i
    show zz_up R w.1 w.2.1 (some w.2.2) q i = none
    rw [zu_ne (by cases e : Nat.beq q w.1 with | false => rfl | true => have := Nat.eq_of_beq_eq_true e; omega), h]
theorem zi_rowe {α : Type} {M : Nat → Nat → α} {q : Nat} {f : Nat → α} (h : M q = f) : zz_row M q f = M := by
  funext a i
  unfold zz_row
  cases e : Nat.beq a q with
  | false => rfl
  | true => rw [Nat.eq_of_beq_eq_true e, h]; rfl
theorem zi_Mrow (xs : Nat → Int32) {n a : Nat} (hn : Nat.blt 0 n = true) (h : (zi_wl.take a).all (fun w => Nat.blt w.1 n) = true) : zz_row (zi_M xs a) n (fun _ => 0) = zi_M xs a := by
  refine zi_rowe (zi_Mn xs n hn _ _ ?_ h)
  funext i
  cases e : Nat.beq n 0 with
  | false => rfl
  | true => rw [Nat.eq_of_beq_eq_true e] at hn; cases hn
theorem zi_Rrow {n b : Nat} (h : (zi_rl.take b).all (fun w => Nat.blt w.1 n) = true) : zz_row (zi_R b) n (fun _ => none) = zi_R b :=
  zi_rowe (zi_Rn n _ _ rfl h)
theorem zi_Jrow (n : Nat) : zz_row (fun _ _ => (0 : Int64)) n (fun _ => 0) = fun _ _ => 0 := zi_rowe rfl
theorem zi_new {m : zz_M} {d pc np a n b w : Nat} {x : Nat} {k : Int32} {lo : List (Option Value)} {st : List Value} {L : Nat} {xs : Nat → Int32} {z : Option zz_R} (hf : zz_find m.1 pc = some (.new x, np, a, 0, k)) (hl : (zi_T L n).length = n) (ha : zi_T L n ++ [(a, 0)] = zi_T L (n + 1)) (hn : (Nat.blt n 900000 && Nat.blt 0 n) = true) (h1 : (zi_wl.take w).all (fun w => Nat.blt w.1 n) = true) (h2 : (zi_rl.take b).all (fun w => Nat.blt w.1 n) = true) (hz : zz_D (m, d, np, lo, .ref n :: st) (zi_H L xs (n + 1) b w) = z) : zz_D (m, d, pc, lo, st) (zi_H L xs n b w) = z := by
  rw [Bool.and_eq_true] at hn
  refine (zz_go 1 (fun rec => ?_)).trans hz
  show zz_step _ _ rec _ _ = _
  unfold zz_step zi_H
  simp only [hf, hl, hn.1, ha, zi_Mrow xs hn.2 h1, zi_Rrow h2, Nat.beq_refl, Bool.and_self, cond_true]
theorem zi_newa {m : zz_M} {d pc np a b' n b w c : Nat} {y : ClassFile.ArrayType} {k j : Int32} {lo : List (Option Value)} {st : List Value} {L : Nat} {xs : Nat → Int32} {z : Option zz_R} (hf : zz_find m.1 pc = some (.newarray y, np, a, b', k)) (hj : (j.toNatClampNeg, decide (j < 0)) = (c, false)) (hl : (zi_T L n).length = n) (ha : zi_T L n ++ [(a, c)] = zi_T L (n + 1)) (hn : ((Nat.blt n 900000 && Nat.blt 0 n) && Nat.blt c 100000) = true) (h1 : (zi_wl.take w).all (fun w => Nat.blt w.1 n) = true) (h2 : True = True) (hz : zz_D (m, d, np, lo, .ref n :: st) (zi_H L xs (n + 1) b w) = z) : zz_D (m, d, pc, lo, .int j :: st) (zi_H L xs n b w) = z := by
  rw [Bool.and_eq_true, Bool.and_eq_true] at hn
  have hj1 : j.toNatClampNeg = c := congrArg Prod.fst hj
  have hj2 : decide (j < 0) = false := congrArg Prod.snd hj
  refine (zz_go 1 (fun rec => ?_)).trans hz
  show zz_step _ _ rec _ _ = _
  unfold zz_step zi_H
  simp only [hf, hl, hj1, hj2, hn.1.1, hn.2, ha, zi_Mrow xs hn.1.2 h1, zi_Jrow, Nat.beq_refl, Bool.not_false, Bool.and_self, cond_true]
theorem zi_anew {m : zz_M} {d pc np a b' n b w c : Nat} {y : Nat} {k j : Int32} {lo : List (Option Value)} {st : List Value} {L : Nat} {xs : Nat → Int32} {z : Option zz_R} (hf : zz_find m.1 pc = some (.anewarray y, np, a, b', k)) (hj : (j.toNatClampNeg, decide (j < 0)) = (c, false)) (hl : (zi_T L n).length = n) (ha : zi_T L n ++ [(103, c)] = zi_T L (n + 1)) (hn : ((Nat.blt n 900000 && Nat.blt 0 n) && Nat.blt c 100000) = true) (h1 : True = True) (h2 : (zi_rl.take b).all (fun w => Nat.blt w.1 n) = true) (hz : zz_D (m, d, np, lo, .ref n :: st) (zi_H L xs (n + 1) b w) = z) : zz_D (m, d, pc, lo, .int j :: st) (zi_H L xs n b w) = z := by
  rw [Bool.and_eq_true, Bool.and_eq_true] at hn
  have hj1 : j.toNatClampNeg = c := congrArg Prod.fst hj
  have hj2 : decide (j < 0) = false := congrArg Prod.snd hj
  refine (zz_go 1 (fun rec => ?_)).trans hz
  show zz_step _ _ rec _ _ = _
  unfold zz_step zi_H
  simp only [hf, hl, hj1, hj2, hn.1.1, hn.2, ha, zi_Rrow h2, Nat.beq_refl, Bool.not_false, Bool.and_self, cond_true]
theorem zi_putR {m : zz_M} {d pc np a b' n b w x q r y : Nat} {lo : List (Option Value)} {st : List Value} {L : Nat} {xs : Nat → Int32} {z : Option zz_R} (hf : zz_find m.1 pc = some (.putfield x, np, a, b', 1)) (hT : (zi_T L n)[q]? = some (a, y)) (hq : Nat.blt 0 q = true) (hr : zi_rl[b]? = some (q, b', r)) (hz : zz_D (m, d, np, lo, st) (zi_H L xs n (b + 1) w) = z) : zz_D (m, d, pc, lo, .ref r :: .ref q :: st) (zi_H L xs n b w) = z := by
  refine (zz_go 1 (fun rec => ?_)).trans hz
  show zz_step _ _ rec _ _ = _
  unfold zz_step zi_H
  simp only [hf, hT, hq, zi_up2 hr, Nat.beq_refl, decide_true, Bool.and_self, cond_true]
theorem zi_putI {m : zz_M} {d pc np a b' n b w x q y : Nat} {k v : Int32} {lo : List (Option Value)} {st : List Value} {L : Nat} {xs : Nat → Int32} {z : Option zz_R} (hf : zz_find m.1 pc = some (.putfield x, np, a, b', k)) (hk : (decide (k = 0) || (decide (k = 2) && zz_b01 v)) = true) (hT : (zi_T L n)[q]? = some (a, y)) (hq : Nat.blt 0 q = true) (hr : zi_wl[w]? = some (q, b', v)) (hz : zz_D (m, d, np, lo, st) (zi_H L xs n b (w + 1)) = z) : zz_D (m, d, pc, lo, .int v :: .ref q :: st) (zi_H L xs n b w) = z := by
  refine zl_putI hf hk hT hq ?_
  rw [← zi_up1 xs hr]
  exact hz
theorem zi_ast {m : zz_M} {d pc np a b' n b w q c i : Nat} {k v j : Int32} {lo : List (Option Value)} {st : List Value} {L : Nat} {xs : Nat → Int32} {z : Option zz_R} (hf : zz_find m.1 pc = some (.iastore, np, a, b', k)) (hT : (zi_T L n)[q]? = some (100, c)) (hj : zz_in j c = true) (hi : j.toNatClampNeg = i) (hq : Nat.blt 0 q = true) (hr : zi_wl[w]? = some (q, i, v)) (hz : zz_D (m, d, np, lo, st) (zi_H L xs n b (w + 1)) = z) : zz_D (m, d, pc, lo, .int v :: .int j :: .ref q :: st) (zi_H L xs n b w) = z := by
  refine zl_iastore hf hT hj hq hi ?_
  rw [← zi_up1 xs hr]
  exact hz
theorem zi_aast {m : zz_M} {d pc np a b' n b w q c i r y : Nat} {k j : Int32} {lo : List (Option Value)} {st : List Value} {L : Nat} {xs : Nat → Int32} {z : Option zz_R} (hf : zz_find m.1 pc = some (.aastore, np, a, b', k)) (hT : (zi_T L n)[q]? = some (103, c)) (hTr : (zi_T L n)[r]? = some (3, y)) (hj : zz_in j c = true) (hi : j.toNatClampNeg = i) (hq : Nat.blt 0 q = true) (hqr : Nat.blt 0 r = true) (hr : zi_rl[b]? = some (q, i, r)) (hz : zz_D (m, d, np, lo, st) (zi_H L xs n (b + 1) w) = z) : zz_D (m, d, pc, lo, .ref r :: .int j :: .ref q :: st) (zi_H L xs n b w) = z := by
  refine (zz_go 1 (fun rec => ?_)).trans hz
  show zz_step _ _ rec _ _ = _
  unfold zz_step zi_H
  simp only [hf, hT, hTr, hj, hi, hq, hqr, zi_up2 hr, Bool.and_self, cond_true]
theorem zi_sp {m m' : zz_M} {d pc np a b x q c y : Nat} {k : Int32} {lo A : List (Option Value)} {st st' : List Value} {h h1 : zz_H} {z : Option zz_R} (hf : zz_find m.1 pc = some (.invokespecial x, np, a, b, k)) (ha : Nat.blt a 1000 = true) (hq : st[b - 1]? = some (.ref q)) (hT : h.1[q]? = some (c, y)) (hC : Nat.beq c (zz_RC.getD a 99) = true) (hP : zz_P[a]? = some m') (hb : (Nat.ble b st.length && Nat.ble (zz_words (st.drop b)) 8) = true) (hw : Nat.ble (zz_words (st.take b)) m'.2.1 = true) (hA : zz_args m'.2.1 (st.take b).reverse = A) (hD : st.drop b = st') (hcall : zz_D (m', d, 0, A, []) h = some (.inl none, h1)) (hz : zz_D (m, d + 1, np, lo, st') h1 = z) : zz_D (m, d + 1, pc, lo, st) h = z := by
  subst hD
  subst hA
  refine (zz_intoI 1 (fun rec => ?_) hcall).trans hz
  show zz_step _ _ rec _ _ = _
  unfold zz_step
  have hr : zz_rcv h st a b = true := by
    unfold zz_rcv
    simp only [hq, hT, hC]
  simp only [hf, ha, hr, cond_true]
  unfold zz_callI
  simp only [hP, hb, hw, cond_true]
  rfl
