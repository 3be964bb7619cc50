/-! truth values read from cells -/
def zbo (x : Int32) : Bool := !decide (x = 0)
theorem zb_bo {x : Int32} (h : zz_b01 x = true) : zb (zbo x) = x := by
  unfold zz_b01 at h
  unfold zbo
  by_cases h0 : x = 0
  · subst h0; rfl
  · by_cases h1 : x = 1
    · subst h1; rfl
    · rw [decide_eq_false h0, decide_eq_false h1] at h
      cases h
theorem zl_nb {m : zz_M} {d pc : Nat} {L : List (Option Value)} {st : List Value} {h : zz_H} {x : Int32} {z : Option zz_R} (g : zz_b01 x = true) (hz : zz_D (m, d, pc, L, .int (zb (zbo x)) :: st) h = z) : zz_D (m, d, pc, L, .int x :: st) h = z := by
  rw [zb_bo g] at hz
  exact hz
theorem zl_iaN {m : zz_M} {d pc np a b : Nat} {k : Int32} {L : List (Option Value)} {st : List Value} {q n : Nat} {T : List (Nat × Nat)} {R : zRef} {M : zMem} {J : zJem} {e : Nat} {j v : Int32} {z : Option zz_R} (i : Nat) (hf : zz_find m.1 pc = some (.iaload, np, a, b, k)) (hT : T[q]? = some (100, n)) (hj : zz_in j n = true) (hi : j.toNatClampNeg = i) (hv : M q i = v) (hz : zz_D (m, d, np, L, .int v :: st) (T, R, M, J, e) = z) : zz_D (m, d, pc, L, .int j :: .ref q :: st) (T, R, M, J, e) = z :=
  zl_iaload hf hT hj (by rw [hi]; exact hv) hz
theorem zl_baN {m : zz_M} {d pc np a b : Nat} {k : Int32} {L : List (Option Value)} {st : List Value} {q n : Nat} {T : List (Nat × Nat)} {R : zRef} {M : zMem} {J : zJem} {e : Nat} {j v : Int32} {z : Option zz_R} (i : Nat) (hf : zz_find m.1 pc = some (.baload, np, a, b, k)) (hT : T[q]? = some (101, n)) (hj : zz_in j n = true) (hi : j.toNatClampNeg = i) (hv : M q i = v) (hz : zz_D (m, d, np, L, .int v :: st) (T, R, M, J, e) = z) : zz_D (m, d, pc, L, .int j :: .ref q :: st) (T, R, M, J, e) = z :=
  zl_baload hf hT hj (by rw [hi]; exact hv) hz
theorem zl_retZ {m : zz_M} {d pc np a b : Nat} {k : Int32} {L : List (Option Value)} {h : zz_H} {c : Bool} {z : Option zz_R} (hf : zz_find m.1 pc = some (.ireturn, np, a, b, k)) (hz : some (.inl (some (.int (zb c))), h) = z) : zz_D (m, d, pc, L, [.int (zb c)]) h = z :=
  zl_retI hf (by rw [zb_01, Bool.or_true]) hz
