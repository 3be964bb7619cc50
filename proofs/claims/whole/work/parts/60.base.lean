/-! LIFTING: steps of the pure machine as rows over zz_D; loops; weakening of dead locals. -/
/-- y may stand where x (none) stood: never a long -/
def zw : List (Option Value) → List (Option Value) → Prop
  | [], [] => True
  | x :: xs, y :: ys => (x = y ∨ (x = none ∧ zz_isL (some y) = false)) ∧ zw xs ys
  | _, _ => False
theorem zw_rf : ∀ L, zw L L
  | [] => trivial
  | _ :: xs => ⟨Or.inl rfl, zw_rf xs⟩
theorem zw_at : ∀ {L L' : List (Option Value)}, zw L L' → ∀ i : Nat, (L[i]? = L'[i]?) ∨ (L[i]? = some none ∧ ∃ y, L'[i]? = some y ∧ zz_isL (some y) = false)
  | [], [], _, i => Or.inl rfl
  | x :: xs, y :: ys, h, 0 => by
    rcases h.1 with e | ⟨e, e2⟩
    · exact Or.inl (by rw [e]; rfl)
    · exact Or.inr ⟨by rw [e]; rfl, y, rfl, e2⟩
  | x :: xs, y :: ys, h, i + 1 => by
    have := zw_at h.2 i
    simpa using this
  | [], _ :: _, h, _ => h.elim
  | _ :: _, [], h, _ => h.elim
theorem zw_get {L L' : List (Option Value)} (h : zw L L') {i : Nat} {v : Value} (e : zz_get L i = some v) : zz_get L' i = some v := by
  rcases zw_at h i with e1 | ⟨e1, -⟩
  · unfold zz_get at e ⊢
    rw [← e1]; exact e
  · unfold zz_get at e
    rw [e1] at e
    cases e
theorem zw_isL {L L' : List (Option Value)} (h : zw L L') (i : Nat) : zz_isL L[i]? = zz_isL L'[i]? := by
  rcases zw_at h i with e1 | ⟨e1, y, e2, e3⟩
  · rw [e1]
  · rw [e1, e2, e3]; rfl
theorem zw_set : ∀ {L L' : List (Option Value)}, zw L L' → ∀ (i : Nat) (v : Option Value), zw (L.set i v) (L'.set i v)
  | [], [], _, _, _ => trivial
  | x :: xs, y :: ys, h, 0, v => ⟨Or.inl rfl, h.2⟩
  | x :: xs, y :: ys, h, i + 1, v => ⟨h.1, zw_set h.2 i v⟩
  | [], _ :: _, h, _, _ => h.elim
  | _ :: _, [], h, _, _ => h.elim
theorem zw_st1 {L L' L1 : List (Option Value)} (h : zw L L') {i : Nat} {v : Value} (e : zz_st1 L i v = some L1) : ∃ L2, zz_st1 L' i v = some L2 ∧ zw L1 L2 := by
  cases i with
  | zero => cases e; exact ⟨_, rfl, zw_set h _ _⟩
  | succ j =>
    have e : (bif zz_isL L[j]? then none else some (L.set (j + 1) (some v))) = some L1 := e
    show ∃ L2, (bif zz_isL L'[j]? then none else some (L'.set (j + 1) (some v))) = some L2 ∧ zw L1 L2
    rw [zw_isL h j] at e
    cases hb : zz_isL L'[j]? with
    | true => rw [hb] at e; cases e
    | false => rw [hb] at e; cases e; exact ⟨_, rfl, zw_set h _ _⟩
theorem zw_st2 {L L' L1 : List (Option Value)} (h : zw L L') {i : Nat} {v : Int64} (e : zz_st2 L i v = some L1) : ∃ L2, zz_st2 L' i v = some L2 ∧ zw L1 L2 := by
  cases i with
  | zero => cases e; exact ⟨_, rfl, zw_set (zw_set h _ _) _ _⟩
  | succ j =>
    have e : (bif zz_isL L[j]? then none else some ((L.set (j + 1) (some (.long v))).set (j + 2) none)) = some L1 := e
    show ∃ L2, (bif zz_isL L'[j]? then none else some ((L'.set (j + 1) (some (.long v))).set (j + 2) none)) = some L2 ∧ zw L1 L2
    rw [zw_isL h j] at e
    cases hb : zz_isL L'[j]? with
    | true => rw [hb] at e; cases e
    | false => rw [hb] at e; cases e; exact ⟨_, rfl, zw_set (zw_set h _ _) _ _⟩
def zw_Ok (r : zz_F → zz_H → Option zz_R) : Prop := ∀ m d pc L L' st h x, zw L L' → r (m, d, pc, L, st) h = some x → r (m, d, pc, L', st) h = some x
theorem zw_thrown {r : zz_F → zz_H → Option zz_R} (hr : zw_Ok r) {m : zz_M} {d pc : Nat} {L L' : List (Option Value)} (hL : zw L L') {j : Nat} {h : zz_H} {x : zz_R} : zz_thrown r m d pc L j h = some x → zz_thrown r m d pc L' j h = some x := by
  unfold zz_thrown
  cases zz_hand m.2.2 pc j with
  | none => exact id
  | some hp =>
    dsimp only
    split
    · intro hx
      split at hx
      · rename_i e
        obtain ⟨L2, e2, -⟩ := zw_st1 hL e
        rw [e2]
        exact hr _ _ _ _ _ _ _ _ (zw_set hL _ _) hx
      · cases hx
    · intro hx
      split at hx
      · rename_i e
        obtain ⟨L2, e2, -⟩ := zw_st1 hL e
        rw [e2]
        exact hr _ _ _ _ _ _ _ _ (zw_set hL _ _) hx
      · cases hx
    · exact id
theorem zw_after {r : zz_F → zz_H → Option zz_R} (hr : zw_Ok r) {m : zz_M} {d pc np : Nat} {L L' : List (Option Value)} (hL : zw L L') {st : List Value} {o : Option zz_R} {x : zz_R} : zz_after r m d pc np L st o = some x → zz_after r m d pc np L' st o = some x := by
  intro hx
  match o, hx with
  | none, hx => cases hx
  | some (.inl none, h), hx => exact hr _ _ _ _ _ _ _ _ hL hx
  | some (.inl (some v), h), hx => exact hr _ _ _ _ _ _ _ _ hL hx
  | some (.inr j, h), hx => exact zw_thrown hr hL hx
theorem zw_call {P : List zz_M} {r : zz_F → zz_H → Option zz_R} (hr : zw_Ok r) {m : zz_M} {d pc np : Nat} {L L' : List (Option Value)} (hL : zw L L') {st : List Value} {a b : Nat} {h : zz_H} {x : zz_R} : zz_call P r m d pc np L st a b h = some x → zz_call P r m d pc np L' st a b h = some x := by
  unfold zz_call
  intro hx
  obtain ⟨hb, hx⟩ := zz_bif hx
  rw [hb]
  dsimp only [cond_true]
  split at hx
  · obtain ⟨hb, hx⟩ := zz_bif hx
    try dsimp only
    rw [hb]
    exact zw_after hr hL hx
  · cases hx
theorem zw_callI {P : List zz_M} {r : zz_F → zz_H → Option zz_R} (hr : zw_Ok r) {m : zz_M} {d np : Nat} {L L' : List (Option Value)} (hL : zw L L') {st : List Value} {a b : Nat} {h : zz_H} {x : zz_R} : zz_callI P r m d np L st a b h = some x → zz_callI P r m d np L' st a b h = some x := by
  unfold zz_callI
  intro hx
  obtain ⟨hb, hx⟩ := zz_bif hx
  rw [hb]
  dsimp only [cond_true]
  split at hx
  · obtain ⟨hb, hx⟩ := zz_bif hx
    try dsimp only
    rw [hb]
    try dsimp only [cond_true]
    split at hx
    · exact hr _ _ _ _ _ _ _ _ hL hx
    · cases hx
  · cases hx
theorem zw_prim {S : zz_T} {r : zz_F → zz_H → Option zz_R} (hr : zw_Ok r) {m : zz_M} {d np : Nat} {L L' : List (Option Value)} (hL : zw L L') {st : List Value} {a : Nat} {h : zz_H} {x : zz_R} : zz_prim S r m d np L st a h = some x → zz_prim S r m d np L' st a h = some x := by
  unfold zz_prim
  refine zz_bifS ?_ id
  repeat' first
    | exact hr _ _ _ _ _ _ _ _ hL
    | exact id
    | refine zz_bifS ?_ ?_
    | split
set_option maxHeartbeats 8000000 in
theorem zw_step {P : List zz_M} {S : zz_T} {r : zz_F → zz_H → Option zz_R} (hr : zw_Ok r) : zw_Ok (zz_step P S r) := by
  intro m d pc L L' st h x hL
  unfold zz_step
  dsimp only
  cases zz_find m.1 pc with
  | none => exact id
  | some q =>
    obtain ⟨i, np, a, b, k⟩ := q
    dsimp only
    cases i
    all_goals dsimp only
    all_goals first
      | exact id
      | exact hr _ _ _ _ _ _ _ _ hL
      | exact zz_bifS (fun hx => by first | exact zw_call hr hL hx | (refine zz_bifS (fun hx => by first | exact zw_call hr hL hx | exact zw_callI hr hL hx) id hx)) (zw_prim hr hL)
      | (intro hx
         cases hg : zz_get L a with
         | none => rw [hg] at hx; cases hx
         | some v =>
           rw [hg] at hx
           rw [zw_get hL hg]
           cases v
           all_goals first
             | exact hr _ _ _ _ _ _ _ _ hL hx
             | (cases hx; done)
             | (dsimp only at hx ⊢
                split at hx
                · rename_i e
                  obtain ⟨L2, e2, e3⟩ := zw_st1 hL e
                  rw [e2]
                  exact hr _ _ _ _ _ _ _ _ e3 hx
                · cases hx))
      | (split
         all_goals first
           | exact id
           | exact hr _ _ _ _ _ _ _ _ hL
           | (intro hx
              split at hx
              · rename_i e
                first
                  | (obtain ⟨L2, e2, e3⟩ := zw_st1 hL e
                     rw [e2]
                     exact hr _ _ _ _ _ _ _ _ e3 hx)
                  | (obtain ⟨L2, e2, e3⟩ := zw_st2 hL e
                     rw [e2]
                     exact hr _ _ _ _ _ _ _ _ e3 hx)
              · cases hx)
           | (repeat' first
                | exact hr _ _ _ _ _ _ _ _ hL
                | exact id
                | refine zz_bifS ?_ ?_
                | split))
theorem zw_exec (P : List zz_M) (S : zz_T) : ∀ f, zw_Ok (zz_exec P S f)
  | 0 => fun _ _ _ _ _ _ _ _ _ hx => nomatch hx
  | f + 1 => zw_step (zw_exec P S f)
theorem zz_weak {m : zz_M} {d pc : Nat} {L L' : List (Option Value)} {st : List Value} {h : zz_H} {x : zz_R} (hL : zw L L') (hx : zz_D (m, d, pc, L, st) h = some x) : zz_D (m, d, pc, L', st) h = some x := by
  obtain ⟨f, hf⟩ := zz_D_iff.mp hx
  exact zz_D_iff.mpr ⟨f, zw_exec _ _ f _ _ _ _ _ _ _ _ hL hf⟩
abbrev zMem : Type := Nat → Nat → Int32
abbrev zJem : Type := Nat → Nat → Int64
abbrev zRef : Type := Nat → Nat → Option Nat
def zb (b : Bool) : Int32 := bif b then 1 else 0
theorem zb_01 (b : Bool) : zz_b01 (zb b) = true := by cases b <;> rfl
theorem zb_eq0 (b : Bool) : decide (zb b = 0) = !b := by cases b <;> rfl
/-- branches -/
theorem zz_gT (n : Nat) {fr A B : zz_F} {h : zz_H} {c : Bool} {z : Option zz_R} (k : ∀ rec, zz_iter zz_P zz_S rec n fr h = bif c then rec A h else rec B h) (hc : c = true) (hz : zz_D A h = z) : zz_D fr h = z :=
  (zz_go n (fun rec => by rw [k rec, hc]; rfl)).trans hz
theorem zz_gF (n : Nat) {fr A B : zz_F} {h : zz_H} {c : Bool} {z : Option zz_R} (k : ∀ rec, zz_iter zz_P zz_S rec n fr h = bif c then rec A h else rec B h) (hc : c = false) (hz : zz_D B h = z) : zz_D fr h = z :=
  (zz_go n (fun rec => by rw [k rec, hc]; rfl)).trans hz
theorem zz_nT (n : Nat) {fr A B : zz_F} {h : zz_H} {c : Bool} {z : Option zz_R} (k : ∀ rec, zz_iter zz_P zz_S rec n fr h = bif !c then rec A h else rec B h) (hc : c = true) (hz : zz_D B h = z) : zz_D fr h = z :=
  (zz_go n (fun rec => by rw [k rec, hc]; rfl)).trans hz
theorem zz_nF (n : Nat) {fr A B : zz_F} {h : zz_H} {c : Bool} {z : Option zz_R} (k : ∀ rec, zz_iter zz_P zz_S rec n fr h = bif !c then rec A h else rec B h) (hc : c = false) (hz : zz_D A h = z) : zz_D fr h = z :=
  (zz_go n (fun rec => by rw [k rec, hc]; rfl)).trans hz
/-- on a truth value: eq jumps where it is false -/
theorem zz_eT (n : Nat) {fr A B : zz_F} {h : zz_H} {c : Bool} {z : Option zz_R} (k : ∀ rec, zz_iter zz_P zz_S rec n fr h = bif decide (zb c = 0) then rec A h else rec B h) (hc : c = true) (hz : zz_D B h = z) : zz_D fr h = z :=
  (zz_go n (fun rec => by rw [k rec, zb_eq0, hc]; rfl)).trans hz
theorem zz_eF (n : Nat) {fr A B : zz_F} {h : zz_H} {c : Bool} {z : Option zz_R} (k : ∀ rec, zz_iter zz_P zz_S rec n fr h = bif decide (zb c = 0) then rec A h else rec B h) (hc : c = false) (hz : zz_D A h = z) : zz_D fr h = z :=
  (zz_go n (fun rec => by rw [k rec, zb_eq0, hc]; rfl)).trans hz
theorem zz_fT (n : Nat) {fr A B : zz_F} {h : zz_H} {c : Bool} {z : Option zz_R} (k : ∀ rec, zz_iter zz_P zz_S rec n fr h = bif !decide (zb c = 0) then rec A h else rec B h) (hc : c = true) (hz : zz_D A h = z) : zz_D fr h = z :=
  (zz_go n (fun rec => by rw [k rec, zb_eq0, hc]; rfl)).trans hz
theorem zz_fF (n : Nat) {fr A B : zz_F} {h : zz_H} {c : Bool} {z : Option zz_R} (k : ∀ rec, zz_iter zz_P zz_S rec n fr h = bif !decide (zb c = 0) then rec A h else rec B h) (hc : c = false) (hz : zz_D B h = z) : zz_D fr h = z :=
  (zz_go n (fun rec => by rw [k rec, zb_eq0, hc]; rfl)).trans hz
/-- steps on the heap -/
theorem zl_getI {m : zz_M} {d pc np a b x : Nat} {k : Int32} {L : List (Option Value)} {st : List Value} {q y : Nat} {T : List (Nat × Nat)} {R : zRef} {M : zMem} {J : zJem} {e : Nat} {v : Int32} {z : Option zz_R} (hf : zz_find m.1 pc = some (.getfield x, np, a, b, k)) (hk : decide (k = 1) = false) (hT : T[q]? = some (a, y)) (hv : M q b = v) (hz : zz_D (m, d, np, L, .int v :: st) (T, R, M, J, e) = z) : zz_D (m, d, pc, L, .ref q :: st) (T, R, M, J, e) = z :=
  (zz_go 1 (fun rec => by
    show zz_step _ _ rec _ _ = _
    unfold zz_step
    simp only [hf, hT, hk, hv, Nat.beq_refl, cond_true, cond_false])).trans hz
theorem zl_getR {m : zz_M} {d pc np a b x : Nat} {L : List (Option Value)} {st : List Value} {q y r : Nat} {T : List (Nat × Nat)} {R : zRef} {M : zMem} {J : zJem} {e : Nat} {z : Option zz_R} (hf : zz_find m.1 pc = some (.getfield x, np, a, b, 1)) (hT : T[q]? = some (a, y)) (hv : R q b = some r) (hz : zz_D (m, d, np, L, .ref r :: st) (T, R, M, J, e) = z) : zz_D (m, d, pc, L, .ref q :: st) (T, R, M, J, e) = z :=
  (zz_go 1 (fun rec => by
    show zz_step _ _ rec _ _ = _
    unfold zz_step
    simp only [hf, hT, hv, decide_true, Nat.beq_refl, cond_true, zz_rf])).trans hz
theorem zl_putI {m : zz_M} {d pc np a b x : Nat} {k : Int32} {L : List (Option Value)} {st : List Value} {q y : Nat} {T : List (Nat × Nat)} {R : zRef} {M : zMem} {J : zJem} {e : Nat} {v : Int32} {z : Option zz_R} (hf : zz_find m.1 pc = some (.putfield x, np, a, b, k)) (hk : (decide (k = 0) || (decide (k = 2) && zz_b01 v)) = true) (hT : T[q]? = some (a, y)) (hq : Nat.blt 0 q = true) (hz : zz_D (m, d, np, L, st) (T, R, zz_up M q b v, J, e) = z) : zz_D (m, d, pc, L, .int v :: .ref q :: st) (T, R, M, J, e) = z :=
  (zz_go 1 (fun rec => by
    show zz_step _ _ rec _ _ = _
    unfold zz_step
    simp only [hf, hT, hk, hq, Nat.beq_refl, cond_true, Bool.and_self])).trans hz
theorem zl_iaload {m : zz_M} {d pc np a b : Nat} {k : Int32} {L : List (Option Value)} {st : List Value} {q n : Nat} {T : List (Nat × Nat)} {R : zRef} {M : zMem} {J : zJem} {e : Nat} {j v : Int32} {z : Option zz_R} (hf : zz_find m.1 pc = some (.iaload, np, a, b, k)) (hT : T[q]? = some (100, n)) (hj : zz_in j n = true) (hv : M q j.toNatClampNeg = v) (hz : zz_D (m, d, np, L, .int v :: st) (T, R, M, J, e) = z) : zz_D (m, d, pc, L, .int j :: .ref q :: st) (T, R, M, J, e) = z :=
  (zz_go 1 (fun rec => by
    show zz_step _ _ rec _ _ = _
    unfold zz_step
    simp only [hf, hT, hj, hv, cond_true])).trans hz
theorem zl_baload {m : zz_M} {d pc np a b : Nat} {k : Int32} {L : List (Option Value)} {st : List Value} {q n : Nat} {T : List (Nat × Nat)} {R : zRef} {M : zMem} {J : zJem} {e : Nat} {j v : Int32} {z : Option zz_R} (hf : zz_find m.1 pc = some (.baload, np, a, b, k)) (hT : T[q]? = some (101, n)) (hj : zz_in j n = true) (hv : M q j.toNatClampNeg = v) (hz : zz_D (m, d, np, L, .int v :: st) (T, R, M, J, e) = z) : zz_D (m, d, pc, L, .int j :: .ref q :: st) (T, R, M, J, e) = z :=
  (zz_go 1 (fun rec => by
    show zz_step _ _ rec _ _ = _
    unfold zz_step
    simp only [hf, hT, hj, hv, cond_true])).trans hz
theorem zl_laload {m : zz_M} {d pc np a b : Nat} {k : Int32} {L : List (Option Value)} {st : List Value} {q n : Nat} {T : List (Nat × Nat)} {R : zRef} {M : zMem} {J : zJem} {e : Nat} {j : Int32} {v : Int64} {z : Option zz_R} (hf : zz_find m.1 pc = some (.laload, np, a, b, k)) (hT : T[q]? = some (102, n)) (hj : zz_in j n = true) (hv : J q j.toNatClampNeg = v) (hz : zz_D (m, d, np, L, .long v :: st) (T, R, M, J, e) = z) : zz_D (m, d, pc, L, .int j :: .ref q :: st) (T, R, M, J, e) = z :=
  (zz_go 1 (fun rec => by
    show zz_step _ _ rec _ _ = _
    unfold zz_step
    simp only [hf, hT, hj, hv, cond_true])).trans hz
theorem zl_aaload {m : zz_M} {d pc np a b : Nat} {k : Int32} {L : List (Option Value)} {st : List Value} {q n r : Nat} {T : List (Nat × Nat)} {R : zRef} {M : zMem} {J : zJem} {e : Nat} {j : Int32} {z : Option zz_R} (hf : zz_find m.1 pc = some (.aaload, np, a, b, k)) (hT : T[q]? = some (103, n)) (hj : zz_in j n = true) (hv : R q j.toNatClampNeg = some r) (hz : zz_D (m, d, np, L, .ref r :: st) (T, R, M, J, e) = z) : zz_D (m, d, pc, L, .int j :: .ref q :: st) (T, R, M, J, e) = z :=
  (zz_go 1 (fun rec => by
    show zz_step _ _ rec _ _ = _
    unfold zz_step
    simp only [hf, hT, hj, hv, cond_true, zz_rf])).trans hz
theorem zl_iastore {m : zz_M} {d pc np a b : Nat} {k : Int32} {L : List (Option Value)} {st : List Value} {q n i : Nat} {T : List (Nat × Nat)} {R : zRef} {M : zMem} {J : zJem} {e : Nat} {j v : Int32} {z : Option zz_R} (hf : zz_find m.1 pc = some (.iastore, np, a, b, k)) (hT : T[q]? = some (100, n)) (hj : zz_in j n = true) (hq : Nat.blt 0 q = true) (hi : j.toNatClampNeg = i) (hz : zz_D (m, d, np, L, st) (T, R, zz_up M q i v, J, e) = z) : zz_D (m, d, pc, L, .int v :: .int j :: .ref q :: st) (T, R, M, J, e) = z :=
  (zz_go 1 (fun rec => by
    show zz_step _ _ rec _ _ = _
    unfold zz_step
    simp only [hf, hT, hj, hq, hi, cond_true, Bool.and_self])).trans hz
theorem zl_bastore {m : zz_M} {d pc np a b : Nat} {k : Int32} {L : List (Option Value)} {st : List Value} {q n i : Nat} {T : List (Nat × Nat)} {R : zRef} {M : zMem} {J : zJem} {e : Nat} {j v : Int32} {z : Option zz_R} (hf : zz_find m.1 pc = some (.bastore, np, a, b, k)) (hT : T[q]? = some (101, n)) (hj : zz_in j n = true) (hq : Nat.blt 0 q = true) (hb : zz_b01 v = true) (hi : j.toNatClampNeg = i) (hz : zz_D (m, d, np, L, st) (T, R, zz_up M q i v, J, e) = z) : zz_D (m, d, pc, L, .int v :: .int j :: .ref q :: st) (T, R, M, J, e) = z :=
  (zz_go 1 (fun rec => by
    show zz_step _ _ rec _ _ = _
    unfold zz_step
    simp only [hf, hT, hj, hq, hb, hi, cond_true, Bool.and_self])).trans hz
theorem zl_lastore {m : zz_M} {d pc np a b : Nat} {k : Int32} {L : List (Option Value)} {st : List Value} {q n i : Nat} {T : List (Nat × Nat)} {R : zRef} {M : zMem} {J : zJem} {e : Nat} {j : Int32} {v : Int64} {z : Option zz_R} (hf : zz_find m.1 pc = some (.lastore, np, a, b, k)) (hT : T[q]? = some (102, n)) (hj : zz_in j n = true) (hq : Nat.blt 0 q = true) (hi : j.toNatClampNeg = i) (hz : zz_D (m, d, np, L, st) (T, R, M, zz_up J q i v, e) = z) : zz_D (m, d, pc, L, .long v :: .int j :: .ref q :: st) (T, R, M, J, e) = z :=
  (zz_go 1 (fun rec => by
    show zz_step _ _ rec _ _ = _
    unfold zz_step
    simp only [hf, hT, hj, hq, hi, cond_true, Bool.and_self])).trans hz
theorem zl_len {m : zz_M} {d pc np a b : Nat} {k : Int32} {L : List (Option Value)} {st : List Value} {q n : Nat} {T : List (Nat × Nat)} {R : zRef} {M : zMem} {J : zJem} {e : Nat} {z : Option zz_R} (hf : zz_find m.1 pc = some (.arraylength, np, a, b, k)) (hT : T[q]? = some (100, n)) (hz : zz_D (m, d, np, L, .int (Int32.ofNat n) :: st) (T, R, M, J, e) = z) : zz_D (m, d, pc, L, .ref q :: st) (T, R, M, J, e) = z :=
  (zz_go 1 (fun rec => by
    show zz_step _ _ rec _ _ = _
    unfold zz_step
    simp only [hf, hT, Nat.beq_refl, cond_true])).trans hz
theorem zl_div {m : zz_M} {d pc np a b : Nat} {k : Int32} {L : List (Option Value)} {st : List Value} {h : zz_H} {x y : Int32} {z : Option zz_R} (hf : zz_find m.1 pc = some (.idiv, np, a, b, k)) (hy : decide (y = 0) = false) (hz : zz_D (m, d, np, L, .int (x / y) :: st) h = z) : zz_D (m, d, pc, L, .int y :: .int x :: st) h = z :=
  (zz_go 1 (fun rec => by
    show zz_step _ _ rec _ _ = _
    unfold zz_step
    simp only [hf, hy, cond_false])).trans hz
theorem zl_rem {m : zz_M} {d pc np a b : Nat} {k : Int32} {L : List (Option Value)} {st : List Value} {h : zz_H} {x y : Int32} {z : Option zz_R} (hf : zz_find m.1 pc = some (.irem, np, a, b, k)) (hy : decide (y = 0) = false) (hz : zz_D (m, d, np, L, .int (x - x / y * y) :: st) h = z) : zz_D (m, d, pc, L, .int y :: .int x :: st) h = z :=
  (zz_go 1 (fun rec => by
    show zz_step _ _ rec _ _ = _
    unfold zz_step
    simp only [hf, hy, cond_false])).trans hz
/-- System.arraycopy over whole rows -/
theorem zl_copy {m : zz_M} {d pc np x b : Nat} {k : Int32} {L : List (Option Value)} {st : List Value} {q0 q1 n : Nat} {T : List (Nat × Nat)} {R : zRef} {M : zMem} {J : zJem} {e : Nat} {c : Int32} {z : Option zz_R} (hf : zz_find m.1 pc = some (.invokestatic x, np, 1001, b, k)) (h0 : T[q0]? = some (100, n)) (h1 : T[q1]? = some (100, n)) (hd : zz_ge8 d = true) (hc : c = Int32.ofNat n) (hn : Nat.blt n 100000 = true) (p0 : Nat.blt 0 q0 = true) (p1 : Nat.blt 0 q1 = true) (hw : Nat.ble (zz_words st) 8 = true) (hz : zz_D (m, d, np, L, st) (T, R, zz_row M q1 (M q0), J, e) = z) : zz_D (m, d, pc, L, .int c :: .int 0 :: .ref q1 :: .int 0 :: .ref q0 :: st) (T, R, M, J, e) = z :=
  (zz_go 1 (fun rec => by
    show zz_step _ _ rec _ _ = _
    unfold zz_step
    have e1 : Nat.blt 1001 1000 = false := rfl
    subst hc
    simp only [hf, e1, cond_false]
    unfold zz_prim
    simp only [hd, h0, h1, hn, p0, p1, hw, decide_true, Nat.beq_refl, Bool.and_self, cond_true])).trans hz
theorem zl_slen {m : zz_M} {d pc np x b w : Nat} {k : Int32} {L : List (Option Value)} {st : List Value} {h : zz_H} {z : Option zz_R} (hf : zz_find m.1 pc = some (.invokevirtual x, np, 1002, b, k)) (hs : Nat.blt w zz_S.length = true) (hd : zz_ge8 d = true) (hw : Nat.ble (zz_words st) 8 = true) (hz : zz_D (m, d, np, L, .int (Int32.ofNat (zz_S.getD w []).length) :: st) h = z) : zz_D (m, d, pc, L, .ref (1000000 + w) :: st) h = z :=
  (zz_go 1 (fun rec => by
    show zz_step _ _ rec _ _ = _
    unfold zz_step
    have e1 : Nat.blt 1002 1000 = false := rfl
    have e2 : 1000000 + w - 1000000 = w := by omega
    have e3 : Nat.ble 1000000 (1000000 + w) = true := Nat.ble_eq.mpr (by omega)
    have hl : w < zz_S.length := Nat.blt_eq.mp hs
    have e4 : zz_S[w]? = some (zz_S.getD w []) := by rw [List.getD_eq_getElem?_getD, List.getElem?_eq_getElem hl]; rfl
    simp only [hf, e1, cond_false]
    unfold zz_prim
    simp only [hd, e2, e3, e4, hw, Bool.and_self, cond_true])).trans hz
theorem zl_chr {m : zz_M} {d pc np x b w : Nat} {k : Int32} {L : List (Option Value)} {st : List Value} {h : zz_H} {i : Int32} {z : Option zz_R} (hf : zz_find m.1 pc = some (.invokevirtual x, np, 1003, b, k)) (hs : Nat.blt w zz_S.length = true) (hi : zz_in i (zz_S.getD w []).length = true) (hd : zz_ge8 d = true) (hw : Nat.ble (zz_words st) 8 = true) (hz : zz_D (m, d, np, L, .int ((zz_S.getD w []).getD i.toNatClampNeg 0) :: st) h = z) : zz_D (m, d, pc, L, .int i :: .ref (1000000 + w) :: st) h = z :=
  (zz_go 1 (fun rec => by
    show zz_step _ _ rec _ _ = _
    unfold zz_step
    have e1 : Nat.blt 1003 1000 = false := rfl
    have e2 : 1000000 + w - 1000000 = w := by omega
    have e3 : Nat.ble 1000000 (1000000 + w) = true := Nat.ble_eq.mpr (by omega)
    have hl : w < zz_S.length := Nat.blt_eq.mp hs
    have e4 : zz_S[w]? = some (zz_S.getD w []) := by rw [List.getD_eq_getElem?_getD, List.getElem?_eq_getElem hl]; rfl
    simp only [hf, e1, cond_false]
    unfold zz_prim
    simp only [hd, e2, e3, e4, hi, hw, Bool.and_self, cond_true])).trans hz
/-- returns and throws -/
theorem zl_retI {m : zz_M} {d pc np a b : Nat} {k : Int32} {L : List (Option Value)} {h : zz_H} {x : Int32} {z : Option zz_R} (hf : zz_find m.1 pc = some (.ireturn, np, a, b, k)) (hk : (decide (k = 0) || zz_b01 x) = true) (hz : some (.inl (some (.int x)), h) = z) : zz_D (m, d, pc, L, [.int x]) h = z :=
  (zz_end 1 (fun rec => by
    show zz_step _ _ rec _ _ = _
    unfold zz_step
    simp only [hf, hk, cond_true])).trans hz
theorem zl_throw {m : zz_M} {d pc np a b x : Nat} {k : Int32} {L : List (Option Value)} {st : List Value} {T : List (Nat × Nat)} {R : zRef} {M : zMem} {J : zJem} {e : Nat} {z : Option zz_R} (hf : zz_find m.1 pc = some (.new x, np, a, b + 1, k)) (hd : zz_ge8 d = true) (hw : (Nat.ble (zz_words st) 8 && Nat.beq m.2.2.length 0) = true) (hz : some (.inr a, (T, R, M, J, e + 1)) = z) : zz_D (m, d, pc, L, st) (T, R, M, J, e) = z :=
  (zz_end 1 (fun rec => by
    show zz_step _ _ rec _ _ = _
    unfold zz_step
    simp only [hf, hd, hw, Bool.and_self, cond_true])).trans hz
/-- what a method that may throw ends with -/
def zx_o (t : Nat) (v : Option Value) : Option Value ⊕ Nat := match t with
  | 0 => .inl v
  | j + 1 => .inr j
def zx_e (t e : Nat) : Nat := match t with
  | 0 => e
  | _ + 1 => e + 1
/-- a call: what the machine does there, and behind it -/
theorem zl_st {m m' : zz_M} {d pc np a b x : Nat} {k : Int32} {L A : List (Option Value)} {st st' : List Value} {h : zz_H} {rc : zz_R} {z : Option zz_R} (hf : zz_find m.1 pc = some (.invokestatic x, np, a, b, k)) (ha : Nat.blt a 1000 = true) (hP : zz_P[a]? = some m') (hb : (Nat.ble b st.length && Nat.ble (zz_words (st.drop b)) 8) = true) (hw : Nat.ble (zz_words (st.take b)) m'.2.1 = true) (hA : zz_args m'.2.1 (st.take b).reverse = A) (hD : st.drop b = st') (hcall : zz_D (m', d, 0, A, []) h = some rc) (hz : zz_after zz_D m (d + 1) pc np L st' (some rc) = z) : zz_D (m, d + 1, pc, L, st) h = z := by
  subst hD
  subst hA
  refine zz_into 1 (fun rec => ?_) hcall hz
  show zz_step _ _ rec _ _ = _
  unfold zz_step
  simp only [hf, ha, cond_true]
  unfold zz_call
  simp only [hP, hb, hw, cond_true]
theorem zl_vt {m m' : zz_M} {d pc np a b x q c y : Nat} {k : Int32} {L A : List (Option Value)} {st st' : List Value} {h : zz_H} {rc : zz_R} {z : Option zz_R} (hf : zz_find m.1 pc = some (.invokevirtual x, np, a, b, k)) (ha : Nat.blt a 1000 = true) (hq : st[b - 1]? = some (.ref q)) (hT : h.1[q]? = some (c, y)) (hC : Nat.beq c (zz_RC.getD a 99) = true) (hP : zz_P[a]? = some m') (hb : (Nat.ble b st.length && Nat.ble (zz_words (st.drop b)) 8) = true) (hw : Nat.ble (zz_words (st.take b)) m'.2.1 = true) (hA : zz_args m'.2.1 (st.take b).reverse = A) (hD : st.drop b = st') (hcall : zz_D (m', d, 0, A, []) h = some rc) (hz : zz_after zz_D m (d + 1) pc np L st' (some rc) = z) : zz_D (m, d + 1, pc, L, st) h = z := by
  subst hD
  subst hA
  refine zz_into 1 (fun rec => ?_) hcall hz
  show zz_step _ _ rec _ _ = _
  unfold zz_step
  have hr : zz_rcv h st a b = true := by
    unfold zz_rcv
    simp only [hq, hT, hC]
  simp only [hf, ha, hr, cond_true]
  unfold zz_call
  simp only [hP, hb, hw, cond_true]
/-- behind a call that may throw, in a method without handlers -/
theorem zl_aft {m : zz_M} {d pc np : Nat} {L : List (Option Value)} {st : List Value} {t : Nat} {v : Value} {T : List (Nat × Nat)} {R : zRef} {M : zMem} {J : zJem} {e : Nat} {z : Option zz_R} (hm : m.2.2 = []) (h0 : Nat.beq t 0 = true → zz_D (m, d, np, L, v :: st) (T, R, M, J, e) = z) (h1 : Nat.beq t 0 = false → some (zx_o t none, (T, R, M, J, zx_e t e)) = z) : zz_after zz_D m d pc np L st (some (zx_o t (some v), (T, R, M, J, zx_e t e))) = z := by
  cases t with
  | zero => exact h0 rfl
  | succ j =>
    rw [← h1 rfl]
    show zz_thrown zz_D m d pc L j _ = _
    unfold zz_thrown
    rw [hm]
    rfl
theorem zl_aftV {m : zz_M} {d pc np : Nat} {L : List (Option Value)} {st : List Value} {t : Nat} {T : List (Nat × Nat)} {R : zRef} {M : zMem} {J : zJem} {e : Nat} {z : Option zz_R} (hm : m.2.2 = []) (h0 : Nat.beq t 0 = true → zz_D (m, d, np, L, st) (T, R, M, J, e) = z) (h1 : Nat.beq t 0 = false → some (zx_o t none, (T, R, M, J, zx_e t e)) = z) : zz_after zz_D m d pc np L st (some (zx_o t none, (T, R, M, J, zx_e t e))) = z := by
  cases t with
  | zero => exact h0 rfl
  | succ j =>
    rw [← h1 rfl]
    show zz_thrown zz_D m d pc L j _ = _
    unfold zz_thrown
    rw [hm]
    rfl
theorem zx_oe {t : Nat} (h : Nat.beq t 0 = false) (v : Option Value) : zx_o t none = zx_o t v := by
  cases t with
  | zero => cases h
  | succ j => rfl
/-- loops -/
def zf_for {α : Type} : Nat → (Nat → α → α) → α → α
  | 0, _, a => a
  | n + 1, f, a => f n (zf_for n f a)
def zf_wh {α : Type} : Nat → (Nat → α → Bool × α) → Nat → α → α
  | 0, _, _, a => a
  | n + 1, g, i, a => bif (g i a).1 then zf_wh n g (i + 1) (g i a).2 else (g i a).2
def zf_wk {α : Type} : Nat → (Nat → α → Bool × α) → (Nat → α → Prop) → Nat → α → Prop
  | 0, _, _, _, _ => False
  | n + 1, g, k, i, a => k i a ∧ ((g i a).1 = true → zf_wk n g k (i + 1) (g i a).2)
theorem zf_forD {α : Type} {X : Nat → α → Option zz_R} {z : Option zz_R} {f : Nat → α → α} {a : α} : ∀ (n : Nat), (∀ i, i < n → X (i + 1) (f i (zf_for i f a)) = z → X i (zf_for i f a) = z) → X n (zf_for n f a) = z → X 0 a = z
  | 0, _, h => h
  | n + 1, hs, h => zf_forD n (fun i hi => hs i (Nat.lt_succ_of_lt hi)) (hs n (Nat.lt_succ_self n) h)
theorem zf_whD {α : Type} {X : Nat → α → Option zz_R} {E : α → Prop} {z : Option zz_R} {g : Nat → α → Bool × α} {k : Nat → α → Prop} (hs : ∀ i a, k i a → ((g i a).1 = true → X (i + 1) (g i a).2 = z) → ((g i a).1 = false → E (g i a).2) → X i a = z) : ∀ (n i : Nat) (a : α), zf_wk n g k i a → E (zf_wh n g i a) → X i a = z
  | 0, _, _, h, _ => h.elim
  | n + 1, i, a, h, hE => by
    unfold zf_wh at hE
    refine hs i a h.1 (fun hc => ?_) (fun hc => ?_)
    · rw [hc] at hE
      exact zf_whD hs n (i + 1) _ (h.2 hc) hE
    · rw [hc] at hE
      exact hE
theorem zi_succ (i : Nat) : Int32.ofNat i + 1 = Int32.ofNat (i + 1) := (Int32.ofNat_add i 1).symm
theorem zi_val {i : Nat} (h : i < 2147483648) : (Int32.ofNat i).toInt = i := Int32.toInt_ofNat_of_lt h
theorem zi_nat {i : Nat} (h : i < 2147483648) : (Int32.ofNat i).toNatClampNeg = i := by
  unfold Int32.toNatClampNeg
  rw [zi_val h]; rfl
theorem zi_in {i n : Nat} (h : i < n) (hn : n ≤ 100000) : zz_in (Int32.ofNat i) n = true := by
  unfold zz_in
  rw [zi_nat (by omega)]
  have h1 : ¬ (Int32.ofNat i < 0) := by
    rw [Int32.lt_iff_toInt_lt, zi_val (by omega)]
    show ¬ ((i : Int) < 0)
    omega
  rw [decide_eq_false h1, decide_eq_true h]; rfl
theorem zi_lt {i : Nat} {N : Int32} (h : i < N.toNatClampNeg) : decide (N ≤ Int32.ofNat i) = false := by
  have h2 : N.toInt < 2147483648 := by have := Int32.toInt_lt N; omega
  unfold Int32.toNatClampNeg at h
  refine decide_eq_false ?_
  rw [Int32.le_iff_toInt_le, zi_val (by omega)]
  omega
theorem zi_ge (N : Int32) : decide (N ≤ Int32.ofNat N.toNatClampNeg) = true := by
  have h2 : N.toInt < 2147483648 := by have := Int32.toInt_lt N; omega
  refine decide_eq_true ?_
  unfold Int32.toNatClampNeg
  rw [Int32.le_iff_toInt_le, zi_val (by omega)]
  omega
/-- reading behind a write -/
theorem zu_ne {α : Type} {M : Nat → Nat → α} {q k a i : Nat} {x : α} (h : Nat.beq a q = false) : zz_up M q k x a i = M a i := by unfold zz_up; rw [h]; rfl
theorem zu_nk {α : Type} {M : Nat → Nat → α} {q k a i : Nat} {x : α} (h : Nat.beq i k = false) : zz_up M q k x a i = M a i := by unfold zz_up; rw [h]; cases Nat.beq a q <;> rfl
theorem zu_eq {α : Type} {M : Nat → Nat → α} {q k : Nat} {x : α} : zz_up M q k x q k = x := by unfold zz_up; rw [Nat.beq_refl, Nat.beq_refl]; rfl
theorem zr_ne {α : Type} {M : Nat → Nat → α} {q a i : Nat} {f : Nat → α} (h : Nat.beq a q = false) : zz_row M q f a i = M a i := by unfold zz_row; rw [h]; rfl
theorem zr_eq {α : Type} {M : Nat → Nat → α} {q i : Nat} {f : Nat → α} : zz_row M q f q i = f i := by unfold zz_row; rw [Nat.beq_refl]; rfl
theorem zn_off (s : Nat) {a b : Nat} (h : Nat.beq a b = false) : Nat.beq (s + a) (s + b) = false := by
  cases e : Nat.beq (s + a) (s + b) with
  | false => rfl
  | true =>
    have := Nat.eq_of_beq_eq_true e
    have e2 : a = b := by omega
    rw [e2, Nat.beq_refl] at h
    cases h
theorem zi_tn (N : Int32) : N.toNatClampNeg < 2147483648 := by
  have h2 : N.toInt < 2147483648 := by have := Int32.toInt_lt N; omega
  unfold Int32.toNatClampNeg
  omega
theorem zi_ltc {i n : Nat} {N : Int32} (h : i < n) (hN : N.toNatClampNeg = n) : decide (N ≤ Int32.ofNat i) = false := zi_lt (by omega)
def zsl (x y : Int32) : Int32 := x <<< (y &&& 31)
def zsr (x y : Int32) : Int32 := x >>> (y &&& 31)
def zus (x y : Int32) : Int32 := (x.toUInt32 >>> (y.toUInt32 &&& Int32.toUInt32 31)).toInt32
def zrm (x y : Int32) : Int32 := x - x / y * y
def zll (x : Int64) (y : Int32) : Int64 := x <<< (y.toInt64 &&& 63)
def zlu (x : Int64) (y : Int32) : Int64 := (x.toUInt64 >>> (y.toInt64.toUInt64 &&& Int64.toUInt64 63)).toInt64
/-- a switch -/
theorem zl_swc {m : zz_M} {d pc : Nat} {L : List (Option Value)} {st : List Value} {h : zz_H} {x v : Int32} {A : zz_F} {z : Option zz_R} (hx : decide (x = v) = true) (k : ∀ rec, zz_iter zz_P zz_S rec 1 (m, d, pc, L, .int v :: st) h = rec A h) (hz : zz_D A h = z) : zz_D (m, d, pc, L, .int x :: st) h = z := by
  rw [of_decide_eq_true hx]
  exact (zz_go 1 k).trans hz
theorem zl_swd {m : zz_M} {d pc np a b t : Nat} {k : Int32} {df lo hi : Int} {offs : Array Int} {L : List (Option Value)} {st : List Value} {h : zz_H} {x : Int32} {z : Option zz_R} (hf : zz_find m.1 pc = some (.tableswitch df lo hi offs, np, a, b, k)) (hx : (decide (x.toInt < lo) || decide (hi < x.toInt)) = true) (ht : ((pc : Int) + df).toNat = t) (hz : zz_D (m, d, t, L, st) h = z) : zz_D (m, d, pc, L, .int x :: st) h = z :=
  (zz_go 1 (fun rec => by
    show zz_step _ _ rec _ _ = _
    unfold zz_step
    simp only [hf, hx, ht, cond_true])).trans hz
theorem zsw_ne {x v : Int32} (h : decide (x = v) = false) : x.toInt ≠ v.toInt := fun e => of_decide_eq_false h (Int32.toInt_inj.mp e)
