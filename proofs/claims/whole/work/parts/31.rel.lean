/-! THE PURE MACHINE AND THE REAL ONE: addresses, values, locals, heap. -/
def zz_ra (b base : Nat) (sa : Nat → Nat) : Nat → Nat
  | 0 => b
  | k + 1 => if k < 999999 then base + k else sa (k - 999999)
def zz_tr (ra : Nat → Nat) : Value → Value
  | .ref a => .ref (ra a)
  | v => v
theorem zz_tr_cat (ra : Nat → Nat) (v : Value) : (zz_tr ra v).category = v.category := by cases v <;> rfl
theorem zz_tr_rf (ra : Nat → Nat) (r : Option Nat) : zz_tr ra (zz_rf r) = va_rf (r.map ra) := by cases r <;> rfl
theorem zz_words_tr (ra : Nat → Nat) : ∀ st : List Value, ((st.map (zz_tr ra)).map fun v => v.category).sum = zz_words st
  | [] => rfl
  | v :: r => by
    have ih := zz_words_tr ra r
    simp only [List.map_cons, List.sum_cons, zz_words, zz_tr_cat, ih]
/-- the locals as a list of places and values -/
def zz_as : Nat → List (Option Value) → List (Nat × Value)
  | _, [] => []
  | i, none :: r => zz_as (i + 1) r
  | i, some v :: r => (i, v) :: zz_as (i + 1) r
theorem zz_as_mem : ∀ (L : List (Option Value)) (i : Nat) (q : Nat × Value), q ∈ zz_as i L ↔ ∃ k : Nat, q.1 = i + k ∧ L[k]? = some (some q.2)
  | [], i, q => by simp [zz_as]
  | none :: r, i, q => by
    rw [zz_as, zz_as_mem r (i + 1) q]
    constructor
    · rintro ⟨k, h1, h2⟩
      exact ⟨k + 1, by omega, by simpa using h2⟩
    · rintro ⟨k, h1, h2⟩
      cases k with
      | zero => simp at h2
      | succ k => exact ⟨k, by omega, by simpa using h2⟩
  | some v :: r, i, q => by
    rw [zz_as, List.mem_cons, zz_as_mem r (i + 1) q]
    constructor
    · rintro (rfl | ⟨k, h1, h2⟩)
      · exact ⟨0, rfl, rfl⟩
      · exact ⟨k + 1, by omega, by simpa using h2⟩
    · rintro ⟨k, h1, h2⟩
      cases k with
      | zero =>
        left
        obtain ⟨q1, q2⟩ := q
        simp at h1 h2
        rw [h1, h2]
      | succ k => exact Or.inr ⟨k, by omega, by simpa using h2⟩
def zz_LR (ra : Nat → Nat) (ls : Array Slot) (nL : Nat) (L : List (Option Value)) : Prop := L.length = nL ∧ ls.size = nL ∧ lv_wf ls ∧ ∀ (i : Nat) (v : Value), L[i]? = some (some v) → ls[i]? = some (.val (zz_tr ra v))
theorem zz_LR.has {ra : Nat → Nat} {ls : Array Slot} {nL : Nat} {L : List (Option Value)} (h : zz_LR ra ls nL L) : lv_has ls nL (zz_as 0 (L.map (Option.map (zz_tr ra)))) := by
  refine ⟨h.2.1, h.2.2.1, fun q hq => ?_⟩
  obtain ⟨k, h1, h2⟩ := (zz_as_mem _ _ _).mp hq
  rw [List.getElem?_map] at h2
  cases hk : L[k]? with
  | none => rw [hk] at h2; cases h2
  | some o =>
    rw [hk] at h2
    cases o with
    | none => cases h2
    | some v =>
      have e : zz_tr ra v = q.2 := Option.some.inj (Option.some.inj h2)
      have := h.2.2.2 k v hk
      rw [show q.1 = k by omega, ← e]
      exact this
theorem zz_get_at {L : List (Option Value)} {i : Nat} {v : Value} (h : zz_get L i = some v) : L[i]? = some (some v) := by
  unfold zz_get at h
  split at h
  · rename_i w e
    cases h
    exact e
  · cases h
theorem zz_LR.get {ra : Nat → Nat} {ls : Array Slot} {nL : Nat} {L : List (Option Value)} (h : zz_LR ra ls nL L) {i : Nat} {v : Value} (hg : zz_get L i = some v) : ls[i]? = some (.val (zz_tr ra v)) := h.2.2.2 i v (zz_get_at hg)
theorem zz_LR.lt {ra : Nat → Nat} {ls : Array Slot} {nL : Nat} {L : List (Option Value)} (h : zz_LR ra ls nL L) {i : Nat} {v : Value} (hg : zz_get L i = some v) : i < nL := by
  have := (List.getElem?_eq_some_iff.mp (zz_get_at hg)).1
  rw [h.1] at this
  exact this
/-- a store: the other places stay -/
theorem zz_LR.of_has {ra : Nat → Nat} {ls ls' : Array Slot} {nL i : Nat} {L : List (Option Value)} {w : Value} {o : Option Value} (h : zz_LR ra ls nL L) (ho : ∀ v, o = some v → w = zz_tr ra v) (hn : ∀ j : Nat, j + 1 = i → zz_isL L[j]? = false)
    (hl : lv_has ls' nL ((i, w) :: (zz_as 0 (L.map (Option.map (zz_tr ra)))).filter (fun q => !(q.1 == i) && !(q.1 + 1 == i && q.2.category == 2)))) : zz_LR ra ls' nL (L.set i o) := by
  refine ⟨by rw [List.length_set]; exact h.1, hl.1, hl.2.1, fun k v hk => ?_⟩
  by_cases hki : i = k
  · subst hki
    rw [List.getElem?_set_self' ] at hk
    cases hL : L[i]? with
    | none => rw [hL] at hk; cases hk
    | some z =>
      rw [hL] at hk
      have e : o = some v := Option.some.inj hk
      rw [← ho v e]
      exact hl.2.2 (i, w) List.mem_cons_self
  · rw [List.getElem?_set_ne hki] at hk
    refine hl.2.2 (k, zz_tr ra v) (List.mem_cons_of_mem _ (List.mem_filter.mpr ⟨(zz_as_mem _ _ _).mpr ⟨k, by simp, ?_⟩, ?_⟩))
    · rw [List.getElem?_map, hk]; rfl
    · simp only [Bool.and_eq_true, Bool.not_eq_true', beq_eq_false_iff_ne, ne_eq, Bool.and_eq_false_iff]
      refine ⟨fun e => hki e.symm, ?_⟩
      by_cases h1 : k + 1 = i
      · right
        have := hn k h1
        rw [hk] at this
        rw [zz_tr_cat]
        cases v <;> first | (simp [zz_isL] at this; done) | (simp [Value.category])
      · exact Or.inl h1
theorem zz_st1_some {L L' : List (Option Value)} {i : Nat} {v : Value} (h : zz_st1 L i v = some L') : L' = L.set i (some v) ∧ ∀ j : Nat, j + 1 = i → zz_isL L[j]? = false := by
  unfold zz_st1 at h
  cases i with
  | zero => exact ⟨(Option.some.inj h).symm, fun j hj => by omega⟩
  | succ j =>
    obtain ⟨h1, h2⟩ := zz_bifn h
    refine ⟨(Option.some.inj h2).symm, fun k hk => ?_⟩
    have : k = j := by omega
    subst this
    exact h1
theorem zz_st2_some {L L' : List (Option Value)} {i : Nat} {x : Int64} (h : zz_st2 L i x = some L') : L' = (L.set i (some (.long x))).set (i + 1) none ∧ ∀ j : Nat, j + 1 = i → zz_isL L[j]? = false := by
  unfold zz_st2 at h
  cases i with
  | zero => exact ⟨(Option.some.inj h).symm, fun j hj => by omega⟩
  | succ j =>
    obtain ⟨h1, h2⟩ := zz_bifn h
    refine ⟨(Option.some.inj h2).symm, fun k hk => ?_⟩
    have : k = j := by omega
    subst this
    exact h1
theorem zz_LR.of_has2 {ra : Nat → Nat} {ls ls' : Array Slot} {nL i : Nat} {L : List (Option Value)} {x : Int64} (h : zz_LR ra ls nL L) (hn : ∀ j : Nat, j + 1 = i → zz_isL L[j]? = false)
    (hl : lv_has ls' nL ((i, Value.long x) :: (zz_as 0 (L.map (Option.map (zz_tr ra)))).filter (fun q => !(q.1 == i) && (!(q.1 == i + 1) && !(q.1 + 1 == i && q.2.category == 2))))) : zz_LR ra ls' nL ((L.set i (some (.long x))).set (i + 1) none) := by
  refine ⟨by rw [List.length_set, List.length_set]; exact h.1, hl.1, hl.2.1, fun k v hk => ?_⟩
  by_cases h1 : i + 1 = k
  · subst h1
    rw [List.getElem?_set_self'] at hk
    cases hL : (L.set i (some (.long x)))[i + 1]? with
    | none => rw [hL] at hk; cases hk
    | some z => rw [hL] at hk; cases hk
  · rw [List.getElem?_set_ne h1] at hk
    by_cases hki : i = k
    · subst hki
      rw [List.getElem?_set_self'] at hk
      cases hL : L[i]? with
      | none => rw [hL] at hk; cases hk
      | some z =>
        rw [hL] at hk
        have e : Value.long x = v := Option.some.inj (Option.some.inj hk)
        rw [← e]
        exact hl.2.2 (i, .long x) List.mem_cons_self
    · rw [List.getElem?_set_ne hki] at hk
      refine hl.2.2 (k, zz_tr ra v) (List.mem_cons_of_mem _ (List.mem_filter.mpr ⟨(zz_as_mem _ _ _).mpr ⟨k, by simp, ?_⟩, ?_⟩))
      · rw [List.getElem?_map, hk]; rfl
      · simp only [Bool.and_eq_true, Bool.not_eq_true', beq_eq_false_iff_ne, ne_eq, Bool.and_eq_false_iff]
        refine ⟨fun e => hki e.symm, fun e => h1 e.symm, ?_⟩
        by_cases h2 : k + 1 = i
        · right
          have := hn k h2
          rw [hk] at this
          rw [zz_tr_cat]
          cases v <;> first | (simp [zz_isL] at this; done) | (simp [Value.category])
        · exact Or.inl h2
/-- a method's start -/
theorem zz_pad_at : ∀ (n i : Nat) (v : Value), (zz_pad n)[i]? ≠ some (some v)
  | 0, i, v => by simp [zz_pad]
  | n + 1, 0, v => by simp [zz_pad]
  | n + 1, i + 1, v => by
    rw [zz_pad, List.getElem?_cons_succ]
    exact zz_pad_at n i v
theorem zz_pad_len : ∀ n, (zz_pad n).length = n
  | 0 => rfl
  | n + 1 => by rw [zz_pad, List.length_cons, zz_pad_len n]
theorem zz_args_at (ra : Nat → Nat) : ∀ (vs : List Value) (n i : Nat), zz_words vs ≤ n → (zz_args n vs).length = n ∧ ∀ (k : Nat) (v : Value), (zz_args n vs)[k]? = some (some v) → (i + k, zz_tr ra v) ∈ lv_args i (vs.map (zz_tr ra))
  | [], n, i, _ => by
    rw [zz_args]
    exact ⟨zz_pad_len n, fun k v h => absurd h (zz_pad_at n k v)⟩
  | v :: r, n, i, hw => by
    have hc : v.category = 1 ∨ v.category = 2 := lv_cat v
    rw [zz_words] at hw
    have one : v.category = 1 → (∀ n', n = n' + 1 → zz_args n (v :: r) = some v :: zz_args n' r) → ((zz_args n (v :: r)).length = n ∧ ∀ (k : Nat) (w : Value), (zz_args n (v :: r))[k]? = some (some w) → (i + k, zz_tr ra w) ∈ lv_args i ((v :: r).map (zz_tr ra))) := by
      intro h1 he
      obtain ⟨n', rfl⟩ : ∃ n', n = n' + 1 := ⟨n - 1, by omega⟩
      obtain ⟨ih1, ih2⟩ := zz_args_at ra r n' (i + 1) (by omega)
      rw [he n' rfl]
      refine ⟨by rw [List.length_cons, ih1], fun k w hk => ?_⟩
      rw [List.map_cons, lv_args, zz_tr_cat, h1]
      cases k with
      | zero =>
        rw [List.getElem?_cons_zero] at hk
        cases hk
        exact List.mem_cons_self
      | succ k =>
        rw [List.getElem?_cons_succ] at hk
        have := ih2 k w hk
        rw [show i + (k + 1) = i + 1 + k by omega]
        exact List.mem_cons_of_mem _ (by simpa using this)
    cases v with
    | long x =>
      have h2 : (Value.long x).category = 2 := rfl
      obtain ⟨n', rfl⟩ : ∃ n', n = n' + 2 := ⟨n - 2, by omega⟩
      obtain ⟨ih1, ih2⟩ := zz_args_at ra r n' (i + 2) (by omega)
      rw [zz_args]
      refine ⟨by rw [List.length_cons, List.length_cons, ih1], fun k w hk => ?_⟩
      rw [List.map_cons, lv_args, zz_tr_cat, h2]
      cases k with
      | zero =>
        rw [List.getElem?_cons_zero] at hk
        cases hk
        exact List.mem_cons_self
      | succ k =>
        cases k with
        | zero => simp at hk
        | succ k =>
          rw [List.getElem?_cons_succ, List.getElem?_cons_succ] at hk
          have := ih2 k w hk
          rw [show i + (k + 1 + 1) = i + 2 + k by omega]
          exact List.mem_cons_of_mem _ (by simpa using this)
    | double x =>
      have h2 : (Value.double x).category = 2 := rfl
      obtain ⟨n', rfl⟩ : ∃ n', n = n' + 2 := ⟨n - 2, by omega⟩
      obtain ⟨ih1, ih2⟩ := zz_args_at ra r n' (i + 2) (by omega)
      rw [zz_args]
      refine ⟨by rw [List.length_cons, List.length_cons, ih1], fun k w hk => ?_⟩
      rw [List.map_cons, lv_args, zz_tr_cat, h2]
      cases k with
      | zero => simp at hk
      | succ k =>
        cases k with
        | zero => simp at hk
        | succ k =>
          rw [List.getElem?_cons_succ, List.getElem?_cons_succ] at hk
          have := ih2 k w hk
          rw [show i + (k + 1 + 1) = i + 2 + k by omega]
          exact List.mem_cons_of_mem _ (by simpa using this)
    | int x => exact one rfl (fun n' e => by subst e; rw [zz_args] <;> (intros; rename_i h; cases h))
    | float x => exact one rfl (fun n' e => by subst e; rw [zz_args] <;> (intros; rename_i h; cases h))
    | null => exact one rfl (fun n' e => by subst e; rw [zz_args] <;> (intros; rename_i h; cases h))
    | ref x => exact one rfl (fun n' e => by subst e; rw [zz_args] <;> (intros; rename_i h; cases h))
    | retAddr x => exact one rfl (fun n' e => by subst e; rw [zz_args] <;> (intros; rename_i h; cases h))
theorem zz_sl_len (ra : Nat → Nat) : ∀ vs : List Value, (lg_sl (vs.map (zz_tr ra))).length = zz_words vs
  | [] => rfl
  | v :: r => by
    have ih := zz_sl_len ra r
    have e : lg_sl ((v :: r).map (zz_tr ra)) = (if (zz_tr ra v).category = 2 then [Slot.val (zz_tr ra v), .second] else [.val (zz_tr ra v)]) ++ lg_sl (r.map (zz_tr ra)) := by simp [lg_sl]
    rw [e, List.length_append, ih, zz_words, zz_tr_cat]
    rcases lv_cat v with h | h <;> simp [h]
theorem zz_LR.entry (ra : Nat → Nat) {vs : List Value} {n : Nat} (h : zz_words vs ≤ n) : zz_LR ra ((lg_sl (vs.map (zz_tr ra)) ++ List.replicate (n - (lg_sl (vs.map (zz_tr ra))).length) Slot.unset).toArray) n (zz_args n vs) := by
  have hh := lv_entry (vs.map (zz_tr ra)) (n := n) (by rw [zz_sl_len]; exact h)
  obtain ⟨h1, h2⟩ := zz_args_at ra vs n 0 h
  refine ⟨h1, hh.1, hh.2.1, fun i v hi => ?_⟩
  have := hh.2.2 _ (h2 i v hi)
  rw [Nat.zero_add] at this
  exact this
/-- a field's value -/
def zz_fv (ra : Nat → Nat) (h : zz_H) (a c i : Nat) : Value := bif Nat.beq (zz_kd c i) 1 then va_rf ((h.2.1 a i).map ra) else .int (h.2.2.1 a i)
def zz_at (D : va_G) (cI cZ cL cS : ClassId) (ra : Nat → Nat) (h : zz_H) (H : Heap) (a : Nat) (t : Nat × Nat) : Prop :=
  (t.1 = 100 ∧ H[ra a]? = some (arrV cI t.2 fun j => .int (h.2.2.1 a j))) ∨ (t.1 = 101 ∧ H[ra a]? = some (arrV cZ t.2 fun j => .int (h.2.2.1 a j))) ∨ (t.1 = 102 ∧ H[ra a]? = some (arrV cL t.2 fun j => .long (h.2.2.2.1 a j))) ∨
  (t.1 = 103 ∧ H[ra a]? = some (arrV cS t.2 fun j => va_rf ((h.2.1 a j).map ra))) ∨ (t.1 < 7 ∧ t_OB (ra a) (D.1 t.1) (zz_nf t.1) (D.2 t.1) H (zz_fv ra h a t.1))
theorem zz_at.kept {D : va_G} {cI cZ cL cS : ClassId} {ra : Nat → Nat} {h h2 : zz_H} {H H2 : Heap} {a : Nat} {t : Nat × Nat} (k : zz_at D cI cZ cL cS ra h H a t) (hH : H2[ra a]? = H[ra a]?) (e1 : ∀ i, h2.2.1 a i = h.2.1 a i) (e2 : ∀ i, h2.2.2.1 a i = h.2.2.1 a i) (e3 : ∀ i, h2.2.2.2.1 a i = h.2.2.2.1 a i) : zz_at D cI cZ cL cS ra h2 H2 a t := by
  have f1 : h2.2.1 a = h.2.1 a := funext e1
  have f2 : h2.2.2.1 a = h.2.2.1 a := funext e2
  have f3 : h2.2.2.2.1 a = h.2.2.2.1 a := funext e3
  unfold zz_at zz_fv at *
  rw [f1, f2, f3, hH]
  rcases k with k | k | k | k | ⟨k, k2⟩
  · exact Or.inl k
  · exact Or.inr (Or.inl k)
  · exact Or.inr (Or.inr (Or.inl k))
  · exact Or.inr (Or.inr (Or.inr (Or.inl k)))
  · exact Or.inr (Or.inr (Or.inr (Or.inr ⟨k, k2.kept hH⟩)))
theorem zz_at.lt {D : va_G} {cI cZ cL cS : ClassId} {ra : Nat → Nat} {h : zz_H} {H : Heap} {a : Nat} {t : Nat × Nat} (k : zz_at D cI cZ cL cS ra h H a t) : ra a < H.size := by
  rcases k with k | k | k | k | ⟨-, cell, k, -⟩
  · exact (Array.getElem?_eq_some_iff.mp k.2).1
  · exact (Array.getElem?_eq_some_iff.mp k.2).1
  · exact (Array.getElem?_eq_some_iff.mp k.2).1
  · exact (Array.getElem?_eq_some_iff.mp k.2).1
  · exact (Array.getElem?_eq_some_iff.mp k).1
def zz_HR (D : va_G) (cI cZ cL cS : ClassId) (b base : Nat) (sa : Nat → Nat) (L0 : Nat) (xs0 : Nat → Int32) (h : zz_H) (H : Heap) : Prop :=
  h.1[0]? = some (100, L0) ∧ (∀ j, j < L0 → h.2.2.1 0 j = xs0 j) ∧ h.1.length ≤ 900000 ∧ base + h.1.length ≤ H.size + 1 ∧ (h.2.2.2.2 = 0 → H.size + 1 = base + h.1.length) ∧ ∀ (a : Nat) (t : Nat × Nat), 0 < a → h.1[a]? = some t → zz_at D cI cZ cL cS (zz_ra b base sa) h H a t
theorem zz_ra_at {b base : Nat} {sa : Nat → Nat} {a : Nat} (h0 : 0 < a) (h : a ≤ 900000) : zz_ra b base sa a = base + (a - 1) := by
  cases a with
  | zero => omega
  | succ k =>
    show (if k < 999999 then base + k else sa (k - 999999)) = _
    rw [if_pos (by omega)]; simp
theorem zz_HR.upd {D : va_G} {cI cZ cL cS : ClassId} {b base : Nat} {sa : Nat → Nat} {L0 : Nat} {xs0 : Nat → Int32} {h h2 : zz_H} {H H2 : Heap} (k : zz_HR D cI cZ cL cS b base sa L0 xs0 h H) {a0 : Nat} {t0 : Nat × Nat} (h0 : 0 < a0) (ht : h.1[a0]? = some t0) (hz : H2.size = H.size) (ho : ∀ q, q ≠ zz_ra b base sa a0 → H2[q]? = H[q]?)
    (e0 : h2.1 = h.1) (e1 : ∀ a i, a ≠ a0 → h2.2.1 a i = h.2.1 a i) (e2 : ∀ a i, a ≠ a0 → h2.2.2.1 a i = h.2.2.1 a i) (e3 : ∀ a i, a ≠ a0 → h2.2.2.2.1 a i = h.2.2.2.1 a i) (e4 : h2.2.2.2.2 = h.2.2.2.2) (hat : zz_at D cI cZ cL cS (zz_ra b base sa) h2 H2 a0 t0) : zz_HR D cI cZ cL cS b base sa L0 xs0 h2 H2 := by
  obtain ⟨k1, k2, k3, k4, k5, k6⟩ := k
  refine ⟨by rw [e0]; exact k1, fun j hj => by rw [e2 0 j (by omega)]; exact k2 j hj, by rw [e0]; exact k3, by rw [e0, hz]; exact k4, by rw [e0, hz, e4]; exact k5, fun a t ha hat' => ?_⟩
  rw [e0] at hat'
  by_cases haa : a = a0
  · subst haa
    rw [ht] at hat'
    cases hat'
    exact hat
  · have l1 := (List.getElem?_eq_some_iff.mp hat').1
    have l2 := (List.getElem?_eq_some_iff.mp ht).1
    refine (k6 a t ha hat').kept (ho _ (fun e => haa ?_)) (fun i => e1 a i haa) (fun i => e2 a i haa) (fun i => e3 a i haa)
    rw [zz_ra_at ha (by omega), zz_ra_at h0 (by omega)] at e
    omega
theorem zz_HR.push {D : va_G} {cI cZ cL cS : ClassId} {b base : Nat} {sa : Nat → Nat} {L0 : Nat} {xs0 : Nat → Int32} {h h2 : zz_H} {H H2 : Heap} (k : zz_HR D cI cZ cL cS b base sa L0 xs0 h H) {t0 : Nat × Nat} (hf : h.2.2.2.2 = 0) (hl : h.1.length < 900000) (hz : H2.size = H.size + 1) (ho : ∀ q, q < H.size → H2[q]? = H[q]?)
    (e0 : h2.1 = h.1 ++ [t0]) (e1 : ∀ a i, a ≠ h.1.length → h2.2.1 a i = h.2.1 a i) (e2 : ∀ a i, a ≠ h.1.length → h2.2.2.1 a i = h.2.2.1 a i) (e3 : ∀ a i, a ≠ h.1.length → h2.2.2.2.1 a i = h.2.2.2.1 a i) (e4 : h2.2.2.2.2 = 0) (hat : zz_at D cI cZ cL cS (zz_ra b base sa) h2 H2 h.1.length t0) : zz_HR D cI cZ cL cS b base sa L0 xs0 h2 H2 := by
  obtain ⟨k1, k2, k3, k4, k5, k6⟩ := k
  have kk := k5 hf
  have hpos : 0 < h.1.length := (List.getElem?_eq_some_iff.mp k1).1
  have hlen : (h.1 ++ [t0]).length = h.1.length + 1 := by rw [List.length_append]; rfl
  refine ⟨by rw [e0, List.getElem?_append_left hpos]; exact k1, fun j hj => by rw [e2 0 j (by omega)]; exact k2 j hj, by rw [e0, hlen]; omega, by rw [e0, hlen]; omega, fun _ => by rw [e0, hlen]; omega, fun a t ha hat' => ?_⟩
  rw [e0] at hat'
  by_cases haa : a = h.1.length
  · subst haa
    rw [List.getElem?_append_right (Nat.le_refl _), Nat.sub_self] at hat'
    cases hat'
    exact hat
  · have l1 := (List.getElem?_eq_some_iff.mp hat').1
    rw [hlen] at l1
    rw [List.getElem?_append_left (by omega)] at hat'
    exact (k6 a t ha hat').kept (ho _ (k6 a t ha hat').lt) (fun i => e1 a i haa) (fun i => e2 a i haa) (fun i => e3 a i haa)
theorem zz_up_ne {α : Type} {M : Nat → Nat → α} {q k : Nat} {x : α} {a i : Nat} (h : a ≠ q) : zz_up M q k x a i = M a i := by
  unfold zz_up
  rw [show Nat.beq a q = false by rw [← Bool.not_eq_true]; exact fun e => h (Nat.eq_of_beq_eq_true e)]
  rfl
theorem zz_row_ne {α : Type} {M : Nat → Nat → α} {q : Nat} {f : Nat → α} {a i : Nat} (h : a ≠ q) : zz_row M q f a i = M a i := by
  unfold zz_row
  rw [show Nat.beq a q = false by rw [← Bool.not_eq_true]; exact fun e => h (Nat.eq_of_beq_eq_true e)]
  rfl
theorem zz_up_at {α : Type} {M : Nat → Nat → α} {q k : Nat} {x : α} {i : Nat} : zz_up M q k x q i = if i = k then x else M q i := by
  unfold zz_up
  rw [show Nat.beq q q = true by simp]
  by_cases h : i = k
  · subst h
    rw [if_pos rfl, show Nat.beq i i = true by simp]
    rfl
  · rw [if_neg h, show Nat.beq i k = false by rw [← Bool.not_eq_true]; exact fun e => h (Nat.eq_of_beq_eq_true e)]
    rfl
theorem zz_row_at {α : Type} {M : Nat → Nat → α} {q : Nat} {f : Nat → α} : zz_row M q f q = f := by
  funext i
  unfold zz_row
  rw [show Nat.beq q q = true by simp]
  rfl
