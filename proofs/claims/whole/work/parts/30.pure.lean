/-! PURE FACTS of the machine: rows by their pc, what a call costs, the locals' list. -/
theorem zz_find_mem {α : Type} : ∀ {l : List (Nat × α)} {pc : Nat} {x : α}, zz_find l pc = some x → (pc, x) ∈ l
  | [], pc, x, h => by cases h
  | q :: r, pc, x, h => by
    unfold zz_find at h
    cases hb : Nat.beq q.1 pc with
    | true =>
      rw [hb] at h
      have e := Nat.eq_of_beq_eq_true hb
      cases Option.some.inj h
      subst e
      exact List.mem_cons_self
    | false =>
      rw [hb] at h
      exact List.mem_cons_of_mem _ (zz_find_mem h)
theorem zz_bif {α : Type} {c : Bool} {x : Option α} {y : α} (h : (bif c then x else none) = some y) : c = true ∧ x = some y := by
  cases c with
  | true => exact ⟨rfl, h⟩
  | false => cases h
theorem zz_bifn {α : Type} {c : Bool} {x : Option α} {y : α} (h : (bif c then none else x) = some y) : c = false ∧ x = some y := by
  cases c with
  | true => cases h
  | false => exact ⟨rfl, h⟩
theorem zz_bifs {α : Type} {c : Bool} {x z : Option α} {y : α} (h : (bif c then x else z) = some y) : (c = true ∧ x = some y) ∨ (c = false ∧ z = some y) := by
  cases c with
  | true => exact Or.inl ⟨rfl, h⟩
  | false => exact Or.inr ⟨rfl, h⟩
/-- cells and slots that a heap has cost -/
def zz_nf (c : Nat) : Nat := match vwCl[c]? with
  | some q => q.2.2
  | none => 0
def zz_sz (t : Nat × Nat) : Nat := bif Nat.ble 100 t.1 then t.2 else zz_nf t.1
def zz_us1 : List (Nat × Nat) → Nat
  | [] => 0
  | t :: r => zz_sz t + zz_us1 r
def zz_uc (h : zz_H) : Nat := h.1.length + h.2.2.2.2
def zz_us (h : zz_H) : Nat := zz_us1 h.1 + 6 * h.2.2.2.2
theorem zz_us1_app : ∀ (l : List (Nat × Nat)) (t : Nat × Nat), zz_us1 (l ++ [t]) = zz_us1 l + zz_sz t
  | [], t => by simp [zz_us1]
  | x :: r, t => by
    rw [List.cons_append, zz_us1, zz_us1, zz_us1_app r t]; omega
def zz_le (h h' : zz_H) : Prop := zz_uc h ≤ zz_uc h' ∧ zz_us h ≤ zz_us h'
theorem zz_le.rf (h : zz_H) : zz_le h h := ⟨Nat.le_refl _, Nat.le_refl _⟩
theorem zz_le.tr {a b c : zz_H} (h : zz_le a b) (k : zz_le b c) : zz_le a c := ⟨Nat.le_trans h.1 k.1, Nat.le_trans h.2 k.2⟩
def zz_Mono (rec : zz_F → zz_H → Option zz_R) : Prop := ∀ fr h r h', rec fr h = some (r, h') → zz_le h h'
theorem zz_thrown_mono {rec : zz_F → zz_H → Option zz_R} (hr : zz_Mono rec) {m : zz_M} {d pc : Nat} {L : List (Option Value)} {j : Nat} {h h' : zz_H} {r : Option Value ⊕ Nat} (hx : zz_thrown rec m d pc L j h = some (r, h')) : zz_le h h' := by
  unfold zz_thrown at hx
  split at hx
  · obtain ⟨-, hx⟩ := zz_bif hx
    cases hx
    exact zz_le.rf _
  · split at hx
    · split at hx
      · (have t := hr _ _ _ _ hx; exact t)
      · cases hx
    · split at hx
      · (have t := hr _ _ _ _ hx; exact t)
      · cases hx
    · cases hx
theorem zz_after_mono {rec : zz_F → zz_H → Option zz_R} (hr : zz_Mono rec) {m : zz_M} {d pc np : Nat} {L : List (Option Value)} {st : List Value} {h h' : zz_H} {o : Option zz_R} {r : Option Value ⊕ Nat} (ho : ∀ r1 h1, o = some (r1, h1) → zz_le h h1) (hx : zz_after rec m d pc np L st o = some (r, h')) : zz_le h h' := by
  unfold zz_after at hx
  split at hx
  · exact (ho _ _ rfl).tr (hr _ _ _ _ hx)
  · exact (ho _ _ rfl).tr (hr _ _ _ _ hx)
  · exact (ho _ _ rfl).tr (zz_thrown_mono hr hx)
  · cases hx
theorem zz_call_mono {P : List zz_M} {rec : zz_F → zz_H → Option zz_R} (hr : zz_Mono rec) {m : zz_M} {d pc np : Nat} {L : List (Option Value)} {st : List Value} {a b : Nat} {h h' : zz_H} {r : Option Value ⊕ Nat} (hx : zz_call P rec m d pc np L st a b h = some (r, h')) : zz_le h h' := by
  unfold zz_call at hx
  obtain ⟨-, hx⟩ := zz_bif hx
  split at hx
  · obtain ⟨-, hx⟩ := zz_bif hx
    exact zz_after_mono hr (fun r1 h1 e => hr _ _ _ _ e) hx
  · cases hx
theorem zz_callI_mono {P : List zz_M} {rec : zz_F → zz_H → Option zz_R} (hr : zz_Mono rec) {m : zz_M} {d np : Nat} {L : List (Option Value)} {st : List Value} {a b : Nat} {h h' : zz_H} {r : Option Value ⊕ Nat} (hx : zz_callI P rec m d np L st a b h = some (r, h')) : zz_le h h' := by
  unfold zz_callI at hx
  obtain ⟨-, hx⟩ := zz_bif hx
  split at hx
  · obtain ⟨-, hx⟩ := zz_bif hx
    split at hx
    · rename_i e
      exact (hr _ _ _ _ e).tr (hr _ _ _ _ hx)
    · cases hx
  · cases hx
theorem zz_prim_mono {S : zz_T} {rec : zz_F → zz_H → Option zz_R} (hr : zz_Mono rec) {m : zz_M} {d np : Nat} {L : List (Option Value)} {st : List Value} {a : Nat} {h h' : zz_H} {r : Option Value ⊕ Nat} (hx : zz_prim S rec m d np L st a h = some (r, h')) : zz_le h h' := by
  unfold zz_prim at hx
  obtain ⟨-, hx⟩ := zz_bif hx
  split at hx
  · obtain ⟨-, hx⟩ := zz_bif hx
    (have t := hr _ _ _ _ hx; exact t)
  · split at hx
    · obtain ⟨-, hx⟩ := zz_bif hx
      (have t := hr _ _ _ _ hx; exact t)
    · cases hx
  · split at hx
    · obtain ⟨-, hx⟩ := zz_bif hx
      (have t := hr _ _ _ _ hx; exact t)
    · cases hx
  · split at hx
    · obtain ⟨-, hx⟩ := zz_bif hx
      (have t := hr _ _ _ _ hx; exact t)
    · cases hx
  · cases hx
theorem zz_pushA (h : zz_H) (t : Nat × Nat) (x : Nat → Nat → Option Nat) (y : Nat → Nat → Int32) (z : Nat → Nat → Int64) : zz_le h (h.1 ++ [t], x, y, z, h.2.2.2.2) := by
  refine ⟨?_, ?_⟩
  · show h.1.length + h.2.2.2.2 ≤ (h.1 ++ [t]).length + h.2.2.2.2
    rw [List.length_append]; omega
  · show zz_us1 h.1 + 6 * h.2.2.2.2 ≤ zz_us1 (h.1 ++ [t]) + 6 * h.2.2.2.2
    rw [zz_us1_app]; omega
set_option maxHeartbeats 4000000 in
theorem zz_step_mono {P : List zz_M} {S : zz_T} {rec : zz_F → zz_H → Option zz_R} (hr : zz_Mono rec) : zz_Mono (zz_step P S rec) := by
  intro fr h r h' hx
  obtain ⟨m, d, pc, L, st⟩ := fr
  unfold zz_step at hx
  dsimp only at hx
  split at hx
  · cases hx
  · split at hx
    all_goals first
      | (have t := hr _ _ _ _ hx; exact t)
      | (split at hx
         all_goals first
           | (have t := hr _ _ _ _ hx; exact t)
           | (cases hx; done)
           | (split at hx
              all_goals first
                | (have t := hr _ _ _ _ hx; exact t)
                | (cases hx; done)
                | (obtain ⟨-, hx⟩ := zz_bif hx; first | (have t := hr _ _ _ _ hx; exact t) | (rcases zz_bifs hx with ⟨-, hx⟩ | ⟨-, hx⟩ <;> (have t := hr _ _ _ _ hx; exact t))))
           | (obtain ⟨-, hx⟩ := zz_bif hx; first | (have t := hr _ _ _ _ hx; exact t) | (exact (zz_pushA h _ _ _ _).tr (hr _ _ _ _ hx)) | (cases hx; exact ⟨by show h.1.length + h.2.2.2.2 ≤ h.1.length + (h.2.2.2.2 + 1); omega, by show zz_us1 h.1 + 6 * h.2.2.2.2 ≤ zz_us1 h.1 + 6 * (h.2.2.2.2 + 1); omega⟩) | (cases hx; exact zz_le.rf _))
           | (obtain ⟨-, hx⟩ := zz_bifn hx; (have t := hr _ _ _ _ hx; exact t))
           | (cases hx; exact zz_le.rf _)
           | (rcases zz_bifs hx with ⟨-, hx⟩ | ⟨-, hx⟩
              all_goals first
                | (have t := hr _ _ _ _ hx; exact t)
                | (split at hx
                   all_goals first
                     | (have t := hr _ _ _ _ hx; exact t)
                     | (cases hx; done))))
      | (rcases zz_bifs hx with ⟨-, hx⟩ | ⟨-, hx⟩
         all_goals first
           | exact zz_call_mono hr hx
           | exact zz_callI_mono hr hx
           | exact zz_prim_mono hr hx
           | (obtain ⟨-, hx⟩ := zz_bif hx; first | exact zz_call_mono hr hx | exact zz_callI_mono hr hx))
theorem zz_exec_mono (P : List zz_M) (S : zz_T) : ∀ f, zz_Mono (zz_exec P S f)
  | 0 => fun _ _ _ _ hx => by cases hx
  | f + 1 => zz_step_mono (zz_exec_mono P S f)
