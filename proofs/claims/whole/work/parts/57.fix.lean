/-! THE PURE MACHINE WITHOUT FUEL: zz_D, and its equations. -/
def zz_Sub (r1 r2 : zz_F → zz_H → Option zz_R) : Prop := ∀ (fr : zz_F) (h : zz_H) (x : zz_R), r1 fr h = some x → r2 fr h = some x
theorem zz_bifS {c : Bool} {a b a' b' : Option zz_R} {x : zz_R} (h1 : a = some x → a' = some x) (h2 : b = some x → b' = some x) : (bif c then a else b) = some x → (bif c then a' else b') = some x := by
  cases c
  · exact h2
  · exact h1
theorem zz_thrown_sub {r1 r2 : zz_F → zz_H → Option zz_R} (hr : zz_Sub r1 r2) (m : zz_M) (d pc : Nat) (L : List (Option Value)) (j : Nat) (h : zz_H) (x : zz_R) : zz_thrown r1 m d pc L j h = some x → zz_thrown r2 m d pc L j h = some x := by
  unfold zz_thrown
  repeat' first
    | exact hr _ _ _
    | exact id
    | refine zz_bifS ?_ ?_
    | split
theorem zz_after_sub {r1 r2 : zz_F → zz_H → Option zz_R} (hr : zz_Sub r1 r2) (m : zz_M) (d pc np : Nat) (L : List (Option Value)) (st : List Value) (o1 o2 : Option zz_R) (ho : ∀ y, o1 = some y → o2 = some y) (x : zz_R) : zz_after r1 m d pc np L st o1 = some x → zz_after r2 m d pc np L st o2 = some x := by
  intro hx
  cases o1 with
  | none =>
    have hx : (none : Option zz_R) = some x := hx
    cases hx
  | some y =>
    rw [ho y rfl]
    obtain ⟨y, h⟩ := y
    cases y with
    | inl v =>
      cases v with
      | none => exact hr _ _ _ hx
      | some v => exact hr _ _ _ hx
    | inr j => exact zz_thrown_sub hr _ _ _ _ _ _ _ hx
theorem zz_call_sub {P : List zz_M} {r1 r2 : zz_F → zz_H → Option zz_R} (hr : zz_Sub r1 r2) (m : zz_M) (d pc np : Nat) (L : List (Option Value)) (st : List Value) (a b : Nat) (h : zz_H) (x : zz_R) : zz_call P r1 m d pc np L st a b h = some x → zz_call P r2 m d pc np L st a b h = some x := by
  unfold zz_call
  refine zz_bifS ?_ id
  split
  · refine zz_bifS ?_ id
    exact zz_after_sub hr _ _ _ _ _ _ _ _ (fun y hy => hr _ _ _ hy) _
  · exact id
theorem zz_callI_sub {P : List zz_M} {r1 r2 : zz_F → zz_H → Option zz_R} (hr : zz_Sub r1 r2) (m : zz_M) (d np : Nat) (L : List (Option Value)) (st : List Value) (a b : Nat) (h : zz_H) (x : zz_R) : zz_callI P r1 m d np L st a b h = some x → zz_callI P r2 m d np L st a b h = some x := by
  unfold zz_callI
  refine zz_bifS ?_ id
  split
  · rename_i d' m' _
    refine zz_bifS ?_ id
    cases hy : r1 (m', d', 0, zz_args m'.2.1 (List.take b st).reverse, []) h with
    | none => exact fun hx => nomatch hx
    | some y =>
      rw [hr _ _ _ hy]
      obtain ⟨y, h9⟩ := y
      cases y with
      | inl v =>
        cases v with
        | none => exact hr _ _ _
        | some v => exact fun hx => nomatch hx
      | inr j => exact fun hx => nomatch hx
  · exact id
theorem zz_prim_sub {S : zz_T} {r1 r2 : zz_F → zz_H → Option zz_R} (hr : zz_Sub r1 r2) (m : zz_M) (d np : Nat) (L : List (Option Value)) (st : List Value) (a : Nat) (h : zz_H) (x : zz_R) : zz_prim S r1 m d np L st a h = some x → zz_prim S r2 m d np L st a h = some x := by
  unfold zz_prim
  refine zz_bifS ?_ id
  repeat' first
    | exact hr _ _ _
    | exact id
    | refine zz_bifS ?_ ?_
    | split
set_option maxHeartbeats 4000000 in
theorem zz_step_sub {P : List zz_M} {S : zz_T} {r1 r2 : zz_F → zz_H → Option zz_R} (hr : zz_Sub r1 r2) : zz_Sub (zz_step P S r1) (zz_step P S r2) := by
  intro fr h x
  obtain ⟨m, d, pc, L, st⟩ := fr
  unfold zz_step
  dsimp only
  repeat' first
    | exact hr _ _ _
    | exact id
    | exact zz_call_sub hr _ _ _ _ _ _ _ _ _ _
    | exact zz_callI_sub hr _ _ _ _ _ _ _ _ _
    | exact zz_prim_sub hr _ _ _ _ _ _ _ _
    | refine zz_bifS ?_ ?_
    | split
theorem zz_exec_sub (P : List zz_M) (S : zz_T) : ∀ f, zz_Sub (zz_exec P S f) (zz_exec P S (f + 1))
  | 0 => fun _ _ _ hx => nomatch hx
  | f + 1 => zz_step_sub (zz_exec_sub P S f)
theorem zz_exec_add (P : List zz_M) (S : zz_T) (f : Nat) : ∀ k, zz_Sub (zz_exec P S f) (zz_exec P S (f + k))
  | 0 => fun _ _ _ hx => hx
  | k + 1 => fun fr h x hx => zz_exec_sub P S (f + k) fr h x (zz_exec_add P S f k fr h x hx)
def zz_Ev (fr : zz_F) (h : zz_H) (r : zz_R) : Prop := ∃ f, zz_exec zz_P zz_S f fr h = some r
theorem zz_Ev.uniq {fr : zz_F} {h : zz_H} {r r' : zz_R} (a : zz_Ev fr h r) (b : zz_Ev fr h r') : r = r' := by
  obtain ⟨f, hf⟩ := a
  obtain ⟨g, hg⟩ := b
  have h1 := zz_exec_add zz_P zz_S f g fr h r hf
  have h2 := zz_exec_add zz_P zz_S g f fr h r' hg
  rw [Nat.add_comm] at h2
  rw [h1] at h2
  exact Option.some.inj h2
noncomputable def zz_D (fr : zz_F) (h : zz_H) : Option zz_R := @dite _ (∃ r, zz_Ev fr h r) (Classical.propDecidable _) (fun H => some (Classical.choose H)) (fun _ => none)
theorem zz_D_iff {fr : zz_F} {h : zz_H} {r : zz_R} : zz_D fr h = some r ↔ zz_Ev fr h r := by
  unfold zz_D
  refine ⟨fun hx => ?_, fun hx => ?_⟩
  · split at hx
    · rename_i H
      rw [← Option.some.inj hx]
      exact Classical.choose_spec H
    · exact nomatch hx
  · split
    · rename_i H
      rw [(Classical.choose_spec H).uniq hx]
    · rename_i H
      exact absurd ⟨r, hx⟩ H
theorem zz_D_ext {fr fr' : zz_F} {h h' : zz_H} (k : ∀ r, zz_Ev fr h r ↔ zz_Ev fr' h' r) : zz_D fr h = zz_D fr' h' := by
  cases e : zz_D fr' h' with
  | some r => exact zz_D_iff.mpr ((k r).mpr (zz_D_iff.mp e))
  | none =>
    cases e2 : zz_D fr h with
    | none => rfl
    | some r =>
      have := zz_D_iff.mpr ((k r).mp (zz_D_iff.mp e2))
      rw [e] at this
      exact nomatch this
theorem zz_iter_exec (P : List zz_M) (S : zz_T) (f : Nat) : ∀ n, zz_iter P S (zz_exec P S f) n = zz_exec P S (f + n)
  | 0 => rfl
  | n + 1 => by
    show zz_step P S (zz_iter P S (zz_exec P S f) n) = zz_step P S (zz_exec P S (f + n))
    rw [zz_iter_exec P S f n]
/-- a stretch without a call -/
theorem zz_go (n : Nat) {fr fr' : zz_F} {h h' : zz_H} (k : ∀ rec, zz_iter zz_P zz_S rec n fr h = rec fr' h') : zz_D fr h = zz_D fr' h' := by
  refine zz_D_ext fun r => ⟨fun ⟨f, hf⟩ => ⟨f, ?_⟩, fun ⟨f, hf⟩ => ⟨f + n, ?_⟩⟩
  · have h1 := zz_exec_add zz_P zz_S f n fr h r hf
    rw [← zz_iter_exec, k] at h1
    exact h1
  · rw [← zz_iter_exec, k]
    exact hf
/-- a stretch to the end -/
theorem zz_end (n : Nat) {fr : zz_F} {h : zz_H} {r : zz_R} (k : ∀ rec, zz_iter zz_P zz_S rec n fr h = some r) : zz_D fr h = some r :=
  zz_D_iff.mpr ⟨0 + n, by rw [← zz_iter_exec, k]⟩
/-- a stretch to a call, and behind it -/
theorem zz_into (n : Nat) {fr fc : zz_F} {h hc : zz_H} {rc : zz_R} {m : zz_M} {d pc np : Nat} {L : List (Option Value)} {st : List Value} (k : ∀ rec, zz_iter zz_P zz_S rec n fr h = zz_after rec m d pc np L st (rec fc hc)) (hcall : zz_D fc hc = some rc) {o : Option zz_R} (hgo : zz_after zz_D m d pc np L st (some rc) = o) : zz_D fr h = o := by
  obtain ⟨g, hg⟩ := zz_D_iff.mp hcall
  have key : ∀ r, zz_Ev fr h r ↔ zz_after zz_D m d pc np L st (some rc) = some r := by
    intro r
    refine ⟨fun ⟨f, hf⟩ => ?_, fun hx => ?_⟩
    · have h1 := zz_exec_add zz_P zz_S f (g + n) fr h r hf
      rw [← Nat.add_assoc, ← zz_iter_exec, k, Nat.add_comm f g, zz_exec_add zz_P zz_S g f fc hc rc hg] at h1
      exact zz_after_sub (fun fr h x hx => zz_D_iff.mpr ⟨_, hx⟩) _ _ _ _ _ _ _ _ (fun y hy => hy) _ h1
    · have hy : ∃ f, zz_after (zz_exec zz_P zz_S f) m d pc np L st (some rc) = some r := by
        obtain ⟨y, h1⟩ := rc
        cases y with
        | inl v =>
          cases v with
          | none => exact zz_D_iff.mp hx
          | some v => exact zz_D_iff.mp hx
        | inr j =>
          show ∃ f, zz_thrown (zz_exec zz_P zz_S f) m d pc L j h1 = some r
          have hx : zz_thrown zz_D m d pc L j h1 = some r := hx
          unfold zz_thrown at hx ⊢
          split at hx
          · exact ⟨0, hx⟩
          · split at hx
            · split at hx
              · exact zz_D_iff.mp hx
              · exact nomatch hx
            · split at hx
              · exact zz_D_iff.mp hx
              · exact nomatch hx
            · exact nomatch hx
      obtain ⟨f, hf⟩ := hy
      refine ⟨(g + f) + n, ?_⟩
      rw [← zz_iter_exec, k, zz_exec_add zz_P zz_S g f fc hc rc hg]
      refine zz_after_sub (fun fr h x hx => ?_) _ _ _ _ _ _ _ _ (fun y hy => hy) _ hf
      rw [Nat.add_comm]
      exact zz_exec_add zz_P zz_S f g fr h x hx
  subst hgo
  cases e : zz_after zz_D m d pc np L st (some rc) with
  | some r => exact zz_D_iff.mpr ((key r).mpr e)
  | none =>
    cases e2 : zz_D fr h with
    | none => rfl
    | some r =>
      have := (key r).mp (zz_D_iff.mp e2)
      rw [e] at this
      exact nomatch this
/-- a stretch to a constructor's call, and behind it -/
theorem zz_intoI (n : Nat) {fr fc fr' : zz_F} {h hc h1 : zz_H} (k : ∀ rec, zz_iter zz_P zz_S rec n fr h = (match rec fc hc with
  | some (.inl none, h1) => rec fr' h1
  | _ => none)) (hcall : zz_D fc hc = some (.inl none, h1)) : zz_D fr h = zz_D fr' h1 := by
  obtain ⟨g, hg⟩ := zz_D_iff.mp hcall
  refine zz_D_ext fun r => ⟨fun ⟨f, hf⟩ => ⟨g + f, ?_⟩, fun ⟨f, hf⟩ => ⟨(g + f) + n, ?_⟩⟩
  · have h2 := zz_exec_add zz_P zz_S f (g + n) fr h r hf
    rw [← Nat.add_assoc, ← zz_iter_exec, k, Nat.add_comm f g, zz_exec_add zz_P zz_S g f fc hc _ hg] at h2
    exact h2
  · rw [← zz_iter_exec, k, zz_exec_add zz_P zz_S g f fc hc _ hg]
    rw [Nat.add_comm]
    exact zz_exec_add zz_P zz_S f g fr' h1 r hf
