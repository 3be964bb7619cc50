/-! more rows for the lifting -/
theorem zz_jn {X Y z : Option zz_R} (h1 : X = z → Y = z) (h2 : X = z) : Y = z := h1 h2
theorem zz_bc (c : Bool) : c = true ∨ c = false := by cases c <;> simp
theorem zz_ec {c : Bool} {A B z : Option zz_R} (h1 : c = true → A = z) (h2 : c = false → B = z) : (bif c then A else B) = z := by
  cases c
  · exact h2 rfl
  · exact h1 rfl
theorem zf_whY {α : Type} {X : Nat → α → Option zz_R} {Y : α → Option zz_R} {z : Option zz_R} {g : Nat → α → Bool × α} {k : Nat → α → Prop} (hs : ∀ i a, k i a → ((g i a).1 = true → X (i + 1) (g i a).2 = z) → ((g i a).1 = false → Y (g i a).2 = z) → X i a = z) (n i : Nat) (a : α) (hk : zf_wk n g k i a) (hY : Y (zf_wh n g i a) = z) : X i a = z :=
  zf_whD (E := fun a => Y a = z) hs n i a hk hY
theorem zb_t : zb true = 1 := rfl
theorem zb_f : zb false = 0 := rfl
/-- a memory named once -/
def zy_l (M : zMem) (f : zMem → zMem) : zMem := f M
