/-! THE HEAP behind the constructors: types and references never change. -/
def zt_Tl : List (Nat × Nat) := [(5, 0), (4, 0), (100, 400), (3, 0), (100, 8), (100, 8), (100, 8), (100, 6), (100, 6), (100, 6), (100, 6), (100, 6), (100, 6), (100, 60), (3, 0), (100, 8), (100, 8), (100, 8), (100, 6), (100, 6), (100, 6), (100, 6), (100, 6), (100, 6), (100, 60), (3, 0), (100, 8), (100, 8), (100, 8), (100, 6), (100, 6), (100, 6), (100, 6), (100, 6), (100, 6), (100, 60), (0, 0), (100, 12), (100, 12), (100, 12), (100, 400), (100, 10), (100, 24), (0, 0), (100, 12), (100, 12), (100, 12), (100, 400), (100, 10), (100, 24), (0, 0), (100, 12), (100, 12), (100, 12), (100, 400), (100, 10), (100, 24), (1, 0), (103, 12), (3, 0), (100, 8), (100, 8), (100, 8), (100, 6), (100, 6), (100, 6), (100, 6), (100, 6), (100, 6), (100, 60), (3, 0), (100, 8), (100, 8), (100, 8), (100, 6), (100, 6), (100, 6), (100, 6), (100, 6), (100, 6), (100, 60), (3, 0), (100, 8), (100, 8), (100, 8), (100, 6), (100, 6), (100, 6), (100, 6), (100, 6), (100, 6), (100, 60), (3, 0), (100, 8), (100, 8), (100, 8), (100, 6), (100, 6), (100, 6), (100, 6), (100, 6), (100, 6), (100, 60), (3, 0), (100, 8), (100, 8), (100, 8), (100, 6), (100, 6), (100, 6), (100, 6), (100, 6), (100, 6), (100, 60), (3, 0), (100, 8), (100, 8), (100, 8), (100, 6), (100, 6), (100, 6), (100, 6), (100, 6), (100, 6), (100, 60), (3, 0), (100, 8), (100, 8), (100, 8), (100, 6), (100, 6), (100, 6), (100, 6), (100, 6), (100, 6), (100, 60), (3, 0), (100, 8), (100, 8), (100, 8), (100, 6), (100, 6), (100, 6), (100, 6), (100, 6), (100, 6), (100, 60), (3, 0), (100, 8), (100, 8), (100, 8), (100, 6), (100, 6), (100, 6), (100, 6), (100, 6), (100, 6), (100, 60), (3, 0), (100, 8), (100, 8), (100, 8), (100, 6), (100, 6), (100, 6), (100, 6), (100, 6), (100, 6), (100, 60), (3, 0), (100, 8), (100, 8), (100, 8), (100, 6), (100, 6), (100, 6), (100, 6), (100, 6), (100, 6), (100, 60), (3, 0), (100, 8), (100, 8), (100, 8), (100, 6), (100, 6), (100, 6), (100, 6), (100, 6), (100, 6), (100, 60), (2, 0), (100, 448), (6, 0), (100, 709), (100, 709), (100, 309), (100, 3708), (100, 400), (100, 8), (101, 64), (100, 448), (100, 64), (102, 1)]
def zt_T (L : Nat) : List (Nat × Nat) := (100, L) :: zt_Tl
def zt_Rl : List (List (Option Nat)) := [[], [some 2, none, some 4, some 15, some 26, some 37, some 44, some 51, none, some 58, some 192], [some 3], [], [some 5, some 6, some 7, some 8, some 9, some 10, some 11, some 12, some 13, some 14], [], [], [], [], [], [], [], [], [], [], [some 16, some 17, some 18, some 19, some 20, some 21, some 22, some 23, some 24, some 25], [], [], [], [], [], [], [], [], [], [], [some 27, some 28, some 29, some 30, some 31, some 32, some 33, some 34, some 35, some 36], [], [], [], [], [], [], [], [], [], [], [none, none, some 38, some 39, some 40, some 41, some 42, some 43], [], [], [], [], [], [], [none, none, some 45, some 46, some 47, some 48, some 49, some 50], [], [], [], [], [], [], [none, none, some 52, some 53, some 54, some 55, some 56, some 57], [], [], [], [], [], [], [some 59], [some 60, some 71, some 82, some 93, some 104, some 115, some 126, some 137, some 148, some 159, some 170, some 181], [some 61, some 62, some 63, some 64, some 65, some 66, some 67, some 68, some 69, some 70], [], [], [], [], [], [], [], [], [], [], [some 72, some 73, some 74, some 75, some 76, some 77, some 78, some 79, some 80, some 81], [], [], [], [], [], [], [], [], [], [], [some 83, some 84, some 85, some 86, some 87, some 88, some 89, some 90, some 91, some 92], [], [], [], [], [], [], [], [], [], [], [some 94, some 95, some 96, some 97, some 98, some 99, some 100, some 101, some 102, some 103], [], [], [], [], [], [], [], [], [], [], [some 105, some 106, some 107, some 108, some 109, some 110, some 111, some 112, some 113, some 114], [], [], [], [], [], [], [], [], [], [], [some 116, some 117, some 118, some 119, some 120, some 121, some 122, some 123, some 124, some 125], [], [], [], [], [], [], [], [], [], [], [some 127, some 128, some 129, some 130, some 131, some 132, some 133, some 134, some 135, some 136], [], [], [], [], [], [], [], [], [], [], [some 138, some 139, some 140, some 141, some 142, some 143, some 144, some 145, some 146, some 147], [], [], [], [], [], [], [], [], [], [], [some 149, some 150, some 151, some 152, some 153, some 154, some 155, some 156, some 157, some 158], [], [], [], [], [], [], [], [], [], [], [some 160, some 161, some 162, some 163, some 164, some 165, some 166, some 167, some 168, some 169], [], [], [], [], [], [], [], [], [], [], [some 171, some 172, some 173, some 174, some 175, some 176, some 177, some 178, some 179, some 180], [], [], [], [], [], [], [], [], [], [], [some 182, some 183, some 184, some 185, some 186, some 187, some 188, some 189, some 190, some 191], [], [], [], [], [], [], [], [], [], [], [some 193], [], [none, some 195, some 196, none, some 197, some 198, none, some 199, none, none, none, none, none, none, some 200, none, none, none, none, some 201, some 202, some 203], [], [], [], [], [], [], [], [], [], []]
def zt_R : zRef := fun a i => (zt_Rl.getD a []).getD i none
def zt_St (s : Nat) : Prop := s ∈ [4, 15, 26, 60, 71, 82, 93, 104, 115, 126, 137, 148, 159, 170, 181]
def zt_Lw (s : Nat) : Prop := s ∈ [37, 44, 51]
def zt_A6 (L q : Nat) : Prop := (zt_T L)[q]? = some (100, 6)
theorem zt_St_4 : zt_St 4 := by unfold zt_St; decide
theorem zt_St_15 : zt_St 15 := by unfold zt_St; decide
theorem zt_St_26 : zt_St 26 := by unfold zt_St; decide
theorem zt_Lw_37 : zt_Lw 37 := by unfold zt_Lw; decide
theorem zt_Lw_44 : zt_Lw 44 := by unfold zt_Lw; decide
theorem zt_Lw_51 : zt_Lw 51 := by unfold zt_Lw; decide
theorem zt_St0 (L : Nat) {s : Nat} (h : zt_St s) : (zt_T L)[s]? = some (3, 0) := by
  have h2 : ∀ s ∈ [4, 15, 26, 60, 71, 82, 93, 104, 115, 126, 137, 148, 159, 170, 181], 0 < s ∧ zt_Tl[s - 1]? = some (3, 0) := by decide
  obtain ⟨h3, h4⟩ := h2 s h
  have e : s = (s - 1) + 1 := by omega
  rw [e]
  exact h4
theorem zt_St1 (L : Nat) {s : Nat} (h : zt_St s) : (zt_T L)[s + 1]? = some (100, 8) := by
  have h2 : ∀ s ∈ [4, 15, 26, 60, 71, 82, 93, 104, 115, 126, 137, 148, 159, 170, 181], 0 < s ∧ zt_Tl[s + 1 - 1]? = some (100, 8) := by decide
  obtain ⟨h3, h4⟩ := h2 s h
  have e : s + 1 = (s + 1 - 1) + 1 := by omega
  rw [e]
  exact h4
theorem zt_St2 (L : Nat) {s : Nat} (h : zt_St s) : (zt_T L)[s + 2]? = some (100, 8) := by
  have h2 : ∀ s ∈ [4, 15, 26, 60, 71, 82, 93, 104, 115, 126, 137, 148, 159, 170, 181], 0 < s ∧ zt_Tl[s + 2 - 1]? = some (100, 8) := by decide
  obtain ⟨h3, h4⟩ := h2 s h
  have e : s + 2 = (s + 2 - 1) + 1 := by omega
  rw [e]
  exact h4
theorem zt_St3 (L : Nat) {s : Nat} (h : zt_St s) : (zt_T L)[s + 3]? = some (100, 8) := by
  have h2 : ∀ s ∈ [4, 15, 26, 60, 71, 82, 93, 104, 115, 126, 137, 148, 159, 170, 181], 0 < s ∧ zt_Tl[s + 3 - 1]? = some (100, 8) := by decide
  obtain ⟨h3, h4⟩ := h2 s h
  have e : s + 3 = (s + 3 - 1) + 1 := by omega
  rw [e]
  exact h4
theorem zt_St4 (L : Nat) {s : Nat} (h : zt_St s) : (zt_T L)[s + 4]? = some (100, 6) := by
  have h2 : ∀ s ∈ [4, 15, 26, 60, 71, 82, 93, 104, 115, 126, 137, 148, 159, 170, 181], 0 < s ∧ zt_Tl[s + 4 - 1]? = some (100, 6) := by decide
  obtain ⟨h3, h4⟩ := h2 s h
  have e : s + 4 = (s + 4 - 1) + 1 := by omega
  rw [e]
  exact h4
theorem zt_St5 (L : Nat) {s : Nat} (h : zt_St s) : (zt_T L)[s + 5]? = some (100, 6) := by
  have h2 : ∀ s ∈ [4, 15, 26, 60, 71, 82, 93, 104, 115, 126, 137, 148, 159, 170, 181], 0 < s ∧ zt_Tl[s + 5 - 1]? = some (100, 6) := by decide
  obtain ⟨h3, h4⟩ := h2 s h
  have e : s + 5 = (s + 5 - 1) + 1 := by omega
  rw [e]
  exact h4
theorem zt_St6 (L : Nat) {s : Nat} (h : zt_St s) : (zt_T L)[s + 6]? = some (100, 6) := by
  have h2 : ∀ s ∈ [4, 15, 26, 60, 71, 82, 93, 104, 115, 126, 137, 148, 159, 170, 181], 0 < s ∧ zt_Tl[s + 6 - 1]? = some (100, 6) := by decide
  obtain ⟨h3, h4⟩ := h2 s h
  have e : s + 6 = (s + 6 - 1) + 1 := by omega
  rw [e]
  exact h4
theorem zt_St7 (L : Nat) {s : Nat} (h : zt_St s) : (zt_T L)[s + 7]? = some (100, 6) := by
  have h2 : ∀ s ∈ [4, 15, 26, 60, 71, 82, 93, 104, 115, 126, 137, 148, 159, 170, 181], 0 < s ∧ zt_Tl[s + 7 - 1]? = some (100, 6) := by decide
  obtain ⟨h3, h4⟩ := h2 s h
  have e : s + 7 = (s + 7 - 1) + 1 := by omega
  rw [e]
  exact h4
theorem zt_St8 (L : Nat) {s : Nat} (h : zt_St s) : (zt_T L)[s + 8]? = some (100, 6) := by
  have h2 : ∀ s ∈ [4, 15, 26, 60, 71, 82, 93, 104, 115, 126, 137, 148, 159, 170, 181], 0 < s ∧ zt_Tl[s + 8 - 1]? = some (100, 6) := by decide
  obtain ⟨h3, h4⟩ := h2 s h
  have e : s + 8 = (s + 8 - 1) + 1 := by omega
  rw [e]
  exact h4
theorem zt_St9 (L : Nat) {s : Nat} (h : zt_St s) : (zt_T L)[s + 9]? = some (100, 6) := by
  have h2 : ∀ s ∈ [4, 15, 26, 60, 71, 82, 93, 104, 115, 126, 137, 148, 159, 170, 181], 0 < s ∧ zt_Tl[s + 9 - 1]? = some (100, 6) := by decide
  obtain ⟨h3, h4⟩ := h2 s h
  have e : s + 9 = (s + 9 - 1) + 1 := by omega
  rw [e]
  exact h4
theorem zt_St10 (L : Nat) {s : Nat} (h : zt_St s) : (zt_T L)[s + 10]? = some (100, 60) := by
  have h2 : ∀ s ∈ [4, 15, 26, 60, 71, 82, 93, 104, 115, 126, 137, 148, 159, 170, 181], 0 < s ∧ zt_Tl[s + 10 - 1]? = some (100, 60) := by decide
  obtain ⟨h3, h4⟩ := h2 s h
  have e : s + 10 = (s + 10 - 1) + 1 := by omega
  rw [e]
  exact h4
theorem zt_Lw0 (L : Nat) {s : Nat} (h : zt_Lw s) : (zt_T L)[s]? = some (0, 0) := by
  have h2 : ∀ s ∈ [37, 44, 51], 0 < s ∧ zt_Tl[s - 1]? = some (0, 0) := by decide
  obtain ⟨h3, h4⟩ := h2 s h
  have e : s = (s - 1) + 1 := by omega
  rw [e]
  exact h4
theorem zt_Lw1 (L : Nat) {s : Nat} (h : zt_Lw s) : (zt_T L)[s + 1]? = some (100, 12) := by
  have h2 : ∀ s ∈ [37, 44, 51], 0 < s ∧ zt_Tl[s + 1 - 1]? = some (100, 12) := by decide
  obtain ⟨h3, h4⟩ := h2 s h
  have e : s + 1 = (s + 1 - 1) + 1 := by omega
  rw [e]
  exact h4
theorem zt_Lw2 (L : Nat) {s : Nat} (h : zt_Lw s) : (zt_T L)[s + 2]? = some (100, 12) := by
  have h2 : ∀ s ∈ [37, 44, 51], 0 < s ∧ zt_Tl[s + 2 - 1]? = some (100, 12) := by decide
  obtain ⟨h3, h4⟩ := h2 s h
  have e : s + 2 = (s + 2 - 1) + 1 := by omega
  rw [e]
  exact h4
theorem zt_Lw3 (L : Nat) {s : Nat} (h : zt_Lw s) : (zt_T L)[s + 3]? = some (100, 12) := by
  have h2 : ∀ s ∈ [37, 44, 51], 0 < s ∧ zt_Tl[s + 3 - 1]? = some (100, 12) := by decide
  obtain ⟨h3, h4⟩ := h2 s h
  have e : s + 3 = (s + 3 - 1) + 1 := by omega
  rw [e]
  exact h4
theorem zt_Lw4 (L : Nat) {s : Nat} (h : zt_Lw s) : (zt_T L)[s + 4]? = some (100, 400) := by
  have h2 : ∀ s ∈ [37, 44, 51], 0 < s ∧ zt_Tl[s + 4 - 1]? = some (100, 400) := by decide
  obtain ⟨h3, h4⟩ := h2 s h
  have e : s + 4 = (s + 4 - 1) + 1 := by omega
  rw [e]
  exact h4
theorem zt_Lw5 (L : Nat) {s : Nat} (h : zt_Lw s) : (zt_T L)[s + 5]? = some (100, 10) := by
  have h2 : ∀ s ∈ [37, 44, 51], 0 < s ∧ zt_Tl[s + 5 - 1]? = some (100, 10) := by decide
  obtain ⟨h3, h4⟩ := h2 s h
  have e : s + 5 = (s + 5 - 1) + 1 := by omega
  rw [e]
  exact h4
theorem zt_Lw6 (L : Nat) {s : Nat} (h : zt_Lw s) : (zt_T L)[s + 6]? = some (100, 24) := by
  have h2 : ∀ s ∈ [37, 44, 51], 0 < s ∧ zt_Tl[s + 6 - 1]? = some (100, 24) := by decide
  obtain ⟨h3, h4⟩ := h2 s h
  have e : s + 6 = (s + 6 - 1) + 1 := by omega
  rw [e]
  exact h4
theorem zt_StR0 {s : Nat} (h : zt_St s) : zt_R s 0 = some (s + 1) := by
  have : ∀ s ∈ [4, 15, 26, 60, 71, 82, 93, 104, 115, 126, 137, 148, 159, 170, 181], zt_R s 0 = some (s + 1) := by decide
  exact this s h
theorem zt_StR1 {s : Nat} (h : zt_St s) : zt_R s 1 = some (s + 2) := by
  have : ∀ s ∈ [4, 15, 26, 60, 71, 82, 93, 104, 115, 126, 137, 148, 159, 170, 181], zt_R s 1 = some (s + 2) := by decide
  exact this s h
theorem zt_StR2 {s : Nat} (h : zt_St s) : zt_R s 2 = some (s + 3) := by
  have : ∀ s ∈ [4, 15, 26, 60, 71, 82, 93, 104, 115, 126, 137, 148, 159, 170, 181], zt_R s 2 = some (s + 3) := by decide
  exact this s h
theorem zt_StR3 {s : Nat} (h : zt_St s) : zt_R s 3 = some (s + 4) := by
  have : ∀ s ∈ [4, 15, 26, 60, 71, 82, 93, 104, 115, 126, 137, 148, 159, 170, 181], zt_R s 3 = some (s + 4) := by decide
  exact this s h
theorem zt_StR4 {s : Nat} (h : zt_St s) : zt_R s 4 = some (s + 5) := by
  have : ∀ s ∈ [4, 15, 26, 60, 71, 82, 93, 104, 115, 126, 137, 148, 159, 170, 181], zt_R s 4 = some (s + 5) := by decide
  exact this s h
theorem zt_StR5 {s : Nat} (h : zt_St s) : zt_R s 5 = some (s + 6) := by
  have : ∀ s ∈ [4, 15, 26, 60, 71, 82, 93, 104, 115, 126, 137, 148, 159, 170, 181], zt_R s 5 = some (s + 6) := by decide
  exact this s h
theorem zt_StR6 {s : Nat} (h : zt_St s) : zt_R s 6 = some (s + 7) := by
  have : ∀ s ∈ [4, 15, 26, 60, 71, 82, 93, 104, 115, 126, 137, 148, 159, 170, 181], zt_R s 6 = some (s + 7) := by decide
  exact this s h
theorem zt_StR7 {s : Nat} (h : zt_St s) : zt_R s 7 = some (s + 8) := by
  have : ∀ s ∈ [4, 15, 26, 60, 71, 82, 93, 104, 115, 126, 137, 148, 159, 170, 181], zt_R s 7 = some (s + 8) := by decide
  exact this s h
theorem zt_StR8 {s : Nat} (h : zt_St s) : zt_R s 8 = some (s + 9) := by
  have : ∀ s ∈ [4, 15, 26, 60, 71, 82, 93, 104, 115, 126, 137, 148, 159, 170, 181], zt_R s 8 = some (s + 9) := by decide
  exact this s h
theorem zt_StR9 {s : Nat} (h : zt_St s) : zt_R s 9 = some (s + 10) := by
  have : ∀ s ∈ [4, 15, 26, 60, 71, 82, 93, 104, 115, 126, 137, 148, 159, 170, 181], zt_R s 9 = some (s + 10) := by decide
  exact this s h
theorem zt_LwR2 {s : Nat} (h : zt_Lw s) : zt_R s 2 = some (s + 1) := by
  have : ∀ s ∈ [37, 44, 51], zt_R s 2 = some (s + 1) := by decide
  exact this s h
theorem zt_LwR3 {s : Nat} (h : zt_Lw s) : zt_R s 3 = some (s + 2) := by
  have : ∀ s ∈ [37, 44, 51], zt_R s 3 = some (s + 2) := by decide
  exact this s h
theorem zt_LwR4 {s : Nat} (h : zt_Lw s) : zt_R s 4 = some (s + 3) := by
  have : ∀ s ∈ [37, 44, 51], zt_R s 4 = some (s + 3) := by decide
  exact this s h
theorem zt_LwR5 {s : Nat} (h : zt_Lw s) : zt_R s 5 = some (s + 4) := by
  have : ∀ s ∈ [37, 44, 51], zt_R s 5 = some (s + 4) := by decide
  exact this s h
theorem zt_LwR6 {s : Nat} (h : zt_Lw s) : zt_R s 6 = some (s + 5) := by
  have : ∀ s ∈ [37, 44, 51], zt_R s 6 = some (s + 5) := by decide
  exact this s h
theorem zt_LwR7 {s : Nat} (h : zt_Lw s) : zt_R s 7 = some (s + 6) := by
  have : ∀ s ∈ [37, 44, 51], zt_R s 7 = some (s + 6) := by decide
  exact this s h
theorem zt_Stp {s : Nat} (h : zt_St s) (k : Nat) : Nat.blt 0 (s + k) = true := by
  have : ∀ s ∈ [4, 15, 26, 60, 71, 82, 93, 104, 115, 126, 137, 148, 159, 170, 181], 0 < s := by decide
  have := this s h
  exact Nat.blt_eq.mpr (by omega)
theorem zt_Lwp {s : Nat} (h : zt_Lw s) (k : Nat) : Nat.blt 0 (s + k) = true := by
  have : ∀ s ∈ [37, 44, 51], 0 < s := by decide
  have := this s h
  exact Nat.blt_eq.mpr (by omega)
theorem zt_inlt {j : Int32} {n : Nat} (h : zz_in j n = true) : j.toNatClampNeg < n := by
  unfold zz_in at h
  rw [Bool.and_eq_true] at h
  exact of_decide_eq_true h.2
theorem zt_Pst {j : Int32} (h : zz_in j 12 = true) : zt_St (60 + 11 * j.toNatClampNeg) := by
  have h1 := zt_inlt h
  have : ∀ n, n < 12 → 60 + 11 * n ∈ [4, 15, 26, 60, 71, 82, 93, 104, 115, 126, 137, 148, 159, 170, 181] := by decide
  exact this _ h1
theorem zt_PR {j : Int32} (h : zz_in j 12 = true) : zt_R 59 j.toNatClampNeg = some (60 + 11 * j.toNatClampNeg) := by
  have h1 := zt_inlt h
  have : ∀ n, n < 12 → zt_R 59 n = some (60 + 11 * n) := by decide
  exact this _ h1
