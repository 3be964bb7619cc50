/-! THE ROWS of what makes cells, and System.arraycopy. -/
section ZB2
variable {p : Program} {l : Launch} {e : Env} {R : Room} {s : State} {m : MethodId} {args : Array Value} {below : List Frame} {meth : Method} {c : Code} {H : Heap} {locs : List Loc} {cells slots : Nat} {Q : State → Prop}
variable {cc : ByteArray} {pc : Nat} {ls : Array Slot} {rest : List Value} {D : va_G} {cI cZ cL cS : ClassId} {b base : Nat} {sa : Nat → Nat} {L0 : Nat} {xs0 : Nat → Int32} {h : zz_H} {own : String}
theorem zz_new_ra (hR : zz_HR D cI cZ cL cS b base sa L0 xs0 h H) (hf : h.2.2.2.2 = 0) : zz_ra b base sa h.1.length = H.size ∧ 0 < h.1.length := by
  obtain ⟨k1, k2, k3, k4, k5, k6⟩ := hR
  have hpos : 0 < h.1.length := (List.getElem?_eq_some_iff.mp k1).1
  have := k5 hf
  exact ⟨by rw [zz_ra_at hpos k3]; omega, hpos⟩
theorem zz_S_push {H1 : Heap} (hS0 : va_S (fun z => base ≤ z) s.heap H locs) (z1 : H1.size = H.size + 1) (o1 : ∀ z, z < H.size → H1[z]? = H[z]?) : va_S (fun z => base ≤ z) s.heap H1 locs :=
  ⟨Nat.le_trans hS0.1 (by omega), fun x h1 h2 => (o1 x (Nat.lt_of_lt_of_le h1 hS0.1)).trans (hS0.2.1 x h1 h2), hS0.2.2⟩
theorem zr_new (hexec : p.tables.exec = Jvm.exec) (hb : c.code = cc) (hown : s.vm.findClass own = some m.cls) (hts : ∀ w ∈ zz_ws, w.before args s = true) (hG : zz_G D cI cZ cL cS b base sa L0 xs0 s) (hR : zz_HR D cI cZ cL cS b base sa L0 xs0 h H) (hS0 : va_S (fun z => base ≤ z) s.heap H locs) {a ix : Nat} (hf : h.2.2.2.2 = 0) (hlen : h.1.length < 900000) (ha : a < 7)
    (hlink : Cond.classLink own ix (zz_cn a) ∈ zz_ws) (hcells : cells + 1 ≤ R.cells) (hslots : slots + zz_nf a ≤ R.slots) (hdg : decode cc pc = .ok (.new ix, 3))
    (kk : ∀ H1 : Heap, zz_HR D cI cZ cL cS b base sa L0 xs0 (h.1 ++ [(a, 0)], zz_row h.2.1 h.1.length (fun _ => none), zz_row h.2.2.1 h.1.length (fun _ => 0), h.2.2.2) H1 → va_S (fun z => base ≤ z) s.heap H1 locs → W p l e R s m args below meth c H1 locs (cells + 1) (slots + zz_nf a) Q (F0 m (pc + 3) ls (.ref (zz_ra b base sa h.1.length) :: rest))) : W p l e R s m args below meth c H locs cells slots Q (F0 m pc ls rest) := by
  obtain ⟨C, T, N, ty, g1, g2, g3, g4, g5, g6, g7, g8, g9, g10⟩ := zz_cls a ha
  have hKn := hG.1.1 a _ g1
  obtain ⟨e0, hpos⟩ := zz_new_ra hR hf
  have hlink' := hts _ hlink
  rw [g3] at hlink'
  rw [g2] at hslots kk
  refine W.newcK hexec hb hown hlink' (hts _ g8) (hts _ g9) rfl hdg hcells hslots hKn.2.1 rfl fun H1 kC hkC e1 z1 o1 => ?_
  rw [← e0]
  refine kk H1 (hR.push hf hlen z1 o1 rfl (fun a i ha => (zz_row_ne ha : zz_row h.2.1 h.1.length (fun _ => none) a i = h.2.1 a i)) (fun a i ha => (zz_row_ne ha : zz_row h.2.2.1 h.1.length (fun _ => 0) a i = h.2.2.1 a i)) (fun _ _ _ => rfl) hf (Or.inr (Or.inr (Or.inr (Or.inr ⟨ha, ?_⟩))))) (zz_S_push hS0 z1 o1)
  rw [e0]
  show t_OB H.size (D.1 a) (zz_nf a) (D.2 a) H1 _
  rw [g2]
  refine (u_born ty hts g7 hKn hkC e1 g5).to (fun k hk => ?_)
  have hd := (zz_ty ha (by rw [g2]; exact hk) (by rw [g4 k]; exact g5 k hk)).1
  rw [hd]
  unfold zz_fv
  show _ = bif Nat.beq (zz_kd a k) 1 then va_rf ((zz_row h.2.1 h.1.length (fun _ => none) h.1.length k).map _) else .int (zz_row h.2.2.1 h.1.length (fun _ => 0) h.1.length k)
  rw [zz_row_at, zz_row_at]
  cases Nat.beq (zz_kd a k) 1 <;> rfl
theorem zr_newa (hexec : p.tables.exec = Jvm.exec) (hb : c.code = cc) (hts : ∀ w ∈ zz_ws, w.before args s = true) (hG : zz_G D cI cZ cL cS b base sa L0 xs0 s) (hR : zz_HR D cI cZ cL cS b base sa L0 xs0 h H) (hS0 : va_S (fun z => base ≤ z) s.heap H locs) {a : Nat} {n : Int32} {at' : ArrayType} (hf : h.2.2.2.2 = 0) (hlen : h.1.length < 900000)
    (ha : (at' = .int ∧ a = 100) ∨ (at' = .boolean ∧ a = 101) ∨ (at' = .long ∧ a = 102)) (hn : ¬ n < 0) (hn2 : n.toNatClampNeg < 100000) (hcells : cells + 1 ≤ R.cells) (hslots : slots + n.toNatClampNeg ≤ R.slots) (hdg : decode cc pc = .ok (.newarray at', 2))
    (kk : ∀ H1 : Heap, zz_HR D cI cZ cL cS b base sa L0 xs0 (h.1 ++ [(a, n.toNatClampNeg)], h.2.1, zz_row h.2.2.1 h.1.length (fun _ => 0), zz_row h.2.2.2.1 h.1.length (fun _ => 0), h.2.2.2.2) H1 → va_S (fun z => base ≤ z) s.heap H1 locs → W p l e R s m args below meth c H1 locs (cells + 1) (slots + n.toNatClampNeg) Q (F0 m (pc + 2) ls (.ref (zz_ra b base sa h.1.length) :: rest))) : W p l e R s m args below meth c H locs cells slots Q (F0 m pc ls (.int n :: rest)) := by
  obtain ⟨e0, hpos⟩ := zz_new_ra hR hf
  have w1 : Cond.arrayClass .int ∈ zz_ws := by decide +kernel
  have w2 : Cond.arrayClass .boolean ∈ zz_ws := by decide +kernel
  have w3 : Cond.arrayClass .long ∈ zz_ws := by decide +kernel
  rcases ha with ⟨rfl, rfl⟩ | ⟨rfl, rfl⟩ | ⟨rfl, rfl⟩
  · refine va_newaK (atype := .int) hexec hb (hts _ w1) rfl hdg rfl hn rfl (by show _ * 4 ≤ _; omega) hcells hslots rfl fun H1 cA e1 z1 o1 hAr hNm => ?_
    have hcA : cA = cI := Option.some.inj (hNm.symm.trans (hG.1.2 0 _ rfl).2)
    subst hcA
    rw [← e0]
    refine kk H1 (hR.push hf hlen z1 o1 rfl (fun _ _ _ => rfl) (fun a i ha => (zz_row_ne ha : zz_row h.2.2.1 h.1.length (fun _ => 0) a i = h.2.2.1 a i)) (fun a i ha => (zz_row_ne ha : zz_row h.2.2.2.1 h.1.length (fun _ => 0) a i = h.2.2.2.1 a i)) hf (Or.inl ⟨rfl, ?_⟩)) (zz_S_push hS0 z1 o1)
    rw [e0, e1]
    show _ = some (arrV cA _ fun j => Value.int (zz_row h.2.2.1 h.1.length (fun _ => 0) h.1.length j))
    rw [zz_row_at]
    rfl
  · refine va_newaK (atype := .boolean) hexec hb (hts _ w2) rfl hdg rfl hn rfl (by show _ * 1 ≤ _; omega) hcells hslots rfl fun H1 cA e1 z1 o1 hAr hNm => ?_
    have hcA : cA = cZ := Option.some.inj (hNm.symm.trans (hG.1.2 1 _ rfl).2)
    subst hcA
    rw [← e0]
    refine kk H1 (hR.push hf hlen z1 o1 rfl (fun _ _ _ => rfl) (fun a i ha => (zz_row_ne ha : zz_row h.2.2.1 h.1.length (fun _ => 0) a i = h.2.2.1 a i)) (fun a i ha => (zz_row_ne ha : zz_row h.2.2.2.1 h.1.length (fun _ => 0) a i = h.2.2.2.1 a i)) hf (Or.inr (Or.inl ⟨rfl, ?_⟩))) (zz_S_push hS0 z1 o1)
    rw [e0, e1]
    show _ = some (arrV cA _ fun j => Value.int (zz_row h.2.2.1 h.1.length (fun _ => 0) h.1.length j))
    rw [zz_row_at]
    rfl
  · refine va_newaK (atype := .long) hexec hb (hts _ w3) rfl hdg rfl hn rfl (by show _ * 8 ≤ _; omega) hcells hslots rfl fun H1 cA e1 z1 o1 hAr hNm => ?_
    have hcA : cA = cL := Option.some.inj (hNm.symm.trans (hG.1.2 2 _ rfl).2)
    subst hcA
    rw [← e0]
    refine kk H1 (hR.push hf hlen z1 o1 rfl (fun _ _ _ => rfl) (fun a i ha => (zz_row_ne ha : zz_row h.2.2.1 h.1.length (fun _ => 0) a i = h.2.2.1 a i)) (fun a i ha => (zz_row_ne ha : zz_row h.2.2.2.1 h.1.length (fun _ => 0) a i = h.2.2.2.1 a i)) hf (Or.inr (Or.inr (Or.inl ⟨rfl, ?_⟩)))) (zz_S_push hS0 z1 o1)
    rw [e0, e1]
    show _ = some (arrV cA _ fun j => Value.long (zz_row h.2.2.2.1 h.1.length (fun _ => 0) h.1.length j))
    rw [zz_row_at]
    rfl
theorem zr_anew (hexec : p.tables.exec = Jvm.exec) (hb : c.code = cc) (hown : s.vm.findClass own = some m.cls) (hts : ∀ w ∈ zz_ws, w.before args s = true) (hG : zz_G D cI cZ cL cS b base sa L0 xs0 s) (hR : zz_HR D cI cZ cL cS b base sa L0 xs0 h H) (hS0 : va_S (fun z => base ≤ z) s.heap H locs) {ix : Nat} {n : Int32} (hf : h.2.2.2.2 = 0) (hlen : h.1.length < 900000)
    (hlink : Cond.classLink own ix (zz_cn 3) ∈ zz_ws) (hn : ¬ n < 0) (hn2 : n.toNatClampNeg < 100000) (hcells : cells + 1 ≤ R.cells) (hslots : slots + n.toNatClampNeg ≤ R.slots) (hdg : decode cc pc = .ok (.anewarray ix, 3))
    (kk : ∀ H1 : Heap, zz_HR D cI cZ cL cS b base sa L0 xs0 (h.1 ++ [(103, n.toNatClampNeg)], zz_row h.2.1 h.1.length (fun _ => none), h.2.2) H1 → va_S (fun z => base ≤ z) s.heap H1 locs → W p l e R s m args below meth c H1 locs (cells + 1) (slots + n.toNatClampNeg) Q (F0 m (pc + 3) ls (.ref (zz_ra b base sa h.1.length) :: rest))) : W p l e R s m args below meth c H locs cells slots Q (F0 m pc ls (.int n :: rest)) := by
  obtain ⟨e0, hpos⟩ := zz_new_ra hR hf
  refine W.anew hexec hb (C := RX8) hown (hts _ hlink) (va_AO.use hG.2.2.2.2.2.2.2.2.2) rfl hdg rfl hn (by omega) hcells hslots fun cA kA comp h1 h2 h3 h4 => ?_
  obtain ⟨kA', comp', w1, w2, w3, w4⟩ := (hG.1.2 3 _ rfl).2
  have hcA : cA = cS := Option.some.inj (h1.symm.trans w4)
  subst hcA
  have z1 : (H.push ({ cls := cA, slots := Array.replicate n.toNatClampNeg .null, vm := .none } : Cell)).size = H.size + 1 := by simp
  have o1 : ∀ z, z < H.size → (H.push ({ cls := cA, slots := Array.replicate n.toNatClampNeg .null, vm := .none } : Cell))[z]? = H[z]? := fun z hz => by rw [Array.getElem?_push, if_neg (Nat.ne_of_lt hz)]
  rw [← e0]
  refine kk _ (hR.push hf hlen z1 o1 rfl (fun a i ha => (zz_row_ne ha : zz_row h.2.1 h.1.length (fun _ => none) a i = h.2.1 a i)) (fun _ _ _ => rfl) (fun _ _ _ => rfl) hf (Or.inr (Or.inr (Or.inr (Or.inl ⟨rfl, ?_⟩))))) (zz_S_push hS0 z1 o1)
  rw [e0]
  show _ = some (arrV cA _ fun j => va_rf ((zz_row h.2.1 h.1.length (fun _ => none) h.1.length j).map _))
  rw [zz_row_at]
  rw [arrV_new, Array.getElem?_push, if_pos rfl]
  rfl
theorem zr_copy (hexec : p.tables.exec = Jvm.exec) (hb : c.code = cc) (hml : c.maxLocals = ls.size) (hown : s.vm.findClass own = some m.cls) (hts : ∀ w ∈ zz_ws, w.before args s = true) (hG : zz_G D cI cZ cL cS b base sa L0 xs0 s) (hR : zz_HR D cI cZ cL cS b base sa L0 xs0 h H) (hS0 : va_S (fun z => base ≤ z) s.heap H locs) {q0 q1 n ix : Nat} (h0 : h.1[q0]? = some (100, n)) (h1 : h.1[q1]? = some (100, n)) (p0 : 0 < q0) (p1 : 0 < q1) (hn : n < 100000)
    (hlink : Cond.methodLink own ix arraycopyName ∈ zz_ws) (hframes : 1 ≤ R.frames) (hlocals : (rest.map fun v => v.category).sum + (nativeFrameWords "java/lang/System" "arraycopy" 5 + 11) ≤ R.locals) (hdg : decode cc pc = .ok (.invokestatic ix, 3))
    (kk : ∀ (H1 : Heap) (locs1 : List Loc), zz_HR D cI cZ cL cS b base sa L0 xs0 (h.1, h.2.1, zz_row h.2.2.1 q1 (h.2.2.1 q0), h.2.2.2) H1 → va_S (fun z => base ≤ z) s.heap H1 locs1 → W p l e R s m args below meth c H1 locs1 cells slots Q (F0 m (pc + 3) ls rest)) :
    W p l e R s m args below meth c H locs cells slots Q (F0 m pc ls (.int (Int32.ofNat n) :: .int 0 :: .ref (zz_ra b base sa q1) :: .int 0 :: .ref (zz_ra b base sa q0) :: rest)) := by
  have w1 : Cond.native arraycopyName ∈ zz_ws := by decide +kernel
  have w2 : Cond.static arraycopyName ∈ zz_ws := by decide +kernel
  have w3 : Cond.initialized "java/lang/System" ∈ zz_ws := by decide +kernel
  have one : ∀ q : Nat, h.1[q]? = some (100, n) → 0 < q → H[zz_ra b base sa q]? = some (arrV cI n fun j => .int (h.2.2.1 q j)) := by
    intro q hq hp
    obtain ⟨-, -, k⟩ := zz_arr hR hq hp (by simp)
    rcases k with k | k | k | k
    · exact k.2
    · exact absurd k.1 (by simp)
    · exact absurd k.1 (by simp)
    · exact absurd k.1 (by simp)
  have hc0 := one q0 h0 p0
  have hc1 := one q1 h1 p1
  obtain ⟨-, hA, -⟩ := zz_arr hR h1 p1 (by simp)
  have en : (Int32.ofNat n).toNatClampNeg = n := nI_clamp (by omega)
  have ez : ((0 : Int32)).toNatClampNeg = 0 := by decide
  have hn0 : ¬ Int32.ofNat n < 0 := nI_pos (by omega)
  have et : (Int32.ofNat n).toInt = (n : Int) := nI_toInt (by omega)
  have ez2 : ((0 : Int32)).toInt = 0 := by decide
  intro T hT X
  obtain ⟨-, k0, hk0, cm0, hkk0⟩ := (hG.1.2 0 _ rfl).1 n (fun j => .int (h.2.2.1 q0 j))
  obtain ⟨vm', X', step⟩ := X.arraycopy hexec hown (hts _ hlink) (hts _ w1) (hts _ w2) (hts _ w3) (src := zz_ra b base sa q0) (dst := zz_ra b base sa q1) (cs := arrV cI n fun j => .int (h.2.2.1 q0 j)) (cd := arrV cI n fun j => .int (h.2.2.1 q1 j)) (srcPos := 0) (destPos := 0) (n := Int32.ofNat n) (by rw [hT]; exact hc0) (by rw [hT]; exact hc1)
    (fun _ h => by cases h) (fun _ h => by cases h) (fun h => by cases h) (fun h => by cases h) hk0 hk0 hkk0 hkk0 (by simp [refKind]) (by decide) (by decide) hn0
    (by rw [et, ez2, arrV_size]; omega) (by rw [et, ez2, arrV_size]; omega)
    (fun vm₁ _ i hi => by
      rw [en] at hi
      have e9 : (arrV cI n fun j => Value.int (h.2.2.1 q0 j)).slots.getD (((0 : Int32)).toNatClampNeg + i) .null = .int (h.2.2.1 q0 i) := by
        rw [ez, Nat.zero_add, Array.getD_eq_getD_getElem?, arrV_read _ _ hi]
        rfl
      rw [e9]
      exact ⟨rfl, trivial⟩)
    (g := F0 m pc ls (.int (Int32.ofNat n) :: .int 0 :: .ref (zz_ra b base sa q1) :: .int 0 :: .ref (zz_ra b base sa q0) :: rest)) rfl (by rw [hml]) (rest := rest) rfl (by rw [hb]; exact hdg) hframes (by show 2 * 0 + _ + _ ≤ _; omega)
  have e1 : copied (arrV cI n fun j => Value.int (h.2.2.1 q0 j)) (arrV cI n fun j => Value.int (h.2.2.1 q1 j)) 0 0 (Int32.ofNat n) = arrV cI n fun j => .int (h.2.2.1 q0 j) := by
    have := va_copied (fun z => Value.int z) cI cI (n0 := n) (n1 := n) (sp := 0) (dp := 0) (n := n) (h.2.2.1 q0) (h.2.2.1 q1) (by omega)
    have e2 : copied (arrV cI n fun j => Value.int (h.2.2.1 q0 j)) (arrV cI n fun j => Value.int (h.2.2.1 q1 j)) 0 0 (Int32.ofNat n) = (arrV cI n fun j => Value.int (h.2.2.1 q1 j)).storeRun 0 ((arrV cI n fun j => Value.int (h.2.2.1 q0 j)).stretch 0 n) := by
      unfold copied
      rw [en, ez]
    rw [e2, this]
    unfold arrV
    congr 2
    funext j
    unfold va_cpy
    show Value.int (if (0 : Nat) ≤ j.val ∧ j.val < 0 + n then h.2.2.1 q0 (0 + (j.val - 0)) else h.2.2.1 q1 j.val) = Value.int (h.2.2.1 q0 j.val)
    rw [if_pos ⟨Nat.zero_le _, by rw [Nat.zero_add]; exact j.isLt⟩]
    simp
  rw [e1] at X' step
  have hl1 : zz_ra b base sa q1 < H.size := (Array.getElem?_eq_some_iff.mp hc1).1
  have z2 : (H.setIfInBounds (zz_ra b base sa q1) (arrV cI n fun j => .int (h.2.2.1 q0 j))).size = H.size := by simp
  have oq : ∀ z : Nat, z ≠ zz_ra b base sa q1 → (H.setIfInBounds (zz_ra b base sa q1) (arrV cI n fun j => .int (h.2.2.1 q0 j)))[z]? = H[z]? := fun z hz => by simp [Array.getElem?_setIfInBounds, Ne.symm hz]
  obtain ⟨t, a1, b1⟩ := kk (H.setIfInBounds (zz_ra b base sa q1) (arrV cI n fun j => .int (h.2.2.1 q0 j))) _ (hR.upd p1 h1 z2 oq rfl (fun _ _ _ => rfl) (fun a i ha => (zz_row_ne ha : zz_row h.2.2.1 q1 (h.2.2.1 q0) a i = h.2.2.1 a i)) (fun _ _ _ => rfl) rfl (Or.inl ⟨rfl, by
      show _ = some (arrV cI n fun j => Value.int (zz_row h.2.2.1 q1 (h.2.2.1 q0) q1 j))
      rw [zz_row_at]
      simp [Array.getElem?_setIfInBounds, hl1]⟩)) ⟨by rw [z2]; exact hS0.1, fun q g1 g2 => by
      rw [oq q (fun e => g2 (by rw [e]; exact hA))]
      exact hS0.2.1 q g1 g2, fun q hq => by
      rcases List.mem_append.mp hq with h | h
      · exact hS0.2.2 q h
      · obtain ⟨z, -, hz⟩ := List.mem_map.mp h
        rw [← hz]
        exact hA⟩ ((T.setVm vm').setCell (zz_ra b base sa q1) (arrV cI n fun j => .int (h.2.2.1 q0 j))) (by rw [← hT]; rfl) X'
  exact ⟨t, step t a1, b1⟩
end ZB2
