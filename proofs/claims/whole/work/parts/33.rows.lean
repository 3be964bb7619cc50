/-! THE ROWS of the heap's instructions, for the pure machine's heap. -/
theorem zz_in_vp {i : Int32} {n : Nat} (h : zz_in i n = true) : vp_in i n := by
  unfold zz_in at h
  rw [Bool.and_eq_true] at h
  obtain ⟨h1, h2⟩ := h
  have h1' : ¬ i < 0 := by simpa using h1
  have h2' : i.toNatClampNeg < n := by simpa using h2
  exact fun q => q.elim h1' (fun q => by omega)
theorem zz_in_lt {i : Int32} {n : Nat} (h : zz_in i n = true) : i.toNatClampNeg < n := Nat.not_le.mp fun q => zz_in_vp h (Or.inr q)
/-- the fields' types by their kinds -/
def zz_tyc : Bool := (List.range 7).all fun c => (List.range (zz_nf c)).all fun i => match parseFieldDescriptor (zz_fd c i).2.2.1 with
  | some ty => decide (defaultValue ty = (bif Nat.beq (zz_kd c i) 1 then Value.null else .int 0)) && (!Nat.beq (zz_kd c i) 0 || decide (ty = .int)) && (!Nat.beq (zz_kd c i) 2 || decide (ty = .boolean)) && (!Nat.beq (zz_kd c i) 1 || (fits ty (.ref 0) && decide (narrow ty (.ref 0) = .ref 0)))
  | none => false
theorem zz_tyc_ok : zz_tyc = true := by decide +kernel
theorem zz_ty {c i : Nat} (hc : c < 7) (hi : i < zz_nf c) {ty : FieldType} (h : parseFieldDescriptor (zz_fd c i).2.2.1 = some ty) :
    defaultValue ty = (bif Nat.beq (zz_kd c i) 1 then Value.null else .int 0) ∧ (zz_kd c i = 0 → ty = .int) ∧ (zz_kd c i = 2 → ty = .boolean) ∧ (zz_kd c i = 1 → ∀ r, fits ty (.ref r) = true ∧ narrow ty (.ref r) = .ref r) := by
  have h1 := zz_tyc_ok
  unfold zz_tyc at h1
  have h2 := List.all_eq_true.mp (List.all_eq_true.mp h1 c (List.mem_range.mpr hc)) i (List.mem_range.mpr hi)
  rw [h] at h2
  simp only [Bool.and_eq_true, Bool.or_eq_true, decide_eq_true_eq, Bool.not_eq_true'] at h2
  obtain ⟨⟨⟨g1, g2⟩, g3⟩, g4⟩ := h2
  refine ⟨g1, fun e => ?_, fun e => ?_, fun e r => ?_⟩
  · rw [e] at g2
    rcases g2 with g2 | g2
    · cases g2
    · exact g2
  · rw [e] at g3
    rcases g3 with g3 | g3
    · cases g3
    · exact g3
  · rw [e] at g4
    rcases g4 with g4 | ⟨g4, g5⟩
    · cases g4
    · cases ty <;> first | exact ⟨rfl, rfl⟩ | (simp [fits] at g4; done)
section ZB
variable {p : Program} {l : Launch} {e : Env} {R : Room} {s : State} {m : MethodId} {args : Array Value} {below : List Frame} {meth : Method} {c : Code} {H : Heap} {locs : List Loc} {cells slots : Nat} {Q : State → Prop}
variable {cc : ByteArray} {pc : Nat} {ls : Array Slot} {rest : List Value} {D : va_G} {cI cZ cL cS : ClassId} {b base : Nat} {sa : Nat → Nat} {L0 : Nat} {xs0 : Nat → Int32} {h : zz_H} {own : String}
theorem zz_obj (hR : zz_HR D cI cZ cL cS b base sa L0 xs0 h H) {q : Nat} {t : Nat × Nat} (hq : h.1[q]? = some t) (ha : t.1 < 7) : 0 < q ∧ q ≤ 900000 ∧ t_OB (zz_ra b base sa q) (D.1 t.1) (zz_nf t.1) (D.2 t.1) H (zz_fv (zz_ra b base sa) h q t.1) := by
  obtain ⟨k1, k2, k3, k4, k5, k6⟩ := hR
  have h0 : 0 < q := by
    rcases Nat.eq_zero_or_pos q with e | e
    · subst e
      rw [k1] at hq
      cases hq
      omega
    · exact e
  have hl := (List.getElem?_eq_some_iff.mp hq).1
  rcases k6 q t h0 hq with k | k | k | k | k
  · omega
  · omega
  · omega
  · omega
  · exact ⟨h0, by omega, k.2⟩
theorem zr_get (hexec : p.tables.exec = Jvm.exec) (hb : c.code = cc) (hown : s.vm.findClass own = some m.cls) (hts : ∀ w ∈ zz_ws, w.before args s = true) (hG : zz_G D cI cZ cL cS b base sa L0 xs0 s) (hR : zz_HR D cI cZ cL cS b base sa L0 xs0 h H) {q a k n ix : Nat} (hq : h.1[q]? = some (a, n)) (ha : a < 7) (hk : k < zz_nf a)
    (hlink : Cond.fieldLink own ix (zz_fd a k).1 (zz_fd a k).2.1 (zz_fd a k).2.2.1 ∈ zz_ws) (hdg : decode cc pc = .ok (.getfield ix, 3)) (kk : W p l e R s m args below meth c H locs cells slots Q (F0 m (pc + 3) ls (zz_fv (zz_ra b base sa) h q a k :: rest))) : W p l e R s m args below meth c H locs cells slots Q (F0 m pc ls (.ref (zz_ra b base sa q) :: rest)) := by
  obtain ⟨C, T, N, ty, g1, g2, g3, g4, g5, g6, g7, g8, g9, g10⟩ := zz_cls a ha
  obtain ⟨-, -, cell, q1, q2, q3, q4⟩ := zz_obj hR hq ha
  obtain ⟨hS, hfc, kC, hkC, hkind⟩ := hG.1.1 a _ g1
  rw [g2] at hk
  obtain ⟨cf, kf, fi, f, hi, hsl⟩ := hS k hk
  have hlink' := hts _ hlink
  rw [g4 k] at hlink'
  refine W.getf hexec hb hown hlink' hi (u_facts hfc hkC (u_lays hts g7 hk) hi).1 q1 (by rw [q3]; exact fun h => by cases h) (v := zz_fv (zz_ra b base sa) h q a k) ?_ rfl rfl hdg kk
  rw [hsl]
  exact q4 k (by rw [g2]; exact hk)
theorem zr_put (hexec : p.tables.exec = Jvm.exec) (hb : c.code = cc) (hown : s.vm.findClass own = some m.cls) (hts : ∀ w ∈ zz_ws, w.before args s = true) (hG : zz_G D cI cZ cL cS b base sa L0 xs0 s) (hR : zz_HR D cI cZ cL cS b base sa L0 xs0 h H) (hS0 : va_S (fun z => base ≤ z) s.heap H locs) {q a k n ix : Nat} (hq : h.1[q]? = some (a, n)) (ha : a < 7) (hk : k < zz_nf a)
    (hlink : Cond.fieldLink own ix (zz_fd a k).1 (zz_fd a k).2.1 (zz_fd a k).2.2.1 ∈ zz_ws) (hfin : (zz_fd a k).2.2.2 = false ∨ ((zz_fd a k).1 = own ∧ meth.name = "<init>")) {v : Value} (hv : ∀ ty, parseFieldDescriptor (zz_fd a k).2.2.1 = some ty → narrow ty v = v ∧ fits ty v = true) (hdg : decode cc pc = .ok (.putfield ix, 3))
    (kk : ∀ (H1 : Heap) (locs1 : List Loc), H1.size = H.size → (∀ z, z ≠ zz_ra b base sa q → H1[z]? = H[z]?) → t_OB (zz_ra b base sa q) (D.1 a) (zz_nf a) (D.2 a) H1 (updV (zz_fv (zz_ra b base sa) h q a) k v) → va_S (fun z => base ≤ z) s.heap H1 locs1 → W p l e R s m args below meth c H1 locs1 cells slots Q (F0 m (pc + 3) ls rest)) : W p l e R s m args below meth c H locs cells slots Q (F0 m pc ls (v :: .ref (zz_ra b base sa q) :: rest)) := by
  obtain ⟨C, T, N, ty, g1, g2, g3, g4, g5, g6, g7, g8, g9, g10⟩ := zz_cls a ha
  obtain ⟨h0, h9, cell, q1, q2, q3, q4⟩ := zz_obj hR hq ha
  obtain ⟨hS, hfc, kC, hkC, hkind⟩ := hG.1.1 a _ g1
  have hap := va_apart (own := own) hts g7 ty g5 g6 hG.1 g1
  have hk' : k < N := by rw [← g2]; exact hk
  obtain ⟨cf, kf, fi, f, hi, hsl⟩ := hS k hk'
  have hlink' := hts _ hlink
  rw [g4 k] at hlink' hfin
  have hd := g5 k hk'
  obtain ⟨hn, hfit⟩ := hv (ty k) (by rw [g4 k]; exact hd)
  have hlay := hts _ (g7 _ (u_in_lay hk'))
  have hst := (u_facts hfc hkC (u_lays hts g7 hk') hi).1
  have hAa : base ≤ zz_ra b base sa q := by rw [zz_ra_at h0 h9]; omega
  have fin : ∀ H' : Heap, H'[zz_ra b base sa q]? = some (cell.setSlot f.slot v) → H'.size = H.size → (∀ z, z ≠ zz_ra b base sa q → H'[z]? = H[z]?) → W p l e R s m args below meth c H' (locs ++ [⟨zz_ra b base sa q, f.slot⟩]) cells slots Q (F0 m (pc + 3) ls rest) := by
    intro H' e1 e2 e3
    refine kk H' _ e2 e3 ?_ (hS0.put e2 e3 hAa)
    rw [hsl] at e1
    rw [g2]
    exact ⟨_, e1, q2, q3, t_set (fun j hj => q4 j (by rw [g2]; exact hj)) hap hk' v⟩
  unfold u_lay at hlay
  cases hf : (T k).2.2.2 with
  | false =>
    rw [if_neg (by rw [hf]; decide)] at hlay
    have h6 := u_store hfc hkC hkind hlay hi hd hn hfit
    exact W.putK hexec hb (f := f) ⟨hown, hlink', ⟨_, _, _, hi⟩, hst⟩ (by rw [q2]; exact h6) q1 q3 (by rw [hsl]; exact k2_hasslot (q4 k hk)) rfl rfl hdg fin
  | true =>
    rw [if_pos hf] at hlay
    rw [hf] at hfin
    obtain ⟨hdecl, hin2⟩ := hfin.resolve_left (by decide)
    have hcf : m.cls = cf := by
      obtain ⟨_, _, c', _, _, _, -, -, hf', -, -, -, hown2, -⟩ := Cond.laysFinal_spec hlay
      have e1 : c' = cf := by have := hi.symm.trans hf'; simp at this; exact this.1.symm
      rw [hdecl] at hown2
      rw [← e1]; exact Option.some.inj (hown.symm.trans hown2)
    have h6 := u_fits hfc hkC hkind (Or.inr hlay) hi hd hn hfit
    exact W.putFinK hexec hb hown hlink' hi hst hcf hin2 (by rw [q2]; exact h6) q1 q3 (by rw [hsl]; exact k2_hasslot (q4 k hk)) rfl rfl hdg fin
/-- a cell of an array -/
theorem zz_arr (hR : zz_HR D cI cZ cL cS b base sa L0 xs0 h H) {q : Nat} {t : Nat × Nat} (hq : h.1[q]? = some t) (h0 : 0 < q) (ha : ¬ t.1 < 7) : q ≤ 900000 ∧ base ≤ zz_ra b base sa q ∧ ((t.1 = 100 ∧ H[zz_ra b base sa q]? = some (arrV cI t.2 fun j => .int (h.2.2.1 q j))) ∨ (t.1 = 101 ∧ H[zz_ra b base sa q]? = some (arrV cZ t.2 fun j => .int (h.2.2.1 q j))) ∨ (t.1 = 102 ∧ H[zz_ra b base sa q]? = some (arrV cL t.2 fun j => .long (h.2.2.2.1 q j))) ∨ (t.1 = 103 ∧ H[zz_ra b base sa q]? = some (arrV cS t.2 fun j => va_rf ((h.2.1 q j).map (zz_ra b base sa))))) := by
  obtain ⟨k1, k2, k3, k4, k5, k6⟩ := hR
  have hl := (List.getElem?_eq_some_iff.mp hq).1
  refine ⟨by omega, by rw [zz_ra_at h0 (by omega)]; omega, ?_⟩
  rcases k6 q t h0 hq with k | k | k | k | k
  · exact Or.inl k
  · exact Or.inr (Or.inl k)
  · exact Or.inr (Or.inr (Or.inl k))
  · exact Or.inr (Or.inr (Or.inr k))
  · exact absurd k.1 ha
theorem zr_iald (hexec : p.tables.exec = Jvm.exec) (hb : c.code = cc) (hG : zz_G D cI cZ cL cS b base sa L0 xs0 s) (hR : zz_HR D cI cZ cL cS b base sa L0 xs0 h H) (hS0 : va_S (fun z => base ≤ z) s.heap H locs) {q n : Nat} {i : Int32} (hq : h.1[q]? = some (100, n)) (hin : zz_in i n = true) (hdg : decode cc pc = .ok (.iaload, 1))
    (kk : W p l e R s m args below meth c H locs cells slots Q (F0 m (pc + 1) ls (.int (h.2.2.1 q i.toNatClampNeg) :: rest))) : W p l e R s m args below meth c H locs cells slots Q (F0 m pc ls (.int i :: .ref (zz_ra b base sa q) :: rest)) := by
  rcases Nat.eq_zero_or_pos q with e0 | h0
  · subst e0
    obtain ⟨k1, k2, -⟩ := hR
    rw [k1] at hq
    cases hq
    have hlt := zz_in_lt hin
    rw [k2 _ hlt] at kk
    exact va_sld hexec hb hG.2.2.2.1 (by have := hG.2.2.2.2.1; omega) (A := fun z => base ≤ z) (by show ¬ base ≤ b; have := hG.2.2.2.2.1; omega) hS0 (zz_in_vp hin) hdg kk
  · obtain ⟨-, -, k⟩ := zz_arr hR hq h0 (by simp)
    have hc : H[zz_ra b base sa q]? = some (arrV cI n fun j => .int (h.2.2.1 q j)) := by
      rcases k with k | k | k | k
      · exact k.2
      · exact absurd k.1 (by simp)
      · exact absurd k.1 (by simp)
      · exact absurd k.1 (by simp)
    exact W.iald (v := .int (h.2.2.1 q i.toNatClampNeg)) hexec hb hc ((hG.1.2 0 _ rfl).1 n _) (fun z => by cases z) (by rw [arrV_size]; exact zz_in_vp hin) (by rw [arrV_read _ _ (zz_in_lt hin)]) rfl rfl hdg kk
theorem zr_iast (hexec : p.tables.exec = Jvm.exec) (hb : c.code = cc) (hG : zz_G D cI cZ cL cS b base sa L0 xs0 s) (hR : zz_HR D cI cZ cL cS b base sa L0 xs0 h H) (hS0 : va_S (fun z => base ≤ z) s.heap H locs) {q n : Nat} {i x : Int32} (hq : h.1[q]? = some (100, n)) (h0 : 0 < q) (hin : zz_in i n = true) (hdg : decode cc pc = .ok (.iastore, 1))
    (kk : ∀ (H1 : Heap) (locs1 : List Loc), zz_HR D cI cZ cL cS b base sa L0 xs0 (h.1, h.2.1, zz_up h.2.2.1 q i.toNatClampNeg x, h.2.2.2) H1 → va_S (fun z => base ≤ z) s.heap H1 locs1 → W p l e R s m args below meth c H1 locs1 cells slots Q (F0 m (pc + 1) ls rest)) : W p l e R s m args below meth c H locs cells slots Q (F0 m pc ls (.int x :: .int i :: .ref (zz_ra b base sa q) :: rest)) := by
  obtain ⟨-, hA, k⟩ := zz_arr hR hq h0 (by simp)
  have hc : H[zz_ra b base sa q]? = some (arrV cI n fun j => .int (h.2.2.1 q j)) := by
    rcases k with k | k | k | k
    · exact k.2
    · exact absurd k.1 (by simp)
    · exact absurd k.1 (by simp)
    · exact absurd k.1 (by simp)
  refine W.iast hexec hb hc ((hG.1.2 0 _ rfl).1 n _) (fun z => by cases z) (by rw [arrV_size]; exact zz_in_vp hin) rfl rfl hdg fun H1 e1 e2 e3 => ?_
  refine kk H1 _ (hR.upd h0 hq e2 e3 rfl (fun _ _ _ => rfl) (fun a i ha => zz_up_ne ha) (fun _ _ _ => rfl) rfl (Or.inl ⟨rfl, ?_⟩)) (hS0.put e2 e3 hA)
  rw [e1, arrV_store]
  congr 2
  funext j
  show updV _ _ _ j = Value.int (zz_up h.2.2.1 q i.toNatClampNeg x q j)
  rw [zz_up_at]
  unfold updV
  split <;> rfl
theorem zr_bald (hexec : p.tables.exec = Jvm.exec) (hb : c.code = cc) (hG : zz_G D cI cZ cL cS b base sa L0 xs0 s) (hR : zz_HR D cI cZ cL cS b base sa L0 xs0 h H) {q n : Nat} {i : Int32} (hq : h.1[q]? = some (101, n)) (hin : zz_in i n = true) (hdg : decode cc pc = .ok (.baload, 1))
    (kk : W p l e R s m args below meth c H locs cells slots Q (F0 m (pc + 1) ls (.int (h.2.2.1 q i.toNatClampNeg) :: rest))) : W p l e R s m args below meth c H locs cells slots Q (F0 m pc ls (.int i :: .ref (zz_ra b base sa q) :: rest)) := by
  have h0 : 0 < q := by
    rcases Nat.eq_zero_or_pos q with e0 | h0
    · subst e0; rw [hR.1] at hq; cases hq
    · exact h0
  obtain ⟨-, -, k⟩ := zz_arr hR hq h0 (by simp)
  have hc : H[zz_ra b base sa q]? = some (arrV cZ n fun j => .int (h.2.2.1 q j)) := by
    rcases k with k | k | k | k
    · exact absurd k.1 (by simp)
    · exact k.2
    · exact absurd k.1 (by simp)
    · exact absurd k.1 (by simp)
  exact W.zald (v := .int (h.2.2.1 q i.toNatClampNeg)) hexec hb hc ((hG.1.2 1 _ rfl).1 n _) (fun z => by cases z) (by rw [arrV_size]; exact zz_in_vp hin) (by rw [arrV_read _ _ (zz_in_lt hin)]) rfl rfl hdg kk
theorem zz_b01_nar {x : Int32} (hx : zz_b01 x = true) : narrow .boolean (.int x) = .int x ∧ fits .boolean (.int x) = true := by
  unfold zz_b01 at hx
  rw [Bool.or_eq_true, decide_eq_true_eq, decide_eq_true_eq] at hx
  rcases hx with rfl | rfl <;> decide +kernel
theorem zr_bast (hexec : p.tables.exec = Jvm.exec) (hb : c.code = cc) (hG : zz_G D cI cZ cL cS b base sa L0 xs0 s) (hR : zz_HR D cI cZ cL cS b base sa L0 xs0 h H) (hS0 : va_S (fun z => base ≤ z) s.heap H locs) {q n : Nat} {i x : Int32} (hq : h.1[q]? = some (101, n)) (h0 : 0 < q) (hin : zz_in i n = true) (hx : zz_b01 x = true) (hdg : decode cc pc = .ok (.bastore, 1))
    (kk : ∀ (H1 : Heap) (locs1 : List Loc), zz_HR D cI cZ cL cS b base sa L0 xs0 (h.1, h.2.1, zz_up h.2.2.1 q i.toNatClampNeg x, h.2.2.2) H1 → va_S (fun z => base ≤ z) s.heap H1 locs1 → W p l e R s m args below meth c H1 locs1 cells slots Q (F0 m (pc + 1) ls rest)) : W p l e R s m args below meth c H locs cells slots Q (F0 m pc ls (.int x :: .int i :: .ref (zz_ra b base sa q) :: rest)) := by
  obtain ⟨-, hA, k⟩ := zz_arr hR hq h0 (by simp)
  have hc : H[zz_ra b base sa q]? = some (arrV cZ n fun j => .int (h.2.2.1 q j)) := by
    rcases k with k | k | k | k
    · exact absurd k.1 (by simp)
    · exact k.2
    · exact absurd k.1 (by simp)
    · exact absurd k.1 (by simp)
  refine W.zast hexec hb hc ((hG.1.2 1 _ rfl).1 n _) (fun z => by cases z) (by rw [arrV_size]; exact zz_in_vp hin) rfl rfl hdg fun H1 e1 e2 e3 => ?_
  refine kk H1 _ (hR.upd h0 hq e2 e3 rfl (fun _ _ _ => rfl) (fun a i ha => zz_up_ne ha) (fun _ _ _ => rfl) rfl (Or.inr (Or.inl ⟨rfl, ?_⟩))) (hS0.put e2 e3 hA)
  rw [e1, (zz_b01_nar hx).1, arrV_store]
  congr 2
  funext j
  show updV _ _ _ j = Value.int (zz_up h.2.2.1 q i.toNatClampNeg x q j)
  rw [zz_up_at]
  unfold updV
  split <;> rfl
theorem zr_lald (hexec : p.tables.exec = Jvm.exec) (hb : c.code = cc) (hG : zz_G D cI cZ cL cS b base sa L0 xs0 s) (hR : zz_HR D cI cZ cL cS b base sa L0 xs0 h H) {q n : Nat} {i : Int32} (hq : h.1[q]? = some (102, n)) (hin : zz_in i n = true) (hdg : decode cc pc = .ok (.laload, 1))
    (kk : W p l e R s m args below meth c H locs cells slots Q (F0 m (pc + 1) ls (.long (h.2.2.2.1 q i.toNatClampNeg) :: rest))) : W p l e R s m args below meth c H locs cells slots Q (F0 m pc ls (.int i :: .ref (zz_ra b base sa q) :: rest)) := by
  have h0 : 0 < q := by
    rcases Nat.eq_zero_or_pos q with e0 | h0
    · subst e0; rw [hR.1] at hq; cases hq
    · exact h0
  obtain ⟨-, -, k⟩ := zz_arr hR hq h0 (by simp)
  have hc : H[zz_ra b base sa q]? = some (arrV cL n fun j => .long (h.2.2.2.1 q j)) := by
    rcases k with k | k | k | k
    · exact absurd k.1 (by simp)
    · exact absurd k.1 (by simp)
    · exact k.2
    · exact absurd k.1 (by simp)
  exact W.lald (v := .long (h.2.2.2.1 q i.toNatClampNeg)) hexec hb hc ((hG.1.2 2 _ rfl).1 n _) (fun z => by cases z) (by rw [arrV_size]; exact zz_in_vp hin) (by rw [arrV_read _ _ (zz_in_lt hin)]) rfl rfl hdg kk
theorem zr_last (hexec : p.tables.exec = Jvm.exec) (hb : c.code = cc) (hG : zz_G D cI cZ cL cS b base sa L0 xs0 s) (hR : zz_HR D cI cZ cL cS b base sa L0 xs0 h H) (hS0 : va_S (fun z => base ≤ z) s.heap H locs) {q n : Nat} {i : Int32} {x : Int64} (hq : h.1[q]? = some (102, n)) (h0 : 0 < q) (hin : zz_in i n = true) (hdg : decode cc pc = .ok (.lastore, 1))
    (kk : ∀ (H1 : Heap) (locs1 : List Loc), zz_HR D cI cZ cL cS b base sa L0 xs0 (h.1, h.2.1, h.2.2.1, zz_up h.2.2.2.1 q i.toNatClampNeg x, h.2.2.2.2) H1 → va_S (fun z => base ≤ z) s.heap H1 locs1 → W p l e R s m args below meth c H1 locs1 cells slots Q (F0 m (pc + 1) ls rest)) : W p l e R s m args below meth c H locs cells slots Q (F0 m pc ls (.long x :: .int i :: .ref (zz_ra b base sa q) :: rest)) := by
  obtain ⟨-, hA, k⟩ := zz_arr hR hq h0 (by simp)
  have hc : H[zz_ra b base sa q]? = some (arrV cL n fun j => .long (h.2.2.2.1 q j)) := by
    rcases k with k | k | k | k
    · exact absurd k.1 (by simp)
    · exact absurd k.1 (by simp)
    · exact k.2
    · exact absurd k.1 (by simp)
  refine W.last hexec hb hc ((hG.1.2 2 _ rfl).1 n _) (fun z => by cases z) (by rw [arrV_size]; exact zz_in_vp hin) rfl rfl hdg fun H1 e1 e2 e3 => ?_
  refine kk H1 _ (hR.upd h0 hq e2 e3 rfl (fun _ _ _ => rfl) (fun _ _ _ => rfl) (fun a i ha => zz_up_ne ha) rfl (Or.inr (Or.inr (Or.inl ⟨rfl, ?_⟩)))) (hS0.put e2 e3 hA)
  rw [e1, arrV_store]
  congr 2
  funext j
  show updV _ _ _ j = Value.long (zz_up h.2.2.2.1 q i.toNatClampNeg x q j)
  rw [zz_up_at]
  unfold updV
  split <;> rfl
theorem zr_aald (hexec : p.tables.exec = Jvm.exec) (hb : c.code = cc) (hG : zz_G D cI cZ cL cS b base sa L0 xs0 s) (hR : zz_HR D cI cZ cL cS b base sa L0 xs0 h H) {q n : Nat} {i : Int32} (hq : h.1[q]? = some (103, n)) (hin : zz_in i n = true) (hdg : decode cc pc = .ok (.aaload, 1))
    (kk : W p l e R s m args below meth c H locs cells slots Q (F0 m (pc + 1) ls (va_rf ((h.2.1 q i.toNatClampNeg).map (zz_ra b base sa)) :: rest))) : W p l e R s m args below meth c H locs cells slots Q (F0 m pc ls (.int i :: .ref (zz_ra b base sa q) :: rest)) := by
  have h0 : 0 < q := by
    rcases Nat.eq_zero_or_pos q with e0 | h0
    · subst e0; rw [hR.1] at hq; cases hq
    · exact h0
  obtain ⟨-, -, k⟩ := zz_arr hR hq h0 (by simp)
  have hc : H[zz_ra b base sa q]? = some (arrV cS n fun j => va_rf ((h.2.1 q j).map (zz_ra b base sa))) := by
    rcases k with k | k | k | k
    · exact absurd k.1 (by simp)
    · exact absurd k.1 (by simp)
    · exact absurd k.1 (by simp)
    · exact k.2
  exact W.aald (ty := .object RX8) (v := va_rf ((h.2.1 q i.toNatClampNeg).map (zz_ra b base sa))) hexec hb hc ((hG.1.2 3 _ rfl).1 n _) rfl (fun z => by cases z) (by rw [arrV_size]; exact zz_in_vp hin) (by rw [arrV_read _ _ (zz_in_lt hin)]) rfl rfl hdg kk
theorem zr_aast (hexec : p.tables.exec = Jvm.exec) (hb : c.code = cc) (hG : zz_G D cI cZ cL cS b base sa L0 xs0 s) (hR : zz_HR D cI cZ cL cS b base sa L0 xs0 h H) (hS0 : va_S (fun z => base ≤ z) s.heap H locs) {q n r nr : Nat} {i : Int32} (hq : h.1[q]? = some (103, n)) (hr : h.1[r]? = some (3, nr)) (h0 : 0 < q) (hin : zz_in i n = true) (hdg : decode cc pc = .ok (.aastore, 1))
    (kk : ∀ (H1 : Heap) (locs1 : List Loc), zz_HR D cI cZ cL cS b base sa L0 xs0 (h.1, zz_up h.2.1 q i.toNatClampNeg (some r), h.2.2) H1 → va_S (fun z => base ≤ z) s.heap H1 locs1 → W p l e R s m args below meth c H1 locs1 cells slots Q (F0 m (pc + 1) ls rest)) : W p l e R s m args below meth c H locs cells slots Q (F0 m pc ls (.ref (zz_ra b base sa r) :: .int i :: .ref (zz_ra b base sa q) :: rest)) := by
  obtain ⟨-, hA, k⟩ := zz_arr hR hq h0 (by simp)
  have hc : H[zz_ra b base sa q]? = some (arrV cS n fun j => va_rf ((h.2.1 q j).map (zz_ra b base sa))) := by
    rcases k with k | k | k | k
    · exact absurd k.1 (by simp)
    · exact absurd k.1 (by simp)
    · exact absurd k.1 (by simp)
    · exact k.2
  obtain ⟨-, -, cell, q1, q2, q3, -⟩ := zz_obj hR hr (by simp)
  obtain ⟨kA, comp, w1, w2, w3, w4⟩ := (hG.1.2 3 _ rfl).2
  obtain ⟨-, hfc, kC, hkC, hkind⟩ := hG.1.1 3 _ rfl
  have hcomp : comp = D.1 3 := Option.some.inj (w3.symm.trans hfc)
  subst hcomp
  refine W.aast hexec hb hc (fun z hz => by cases hz) (fun z => by cases z) (k := kA) (comp := D.1 3) (t := .object RX8) w1 w2 rfl hkC ⟨fun z => zz_in_vp hin (Or.inl z), by rw [arrV_size]; exact zz_in_lt hin⟩ q1 (fun z hz => by rw [q3] at hz; cases hz) (kv := kC) (by rw [q2]; exact hkC) (by rw [q2]; exact va_assign (C := RX8) ⟨hfc, kC, hkC, hkind⟩) rfl rfl hdg fun H1 e1 e2 e3 => ?_
  refine kk H1 _ (hR.upd h0 hq e2 e3 rfl (fun a i ha => zz_up_ne ha) (fun _ _ _ => rfl) (fun _ _ _ => rfl) rfl (Or.inr (Or.inr (Or.inr (Or.inl ⟨rfl, ?_⟩))))) (hS0.put e2 e3 hA)
  rw [e1, arrV_store]
  congr 2
  funext j
  show updV _ _ _ j = va_rf ((zz_up h.2.1 q i.toNatClampNeg (some r) q j).map (zz_ra b base sa))
  rw [zz_up_at]
  unfold updV
  split <;> rfl
end ZB
