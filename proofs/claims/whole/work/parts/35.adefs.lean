/-! THE BODY: what the pure machine does, the real one does. -/
def zz_Qc (D : va_G) (cI cZ cL cS : ClassId) (b base : Nat) (sa : Nat → Nat) (L0 : Nat) (xs0 : Nat → Int32) (r : Option Value ⊕ Nat) (h' : zz_H) : Array Value → State → Outcome → State → Prop := fun _ st o t => ∃ v, r = .inl v ∧ o = .returned (v.map (zz_tr (zz_ra b base sa))) ∧ zz_HR D cI cZ cL cS b base sa L0 xs0 h' t.heap ∧ va_F (fun z => base ≤ z) st t
def zz_XC (D : va_G) (cI cZ cL cS : ClassId) (b base : Nat) (sa : Nat → Nat) (L0 : Nat) (xs0 : Nat → Int32) (r : Option Value ⊕ Nat) (h' : zz_H) : String → State → State → Prop := fun E st t => ∃ j, r = .inr j ∧ j < 5 ∧ E = zz_ex j ∧ zz_HR D cI cZ cL cS b base sa L0 xs0 h' t.heap ∧ va_F (fun z => base ≤ z) st t
def zz_Pc (D : va_G) (cI cZ cL cS : ClassId) (b base : Nat) (sa : Nat → Nat) (L0 : Nat) (xs0 : Nat → Int32) (vs : List Value) (h : zz_H) : Array Value → State → Prop := fun a U => a = (vs.map (zz_tr (zz_ra b base sa))).toArray ∧ zz_G D cI cZ cL cS b base sa L0 xs0 U ∧ zz_HR D cI cZ cL cS b base sa L0 xs0 h U.heap
def zz_rowsOk : Prop := ∀ (k : Nat) (m0 : zz_M) (nm : zz_NM), zz_P[k]? = some m0 → zz_N[k]? = some nm → ∀ r ∈ m0.1, decode nm.2.1 r.1 = .ok (r.2.1, zz_len r.1 r.2.1 r.2.2.1) ∧ ∃ n, zz_lk n = zz_word nm.1.cls r
/-- the method's fixed things -/
def zz_Cx (D : va_G) (cI cZ cL cS : ClassId) (b base : Nat) (sa : Nat → Nat) (L0 : Nat) (xs0 : Nat → Int32) (nm : zz_NM) (p : Program) (s : State) (mid : MethodId) (args : Array Value) (meth : Method) (c : Code) : Prop :=
  p.tables.exec = Jvm.exec ∧ c.code = nm.2.1 ∧ c.maxLocals = nm.2.2.1 ∧ meth.sig.returnType = nm.2.2.2.1 ∧ meth.locks = false ∧ meth.name = nm.1.name ∧ c.exceptionTable.toList = tableOf nm.2.2.2.2.1 ∧ s.vm.findClass nm.1.cls = some mid.cls ∧ (∀ w ∈ zz_ws, w.before args s = true) ∧ zz_G D cI cZ cL cS b base sa L0 xs0 s
/-- the frame's moving things -/
def zz_Dy (D : va_G) (cI cZ cL cS : ClassId) (b base : Nat) (sa : Nat → Nat) (L0 : Nat) (xs0 : Nat → Int32) (nm : zz_NM) (R : Room) (s : State) (d : Nat) (L : List (Option Value)) (h h' : zz_H) (H : Heap) (locs : List Loc) (cells slots mc ms : Nat) (ls : Array Slot) : Prop :=
  zz_HR D cI cZ cL cS b base sa L0 xs0 h H ∧ zz_LR (zz_ra b base sa) ls nm.2.2.1 L ∧ va_S (fun z => base ≤ z) s.heap H locs ∧ (d ≤ R.frames ∧ 64 * d ≤ R.locals ∧ mc ≤ R.cells ∧ ms ≤ R.slots) ∧ ∃ u v, cells + u = zz_uc h ∧ mc + u = zz_uc h' ∧ slots + v = zz_us h ∧ ms + v = zz_us h'
def zz_Bd (l : Launch) (D : va_G) (cI cZ cL cS : ClassId) (b base : Nat) (sa : Nat → Nat) (L0 : Nat) (xs0 : Nat → Int32) (f : Nat) : Prop :=
  ∀ (k : Nat) (m0 : zz_M) (nm : zz_NM), zz_P[k]? = some m0 → zz_N[k]? = some nm → ∀ (p : Program) (e : Env) (R : Room) (s : State) (mid : MethodId) (args : Array Value) (below : List Frame) (meth : Method) (c : Code), zz_Cx D cI cZ cL cS b base sa L0 xs0 nm p s mid args meth c →
    ∀ (d pc : Nat) (L : List (Option Value)) (st : List Value) (h : zz_H) (r : Option Value ⊕ Nat) (h' : zz_H) (H : Heap) (locs : List Loc) (cells slots mc ms : Nat) (ls : Array Slot), zz_exec zz_P zz_S f (m0, d, pc, L, st) h = some (r, h') → zz_Dy D cI cZ cL cS b base sa L0 xs0 nm R s d L h h' H locs cells slots mc ms ls →
      W p l e R s mid args below meth c H locs cells slots (vx_MQ below (zz_Qc D cI cZ cL cS b base sa L0 xs0 r h') (zz_XC D cI cZ cL cS b base sa L0 xs0 r h') args s mc ms (fun z => base ≤ z)) (F0 mid pc ls (st.map (zz_tr (zz_ra b base sa))))
theorem zz_sids_at : ∀ (P : List zz_M) (N : List zz_NM), zz_sids P N = true → ∀ (k : Nat) (m0 : zz_M) (nm : zz_NM), P[k]? = some m0 → N[k]? = some nm → (m0.1.all (zz_sid nm) && Nat.beq m0.2.1 nm.2.2.1 && Nat.blt nm.2.2.1 45 && plainFor nm.1 && !decide (nm.1.cls = "java/lang/invoke/MethodHandle") && !decide (nm.1.cls = "java/lang/invoke/VarHandle") && Nat.beq m0.2.2.length nm.2.2.2.2.1.length) = true
  | [], _, _, k, m0, nm, h1, _ => by simp at h1
  | m :: ms, [], h, k, m0, nm, _, h2 => by simp at h2
  | m :: ms, n :: ns, h, k, m0, nm, h1, h2 => by
    rw [zz_sids, Bool.and_eq_true] at h
    cases k with
    | zero =>
      cases h1
      cases h2
      exact h.1
    | succ k => exact zz_sids_at ms ns h.2 k m0 nm (by simpa using h1) (by simpa using h2)
theorem zz_sid_at {k : Nat} {m0 : zz_M} {nm : zz_NM} (hm : zz_P[k]? = some m0) (hn : zz_N[k]? = some nm) {r : Nat × zz_I} (hr : r ∈ m0.1) : zz_sid nm r = true := by
  have h := zz_sids_at zz_P zz_N zz_sids_ok k m0 nm hm hn
  simp only [Bool.and_eq_true] at h
  exact List.all_eq_true.mp h.1.1.1.1.1.1 r hr
theorem zz_meth_at {k : Nat} {m0 : zz_M} {nm : zz_NM} (hm : zz_P[k]? = some m0) (hn : zz_N[k]? = some nm) : m0.2.1 = nm.2.2.1 ∧ nm.2.2.1 < 45 ∧ plainFor nm.1 = true ∧ (nm.1.cls ≠ "java/lang/invoke/MethodHandle" ∧ nm.1.cls ≠ "java/lang/invoke/VarHandle") ∧ m0.2.2.length = nm.2.2.2.2.1.length := by
  have h := zz_sids_at zz_P zz_N zz_sids_ok k m0 nm hm hn
  simp only [Bool.and_eq_true, Bool.not_eq_true', decide_eq_false_iff_not] at h
  obtain ⟨⟨⟨⟨⟨⟨-, h1⟩, h2⟩, h3⟩, h4⟩, h5⟩, h6⟩ := h
  exact ⟨Nat.eq_of_beq_eq_true h1, Nat.lt_succ_of_le (by simpa [Nat.blt] using h2), h3, ⟨h4, h5⟩, Nat.eq_of_beq_eq_true h6⟩
theorem zz_sids2_at : ∀ (P : List zz_M) (N : List zz_NM), zz_sids2 P N = true → ∀ (k : Nat) (m0 : zz_M) (nm : zz_NM), P[k]? = some m0 → N[k]? = some nm → m0.1.all (zz_sid2 nm) = true
  | [], _, _, k, m0, nm, h1, _ => by simp at h1
  | m :: ms, [], h, k, m0, nm, _, h2 => by simp at h2
  | m :: ms, n :: ns, h, k, m0, nm, h1, h2 => by
    rw [zz_sids2, Bool.and_eq_true] at h
    cases k with
    | zero =>
      cases h1
      cases h2
      exact h.1
    | succ k => exact zz_sids2_at ms ns h.2 k m0 nm (by simpa using h1) (by simpa using h2)
theorem zz_beq {a b : Nat} : Nat.beq a b = true ↔ a = b := ⟨Nat.eq_of_beq_eq_true, fun h => by subst h; simp⟩
theorem zz_blt {a b : Nat} : Nat.blt a b = true ↔ a < b := by simp [Nat.blt, Nat.lt_iff_add_one_le]
theorem zz_ble {a b : Nat} : Nat.ble a b = true ↔ a ≤ b := by simp
theorem zz_d {cc : ByteArray} {pc np n : Nat} {i : Instr} (hdec : decode cc pc = .ok (i, zz_len pc i np)) (hnp : np = pc + n) (hi : zz_len pc i np = np - pc) : decode cc pc = .ok (i, n) := by rw [hdec, hi, hnp, Nat.add_sub_cancel_left]
theorem zz_wm {w : Jvm.Cond} (h : ∃ n, zz_lk n = w) (ht : w ≠ .tt) (hg : goodWord w = true) : w ∈ zz_ws := by
  obtain ⟨n, hn⟩ := h
  exact zz_ws_of hn ht hg
theorem zz_ra_str (b base : Nat) (sa : Nat → Nat) (a : Nat) : zz_ra b base sa (1000000 + a) = sa a := by
  rw [show 1000000 + a = (999999 + a) + 1 by omega]
  show (if 999999 + a < 999999 then _ else sa (999999 + a - 999999)) = _
  rw [if_neg (by omega), Nat.add_sub_cancel_left]
theorem zz_sid2_at {k : Nat} {m0 : zz_M} {nm : zz_NM} (hm : zz_P[k]? = some m0) (hn : zz_N[k]? = some nm) {r : Nat × zz_I} (hr : r ∈ m0.1) : zz_sid2 nm r = true := List.all_eq_true.mp (zz_sids2_at zz_P zz_N zz_sids2_ok k m0 nm hm hn) r hr
theorem zz_kd_cases (c i : Nat) : zz_kd c i = 0 ∨ zz_kd c i = 1 ∨ zz_kd c i = 2 := by
  unfold zz_kd
  cases ((zz_fd c i).2.2.1 == "I") <;> cases ((zz_fd c i).2.2.1 == "Z") <;> simp
theorem zz_fv1 {ra : Nat → Nat} {h : zz_H} {q a k : Nat} (e : zz_kd a k = 1) : zz_fv ra h q a k = va_rf ((h.2.1 q k).map ra) := by unfold zz_fv; rw [e]; rfl
theorem zz_fv0 {ra : Nat → Nat} {h : zz_H} {q a k : Nat} (e : zz_kd a k ≠ 1) : zz_fv ra h q a k = .int (h.2.2.1 q k) := by
  unfold zz_fv
  rw [show Nat.beq (zz_kd a k) 1 = false by rw [← Bool.not_eq_true]; exact fun z => e (zz_beq.mp z)]
  rfl
theorem zz_fv_upI {ra : Nat → Nat} {h : zz_H} {q a k : Nat} {x : Int32} (e : zz_kd a k ≠ 1) (j : Nat) : updV (zz_fv ra h q a) k (.int x) j = zz_fv ra (h.1, h.2.1, zz_up h.2.2.1 q k x, h.2.2.2) q a j := by
  unfold updV
  by_cases hj : j = k
  · subst hj
    rw [if_pos rfl, zz_fv0 e]
    show _ = Value.int (zz_up h.2.2.1 q j x q j)
    rw [zz_up_at, if_pos rfl]
  · rw [if_neg hj]
    unfold zz_fv
    show _ = bif Nat.beq (zz_kd a j) 1 then _ else Value.int (zz_up h.2.2.1 q k x q j)
    rw [zz_up_at, if_neg hj]
theorem zz_fv_upR {ra : Nat → Nat} {h : zz_H} {q a k r : Nat} (e : zz_kd a k = 1) (j : Nat) : updV (zz_fv ra h q a) k (.ref (ra r)) j = zz_fv ra (h.1, zz_up h.2.1 q k (some r), h.2.2) q a j := by
  unfold updV
  by_cases hj : j = k
  · subst hj
    rw [if_pos rfl, zz_fv1 e]
    show _ = va_rf ((zz_up h.2.1 q j (some r) q j).map ra)
    rw [zz_up_at, if_pos rfl]
    rfl
  · rw [if_neg hj]
    unfold zz_fv
    show _ = bif Nat.beq (zz_kd a j) 1 then va_rf ((zz_up h.2.1 q k (some r) q j).map ra) else _
    rw [zz_up_at, if_neg hj]
section ZAL
variable {p : Program} {l : Launch} {e : Env} {R : Room} {s : State} {m : MethodId} {args : Array Value} {below : List Frame} {meth : Method} {c : Code} {H : Heap} {locs : List Loc} {cells slots : Nat} {Q : State → Prop}
variable {cc : ByteArray} {pc : Nat} {ls : Array Slot} {rest : List Value} {D : va_G} {cI cZ cL cS : ClassId} {b base : Nat} {sa : Nat → Nat} {L0 : Nat} {xs0 : Nat → Int32} {h : zz_H}
theorem zr_alen (hexec : p.tables.exec = Jvm.exec) (hb : c.code = cc) (hG : zz_G D cI cZ cL cS b base sa L0 xs0 s) (hR : zz_HR D cI cZ cL cS b base sa L0 xs0 h H) (hS0 : va_S (fun z => base ≤ z) s.heap H locs) {q n : Nat} (hq : h.1[q]? = some (100, n)) (hdg : decode cc pc = .ok (.arraylength, 1))
    (kk : W p l e R s m args below meth c H locs cells slots Q (F0 m (pc + 1) ls (.int (Int32.ofNat n) :: rest))) : W p l e R s m args below meth c H locs cells slots Q (F0 m pc ls (.ref (zz_ra b base sa q) :: rest)) := by
  rcases Nat.eq_zero_or_pos q with e0 | h0
  · subst e0
    rw [hR.1] at hq
    cases hq
    exact va_slen (b := b) hexec hb hG.2.2.2.1 (by have := hG.2.2.2.2.1; omega) (A := fun z => base ≤ z) (by show ¬ base ≤ b; have := hG.2.2.2.2.1; omega) hS0 hdg kk
  · obtain ⟨-, -, k⟩ := zz_arr hR hq h0 (by simp)
    have hc : H[zz_ra b base sa q]? = some (arrV cI n fun j => .int (h.2.2.1 q j)) := by
      rcases k with k | k | k | k
      · exact k.2
      · exact absurd k.1 (by simp)
      · exact absurd k.1 (by simp)
      · exact absurd k.1 (by simp)
    exact W.alen hexec hb hc ((hG.1.2 0 _ rfl).1 n _) (by rw [arrV_size]) rfl rfl hdg kk
end ZAL
/-- the rules that are closed elsewhere: a throw, a text's length and letter -/
def zz_ThrRule (l : Launch) (D : va_G) (cI cZ cL cS : ClassId) (b base : Nat) (sa : Nat → Nat) (L0 : Nat) (xs0 : Nat → Int32) : Prop :=
  ∀ (k : Nat) (m0 : zz_M) (nm : zz_NM), zz_P[k]? = some m0 → zz_N[k]? = some nm → ∀ (pc ix np a b' : Nat) (kc : Int32), (pc, Instr.new ix, np, a, b', kc) ∈ m0.1 → b' ≠ 0 → ∀ (p : Program) (e : Env) (R : Room) (s : State) (mid : MethodId) (args : Array Value) (below : List Frame) (meth : Method) (c : Code), zz_Cx D cI cZ cL cS b base sa L0 xs0 nm p s mid args meth c → nm.2.2.2.2.1 = [] →
    ∀ (st : List Value) (h : zz_H) (H : Heap) (locs : List Loc) (cells slots mc ms : Nat) (ls : Array Slot), zz_HR D cI cZ cL cS b base sa L0 xs0 h H → ls.size = nm.2.2.1 → va_S (fun z => base ≤ z) s.heap H locs → 8 ≤ R.frames → 512 ≤ R.locals → zz_words st ≤ 8 → cells + 1 ≤ R.cells → slots + 6 ≤ R.slots → cells + 1 = mc → slots + 6 = ms →
      W p l e R s mid args below meth c H locs cells slots (vx_MQ below (zz_Qc D cI cZ cL cS b base sa L0 xs0 (.inr a) (h.1, h.2.1, h.2.2.1, h.2.2.2.1, h.2.2.2.2 + 1)) (zz_XC D cI cZ cL cS b base sa L0 xs0 (.inr a) (h.1, h.2.1, h.2.2.1, h.2.2.2.1, h.2.2.2.2 + 1)) args s mc ms (fun z => base ≤ z)) (F0 mid pc ls (st.map (zz_tr (zz_ra b base sa))))
def zz_StrRule (l : Launch) (D : va_G) (cI cZ cL cS : ClassId) (b base : Nat) (sa : Nat → Nat) (L0 : Nat) (xs0 : Nat → Int32) : Prop :=
  ∀ (nm : zz_NM) (p : Program) (e : Env) (R : Room) (s : State) (mid : MethodId) (args : Array Value) (below : List Frame) (meth : Method) (c : Code), zz_Cx D cI cZ cL cS b base sa L0 xs0 nm p s mid args meth c →
    ∀ (pc ix q : Nat) (t : List Int32) (H : Heap) (locs : List Loc) (cells slots : Nat) (ls : Array Slot) (rest : List Value) (Q : State → Prop), 1000000 ≤ q → zz_S[q - 1000000]? = some t → va_S (fun z => base ≤ z) s.heap H locs → 8 ≤ R.frames → 512 ≤ R.locals → cells ≤ R.cells → slots ≤ R.slots → (rest.map fun v => v.category).sum ≤ 8 → ls.size = nm.2.2.1 → decode nm.2.1 pc = .ok (.invokevirtual ix, 3) →
      (Cond.methodLink nm.1.cls ix (zz_pn 1002) ∈ zz_ws → (∀ (H1 : Heap) (locs1 : List Loc), H1 = H → va_S (fun z => base ≤ z) s.heap H1 locs1 → W p l e R s mid args below meth c H1 locs1 cells slots Q (F0 mid (pc + 3) ls (.int (Int32.ofNat t.length) :: rest))) → W p l e R s mid args below meth c H locs cells slots Q (F0 mid pc ls (.ref (zz_ra b base sa q) :: rest))) ∧
      (∀ i : Int32, zz_in i t.length = true → Cond.methodLink nm.1.cls ix (zz_pn 1003) ∈ zz_ws → (∀ (H1 : Heap) (locs1 : List Loc), H1 = H → va_S (fun z => base ≤ z) s.heap H1 locs1 → W p l e R s mid args below meth c H1 locs1 cells slots Q (F0 mid (pc + 3) ls (.int (t.getD i.toNatClampNeg 0) :: rest))) → W p l e R s mid args below meth c H locs cells slots Q (F0 mid pc ls (.int i :: .ref (zz_ra b base sa q) :: rest)))
