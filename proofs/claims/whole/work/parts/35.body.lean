/-! THE BODY: what the pure machine does, the real one does. -/
def zz_Qc (D : va_G) (cI cZ cL cS : ClassId) (b base : Nat) (sa : Nat → Nat) (L0 : Nat) (xs0 : Nat → Int32) (r : Option Value ⊕ Nat) (h' : zz_H) : Array Value → State → Outcome → State → Prop := fun _ st o t => ∃ v, r = .inl v ∧ o = .returned (v.map (zz_tr (zz_ra b base sa))) ∧ zz_HR D cI cZ cL cS b base sa L0 xs0 h' t.heap ∧ va_F (fun z => base ≤ z) st t
def zz_XC (D : va_G) (cI cZ cL cS : ClassId) (b base : Nat) (sa : Nat → Nat) (L0 : Nat) (xs0 : Nat → Int32) (r : Option Value ⊕ Nat) (h' : zz_H) : String → State → State → Prop := fun E st t => ∃ j, r = .inr j ∧ j < 5 ∧ E = zz_ex j ∧ zz_HR D cI cZ cL cS b base sa L0 xs0 h' t.heap ∧ va_F (fun z => base ≤ z) st t
def zz_Pc (D : va_G) (cI cZ cL cS : ClassId) (b base : Nat) (sa : Nat → Nat) (L0 : Nat) (xs0 : Nat → Int32) (vs : List Value) (h : zz_H) : Array Value → State → Prop := fun a U => a = (vs.map (zz_tr (zz_ra b base sa))).toArray ∧ zz_G D cI cZ cL cS b base sa L0 xs0 U ∧ zz_HR D cI cZ cL cS b base sa L0 xs0 h U.heap
def zz_rowsOk : Prop := ∀ (k : Nat) (m0 : zz_M) (nm : zz_NM), zz_P[k]? = some m0 → zz_N[k]? = some nm → ∀ r ∈ m0.1, decode nm.2.1 r.1 = .ok (r.2.1, zz_len r.1 r.2.1 r.2.2.1) ∧ ∃ n, zz_lk n = zz_word nm.1.cls r
/-- the method's fixed things -/
def zz_Cx (D : va_G) (cI cZ cL cS : ClassId) (b base : Nat) (sa : Nat → Nat) (L0 : Nat) (xs0 : Nat → Int32) (nm : zz_NM) (p : Program) (s : State) (mid : MethodId) (args : Array Value) (meth : Method) (c : Code) : Prop :=
  p.tables.exec = Jvm.exec ∧ c.code = nm.2.1 ∧ c.maxLocals = nm.2.2.1 ∧ meth.sig.returnType = nm.2.2.2.1 ∧ meth.locks = false ∧ meth.name = nm.1.name ∧ c.exceptionTable.toList = tableOf nm.2.2.2.2.1 ∧ s.vm.findClass nm.1.cls = some mid.cls ∧ (∀ w ∈ zz_ws, w.before args s = true) ∧ zz_G D cI cZ cL cS b base sa L0 xs0 s
/-- the frame's moving things -/
def zz_Dy (D : va_G) (cI cZ cL cS : ClassId) (b base : Nat) (sa : Nat → Nat) (L0 : Nat) (xs0 : Nat → Int32) (nm : zz_NM) (R : Room) (s : State) (d : Nat) (L : List (Option Value)) (h h' : zz_H) (H : Heap) (locs : List Loc) (cells slots mc ms : Nat) (ls : Array Slot) : Prop :=
  zz_HR D cI cZ cL cS b base sa L0 xs0 h H ∧ zz_LR (zz_ra b base sa) ls nm.2.2.1 L ∧ va_S (fun z => base ≤ z) s.heap H locs ∧ (d ≤ R.frames ∧ 64 * d ≤ R.locals ∧ mc ≤ R.cells ∧ ms ≤ R.slots) ∧ ∃ u v, cells + u = zz_uc h ∧ mc + u = zz_uc h' ∧ slots + v = zz_us h ∧ ms + v = zz_us h'
def zz_Bd (l : Launch) (D : va_G) (cI cZ cL cS : ClassId) (b base : Nat) (sa : Nat → Nat) (L0 : Nat) (xs0 : Nat → Int32) (f : Nat) : Prop :=
  ∀ (k : Nat) (m0 : zz_M) (nm : zz_NM), zz_P[k]? = some m0 → zz_N[k]? = some nm → ∀ (p : Program) (e : Env) (R : Room) (s : State) (mid : MethodId) (args : Array Value) (below : List Frame) (meth : Method) (c : Code), zz_Cx D cI cZ cL cS b base sa L0 xs0 nm p s mid args meth c →
    ∀ (d pc : Nat) (L : List (Option Value)) (st : List Value) (h : zz_H) (r : Option Value ⊕ Nat) (h' : zz_H) (H : Heap) (locs : List Loc) (cells slots mc ms : Nat) (ls : Array Slot), zz_exec zz_P zz_S f (m0, d, pc, L, st) h = some (r, h') → zz_Dy D cI cZ cL cS b base sa L0 xs0 nm R s d L h h' H locs cells slots mc ms ls →
      W p l e R s mid args below meth c H locs cells slots (vx_MQ below (zz_Qc D cI cZ cL cS b base sa L0 xs0 r h') (zz_XC D cI cZ cL cS b base sa L0 xs0 r h') args s mc ms (fun z => base ≤ z)) (F0 mid pc ls (st.map (zz_tr (zz_ra b base sa))))
theorem zz_sids_at : ∀ (P : List zz_M) (N : List zz_NM), zz_sids P N = true → ∀ (k : Nat) (m0 : zz_M) (nm : zz_NM), P[k]? = some m0 → N[k]? = some nm → (m0.1.all (zz_sid nm) && Nat.beq m0.2.1 nm.2.2.1 && Nat.blt nm.2.2.1 45 && plainFor nm.1 && !decide (nm.1.cls = "java/lang/invoke/MethodHandle") && !decide (nm.1.cls = "java/lang/invoke/VarHandle") && Nat.beq m0.2.2.length nm.2.2.2.2.1.length) = true
  | [], _, _, k, m0, nm, h1, _ => by simp at h1
  | m :: ms, [], h, k, m0, nm, _, h2 => by simp at h2
  | m :: ms, n :: ns, h, k, m0, nm, h1, h2 => by
    rw [zz_sids, Bool.and_eq_true] at h
    cases k with
    | zero =>
      cases h1
      cases h2
      exact h.1
    | succ k => exact zz_sids_at ms ns h.2 k m0 nm (by simpa using h1) (by simpa using h2)
theorem zz_sid_at {k : Nat} {m0 : zz_M} {nm : zz_NM} (hm : zz_P[k]? = some m0) (hn : zz_N[k]? = some nm) {r : Nat × zz_I} (hr : r ∈ m0.1) : zz_sid nm r = true := by
  have h := zz_sids_at zz_P zz_N zz_sids_ok k m0 nm hm hn
  simp only [Bool.and_eq_true] at h
  exact List.all_eq_true.mp h.1.1.1.1.1.1 r hr
theorem zz_meth_at {k : Nat} {m0 : zz_M} {nm : zz_NM} (hm : zz_P[k]? = some m0) (hn : zz_N[k]? = some nm) : m0.2.1 = nm.2.2.1 ∧ nm.2.2.1 < 45 ∧ plainFor nm.1 = true ∧ (nm.1.cls ≠ "java/lang/invoke/MethodHandle" ∧ nm.1.cls ≠ "java/lang/invoke/VarHandle") ∧ m0.2.2.length = nm.2.2.2.2.1.length := by
  have h := zz_sids_at zz_P zz_N zz_sids_ok k m0 nm hm hn
  simp only [Bool.and_eq_true, Bool.not_eq_true', decide_eq_false_iff_not] at h
  obtain ⟨⟨⟨⟨⟨⟨-, h1⟩, h2⟩, h3⟩, h4⟩, h5⟩, h6⟩ := h
  exact ⟨Nat.eq_of_beq_eq_true h1, Nat.lt_succ_of_le (by simpa [Nat.blt] using h2), h3, ⟨h4, h5⟩, Nat.eq_of_beq_eq_true h6⟩
theorem zz_sids2_at : ∀ (P : List zz_M) (N : List zz_NM), zz_sids2 P N = true → ∀ (k : Nat) (m0 : zz_M) (nm : zz_NM), P[k]? = some m0 → N[k]? = some nm → m0.1.all (zz_sid2 nm) = true
  | [], _, _, k, m0, nm, h1, _ => by simp at h1
  | m :: ms, [], h, k, m0, nm, _, h2 => by simp at h2
  | m :: ms, n :: ns, h, k, m0, nm, h1, h2 => by
    rw [zz_sids2, Bool.and_eq_true] at h
    cases k with
    | zero =>
      cases h1
      cases h2
      exact h.1
    | succ k => exact zz_sids2_at ms ns h.2 k m0 nm (by simpa using h1) (by simpa using h2)
theorem zz_beq {a b : Nat} : Nat.beq a b = true ↔ a = b := ⟨Nat.eq_of_beq_eq_true, fun h => by subst h; simp⟩
theorem zz_blt {a b : Nat} : Nat.blt a b = true ↔ a < b := by simp [Nat.blt, Nat.lt_iff_add_one_le]
theorem zz_ble {a b : Nat} : Nat.ble a b = true ↔ a ≤ b := by simp
theorem zz_d {cc : ByteArray} {pc np n : Nat} {i : Instr} (hdec : decode cc pc = .ok (i, zz_len pc i np)) (hnp : np = pc + n) (hi : zz_len pc i np = np - pc) : decode cc pc = .ok (i, n) := by rw [hdec, hi, hnp, Nat.add_sub_cancel_left]
theorem zz_wm {w : Jvm.Cond} (h : ∃ n, zz_lk n = w) (ht : w ≠ .tt) (hg : goodWord w = true) : w ∈ zz_ws := by
  obtain ⟨n, hn⟩ := h
  exact zz_ws_of hn ht hg
theorem zz_ra_str (b base : Nat) (sa : Nat → Nat) (a : Nat) : zz_ra b base sa (1000000 + a) = sa a := by
  rw [show 1000000 + a = (999999 + a) + 1 by omega]
  show (if 999999 + a < 999999 then _ else sa (999999 + a - 999999)) = _
  rw [if_neg (by omega), Nat.add_sub_cancel_left]
theorem zz_sid2_at {k : Nat} {m0 : zz_M} {nm : zz_NM} (hm : zz_P[k]? = some m0) (hn : zz_N[k]? = some nm) {r : Nat × zz_I} (hr : r ∈ m0.1) : zz_sid2 nm r = true := List.all_eq_true.mp (zz_sids2_at zz_P zz_N zz_sids2_ok k m0 nm hm hn) r hr
set_option maxHeartbeats 4000000 in
theorem zz_body_step (hrows : zz_rowsOk) {l : Launch} {D : va_G} {cI cZ cL cS : ClassId} {b base : Nat} {sa : Nat → Nat} {L0 : Nat} {xs0 : Nat → Int32} {f : Nat} (ih : zz_Bd l D cI cZ cL cS b base sa L0 xs0 f) : zz_Bd l D cI cZ cL cS b base sa L0 xs0 (f + 1) := by
  intro k m0 nm hm hn p e R s mid args below meth c hC d pc L st h r h' H locs cells slots mc ms ls hx hD
  obtain ⟨hexec, hb, hml, hret, hlocks, hname, htab, hown, hts, hG⟩ := id hC
  obtain ⟨hR, hL, hS, hrm, hcn⟩ := hD
  have go : ∀ (pc' : Nat) (L' : List (Option Value)) (st' : List Value) (ls' : Array Slot), zz_exec zz_P zz_S f (m0, d, pc', L', st') h = some (r, h') → zz_LR (zz_ra b base sa) ls' nm.2.2.1 L' → W p l e R s mid args below meth c H locs cells slots (vx_MQ below (zz_Qc D cI cZ cL cS b base sa L0 xs0 r h') (zz_XC D cI cZ cL cS b base sa L0 xs0 r h') args s mc ms (fun z => base ≤ z)) (F0 mid pc' ls' (st'.map (zz_tr (zz_ra b base sa)))) :=
    fun pc' L' st' ls' e1 e2 => ih k m0 nm hm hn p e R s mid args below meth c hC d pc' L' st' h r h' H locs cells slots mc ms ls' e1 ⟨hR, e2, hS, hrm, hcn⟩
  change zz_step zz_P zz_S (zz_exec zz_P zz_S f) (m0, d, pc, L, st) h = some (r, h') at hx
  unfold zz_step at hx
  dsimp only at hx
  split at hx
  · cases hx
  · rename_i i np a b' kc hfind
    have hmem := zz_find_mem hfind
    obtain ⟨hdec, hword⟩ := hrows k m0 nm hm hn _ hmem
    have hsid := zz_sid_at hm hn hmem
    dsimp only at hdec
    split at hx
    · simp only [zz_sid, Bool.and_eq_true, Bool.or_eq_true, decide_eq_true_eq, zz_beq, zz_blt, Bool.not_eq_true'] at hsid
      obtain ⟨hnp, hk⟩ := hsid
      subst hnp
      exact lv_iconst hexec hb (zz_d hdec rfl rfl) hk (go _ _ _ _ hx hL)
    · simp only [zz_sid, Bool.and_eq_true, Bool.or_eq_true, decide_eq_true_eq, zz_beq, zz_blt, Bool.not_eq_true'] at hsid
      obtain ⟨hnp, hk⟩ := hsid
      subst hnp
      exact lv_bipush hexec hb (zz_d hdec rfl rfl) hk (go _ _ _ _ hx hL)
    · simp only [zz_sid, Bool.and_eq_true, Bool.or_eq_true, decide_eq_true_eq, zz_beq, zz_blt, Bool.not_eq_true'] at hsid
      obtain ⟨hnp, hk⟩ := hsid
      subst hnp
      exact lv_sipush hexec hb (zz_d hdec rfl rfl) hk (go _ _ _ _ hx hL)
    · simp only [zz_sid, Bool.and_eq_true, Bool.or_eq_true, decide_eq_true_eq, zz_beq, zz_blt, Bool.not_eq_true'] at hsid
      obtain ⟨hnp, hab⟩ := hsid
      subst hnp
      have hs2 := zz_sid2_at hm hn hmem
      split at hx
      · exact lv_ldc hexec hb hown (hts _ (zz_wm (w := Cond.constant nm.1.cls _ kc) hword (fun e => by cases e) rfl)) (zz_d hdec rfl rfl) (go _ _ _ _ hx hL)
      · rename_i hb0
        simp only [zz_sid2, Bool.or_eq_true, decide_eq_true_eq, zz_beq] at hs2
        have hsk := hs2.resolve_left hb0
        have hgo := go _ _ _ _ hx hL
        rw [List.map_cons, show zz_tr (zz_ra b base sa) (.ref (1000000 + a)) = .ref (sa a) by show Value.ref (zz_ra b base sa (1000000 + a)) = _; rw [zz_ra_str]] at hgo
        exact va_ldcS hexec hb hown (hG.2.2.2.2.2.1 _ _ _ hsk).1 (zz_d hdec rfl rfl) hgo
    · simp only [zz_sid, Bool.and_eq_true, Bool.or_eq_true, decide_eq_true_eq, zz_beq, zz_blt, Bool.not_eq_true'] at hsid
      obtain ⟨hnp, hb0⟩ := hsid
      subst hnp
      subst hb0
      exact lv_ldcw hexec hb hown (hts _ (zz_wm (w := Cond.constant nm.1.cls _ kc) hword (fun e => by cases e) rfl)) (zz_d hdec rfl rfl) (go _ _ _ _ hx hL)
    · simp only [zz_sid, Bool.and_eq_true, Bool.or_eq_true, decide_eq_true_eq, zz_beq, zz_blt, Bool.not_eq_true'] at hsid
      subst hsid
      exact lv_ldc2 hexec hb hown (hts _ (zz_wm (w := Cond.constantLong nm.1.cls _ (Int64.ofNat a)) hword (fun e => by cases e) rfl)) (zz_d hdec rfl rfl) (go _ _ _ _ hx hL)
    · simp only [zz_sid, Bool.and_eq_true, Bool.or_eq_true, decide_eq_true_eq, zz_beq, zz_blt, Bool.not_eq_true'] at hsid
      obtain ⟨hnp, hk⟩ := hsid
      subst hnp
      exact lv_lconst hexec hb (zz_d hdec rfl rfl) (by rw [← hk]) (go _ _ _ _ hx hL)
    · simp only [zz_sid, Bool.and_eq_true, Bool.or_eq_true, decide_eq_true_eq, zz_beq, zz_blt, Bool.not_eq_true'] at hsid
      obtain ⟨hnp, hk⟩ := hsid
      subst hnp
      split at hx
      · rename_i hg
        exact lv_iload_n hexec hb (zz_d hdec rfl rfl) hk (hL.get hg) (go _ _ _ _ hx hL)
      · cases hx
    · simp only [zz_sid, Bool.and_eq_true, Bool.or_eq_true, decide_eq_true_eq, zz_beq, zz_blt, Bool.not_eq_true'] at hsid
      obtain ⟨hnp, hk⟩ := hsid
      subst hnp
      subst hk
      split at hx
      · rename_i hg
        exact lv_iload hexec hb (zz_d hdec rfl rfl) (hL.get hg) (go _ _ _ _ hx hL)
      · cases hx
    · simp only [zz_sid, Bool.and_eq_true, Bool.or_eq_true, decide_eq_true_eq, zz_beq, zz_blt, Bool.not_eq_true'] at hsid
      obtain ⟨hnp, hk⟩ := hsid
      subst hnp
      split at hx
      · rename_i hg
        exact lv_aload_n hexec hb (zz_d hdec rfl rfl) hk (hL.get hg) (go _ _ _ _ hx hL)
      · cases hx
    · simp only [zz_sid, Bool.and_eq_true, Bool.or_eq_true, decide_eq_true_eq, zz_beq, zz_blt, Bool.not_eq_true'] at hsid
      obtain ⟨hnp, hk⟩ := hsid
      subst hnp
      subst hk
      split at hx
      · rename_i hg
        exact lv_aload hexec hb (zz_d hdec rfl rfl) (hL.get hg) (go _ _ _ _ hx hL)
      · cases hx
    · simp only [zz_sid, Bool.and_eq_true, Bool.or_eq_true, decide_eq_true_eq, zz_beq, zz_blt, Bool.not_eq_true'] at hsid
      obtain ⟨hnp, hk⟩ := hsid
      subst hnp
      split at hx
      · rename_i hg
        exact lv_lload_n hexec hb (zz_d hdec rfl rfl) hk (hL.get hg) (go _ _ _ _ hx hL)
      · cases hx
    · simp only [zz_sid, Bool.and_eq_true, Bool.or_eq_true, decide_eq_true_eq, zz_beq, zz_blt, Bool.not_eq_true'] at hsid
      obtain ⟨hnp, hk⟩ := hsid
      subst hnp
      subst hk
      split at hx
      · rename_i hg
        exact lv_lload hexec hb (zz_d hdec rfl rfl) (hL.get hg) (go _ _ _ _ hx hL)
      · cases hx
    · simp only [zz_sid, Bool.and_eq_true, Bool.or_eq_true, decide_eq_true_eq, zz_beq, zz_blt, Bool.not_eq_true'] at hsid
      obtain ⟨⟨hnp, hk⟩, hlt⟩ := hsid
      subst hnp
      split at hx
      · split at hx
        · rename_i hst
          obtain ⟨hL', hnl⟩ := zz_st1_some hst
          subst hL'
          exact lv_istore_n hexec hb (zz_d hdec rfl rfl) hk hL.has hlt rfl (fun ls' hl' => go _ _ _ ls' hx (hL.of_has (fun v e => by cases e; rfl) hnl hl'))
        · cases hx
      · cases hx
    · simp only [zz_sid, Bool.and_eq_true, Bool.or_eq_true, decide_eq_true_eq, zz_beq, zz_blt, Bool.not_eq_true'] at hsid
      obtain ⟨⟨hnp, hk⟩, hlt⟩ := hsid
      subst hnp
      subst hk
      split at hx
      · split at hx
        · rename_i hst
          obtain ⟨hL', hnl⟩ := zz_st1_some hst
          subst hL'
          exact lv_istore hexec hb (zz_d hdec rfl rfl) hL.has hlt rfl (fun ls' hl' => go _ _ _ ls' hx (hL.of_has (fun v e => by cases e; rfl) hnl hl'))
        · cases hx
      · cases hx
    · simp only [zz_sid, Bool.and_eq_true, Bool.or_eq_true, decide_eq_true_eq, zz_beq, zz_blt, Bool.not_eq_true'] at hsid
      obtain ⟨⟨hnp, hk⟩, hlt⟩ := hsid
      subst hnp
      split at hx
      · split at hx
        · rename_i hst
          obtain ⟨hL', hnl⟩ := zz_st1_some hst
          subst hL'
          exact lv_astore_n hexec hb (zz_d hdec rfl rfl) hk hL.has hlt rfl (fun ls' hl' => go _ _ _ ls' hx (hL.of_has (fun v e => by cases e; rfl) hnl hl'))
        · cases hx
      · cases hx
    · simp only [zz_sid, Bool.and_eq_true, Bool.or_eq_true, decide_eq_true_eq, zz_beq, zz_blt, Bool.not_eq_true'] at hsid
      obtain ⟨⟨hnp, hk⟩, hlt⟩ := hsid
      subst hnp
      subst hk
      split at hx
      · split at hx
        · rename_i hst
          obtain ⟨hL', hnl⟩ := zz_st1_some hst
          subst hL'
          exact lv_astore hexec hb (zz_d hdec rfl rfl) hL.has hlt rfl (fun ls' hl' => go _ _ _ ls' hx (hL.of_has (fun v e => by cases e; rfl) hnl hl'))
        · cases hx
      · cases hx
    · simp only [zz_sid, Bool.and_eq_true, Bool.or_eq_true, decide_eq_true_eq, zz_beq, zz_blt, Bool.not_eq_true'] at hsid
      obtain ⟨⟨hnp, hk⟩, hlt⟩ := hsid
      subst hnp
      split at hx
      · split at hx
        · rename_i hst
          obtain ⟨hL', hnl⟩ := zz_st2_some hst
          subst hL'
          exact lv_lstore_n hexec hb (zz_d hdec rfl rfl) hk hL.has hlt rfl (fun ls' hl' => go _ _ _ ls' hx (hL.of_has2 hnl hl'))
        · cases hx
      · cases hx
    · simp only [zz_sid, Bool.and_eq_true, Bool.or_eq_true, decide_eq_true_eq, zz_beq, zz_blt, Bool.not_eq_true'] at hsid
      obtain ⟨⟨hnp, hk⟩, hlt⟩ := hsid
      subst hnp
      subst hk
      split at hx
      · split at hx
        · rename_i hst
          obtain ⟨hL', hnl⟩ := zz_st2_some hst
          subst hL'
          exact lv_lstore hexec hb (zz_d hdec rfl rfl) hL.has hlt rfl (fun ls' hl' => go _ _ _ ls' hx (hL.of_has2 hnl hl'))
        · cases hx
      · cases hx
    · simp only [zz_sid, Bool.and_eq_true, Bool.or_eq_true, decide_eq_true_eq, zz_beq, zz_blt, Bool.not_eq_true'] at hsid
      obtain ⟨⟨⟨hnp, hk⟩, hlt⟩, hc9⟩ := hsid
      subst hnp
      subst hk
      split at hx
      · rename_i x hg
        split at hx
        · rename_i hst
          obtain ⟨hL', hnl⟩ := zz_st1_some hst
          subst hL'
          have hh := hL.has
          have hh2 : lv_has ls nm.2.2.1 ((_, Value.int x) :: zz_as 0 (L.map (Option.map (zz_tr (zz_ra b base sa))))) := ⟨hh.1, hh.2.1, fun q hq => by
            rcases List.mem_cons.mp hq with rfl | hq
            · exact hL.get hg
            · exact hh.2.2 q hq⟩
          exact lv_iinc (k := 0) hexec hb (zz_d hdec rfl rfl) hh2 rfl (by rw [hc9]) hlt rfl (fun ls' hl' => go _ _ _ ls' hx (hL.of_has (w := Value.int (x + kc)) (fun v e => by cases e; rfl) hnl (by simpa using hl')))
        · cases hx
      · cases hx
    · simp only [zz_sid, Bool.and_eq_true, Bool.or_eq_true, decide_eq_true_eq, zz_beq, zz_blt, Bool.not_eq_true'] at hsid
      subst hsid
      split at hx
      · exact lv_ineg hexec hb (zz_d hdec rfl rfl) (go _ _ _ _ hx hL)
      · cases hx
    · simp only [zz_sid, Bool.and_eq_true, Bool.or_eq_true, decide_eq_true_eq, zz_beq, zz_blt, Bool.not_eq_true'] at hsid
      subst hsid
      split at hx
      · obtain ⟨h0, hx⟩ := zz_bifn hx
        exact lv_idiv hexec hb (zz_d hdec rfl rfl) (of_decide_eq_false h0) (go _ _ _ _ hx hL)
      · cases hx
    · simp only [zz_sid, Bool.and_eq_true, Bool.or_eq_true, decide_eq_true_eq, zz_beq, zz_blt, Bool.not_eq_true'] at hsid
      subst hsid
      split at hx
      · obtain ⟨h0, hx⟩ := zz_bifn hx
        exact lv_irem hexec hb (zz_d hdec rfl rfl) (of_decide_eq_false h0) (go _ _ _ _ hx hL)
      · cases hx
    · simp only [zz_sid, Bool.and_eq_true, Bool.or_eq_true, decide_eq_true_eq, zz_beq, zz_blt, Bool.not_eq_true'] at hsid
      subst hsid
      split at hx
      · exact lv_lshl hexec hb (zz_d hdec rfl rfl) rfl (go _ _ _ _ hx hL)
      · cases hx
    · simp only [zz_sid, Bool.and_eq_true, Bool.or_eq_true, decide_eq_true_eq, zz_beq, zz_blt, Bool.not_eq_true'] at hsid
      subst hsid
      split at hx
      · exact lv_lushr hexec hb (zz_d hdec rfl rfl) rfl (go _ _ _ _ hx hL)
      · cases hx
    · simp only [zz_sid, Bool.and_eq_true, Bool.or_eq_true, decide_eq_true_eq, zz_beq, zz_blt, Bool.not_eq_true'] at hsid
      subst hsid
      split at hx
      · exact W.lcmp hexec hb (zz_d hdec rfl rfl) (go _ _ _ _ hx hL)
      · cases hx
    · simp only [zz_sid, Bool.and_eq_true, Bool.or_eq_true, decide_eq_true_eq, zz_beq, zz_blt, Bool.not_eq_true'] at hsid
      subst hsid
      split at hx
      · exact lv_i2l hexec hb (zz_d hdec rfl rfl) rfl (go _ _ _ _ hx hL)
      · cases hx
    · simp only [zz_sid, Bool.and_eq_true, Bool.or_eq_true, decide_eq_true_eq, zz_beq, zz_blt, Bool.not_eq_true'] at hsid
      subst hsid
      split at hx
      · exact lv_l2i hexec hb (zz_d hdec rfl rfl) rfl (go _ _ _ _ hx hL)
      · cases hx
    · simp only [zz_sid, Bool.and_eq_true, Bool.or_eq_true, decide_eq_true_eq, zz_beq, zz_blt, Bool.not_eq_true'] at hsid
      subst hsid
      split at hx
      · obtain ⟨h0, hx⟩ := zz_bif hx
        exact lv_dup hexec hb (zz_d hdec rfl rfl) (by rw [zz_tr_cat]; exact zz_beq.mp h0) (go _ _ _ _ hx hL)
      · cases hx
    · simp only [zz_sid, Bool.and_eq_true, Bool.or_eq_true, decide_eq_true_eq, zz_beq, zz_blt, Bool.not_eq_true'] at hsid
      subst hsid
      split at hx
      · obtain ⟨h0, hx⟩ := zz_bif hx
        exact lv_pop hexec hb (zz_d hdec rfl rfl) (by rw [zz_tr_cat]; exact zz_beq.mp h0) (go _ _ _ _ hx hL)
      · cases hx
    · simp only [zz_sid, Bool.and_eq_true, Bool.or_eq_true, decide_eq_true_eq, zz_beq, zz_blt, Bool.not_eq_true'] at hsid
      subst hsid
      split at hx
      · obtain ⟨h0, hx⟩ := zz_bif hx
        rw [Bool.and_eq_true] at h0
        exact lv_dup2_11 hexec hb (zz_d hdec rfl rfl) (by rw [zz_tr_cat]; exact zz_beq.mp h0.1) (by rw [zz_tr_cat]; exact zz_beq.mp h0.2) (go _ _ _ _ hx hL)
      · cases hx
    · simp only [zz_sid, Bool.and_eq_true, Bool.or_eq_true, decide_eq_true_eq, zz_beq, zz_blt, Bool.not_eq_true'] at hsid
      obtain ⟨hnp, ht⟩ := hsid
      subst hnp
      split at hx
      · rcases zz_bifs hx with ⟨hc9, hx9⟩ | ⟨hc9, hx9⟩
        · skip
          revert hdec hc9
          cases ‹ClassFile.Cond›
          all_goals intro hdec hc9
          · exact lv_if_eq hexec hb (zz_d hdec rfl rfl) ht (fun _ => go _ _ _ _ hx9 hL) (fun hq => absurd (of_decide_eq_true hc9) hq)
          · exact lv_if_ne hexec hb (zz_d hdec rfl rfl) ht (fun _ => go _ _ _ _ hx9 hL) (fun hq => absurd hq (by have h9 : (!decide _) = true := hc9; simpa using h9))
          · exact lv_if_lt hexec hb (zz_d hdec rfl rfl) ht (fun _ => go _ _ _ _ hx9 hL) (fun hq => absurd (of_decide_eq_true hc9) hq)
          · exact lv_if_ge hexec hb (zz_d hdec rfl rfl) ht (fun _ => go _ _ _ _ hx9 hL) (fun hq => absurd (of_decide_eq_true hc9) hq)
          · exact lv_if_gt hexec hb (zz_d hdec rfl rfl) ht (fun _ => go _ _ _ _ hx9 hL) (fun hq => absurd (of_decide_eq_true hc9) hq)
          · exact lv_if_le hexec hb (zz_d hdec rfl rfl) ht (fun _ => go _ _ _ _ hx9 hL) (fun hq => absurd (of_decide_eq_true hc9) hq)
        · skip
          revert hdec hc9
          cases ‹ClassFile.Cond›
          all_goals intro hdec hc9
          · exact lv_if_eq hexec hb (zz_d hdec rfl rfl) ht (fun hq => absurd hq (of_decide_eq_false hc9)) (fun _ => go _ _ _ _ hx9 hL)
          · exact lv_if_ne hexec hb (zz_d hdec rfl rfl) ht (fun hq => absurd (by have h9 : (!decide _) = false := hc9; simpa using h9) hq) (fun _ => go _ _ _ _ hx9 hL)
          · exact lv_if_lt hexec hb (zz_d hdec rfl rfl) ht (fun hq => absurd hq (of_decide_eq_false hc9)) (fun _ => go _ _ _ _ hx9 hL)
          · exact lv_if_ge hexec hb (zz_d hdec rfl rfl) ht (fun hq => absurd hq (of_decide_eq_false hc9)) (fun _ => go _ _ _ _ hx9 hL)
          · exact lv_if_gt hexec hb (zz_d hdec rfl rfl) ht (fun hq => absurd hq (of_decide_eq_false hc9)) (fun _ => go _ _ _ _ hx9 hL)
          · exact lv_if_le hexec hb (zz_d hdec rfl rfl) ht (fun hq => absurd hq (of_decide_eq_false hc9)) (fun _ => go _ _ _ _ hx9 hL)
      · cases hx
    · simp only [zz_sid, Bool.and_eq_true, Bool.or_eq_true, decide_eq_true_eq, zz_beq, zz_blt, Bool.not_eq_true'] at hsid
      obtain ⟨hnp, ht⟩ := hsid
      subst hnp
      split at hx
      · rcases zz_bifs hx with ⟨hc9, hx9⟩ | ⟨hc9, hx9⟩
        · skip
          revert hdec hc9
          cases ‹ClassFile.Cond›
          all_goals intro hdec hc9
          · exact lv_icmp_eq hexec hb (zz_d hdec rfl rfl) ht (fun _ => go _ _ _ _ hx9 hL) (fun hq => absurd (of_decide_eq_true hc9) hq)
          · exact lv_icmp_ne hexec hb (zz_d hdec rfl rfl) ht (fun _ => go _ _ _ _ hx9 hL) (fun hq => absurd hq (by have h9 : (!decide _) = true := hc9; simpa using h9))
          · exact lv_icmp_lt hexec hb (zz_d hdec rfl rfl) ht (fun _ => go _ _ _ _ hx9 hL) (fun hq => absurd (of_decide_eq_true hc9) hq)
          · exact lv_icmp_ge hexec hb (zz_d hdec rfl rfl) ht (fun _ => go _ _ _ _ hx9 hL) (fun hq => absurd (of_decide_eq_true hc9) hq)
          · exact lv_icmp_gt hexec hb (zz_d hdec rfl rfl) ht (fun _ => go _ _ _ _ hx9 hL) (fun hq => absurd (of_decide_eq_true hc9) hq)
          · exact lv_icmp_le hexec hb (zz_d hdec rfl rfl) ht (fun _ => go _ _ _ _ hx9 hL) (fun hq => absurd (of_decide_eq_true hc9) hq)
        · skip
          revert hdec hc9
          cases ‹ClassFile.Cond›
          all_goals intro hdec hc9
          · exact lv_icmp_eq hexec hb (zz_d hdec rfl rfl) ht (fun hq => absurd hq (of_decide_eq_false hc9)) (fun _ => go _ _ _ _ hx9 hL)
          · exact lv_icmp_ne hexec hb (zz_d hdec rfl rfl) ht (fun hq => absurd (by have h9 : (!decide _) = false := hc9; simpa using h9) hq) (fun _ => go _ _ _ _ hx9 hL)
          · exact lv_icmp_lt hexec hb (zz_d hdec rfl rfl) ht (fun hq => absurd hq (of_decide_eq_false hc9)) (fun _ => go _ _ _ _ hx9 hL)
          · exact lv_icmp_ge hexec hb (zz_d hdec rfl rfl) ht (fun hq => absurd hq (of_decide_eq_false hc9)) (fun _ => go _ _ _ _ hx9 hL)
          · exact lv_icmp_gt hexec hb (zz_d hdec rfl rfl) ht (fun hq => absurd hq (of_decide_eq_false hc9)) (fun _ => go _ _ _ _ hx9 hL)
          · exact lv_icmp_le hexec hb (zz_d hdec rfl rfl) ht (fun hq => absurd hq (of_decide_eq_false hc9)) (fun _ => go _ _ _ _ hx9 hL)
      · cases hx
    · simp only [zz_sid, Bool.and_eq_true, Bool.or_eq_true, decide_eq_true_eq, zz_beq, zz_blt, Bool.not_eq_true'] at hsid
      obtain ⟨hnp, ht⟩ := hsid
      subst hnp
      exact lv_goto hexec hb (zz_d hdec rfl rfl) ht (go _ _ _ _ hx hL)
    · simp only [zz_sid, Bool.and_eq_true, decide_eq_true_eq, List.all_eq_true] at hsid
      obtain ⟨h1, h2⟩ := hsid
      split at hx
      · rcases zz_bifs hx with ⟨hc9, hx⟩ | ⟨hc9, hx⟩
        · rw [Bool.or_eq_true, decide_eq_true_eq, decide_eq_true_eq] at hc9
          exact lv_tableOut hexec hb hdec hc9 (by rw [Int.toNat_of_nonneg h1]) (go _ _ _ _ hx hL)
        · rw [Bool.or_eq_false_iff, decide_eq_false_iff_not, decide_eq_false_iff_not] at hc9
          split at hx
          · rename_i o ho
            exact lv_tableIn hexec hb hdec hc9.1 hc9.2 ho (by rw [Int.toNat_of_nonneg (h2 o (Array.mem_toList_iff.mpr (Array.mem_of_getElem? ho)))]) (go _ _ _ _ hx hL)
          · cases hx
      · cases hx
    all_goals sorry
