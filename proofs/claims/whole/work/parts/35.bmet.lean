/-! A CALL: from the callee's body to its contract, and to the caller. -/
theorem zz_words_app : ∀ a b : List Value, zz_words (a ++ b) = zz_words a + zz_words b
  | [], b => by simp [zz_words]
  | v :: r, b => by rw [List.cons_append, zz_words, zz_words, zz_words_app r b]; omega
theorem zz_words_rev : ∀ a : List Value, zz_words a.reverse = zz_words a
  | [] => rfl
  | v :: r => by
    rw [List.reverse_cons, zz_words_app, zz_words_rev r, zz_words, zz_words, zz_words]; omega
section ZM
variable {l : Launch} {D : va_G} {cI cZ cL cS : ClassId} {b base : Nat} {sa : Nat → Nat} {L0 : Nat} {xs0 : Nat → Int32}
theorem zz_ofW {nm : zz_NM} (hy : plainFor nm.1 = true) {rm : Room} {Pc : Array Value → State → Prop} {Qc : Array Value → State → Outcome → State → Prop} {XC : String → State → State → Prop} {mc ms : Nat} {free : Addr → Prop}
    (body : ∀ (p : Program) (e : Env) (s : State) (m : MethodId) (args : Array Value) (below : List Frame) (meth : Method) (c : Code) (s₁ : State), BodyLoose p l nm.1 (headSpec (zz_cw nm :: zz_ws) rm) nm.2.1 nm.2.2.1 nm.2.2.2.1 e s m args below meth c s₁ → c.maxLocals = nm.2.2.1 → c.exceptionTable.toList = tableOf nm.2.2.2.2.1 → Pc args s →
      W p l e rm s m args below meth c s.heap [] 0 0 (vx_MQ below Qc XC args s mc ms free) (entryFrame m args nm.2.2.1)) : vx_Met l nm.1 (zz_cw nm :: zz_ws) rm Pc Qc XC mc ms free := by
  have key : ∀ (args : Array Value) (s : State) (m : MethodId), (headSpec (zz_cw nm :: zz_ws) rm).pre.before args s = true → s.methodNamed? nm.1 = some m → ∃ meth c, s.vm.method? m = some meth ∧ meth.code = some c ∧ c.code = nm.2.1 ∧ c.maxLocals = nm.2.2.1 ∧ meth.sig.returnType = nm.2.2.2.1 ∧ meth.locks = false ∧ c.exceptionTable.toList = tableOf nm.2.2.2.2.1 := by
    intro args s m h hn
    have hcw := atoms_spec (ws := zz_cw nm :: zz_ws) h (zz_cw nm) List.mem_cons_self
    unfold zz_cw at hcw
    split at hcw
    · rename_i h0
      obtain ⟨meth, c, h1, h2, h3, h4, h5, h6, h7, -⟩ := Cond.code_spec hn hcw
      refine ⟨meth, c, h1, h2, h3, h4, h5, h6, ?_⟩
      rw [h0, Array.isEmpty_iff.mp h7]
      rfl
    · rename_i h0
      obtain ⟨m9, meth, c, hn9, h1, h2, h3, h4, h7, h5, h6, -⟩ := Cond.codeWith_spec hcw
      cases hn.symm.trans hn9
      refine ⟨meth, c, h1, h2, h3, h4, h5, h6, ?_⟩
      rw [h0, ← h7, table_eq]
  refine MetFree.of_bodySF (code := nm.2.1) (maxLocals := nm.2.2.1) (ret := nm.2.2.2.1) hy ?_ ?_
  · intro args s m h hn
    obtain ⟨meth, c, h1, h2, h3, h4, h5, h6, -⟩ := key args s m h hn
    exact ⟨meth, c, h1, h2, h3, h4, h5, h6⟩
  · intro p e s m args below meth c s₁ B hml hP _
    have hh0 : s₁.heap = s.heap := by rw [B.state]; rfl
    obtain ⟨meth9, c9, h1, h2, -, -, -, -, h7⟩ := key args s m B.pre B.named
    cases Option.some.inj (h1.symm.trans B.method)
    cases Option.some.inj (h2.symm.trans (Stand.of_body B).code)
    obtain ⟨t, a1, o, b1, b2, b3⟩ := body p e s m args below meth c s₁ B hml h7 hP s₁ hh0 (Stand.of_body B)
    exact ⟨t, o, a1, b1, b2, b3⟩
theorem zz_met {f : Nat} (hB : zz_Bd l D cI cZ cL cS b base sa L0 xs0 f) {k : Nat} {m0 : zz_M} {nm : zz_NM} (hm : zz_P[k]? = some m0) (hn : zz_N[k]? = some nm) {d : Nat} {vs : List Value} {h h' : zz_H} {r : Option Value ⊕ Nat} (hx : zz_exec zz_P zz_S f (m0, d, 0, zz_args m0.2.1 vs, []) h = some (r, h')) (hw : zz_words vs ≤ m0.2.1) :
    vx_Met l nm.1 (zz_cw nm :: zz_ws) { frames := d, cells := zz_uc h' - zz_uc h, slots := zz_us h' - zz_us h, locals := 64 * d } (zz_Pc D cI cZ cL cS b base sa L0 xs0 vs h) (zz_Qc D cI cZ cL cS b base sa L0 xs0 r h') (zz_XC D cI cZ cL cS b base sa L0 xs0 r h') (zz_uc h' - zz_uc h) (zz_us h' - zz_us h) (fun z => base ≤ z) := by
  obtain ⟨g1, g2, g3, g4, g5⟩ := zz_meth_at hm hn
  obtain ⟨q1, q2⟩ := zz_exec_mono zz_P zz_S f _ _ _ _ hx
  refine zz_ofW g3 ?_
  intro p e s m args below meth c s₁ B hml htab hP
  obtain ⟨ha, hG, hR⟩ := hP
  have hts := atoms_spec (ws := zz_cw nm :: zz_ws) B.pre
  have hC : zz_Cx D cI cZ cL cS b base sa L0 xs0 nm p s m args meth c := ⟨B.exec, B.bytes, hml, B.returns, B.notSynchronized, (name_of_methodNamed B.named B.method).1, htab, findClass_of_methodNamed B.named, fun w hw => hts w (List.mem_cons_of_mem _ hw), hG⟩
  subst ha
  rw [lg_entry_eq]
  rw [g1] at hx hw
  exact hB k m0 nm hm hn p e _ s m _ below meth c hC d 0 _ [] h r h' s.heap [] 0 0 _ _ _ hx ⟨hR, zz_LR.entry (zz_ra b base sa) hw, va_S.rf, ⟨Nat.le_refl _, Nat.le_refl _, Nat.le_refl _, Nat.le_refl _⟩, zz_uc h, zz_us h, by omega, by omega, by omega, by omega⟩
theorem zz_blind (vs : List Value) (h : zz_H) : FrameBlind (zz_Pc D cI cZ cL cS b base sa L0 xs0 vs h) := fun a U g mk hp => ⟨hp.1, hp.2.1.go (U := U.calling g mk a) (State.WarmedH.refl U) (fun _ _ => rfl) hp.2.1.2.2.2.2.1.2.1, hp.2.2⟩
theorem zz_pre {s : State} {H : Heap} {locs : List Loc} {h : zz_H} {vs : List Value} (hG : zz_G D cI cZ cL cS b base sa L0 xs0 s) (hR : zz_HR D cI cZ cL cS b base sa L0 xs0 h H) (hS : va_S (fun z => base ≤ z) s.heap H locs) : ∀ U : State, U.heap = H → s.WarmedH U.vm → zz_Pc D cI cZ cL cS b base sa L0 xs0 vs h (vs.map (zz_tr (zz_ra b base sa))).toArray U := by
  intro U hU hW
  have h5 := hG.2.2.2.2.1
  refine ⟨rfl, hG.go hW (fun q hq => by rw [hU]; exact hS.2.1 q (by omega) (by show ¬ base ≤ q; omega)) (by rw [hU]; exact Nat.le_trans h5.2.1 hS.1), by rw [hU]; exact hR⟩
/-- the words of a call -/
theorem zz_cb {nm0 nm : zz_NM} {a n ix d : Nat} {R : Room} {s : State} {args : Array Value} {mc ms : Nat} (ha : a < 357) (hm : ∃ m0, zz_P[a]? = some m0) (hn : zz_N[a]? = some nm) (hts : ∀ w ∈ zz_ws, w.before args s = true) (h0 : nm.2.2.2.2.1 = []) (hlink : Cond.methodLink nm0.1.cls ix nm.1 ∈ zz_ws) (hp : (parseMethodDescriptor nm.1.desc).map (fun d => d.parameters.length) = some n) (hf : d + 1 ≤ R.frames) (hl : 64 * (d + 1) ≤ R.locals) :
    CallB R s args nm0.1.cls ix nm.1 nm.2.1 nm.2.2.1 nm.2.2.2.1 (zz_cw nm :: zz_ws) { frames := d, cells := mc, slots := ms, locals := 64 * d } mc ms n := by
  obtain ⟨m0, hm⟩ := hm
  obtain ⟨g1, g2, g3, g4, g5⟩ := zz_meth_at hm hn
  have hw := zz_mws ha hn
  have hcw : zz_cw nm = Cond.code nm.1 nm.2.1 nm.2.2.1 nm.2.2.2.1 := by unfold zz_cw; rw [h0]
  have hc1 : zz_cw nm ∈ zz_ws := hw _ (List.mem_append_left _ List.mem_cons_self)
  refine ⟨rfl, rfl, hf, by show 8 + (nm.2.2.1 + 11) + 64 * d ≤ R.locals; omega, fun w hw9 a' U hW => ?_, by rw [hcw]; exact List.mem_cons_self, by rw [← hcw]; exact hts _ hc1, hts _ (hw _ (List.mem_append_left _ (List.mem_cons_of_mem _ List.mem_cons_self))), g4, fun sig hsig => ?_, hts _ hlink⟩
  · have hw8 : w ∈ zz_ws := by
      rcases List.mem_cons.mp hw9 with e | e
      · rw [e]; exact hc1
      · exact e
    exact word_at hW (zz_ws_good w hw8).2 (hts w hw8)
  · rw [hsig] at hp
    exact (Option.some.inj hp).symm
theorem zz_csw {nm0 nm : zz_NM} {a n ix d : Nat} {R : Room} {s : State} {args : Array Value} {mc ms : Nat} (ha : a < 357) (hm : ∃ m0, zz_P[a]? = some m0) (hn : zz_N[a]? = some nm) (hts : ∀ w ∈ zz_ws, w.before args s = true) (h0 : nm.2.2.2.2.1 ≠ []) (hst : nm.2.2.2.2.2 = true) (hlink : Cond.methodLink nm0.1.cls ix nm.1 ∈ zz_ws) (hp : (parseMethodDescriptor nm.1.desc).map (fun d => d.parameters.length) = some n) (hf : d + 1 ≤ R.frames) (hl : 64 * (d + 1) ≤ R.locals) :
    vx_CSW R s args nm0.1.cls ix nm.1 nm.2.1 nm.2.2.1 nm.2.2.2.1 nm.2.2.2.2.1 (zz_cw nm :: zz_ws) { frames := d, cells := mc, slots := ms, locals := 64 * d } mc ms n := by
  obtain ⟨m0, hm⟩ := hm
  obtain ⟨g1, g2, g3, g4, g5⟩ := zz_meth_at hm hn
  have hw := zz_mws ha hn
  have hcw : zz_cw nm = Cond.codeWith nm.1 nm.2.1 nm.2.2.1 nm.2.2.2.1 nm.2.2.2.2.1 := by
    unfold zz_cw
    split
    · rename_i e; exact absurd e h0
    · rename_i e; rw [e]
  have hc1 : zz_cw nm ∈ zz_ws := hw _ (List.mem_append_left _ List.mem_cons_self)
  have hs1 : Cond.static nm.1 ∈ zz_ws := hw _ (List.mem_append_right _ (by rw [hst]; exact List.mem_cons_self))
  refine ⟨⟨rfl, rfl, hf, by show 8 + (nm.2.2.1 + 11) + 64 * d ≤ R.locals; omega, fun w hw9 a' U hW => ?_, by rw [hcw]; exact List.mem_cons_self⟩, by rw [← hcw]; exact hts _ hc1, hts _ (hw _ (List.mem_append_left _ (List.mem_cons_of_mem _ List.mem_cons_self))), g4, fun sig hsig => ?_, hts _ hlink, hts _ hs1⟩
  · have hw8 : w ∈ zz_ws := by
      rcases List.mem_cons.mp hw9 with e | e
      · rw [e]; exact hc1
      · exact e
    exact word_at hW (zz_ws_good w hw8).2 (hts w hw8)
  · rw [hsig] at hp
    exact (Option.some.inj hp).symm
/-- a callee that was entered, seen from the caller -/
theorem zz_run {f : Nat} (ih : zz_Bd l D cI cZ cL cS b base sa L0 xs0 f) {nm0 : zz_NM} {p : Program} {e : Env} {R : Room} {s : State} {mid : MethodId} {args : Array Value} {below : List Frame} {meth : Method} {c : Code} (hC : zz_Cx D cI cZ cL cS b base sa L0 xs0 nm0 p s mid args meth c)
    {i : Instr} {ix pc a b' d : Nat} {m' : zz_M} {nm : zz_NM} (hm : zz_P[a]? = some m') (hn : zz_N[a]? = some nm) (ha : a < 357) (hcalls : zz_calls i a b' = true) {st : List Value} {h h1 : zz_H} {r1 : Option Value ⊕ Nat} (hi : (i = .invokevirtual ix ∧ zz_rcv h st a b' = true) ∨ i = .invokestatic ix) (hlink : Cond.methodLink nm0.1.cls ix nm.1 ∈ zz_ws) (hdec : decode nm0.2.1 pc = .ok (i, 3))
    {H : Heap} {locs : List Loc} {cells slots : Nat} {ls : Array Slot} (hlen : b' ≤ st.length) (hw8 : zz_words (st.drop b') ≤ 8) (hwt : zz_words (st.take b') ≤ m'.2.1) (hx : zz_exec zz_P zz_S f (m', d, 0, zz_args m'.2.1 (st.take b').reverse, []) h = some (r1, h1)) (hR : zz_HR D cI cZ cL cS b base sa L0 xs0 h H) (hS : va_S (fun z => base ≤ z) s.heap H locs) (hls : ls.size = nm0.2.2.1) (hf : d + 1 ≤ R.frames) (hl : 64 * (d + 1) ≤ R.locals)
    (hroom : cells + (zz_uc h1 - zz_uc h) ≤ R.cells ∧ slots + (zz_us h1 - zz_us h) ≤ R.slots) :
    vx_Run p l e R s mid args below meth c H locs cells slots (zz_uc h1 - zz_uc h) (zz_us h1 - zz_us h) (F0 mid pc ls (st.map (zz_tr (zz_ra b base sa)))) ((st.drop b').map (zz_tr (zz_ra b base sa))) (zz_Qc D cI cZ cL cS b base sa L0 xs0 r1 h1 #[]) (zz_XC D cI cZ cL cS b base sa L0 xs0 r1 h1) (fun z => base ≤ z) := by
  obtain ⟨hexec, hb, hml, hret, hlocks, hname, htab, hown, hts, hG⟩ := hC
  have hM := zz_met ih hm hn hx (by rw [zz_words_rev]; exact hwt)
  have hsum : 2 * (F0 mid pc ls (st.map (zz_tr (zz_ra b base sa)))).monitorRoom + (((st.drop b').map (zz_tr (zz_ra b base sa))).map fun v => v.category).sum ≤ 8 := by
    rw [zz_words_tr]
    show 2 * 0 + _ ≤ 8
    omega
  unfold zz_calls at hcalls
  rw [hn] at hcalls
  dsimp only at hcalls
  rw [Bool.and_eq_true, Bool.and_eq_true, decide_eq_true_eq] at hcalls
  obtain ⟨⟨hp, hrb⟩, hkind⟩ := hcalls
  have hrb := zz_ble.mp hrb
  have hw := zz_mws ha hn
  rcases hi with ⟨rfl, hrc⟩ | rfl
  · dsimp only [zz_recv] at hp hrb hkind
    rw [Bool.and_eq_true, Bool.and_eq_true, decide_eq_true_eq] at hkind
    obtain ⟨⟨k1, k2⟩, k3⟩ := hkind
    have k1 : nm.2.2.2.2.2 = false := by simpa using k1
    have k2 : (nm.1.name == "<init>") = false := by simpa using k2
    have hwords : ∀ w ∈ [Cond.instanceMethod nm.1, Cond.selects nm.1.cls nm.1 nm.1], w ∈ zz_ws := fun w h9 => hw w (List.mem_append_right _ (by rw [k1, k2]; exact h9))
    unfold zz_rcv at hrc
    split at hrc
    · rename_i q hq
      split at hrc
      · rename_i cn _ hc9
        have hcn := zz_beq.mp hrc
        obtain ⟨c7, ccls⟩ := zz_rcs_at zz_N zz_RC zz_rcs_ok a nm hn k1
        rw [← hcn] at c7 ccls
        obtain ⟨-, -, cell, z1, z2, z3, -⟩ := zz_obj hR hc9 c7
        obtain ⟨C, T, N, ty, y1, y2, y3, -⟩ := zz_cls cn c7
        obtain ⟨-, hfc, -⟩ := hG.1.1 cn _ y1
        have hbl : b' - 1 < st.length := (List.getElem?_eq_some_iff.mp hq).1
        have htake : st.take b' = st.take (b' - 1) ++ [.ref q] := by
          have e1 : b' = (b' - 1) + 1 := by omega
          rw [e1, List.take_succ, hq]
          simp
        have hvs : ((st.take b').reverse).map (zz_tr (zz_ra b base sa)) = .ref (zz_ra b base sa q) :: ((st.take (b' - 1)).reverse).map (zz_tr (zz_ra b base sa)) := by
          rw [htake, List.reverse_append]
          rfl
        have hpre := zz_pre (vs := (st.take b').reverse) hG hR hS
        rw [hvs] at hpre
        exact vx_runV (As := ((st.take (b' - 1)).reverse).map (zz_tr (zz_ra b base sa))) (C := nm.1.cls) (b := zz_ra b base sa q) ⟨hexec, hb, hml, hown, hts⟩ hM ⟨zz_cb ha ⟨m', hm⟩ hn hts k3 hlink hp hf hl, hts _ (hwords _ List.mem_cons_self), hts _ (hwords _ (List.mem_cons_of_mem _ List.mem_cons_self))⟩ ⟨zz_blind _ _, ⟨cell, z1, by rw [z3]; rfl, by rw [z2, ← ccls, y3]; exact hfc⟩, hpre⟩ rfl (by rw [List.length_map, List.length_reverse, List.length_take]; omega) hls (by
          show st.map _ = _
          rw [← List.map_reverse, List.reverse_reverse]
          have e2 : st = st.take (b' - 1) ++ .ref q :: st.drop b' := by
            conv => lhs; rw [← List.take_append_drop b' st, htake]
            simp
          conv => lhs; rw [e2]
          rw [List.map_append]
          rfl) hsum hdec hroom
      · cases hrc
    · cases hrc
  · dsimp only [zz_recv] at hp hrb hkind
    have hpre := zz_pre (vs := (st.take b').reverse) hG hR hS
    have hst9 : st.map (zz_tr (zz_ra b base sa)) = (((st.take b').reverse).map (zz_tr (zz_ra b base sa))).reverse ++ (st.drop b').map (zz_tr (zz_ra b base sa)) := by
      rw [← List.map_reverse, List.reverse_reverse, ← List.map_append, List.take_append_drop]
    have hs1 : Cond.static nm.1 ∈ zz_ws := hw _ (List.mem_append_right _ (by rw [hkind]; exact List.mem_cons_self))
    cases h0 : nm.2.2.2.2.1 with
    | nil => exact vx_runS (As := ((st.take b').reverse).map (zz_tr (zz_ra b base sa))) ⟨hexec, hb, hml, hown, hts⟩ hM ⟨zz_cb ha ⟨m', hm⟩ hn hts h0 hlink hp hf hl, hts _ hs1⟩ ⟨zz_blind _ _, hpre⟩ rfl (by rw [List.length_map, List.length_reverse, List.length_take]; omega) hls hst9 hsum hdec hroom
    | cons q9 r9 => exact vx_runSX (hh := nm.2.2.2.2.1) (As := ((st.take b').reverse).map (zz_tr (zz_ra b base sa))) ⟨hexec, hb, hml, hown, hts⟩ hM (zz_csw ha ⟨m', hm⟩ hn hts (by rw [h0]; exact List.cons_ne_nil _ _) hkind hlink hp hf hl) ⟨zz_blind _ _, hpre⟩ rfl (by rw [List.length_map, List.length_reverse, List.length_take]; omega) hls hst9 hsum hdec hroom
end ZM
