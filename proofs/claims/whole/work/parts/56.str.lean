/-! THE TEXTS' METHODS: String.length, String.charAt and what they call. -/
def zs_cod : zz_NM := (⟨"java/lang/String", "coder", "()B"⟩, prog_25_method_152_code, 1, some .byte, [], false)
def zs_len : zz_NM := (⟨"java/lang/String", "length", "()I"⟩, prog_25_method_54_code, 1, some .int, [], false)
def zs_lat : zz_NM := (⟨"java/lang/String", "isLatin1", "()Z"⟩, prog_25_method_154_code, 1, some .boolean, [], false)
def zs_chr : zz_NM := (⟨"java/lang/String", "charAt", "(I)C"⟩, prog_25_method_56_code, 2, some .char, [], false)
def zs_l1 : zz_NM := (⟨"java/lang/StringLatin1", "charAt", "([BI)C"⟩, prog_26_method_2_code, 2, some .char, [], true)
def zs_chk : zz_NM := (⟨"java/lang/String", "checkIndex", "(II)V"⟩, prog_25_method_155_code, 2, none, [], true)
def zs_pre : zz_NM := (⟨"jdk/internal/util/Preconditions", "checkIndex", "(IILjava/util/function/BiFunction;)I"⟩, prog_34_method_11_code, 3, some .int, [], true)
theorem zs_words : (∀ n ∈ [zs_cod, zs_len, zs_lat, zs_chr, zs_l1, zs_chk, zs_pre], zz_cw n ∈ zz_ws ∧ Cond.initialized n.1.cls ∈ zz_ws) ∧ (∀ n ∈ [zs_cod, zs_len, zs_lat, zs_chr], Cond.instanceMethod n.1 ∈ zz_ws ∧ Cond.selects "java/lang/String" n.1 n.1 ∈ zz_ws) ∧ (∀ n ∈ [zs_l1, zs_chk, zs_pre], Cond.static n.1 ∈ zz_ws) := by decide +kernel
theorem zs_kval : Cond.fieldLink "java/lang/String" 9 "java/lang/String" "value" "[B" ∈ zz_ws := by decide +kernel
theorem zs_kcod : Cond.fieldLink "java/lang/String" 15 "java/lang/String" "coder" "B" ∈ zz_ws := by decide +kernel
theorem zs_kcmp : Cond.fieldLink "java/lang/String" 38 "java/lang/String" "COMPACT_STRINGS" "Z" ∈ zz_ws := by decide +kernel
theorem zs_kfmt : Cond.fieldLink "java/lang/String" 1053 "jdk/internal/util/Preconditions" "SIOOBE_FORMATTER" "Ljava/util/function/BiFunction;" ∈ zz_ws := by decide +kernel
theorem zs_kmcod : Cond.methodLink "java/lang/String" 335 zs_cod.1 ∈ zz_ws := by decide +kernel
theorem zs_kmlat : Cond.methodLink "java/lang/String" 492 zs_lat.1 ∈ zz_ws := by decide +kernel
theorem zs_kml1 : Cond.methodLink "java/lang/String" 495 zs_l1.1 ∈ zz_ws := by decide +kernel
theorem zs_kmchk : Cond.methodLink "java/lang/StringLatin1" 9 zs_chk.1 ∈ zz_ws := by decide +kernel
theorem zs_kmpre : Cond.methodLink "java/lang/String" 1059 zs_pre.1 ∈ zz_ws := by decide +kernel
theorem zs_let : ∀ t ∈ zz_S, t.length < 1000 ∧ ∀ x ∈ t, ((x &&& 255).toUInt32 % 65536).toInt32 = x ∧ x.toUInt32.toUInt16.toUInt32.toInt32 = x := by decide +kernel
theorem zs_memD {t : List Int32} {k : Nat} (h : k < t.length) : t.getD k 0 ∈ t := by
  rw [List.getD_eq_getElem?_getD, List.getElem?_eq_getElem h]
  exact List.getElem_mem h
theorem zs_lenS : zz_S.length = zz_sk.length := by decide +kernel
section ZS
variable {l : Launch} {D : va_G} {cI cZ cL cS : ClassId} {b base : Nat} {sa : Nat → Nat} {L0 : Nat} {xs0 : Nat → Int32}
/-- a contract: the answer, and no cell is written -/
def zs_Met (l : Launch) (nm : zz_NM) (d : Nat) (Pc : Array Value → State → Prop) (v : Option Value) : Prop :=
  Met l nm.1 (zz_cw nm :: zz_ws) { frames := d, cells := 0, slots := 0, locals := 64 * d } Pc (fun _ st o t => o = .returned v ∧ t.heap = st.heap) 0 0 (fun _ => False)
def zs_P (D : va_G) (cI cZ cL cS : ClassId) (b base : Nat) (sa : Nat → Nat) (L0 : Nat) (xs0 : Nat → Int32) (vs : List Value) (X : State → Prop) : Array Value → State → Prop := fun a U => a = vs.toArray ∧ zz_G D cI cZ cL cS b base sa L0 xs0 U ∧ X U
/-- what is kept while the heap below base and the tables are -/
def zs_K (base : Nat) (X : State → Prop) : Prop := ∀ s U : State, X s → s.WarmedH U.vm → (∀ q : Nat, q < base → U.heap[q]? = s.heap[q]?) → X U
theorem zs_blind {vs : List Value} {X : State → Prop} (hX : zs_K base X) : FrameBlind (zs_P D cI cZ cL cS b base sa L0 xs0 vs X) := fun a U g mk hp => ⟨hp.1, hp.2.1.go (U := U.calling g mk a) (State.WarmedH.refl U) (fun _ _ => rfl) hp.2.1.2.2.2.2.1.2.1, hX U _ hp.2.2 (State.WarmedH.refl U) (fun _ _ => rfl)⟩
theorem zs_pre' {vs : List Value} {X : State → Prop} (hX : zs_K base X) {s : State} {H : Heap} {locs : List Loc} (hG : zz_G D cI cZ cL cS b base sa L0 xs0 s) (hx : X s) (hS : va_S (fun z => base ≤ z) s.heap H locs) : ∀ U : State, U.heap = H → s.WarmedH U.vm → zs_P D cI cZ cL cS b base sa L0 xs0 vs X vs.toArray U := by
  intro U hU hW
  have h5 := hG.2.2.2.2.1
  have hq : ∀ q : Nat, q < base → U.heap[q]? = s.heap[q]? := fun q hq => by rw [hU]; exact hS.2.1 q (by omega) (by show ¬ base ≤ q; omega)
  exact ⟨rfl, hG.go hW hq (by rw [hU]; exact Nat.le_trans h5.2.1 hS.1), hX s U hx hW hq⟩
theorem zs_kT : zs_K base (fun _ => True) := fun _ _ _ _ _ => True.intro
theorem zs_kA {av N : Nat} {f : Nat → Value} (hb : True) : zs_K base (fun U => va_T .byte av N f (fun z => base ≤ z) U U.heap) := fun s U h hW hq => va_T.moved hW.alike (h.kept (fun a _ hn => hq a (Nat.lt_of_not_le hn)))
theorem zs_cb {own : String} {nm : zz_NM} {n ix d : Nat} {R : Room} {s : State} {args : Array Value} (hts : ∀ w ∈ zz_ws, w.before args s = true) (h0 : nm.2.2.2.2.1 = []) (hw : zz_cw nm ∈ zz_ws ∧ Cond.initialized nm.1.cls ∈ zz_ws) (hlink : Cond.methodLink own ix nm.1 ∈ zz_ws) (hy : nm.1.cls ≠ "java/lang/invoke/MethodHandle" ∧ nm.1.cls ≠ "java/lang/invoke/VarHandle") (hp : (parseMethodDescriptor nm.1.desc).map (fun d => d.parameters.length) = some n) (hf : d + 1 ≤ R.frames) (hl : 8 + (nm.2.2.1 + 11) + 64 * d ≤ R.locals) :
    CallB R s args own ix nm.1 nm.2.1 nm.2.2.1 nm.2.2.2.1 (zz_cw nm :: zz_ws) { frames := d, cells := 0, slots := 0, locals := 64 * d } 0 0 n := by
  have hcw : zz_cw nm = Cond.code nm.1 nm.2.1 nm.2.2.1 nm.2.2.2.1 := by unfold zz_cw; rw [h0]
  refine ⟨rfl, rfl, hf, hl, fun w hw9 a' U hW => ?_, by rw [hcw]; exact List.mem_cons_self, by rw [← hcw]; exact hts _ hw.1, hts _ hw.2, hy, fun sig hsig => ?_, hts _ hlink⟩
  · have hw8 : w ∈ zz_ws := by
      rcases List.mem_cons.mp hw9 with e | e
      · rw [e]; exact hw.1
      · exact e
    exact word_at hW (zz_ws_good w hw8).2 (hts w hw8)
  · rw [hsig] at hp
    exact (Option.some.inj hp).symm
theorem zs_go {p : Program} {e : Env} {R : Room} {s : State} {m : MethodId} {args : Array Value} {below : List Frame} {meth : Method} {c : Code} {H : Heap} {locs : List Loc} {cells slots pc : Nat} {ls : Array Slot} {st0 rest : List Value} {v : Option Value} {Q : State → Prop}
    (hr : va_Run p l e R s m args below meth c H locs cells slots 0 0 (F0 m pc ls st0) rest (fun st o t => o = .returned v ∧ t.heap = st.heap) (fun _ => False)) (kk : W p l e R s m args below meth c H locs cells slots Q (F0 m (pc + 3) ls (v.toList ++ rest))) : W p l e R s m args below meth c H locs cells slots Q (F0 m pc ls st0) := by
  intro T hT X
  obtain ⟨v', st₀, t, T', L, h0, X', hL, e1, e2, ⟨hv, hh⟩, st⟩ := hr T hT X
  cases hv
  have hn : L = [] := List.eq_nil_iff_forall_not_mem.mpr fun q hq => hL q hq
  subst hn
  rw [List.append_nil] at X'
  obtain ⟨t2, a1, b1⟩ := kk T' (by rw [e1, hh, h0]) X'
  exact ⟨t2, st t2 a1, b1⟩
theorem zs_dcod : decode zs_cod.2.1 0 = .ok (.getstatic 38, 3) ∧ decode zs_cod.2.1 3 = .ok (.ifCond .eq 10, 3) ∧ decode zs_cod.2.1 6 = .ok (.aload_n 0, 1) ∧ decode zs_cod.2.1 7 = .ok (.getfield 15, 3) ∧ decode zs_cod.2.1 10 = .ok (.goto 4, 3) ∧ decode zs_cod.2.1 14 = .ok (.ireturn, 1) := by decide +kernel
theorem zs_dlen : decode zs_len.2.1 0 = .ok (.aload_n 0, 1) ∧ decode zs_len.2.1 1 = .ok (.getfield 9, 3) ∧ decode zs_len.2.1 4 = .ok (.arraylength, 1) ∧ decode zs_len.2.1 5 = .ok (.aload_n 0, 1) ∧ decode zs_len.2.1 6 = .ok (.invokevirtual 335, 3) ∧ decode zs_len.2.1 9 = .ok (.ishr, 1) ∧ decode zs_len.2.1 10 = .ok (.ireturn, 1) := by decide +kernel
theorem zs_dlat : decode zs_lat.2.1 0 = .ok (.getstatic 38, 3) ∧ decode zs_lat.2.1 3 = .ok (.ifCond .eq 14, 3) ∧ decode zs_lat.2.1 6 = .ok (.aload_n 0, 1) ∧ decode zs_lat.2.1 7 = .ok (.getfield 15, 3) ∧ decode zs_lat.2.1 10 = .ok (.ifCond .ne 7, 3) ∧ decode zs_lat.2.1 13 = .ok (.iconst 1, 1) ∧ decode zs_lat.2.1 14 = .ok (.goto 4, 3) ∧ decode zs_lat.2.1 18 = .ok (.ireturn, 1) := by decide +kernel
theorem zs_dchr : decode zs_chr.2.1 0 = .ok (.aload_n 0, 1) ∧ decode zs_chr.2.1 1 = .ok (.invokevirtual 492, 3) ∧ decode zs_chr.2.1 4 = .ok (.ifCond .eq 12, 3) ∧ decode zs_chr.2.1 7 = .ok (.aload_n 0, 1) ∧ decode zs_chr.2.1 8 = .ok (.getfield 9, 3) ∧ decode zs_chr.2.1 11 = .ok (.iload_n 1, 1) ∧ decode zs_chr.2.1 12 = .ok (.invokestatic 495, 3) ∧ decode zs_chr.2.1 15 = .ok (.ireturn, 1) := by decide +kernel
theorem zs_dl1 : decode zs_l1.2.1 0 = .ok (.iload_n 1, 1) ∧ decode zs_l1.2.1 1 = .ok (.aload_n 0, 1) ∧ decode zs_l1.2.1 2 = .ok (.arraylength, 1) ∧ decode zs_l1.2.1 3 = .ok (.invokestatic 9, 3) ∧ decode zs_l1.2.1 6 = .ok (.aload_n 0, 1) ∧ decode zs_l1.2.1 7 = .ok (.iload_n 1, 1) ∧ decode zs_l1.2.1 8 = .ok (.baload, 1) ∧ decode zs_l1.2.1 9 = .ok (.sipush 255, 3) ∧ decode zs_l1.2.1 12 = .ok (.iand, 1) ∧ decode zs_l1.2.1 13 = .ok (.i2c, 1) ∧ decode zs_l1.2.1 14 = .ok (.ireturn, 1) := by decide +kernel
theorem zs_dchk : decode zs_chk.2.1 0 = .ok (.iload_n 0, 1) ∧ decode zs_chk.2.1 1 = .ok (.iload_n 1, 1) ∧ decode zs_chk.2.1 2 = .ok (.getstatic 1053, 3) ∧ decode zs_chk.2.1 5 = .ok (.invokestatic 1059, 3) ∧ decode zs_chk.2.1 8 = .ok (.pop, 1) ∧ decode zs_chk.2.1 9 = .ok (.return_, 1) := by decide +kernel
theorem zs_dpre : decode zs_pre.2.1 0 = .ok (.iload_n 0, 1) ∧ decode zs_pre.2.1 1 = .ok (.ifCond .lt 8, 3) ∧ decode zs_pre.2.1 4 = .ok (.iload_n 0, 1) ∧ decode zs_pre.2.1 5 = .ok (.iload_n 1, 1) ∧ decode zs_pre.2.1 6 = .ok (.if_icmp .lt 10, 3) ∧ decode zs_pre.2.1 16 = .ok (.iload_n 0, 1) ∧ decode zs_pre.2.1 17 = .ok (.ireturn, 1) := by decide +kernel
theorem zs_coder {j ix : Nat} {own : String} (hj : zz_sk[j]? = some (own, ix)) : zs_Met l zs_cod 0 (zs_P D cI cZ cL cS b base sa L0 xs0 [.ref (sa j)] (fun _ => True)) (some (.int 0)) := by
  refine Met.ofW (cc := zs_cod.2.1) (maxL := 1) (ret := some .byte) (by decide) rfl ?_
  intro p e s m args below meth c s₁ B hml hv
  obtain ⟨rfl, hG, hX⟩ := hv
  have hx := B.exec
  have hb := B.bytes
  have hr := B.returns
  have hts0 := atoms_spec (ws := zz_cw zs_cod :: zz_ws) B.pre
  have hts : ∀ w ∈ zz_ws, w.before _ s = true := fun w hw => hts0 w (List.mem_cons_of_mem _ hw)
  have hown : s.vm.findClass zs_cod.1.cls = some m.cls := findClass_of_methodNamed B.named
  have hlocks := B.notSynchronized
  have hS : va_S (fun z => base ≤ z) s.heap s.heap [] := va_S.rf
  have hl := lv_entry [.ref (sa j)] (n := 1) (Nat.le_of_ble_eq_true rfl)
  rw [lg_entry_eq]
  generalize (lg_sl [.ref (sa j)] ++ List.replicate (1 - (lg_sl [.ref (sa j)]).length) Slot.unset).toArray = ls at hl ⊢
  have hl : lv_has ls 1 [(0, .ref (sa j))] := hl
  obtain ⟨d0, d3, d6, d7, d10, d14⟩ := zs_dcod
  obtain ⟨-, av, hO, hC, hV, hT⟩ := hG.2.2.2.2.2.1 j own ix hj
  refine va_gets hx hb hG.2.2.2.2.2.2.2.1 hS hown (hts _ zs_kcmp) (fun x h => h) d0 ?_
  refine lv_if_eq hx hb d3 (tgt := 13) rfl (fun h => absurd h (by decide)) (fun _ => ?_)
  refine lv_aload_n hx hb d6 rfl (lv_at hl 0 rfl) ?_
  refine vk_getf hx hb hC hS hown (hts _ zs_kcod) (fun x h => h) d7 ?_
  refine lv_goto hx hb d10 (tgt := 14) rfl ?_
  exact W.zret hx hb hr (by decide) (fun t ht _ => ⟨rfl, ht⟩) (fun q hq => by cases hq) d14 hlocks
theorem zs_isLat {j ix : Nat} {own : String} (hj : zz_sk[j]? = some (own, ix)) : zs_Met l zs_lat 0 (zs_P D cI cZ cL cS b base sa L0 xs0 [.ref (sa j)] (fun _ => True)) (some (.int 1)) := by
  refine Met.ofW (cc := zs_lat.2.1) (maxL := 1) (ret := some .boolean) (by decide) rfl ?_
  intro p e s m args below meth c s₁ B hml hv
  obtain ⟨rfl, hG, hX⟩ := hv
  have hx := B.exec
  have hb := B.bytes
  have hr := B.returns
  have hts0 := atoms_spec (ws := zz_cw zs_lat :: zz_ws) B.pre
  have hts : ∀ w ∈ zz_ws, w.before _ s = true := fun w hw => hts0 w (List.mem_cons_of_mem _ hw)
  have hown : s.vm.findClass zs_lat.1.cls = some m.cls := findClass_of_methodNamed B.named
  have hlocks := B.notSynchronized
  have hS : va_S (fun z => base ≤ z) s.heap s.heap [] := va_S.rf
  have hl := lv_entry [.ref (sa j)] (n := 1) (Nat.le_of_ble_eq_true rfl)
  rw [lg_entry_eq]
  generalize (lg_sl [.ref (sa j)] ++ List.replicate (1 - (lg_sl [.ref (sa j)]).length) Slot.unset).toArray = ls at hl ⊢
  have hl : lv_has ls 1 [(0, .ref (sa j))] := hl
  obtain ⟨d0, d3, d6, d7, d10, d13, d14, d18⟩ := zs_dlat
  obtain ⟨-, av, hO, hC, hV, hT⟩ := hG.2.2.2.2.2.1 j own ix hj
  refine va_gets hx hb hG.2.2.2.2.2.2.2.1 hS hown (hts _ zs_kcmp) (fun x h => h) d0 ?_
  refine lv_if_eq hx hb d3 (tgt := 17) rfl (fun h => absurd h (by decide)) (fun _ => ?_)
  refine lv_aload_n hx hb d6 rfl (lv_at hl 0 rfl) ?_
  refine vk_getf hx hb hC hS hown (hts _ zs_kcod) (fun x h => h) d7 ?_
  refine lv_if_ne hx hb d10 (tgt := 17) rfl (fun h => absurd rfl h) (fun _ => ?_)
  refine lv_iconst (v := 1) hx hb d13 (by decide) ?_
  refine lv_goto hx hb d14 (tgt := 18) rfl ?_
  exact W.zret hx hb hr (by decide) (fun t ht _ => ⟨rfl, ht⟩) (fun q hq => by cases hq) d18 hlocks
theorem zs_length {j ix : Nat} {own : String} (hj : zz_sk[j]? = some (own, ix)) : zs_Met l zs_len 1 (zs_P D cI cZ cL cS b base sa L0 xs0 [.ref (sa j)] (fun _ => True)) (some (.int (Int32.ofNat (zz_S.getD j []).length))) := by
  refine Met.ofW (cc := zs_len.2.1) (maxL := 1) (ret := some .int) (by decide) rfl ?_
  intro p e s m args below meth c s₁ B hml hv
  obtain ⟨rfl, hG, hX⟩ := hv
  have hx := B.exec
  have hb := B.bytes
  have hr := B.returns
  have hts0 := atoms_spec (ws := zz_cw zs_len :: zz_ws) B.pre
  have hts : ∀ w ∈ zz_ws, w.before _ s = true := fun w hw => hts0 w (List.mem_cons_of_mem _ hw)
  have hown : s.vm.findClass zs_len.1.cls = some m.cls := findClass_of_methodNamed B.named
  have hlocks := B.notSynchronized
  have hS : va_S (fun z => base ≤ z) s.heap s.heap [] := va_S.rf
  have hl := lv_entry [.ref (sa j)] (n := 1) (Nat.le_of_ble_eq_true rfl)
  rw [lg_entry_eq]
  generalize (lg_sl [.ref (sa j)] ++ List.replicate (1 - (lg_sl [.ref (sa j)]).length) Slot.unset).toArray = ls at hl ⊢
  have hl : lv_has ls 1 [(0, .ref (sa j))] := hl
  obtain ⟨d0, d1, d4, d5, d6, d9, d10⟩ := zs_dlen
  obtain ⟨-, av, hO, hC, hV, hT⟩ := hG.2.2.2.2.2.1 j own ix hj
  refine lv_aload_n hx hb d0 rfl (lv_at hl 0 rfl) ?_
  refine vk_getf hx hb hV hS hown (hts _ zs_kval) (fun x h => h) d1 ?_
  refine va_tlen hx hb hT hS rfl d4 ?_
  refine lv_aload_n hx hb d5 rfl (lv_at hl 0 rfl) ?_
  refine zs_go (va_runV (n := 0) (As := []) (C := "java/lang/String") (b := sa j) (rest := [.int (Int32.ofNat (zz_S.getD j []).length)]) ⟨hx, hb, hml, hown, hts⟩ (zs_coder (D := D) (cI := cI) (cZ := cZ) (cL := cL) (cS := cS) (b := b) (base := base) (sa := sa) (L0 := L0) (xs0 := xs0) hj) ⟨zs_cb hts rfl (zs_words.1 _ (by simp)) zs_kmcod (by decide) (by decide +kernel) (Nat.le_refl _) (by decide), hts _ (zs_words.2.1 zs_cod (by simp)).1, hts _ (zs_words.2.1 zs_cod (by simp)).2⟩ ⟨zs_blind zs_kT, va_Orecv hO hS, zs_pre' zs_kT hG True.intro hS⟩ rfl rfl hl.1 rfl (by show 2 * 0 + 1 ≤ 8; decide) d6 ⟨Nat.le_refl _, Nat.le_refl _⟩) ?_
  refine lv_ishr hx hb d9 ?_
  refine lv_topi (fun f1 e1 => ?_)
  have e2 : f1 = Int32.ofNat (zz_S.getD j []).length := by
    rw [e1]
    have e3 : ((0 : Int32) &&& 31) = 0 := by decide
    rw [e3]
    simp
  subst e2
  exact W.iret hx hb hr (fun t ht _ => ⟨rfl, ht⟩) (fun q hq => by cases hq) d10 hlocks
theorem zs_preIdx {i n : Int32} {v : Value} (hv : v = .null ∨ ∃ t : Nat, v = .ref t) (h0 : ¬ i < 0) (h1 : i < n) : zs_Met l zs_pre 0 (zs_P D cI cZ cL cS b base sa L0 xs0 [.int i, .int n, v] (fun _ => True)) (some (.int i)) := by
  have key : ∀ v : Value, v.category = 1 → (lg_sl [.int i, .int n, v]).length ≤ 3 → (∀ ls, lv_has ls 3 (lv_args 0 [.int i, .int n, v]) → lv_has ls 3 [(0, .int i), (1, .int n)]) → zs_Met l zs_pre 0 (zs_P D cI cZ cL cS b base sa L0 xs0 [.int i, .int n, v] (fun _ => True)) (some (.int i)) := by
    intro v hc hlen hsub
    refine Met.ofW (cc := zs_pre.2.1) (maxL := 3) (ret := some .int) (by decide) rfl ?_
    intro p e s m args below meth c s₁ B hml hv
    obtain ⟨rfl, hG, hX⟩ := hv
    have hx := B.exec
    have hb := B.bytes
    have hr := B.returns
    have hts0 := atoms_spec (ws := zz_cw zs_pre :: zz_ws) B.pre
    have hts : ∀ w ∈ zz_ws, w.before _ s = true := fun w hw => hts0 w (List.mem_cons_of_mem _ hw)
    have hown : s.vm.findClass zs_pre.1.cls = some m.cls := findClass_of_methodNamed B.named
    have hlocks := B.notSynchronized
    have hS : va_S (fun z => base ≤ z) s.heap s.heap [] := va_S.rf
    have hl := lv_entry [.int i, .int n, v] (n := 3) hlen
    rw [lg_entry_eq]
    generalize (lg_sl [.int i, .int n, v] ++ List.replicate (3 - (lg_sl [.int i, .int n, v]).length) Slot.unset).toArray = ls at hl ⊢
    have hl := hsub _ hl
    obtain ⟨d0, d1, d4, d5, d6, d16, d17⟩ := zs_dpre
    refine lv_iload_n hx hb d0 rfl (lv_at hl 0 rfl) ?_
    refine lv_if_lt hx hb d1 (tgt := 9) rfl (fun h => absurd h h0) (fun _ => ?_)
    refine lv_iload_n hx hb d4 rfl (lv_at hl 0 rfl) ?_
    refine lv_iload_n hx hb d5 rfl (lv_at hl 1 rfl) ?_
    refine lv_icmp_lt hx hb d6 (tgt := 16) rfl (fun _ => ?_) (fun h => absurd h1 h)
    refine lv_iload_n hx hb d16 rfl (lv_at hl 0 rfl) ?_
    exact W.iret hx hb hr (fun t ht _ => ⟨rfl, ht⟩) (fun q hq => by cases hq) d17 hlocks
  rcases hv with rfl | ⟨t, rfl⟩
  · exact key _ rfl (Nat.le_of_ble_eq_true rfl) (fun ls h => lv_sub h [0, 1] rfl)
  · exact key _ rfl (Nat.le_of_ble_eq_true rfl) (fun ls h => lv_sub h [0, 1] rfl)
theorem zs_chkIdx {i n : Int32} (h0 : ¬ i < 0) (h1 : i < n) : zs_Met l zs_chk 1 (zs_P D cI cZ cL cS b base sa L0 xs0 [.int i, .int n] (fun _ => True)) none := by
  refine Met.ofW (cc := zs_chk.2.1) (maxL := 2) (ret := none) (by decide) rfl ?_
  intro p e s m args below meth c s₁ B hml hv
  obtain ⟨rfl, hG, hX⟩ := hv
  have hx := B.exec
  have hb := B.bytes
  have hr := B.returns
  have hts0 := atoms_spec (ws := zz_cw zs_chk :: zz_ws) B.pre
  have hts : ∀ w ∈ zz_ws, w.before _ s = true := fun w hw => hts0 w (List.mem_cons_of_mem _ hw)
  have hown : s.vm.findClass zs_chk.1.cls = some m.cls := findClass_of_methodNamed B.named
  have hlocks := B.notSynchronized
  have hS : va_S (fun z => base ≤ z) s.heap s.heap [] := va_S.rf
  have hl := lv_entry [.int i, .int n] (n := 2) (Nat.le_of_ble_eq_true rfl)
  rw [lg_entry_eq]
  generalize (lg_sl [.int i, .int n] ++ List.replicate (2 - (lg_sl [.int i, .int n]).length) Slot.unset).toArray = ls at hl ⊢
  have hl : lv_has ls 2 [(0, .int i), (1, .int n)] := hl
  obtain ⟨d0, d1, d2, d5, d8, d9⟩ := zs_dchk
  have hZ : ∃ v : Value, (v = .null ∨ ∃ t : Nat, v = .ref t) ∧ v.category = 1 ∧ va_Z "jdk/internal/util/Preconditions" "SIOOBE_FORMATTER" "Ljava/util/function/BiFunction;" v (fun z => base ≤ z) s s.heap := by
    rcases hG.2.2.2.2.2.2.2.2.1 with h | ⟨t, h⟩
    · exact ⟨.null, Or.inl rfl, rfl, h⟩
    · exact ⟨.ref t, Or.inr ⟨t, rfl⟩, rfl, h⟩
  obtain ⟨v, hv, hvc, hZ⟩ := hZ
  refine lv_iload_n hx hb d0 rfl (lv_at hl 0 rfl) ?_
  refine lv_iload_n hx hb d1 rfl (lv_at hl 1 rfl) ?_
  refine va_gets hx hb hZ hS hown (hts _ zs_kfmt) (fun x h => h) d2 ?_
  refine zs_go (va_runS (n := 3) (As := [.int i, .int n, v]) (rest := []) ⟨hx, hb, hml, hown, hts⟩ (zs_preIdx (D := D) (cI := cI) (cZ := cZ) (cL := cL) (cS := cS) (b := b) (base := base) (sa := sa) (L0 := L0) (xs0 := xs0) hv h0 h1) ⟨zs_cb hts rfl (zs_words.1 _ (by simp)) zs_kmpre (by decide) (by decide +kernel) (Nat.le_refl _) (by decide), hts _ (zs_words.2.2 zs_pre (by simp))⟩ ⟨zs_blind zs_kT, zs_pre' zs_kT hG True.intro hS⟩ rfl rfl hl.1 rfl (by show 2 * 0 + 0 ≤ 8; decide) d5 ⟨Nat.le_refl _, Nat.le_refl _⟩) ?_
  refine lv_pop hx hb d8 rfl ?_
  exact W.vret hx hb hr (fun t ht _ => ⟨rfl, ht⟩) (fun q hq => by cases hq) d9 hlocks
theorem zs_inN {i : Int32} {n : Nat} (h : zz_in i n = true) (hn : n < 1000) : ¬ i < 0 ∧ i.toNatClampNeg < n ∧ i < Int32.ofNat n := by
  unfold zz_in at h
  rw [Bool.and_eq_true, decide_eq_true_eq, Bool.not_eq_true', decide_eq_false_iff_not] at h
  refine ⟨h.1, h.2, ?_⟩
  rw [Int32.lt_iff_toInt_lt, Int32.toInt_ofNat_of_lt (by omega)]
  have h2 : i.toInt.toNat < n := h.2
  omega
theorem zs_lat1 {av : Nat} {t : List Int32} (ht : t ∈ zz_S) {i : Int32} (hi : zz_in i t.length = true) : zs_Met l zs_l1 2 (zs_P D cI cZ cL cS b base sa L0 xs0 [.ref av, .int i] (fun U => va_T .byte av t.length (fun k => .int (t.getD k 0)) (fun z => base ≤ z) U U.heap)) (some (.int (t.getD i.toNatClampNeg 0))) := by
  obtain ⟨hlen, hlet⟩ := zs_let t ht
  obtain ⟨i0, i1, i2⟩ := zs_inN hi hlen
  refine Met.ofW (cc := zs_l1.2.1) (maxL := 2) (ret := some .char) (by decide) rfl ?_
  intro p e s m args below meth c s₁ B hml hv
  obtain ⟨rfl, hG, hX⟩ := hv
  have hx := B.exec
  have hb := B.bytes
  have hr := B.returns
  have hts0 := atoms_spec (ws := zz_cw zs_l1 :: zz_ws) B.pre
  have hts : ∀ w ∈ zz_ws, w.before _ s = true := fun w hw => hts0 w (List.mem_cons_of_mem _ hw)
  have hown : s.vm.findClass zs_l1.1.cls = some m.cls := findClass_of_methodNamed B.named
  have hlocks := B.notSynchronized
  have hS : va_S (fun z => base ≤ z) s.heap s.heap [] := va_S.rf
  have hl := lv_entry [.ref av, .int i] (n := 2) (Nat.le_of_ble_eq_true rfl)
  rw [lg_entry_eq]
  generalize (lg_sl [.ref av, .int i] ++ List.replicate (2 - (lg_sl [.ref av, .int i]).length) Slot.unset).toArray = ls at hl ⊢
  have hl : lv_has ls 2 [(0, .ref av), (1, .int i)] := hl
  obtain ⟨d0, d1, d2, d3, d6, d7, d8, d9, d12, d13, d14⟩ := zs_dl1
  refine lv_iload_n hx hb d0 rfl (lv_at hl 1 rfl) ?_
  refine lv_aload_n hx hb d1 rfl (lv_at hl 0 rfl) ?_
  refine va_tlen hx hb hX hS rfl d2 ?_
  refine zs_go (va_runS (n := 2) (As := [.int i, .int (Int32.ofNat t.length)]) (rest := []) ⟨hx, hb, hml, hown, hts⟩ (zs_chkIdx (D := D) (cI := cI) (cZ := cZ) (cL := cL) (cS := cS) (b := b) (base := base) (sa := sa) (L0 := L0) (xs0 := xs0) i0 i2) ⟨zs_cb hts rfl (zs_words.1 _ (by simp)) zs_kmchk (by decide) (by decide +kernel) (Nat.le_refl _) (by decide), hts _ (zs_words.2.2 zs_chk (by simp))⟩ ⟨zs_blind zs_kT, zs_pre' zs_kT hG True.intro hS⟩ rfl rfl hl.1 rfl (by show 2 * 0 + 0 ≤ 8; decide) d3 ⟨Nat.le_refl _, Nat.le_refl _⟩) ?_
  refine lv_aload_n hx hb d6 rfl (lv_at hl 0 rfl) ?_
  refine lv_iload_n hx hb d7 rfl (lv_at hl 1 rfl) ?_
  refine va_tb hx hb hX hS (i := i) (fun q => q.elim i0 (fun h => Nat.not_le.mpr i1 h)) rfl d8 ?_
  refine lv_sipush (v := 255) hx hb d9 (by decide) ?_
  refine lv_iand hx hb d12 ?_
  obtain ⟨c1, c4⟩ := hlet _ (zs_memD i1)
  refine lv_i2c hx hb d13 c1 ?_
  exact W.zret hx hb hr (by show Value.int _ = Value.int _; rw [c4]) (fun t ht _ => ⟨rfl, ht⟩) (fun q hq => by cases hq) d14 hlocks
theorem zs_charAt {j ix : Nat} {own : String} (hj : zz_sk[j]? = some (own, ix)) {i : Int32} (hm : zz_S.getD j [] ∈ zz_S) (hi : zz_in i (zz_S.getD j []).length = true) : zs_Met l zs_chr 3 (zs_P D cI cZ cL cS b base sa L0 xs0 [.ref (sa j), .int i] (fun _ => True)) (some (.int ((zz_S.getD j []).getD i.toNatClampNeg 0))) := by
  refine Met.ofW (cc := zs_chr.2.1) (maxL := 2) (ret := some .char) (by decide) rfl ?_
  intro p e s m args below meth c s₁ B hml hv
  obtain ⟨rfl, hG, hX⟩ := hv
  have hx := B.exec
  have hb := B.bytes
  have hr := B.returns
  have hts0 := atoms_spec (ws := zz_cw zs_chr :: zz_ws) B.pre
  have hts : ∀ w ∈ zz_ws, w.before _ s = true := fun w hw => hts0 w (List.mem_cons_of_mem _ hw)
  have hown : s.vm.findClass zs_chr.1.cls = some m.cls := findClass_of_methodNamed B.named
  have hlocks := B.notSynchronized
  have hS : va_S (fun z => base ≤ z) s.heap s.heap [] := va_S.rf
  have hl := lv_entry [.ref (sa j), .int i] (n := 2) (Nat.le_of_ble_eq_true rfl)
  rw [lg_entry_eq]
  generalize (lg_sl [.ref (sa j), .int i] ++ List.replicate (2 - (lg_sl [.ref (sa j), .int i]).length) Slot.unset).toArray = ls at hl ⊢
  have hl : lv_has ls 2 [(0, .ref (sa j)), (1, .int i)] := hl
  obtain ⟨d0, d1, d4, d7, d8, d11, d12, d15⟩ := zs_dchr
  obtain ⟨-, av, hO, hC, hV, hT⟩ := hG.2.2.2.2.2.1 j own ix hj
  refine lv_aload_n hx hb d0 rfl (lv_at hl 0 rfl) ?_
  refine zs_go (va_runV (n := 0) (As := []) (C := "java/lang/String") (b := sa j) (rest := []) ⟨hx, hb, hml, hown, hts⟩ (zs_isLat (D := D) (cI := cI) (cZ := cZ) (cL := cL) (cS := cS) (b := b) (base := base) (sa := sa) (L0 := L0) (xs0 := xs0) hj) ⟨zs_cb hts rfl (zs_words.1 _ (by simp)) zs_kmlat (by decide) (by decide +kernel) (by decide) (by decide), hts _ (zs_words.2.1 zs_lat (by simp)).1, hts _ (zs_words.2.1 zs_lat (by simp)).2⟩ ⟨zs_blind zs_kT, va_Orecv hO hS, zs_pre' zs_kT hG True.intro hS⟩ rfl rfl hl.1 rfl (by show 2 * 0 + 0 ≤ 8; decide) d1 ⟨Nat.le_refl _, Nat.le_refl _⟩) ?_
  refine lv_if_eq hx hb d4 (tgt := 16) rfl (fun h => absurd h (by decide)) (fun _ => ?_)
  refine lv_aload_n hx hb d7 rfl (lv_at hl 0 rfl) ?_
  refine vk_getf hx hb hV hS hown (hts _ zs_kval) (fun x h => h) d8 ?_
  refine lv_iload_n hx hb d11 rfl (lv_at hl 1 rfl) ?_
  refine zs_go (va_runS (n := 2) (As := [.ref av, .int i]) (rest := []) ⟨hx, hb, hml, hown, hts⟩ (zs_lat1 (D := D) (cI := cI) (cZ := cZ) (cL := cL) (cS := cS) (b := b) (base := base) (sa := sa) (L0 := L0) (xs0 := xs0) hm hi) ⟨zs_cb hts rfl (zs_words.1 _ (by simp)) zs_kml1 (by decide) (by decide +kernel) (Nat.le_refl _) (by decide), hts _ (zs_words.2.2 zs_l1 (by simp))⟩ ⟨zs_blind (zs_kA trivial), zs_pre' (zs_kA trivial) hG hT hS⟩ rfl rfl hl.1 rfl (by show 2 * 0 + 0 ≤ 8; decide) d12 ⟨Nat.le_refl _, Nat.le_refl _⟩) ?_
  have hlen := (zs_let _ hm).1
  have i1 := (zs_inN hi hlen).2.1
  obtain ⟨c1, c4⟩ := (zs_let _ hm).2 _ (zs_memD i1)
  exact W.zret hx hb hr (by show Value.int _ = Value.int _; rw [c4]) (fun t ht _ => ⟨rfl, ht⟩) (fun q hq => by cases hq) d15 hlocks
theorem zs_rule (l : Launch) (D : va_G) (cI cZ cL cS : ClassId) (b base : Nat) (sa : Nat → Nat) (L0 : Nat) (xs0 : Nat → Int32) : zz_StrRule l D cI cZ cL cS b base sa L0 xs0 := by
  intro nm p e R s mid args below meth c hC pc ix q t H locs cells slots ls rest Q hq hSt hS hf hlo hce hsl hsum hls hdec
  obtain ⟨hexec, hb, hml, hret, hlocks, hname, htab, hown, hts, hG⟩ := hC
  obtain ⟨j, rfl⟩ : ∃ j, q = 1000000 + j := ⟨q - 1000000, by omega⟩
  rw [show 1000000 + j - 1000000 = j by omega] at hSt
  have hjl : j < zz_sk.length := by rw [← zs_lenS]; exact (List.getElem?_eq_some_iff.mp hSt).1
  obtain ⟨⟨own, ix9⟩, hj⟩ : ∃ x, zz_sk[j]? = some x := ⟨_, List.getElem?_eq_getElem hjl⟩
  have hra : zz_ra b base sa (1000000 + j) = sa j := by
    rw [show 1000000 + j = (999999 + j) + 1 by omega]
    show (if 999999 + j < 999999 then _ else sa (999999 + j - 999999)) = _
    rw [if_neg (by omega), show 999999 + j - 999999 = j by omega]
  have hgd : zz_S.getD j [] = t := by rw [List.getD_eq_getElem?_getD, hSt]; rfl
  have htm : t ∈ zz_S := List.mem_of_getElem? hSt
  obtain ⟨-, av, hO, -⟩ := hG.2.2.2.2.2.1 j own ix9 hj
  rw [hra]
  refine ⟨fun hlk kk => ?_, fun i hi hlk kk => ?_⟩
  · have kk' := kk H locs rfl hS
    rw [← hgd] at kk'
    exact zs_go (va_runV (n := 0) (As := []) (C := "java/lang/String") (b := sa j) (rest := rest) ⟨hexec, hb, hml, hown, hts⟩ (zs_length (D := D) (cI := cI) (cZ := cZ) (cL := cL) (cS := cS) (b := b) (base := base) (sa := sa) (L0 := L0) (xs0 := xs0) hj) ⟨zs_cb hts rfl (zs_words.1 _ (by simp)) hlk (by decide) (by decide +kernel) (by omega) (by show 8 + (1 + 11) + 64 * 1 ≤ R.locals; omega), hts _ (zs_words.2.1 zs_len (by simp)).1, hts _ (zs_words.2.1 zs_len (by simp)).2⟩ ⟨zs_blind zs_kT, va_Orecv hO hS, zs_pre' zs_kT hG True.intro hS⟩ rfl rfl hls rfl (by show 2 * 0 + _ ≤ 8; omega) hdec ⟨hce, hsl⟩) kk'
  · have kk' := kk H locs rfl hS
    rw [← hgd] at kk' hi htm
    exact zs_go (va_runV (n := 1) (As := [.int i]) (C := "java/lang/String") (b := sa j) (rest := rest) ⟨hexec, hb, hml, hown, hts⟩ (zs_charAt (D := D) (cI := cI) (cZ := cZ) (cL := cL) (cS := cS) (b := b) (base := base) (sa := sa) (L0 := L0) (xs0 := xs0) hj htm hi) ⟨zs_cb hts rfl (zs_words.1 _ (by simp)) hlk (by decide) (by decide +kernel) (by omega) (by show 8 + (2 + 11) + 64 * 3 ≤ R.locals; omega), hts _ (zs_words.2.1 zs_chr (by simp)).1, hts _ (zs_words.2.1 zs_chr (by simp)).2⟩ ⟨zs_blind zs_kT, va_Orecv hO hS, zs_pre' zs_kT hG True.intro hS⟩ rfl rfl hls rfl (by show 2 * 0 + _ ≤ 8; omega) hdec ⟨hce, hsl⟩) kk'
end ZS
