/-! CONSTRUCTORS' CALLS, and the calls of the machine's own things. -/
theorem zz_ge8_le : ∀ {d : Nat}, zz_ge8 d = true → 8 ≤ d
  | 0, h => by cases h
  | 1, h => by cases h
  | 2, h => by cases h
  | 3, h => by cases h
  | 4, h => by cases h
  | 5, h => by cases h
  | 6, h => by cases h
  | 7, h => by cases h
  | _ + 8, _ => by omega
theorem zz_cn_law : ∀ c, c < 7 → zz_cn c ≠ "NeedleShopLaw" := by decide +kernel
section ZI
variable {l : Launch} {D : va_G} {cI cZ cL cS : ClassId} {b base : Nat} {sa : Nat → Nat} {L0 : Nat} {xs0 : Nat → Int32}
set_option maxHeartbeats 1000000 in
theorem zz_callI_case {f : Nat} (ih : zz_Bd l D cI cZ cL cS b base sa L0 xs0 f) {k : Nat} {m0 : zz_M} {nm : zz_NM} (hm : zz_P[k]? = some m0) (hn : zz_N[k]? = some nm) {p : Program} {e : Env} {R : Room} {s : State} {mid : MethodId} {args : Array Value} {below : List Frame} {meth : Method} {c : Code} (hC : zz_Cx D cI cZ cL cS b base sa L0 xs0 nm p s mid args meth c)
    {ix pc np a b' d : Nat} {L : List (Option Value)} {st : List Value} {h h' : zz_H} {r : Option Value ⊕ Nat} {H : Heap} {locs : List Loc} {cells slots mc ms : Nat} {ls : Array Slot} (hD : zz_Dy D cI cZ cL cS b base sa L0 xs0 nm R s d L h h' H locs cells slots mc ms ls)
    (hrc : zz_rcv h st a b' = true) (ha : a < 357) (hcalls : zz_calls (.invokespecial ix) a b' = true) (hlink : Cond.methodLink nm.1.cls ix (zz_nm a) ∈ zz_ws) (hdec : decode nm.2.1 pc = .ok (.invokespecial ix, 3)) (hnp : np = pc + 3) (hx : zz_callI zz_P (zz_exec zz_P zz_S f) m0 d np L st a b' h = some (r, h')) :
    W p l e R s mid args below meth c H locs cells slots (vx_MQ below (zz_Qc D cI cZ cL cS b base sa L0 xs0 r h') (zz_XC D cI cZ cL cS b base sa L0 xs0 r h') args s mc ms (fun z => base ≤ z)) (F0 mid pc ls (st.map (zz_tr (zz_ra b base sa)))) := by
  obtain ⟨hexec, hb, hml, hret, hlocks, hname, htab, hown, hts, hG⟩ := id hC
  obtain ⟨hR, hL, hS, hrm, u, v, n1, n2, n3, n4⟩ := hD
  subst hnp
  obtain ⟨nm', hn'⟩ : ∃ nm', zz_N[a]? = some nm' := by
    unfold zz_calls at hcalls
    cases hN : zz_N[a]? with
    | none => rw [hN] at hcalls; cases hcalls
    | some q => exact ⟨q, rfl⟩
  have hnm : zz_nm a = nm'.1 := by unfold zz_nm; rw [hn']
  rw [hnm] at hlink
  unfold zz_calls at hcalls
  rw [hn'] at hcalls
  dsimp only at hcalls
  rw [Bool.and_eq_true, Bool.and_eq_true, decide_eq_true_eq] at hcalls
  obtain ⟨⟨hp, hrb⟩, hkind⟩ := hcalls
  have hrb := zz_ble.mp hrb
  dsimp only [zz_recv] at hp hrb hkind
  rw [Bool.and_eq_true, Bool.and_eq_true, decide_eq_true_eq, decide_eq_true_eq] at hkind
  obtain ⟨⟨k1, k2⟩, k3⟩ := hkind
  have k1 : nm'.2.2.2.2.2 = false := by simpa using k1
  have hw := zz_mws ha hn'
  have hinst : Cond.instanceMethod nm'.1 ∈ zz_ws := hw _ (List.mem_append_right _ (by rw [k1, k2]; exact List.mem_cons_self))
  unfold zz_callI at hx
  obtain ⟨h1, hx⟩ := zz_bif hx
  rw [Bool.and_eq_true, zz_ble, zz_ble] at h1
  split at hx
  · rename_i d' m' hm' _
    obtain ⟨h2, hx⟩ := zz_bif hx
    have h2 := zz_ble.mp h2
    split at hx
    · rename_i h9 hcal
      obtain ⟨q1, q2⟩ := zz_exec_mono zz_P zz_S f _ _ _ _ hcal
      obtain ⟨q3, q4⟩ := zz_exec_mono zz_P zz_S f _ _ _ _ hx
      have hM0 := zz_met ih hm' hn' hcal (by rw [zz_words_rev]; exact h2)
      have hM : Met l nm'.1 (zz_cw nm' :: zz_ws) { frames := d', cells := zz_uc h9 - zz_uc h, slots := zz_us h9 - zz_us h, locals := 64 * d' } (zz_Pc D cI cZ cL cS b base sa L0 xs0 (st.take b').reverse h) (zz_Qc D cI cZ cL cS b base sa L0 xs0 (.inl none) h9) (zz_uc h9 - zz_uc h) (zz_us h9 - zz_us h) (fun z => base ≤ z) := by
        intro p e ha hc hk s m args below hf happ hP hK
        obtain ⟨n, o, a1, a2, a3, a4⟩ := hM0 p e ha hc hk s m args below hf happ hP hK
        refine ⟨n, o, a1, a2, a3, ?_⟩
        rcases a4 with a4 | ⟨q, -, E, ce, L, ⟨j, hj, -⟩, -⟩
        · exact a4
        · cases hj
      unfold zz_rcv at hrc
      split at hrc
      · rename_i q hq
        split at hrc
        · rename_i cn _ hc9
          have hcn := zz_beq.mp hrc
          obtain ⟨c7, ccls⟩ := zz_rcs_at zz_N zz_RC zz_rcs_ok a nm' hn' k1
          rw [← hcn] at c7 ccls
          have hnil : nm'.2.2.2.2.1 = [] := (zz_hpars_at zz_P zz_N zz_hpars_ok a m' nm' hm' hn').2.resolve_right (fun z => zz_cn_law cn c7 (by rw [ccls]; exact z))
          have hbl : b' - 1 < st.length := (List.getElem?_eq_some_iff.mp hq).1
          have htake : st.take b' = st.take (b' - 1) ++ [.ref q] := by
            have e1 : b' = (b' - 1) + 1 := by omega
            rw [e1, List.take_succ, hq]
            simp
          have hvs : ((st.take b').reverse).map (zz_tr (zz_ra b base sa)) = .ref (zz_ra b base sa q) :: ((st.take (b' - 1)).reverse).map (zz_tr (zz_ra b base sa)) := by
            rw [htake, List.reverse_append]
            rfl
          have hpre := zz_pre (vs := (st.take b').reverse) hG hR hS
          rw [hvs] at hpre
          have hcb := zz_cb (nm0 := nm) (ix := ix) (d := d') (R := R) (s := s) (args := args) (mc := zz_uc h9 - zz_uc h) (ms := zz_us h9 - zz_us h) ha ⟨m', hm'⟩ hn' hts hnil hlink hp (by omega) (by omega)
          rw [k3] at hcb
          have hsum : 2 * (F0 mid pc ls (st.map (zz_tr (zz_ra b base sa)))).monitorRoom + (((st.drop b').map (zz_tr (zz_ra b base sa))).map fun v => v.category).sum ≤ 8 := by
            rw [zz_words_tr]
            show 2 * 0 + _ ≤ 8
            omega
          have run := va_runI (meth := meth) (below := below) (e := e) (locs := locs) (cells := cells) (slots := slots) (As := ((st.take (b' - 1)).reverse).map (zz_tr (zz_ra b base sa))) (b := zz_ra b base sa q) (rest := (st.drop b').map (zz_tr (zz_ra b base sa))) (g := F0 mid pc ls (st.map (zz_tr (zz_ra b base sa)))) ⟨hexec, hb, hml, hown, hts⟩ hM ⟨hcb, k2, hts _ hinst⟩ ⟨zz_blind _ _, hpre⟩ rfl (by rw [List.length_map, List.length_reverse, List.length_take]; omega) hL.2.1 (by
            show st.map _ = _
            rw [← List.map_reverse, List.reverse_reverse]
            have e2 : st = st.take (b' - 1) ++ .ref q :: st.drop b' := by
              conv => lhs; rw [← List.take_append_drop b' st, htake]
              simp
            conv => lhs; rw [e2]
            rw [List.map_append]
            rfl) hsum hdec ⟨by omega, by omega⟩
          intro T hT X
          obtain ⟨w, st₀, t, T', Lc, h0, X', hLc, e1, e2, hq9, st1⟩ := run T hT X
          obtain ⟨v', hr1, hw9, hR1, hF⟩ := hq9
          cases hr1
          have hw9 : w = none := by cases hw9; rfl
          subst hw9
          obtain ⟨k1', k2', k3'⟩ := vx_keep (A0 := fun z => base ≤ z) (A1 := fun z => base ≤ z) h0 e1 hS (fun _ _ z => z) (fun _ z => z) hLc hF
          obtain ⟨t2, a1, b1⟩ := ih k m0 nm hm hn p e R s mid args below meth c hC (d' + 1) _ L _ h9 r h' T'.heap _ _ _ mc ms ls hx ⟨by rw [e1]; exact hR1, hL, k3', hrm, u, v, by omega, n2, by omega, n4⟩ T' rfl X'
          exact ⟨t2, st1 t2 a1, b1⟩
        · cases hrc
      · cases hrc
    · cases hx
  · cases hx
end ZI
theorem zz_w_obj : Cond.instanceMethod objectInit ∈ zz_ws ∧ Cond.code objectInit ⟨#[0xb1]⟩ 1 none ∈ zz_ws := by decide +kernel
