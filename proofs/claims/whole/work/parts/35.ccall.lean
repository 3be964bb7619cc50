/-! THE CALLER behind a call: it goes on, or its handler does, or it throws on. -/
def zz_cl5 : List (Nat × Nat) := [(13, 0), (15, 1), (24, 2), (26, 3), (42, 4)]
theorem zz_cl5_ok : ∀ q ∈ zz_cl5, q.1 ≠ 0 ∧ q.2 < 5 ∧ Cond.classLink "NeedleShopLaw" q.1 (zz_ex q.2) ∈ zz_ws := by decide +kernel
theorem zz_castE {args : Array Value} {s : State} {E : String} {k : ClassId} (h : s.vm.findClass E = some k) : (Cond.castable E E).before args s = true := by
  have h2 : s.vm.assignable k k = true := by
    show s.vm.assignableAux (255 + 1) k k = true
    rw [Vm.assignableAux, Bool.or_eq_true]
    exact Or.inl (by simp)
  simp [Cond.before, Cond.holds, Cond.value, h, h2]
/-- the two forms of a table of handlers -/
def zz_hpar : List (Nat × Nat × Nat × Nat) → List (Nat × Nat × Nat × Nat) → Bool
  | [], [] => true
  | x :: xs, y :: ys => (Nat.beq x.1 y.1 && Nat.beq x.2.1 y.2.1 && Nat.beq x.2.2.1 y.2.2.1 && zz_cl5.contains (y.2.2.2, x.2.2.2) && xs.all (fun z => Nat.beq z.1 x.1 && Nat.beq z.2.1 x.2.1)) && zz_hpar xs ys
  | _, _ => false
def zz_hpars : List zz_M → List zz_NM → Bool
  | [], [] => true
  | m :: ms, n :: ns => (zz_hpar m.2.2 n.2.2.2.2.1 && (n.2.2.2.2.1.isEmpty || decide (n.1.cls = "NeedleShopLaw"))) && zz_hpars ms ns
  | _, _ => false
theorem zz_hpars_ok : zz_hpars zz_P zz_N = true := by decide +kernel
theorem zz_hpars_at : ∀ (P : List zz_M) (N : List zz_NM), zz_hpars P N = true → ∀ (k : Nat) (m0 : zz_M) (nm : zz_NM), P[k]? = some m0 → N[k]? = some nm → zz_hpar m0.2.2 nm.2.2.2.2.1 = true ∧ (nm.2.2.2.2.1 = [] ∨ nm.1.cls = "NeedleShopLaw")
  | [], _, _, k, m0, nm, h1, _ => by simp at h1
  | m :: ms, [], h, k, m0, nm, _, h2 => by simp at h2
  | m :: ms, n :: ns, h, k, m0, nm, h1, h2 => by
    rw [zz_hpars, Bool.and_eq_true] at h
    cases k with
    | zero =>
      cases h1
      cases h2
      have h3 := h.1
      rw [Bool.and_eq_true, Bool.or_eq_true, decide_eq_true_eq] at h3
      exact ⟨h3.1, h3.2.elim (fun z => Or.inl (List.isEmpty_iff.mp z)) Or.inr⟩
    | succ k => exact zz_hpars_at ms ns h.2 k m0 nm (by simpa using h1) (by simpa using h2)
theorem zz_hand_split {pc j hp : Nat} : ∀ (hs raw : List (Nat × Nat × Nat × Nat)), zz_hpar hs raw = true → zz_hand hs pc j = some hp → ∃ (pre : List ExceptionTableEntry) (x : ExceptionTableEntry) (suf : List ExceptionTableEntry), tableOf raw = pre ++ x :: suf ∧ x.handlerPc = hp ∧ covers x pc = true ∧ (x.catchType, j) ∈ zz_cl5 ∧ ∀ z ∈ pre, covers z pc = true ∧ ∃ jz, (z.catchType, jz) ∈ zz_cl5 ∧ jz ≠ j
  | [], raw, h, hh => by cases hh
  | x :: xs, [], h, hh => by simp [zz_hpar] at h
  | x :: xs, y :: ys, h, hh => by
    rw [zz_hpar, Bool.and_eq_true] at h
    obtain ⟨h1, h2⟩ := h
    simp only [Bool.and_eq_true, List.all_eq_true, zz_beq] at h1
    obtain ⟨⟨⟨⟨a1, a2⟩, a3⟩, a4⟩, a5⟩ := h1
    have a4 : (y.2.2.2, x.2.2.2) ∈ zz_cl5 := List.contains_iff_mem.mp a4
    unfold zz_hand at hh
    rcases zz_bifs hh with ⟨c1, c2⟩ | ⟨c1, c2⟩
    · simp only [Bool.and_eq_true, zz_beq, zz_ble, zz_blt] at c1
      obtain ⟨⟨b1, b2⟩, b3⟩ := c1
      refine ⟨[], ⟨y.1, y.2.1, y.2.2.1, y.2.2.2⟩, tableOf ys, rfl, by rw [← a3]; exact Option.some.inj c2, by simp [covers]; omega, by rw [← b3]; exact a4, fun z hz => by cases hz⟩
    · obtain ⟨pre, x9, suf, e1, e2, e3, e4, e5⟩ := zz_hand_split xs ys h2 c2
      have hcov : x.1 ≤ pc ∧ pc < x.2.1 := by
        have : ∃ z ∈ xs, z.1 ≤ pc ∧ pc < z.2.1 := by
          clear e1 e2 e3 e4 e5 h2 a5 c1 hh
          induction xs with
          | nil => cases c2
          | cons w ws ih =>
            unfold zz_hand at c2
            rcases zz_bifs c2 with ⟨c1, -⟩ | ⟨-, c2⟩
            · simp only [Bool.and_eq_true, zz_beq, zz_ble, zz_blt] at c1
              exact ⟨w, List.mem_cons_self, c1.1⟩
            · obtain ⟨z, hz, hz2⟩ := ih c2
              exact ⟨z, List.mem_cons_of_mem _ hz, hz2⟩
        obtain ⟨z, hz, hz2⟩ := this
        have := a5 z hz
        omega
      have hne : x.2.2.2 ≠ j := by
        intro e
        simp only [Bool.and_eq_false_iff] at c1
        rcases c1 with (c1 | c1) | c1
        · exact absurd (zz_ble.mpr hcov.1) (by rw [c1]; exact Bool.false_ne_true)
        · exact absurd (zz_blt.mpr hcov.2) (by rw [c1]; exact Bool.false_ne_true)
        · exact absurd (zz_beq.mpr e) (by rw [c1]; exact Bool.false_ne_true)
      refine ⟨⟨y.1, y.2.1, y.2.2.1, y.2.2.2⟩ :: pre, x9, suf, by rw [List.cons_append, ← e1]; rfl, e2, e3, e4, fun z hz => ?_⟩
      rcases List.mem_cons.mp hz with rfl | hz
      · exact ⟨by simp [covers]; omega, x.2.2.2, a4, hne⟩
      · exact e5 z hz
section ZK
variable {l : Launch} {D : va_G} {cI cZ cL cS : ClassId} {b base : Nat} {sa : Nat → Nat} {L0 : Nat} {xs0 : Nat → Int32}
set_option maxHeartbeats 1000000 in
theorem zz_call_case (hrows : zz_rowsOk) {f : Nat} (ih : zz_Bd l D cI cZ cL cS b base sa L0 xs0 f) {k : Nat} {m0 : zz_M} {nm : zz_NM} (hm : zz_P[k]? = some m0) (hn : zz_N[k]? = some nm) {p : Program} {e : Env} {R : Room} {s : State} {mid : MethodId} {args : Array Value} {below : List Frame} {meth : Method} {c : Code} (hC : zz_Cx D cI cZ cL cS b base sa L0 xs0 nm p s mid args meth c)
    {i : Instr} {ix pc np a b' d : Nat} {L : List (Option Value)} {st : List Value} {h h' : zz_H} {r : Option Value ⊕ Nat} {H : Heap} {locs : List Loc} {cells slots mc ms : Nat} {ls : Array Slot} (hD : zz_Dy D cI cZ cL cS b base sa L0 xs0 nm R s d L h h' H locs cells slots mc ms ls)
    (hi : (i = .invokevirtual ix ∧ zz_rcv h st a b' = true) ∨ i = .invokestatic ix) (ha : a < 357) (hcalls : zz_calls i a b' = true) (hlink : Cond.methodLink nm.1.cls ix (zz_nm a) ∈ zz_ws) (hdec : decode nm.2.1 pc = .ok (i, 3)) (hnp : np = pc + 3) (hx : zz_call zz_P (zz_exec zz_P zz_S f) m0 d pc np L st a b' h = some (r, h')) :
    W p l e R s mid args below meth c H locs cells slots (vx_MQ below (zz_Qc D cI cZ cL cS b base sa L0 xs0 r h') (zz_XC D cI cZ cL cS b base sa L0 xs0 r h') args s mc ms (fun z => base ≤ z)) (F0 mid pc ls (st.map (zz_tr (zz_ra b base sa)))) := by
  obtain ⟨hexec, hb, hml, hret, hlocks, hname, htab, hown, hts, hG⟩ := id hC
  obtain ⟨hR, hL, hS, hrm, u, v, n1, n2, n3, n4⟩ := hD
  subst hnp
  obtain ⟨nm', hn'⟩ : ∃ nm', zz_N[a]? = some nm' := by
    unfold zz_calls at hcalls
    cases hN : zz_N[a]? with
    | none => rw [hN] at hcalls; cases hcalls
    | some q => exact ⟨q, rfl⟩
  have hnm : zz_nm a = nm'.1 := by unfold zz_nm; rw [hn']
  rw [hnm] at hlink
  unfold zz_call at hx
  obtain ⟨h1, hx⟩ := zz_bif hx
  rw [Bool.and_eq_true, zz_ble, zz_ble] at h1
  split at hx
  · skip
    rename_i d' m' hm' _
    obtain ⟨h2, hx⟩ := zz_bif hx
    have h2 := zz_ble.mp h2
    cases hcal : zz_exec zz_P zz_S f (m', d', 0, zz_args m'.2.1 (st.take b').reverse, []) h with
    | none => rw [hcal] at hx; cases hx
    | some rr =>
      obtain ⟨r1, h1'⟩ := rr
      rw [hcal] at hx
      obtain ⟨q1, q2⟩ := zz_exec_mono zz_P zz_S f _ _ _ _ hcal
      obtain ⟨q3, q4⟩ := zz_after_mono (h := h1') (zz_exec_mono zz_P zz_S f) (fun r9 h9 e9 => by cases e9; exact zz_le.rf _) hx
      have run := zz_run ih hC (below := below) (e := e) (R := R) (locs := locs) (cells := cells) (slots := slots) (ls := ls) hm' hn' ha hcalls hi hlink hdec h1.1 h1.2 h2 hcal hR hS hL.2.1 (by omega) (by omega) ⟨by omega, by omega⟩
      intro T hT X
      rcases run T hT X with ⟨w, st₀, t, T', Lc, h0, X', hLc, e1, e2, hq, st1⟩ | ⟨q, st₀, t, T', Lc, E, ce, h0, X', hLc, e1, e2, hXC, hce, hcv, hcl, st1⟩
      · obtain ⟨v', hr1, hw, hR1, hF⟩ := hq
        have hw : w = v'.map (zz_tr (zz_ra b base sa)) := by cases hw; rfl
        subst hr1
        subst hw
        obtain ⟨k1, k2, k3⟩ := vx_keep (A0 := fun z => base ≤ z) (A1 := fun z => base ≤ z) h0 e1 hS (fun _ _ z => z) (fun _ z => z) hLc hF
        have D1 : ∀ ls9, zz_LR (zz_ra b base sa) ls9 nm.2.2.1 L → zz_Dy D cI cZ cL cS b base sa L0 xs0 nm R s (d' + 1) L h1' h' T'.heap (locs ++ Lc) (cells + (zz_uc h1' - zz_uc h)) (slots + (zz_us h1' - zz_us h)) mc ms ls9 := fun ls9 e9 => ⟨by rw [e1]; exact hR1, e9, k3, hrm, u, v, by omega, n2, by omega, n4⟩
        cases v' with
        | none =>
          obtain ⟨t2, a1, b1⟩ := ih k m0 nm hm hn p e R s mid args below meth c hC (d' + 1) _ L _ h1' r h' T'.heap _ _ _ mc ms ls hx (D1 ls hL) T' rfl X'
          exact ⟨t2, st1 t2 a1, b1⟩
        | some vv =>
          obtain ⟨t2, a1, b1⟩ := ih k m0 nm hm hn p e R s mid args below meth c hC (d' + 1) _ L _ h1' r h' T'.heap _ _ _ mc ms ls hx (D1 ls hL) T' rfl X'
          exact ⟨t2, st1 t2 a1, b1⟩
      · obtain ⟨j, hr1, hj5, hE, hR1, hF⟩ := hXC
        subst hr1
        subst hE
        obtain ⟨k1, k2, k3⟩ := vx_keep (A0 := fun z => base ≤ z) (A1 := fun z => base ≤ z) h0 e1 hS (fun _ _ z => z) (fun _ z => z) hLc hF
        have hce' : T'.heap[q]? = some ce := by rw [e1]; exact hce
        have hx : zz_thrown (zz_exec zz_P zz_S f) m0 (d' + 1) pc L j h1' = some (r, h') := hx
        unfold zz_thrown at hx
        split at hx
        · obtain ⟨hz, hx⟩ := zz_bif hx
          have hz := zz_beq.mp hz
          cases hx
          have hnil : nm.2.2.2.2.1 = [] := by
            have := (zz_meth_at hm hn).2.2.2.2
            exact List.eq_nil_of_length_eq_zero (by omega)
          have K : vx_W p l e R s mid args below meth c T'.heap (locs ++ Lc) (cells + (zz_uc h' - zz_uc h)) (slots + (zz_us h' - zz_us h)) (vx_MQ below (zz_Qc D cI cZ cL cS b base sa L0 xs0 (.inr j) h') (zz_XC D cI cZ cL cS b base sa L0 xs0 (.inr j) h') args s mc ms (fun z => base ≤ z)) (F0 mid pc ls ((st.drop b').map (zz_tr (zz_ra b base sa)))) q :=
            vx_out (E := zz_ex j) (ce := ce) (by rw [htab, hnil]; intro x hx9; cases hx9) hlocks hce' hcv hcl (fun t9 ht9 hv9 => ⟨j, rfl, hj5, rfl, by rw [ht9, e1]; exact hR1, k3.F ht9⟩) k3.2.2 (by omega) (by omega)
          obtain ⟨t2, a1, b1⟩ := K T' rfl X'
          exact ⟨t2, st1.trans a1, b1⟩
        · rename_i hp hhand
          obtain ⟨hpar, hcls⟩ := zz_hpars_at zz_P zz_N zz_hpars_ok k m0 nm hm hn
          obtain ⟨pre, x, suf, s1, s2, s3, s4, s5⟩ := zz_hand_split _ _ hpar hhand
          have hlaw : nm.1.cls = "NeedleShopLaw" := hcls.resolve_left (fun z => by
            rw [z] at s1
            have : (pre ++ x :: suf).length = 0 := by rw [← s1]; rfl
            simp at this)
          obtain ⟨c1, c2, c3⟩ := zz_cl5_ok _ s4
          have catch9 : ∀ (Q : State → Prop), W p l e R s mid args below meth c T'.heap (locs ++ Lc) (cells + (zz_uc h1' - zz_uc h)) (slots + (zz_us h1' - zz_us h)) Q (F0 mid hp ls [.ref q]) → ∃ t2, Steps p.tables e below ((T'.setTop (F0 mid pc ls ((st.drop b').map (zz_tr (zz_ra b base sa))))).pushFrame (.throwing q)) t2 ∧ Q t2 := by
            intro Q kk
            rw [← s2] at kk
            exact zc_catch (own := nm.1.cls) (name := zz_ex j) (E := zz_ex j) (ce := ce) hown pre x suf (by rw [htab, s1]) (fun z hz => by
              obtain ⟨z1, jz, z2, z3⟩ := s5 z hz
              obtain ⟨y1, y2, y3⟩ := zz_cl5_ok _ z2
              exact ⟨z1, y1, zz_ex jz, by rw [hlaw]; exact hts _ y3, hG.2.2.2.2.2.2.1 j jz hj5 y2 (fun e9 => z3 e9.symm)⟩) s3 c1 (by rw [hlaw]; exact hts _ c3) (zz_castE hcl) hce' hcv hcl kk T' rfl X'
          split at hx
          · rename_i n9 np9 a9 b9 k9 hfind9
            split at hx
            · rename_i L9 hst9
              obtain ⟨-, hnl⟩ := zz_st1_some hst9
              have hmem9 := zz_find_mem hfind9
              obtain ⟨hdec9, -⟩ := hrows k m0 nm hm hn _ hmem9
              have hsid9 := zz_sid_at hm hn hmem9
              dsimp only at hdec9
              simp only [zz_sid, Bool.and_eq_true, zz_beq, zz_blt] at hsid9
              obtain ⟨⟨hnp9, hk9⟩, hlt9⟩ := hsid9
              subst hnp9
              obtain ⟨t2, a1, b1⟩ := catch9 _ (lv_astore_n hexec hb (zz_d hdec9 rfl rfl) hk9 hL.has hlt9 rfl (fun ls' hl' => ih k m0 nm hm hn p e R s mid args below meth c hC (d' + 1) _ (L.set a9 none) [] h1' r h' T'.heap _ _ _ mc ms ls' hx ⟨by rw [e1]; exact hR1, hL.of_has (fun v9 e9 => by cases e9) hnl hl', k3, hrm, u, v, by omega, n2, by omega, n4⟩))
              exact ⟨t2, st1.trans a1, b1⟩
            · cases hx
          · rename_i n9 np9 a9 b9 k9 hfind9
            split at hx
            · rename_i L9 hst9
              obtain ⟨-, hnl⟩ := zz_st1_some hst9
              have hmem9 := zz_find_mem hfind9
              obtain ⟨hdec9, -⟩ := hrows k m0 nm hm hn _ hmem9
              have hsid9 := zz_sid_at hm hn hmem9
              dsimp only at hdec9
              simp only [zz_sid, Bool.and_eq_true, zz_beq, zz_blt] at hsid9
              obtain ⟨⟨hnp9, hk9⟩, hlt9⟩ := hsid9
              subst hnp9
              subst hk9
              obtain ⟨t2, a1, b1⟩ := catch9 _ (lv_astore hexec hb (zz_d hdec9 rfl rfl) hL.has hlt9 rfl (fun ls' hl' => ih k m0 nm hm hn p e R s mid args below meth c hC (d' + 1) _ (L.set n9 none) [] h1' r h' T'.heap _ _ _ mc ms ls' hx ⟨by rw [e1]; exact hR1, hL.of_has (fun v9 e9 => by cases e9) hnl hl', k3, hrm, u, v, by omega, n2, by omega, n4⟩))
              exact ⟨t2, st1.trans a1, b1⟩
            · cases hx
          · cases hx
  · cases hx
end ZK
