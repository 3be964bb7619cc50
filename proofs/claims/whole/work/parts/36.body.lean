theorem zz_uc_push (h : zz_H) (t : Nat × Nat) (x : Nat → Nat → Option Nat) (y : Nat → Nat → Int32) (z : Nat → Nat → Int64) : zz_uc (h.1 ++ [t], x, y, z, h.2.2.2.2) = zz_uc h + 1 := by
  show (h.1 ++ [t]).length + h.2.2.2.2 = h.1.length + h.2.2.2.2 + 1
  rw [List.length_append]
  show h.1.length + 1 + h.2.2.2.2 = _
  omega
theorem zz_us_push (h : zz_H) (t : Nat × Nat) (x : Nat → Nat → Option Nat) (y : Nat → Nat → Int32) (z : Nat → Nat → Int64) : zz_us (h.1 ++ [t], x, y, z, h.2.2.2.2) = zz_us h + zz_sz t := by
  show zz_us1 (h.1 ++ [t]) + 6 * h.2.2.2.2 = zz_us1 h.1 + 6 * h.2.2.2.2 + zz_sz t
  rw [zz_us1_app]
  omega
theorem zz_sz_a {a n : Nat} (h : 100 ≤ a) : zz_sz (a, n) = n := by
  unfold zz_sz
  rw [show Nat.ble 100 (a, n).1 = true from zz_ble.mpr h]
  rfl
theorem zz_sz_c {a n : Nat} (h : a < 7) : zz_sz (a, n) = zz_nf a := by
  unfold zz_sz
  rw [show Nat.ble 100 (a, n).1 = false by rw [← Bool.not_eq_true]; exact fun z => by have z : 100 ≤ a := zz_ble.mp z; omega]
  rfl
theorem zz_nfw : nativeFrameWords "java/lang/System" "arraycopy" 5 ≤ 300 := by decide +kernel
def zz_sid4 (r : Nat × zz_I) : Bool := match r with
  | (pc, i, np, _, _, _) => match i with
    | .ireturn => Nat.beq np (pc + 1)
    | .lreturn => Nat.beq np (pc + 1)
    | .areturn => Nat.beq np (pc + 1)
    | .return_ => Nat.beq np (pc + 1)
    | _ => true
theorem zz_sid4_ok : (zz_P.all fun m => m.1.all zz_sid4) = true := by decide +kernel
set_option maxHeartbeats 4000000 in
theorem zz_body_step (hrows : zz_rowsOk) {l : Launch} {D : va_G} {cI cZ cL cS : ClassId} {b base : Nat} {sa : Nat → Nat} {L0 : Nat} {xs0 : Nat → Int32} {f : Nat} (hthr : zz_ThrRule l D cI cZ cL cS b base sa L0 xs0) (hstr : zz_StrRule l D cI cZ cL cS b base sa L0 xs0) (ih : zz_Bd l D cI cZ cL cS b base sa L0 xs0 f) : zz_Bd l D cI cZ cL cS b base sa L0 xs0 (f + 1) := by
  intro k m0 nm hm hn p e R s mid args below meth c hC d pc L st h r h' H locs cells slots mc ms ls hx hD
  obtain ⟨hexec, hb, hml, hret, hlocks, hname, htab, hown, hts, hG⟩ := id hC
  obtain ⟨hR, hL, hS, hrm, hcn⟩ := hD
  have go : ∀ (pc' : Nat) (L' : List (Option Value)) (st' : List Value) (ls' : Array Slot), zz_exec zz_P zz_S f (m0, d, pc', L', st') h = some (r, h') → zz_LR (zz_ra b base sa) ls' nm.2.2.1 L' → W p l e R s mid args below meth c H locs cells slots (vx_MQ below (zz_Qc D cI cZ cL cS b base sa L0 xs0 r h') (zz_XC D cI cZ cL cS b base sa L0 xs0 r h') args s mc ms (fun z => base ≤ z)) (F0 mid pc' ls' (st'.map (zz_tr (zz_ra b base sa)))) :=
    fun pc' L' st' ls' e1 e2 => ih k m0 nm hm hn p e R s mid args below meth c hC d pc' L' st' h r h' H locs cells slots mc ms ls' e1 ⟨hR, e2, hS, hrm, hcn⟩
  have goH : ∀ (pc' : Nat) (st' : List Value) (h2 : zz_H) (H2 : Heap) (locs2 : List Loc), zz_exec zz_P zz_S f (m0, d, pc', L, st') h2 = some (r, h') → zz_HR D cI cZ cL cS b base sa L0 xs0 h2 H2 → va_S (fun z => base ≤ z) s.heap H2 locs2 → zz_uc h2 = zz_uc h → zz_us h2 = zz_us h → W p l e R s mid args below meth c H2 locs2 cells slots (vx_MQ below (zz_Qc D cI cZ cL cS b base sa L0 xs0 r h') (zz_XC D cI cZ cL cS b base sa L0 xs0 r h') args s mc ms (fun z => base ≤ z)) (F0 mid pc' ls (st'.map (zz_tr (zz_ra b base sa)))) :=
    fun pc' st' h2 H2 locs2 e1 e2 e3 e4 e5 => ih k m0 nm hm hn p e R s mid args below meth c hC d pc' L st' h2 r h' H2 locs2 cells slots mc ms ls e1 ⟨e2, hL, e3, hrm, by rw [e4, e5]; exact hcn⟩
  have goN : ∀ (pc' : Nat) (st' : List Value) (h2 : zz_H) (H2 : Heap) (n : Nat), zz_exec zz_P zz_S f (m0, d, pc', L, st') h2 = some (r, h') → zz_HR D cI cZ cL cS b base sa L0 xs0 h2 H2 → va_S (fun z => base ≤ z) s.heap H2 locs → zz_uc h2 = zz_uc h + 1 → zz_us h2 = zz_us h + n → W p l e R s mid args below meth c H2 locs (cells + 1) (slots + n) (vx_MQ below (zz_Qc D cI cZ cL cS b base sa L0 xs0 r h') (zz_XC D cI cZ cL cS b base sa L0 xs0 r h') args s mc ms (fun z => base ≤ z)) (F0 mid pc' ls (st'.map (zz_tr (zz_ra b base sa)))) :=
    fun pc' st' h2 H2 n e1 e2 e3 e4 e5 => ih k m0 nm hm hn p e R s mid args below meth c hC d pc' L st' h2 r h' H2 locs (cells + 1) (slots + n) mc ms ls e1 ⟨e2, hL, e3, hrm, by
      obtain ⟨u, v, a1, a2, a3, a4⟩ := hcn
      exact ⟨u, v, by omega, a2, by omega, a4⟩⟩
  have room : ∀ (fr : zz_F) (h2 : zz_H) (n : Nat), zz_exec zz_P zz_S f fr h2 = some (r, h') → zz_uc h2 = zz_uc h + 1 → zz_us h2 = zz_us h + n → cells + 1 ≤ R.cells ∧ slots + n ≤ R.slots := by
    intro fr h2 n e1 e2 e3
    obtain ⟨m1, m2⟩ := zz_exec_mono zz_P zz_S f _ _ _ _ e1
    obtain ⟨u, v, a1, a2, a3, a4⟩ := hcn
    omega
  change zz_step zz_P zz_S (zz_exec zz_P zz_S f) (m0, d, pc, L, st) h = some (r, h') at hx
  unfold zz_step at hx
  dsimp only at hx
  split at hx
  · cases hx
  · rename_i i np a b' kc hfind
    have hmem := zz_find_mem hfind
    obtain ⟨hdec, hword⟩ := hrows k m0 nm hm hn _ hmem
    have hsid := zz_sid_at hm hn hmem
    dsimp only at hdec
    split at hx
    · simp only [zz_sid, Bool.and_eq_true, Bool.or_eq_true, decide_eq_true_eq, zz_beq, zz_blt, Bool.not_eq_true'] at hsid
      obtain ⟨hnp, hk⟩ := hsid
      subst hnp
      exact lv_iconst hexec hb (zz_d hdec rfl rfl) hk (go _ _ _ _ hx hL)
    · simp only [zz_sid, Bool.and_eq_true, Bool.or_eq_true, decide_eq_true_eq, zz_beq, zz_blt, Bool.not_eq_true'] at hsid
      obtain ⟨hnp, hk⟩ := hsid
      subst hnp
      exact lv_bipush hexec hb (zz_d hdec rfl rfl) hk (go _ _ _ _ hx hL)
    · simp only [zz_sid, Bool.and_eq_true, Bool.or_eq_true, decide_eq_true_eq, zz_beq, zz_blt, Bool.not_eq_true'] at hsid
      obtain ⟨hnp, hk⟩ := hsid
      subst hnp
      exact lv_sipush hexec hb (zz_d hdec rfl rfl) hk (go _ _ _ _ hx hL)
    · simp only [zz_sid, Bool.and_eq_true, Bool.or_eq_true, decide_eq_true_eq, zz_beq, zz_blt, Bool.not_eq_true'] at hsid
      obtain ⟨hnp, hab⟩ := hsid
      subst hnp
      have hs2 := zz_sid2_at hm hn hmem
      split at hx
      · exact lv_ldc hexec hb hown (hts _ (zz_wm (w := Cond.constant nm.1.cls _ kc) hword (fun e => by cases e) rfl)) (zz_d hdec rfl rfl) (go _ _ _ _ hx hL)
      · rename_i hb0
        simp only [zz_sid2, Bool.or_eq_true, decide_eq_true_eq, zz_beq] at hs2
        have hsk := hs2.resolve_left hb0
        have hgo := go _ _ _ _ hx hL
        rw [List.map_cons, show zz_tr (zz_ra b base sa) (.ref (1000000 + a)) = .ref (sa a) by show Value.ref (zz_ra b base sa (1000000 + a)) = _; rw [zz_ra_str]] at hgo
        exact va_ldcS hexec hb hown (hG.2.2.2.2.2.1 _ _ _ hsk).1 (zz_d hdec rfl rfl) hgo
    · simp only [zz_sid, Bool.and_eq_true, Bool.or_eq_true, decide_eq_true_eq, zz_beq, zz_blt, Bool.not_eq_true'] at hsid
      obtain ⟨hnp, hb0⟩ := hsid
      subst hnp
      subst hb0
      exact lv_ldcw hexec hb hown (hts _ (zz_wm (w := Cond.constant nm.1.cls _ kc) hword (fun e => by cases e) rfl)) (zz_d hdec rfl rfl) (go _ _ _ _ hx hL)
    · simp only [zz_sid, Bool.and_eq_true, Bool.or_eq_true, decide_eq_true_eq, zz_beq, zz_blt, Bool.not_eq_true'] at hsid
      subst hsid
      exact lv_ldc2 hexec hb hown (hts _ (zz_wm (w := Cond.constantLong nm.1.cls _ (Int64.ofNat a)) hword (fun e => by cases e) rfl)) (zz_d hdec rfl rfl) (go _ _ _ _ hx hL)
    · simp only [zz_sid, Bool.and_eq_true, Bool.or_eq_true, decide_eq_true_eq, zz_beq, zz_blt, Bool.not_eq_true'] at hsid
      obtain ⟨hnp, hk⟩ := hsid
      subst hnp
      exact lv_lconst hexec hb (zz_d hdec rfl rfl) (by rw [← hk]) (go _ _ _ _ hx hL)
    · simp only [zz_sid, Bool.and_eq_true, Bool.or_eq_true, decide_eq_true_eq, zz_beq, zz_blt, Bool.not_eq_true'] at hsid
      obtain ⟨hnp, hk⟩ := hsid
      subst hnp
      split at hx
      · rename_i hg
        exact lv_iload_n hexec hb (zz_d hdec rfl rfl) hk (hL.get hg) (go _ _ _ _ hx hL)
      · cases hx
    · simp only [zz_sid, Bool.and_eq_true, Bool.or_eq_true, decide_eq_true_eq, zz_beq, zz_blt, Bool.not_eq_true'] at hsid
      obtain ⟨hnp, hk⟩ := hsid
      subst hnp
      subst hk
      split at hx
      · rename_i hg
        exact lv_iload hexec hb (zz_d hdec rfl rfl) (hL.get hg) (go _ _ _ _ hx hL)
      · cases hx
    · simp only [zz_sid, Bool.and_eq_true, Bool.or_eq_true, decide_eq_true_eq, zz_beq, zz_blt, Bool.not_eq_true'] at hsid
      obtain ⟨hnp, hk⟩ := hsid
      subst hnp
      split at hx
      · rename_i hg
        exact lv_aload_n hexec hb (zz_d hdec rfl rfl) hk (hL.get hg) (go _ _ _ _ hx hL)
      · cases hx
    · simp only [zz_sid, Bool.and_eq_true, Bool.or_eq_true, decide_eq_true_eq, zz_beq, zz_blt, Bool.not_eq_true'] at hsid
      obtain ⟨hnp, hk⟩ := hsid
      subst hnp
      subst hk
      split at hx
      · rename_i hg
        exact lv_aload hexec hb (zz_d hdec rfl rfl) (hL.get hg) (go _ _ _ _ hx hL)
      · cases hx
    · simp only [zz_sid, Bool.and_eq_true, Bool.or_eq_true, decide_eq_true_eq, zz_beq, zz_blt, Bool.not_eq_true'] at hsid
      obtain ⟨hnp, hk⟩ := hsid
      subst hnp
      split at hx
      · rename_i hg
        exact lv_lload_n hexec hb (zz_d hdec rfl rfl) hk (hL.get hg) (go _ _ _ _ hx hL)
      · cases hx
    · simp only [zz_sid, Bool.and_eq_true, Bool.or_eq_true, decide_eq_true_eq, zz_beq, zz_blt, Bool.not_eq_true'] at hsid
      obtain ⟨hnp, hk⟩ := hsid
      subst hnp
      subst hk
      split at hx
      · rename_i hg
        exact lv_lload hexec hb (zz_d hdec rfl rfl) (hL.get hg) (go _ _ _ _ hx hL)
      · cases hx
    · simp only [zz_sid, Bool.and_eq_true, Bool.or_eq_true, decide_eq_true_eq, zz_beq, zz_blt, Bool.not_eq_true'] at hsid
      obtain ⟨⟨hnp, hk⟩, hlt⟩ := hsid
      subst hnp
      split at hx
      · split at hx
        · rename_i hst
          obtain ⟨hL', hnl⟩ := zz_st1_some hst
          subst hL'
          exact lv_istore_n hexec hb (zz_d hdec rfl rfl) hk hL.has hlt rfl (fun ls' hl' => go _ _ _ ls' hx (hL.of_has (fun v e => by cases e; rfl) hnl hl'))
        · cases hx
      · cases hx
    · simp only [zz_sid, Bool.and_eq_true, Bool.or_eq_true, decide_eq_true_eq, zz_beq, zz_blt, Bool.not_eq_true'] at hsid
      obtain ⟨⟨hnp, hk⟩, hlt⟩ := hsid
      subst hnp
      subst hk
      split at hx
      · split at hx
        · rename_i hst
          obtain ⟨hL', hnl⟩ := zz_st1_some hst
          subst hL'
          exact lv_istore hexec hb (zz_d hdec rfl rfl) hL.has hlt rfl (fun ls' hl' => go _ _ _ ls' hx (hL.of_has (fun v e => by cases e; rfl) hnl hl'))
        · cases hx
      · cases hx
    · simp only [zz_sid, Bool.and_eq_true, Bool.or_eq_true, decide_eq_true_eq, zz_beq, zz_blt, Bool.not_eq_true'] at hsid
      obtain ⟨⟨hnp, hk⟩, hlt⟩ := hsid
      subst hnp
      split at hx
      · split at hx
        · rename_i hst
          obtain ⟨hL', hnl⟩ := zz_st1_some hst
          subst hL'
          exact lv_astore_n hexec hb (zz_d hdec rfl rfl) hk hL.has hlt rfl (fun ls' hl' => go _ _ _ ls' hx (hL.of_has (fun v e => by cases e; rfl) hnl hl'))
        · cases hx
      · cases hx
    · simp only [zz_sid, Bool.and_eq_true, Bool.or_eq_true, decide_eq_true_eq, zz_beq, zz_blt, Bool.not_eq_true'] at hsid
      obtain ⟨⟨hnp, hk⟩, hlt⟩ := hsid
      subst hnp
      subst hk
      split at hx
      · split at hx
        · rename_i hst
          obtain ⟨hL', hnl⟩ := zz_st1_some hst
          subst hL'
          exact lv_astore hexec hb (zz_d hdec rfl rfl) hL.has hlt rfl (fun ls' hl' => go _ _ _ ls' hx (hL.of_has (fun v e => by cases e; rfl) hnl hl'))
        · cases hx
      · cases hx
    · simp only [zz_sid, Bool.and_eq_true, Bool.or_eq_true, decide_eq_true_eq, zz_beq, zz_blt, Bool.not_eq_true'] at hsid
      obtain ⟨⟨hnp, hk⟩, hlt⟩ := hsid
      subst hnp
      split at hx
      · split at hx
        · rename_i hst
          obtain ⟨hL', hnl⟩ := zz_st2_some hst
          subst hL'
          exact lv_lstore_n hexec hb (zz_d hdec rfl rfl) hk hL.has hlt rfl (fun ls' hl' => go _ _ _ ls' hx (hL.of_has2 hnl hl'))
        · cases hx
      · cases hx
    · simp only [zz_sid, Bool.and_eq_true, Bool.or_eq_true, decide_eq_true_eq, zz_beq, zz_blt, Bool.not_eq_true'] at hsid
      obtain ⟨⟨hnp, hk⟩, hlt⟩ := hsid
      subst hnp
      subst hk
      split at hx
      · split at hx
        · rename_i hst
          obtain ⟨hL', hnl⟩ := zz_st2_some hst
          subst hL'
          exact lv_lstore hexec hb (zz_d hdec rfl rfl) hL.has hlt rfl (fun ls' hl' => go _ _ _ ls' hx (hL.of_has2 hnl hl'))
        · cases hx
      · cases hx
    · simp only [zz_sid, Bool.and_eq_true, Bool.or_eq_true, decide_eq_true_eq, zz_beq, zz_blt, Bool.not_eq_true'] at hsid
      obtain ⟨⟨⟨hnp, hk⟩, hlt⟩, hc9⟩ := hsid
      subst hnp
      subst hk
      split at hx
      · rename_i x hg
        split at hx
        · rename_i hst
          obtain ⟨hL', hnl⟩ := zz_st1_some hst
          subst hL'
          have hh := hL.has
          have hh2 : lv_has ls nm.2.2.1 ((_, Value.int x) :: zz_as 0 (L.map (Option.map (zz_tr (zz_ra b base sa))))) := ⟨hh.1, hh.2.1, fun q hq => by
            rcases List.mem_cons.mp hq with rfl | hq
            · exact hL.get hg
            · exact hh.2.2 q hq⟩
          exact lv_iinc (k := 0) hexec hb (zz_d hdec rfl rfl) hh2 rfl (by rw [hc9]) hlt rfl (fun ls' hl' => go _ _ _ ls' hx (hL.of_has (w := Value.int (x + kc)) (fun v e => by cases e; rfl) hnl (by simpa using hl')))
        · cases hx
      · cases hx
    · simp only [zz_sid, Bool.and_eq_true, Bool.or_eq_true, decide_eq_true_eq, zz_beq, zz_blt, Bool.not_eq_true'] at hsid
      subst hsid
      split at hx
      · exact lv_ineg hexec hb (zz_d hdec rfl rfl) (go _ _ _ _ hx hL)
      · cases hx
    · simp only [zz_sid, Bool.and_eq_true, Bool.or_eq_true, decide_eq_true_eq, zz_beq, zz_blt, Bool.not_eq_true'] at hsid
      subst hsid
      split at hx
      · obtain ⟨h0, hx⟩ := zz_bifn hx
        exact lv_idiv hexec hb (zz_d hdec rfl rfl) (of_decide_eq_false h0) (go _ _ _ _ hx hL)
      · cases hx
    · simp only [zz_sid, Bool.and_eq_true, Bool.or_eq_true, decide_eq_true_eq, zz_beq, zz_blt, Bool.not_eq_true'] at hsid
      subst hsid
      split at hx
      · obtain ⟨h0, hx⟩ := zz_bifn hx
        exact lv_irem hexec hb (zz_d hdec rfl rfl) (of_decide_eq_false h0) (go _ _ _ _ hx hL)
      · cases hx
    · simp only [zz_sid, Bool.and_eq_true, Bool.or_eq_true, decide_eq_true_eq, zz_beq, zz_blt, Bool.not_eq_true'] at hsid
      subst hsid
      split at hx
      · exact lv_lshl hexec hb (zz_d hdec rfl rfl) rfl (go _ _ _ _ hx hL)
      · cases hx
    · simp only [zz_sid, Bool.and_eq_true, Bool.or_eq_true, decide_eq_true_eq, zz_beq, zz_blt, Bool.not_eq_true'] at hsid
      subst hsid
      split at hx
      · exact lv_lushr hexec hb (zz_d hdec rfl rfl) rfl (go _ _ _ _ hx hL)
      · cases hx
    · simp only [zz_sid, Bool.and_eq_true, Bool.or_eq_true, decide_eq_true_eq, zz_beq, zz_blt, Bool.not_eq_true'] at hsid
      subst hsid
      split at hx
      · exact W.lcmp hexec hb (zz_d hdec rfl rfl) (go _ _ _ _ hx hL)
      · cases hx
    · simp only [zz_sid, Bool.and_eq_true, Bool.or_eq_true, decide_eq_true_eq, zz_beq, zz_blt, Bool.not_eq_true'] at hsid
      subst hsid
      split at hx
      · exact lv_i2l hexec hb (zz_d hdec rfl rfl) rfl (go _ _ _ _ hx hL)
      · cases hx
    · simp only [zz_sid, Bool.and_eq_true, Bool.or_eq_true, decide_eq_true_eq, zz_beq, zz_blt, Bool.not_eq_true'] at hsid
      subst hsid
      split at hx
      · exact lv_l2i hexec hb (zz_d hdec rfl rfl) rfl (go _ _ _ _ hx hL)
      · cases hx
    · simp only [zz_sid, Bool.and_eq_true, Bool.or_eq_true, decide_eq_true_eq, zz_beq, zz_blt, Bool.not_eq_true'] at hsid
      subst hsid
      split at hx
      · obtain ⟨h0, hx⟩ := zz_bif hx
        exact lv_dup hexec hb (zz_d hdec rfl rfl) (by rw [zz_tr_cat]; exact zz_beq.mp h0) (go _ _ _ _ hx hL)
      · cases hx
    · simp only [zz_sid, Bool.and_eq_true, Bool.or_eq_true, decide_eq_true_eq, zz_beq, zz_blt, Bool.not_eq_true'] at hsid
      subst hsid
      split at hx
      · obtain ⟨h0, hx⟩ := zz_bif hx
        exact lv_pop hexec hb (zz_d hdec rfl rfl) (by rw [zz_tr_cat]; exact zz_beq.mp h0) (go _ _ _ _ hx hL)
      · cases hx
    · simp only [zz_sid, Bool.and_eq_true, Bool.or_eq_true, decide_eq_true_eq, zz_beq, zz_blt, Bool.not_eq_true'] at hsid
      subst hsid
      split at hx
      · obtain ⟨h0, hx⟩ := zz_bif hx
        rw [Bool.and_eq_true] at h0
        exact lv_dup2_11 hexec hb (zz_d hdec rfl rfl) (by rw [zz_tr_cat]; exact zz_beq.mp h0.1) (by rw [zz_tr_cat]; exact zz_beq.mp h0.2) (go _ _ _ _ hx hL)
      · cases hx
    · simp only [zz_sid, Bool.and_eq_true, Bool.or_eq_true, decide_eq_true_eq, zz_beq, zz_blt, Bool.not_eq_true'] at hsid
      obtain ⟨hnp, ht⟩ := hsid
      subst hnp
      split at hx
      · rcases zz_bifs hx with ⟨hc9, hx9⟩ | ⟨hc9, hx9⟩
        · skip
          revert hdec hc9
          cases ‹ClassFile.Cond›
          all_goals intro hdec hc9
          · exact lv_if_eq hexec hb (zz_d hdec rfl rfl) ht (fun _ => go _ _ _ _ hx9 hL) (fun hq => absurd (of_decide_eq_true hc9) hq)
          · exact lv_if_ne hexec hb (zz_d hdec rfl rfl) ht (fun _ => go _ _ _ _ hx9 hL) (fun hq => absurd hq (by have h9 : (!decide _) = true := hc9; simpa using h9))
          · exact lv_if_lt hexec hb (zz_d hdec rfl rfl) ht (fun _ => go _ _ _ _ hx9 hL) (fun hq => absurd (of_decide_eq_true hc9) hq)
          · exact lv_if_ge hexec hb (zz_d hdec rfl rfl) ht (fun _ => go _ _ _ _ hx9 hL) (fun hq => absurd (of_decide_eq_true hc9) hq)
          · exact lv_if_gt hexec hb (zz_d hdec rfl rfl) ht (fun _ => go _ _ _ _ hx9 hL) (fun hq => absurd (of_decide_eq_true hc9) hq)
          · exact lv_if_le hexec hb (zz_d hdec rfl rfl) ht (fun _ => go _ _ _ _ hx9 hL) (fun hq => absurd (of_decide_eq_true hc9) hq)
        · skip
          revert hdec hc9
          cases ‹ClassFile.Cond›
          all_goals intro hdec hc9
          · exact lv_if_eq hexec hb (zz_d hdec rfl rfl) ht (fun hq => absurd hq (of_decide_eq_false hc9)) (fun _ => go _ _ _ _ hx9 hL)
          · exact lv_if_ne hexec hb (zz_d hdec rfl rfl) ht (fun hq => absurd (by have h9 : (!decide _) = false := hc9; simpa using h9) hq) (fun _ => go _ _ _ _ hx9 hL)
          · exact lv_if_lt hexec hb (zz_d hdec rfl rfl) ht (fun hq => absurd hq (of_decide_eq_false hc9)) (fun _ => go _ _ _ _ hx9 hL)
          · exact lv_if_ge hexec hb (zz_d hdec rfl rfl) ht (fun hq => absurd hq (of_decide_eq_false hc9)) (fun _ => go _ _ _ _ hx9 hL)
          · exact lv_if_gt hexec hb (zz_d hdec rfl rfl) ht (fun hq => absurd hq (of_decide_eq_false hc9)) (fun _ => go _ _ _ _ hx9 hL)
          · exact lv_if_le hexec hb (zz_d hdec rfl rfl) ht (fun hq => absurd hq (of_decide_eq_false hc9)) (fun _ => go _ _ _ _ hx9 hL)
      · cases hx
    · simp only [zz_sid, Bool.and_eq_true, Bool.or_eq_true, decide_eq_true_eq, zz_beq, zz_blt, Bool.not_eq_true'] at hsid
      obtain ⟨hnp, ht⟩ := hsid
      subst hnp
      split at hx
      · rcases zz_bifs hx with ⟨hc9, hx9⟩ | ⟨hc9, hx9⟩
        · skip
          revert hdec hc9
          cases ‹ClassFile.Cond›
          all_goals intro hdec hc9
          · exact lv_icmp_eq hexec hb (zz_d hdec rfl rfl) ht (fun _ => go _ _ _ _ hx9 hL) (fun hq => absurd (of_decide_eq_true hc9) hq)
          · exact lv_icmp_ne hexec hb (zz_d hdec rfl rfl) ht (fun _ => go _ _ _ _ hx9 hL) (fun hq => absurd hq (by have h9 : (!decide _) = true := hc9; simpa using h9))
          · exact lv_icmp_lt hexec hb (zz_d hdec rfl rfl) ht (fun _ => go _ _ _ _ hx9 hL) (fun hq => absurd (of_decide_eq_true hc9) hq)
          · exact lv_icmp_ge hexec hb (zz_d hdec rfl rfl) ht (fun _ => go _ _ _ _ hx9 hL) (fun hq => absurd (of_decide_eq_true hc9) hq)
          · exact lv_icmp_gt hexec hb (zz_d hdec rfl rfl) ht (fun _ => go _ _ _ _ hx9 hL) (fun hq => absurd (of_decide_eq_true hc9) hq)
          · exact lv_icmp_le hexec hb (zz_d hdec rfl rfl) ht (fun _ => go _ _ _ _ hx9 hL) (fun hq => absurd (of_decide_eq_true hc9) hq)
        · skip
          revert hdec hc9
          cases ‹ClassFile.Cond›
          all_goals intro hdec hc9
          · exact lv_icmp_eq hexec hb (zz_d hdec rfl rfl) ht (fun hq => absurd hq (of_decide_eq_false hc9)) (fun _ => go _ _ _ _ hx9 hL)
          · exact lv_icmp_ne hexec hb (zz_d hdec rfl rfl) ht (fun hq => absurd (by have h9 : (!decide _) = false := hc9; simpa using h9) hq) (fun _ => go _ _ _ _ hx9 hL)
          · exact lv_icmp_lt hexec hb (zz_d hdec rfl rfl) ht (fun hq => absurd hq (of_decide_eq_false hc9)) (fun _ => go _ _ _ _ hx9 hL)
          · exact lv_icmp_ge hexec hb (zz_d hdec rfl rfl) ht (fun hq => absurd hq (of_decide_eq_false hc9)) (fun _ => go _ _ _ _ hx9 hL)
          · exact lv_icmp_gt hexec hb (zz_d hdec rfl rfl) ht (fun hq => absurd hq (of_decide_eq_false hc9)) (fun _ => go _ _ _ _ hx9 hL)
          · exact lv_icmp_le hexec hb (zz_d hdec rfl rfl) ht (fun hq => absurd hq (of_decide_eq_false hc9)) (fun _ => go _ _ _ _ hx9 hL)
      · cases hx
    · simp only [zz_sid, Bool.and_eq_true, Bool.or_eq_true, decide_eq_true_eq, zz_beq, zz_blt, Bool.not_eq_true'] at hsid
      obtain ⟨hnp, ht⟩ := hsid
      subst hnp
      exact lv_goto hexec hb (zz_d hdec rfl rfl) ht (go _ _ _ _ hx hL)
    · simp only [zz_sid, Bool.and_eq_true, decide_eq_true_eq, List.all_eq_true] at hsid
      obtain ⟨h1, h2⟩ := hsid
      split at hx
      · rcases zz_bifs hx with ⟨hc9, hx⟩ | ⟨hc9, hx⟩
        · rw [Bool.or_eq_true, decide_eq_true_eq, decide_eq_true_eq] at hc9
          exact lv_tableOut hexec hb hdec hc9 (by rw [Int.toNat_of_nonneg h1]) (go _ _ _ _ hx hL)
        · rw [Bool.or_eq_false_iff, decide_eq_false_iff_not, decide_eq_false_iff_not] at hc9
          split at hx
          · rename_i o ho
            exact lv_tableIn hexec hb hdec hc9.1 hc9.2 ho (by rw [Int.toNat_of_nonneg (h2 o (Array.mem_toList_iff.mpr (Array.mem_of_getElem? ho)))]) (go _ _ _ _ hx hL)
          · cases hx
      · cases hx
    · simp only [zz_sid, Bool.and_eq_true, Bool.or_eq_true, decide_eq_true_eq, zz_beq, zz_blt, Bool.not_eq_true'] at hsid
      obtain ⟨⟨⟨hnp, ha7⟩, hbf⟩, hkk⟩ := hsid
      subst hnp
      have hbf : b' < zz_nf a := hbf
      split at hx
      · split at hx
        · rename_i hq
          obtain ⟨hc9, hx⟩ := zz_bif hx
          have hc9 := zz_beq.mp hc9
          rw [hc9] at hq
          refine zr_get hexec hb hown hts hG hR hq ha7 hbf (zz_wm (w := Cond.fieldLink nm.1.cls _ (zz_fd a b').1 (zz_fd a b').2.1 (zz_fd a b').2.2.1) hword (fun e => by cases e) rfl) (zz_d hdec rfl rfl) ?_
          rcases zz_bifs hx with ⟨h1, hx⟩ | ⟨h1, hx⟩
          · have hk1 : zz_kd a b' = 1 := by
              rw [hkk] at h1
              rcases zz_kd_cases _ b' with e0 | e0 | e0
              · rw [e0] at h1; exact absurd (of_decide_eq_true h1) (by decide)
              · exact e0
              · rw [e0] at h1; exact absurd (of_decide_eq_true h1) (by decide)
            have hgo := go _ _ _ _ hx hL
            rw [List.map_cons, zz_tr_rf] at hgo
            rw [zz_fv1 hk1]
            exact hgo
          · have hk1 : zz_kd a b' ≠ 1 := fun e0 => by
              rw [hkk, e0] at h1
              exact absurd rfl (of_decide_eq_false h1)
            rw [zz_fv0 hk1]
            exact go _ _ _ _ hx hL
        · cases hx
      · cases hx
    · simp only [zz_sid, Bool.and_eq_true, Bool.or_eq_true, decide_eq_true_eq, zz_beq, zz_blt, Bool.not_eq_true'] at hsid
      obtain ⟨⟨⟨⟨hnp, ha7⟩, hbf⟩, hkk⟩, hfin⟩ := hsid
      subst hnp
      have hbf : b' < zz_nf a := hbf
      have hfin : (zz_fd a b').2.2.2 = false ∨ ((zz_fd a b').1 = nm.1.cls ∧ meth.name = "<init>") := hfin.elim Or.inl (fun z => Or.inr ⟨z.1, hname.trans z.2⟩)
      have hkd : ∀ n : Nat, n < 3 → kc = Int32.ofNat n → zz_kd a b' = n := by
        intro n hn3 e0
        rw [hkk] at e0
        rcases zz_kd_cases a b' with e1 | e1 | e1 <;> rw [e1] at e0 ⊢ <;> (rcases (show n = 0 ∨ n = 1 ∨ n = 2 by omega) with rfl | rfl | rfl <;> first | rfl | exact absurd e0 (by decide))
      split at hx
      · split at hx
        · rename_i hq
          obtain ⟨hc9, hx⟩ := zz_bif hx
          rw [Bool.and_eq_true, Bool.and_eq_true, Bool.or_eq_true, Bool.and_eq_true, zz_beq, zz_blt, decide_eq_true_eq, decide_eq_true_eq] at hc9
          obtain ⟨⟨hca, h0⟩, hki⟩ := hc9
          rw [hca] at hq
          have hk1 : zz_kd a b' ≠ 1 := by
            rcases hki with z | z
            · rw [hkd 0 (by omega) z]; decide
            · rw [hkd 2 (by omega) z.1]; decide
          refine zr_put hexec hb hown hts hG hR hS hq ha7 hbf (zz_wm (w := Cond.fieldLink nm.1.cls _ (zz_fd a b').1 (zz_fd a b').2.1 (zz_fd a b').2.2.1) hword (fun e => by cases e) rfl) hfin (fun ty hty => ?_) (zz_d hdec rfl rfl) (fun H1 locs1 e2 e3 hOB hS1 => ?_)
          · obtain ⟨-, t1, t2, -⟩ := zz_ty ha7 hbf hty
            rcases hki with z | z
            · rw [t1 (hkd 0 (by omega) z)]; exact ⟨rfl, rfl⟩
            · rw [t2 (hkd 2 (by omega) z.1)]; exact zz_b01_nar z.2
          · exact goH _ _ _ H1 locs1 hx (hR.upd h0 hq e2 e3 rfl (fun _ _ _ => rfl) (fun a9 i9 h9 => (zz_up_ne h9 : zz_up h.2.2.1 _ b' _ a9 i9 = h.2.2.1 a9 i9)) (fun _ _ _ => rfl) rfl (Or.inr (Or.inr (Or.inr (Or.inr ⟨ha7, hOB.to (fun j _ => zz_fv_upI hk1 j)⟩))))) hS1 rfl rfl
        · cases hx
      · split at hx
        · rename_i hq
          obtain ⟨hc9, hx⟩ := zz_bif hx
          rw [Bool.and_eq_true, Bool.and_eq_true, zz_beq, zz_blt, decide_eq_true_eq] at hc9
          obtain ⟨⟨hca, h0⟩, hki⟩ := hc9
          rw [hca] at hq
          have hk1 := hkd 1 (by omega) hki
          refine zr_put hexec hb hown hts hG hR hS hq ha7 hbf (zz_wm (w := Cond.fieldLink nm.1.cls _ (zz_fd a b').1 (zz_fd a b').2.1 (zz_fd a b').2.2.1) hword (fun e => by cases e) rfl) hfin (fun ty hty => ?_) (zz_d hdec rfl rfl) (fun H1 locs1 e2 e3 hOB hS1 => ?_)
          · obtain ⟨-, -, -, t3⟩ := zz_ty ha7 hbf hty
            exact ⟨(t3 hk1 _).2, (t3 hk1 _).1⟩
          · exact goH _ _ _ H1 locs1 hx (hR.upd h0 hq e2 e3 rfl (fun a9 i9 h9 => (zz_up_ne h9 : zz_up h.2.1 _ b' _ a9 i9 = h.2.1 a9 i9)) (fun _ _ _ => rfl) (fun _ _ _ => rfl) rfl (Or.inr (Or.inr (Or.inr (Or.inr ⟨ha7, hOB.to (fun j _ => zz_fv_upR hk1 j)⟩))))) hS1 rfl rfl
        · cases hx
      · cases hx
    · simp only [zz_sid, Bool.and_eq_true, Bool.or_eq_true, decide_eq_true_eq, zz_beq, zz_blt, Bool.not_eq_true'] at hsid
      subst hsid
      split at hx
      · split at hx
        · rename_i hq
          obtain ⟨hin, hx⟩ := zz_bif hx
          exact zr_iald hexec hb hG hR hS hq hin (zz_d hdec rfl rfl) (go _ _ _ _ hx hL)
        · cases hx
      · cases hx
    · simp only [zz_sid, Bool.and_eq_true, Bool.or_eq_true, decide_eq_true_eq, zz_beq, zz_blt, Bool.not_eq_true'] at hsid
      subst hsid
      split at hx
      · split at hx
        · rename_i hq
          obtain ⟨hc9, hx⟩ := zz_bif hx
          simp only [Bool.and_eq_true, zz_blt] at hc9
          exact zr_iast hexec hb hG hR hS hq hc9.2 hc9.1 (zz_d hdec rfl rfl) (fun H1 locs1 e1 e2 => goH _ _ _ H1 locs1 hx e1 e2 rfl rfl)
        · cases hx
      · cases hx
    · simp only [zz_sid, Bool.and_eq_true, Bool.or_eq_true, decide_eq_true_eq, zz_beq, zz_blt, Bool.not_eq_true'] at hsid
      subst hsid
      split at hx
      · split at hx
        · rename_i hq
          obtain ⟨hin, hx⟩ := zz_bif hx
          exact zr_bald hexec hb hG hR hq hin (zz_d hdec rfl rfl) (go _ _ _ _ hx hL)
        · cases hx
      · cases hx
    · simp only [zz_sid, Bool.and_eq_true, Bool.or_eq_true, decide_eq_true_eq, zz_beq, zz_blt, Bool.not_eq_true'] at hsid
      subst hsid
      split at hx
      · split at hx
        · rename_i hq
          obtain ⟨hc9, hx⟩ := zz_bif hx
          simp only [Bool.and_eq_true, zz_blt] at hc9
          exact zr_bast hexec hb hG hR hS hq hc9.1.2 hc9.1.1 hc9.2 (zz_d hdec rfl rfl) (fun H1 locs1 e1 e2 => goH _ _ _ H1 locs1 hx e1 e2 rfl rfl)
        · cases hx
      · cases hx
    · simp only [zz_sid, Bool.and_eq_true, Bool.or_eq_true, decide_eq_true_eq, zz_beq, zz_blt, Bool.not_eq_true'] at hsid
      subst hsid
      split at hx
      · split at hx
        · rename_i hq
          obtain ⟨hin, hx⟩ := zz_bif hx
          exact zr_lald hexec hb hG hR hq hin (zz_d hdec rfl rfl) (go _ _ _ _ hx hL)
        · cases hx
      · cases hx
    · simp only [zz_sid, Bool.and_eq_true, Bool.or_eq_true, decide_eq_true_eq, zz_beq, zz_blt, Bool.not_eq_true'] at hsid
      subst hsid
      split at hx
      · split at hx
        · rename_i hq
          obtain ⟨hc9, hx⟩ := zz_bif hx
          simp only [Bool.and_eq_true, zz_blt] at hc9
          exact zr_last hexec hb hG hR hS hq hc9.2 hc9.1 (zz_d hdec rfl rfl) (fun H1 locs1 e1 e2 => goH _ _ _ H1 locs1 hx e1 e2 rfl rfl)
        · cases hx
      · cases hx
    · simp only [zz_sid, Bool.and_eq_true, Bool.or_eq_true, decide_eq_true_eq, zz_beq, zz_blt, Bool.not_eq_true'] at hsid
      subst hsid
      split at hx
      · split at hx
        · rename_i hq
          obtain ⟨hin, hx⟩ := zz_bif hx
          have hgo := go _ _ _ _ hx hL
          rw [List.map_cons, zz_tr_rf] at hgo
          exact zr_aald hexec hb hG hR hq hin (zz_d hdec rfl rfl) hgo
        · cases hx
      · cases hx
    · simp only [zz_sid, Bool.and_eq_true, Bool.or_eq_true, decide_eq_true_eq, zz_beq, zz_blt, Bool.not_eq_true'] at hsid
      subst hsid
      split at hx
      · split at hx
        · rename_i hq hr9
          obtain ⟨hc9, hx⟩ := zz_bif hx
          simp only [Bool.and_eq_true, zz_blt] at hc9
          exact zr_aast hexec hb hG hR hS hq hr9 hc9.2.1 hc9.1 (zz_d hdec rfl rfl) (fun H1 locs1 e1 e2 => goH _ _ _ H1 locs1 hx e1 e2 rfl rfl)
        · cases hx
      · cases hx
    · simp only [zz_sid, Bool.and_eq_true, Bool.or_eq_true, decide_eq_true_eq, zz_beq, zz_blt, Bool.not_eq_true'] at hsid
      subst hsid
      split at hx
      · split at hx
        · rename_i hq
          obtain ⟨hc9, hx⟩ := zz_bif hx
          have hc9 := zz_beq.mp hc9
          subst hc9
          exact zr_alen hexec hb hG hR hS hq (zz_d hdec rfl rfl) (go _ _ _ _ hx hL)
        · cases hx
      · cases hx
    · simp only [zz_sid, Bool.and_eq_true, zz_beq] at hsid
      obtain ⟨hnp, ht⟩ := hsid
      subst hnp
      split at hx
      · obtain ⟨hc9, hx⟩ := zz_bif hx
        simp only [Bool.and_eq_true, zz_blt, zz_beq, Bool.not_eq_true', decide_eq_false_iff_not] at hc9
        obtain ⟨⟨⟨hf, hn0⟩, hn1⟩, hlen⟩ := hc9
        have hk3 : 100 ≤ a := by cases ‹ArrayType› <;> simp [zz_beq] at ht <;> omega
        obtain ⟨r1, r2⟩ := room _ _ _ hx (zz_uc_push h _ _ _ _) ((zz_us_push h _ _ _ _).trans (by rw [zz_sz_a hk3]))
        refine zr_newa hexec hb hts hG hR hS hf hlen ?_ hn0 hn1 r1 r2 (zz_d hdec rfl rfl) (fun H1 e1 e2 => goN _ _ _ H1 _ hx e1 e2 (zz_uc_push h _ _ _ _) ((zz_us_push h _ _ _ _).trans (by rw [zz_sz_a hk3])))
        cases ‹ArrayType› <;> simp [zz_beq] at ht ⊢ <;> exact ht
      · cases hx
    · simp only [zz_sid, Bool.and_eq_true, Bool.or_eq_true, decide_eq_true_eq, zz_beq, zz_blt, Bool.not_eq_true'] at hsid
      subst hsid
      split at hx
      · obtain ⟨hc9, hx⟩ := zz_bif hx
        simp only [Bool.and_eq_true, zz_blt, zz_beq, Bool.not_eq_true', decide_eq_false_iff_not] at hc9
        obtain ⟨⟨⟨hf, hn0⟩, hn1⟩, hlen⟩ := hc9
        obtain ⟨r1, r2⟩ := room _ _ _ hx (zz_uc_push h _ _ _ _) ((zz_us_push h _ _ _ _).trans (by rw [zz_sz_a (by omega)]))
        exact zr_anew hexec hb hown hts hG hR hS hf hlen (zz_wm (w := Cond.classLink nm.1.cls _ (zz_cn 3)) hword (fun e => by cases e) rfl) hn0 hn1 r1 r2 (zz_d hdec rfl rfl) (fun H1 e1 e2 => goN _ _ _ H1 _ hx e1 e2 (zz_uc_push h _ _ _ _) ((zz_us_push h _ _ _ _).trans (by rw [zz_sz_a (by omega)])))
      · cases hx
    · split at hx
      · have hs9 : (Nat.beq np (pc + 3) && Nat.blt a 7) = true := hsid
        rw [Bool.and_eq_true, zz_beq, zz_blt] at hs9
        obtain ⟨hnp, ha7⟩ := hs9
        subst hnp
        obtain ⟨hc9, hx⟩ := zz_bif hx
        rw [Bool.and_eq_true, zz_beq, zz_blt] at hc9
        obtain ⟨r1, r2⟩ := room _ _ _ hx (zz_uc_push h _ _ _ _) ((zz_us_push h _ _ _ _).trans (by rw [zz_sz_c ha7]))
        exact zr_new hexec hb hown hts hG hR hS hc9.1 hc9.2 ha7 (zz_wm (w := Cond.classLink nm.1.cls _ (zz_cn a)) hword (fun e => by cases e) rfl) r1 r2 hdec (fun H1 e1 e2 => goN _ _ _ H1 _ hx e1 e2 (zz_uc_push h _ _ _ _) ((zz_us_push h _ _ _ _).trans (by rw [zz_sz_c ha7])))
      · rename_i hb0
        obtain ⟨hc9, hx⟩ := zz_bif hx
        rw [Bool.and_eq_true, Bool.and_eq_true, zz_ble, zz_beq] at hc9
        obtain ⟨hge, hw8, hz⟩ := hc9
        have hge := zz_ge8_le hge
        have hnil : nm.2.2.2.2.1 = [] := by
          have := (zz_meth_at hm hn).2.2.2.2
          exact List.eq_nil_of_length_eq_zero (by omega)
        cases hx
        obtain ⟨u, v, a1, a2, a3, a4⟩ := hcn
        have c1 : zz_uc (h.1, h.2.1, h.2.2.1, h.2.2.2.1, h.2.2.2.2 + 1) = zz_uc h + 1 := rfl
        have c2 : zz_us (h.1, h.2.1, h.2.2.1, h.2.2.2.1, h.2.2.2.2 + 1) = zz_us h + 6 := by show zz_us1 h.1 + 6 * (h.2.2.2.2 + 1) = zz_us1 h.1 + 6 * h.2.2.2.2 + 6; omega
        exact hthr k m0 nm hm hn pc _ np a b' kc hmem hb0 p e R s mid args below meth c hC hnil st h H locs cells slots mc ms ls hR hL.2.1 hS (by omega) (by omega) hw8 (by omega) (by omega) (by omega) (by omega)
    · simp only [zz_sid, Bool.and_eq_true, zz_beq] at hsid
      obtain ⟨hnp, hcl⟩ := hsid
      have hs3 := List.all_eq_true.mp (List.all_eq_true.mp zz_sid3_ok m0 (List.mem_of_getElem? hm)) _ hmem
      simp only [zz_sid3, Bool.or_eq_true, zz_blt, zz_ble] at hs3
      rcases zz_bifs hx with ⟨hlt, hx⟩ | ⟨hlt, hx⟩
      · rw [hlt] at hcl
        have hlt9 := zz_blt.mp hlt
        obtain ⟨hrc, hx⟩ := zz_bif hx
        exact zz_call_case hrows ih hm hn hC ⟨hR, hL, hS, hrm, hcn⟩ (Or.inl ⟨rfl, hrc⟩) (by omega) hcl (zz_wm (w := Cond.methodLink nm.1.cls _ (zz_nm a)) (by obtain ⟨n9, e9⟩ := hword; exact ⟨n9, by rw [e9]; show Cond.methodLink _ _ (bif Nat.blt a 1000 then zz_nm a else _) = _; rw [hlt]; rfl⟩) (fun e => by cases e) rfl) (zz_d hdec hnp rfl) hnp hx
      · rw [hlt] at hcl
        have hcl : a = 1002 ∨ a = 1003 := by simpa [zz_beq] using hcl
        have hlk9 : Cond.methodLink nm.1.cls _ (zz_pn a) ∈ zz_ws := zz_wm (by obtain ⟨n9, e9⟩ := hword; exact ⟨n9, by rw [e9]; show Cond.methodLink _ _ (bif Nat.blt a 1000 then zz_nm a else zz_pn a) = _; rw [hlt]; rfl⟩) (fun e => by cases e) rfl
        subst hnp
        unfold zz_prim at hx
        obtain ⟨hge, hx⟩ := zz_bif hx
        have hge := zz_ge8_le hge
        split at hx
        · omega
        · omega
        · split at hx
          · rename_i t9 ht9
            obtain ⟨hc9, hx⟩ := zz_bif hx
            rw [Bool.and_eq_true, zz_ble, zz_ble] at hc9
            obtain ⟨u, v, a1, a2, a3, a4⟩ := id hcn
            obtain ⟨m1, m2⟩ := zz_exec_mono zz_P zz_S f _ _ _ _ hx
            exact (hstr nm p e R s mid args below meth c hC pc _ _ t9 H locs cells slots ls _ _ hc9.1 ht9 hS (by omega) (by omega) (by omega) (by omega) (by rw [zz_words_tr]; exact hc9.2) hL.2.1 (zz_d hdec rfl rfl)).1 hlk9 (fun H1 locs1 e1 e2 => by subst e1; exact goH _ _ _ _ locs1 hx hR e2 rfl rfl)
          · cases hx
        · split at hx
          · rename_i t9 ht9
            obtain ⟨hc9, hx⟩ := zz_bif hx
            rw [Bool.and_eq_true, Bool.and_eq_true, zz_ble, zz_ble] at hc9
            obtain ⟨u, v, a1, a2, a3, a4⟩ := id hcn
            obtain ⟨m1, m2⟩ := zz_exec_mono zz_P zz_S f _ _ _ _ hx
            exact (hstr nm p e R s mid args below meth c hC pc _ _ t9 H locs cells slots ls _ _ hc9.1.1 ht9 hS (by omega) (by omega) (by omega) (by omega) (by rw [zz_words_tr]; exact hc9.2) hL.2.1 (zz_d hdec rfl rfl)).2 _ hc9.1.2 hlk9 (fun H1 locs1 e1 e2 => by subst e1; exact goH _ _ _ _ locs1 hx hR e2 rfl rfl)
          · cases hx
        · cases hx
    · simp only [zz_sid, Bool.and_eq_true, zz_beq] at hsid
      obtain ⟨hnp, hcl⟩ := hsid
      have hs3 := List.all_eq_true.mp (List.all_eq_true.mp zz_sid3_ok m0 (List.mem_of_getElem? hm)) _ hmem
      simp only [zz_sid3, Bool.or_eq_true, zz_blt, zz_ble] at hs3
      rcases zz_bifs hx with ⟨hlt, hx⟩ | ⟨hlt, hx⟩
      · rw [hlt] at hcl
        have hlt9 := zz_blt.mp hlt
        exact zz_call_case hrows ih hm hn hC ⟨hR, hL, hS, hrm, hcn⟩ (Or.inr rfl) (by omega) hcl (zz_wm (w := Cond.methodLink nm.1.cls _ (zz_nm a)) (by obtain ⟨n9, e9⟩ := hword; exact ⟨n9, by rw [e9]; show Cond.methodLink _ _ (bif Nat.blt a 1000 then zz_nm a else _) = _; rw [hlt]; rfl⟩) (fun e => by cases e) rfl) (zz_d hdec hnp rfl) hnp hx
      · rw [hlt] at hcl
        have hcl : a = 1001 := by simpa [zz_beq] using hcl
        have hlk9 : Cond.methodLink nm.1.cls _ (zz_pn a) ∈ zz_ws := zz_wm (by obtain ⟨n9, e9⟩ := hword; exact ⟨n9, by rw [e9]; show Cond.methodLink _ _ (bif Nat.blt a 1000 then zz_nm a else zz_pn a) = _; rw [hlt]; rfl⟩) (fun e => by cases e) rfl
        subst hnp
        unfold zz_prim at hx
        obtain ⟨hge, hx⟩ := zz_bif hx
        have hge := zz_ge8_le hge
        split at hx
        · omega
        · split at hx
          · rename_i n0 n1 hq0 hq1
            obtain ⟨hc9, hx9⟩ := zz_bif hx
            simp only [Bool.and_eq_true, decide_eq_true_eq, zz_beq, zz_blt, zz_ble] at hc9
            obtain ⟨⟨⟨⟨p0, p1⟩, hn0, hn1⟩, ⟨hsp, hdp⟩, hlt0, hnn⟩, hw8⟩ := hc9
            subst hnn
            subst hn0
            subst hsp
            subst hdp
            exact zr_copy hexec hb (by rw [hml]; exact hL.2.1.symm) hown hts hG hR hS hq0 hq1 p0 p1 hlt0 hlk9 (by omega) (by rw [zz_words_tr]; exact Nat.le_trans (Nat.add_le_add hw8 (Nat.add_le_add_right zz_nfw 11)) (by omega)) (zz_d hdec rfl rfl) (fun H1 locs1 e1 e2 => goH _ _ _ H1 locs1 hx9 e1 e2 rfl rfl)
          · cases hx
        · omega
        · omega
        · cases hx
    · simp only [zz_sid, Bool.and_eq_true, zz_beq] at hsid
      obtain ⟨hnp, hcl⟩ := hsid
      have hs3 := List.all_eq_true.mp (List.all_eq_true.mp zz_sid3_ok m0 (List.mem_of_getElem? hm)) _ hmem
      simp only [zz_sid3, Bool.or_eq_true, zz_blt, zz_ble] at hs3
      rcases zz_bifs hx with ⟨hlt, hx⟩ | ⟨hlt, hx⟩
      · rw [hlt] at hcl
        have hlt9 := zz_blt.mp hlt
        obtain ⟨hrc, hx⟩ := zz_bif hx
        exact zz_callI_case ih hm hn hC ⟨hR, hL, hS, hrm, hcn⟩ hrc (by omega) hcl (zz_wm (w := Cond.methodLink nm.1.cls _ (zz_nm a)) (by obtain ⟨n9, e9⟩ := hword; exact ⟨n9, by rw [e9]; show Cond.methodLink _ _ (bif Nat.blt a 1000 then zz_nm a else _) = _; rw [hlt]; rfl⟩) (fun e => by cases e) rfl) (zz_d hdec hnp rfl) hnp hx
      · rw [hlt] at hcl
        have hcl : a = 1000 := by simpa [zz_beq] using hcl
        have hlk9 : Cond.methodLink nm.1.cls _ (zz_pn a) ∈ zz_ws := zz_wm (by obtain ⟨n9, e9⟩ := hword; exact ⟨n9, by rw [e9]; show Cond.methodLink _ _ (bif Nat.blt a 1000 then zz_nm a else zz_pn a) = _; rw [hlt]; rfl⟩) (fun e => by cases e) rfl
        subst hnp
        unfold zz_prim at hx
        obtain ⟨hge, hx⟩ := zz_bif hx
        have hge := zz_ge8_le hge
        split at hx
        · obtain ⟨hc9, hx⟩ := zz_bif hx
          have hc9 := zz_ble.mp hc9
          exact W.objInit hexec hb hown (hts _ hlk9) (hts _ zz_w_obj.1) (hts _ zz_w_obj.2) rfl (by rw [hml]; exact hL.2.1) rfl (zz_d hdec rfl rfl) (by omega) (by rw [zz_words_tr]; show 2 * 0 + _ + 12 ≤ _; omega) (go _ _ _ _ hx hL)
        · omega
        · omega
        · omega
        · cases hx
    · split at hx
      · obtain ⟨hc9, hx⟩ := zz_bif hx
        cases hx
        obtain ⟨u, v, a1, a2, a3, a4⟩ := hcn
        have hmc : cells = mc := by omega
        have hms : slots = ms := by omega
        subst hmc
        subst hms
        have hs9 : (bif decide (kc = 0) then decide (nm.2.2.2.1 = some .int) else decide (nm.2.2.2.1 = some .boolean)) = true := hsid
        have hdec9 : decode nm.2.1 pc = .ok (.ireturn, 1) := zz_d hdec (zz_beq.mp (List.all_eq_true.mp (List.all_eq_true.mp zz_sid4_ok m0 (List.mem_of_getElem? hm)) _ hmem)) rfl
        cases hk0 : decide (kc = 0) with
        | true =>
          rw [hk0] at hs9
          exact vx_ret (W.iret hexec hb (hret.trans (of_decide_eq_true hs9)) (fun t9 ht9 hw9 => ⟨_, rfl, rfl, by rw [ht9]; exact hR, hS.F ht9⟩) hS.2.2 hdec9 hlocks)
        | false =>
          rw [hk0] at hs9 hc9
          exact vx_ret (W.zret hexec hb (hret.trans (of_decide_eq_true hs9)) (zz_b01_nar hc9).1 (fun t9 ht9 hw9 => ⟨_, rfl, rfl, by rw [ht9]; exact hR, hS.F ht9⟩) hS.2.2 hdec9 hlocks)
      · cases hx
    · split at hx
      · cases hx
        obtain ⟨u, v, a1, a2, a3, a4⟩ := hcn
        have hmc : cells = mc := by omega
        have hms : slots = ms := by omega
        subst hmc
        subst hms
        exact vx_ret (W.lret hexec hb (hret.trans (of_decide_eq_true hsid)) (fun t9 ht9 hw9 => ⟨_, rfl, rfl, by rw [ht9]; exact hR, hS.F ht9⟩) hS.2.2 (zz_d hdec (zz_beq.mp (List.all_eq_true.mp (List.all_eq_true.mp zz_sid4_ok m0 (List.mem_of_getElem? hm)) _ hmem)) rfl) hlocks)
      · cases hx
    · split at hx
      · cases hx
        obtain ⟨u, v, a1, a2, a3, a4⟩ := hcn
        have hmc : cells = mc := by omega
        have hms : slots = ms := by omega
        subst hmc
        subst hms
        exact vx_ret (W.aret hexec hb (hret.trans (of_decide_eq_true hsid)) (Or.inl ⟨_, rfl⟩) (Or.inr ⟨_, rfl⟩) (fun t9 ht9 hw9 => ⟨_, rfl, rfl, by rw [ht9]; exact hR, hS.F ht9⟩) hS.2.2 (zz_d hdec (zz_beq.mp (List.all_eq_true.mp (List.all_eq_true.mp zz_sid4_ok m0 (List.mem_of_getElem? hm)) _ hmem)) rfl) hlocks)
      · cases hx
    · split at hx
      · cases hx
        obtain ⟨u, v, a1, a2, a3, a4⟩ := hcn
        have hmc : cells = mc := by omega
        have hms : slots = ms := by omega
        subst hmc
        subst hms
        exact vx_ret (W.vret hexec hb (hret.trans (of_decide_eq_true hsid)) (fun t9 ht9 hw9 => ⟨_, rfl, rfl, by rw [ht9]; exact hR, hS.F ht9⟩) hS.2.2 (zz_d hdec (zz_beq.mp (List.all_eq_true.mp (List.all_eq_true.mp zz_sid4_ok m0 (List.mem_of_getElem? hm)) _ hmem)) rfl) hlocks)
      · cases hx
    · split at hx
      · split at hx
        · rename_i z9 hz9
          unfold zz_bin at hz9
          split at hz9
          · cases hz9
            have hnp : np = pc + 1 := zz_beq.mp hsid
            subst hnp
            exact lv_iadd hexec hb (zz_d hdec rfl rfl) (go _ _ _ _ hx hL)
          · cases hz9
            have hnp : np = pc + 1 := zz_beq.mp hsid
            subst hnp
            exact lv_isub hexec hb (zz_d hdec rfl rfl) (go _ _ _ _ hx hL)
          · cases hz9
            have hnp : np = pc + 1 := zz_beq.mp hsid
            subst hnp
            exact lv_imul hexec hb (zz_d hdec rfl rfl) (go _ _ _ _ hx hL)
          · cases hz9
            have hnp : np = pc + 1 := zz_beq.mp hsid
            subst hnp
            exact lv_iand hexec hb (zz_d hdec rfl rfl) (go _ _ _ _ hx hL)
          · cases hz9
            have hnp : np = pc + 1 := zz_beq.mp hsid
            subst hnp
            exact lv_ior hexec hb (zz_d hdec rfl rfl) (go _ _ _ _ hx hL)
          · cases hz9
            have hnp : np = pc + 1 := zz_beq.mp hsid
            subst hnp
            exact lv_ixor hexec hb (zz_d hdec rfl rfl) (go _ _ _ _ hx hL)
          · cases hz9
            have hnp : np = pc + 1 := zz_beq.mp hsid
            subst hnp
            exact lv_ishl hexec hb (zz_d hdec rfl rfl) (go _ _ _ _ hx hL)
          · cases hz9
            have hnp : np = pc + 1 := zz_beq.mp hsid
            subst hnp
            exact lv_ishr hexec hb (zz_d hdec rfl rfl) (go _ _ _ _ hx hL)
          · cases hz9
            have hnp : np = pc + 1 := zz_beq.mp hsid
            subst hnp
            exact lv_iushr hexec hb (zz_d hdec rfl rfl) rfl (go _ _ _ _ hx hL)
          · cases hz9
        · cases hx
      · split at hx
        · rename_i z9 hz9
          unfold zz_binL at hz9
          split at hz9
          · cases hz9
            have hnp : np = pc + 1 := zz_beq.mp hsid
            subst hnp
            exact lv_ladd hexec hb (zz_d hdec rfl rfl) (go _ _ _ _ hx hL)
          · cases hz9
            have hnp : np = pc + 1 := zz_beq.mp hsid
            subst hnp
            exact lv_lsub hexec hb (zz_d hdec rfl rfl) (go _ _ _ _ hx hL)
          · cases hz9
            have hnp : np = pc + 1 := zz_beq.mp hsid
            subst hnp
            exact lv_land hexec hb (zz_d hdec rfl rfl) (go _ _ _ _ hx hL)
          · cases hz9
            have hnp : np = pc + 1 := zz_beq.mp hsid
            subst hnp
            exact lv_lor hexec hb (zz_d hdec rfl rfl) (go _ _ _ _ hx hL)
          · cases hz9
        · cases hx
      · cases hx
