/-! LIFTED: S_passYearAhead L_copyFrom L_clear L_addStep L_addLine A_size A_forget A_remember A_goBack G_fewestPlaces G_fewestTellers G_filledWith G_fillBerths G_berthsFilled G_firstForBerth G_berthPerson G_firstUnsettled G_gainedWith G_pairPeople G_pairedDeeds G_firstPartner G_partner -/
def g_S_passYearAhead_1 (M : zMem) (s : Nat) (i1 : Nat) (a1 : zMem) : Bool × (zMem) := ((bif (decide ((a1 s 10) ≤ (Int32.ofNat i1))) then false else true), (bif (decide ((a1 s 10) ≤ (Int32.ofNat i1))) then a1 else (bif (v_S_awaitsDeed a1 s (Int32.ofNat i1)) then (bif (decide ((v_L_comes a1 s (Int32.ofNat i1)) = (100 : Int32))) then (zz_up (w_L_comes a1 s (Int32.ofNat i1)) (s + 8) (Int32.ofNat i1).toNatClampNeg (((w_L_comes a1 s (Int32.ofNat i1)) (s + 8) (Int32.ofNat i1).toNatClampNeg) ||| (v_S_deedBitOf (w_L_comes a1 s (Int32.ofNat i1)) s (Int32.ofNat i1)))) else (w_L_comes a1 s (Int32.ofNat i1))) else a1)))
def kb_S_passYearAhead_1 (M : zMem) (s : Nat) (i1 : Nat) (a1 : zMem) : Prop := ((decide ((a1 s 10) ≤ (Int32.ofNat i1))) = false → (ok_S_awaitsDeed a1 s (Int32.ofNat i1) ∧ ((v_S_awaitsDeed a1 s (Int32.ofNat i1)) = true → (ok_L_comes a1 s (Int32.ofNat i1) ∧ ((decide ((v_L_comes a1 s (Int32.ofNat i1)) = (100 : Int32))) = true → (zz_in (Int32.ofNat i1) 6 = true ∧ ok_S_deedBitOf (w_L_comes a1 s (Int32.ofNat i1)) s (Int32.ofNat i1)))))))
def w_S_passYearAhead (M : zMem) (s : Nat) : zMem := (w_S_endYear (zf_wh 1000 (g_S_passYearAhead_1 M s) 0 (w_S_growOld M s)) s)
def ok_S_passYearAhead (M : zMem) (s : Nat) : Prop := (ok_S_growOld M s ∧ (zf_wk 1000 (g_S_passYearAhead_1 M s) (kb_S_passYearAhead_1 M s) 0 (w_S_growOld M s)))
set_option maxRecDepth 20000 in
set_option maxHeartbeats 2000000 in
theorem s_S_passYearAhead (L e : Nat) (J : zJem) (d : Nat) (M : zMem) (s : Nat) (hs : zt_St s) (k0 : ok_S_passYearAhead M s) : zz_D (zm_S_passYearAhead, d + 6, 0, [some (.ref s), some (.ref 37), none], []) (zt_T L, zt_R, M, J, e) = some (.inl (none), (zt_T L, zt_R, (w_S_passYearAhead M s), J, e)) := by
  unfold ok_S_passYearAhead at k0
  unfold w_S_passYearAhead
  refine (zz_go 1 (fr' := (zm_S_passYearAhead, d + 6, 1, [some (.ref s), some (.ref 37), none], [.ref s])) (h' := (zt_T L, zt_R, M, J, e)) (fun _ => rfl)).trans ?_
  obtain ⟨g1, k2⟩ := k0
  refine zl_vt (d := d + 5) rfl rfl rfl (zt_St0 L hs) rfl rfl rfl rfl rfl rfl (s_S_growOld L e J (d + 3) M s hs g1) ?_
  show zz_D (zm_S_passYearAhead, d + 6, 4, [some (.ref s), some (.ref 37), none], []) (zt_T L, zt_R, (w_S_growOld M s), J, e) = _
  refine (zz_go 2 (fr' := (zm_S_passYearAhead, d + 6, 6, [some (.ref s), some (.ref 37), some (.int (0 : Int32))], [])) (h' := (zt_T L, zt_R, (w_S_growOld M s), J, e)) (fun _ => rfl)).trans ?_
  refine zf_whY (X := fun (i1 : Nat) (a1 : zMem) => zz_D (zm_S_passYearAhead, d + 6, 6, [some (.ref s), some (.ref 37), some (.int (Int32.ofNat i1))], []) (zt_T L, zt_R, a1, J, e)) (Y := fun (a1 : zMem) => zz_D (zm_S_passYearAhead, d + 6, 53, [some (.ref s), none, none], []) (zt_T L, zt_R, a1, J, e)) (g := (g_S_passYearAhead_1 M s)) (k := (kb_S_passYearAhead_1 M s)) (fun i1 a1 k5 hx3 hx4 => ?_) 1000 0 (w_S_growOld M s) k2 ?_
  · show zz_D (zm_S_passYearAhead, d + 6, 6, [some (.ref s), some (.ref 37), some (.int (Int32.ofNat i1))], []) (zt_T L, zt_R, a1, J, e) = _
    unfold kb_S_passYearAhead_1 at k5
    refine (zz_go 2 (fr' := (zm_S_passYearAhead, d + 6, 8, [some (.ref s), some (.ref 37), some (.int (Int32.ofNat i1))], [.ref s, .int (Int32.ofNat i1)])) (h' := (zt_T L, zt_R, a1, J, e)) (fun _ => rfl)).trans ?_
    refine zl_getI rfl (by decide) (zt_St0 L hs) rfl ?_
    rcases zz_bc (decide ((a1 s 10) ≤ (Int32.ofNat i1))) with h6 | h6
    · refine zc_geT rfl h6 ?_
      refine zz_weak (L := [some (.ref s), none, none]) ⟨Or.inl rfl, Or.inr ⟨rfl, rfl⟩, Or.inr ⟨rfl, rfl⟩, trivial⟩ ?_
      have y1 := hx4 (by simp only [g_S_passYearAhead_1, h6, zk_t, zk_f, zb_t, zb_f])
      simpa only [g_S_passYearAhead_1, h6, zk_t, zk_f, zb_t, zb_f] using y1
    · refine zc_geF rfl h6 ?_
      have k7 := k5 h6
      refine (zz_go 2 (fr' := (zm_S_passYearAhead, d + 6, 16, [some (.ref s), some (.ref 37), some (.int (Int32.ofNat i1))], [.int (Int32.ofNat i1), .ref s])) (h' := (zt_T L, zt_R, a1, J, e)) (fun _ => rfl)).trans ?_
      obtain ⟨g8, k9⟩ := k7
      refine zl_vt (d := d + 5) rfl rfl rfl (zt_St0 L hs) rfl rfl rfl rfl rfl rfl (s_S_awaitsDeed L e J (d + 1) a1 s (Int32.ofNat i1) hs g8) ?_
      show zz_D (zm_S_passYearAhead, d + 6, 19, [some (.ref s), some (.ref 37), some (.int (Int32.ofNat i1))], [.int (zb (v_S_awaitsDeed a1 s (Int32.ofNat i1)))]) (zt_T L, zt_R, a1, J, e) = _
      refine zz_jn (X := zz_D (zm_S_passYearAhead, d + 6, 47, [some (.ref s), some (.ref 37), some (.int (Int32.ofNat i1))], []) (zt_T L, zt_R, (bif (v_S_awaitsDeed a1 s (Int32.ofNat i1)) then (bif (decide ((v_L_comes a1 s (Int32.ofNat i1)) = (100 : Int32))) then (zz_up (w_L_comes a1 s (Int32.ofNat i1)) (s + 8) (Int32.ofNat i1).toNatClampNeg (((w_L_comes a1 s (Int32.ofNat i1)) (s + 8) (Int32.ofNat i1).toNatClampNeg) ||| (v_S_deedBitOf (w_L_comes a1 s (Int32.ofNat i1)) s (Int32.ofNat i1)))) else (w_L_comes a1 s (Int32.ofNat i1))) else a1), J, e)) (fun j10 => ?_) ?_
      · rcases zz_bc (v_S_awaitsDeed a1 s (Int32.ofNat i1)) with h11 | h11
        · refine zq_eT rfl h11 ?_
          have k12 := k9 h11
          refine (zz_go 3 (fr' := (zm_S_passYearAhead, d + 6, 25, [some (.ref s), some (.ref 37), some (.int (Int32.ofNat i1))], [.int (Int32.ofNat i1), .ref s, .ref 37])) (h' := (zt_T L, zt_R, a1, J, e)) (fun _ => rfl)).trans ?_
          obtain ⟨g13, k14⟩ := k12
          refine zl_vt (d := d + 5) rfl rfl rfl rfl rfl rfl rfl rfl rfl rfl (s_L_comes L e J (d + 0) a1 s (Int32.ofNat i1) hs g13) ?_
          show zz_D (zm_S_passYearAhead, d + 6, 28, [some (.ref s), some (.ref 37), some (.int (Int32.ofNat i1))], [.int (v_L_comes a1 s (Int32.ofNat i1))]) (zt_T L, zt_R, (w_L_comes a1 s (Int32.ofNat i1)), J, e) = _
          refine zz_jn (X := zz_D (zm_S_passYearAhead, d + 6, 47, [some (.ref s), some (.ref 37), some (.int (Int32.ofNat i1))], []) (zt_T L, zt_R, (bif (decide ((v_L_comes a1 s (Int32.ofNat i1)) = (100 : Int32))) then (zz_up (w_L_comes a1 s (Int32.ofNat i1)) (s + 8) (Int32.ofNat i1).toNatClampNeg (((w_L_comes a1 s (Int32.ofNat i1)) (s + 8) (Int32.ofNat i1).toNatClampNeg) ||| (v_S_deedBitOf (w_L_comes a1 s (Int32.ofNat i1)) s (Int32.ofNat i1)))) else (w_L_comes a1 s (Int32.ofNat i1))), J, e)) (fun j15 => ?_) ?_
          · refine (zz_go 1 (fr' := (zm_S_passYearAhead, d + 6, 30, [some (.ref s), some (.ref 37), some (.int (Int32.ofNat i1))], [.int (100 : Int32), .int (v_L_comes a1 s (Int32.ofNat i1))])) (h' := (zt_T L, zt_R, (w_L_comes a1 s (Int32.ofNat i1)), J, e)) (fun _ => rfl)).trans ?_
            rcases zz_bc (decide ((v_L_comes a1 s (Int32.ofNat i1)) = (100 : Int32))) with h16 | h16
            · refine zc_neT rfl h16 ?_
              have k17 := k14 h16
              refine (zz_go 1 (fr' := (zm_S_passYearAhead, d + 6, 34, [some (.ref s), some (.ref 37), some (.int (Int32.ofNat i1))], [.ref s])) (h' := (zt_T L, zt_R, (w_L_comes a1 s (Int32.ofNat i1)), J, e)) (fun _ => rfl)).trans ?_
              refine zl_getR rfl (zt_St0 L hs) (zt_StR7 hs) ?_
              refine (zz_go 2 (fr' := (zm_S_passYearAhead, d + 6, 39, [some (.ref s), some (.ref 37), some (.int (Int32.ofNat i1))], [.int (Int32.ofNat i1), .ref (s + 8), .int (Int32.ofNat i1), .ref (s + 8)])) (h' := (zt_T L, zt_R, (w_L_comes a1 s (Int32.ofNat i1)), J, e)) (fun _ => rfl)).trans ?_
              obtain ⟨g18, k19⟩ := k17
              refine zl_iaload rfl (zt_St8 L hs) g18 rfl ?_
              refine (zz_go 2 (fr' := (zm_S_passYearAhead, d + 6, 42, [some (.ref s), some (.ref 37), some (.int (Int32.ofNat i1))], [.int (Int32.ofNat i1), .ref s, .int ((w_L_comes a1 s (Int32.ofNat i1)) (s + 8) (Int32.ofNat i1).toNatClampNeg), .int (Int32.ofNat i1), .ref (s + 8)])) (h' := (zt_T L, zt_R, (w_L_comes a1 s (Int32.ofNat i1)), J, e)) (fun _ => rfl)).trans ?_
              have g20 : ok_S_deedBitOf (w_L_comes a1 s (Int32.ofNat i1)) s (Int32.ofNat i1) := k19
              refine zl_vt (d := d + 5) rfl rfl rfl (zt_St0 L hs) rfl rfl rfl rfl rfl rfl (s_S_deedBitOf L e J (d + 3) (w_L_comes a1 s (Int32.ofNat i1)) s (Int32.ofNat i1) hs g20) ?_
              show zz_D (zm_S_passYearAhead, d + 6, 45, [some (.ref s), some (.ref 37), some (.int (Int32.ofNat i1))], [.int (v_S_deedBitOf (w_L_comes a1 s (Int32.ofNat i1)) s (Int32.ofNat i1)), .int ((w_L_comes a1 s (Int32.ofNat i1)) (s + 8) (Int32.ofNat i1).toNatClampNeg), .int (Int32.ofNat i1), .ref (s + 8)]) (zt_T L, zt_R, (w_L_comes a1 s (Int32.ofNat i1)), J, e) = _
              refine (zz_go 1 (fr' := (zm_S_passYearAhead, d + 6, 46, [some (.ref s), some (.ref 37), some (.int (Int32.ofNat i1))], [.int (((w_L_comes a1 s (Int32.ofNat i1)) (s + 8) (Int32.ofNat i1).toNatClampNeg) ||| (v_S_deedBitOf (w_L_comes a1 s (Int32.ofNat i1)) s (Int32.ofNat i1))), .int (Int32.ofNat i1), .ref (s + 8)])) (h' := (zt_T L, zt_R, (w_L_comes a1 s (Int32.ofNat i1)), J, e)) (fun _ => rfl)).trans ?_
              refine zl_iastore rfl (zt_St8 L hs) g18 (zt_Stp hs 8) rfl ?_
              simpa only [h16, zk_t, zk_f, zb_t, zb_f] using j15
            · refine zc_neF rfl h16 ?_
              simpa only [h16, zk_t, zk_f, zb_t, zb_f] using j15
          simpa only [h11, zk_t, zk_f, zb_t, zb_f] using j10
        · refine zq_eF rfl h11 ?_
          simpa only [h11, zk_t, zk_f, zb_t, zb_f] using j10
      refine (zz_go 2 (fr' := (zm_S_passYearAhead, d + 6, 6, [some (.ref s), some (.ref 37), some (.int (Int32.ofNat i1 + 1))], [])) (h' := (zt_T L, zt_R, (bif (v_S_awaitsDeed a1 s (Int32.ofNat i1)) then (bif (decide ((v_L_comes a1 s (Int32.ofNat i1)) = (100 : Int32))) then (zz_up (w_L_comes a1 s (Int32.ofNat i1)) (s + 8) (Int32.ofNat i1).toNatClampNeg (((w_L_comes a1 s (Int32.ofNat i1)) (s + 8) (Int32.ofNat i1).toNatClampNeg) ||| (v_S_deedBitOf (w_L_comes a1 s (Int32.ofNat i1)) s (Int32.ofNat i1)))) else (w_L_comes a1 s (Int32.ofNat i1))) else a1), J, e)) (fun _ => rfl)).trans ?_
      rw [zi_succ i1]
      have y1 := hx3 (by simp only [g_S_passYearAhead_1, h6, zk_t, zk_f, zb_t, zb_f])
      simpa only [g_S_passYearAhead_1, h6, zk_t, zk_f, zb_t, zb_f] using y1
  show zz_D (zm_S_passYearAhead, d + 6, 53, [some (.ref s), none, none], []) (zt_T L, zt_R, (zf_wh 1000 (g_S_passYearAhead_1 M s) 0 (w_S_growOld M s)), J, e) = _
  refine (zz_go 1 (fr' := (zm_S_passYearAhead, d + 6, 54, [some (.ref s), none, none], [.ref s])) (h' := (zt_T L, zt_R, (zf_wh 1000 (g_S_passYearAhead_1 M s) 0 (w_S_growOld M s)), J, e)) (fun _ => rfl)).trans ?_
  refine zl_vt (d := d + 5) rfl rfl rfl (zt_St0 L hs) rfl rfl rfl rfl rfl rfl (s_S_endYear L e J (d + 3) (zf_wh 1000 (g_S_passYearAhead_1 M s) 0 (w_S_growOld M s)) s hs) ?_
  show zz_D (zm_S_passYearAhead, d + 6, 57, [some (.ref s), none, none], []) (zt_T L, zt_R, (w_S_endYear (zf_wh 1000 (g_S_passYearAhead_1 M s) 0 (w_S_growOld M s)) s), J, e) = _
  refine (zz_end 1 (r := (.inl none, (zt_T L, zt_R, (w_S_endYear (zf_wh 1000 (g_S_passYearAhead_1 M s) 0 (w_S_growOld M s)) s), J, e))) (fun _ => rfl)).trans ?_
  rfl
def w_L_copyFrom (M : zMem) (l : Nat) (k : Nat) : zMem := (zy_l (zy_l (zy_l (zy_l (zz_up (zz_up M l 0 (M k 0)) l 1 ((zz_up M l 0 (M k 0)) k 1)) (fun N => (zz_row N (l + 1) (N (k + 1))))) (fun N => (zz_row N (l + 2) (N (k + 2))))) (fun N => (zz_row N (l + 3) (N (k + 3))))) (fun N => (zz_row N (l + 4) (N (k + 4)))))
set_option maxRecDepth 20000 in
set_option maxHeartbeats 2000000 in
theorem s_L_copyFrom (L e : Nat) (J : zJem) (d : Nat) (M : zMem) (l : Nat) (k : Nat) (hl : zt_Lw l) (hk : zt_Lw k) : zz_D (zm_L_copyFrom, d + 8, 0, [some (.ref l), some (.ref k)], []) (zt_T L, zt_R, M, J, e) = some (.inl (none), (zt_T L, zt_R, (w_L_copyFrom M l k), J, e)) := by
  unfold w_L_copyFrom
  refine (zz_go 2 (fr' := (zm_L_copyFrom, d + 8, 2, [some (.ref l), some (.ref k)], [.ref k, .ref l])) (h' := (zt_T L, zt_R, M, J, e)) (fun _ => rfl)).trans ?_
  refine zl_getI rfl (by decide) (zt_Lw0 L hk) rfl ?_
  refine zl_putI rfl rfl (zt_Lw0 L hl) (zt_Lwp hl 0) ?_
  refine (zz_go 2 (fr' := (zm_L_copyFrom, d + 8, 10, [some (.ref l), some (.ref k)], [.ref k, .ref l])) (h' := (zt_T L, zt_R, (zz_up M l 0 (M k 0)), J, e)) (fun _ => rfl)).trans ?_
  refine zl_getI rfl (by decide) (zt_Lw0 L hk) rfl ?_
  refine zl_putI rfl rfl (zt_Lw0 L hl) (zt_Lwp hl 0) ?_
  refine (zz_go 1 (fr' := (zm_L_copyFrom, d + 8, 17, [some (.ref l), some (.ref k)], [.ref k])) (h' := (zt_T L, zt_R, (zz_up (zz_up M l 0 (M k 0)) l 1 ((zz_up M l 0 (M k 0)) k 1)), J, e)) (fun _ => rfl)).trans ?_
  refine zl_getR rfl (zt_Lw0 L hk) (zt_LwR2 hk) ?_
  refine (zz_go 2 (fr' := (zm_L_copyFrom, d + 8, 22, [some (.ref l), some (.ref k)], [.ref l, .int (0 : Int32), .ref (k + 1)])) (h' := (zt_T L, zt_R, (zz_up (zz_up M l 0 (M k 0)) l 1 ((zz_up M l 0 (M k 0)) k 1)), J, e)) (fun _ => rfl)).trans ?_
  refine zl_getR rfl (zt_Lw0 L hl) (zt_LwR2 hl) ?_
  refine (zz_go 2 (fr' := (zm_L_copyFrom, d + 8, 28, [some (.ref l), some (.ref k)], [.int (12 : Int32), .int (0 : Int32), .ref (l + 1), .int (0 : Int32), .ref (k + 1)])) (h' := (zt_T L, zt_R, (zz_up (zz_up M l 0 (M k 0)) l 1 ((zz_up M l 0 (M k 0)) k 1)), J, e)) (fun _ => rfl)).trans ?_
  refine zl_copy rfl (zt_Lw1 L hk) (zt_Lw1 L hl) rfl rfl rfl (zt_Lwp hk 1) (zt_Lwp hl 1) rfl ?_
  refine (zz_go 1 (fr' := (zm_L_copyFrom, d + 8, 32, [some (.ref l), some (.ref k)], [.ref k])) (h' := (zt_T L, zt_R, (zy_l (zz_up (zz_up M l 0 (M k 0)) l 1 ((zz_up M l 0 (M k 0)) k 1)) (fun N => (zz_row N (l + 1) (N (k + 1))))), J, e)) (fun _ => rfl)).trans ?_
  refine zl_getR rfl (zt_Lw0 L hk) (zt_LwR3 hk) ?_
  refine (zz_go 2 (fr' := (zm_L_copyFrom, d + 8, 37, [some (.ref l), some (.ref k)], [.ref l, .int (0 : Int32), .ref (k + 2)])) (h' := (zt_T L, zt_R, (zy_l (zz_up (zz_up M l 0 (M k 0)) l 1 ((zz_up M l 0 (M k 0)) k 1)) (fun N => (zz_row N (l + 1) (N (k + 1))))), J, e)) (fun _ => rfl)).trans ?_
  refine zl_getR rfl (zt_Lw0 L hl) (zt_LwR3 hl) ?_
  refine (zz_go 2 (fr' := (zm_L_copyFrom, d + 8, 43, [some (.ref l), some (.ref k)], [.int (12 : Int32), .int (0 : Int32), .ref (l + 2), .int (0 : Int32), .ref (k + 2)])) (h' := (zt_T L, zt_R, (zy_l (zz_up (zz_up M l 0 (M k 0)) l 1 ((zz_up M l 0 (M k 0)) k 1)) (fun N => (zz_row N (l + 1) (N (k + 1))))), J, e)) (fun _ => rfl)).trans ?_
  refine zl_copy rfl (zt_Lw2 L hk) (zt_Lw2 L hl) rfl rfl rfl (zt_Lwp hk 2) (zt_Lwp hl 2) rfl ?_
  refine (zz_go 1 (fr' := (zm_L_copyFrom, d + 8, 47, [some (.ref l), some (.ref k)], [.ref k])) (h' := (zt_T L, zt_R, (zy_l (zy_l (zz_up (zz_up M l 0 (M k 0)) l 1 ((zz_up M l 0 (M k 0)) k 1)) (fun N => (zz_row N (l + 1) (N (k + 1))))) (fun N => (zz_row N (l + 2) (N (k + 2))))), J, e)) (fun _ => rfl)).trans ?_
  refine zl_getR rfl (zt_Lw0 L hk) (zt_LwR4 hk) ?_
  refine (zz_go 2 (fr' := (zm_L_copyFrom, d + 8, 52, [some (.ref l), some (.ref k)], [.ref l, .int (0 : Int32), .ref (k + 3)])) (h' := (zt_T L, zt_R, (zy_l (zy_l (zz_up (zz_up M l 0 (M k 0)) l 1 ((zz_up M l 0 (M k 0)) k 1)) (fun N => (zz_row N (l + 1) (N (k + 1))))) (fun N => (zz_row N (l + 2) (N (k + 2))))), J, e)) (fun _ => rfl)).trans ?_
  refine zl_getR rfl (zt_Lw0 L hl) (zt_LwR4 hl) ?_
  refine (zz_go 2 (fr' := (zm_L_copyFrom, d + 8, 58, [some (.ref l), some (.ref k)], [.int (12 : Int32), .int (0 : Int32), .ref (l + 3), .int (0 : Int32), .ref (k + 3)])) (h' := (zt_T L, zt_R, (zy_l (zy_l (zz_up (zz_up M l 0 (M k 0)) l 1 ((zz_up M l 0 (M k 0)) k 1)) (fun N => (zz_row N (l + 1) (N (k + 1))))) (fun N => (zz_row N (l + 2) (N (k + 2))))), J, e)) (fun _ => rfl)).trans ?_
  refine zl_copy rfl (zt_Lw3 L hk) (zt_Lw3 L hl) rfl rfl rfl (zt_Lwp hk 3) (zt_Lwp hl 3) rfl ?_
  refine (zz_go 1 (fr' := (zm_L_copyFrom, d + 8, 62, [some (.ref l), some (.ref k)], [.ref k])) (h' := (zt_T L, zt_R, (zy_l (zy_l (zy_l (zz_up (zz_up M l 0 (M k 0)) l 1 ((zz_up M l 0 (M k 0)) k 1)) (fun N => (zz_row N (l + 1) (N (k + 1))))) (fun N => (zz_row N (l + 2) (N (k + 2))))) (fun N => (zz_row N (l + 3) (N (k + 3))))), J, e)) (fun _ => rfl)).trans ?_
  refine zl_getR rfl (zt_Lw0 L hk) (zt_LwR5 hk) ?_
  refine (zz_go 2 (fr' := (zm_L_copyFrom, d + 8, 67, [some (.ref l), some (.ref k)], [.ref l, .int (0 : Int32), .ref (k + 4)])) (h' := (zt_T L, zt_R, (zy_l (zy_l (zy_l (zz_up (zz_up M l 0 (M k 0)) l 1 ((zz_up M l 0 (M k 0)) k 1)) (fun N => (zz_row N (l + 1) (N (k + 1))))) (fun N => (zz_row N (l + 2) (N (k + 2))))) (fun N => (zz_row N (l + 3) (N (k + 3))))), J, e)) (fun _ => rfl)).trans ?_
  refine zl_getR rfl (zt_Lw0 L hl) (zt_LwR5 hl) ?_
  refine (zz_go 2 (fr' := (zm_L_copyFrom, d + 8, 74, [some (.ref l), some (.ref k)], [.int (400 : Int32), .int (0 : Int32), .ref (l + 4), .int (0 : Int32), .ref (k + 4)])) (h' := (zt_T L, zt_R, (zy_l (zy_l (zy_l (zz_up (zz_up M l 0 (M k 0)) l 1 ((zz_up M l 0 (M k 0)) k 1)) (fun N => (zz_row N (l + 1) (N (k + 1))))) (fun N => (zz_row N (l + 2) (N (k + 2))))) (fun N => (zz_row N (l + 3) (N (k + 3))))), J, e)) (fun _ => rfl)).trans ?_
  refine zl_copy rfl (zt_Lw4 L hk) (zt_Lw4 L hl) rfl rfl rfl (zt_Lwp hk 4) (zt_Lwp hl 4) rfl ?_
  refine (zz_end 1 (r := (.inl none, (zt_T L, zt_R, (zy_l (zy_l (zy_l (zy_l (zz_up (zz_up M l 0 (M k 0)) l 1 ((zz_up M l 0 (M k 0)) k 1)) (fun N => (zz_row N (l + 1) (N (k + 1))))) (fun N => (zz_row N (l + 2) (N (k + 2))))) (fun N => (zz_row N (l + 3) (N (k + 3))))) (fun N => (zz_row N (l + 4) (N (k + 4))))), J, e))) (fun _ => rfl)).trans ?_
  rfl
def w_L_clear (M : zMem) : zMem := (zz_up (zz_up M 44 0 (0 : Int32)) 44 1 (0 : Int32))
set_option maxRecDepth 20000 in
set_option maxHeartbeats 2000000 in
theorem s_L_clear (L e : Nat) (J : zJem) (d : Nat) (M : zMem) : zz_D (zm_L_clear, d + 1, 0, [some (.ref 44)], []) (zt_T L, zt_R, M, J, e) = some (.inl (none), (zt_T L, zt_R, (w_L_clear M), J, e)) := by
  unfold w_L_clear
  refine (zz_go 2 (fr' := (zm_L_clear, d + 1, 2, [some (.ref 44)], [.int (0 : Int32), .ref 44])) (h' := (zt_T L, zt_R, M, J, e)) (fun _ => rfl)).trans ?_
  refine zl_putI rfl rfl rfl rfl ?_
  refine (zz_go 2 (fr' := (zm_L_clear, d + 1, 7, [some (.ref 44)], [.int (0 : Int32), .ref 44])) (h' := (zt_T L, zt_R, (zz_up M 44 0 (0 : Int32)), J, e)) (fun _ => rfl)).trans ?_
  refine zl_putI rfl rfl rfl rfl ?_
  refine (zz_end 1 (r := (.inl none, (zt_T L, zt_R, (zz_up (zz_up M 44 0 (0 : Int32)) 44 1 (0 : Int32)), J, e))) (fun _ => rfl)).trans ?_
  rfl
def w_L_addStep (M : zMem) (x0 : Int32) : zMem := (bif (decide ((400 : Int32) ≤ (M 44 1))) then M else (zz_up (zz_up M 48 (M 44 1).toNatClampNeg x0) 44 1 ((M 44 1) + (1 : Int32))))
def ok_L_addStep (M : zMem) (x0 : Int32) : Prop := ((decide ((400 : Int32) ≤ (M 44 1))) = false → zz_in (M 44 1) 400 = true)
set_option maxRecDepth 20000 in
set_option maxHeartbeats 2000000 in
theorem s_L_addStep (L e : Nat) (J : zJem) (d : Nat) (M : zMem) (x0 : Int32) (k0 : ok_L_addStep M x0) : zz_D (zm_L_addStep, d + 1, 0, [some (.ref 44), some (.int x0)], []) (zt_T L, zt_R, M, J, e) = some (.inl (none), (zt_T L, zt_R, (w_L_addStep M x0), J, e)) := by
  unfold ok_L_addStep at k0
  unfold w_L_addStep
  refine (zz_go 1 (fr' := (zm_L_addStep, d + 1, 1, [some (.ref 44), some (.int x0)], [.ref 44])) (h' := (zt_T L, zt_R, M, J, e)) (fun _ => rfl)).trans ?_
  refine zl_getI rfl (by decide) rfl rfl ?_
  refine zz_jn (X := zz_D (zm_L_addStep, d + 1, 30, [none, none], []) (zt_T L, zt_R, (bif (decide ((400 : Int32) ≤ (M 44 1))) then M else (zz_up (zz_up M 48 (M 44 1).toNatClampNeg x0) 44 1 ((M 44 1) + (1 : Int32)))), J, e)) (fun j1 => ?_) ?_
  · refine (zz_go 1 (fr' := (zm_L_addStep, d + 1, 7, [some (.ref 44), some (.int x0)], [.int (400 : Int32), .int (M 44 1)])) (h' := (zt_T L, zt_R, M, J, e)) (fun _ => rfl)).trans ?_
    rcases zz_bc (decide ((400 : Int32) ≤ (M 44 1))) with h2 | h2
    · refine zc_geT rfl h2 ?_
      refine zz_weak (L := [none, none]) ⟨Or.inr ⟨rfl, rfl⟩, Or.inr ⟨rfl, rfl⟩, trivial⟩ ?_
      simpa only [h2, zk_t, zk_f, zb_t, zb_f] using j1
    · refine zc_geF rfl h2 ?_
      have k3 := k0 h2
      refine (zz_go 1 (fr' := (zm_L_addStep, d + 1, 11, [some (.ref 44), some (.int x0)], [.ref 44])) (h' := (zt_T L, zt_R, M, J, e)) (fun _ => rfl)).trans ?_
      refine zl_getR rfl rfl rfl ?_
      refine (zz_go 1 (fr' := (zm_L_addStep, d + 1, 15, [some (.ref 44), some (.int x0)], [.ref 44, .ref 48])) (h' := (zt_T L, zt_R, M, J, e)) (fun _ => rfl)).trans ?_
      refine zl_getI rfl (by decide) rfl rfl ?_
      refine (zz_go 1 (fr' := (zm_L_addStep, d + 1, 19, [some (.ref 44), some (.int x0)], [.int x0, .int (M 44 1), .ref 48])) (h' := (zt_T L, zt_R, M, J, e)) (fun _ => rfl)).trans ?_
      have g4 : zz_in (M 44 1) 400 = true := k3
      refine zl_iastore rfl rfl g4 rfl rfl ?_
      refine (zz_go 2 (fr' := (zm_L_addStep, d + 1, 22, [some (.ref 44), some (.int x0)], [.ref 44, .ref 44])) (h' := (zt_T L, zt_R, (zz_up M 48 (M 44 1).toNatClampNeg x0), J, e)) (fun _ => rfl)).trans ?_
      refine zl_getI rfl (by decide) rfl ((zu_ne (rfl)).trans rfl) ?_
      refine (zz_go 2 (fr' := (zm_L_addStep, d + 1, 27, [some (.ref 44), some (.int x0)], [.int ((M 44 1) + (1 : Int32)), .ref 44])) (h' := (zt_T L, zt_R, (zz_up M 48 (M 44 1).toNatClampNeg x0), J, e)) (fun _ => rfl)).trans ?_
      refine zl_putI rfl rfl rfl rfl ?_
      refine zz_weak (L := [none, none]) ⟨Or.inr ⟨rfl, rfl⟩, Or.inr ⟨rfl, rfl⟩, trivial⟩ ?_
      simpa only [h2, zk_t, zk_f, zb_t, zb_f] using j1
  refine (zz_end 1 (r := (.inl none, (zt_T L, zt_R, (bif (decide ((400 : Int32) ≤ (M 44 1))) then M else (zz_up (zz_up M 48 (M 44 1).toNatClampNeg x0) 44 1 ((M 44 1) + (1 : Int32)))), J, e))) (fun _ => rfl)).trans ?_
  rfl
def w_L_addLine (M : zMem) (x0 : Int32) (x1 : Int32) : zMem := (bif (decide ((M 44 0) < 0)) then M else (bif (decide ((12 : Int32) ≤ (M 44 0))) then M else (zz_up (zz_up (zz_up (zz_up M 45 (M 44 0).toNatClampNeg x0) 46 (M 44 0).toNatClampNeg x1) 47 (M 44 0).toNatClampNeg (M 44 1)) 44 0 ((M 44 0) + (1 : Int32)))))
def ok_L_addLine (M : zMem) (x0 : Int32) (x1 : Int32) : Prop := ((decide ((M 44 0) < 0)) = false → ((decide ((12 : Int32) ≤ (M 44 0))) = false → zz_in (M 44 0) 12 = true))
set_option maxRecDepth 20000 in
set_option maxHeartbeats 2000000 in
theorem s_L_addLine (L e : Nat) (J : zJem) (d : Nat) (M : zMem) (x0 : Int32) (x1 : Int32) (k0 : ok_L_addLine M x0 x1) : zz_D (zm_L_addLine, d + 1, 0, [some (.ref 44), some (.int x0), some (.int x1)], []) (zt_T L, zt_R, M, J, e) = some (.inl (none), (zt_T L, zt_R, (w_L_addLine M x0 x1), J, e)) := by
  unfold ok_L_addLine at k0
  unfold w_L_addLine
  refine (zz_go 1 (fr' := (zm_L_addLine, d + 1, 1, [some (.ref 44), some (.int x0), some (.int x1)], [.ref 44])) (h' := (zt_T L, zt_R, M, J, e)) (fun _ => rfl)).trans ?_
  refine zl_getI rfl (by decide) rfl rfl ?_
  refine zz_jn (X := zz_D (zm_L_addLine, d + 1, 59, [none, none, none], []) (zt_T L, zt_R, (bif (decide ((M 44 0) < 0)) then M else (bif (decide ((12 : Int32) ≤ (M 44 0))) then M else (zz_up (zz_up (zz_up (zz_up M 45 (M 44 0).toNatClampNeg x0) 46 (M 44 0).toNatClampNeg x1) 47 (M 44 0).toNatClampNeg (M 44 1)) 44 0 ((M 44 0) + (1 : Int32))))), J, e)) (fun j1 => ?_) ?_
  · rcases zz_bc (decide ((M 44 0) < 0)) with h2 | h2
    · refine zo_ltT rfl h2 ?_
      refine zz_weak (L := [none, none, none]) ⟨Or.inr ⟨rfl, rfl⟩, Or.inr ⟨rfl, rfl⟩, Or.inr ⟨rfl, rfl⟩, trivial⟩ ?_
      simpa only [h2, zk_t, zk_f, zb_t, zb_f] using j1
    · refine zo_ltF rfl h2 ?_
      have k3 := k0 h2
      refine (zz_go 1 (fr' := (zm_L_addLine, d + 1, 8, [some (.ref 44), some (.int x0), some (.int x1)], [.ref 44])) (h' := (zt_T L, zt_R, M, J, e)) (fun _ => rfl)).trans ?_
      refine zl_getI rfl (by decide) rfl rfl ?_
      refine zz_jn (X := zz_D (zm_L_addLine, d + 1, 59, [none, none, none], []) (zt_T L, zt_R, (bif (decide ((12 : Int32) ≤ (M 44 0))) then M else (zz_up (zz_up (zz_up (zz_up M 45 (M 44 0).toNatClampNeg x0) 46 (M 44 0).toNatClampNeg x1) 47 (M 44 0).toNatClampNeg (M 44 1)) 44 0 ((M 44 0) + (1 : Int32)))), J, e)) (fun j4 => ?_) ?_
      · refine (zz_go 1 (fr' := (zm_L_addLine, d + 1, 13, [some (.ref 44), some (.int x0), some (.int x1)], [.int (12 : Int32), .int (M 44 0)])) (h' := (zt_T L, zt_R, M, J, e)) (fun _ => rfl)).trans ?_
        rcases zz_bc (decide ((12 : Int32) ≤ (M 44 0))) with h5 | h5
        · refine zc_geT rfl h5 ?_
          refine zz_weak (L := [none, none, none]) ⟨Or.inr ⟨rfl, rfl⟩, Or.inr ⟨rfl, rfl⟩, Or.inr ⟨rfl, rfl⟩, trivial⟩ ?_
          simpa only [h5, zk_t, zk_f, zb_t, zb_f] using j4
        · refine zc_geF rfl h5 ?_
          have k6 := k3 h5
          refine (zz_go 1 (fr' := (zm_L_addLine, d + 1, 17, [some (.ref 44), some (.int x0), some (.int x1)], [.ref 44])) (h' := (zt_T L, zt_R, M, J, e)) (fun _ => rfl)).trans ?_
          refine zl_getR rfl rfl rfl ?_
          refine (zz_go 1 (fr' := (zm_L_addLine, d + 1, 21, [some (.ref 44), some (.int x0), some (.int x1)], [.ref 44, .ref 45])) (h' := (zt_T L, zt_R, M, J, e)) (fun _ => rfl)).trans ?_
          refine zl_getI rfl (by decide) rfl rfl ?_
          refine (zz_go 1 (fr' := (zm_L_addLine, d + 1, 25, [some (.ref 44), some (.int x0), some (.int x1)], [.int x0, .int (M 44 0), .ref 45])) (h' := (zt_T L, zt_R, M, J, e)) (fun _ => rfl)).trans ?_
          have g7 : zz_in (M 44 0) 12 = true := k6
          refine zl_iastore rfl rfl g7 rfl rfl ?_
          refine (zz_go 1 (fr' := (zm_L_addLine, d + 1, 27, [some (.ref 44), some (.int x0), some (.int x1)], [.ref 44])) (h' := (zt_T L, zt_R, (zz_up M 45 (M 44 0).toNatClampNeg x0), J, e)) (fun _ => rfl)).trans ?_
          refine zl_getR rfl rfl rfl ?_
          refine (zz_go 1 (fr' := (zm_L_addLine, d + 1, 31, [some (.ref 44), some (.int x0), some (.int x1)], [.ref 44, .ref 46])) (h' := (zt_T L, zt_R, (zz_up M 45 (M 44 0).toNatClampNeg x0), J, e)) (fun _ => rfl)).trans ?_
          refine zl_getI rfl (by decide) rfl ((zu_ne (rfl)).trans rfl) ?_
          refine (zz_go 1 (fr' := (zm_L_addLine, d + 1, 35, [some (.ref 44), some (.int x0), some (.int x1)], [.int x1, .int (M 44 0), .ref 46])) (h' := (zt_T L, zt_R, (zz_up M 45 (M 44 0).toNatClampNeg x0), J, e)) (fun _ => rfl)).trans ?_
          refine zl_iastore rfl rfl g7 rfl rfl ?_
          refine (zz_go 1 (fr' := (zm_L_addLine, d + 1, 37, [some (.ref 44), some (.int x0), some (.int x1)], [.ref 44])) (h' := (zt_T L, zt_R, (zz_up (zz_up M 45 (M 44 0).toNatClampNeg x0) 46 (M 44 0).toNatClampNeg x1), J, e)) (fun _ => rfl)).trans ?_
          refine zl_getR rfl rfl rfl ?_
          refine (zz_go 1 (fr' := (zm_L_addLine, d + 1, 41, [some (.ref 44), some (.int x0), some (.int x1)], [.ref 44, .ref 47])) (h' := (zt_T L, zt_R, (zz_up (zz_up M 45 (M 44 0).toNatClampNeg x0) 46 (M 44 0).toNatClampNeg x1), J, e)) (fun _ => rfl)).trans ?_
          refine zl_getI rfl (by decide) rfl ((zu_ne (rfl)).trans ((zu_ne (rfl)).trans rfl)) ?_
          refine (zz_go 1 (fr' := (zm_L_addLine, d + 1, 45, [some (.ref 44), some (.int x0), some (.int x1)], [.ref 44, .int (M 44 0), .ref 47])) (h' := (zt_T L, zt_R, (zz_up (zz_up M 45 (M 44 0).toNatClampNeg x0) 46 (M 44 0).toNatClampNeg x1), J, e)) (fun _ => rfl)).trans ?_
          refine zl_getI rfl (by decide) rfl ((zu_ne (rfl)).trans ((zu_ne (rfl)).trans rfl)) ?_
          refine zl_iastore rfl rfl g7 rfl rfl ?_
          refine (zz_go 2 (fr' := (zm_L_addLine, d + 1, 51, [some (.ref 44), some (.int x0), some (.int x1)], [.ref 44, .ref 44])) (h' := (zt_T L, zt_R, (zz_up (zz_up (zz_up M 45 (M 44 0).toNatClampNeg x0) 46 (M 44 0).toNatClampNeg x1) 47 (M 44 0).toNatClampNeg (M 44 1)), J, e)) (fun _ => rfl)).trans ?_
          refine zl_getI rfl (by decide) rfl ((zu_ne (rfl)).trans ((zu_ne (rfl)).trans ((zu_ne (rfl)).trans rfl))) ?_
          refine (zz_go 2 (fr' := (zm_L_addLine, d + 1, 56, [some (.ref 44), some (.int x0), some (.int x1)], [.int ((M 44 0) + (1 : Int32)), .ref 44])) (h' := (zt_T L, zt_R, (zz_up (zz_up (zz_up M 45 (M 44 0).toNatClampNeg x0) 46 (M 44 0).toNatClampNeg x1) 47 (M 44 0).toNatClampNeg (M 44 1)), J, e)) (fun _ => rfl)).trans ?_
          refine zl_putI rfl rfl rfl rfl ?_
          refine zz_weak (L := [none, none, none]) ⟨Or.inr ⟨rfl, rfl⟩, Or.inr ⟨rfl, rfl⟩, Or.inr ⟨rfl, rfl⟩, trivial⟩ ?_
          simpa only [h5, zk_t, zk_f, zb_t, zb_f] using j4
      simpa only [h2, zk_t, zk_f, zb_t, zb_f] using j1
  refine (zz_end 1 (r := (.inl none, (zt_T L, zt_R, (bif (decide ((M 44 0) < 0)) then M else (bif (decide ((12 : Int32) ≤ (M 44 0))) then M else (zz_up (zz_up (zz_up (zz_up M 45 (M 44 0).toNatClampNeg x0) 46 (M 44 0).toNatClampNeg x1) 47 (M 44 0).toNatClampNeg (M 44 1)) 44 0 ((M 44 0) + (1 : Int32))))), J, e))) (fun _ => rfl)).trans ?_
  rfl
def v_A_size (M : zMem) : Int32 := (M 58 2)
set_option maxRecDepth 20000 in
set_option maxHeartbeats 2000000 in
theorem s_A_size (L e : Nat) (J : zJem) (d : Nat) (M : zMem) : zz_D (zm_A_size, d + 1, 0, [some (.ref 58)], []) (zt_T L, zt_R, M, J, e) = some (.inl (some (.int (v_A_size M))), (zt_T L, zt_R, M, J, e)) := by
  unfold v_A_size
  refine (zz_go 1 (fr' := (zm_A_size, d + 1, 1, [some (.ref 58)], [.ref 58])) (h' := (zt_T L, zt_R, M, J, e)) (fun _ => rfl)).trans ?_
  refine zl_getI rfl (by decide) rfl rfl ?_
  refine zl_retI rfl rfl ?_
  rfl
def w_A_forget (M : zMem) : zMem := (zz_up M 58 2 (0 : Int32))
set_option maxRecDepth 20000 in
set_option maxHeartbeats 2000000 in
theorem s_A_forget (L e : Nat) (J : zJem) (d : Nat) (M : zMem) : zz_D (zm_A_forget, d + 1, 0, [some (.ref 58)], []) (zt_T L, zt_R, M, J, e) = some (.inl (none), (zt_T L, zt_R, (w_A_forget M), J, e)) := by
  unfold w_A_forget
  refine (zz_go 2 (fr' := (zm_A_forget, d + 1, 2, [some (.ref 58)], [.int (0 : Int32), .ref 58])) (h' := (zt_T L, zt_R, M, J, e)) (fun _ => rfl)).trans ?_
  refine zl_putI rfl rfl rfl rfl ?_
  refine (zz_end 1 (r := (.inl none, (zt_T L, zt_R, (zz_up M 58 2 (0 : Int32)), J, e))) (fun _ => rfl)).trans ?_
  rfl
def w_A_remember (M : zMem) : zMem := (bif (decide ((M 58 1) < 0)) then M else (bif (decide ((M 58 1) < (12 : Int32))) then (zz_up (zy_l (w_S_copyFrom M (60 + 11 * (M 58 1).toNatClampNeg) 4) (fun N => (zz_up N 58 1 (zrm ((N 58 1) + (1 : Int32)) (12 : Int32))))) 58 2 (v_jm_min (((w_S_copyFrom M (60 + 11 * (M 58 1).toNatClampNeg) 4) 58 2) + (1 : Int32)) (12 : Int32))) else M))
def ok_A_remember (M : zMem) : Prop := ((decide ((M 58 1) < 0)) = false → ((decide ((M 58 1) < (12 : Int32))) = true → zz_in (M 58 1) 12 = true))
set_option maxRecDepth 20000 in
set_option maxHeartbeats 2000000 in
theorem s_A_remember (L e : Nat) (J : zJem) (d : Nat) (M : zMem) (k0 : ok_A_remember M) : zz_D (zm_A_remember, d + 9, 0, [some (.ref 58), some (.ref 4)], []) (zt_T L, zt_R, M, J, e) = some (.inl (none), (zt_T L, zt_R, (w_A_remember M), J, e)) := by
  unfold ok_A_remember at k0
  unfold w_A_remember
  refine (zz_go 1 (fr' := (zm_A_remember, d + 9, 1, [some (.ref 58), some (.ref 4)], [.ref 58])) (h' := (zt_T L, zt_R, M, J, e)) (fun _ => rfl)).trans ?_
  refine zl_getI rfl (by decide) rfl rfl ?_
  rcases zz_bc (decide ((M 58 1) < 0)) with h1 | h1
  · refine zo_ltT rfl h1 ?_
    refine (zz_end 1 (r := (.inl none, (zt_T L, zt_R, M, J, e))) (fun _ => rfl)).trans ?_
    first | (simp only [h1, zk_t, zk_f, zb_t, zb_f]; done) | (simp only [h1, zk_t, zk_f, zb_t, zb_f]; rfl) | rfl
  · refine zo_ltF rfl h1 ?_
    have k2 := k0 h1
    refine (zz_go 1 (fr' := (zm_A_remember, d + 9, 8, [some (.ref 58), some (.ref 4)], [.ref 58])) (h' := (zt_T L, zt_R, M, J, e)) (fun _ => rfl)).trans ?_
    refine zl_getI rfl (by decide) rfl rfl ?_
    refine (zz_go 1 (fr' := (zm_A_remember, d + 9, 13, [some (.ref 58), some (.ref 4)], [.int (12 : Int32), .int (M 58 1)])) (h' := (zt_T L, zt_R, M, J, e)) (fun _ => rfl)).trans ?_
    rcases zz_bc (decide ((M 58 1) < (12 : Int32))) with h3 | h3
    · refine zc_ltT rfl h3 ?_
      have k4 := k2 h3
      refine (zz_go 1 (fr' := (zm_A_remember, d + 9, 18, [some (.ref 58), some (.ref 4)], [.ref 58])) (h' := (zt_T L, zt_R, M, J, e)) (fun _ => rfl)).trans ?_
      refine zl_getR rfl rfl rfl ?_
      refine (zz_go 1 (fr' := (zm_A_remember, d + 9, 22, [some (.ref 58), some (.ref 4)], [.ref 58, .ref 59])) (h' := (zt_T L, zt_R, M, J, e)) (fun _ => rfl)).trans ?_
      refine zl_getI rfl (by decide) rfl rfl ?_
      have g5 : zz_in (M 58 1) 12 = true := k4
      refine zl_aaload rfl rfl g5 (zt_PR g5) ?_
      refine (zz_go 1 (fr' := (zm_A_remember, d + 9, 27, [some (.ref 58), some (.ref 4)], [.ref 4, .ref (60 + 11 * (M 58 1).toNatClampNeg)])) (h' := (zt_T L, zt_R, M, J, e)) (fun _ => rfl)).trans ?_
      refine zl_vt (d := d + 8) rfl rfl rfl (zt_St0 L (zt_Pst g5)) rfl rfl rfl rfl rfl rfl (s_S_copyFrom L e J (d + 0) M (60 + 11 * (M 58 1).toNatClampNeg) 4 (zt_Pst g5) zt_St_4) ?_
      show zz_D (zm_A_remember, d + 9, 30, [some (.ref 58), some (.ref 4)], []) (zt_T L, zt_R, (w_S_copyFrom M (60 + 11 * (M 58 1).toNatClampNeg) 4), J, e) = _
      refine (zz_go 2 (fr' := (zm_A_remember, d + 9, 32, [some (.ref 58), some (.ref 4)], [.ref 58, .ref 58])) (h' := (zt_T L, zt_R, (w_S_copyFrom M (60 + 11 * (M 58 1).toNatClampNeg) 4), J, e)) (fun _ => rfl)).trans ?_
      refine zl_getI rfl (by decide) rfl rfl ?_
      refine (zz_go 3 (fr' := (zm_A_remember, d + 9, 39, [some (.ref 58), some (.ref 4)], [.int (12 : Int32), .int (((w_S_copyFrom M (60 + 11 * (M 58 1).toNatClampNeg) 4) 58 1) + (1 : Int32)), .ref 58])) (h' := (zt_T L, zt_R, (w_S_copyFrom M (60 + 11 * (M 58 1).toNatClampNeg) 4), J, e)) (fun _ => rfl)).trans ?_
      refine zl_rem rfl (by decide) ?_
      refine zl_putI rfl rfl rfl rfl ?_
      refine (zz_go 2 (fr' := (zm_A_remember, d + 9, 45, [some (.ref 58), some (.ref 4)], [.ref 58, .ref 58])) (h' := (zt_T L, zt_R, (zy_l (w_S_copyFrom M (60 + 11 * (M 58 1).toNatClampNeg) 4) (fun N => (zz_up N 58 1 (zrm ((N 58 1) + (1 : Int32)) (12 : Int32))))), J, e)) (fun _ => rfl)).trans ?_
      refine zl_getI rfl (by decide) rfl ((zu_nk rfl).trans rfl) ?_
      refine (zz_go 3 (fr' := (zm_A_remember, d + 9, 52, [some (.ref 58), some (.ref 4)], [.int (12 : Int32), .int (((w_S_copyFrom M (60 + 11 * (M 58 1).toNatClampNeg) 4) 58 2) + (1 : Int32)), .ref 58])) (h' := (zt_T L, zt_R, (zy_l (w_S_copyFrom M (60 + 11 * (M 58 1).toNatClampNeg) 4) (fun N => (zz_up N 58 1 (zrm ((N 58 1) + (1 : Int32)) (12 : Int32))))), J, e)) (fun _ => rfl)).trans ?_
      refine zl_st (d := d + 8) rfl rfl rfl rfl rfl rfl rfl (s_jm_min L e J (d + 7) (((w_S_copyFrom M (60 + 11 * (M 58 1).toNatClampNeg) 4) 58 2) + (1 : Int32)) (12 : Int32)) ?_
      show zz_D (zm_A_remember, d + 9, 55, [some (.ref 58), some (.ref 4)], [.int (v_jm_min (((w_S_copyFrom M (60 + 11 * (M 58 1).toNatClampNeg) 4) 58 2) + (1 : Int32)) (12 : Int32)), .ref 58]) (zt_T L, zt_R, (zy_l (w_S_copyFrom M (60 + 11 * (M 58 1).toNatClampNeg) 4) (fun N => (zz_up N 58 1 (zrm ((N 58 1) + (1 : Int32)) (12 : Int32))))), J, e) = _
      refine zl_putI rfl rfl rfl rfl ?_
      refine (zz_end 1 (r := (.inl none, (zt_T L, zt_R, (zz_up (zy_l (w_S_copyFrom M (60 + 11 * (M 58 1).toNatClampNeg) 4) (fun N => (zz_up N 58 1 (zrm ((N 58 1) + (1 : Int32)) (12 : Int32))))) 58 2 (v_jm_min (((w_S_copyFrom M (60 + 11 * (M 58 1).toNatClampNeg) 4) 58 2) + (1 : Int32)) (12 : Int32))), J, e))) (fun _ => rfl)).trans ?_
      first | (simp only [h1, h3, zk_t, zk_f, zb_t, zb_f]; done) | (simp only [h1, h3, zk_t, zk_f, zb_t, zb_f]; rfl) | rfl
    · refine zc_ltF rfl h3 ?_
      refine (zz_end 1 (r := (.inl none, (zt_T L, zt_R, M, J, e))) (fun _ => rfl)).trans ?_
      first | (simp only [h1, h3, zk_t, zk_f, zb_t, zb_f]; done) | (simp only [h1, h3, zk_t, zk_f, zb_t, zb_f]; rfl) | rfl
def v_A_goBack (M : zMem) : Bool := (bif (decide ((M 58 2) = 0)) then false else true)
def w_A_goBack (M : zMem) : zMem := (bif (decide ((M 58 2) = 0)) then M else (w_S_copyFrom (zz_up (zz_up M 58 1 (zrm (((M 58 1) + (12 : Int32)) - (1 : Int32)) (12 : Int32))) 58 2 ((M 58 2) - (1 : Int32))) 4 (60 + 11 * (zrm (((M 58 1) + (12 : Int32)) - (1 : Int32)) (12 : Int32)).toNatClampNeg)))
def ok_A_goBack (M : zMem) : Prop := ((decide ((M 58 2) = 0)) = false → zz_in (zrm (((M 58 1) + (12 : Int32)) - (1 : Int32)) (12 : Int32)) 12 = true)
set_option maxRecDepth 20000 in
set_option maxHeartbeats 2000000 in
theorem s_A_goBack (L e : Nat) (J : zJem) (d : Nat) (M : zMem) (k0 : ok_A_goBack M) : zz_D (zm_A_goBack, d + 9, 0, [some (.ref 58), some (.ref 4)], []) (zt_T L, zt_R, M, J, e) = some (.inl (some (.int (zb (v_A_goBack M)))), (zt_T L, zt_R, (w_A_goBack M), J, e)) := by
  unfold ok_A_goBack at k0
  unfold v_A_goBack w_A_goBack
  refine (zz_go 1 (fr' := (zm_A_goBack, d + 9, 1, [some (.ref 58), some (.ref 4)], [.ref 58])) (h' := (zt_T L, zt_R, M, J, e)) (fun _ => rfl)).trans ?_
  refine zl_getI rfl (by decide) rfl rfl ?_
  rcases zz_bc (decide ((M 58 2) = 0)) with h1 | h1
  · refine zo_neT rfl h1 ?_
    refine (zz_go 1 (fr' := (zm_A_goBack, d + 9, 8, [some (.ref 58), some (.ref 4)], [.int (0 : Int32)])) (h' := (zt_T L, zt_R, M, J, e)) (fun _ => rfl)).trans ?_
    refine zl_retI rfl rfl ?_
    first | (simp only [h1, zk_t, zk_f, zb_t, zb_f]; done) | (simp only [h1, zk_t, zk_f, zb_t, zb_f]; rfl) | rfl
  · refine zo_neF rfl h1 ?_
    have k2 := k0 h1
    refine (zz_go 2 (fr' := (zm_A_goBack, d + 9, 11, [some (.ref 58), some (.ref 4)], [.ref 58, .ref 58])) (h' := (zt_T L, zt_R, M, J, e)) (fun _ => rfl)).trans ?_
    refine zl_getI rfl (by decide) rfl rfl ?_
    refine (zz_go 5 (fr' := (zm_A_goBack, d + 9, 21, [some (.ref 58), some (.ref 4)], [.int (12 : Int32), .int (((M 58 1) + (12 : Int32)) - (1 : Int32)), .ref 58])) (h' := (zt_T L, zt_R, M, J, e)) (fun _ => rfl)).trans ?_
    refine zl_rem rfl (by decide) ?_
    refine zl_putI rfl rfl rfl rfl ?_
    refine (zz_go 2 (fr' := (zm_A_goBack, d + 9, 27, [some (.ref 58), some (.ref 4)], [.ref 58, .ref 58])) (h' := (zt_T L, zt_R, (zz_up M 58 1 (zrm (((M 58 1) + (12 : Int32)) - (1 : Int32)) (12 : Int32))), J, e)) (fun _ => rfl)).trans ?_
    refine zl_getI rfl (by decide) rfl ((zu_nk rfl).trans rfl) ?_
    refine (zz_go 2 (fr' := (zm_A_goBack, d + 9, 32, [some (.ref 58), some (.ref 4)], [.int ((M 58 2) - (1 : Int32)), .ref 58])) (h' := (zt_T L, zt_R, (zz_up M 58 1 (zrm (((M 58 1) + (12 : Int32)) - (1 : Int32)) (12 : Int32))), J, e)) (fun _ => rfl)).trans ?_
    refine zl_putI rfl rfl rfl rfl ?_
    refine (zz_go 2 (fr' := (zm_A_goBack, d + 9, 37, [some (.ref 58), some (.ref 4)], [.ref 58, .ref 4])) (h' := (zt_T L, zt_R, (zz_up (zz_up M 58 1 (zrm (((M 58 1) + (12 : Int32)) - (1 : Int32)) (12 : Int32))) 58 2 ((M 58 2) - (1 : Int32))), J, e)) (fun _ => rfl)).trans ?_
    refine zl_getR rfl rfl rfl ?_
    refine (zz_go 1 (fr' := (zm_A_goBack, d + 9, 41, [some (.ref 58), some (.ref 4)], [.ref 58, .ref 59, .ref 4])) (h' := (zt_T L, zt_R, (zz_up (zz_up M 58 1 (zrm (((M 58 1) + (12 : Int32)) - (1 : Int32)) (12 : Int32))) 58 2 ((M 58 2) - (1 : Int32))), J, e)) (fun _ => rfl)).trans ?_
    refine zl_getI rfl (by decide) rfl ((zu_nk rfl).trans zu_eq) ?_
    have g3 : zz_in (zrm (((M 58 1) + (12 : Int32)) - (1 : Int32)) (12 : Int32)) 12 = true := k2
    refine zl_aaload rfl rfl g3 (zt_PR g3) ?_
    refine zl_vt (d := d + 8) rfl rfl rfl rfl rfl rfl rfl rfl rfl rfl (s_S_copyFrom L e J (d + 0) (zz_up (zz_up M 58 1 (zrm (((M 58 1) + (12 : Int32)) - (1 : Int32)) (12 : Int32))) 58 2 ((M 58 2) - (1 : Int32))) 4 (60 + 11 * (zrm (((M 58 1) + (12 : Int32)) - (1 : Int32)) (12 : Int32)).toNatClampNeg) zt_St_4 (zt_Pst g3)) ?_
    show zz_D (zm_A_goBack, d + 9, 48, [some (.ref 58), some (.ref 4)], []) (zt_T L, zt_R, (w_S_copyFrom (zz_up (zz_up M 58 1 (zrm (((M 58 1) + (12 : Int32)) - (1 : Int32)) (12 : Int32))) 58 2 ((M 58 2) - (1 : Int32))) 4 (60 + 11 * (zrm (((M 58 1) + (12 : Int32)) - (1 : Int32)) (12 : Int32)).toNatClampNeg)), J, e) = _
    refine (zz_go 1 (fr' := (zm_A_goBack, d + 9, 49, [some (.ref 58), some (.ref 4)], [.int (1 : Int32)])) (h' := (zt_T L, zt_R, (w_S_copyFrom (zz_up (zz_up M 58 1 (zrm (((M 58 1) + (12 : Int32)) - (1 : Int32)) (12 : Int32))) 58 2 ((M 58 2) - (1 : Int32))) 4 (60 + 11 * (zrm (((M 58 1) + (12 : Int32)) - (1 : Int32)) (12 : Int32)).toNatClampNeg)), J, e)) (fun _ => rfl)).trans ?_
    refine zl_retI rfl rfl ?_
    first | (simp only [h1, zk_t, zk_f, zb_t, zb_f]; done) | (simp only [h1, zk_t, zk_f, zb_t, zb_f]; rfl) | rfl
def f_G_fewestPlaces_1 (M : zMem) (x0 : Int32) (i1 : Nat) (a1 : zMem) : zMem := (zz_up a1 193 i1 (1073741824 : Int32))
def f_G_fewestPlaces_3 (M : zMem) (x0 : Int32) (i2 : Nat) (a2 : zMem) (i3 : Nat) (a3 : zMem) : zMem := (zz_up a3 193 ((Int32.ofNat i3) ||| (bif (decide (((zsr (v_S_kindsMarkedAt a2 4 (Int32.ofNat i2)) x0) &&& (1 : Int32)) = 0)) then (v_S_kindsMarkedAt a2 4 (Int32.ofNat i2)) else ((255 : Int32) &&& ((v_S_kindsMarkedAt a2 4 (Int32.ofNat i2)) ^^^ (-1 : Int32))))).toNatClampNeg (v_jm_min (a3 193 ((Int32.ofNat i3) ||| (bif (decide (((zsr (v_S_kindsMarkedAt a2 4 (Int32.ofNat i2)) x0) &&& (1 : Int32)) = 0)) then (v_S_kindsMarkedAt a2 4 (Int32.ofNat i2)) else ((255 : Int32) &&& ((v_S_kindsMarkedAt a2 4 (Int32.ofNat i2)) ^^^ (-1 : Int32))))).toNatClampNeg) ((a3 193 i3) + ((65536 : Int32) + (zsl (1 : Int32) (Int32.ofNat i2))))))
def kb_G_fewestPlaces_3 (M : zMem) (x0 : Int32) (i2 : Nat) (a2 : zMem) (i3 : Nat) (a3 : zMem) : Prop := zz_in ((Int32.ofNat i3) ||| (bif (decide (((zsr (v_S_kindsMarkedAt a2 4 (Int32.ofNat i2)) x0) &&& (1 : Int32)) = 0)) then (v_S_kindsMarkedAt a2 4 (Int32.ofNat i2)) else ((255 : Int32) &&& ((v_S_kindsMarkedAt a2 4 (Int32.ofNat i2)) ^^^ (-1 : Int32))))) 448 = true
def f_G_fewestPlaces_2 (M : zMem) (x0 : Int32) (i2 : Nat) (a2 : zMem) : zMem := (zf_for 256 (f_G_fewestPlaces_3 M x0 i2 a2) a2)
def kb_G_fewestPlaces_2 (M : zMem) (x0 : Int32) (i2 : Nat) (a2 : zMem) : Prop := (∀ i3, i3 < 256 → kb_G_fewestPlaces_3 M x0 i2 a2 i3 (zf_for i3 (f_G_fewestPlaces_3 M x0 i2 a2) a2))
def v_G_fewestPlaces (M : zMem) (x0 : Int32) : Int32 := (bif (decide (((zf_for 16 (f_G_fewestPlaces_2 M x0) (zz_up (zf_for 256 (f_G_fewestPlaces_1 M x0) M) 193 (zsl (1 : Int32) x0).toNatClampNeg (0 : Int32))) 193 255) < (1073741824 : Int32))) then (((zf_for 16 (f_G_fewestPlaces_2 M x0) (zz_up (zf_for 256 (f_G_fewestPlaces_1 M x0) M) 193 (zsl (1 : Int32) x0).toNatClampNeg (0 : Int32))) 193 255) &&& (65535 : Int32)) else (-1 : Int32))
def w_G_fewestPlaces (M : zMem) (x0 : Int32) : zMem := (zf_for 16 (f_G_fewestPlaces_2 M x0) (zz_up (zf_for 256 (f_G_fewestPlaces_1 M x0) M) 193 (zsl (1 : Int32) x0).toNatClampNeg (0 : Int32)))
def ok_G_fewestPlaces (M : zMem) (x0 : Int32) : Prop := (zz_in (zsl (1 : Int32) x0) 448 = true ∧ (∀ i2, i2 < 16 → kb_G_fewestPlaces_2 M x0 i2 (zf_for i2 (f_G_fewestPlaces_2 M x0) (zz_up (zf_for 256 (f_G_fewestPlaces_1 M x0) M) 193 (zsl (1 : Int32) x0).toNatClampNeg (0 : Int32)))))
set_option maxRecDepth 20000 in
set_option maxHeartbeats 2000000 in
theorem s_G_fewestPlaces (L e : Nat) (J : zJem) (d : Nat) (M : zMem) (x0 : Int32) (k0 : ok_G_fewestPlaces M x0) : zz_D (zm_G_fewestPlaces, d + 2, 0, [some (.ref 192), some (.ref 4), some (.int x0), none, none, none, none, none], []) (zt_T L, zt_R, M, J, e) = some (.inl (some (.int (v_G_fewestPlaces M x0))), (zt_T L, zt_R, (w_G_fewestPlaces M x0), J, e)) := by
  unfold ok_G_fewestPlaces at k0
  unfold v_G_fewestPlaces w_G_fewestPlaces
  refine (zz_go 2 (fr' := (zm_G_fewestPlaces, d + 2, 2, [some (.ref 192), some (.ref 4), some (.int x0), some (.int (0 : Int32)), none, none, none, none], [])) (h' := (zt_T L, zt_R, M, J, e)) (fun _ => rfl)).trans ?_
  refine zf_forD (X := fun (i1 : Nat) (a1 : zMem) => zz_D (zm_G_fewestPlaces, d + 2, 2, [some (.ref 192), some (.ref 4), some (.int x0), some (.int (Int32.ofNat i1)), none, none, none, none], []) (zt_T L, zt_R, a1, J, e)) (f := (f_G_fewestPlaces_1 M x0)) (a := M) 256 (fun i1 hi1 => ?_) ?_
  · intro hx1
    generalize zf_for i1 (f_G_fewestPlaces_1 M x0) M = a1 at hx1 ⊢
    show zz_D (zm_G_fewestPlaces, d + 2, 2, [some (.ref 192), some (.ref 4), some (.int x0), some (.int (Int32.ofNat i1)), none, none, none, none], []) (zt_T L, zt_R, a1, J, e) = _
    refine (zz_go 2 (fr' := (zm_G_fewestPlaces, d + 2, 6, [some (.ref 192), some (.ref 4), some (.int x0), some (.int (Int32.ofNat i1)), none, none, none, none], [.int (255 : Int32), .int (Int32.ofNat i1)])) (h' := (zt_T L, zt_R, a1, J, e)) (fun _ => rfl)).trans ?_
    refine zc_gtF rfl (zi_gtc (n := 255) (by omega) (by decide) (by decide)) ?_
    refine (zz_go 1 (fr' := (zm_G_fewestPlaces, d + 2, 10, [some (.ref 192), some (.ref 4), some (.int x0), some (.int (Int32.ofNat i1)), none, none, none, none], [.ref 192])) (h' := (zt_T L, zt_R, a1, J, e)) (fun _ => rfl)).trans ?_
    refine zl_getR rfl rfl rfl ?_
    refine (zz_go 2 (fr' := (zm_G_fewestPlaces, d + 2, 16, [some (.ref 192), some (.ref 4), some (.int x0), some (.int (Int32.ofNat i1)), none, none, none, none], [.int (1073741824 : Int32), .int (Int32.ofNat i1), .ref 193])) (h' := (zt_T L, zt_R, a1, J, e)) (fun _ => rfl)).trans ?_
    refine zl_iastore rfl rfl (zi_in (by omega) (by decide)) rfl (zi_nat (by omega)) ?_
    refine (zz_go 2 (fr' := (zm_G_fewestPlaces, d + 2, 2, [some (.ref 192), some (.ref 4), some (.int x0), some (.int (Int32.ofNat i1 + 1)), none, none, none, none], [])) (h' := (zt_T L, zt_R, (zz_up a1 193 i1 (1073741824 : Int32)), J, e)) (fun _ => rfl)).trans ?_
    rw [zi_succ i1]
    exact hx1
  show zz_D (zm_G_fewestPlaces, d + 2, 2, [some (.ref 192), some (.ref 4), some (.int x0), some (.int (Int32.ofNat 256)), none, none, none, none], []) (zt_T L, zt_R, (zf_for 256 (f_G_fewestPlaces_1 M x0) M), J, e) = _
  refine (zz_go 2 (fr' := (zm_G_fewestPlaces, d + 2, 6, [some (.ref 192), some (.ref 4), some (.int x0), some (.int (Int32.ofNat 256)), none, none, none, none], [.int (255 : Int32), .int (Int32.ofNat 256)])) (h' := (zt_T L, zt_R, (zf_for 256 (f_G_fewestPlaces_1 M x0) M), J, e)) (fun _ => rfl)).trans ?_
  refine zc_gtT rfl (by decide) ?_
  refine zz_weak (L := [some (.ref 192), some (.ref 4), some (.int x0), none, none, none, none, none]) ⟨Or.inl rfl, Or.inl rfl, Or.inl rfl, Or.inr ⟨rfl, rfl⟩, Or.inl rfl, Or.inl rfl, Or.inl rfl, Or.inl rfl, trivial⟩ ?_
  refine (zz_go 1 (fr' := (zm_G_fewestPlaces, d + 2, 24, [some (.ref 192), some (.ref 4), some (.int x0), none, none, none, none, none], [.ref 192])) (h' := (zt_T L, zt_R, (zf_for 256 (f_G_fewestPlaces_1 M x0) M), J, e)) (fun _ => rfl)).trans ?_
  refine zl_getR rfl rfl rfl ?_
  refine (zz_go 4 (fr' := (zm_G_fewestPlaces, d + 2, 31, [some (.ref 192), some (.ref 4), some (.int x0), none, none, none, none, none], [.int (0 : Int32), .int (zsl (1 : Int32) x0), .ref 193])) (h' := (zt_T L, zt_R, (zf_for 256 (f_G_fewestPlaces_1 M x0) M), J, e)) (fun _ => rfl)).trans ?_
  obtain ⟨g3, k4⟩ := k0
  refine zl_iastore rfl rfl g3 rfl rfl ?_
  refine (zz_go 2 (fr' := (zm_G_fewestPlaces, d + 2, 34, [some (.ref 192), some (.ref 4), some (.int x0), some (.int (0 : Int32)), none, none, none, none], [])) (h' := (zt_T L, zt_R, (zz_up (zf_for 256 (f_G_fewestPlaces_1 M x0) M) 193 (zsl (1 : Int32) x0).toNatClampNeg (0 : Int32)), J, e)) (fun _ => rfl)).trans ?_
  refine zf_forD (X := fun (i2 : Nat) (a2 : zMem) => zz_D (zm_G_fewestPlaces, d + 2, 34, [some (.ref 192), some (.ref 4), some (.int x0), some (.int (Int32.ofNat i2)), none, none, none, none], []) (zt_T L, zt_R, a2, J, e)) (f := (f_G_fewestPlaces_2 M x0)) (a := (zz_up (zf_for 256 (f_G_fewestPlaces_1 M x0) M) 193 (zsl (1 : Int32) x0).toNatClampNeg (0 : Int32))) 16 (fun i2 hi2 => ?_) ?_
  · intro hx5
    have k6 := k4 i2 hi2
    generalize zf_for i2 (f_G_fewestPlaces_2 M x0) (zz_up (zf_for 256 (f_G_fewestPlaces_1 M x0) M) 193 (zsl (1 : Int32) x0).toNatClampNeg (0 : Int32)) = a2 at hx5 k6 ⊢
    show zz_D (zm_G_fewestPlaces, d + 2, 34, [some (.ref 192), some (.ref 4), some (.int x0), some (.int (Int32.ofNat i2)), none, none, none, none], []) (zt_T L, zt_R, a2, J, e) = _
    unfold kb_G_fewestPlaces_2 at k6
    refine (zz_go 2 (fr' := (zm_G_fewestPlaces, d + 2, 37, [some (.ref 192), some (.ref 4), some (.int x0), some (.int (Int32.ofNat i2)), none, none, none, none], [.int (16 : Int32), .int (Int32.ofNat i2)])) (h' := (zt_T L, zt_R, a2, J, e)) (fun _ => rfl)).trans ?_
    refine zc_geF rfl (zi_ltc (n := 16) (by omega) (by decide)) ?_
    refine (zz_go 2 (fr' := (zm_G_fewestPlaces, d + 2, 42, [some (.ref 192), some (.ref 4), some (.int x0), some (.int (Int32.ofNat i2)), none, none, none, none], [.int (Int32.ofNat i2), .ref 4])) (h' := (zt_T L, zt_R, a2, J, e)) (fun _ => rfl)).trans ?_
    refine zl_vt (d := d + 1) rfl rfl rfl rfl rfl rfl rfl rfl rfl rfl (s_S_kindsMarkedAt L e J (d + 0) a2 4 (Int32.ofNat i2) zt_St_4) ?_
    show zz_D (zm_G_fewestPlaces, d + 2, 45, [some (.ref 192), some (.ref 4), some (.int x0), some (.int (Int32.ofNat i2)), none, none, none, none], [.int (v_S_kindsMarkedAt a2 4 (Int32.ofNat i2))]) (zt_T L, zt_R, a2, J, e) = _
    refine zz_jn (X := zz_D (zm_G_fewestPlaces, d + 2, 69, [some (.ref 192), some (.ref 4), some (.int x0), some (.int (Int32.ofNat i2)), none, none, none, none], [.int (bif (decide (((zsr (v_S_kindsMarkedAt a2 4 (Int32.ofNat i2)) x0) &&& (1 : Int32)) = 0)) then (v_S_kindsMarkedAt a2 4 (Int32.ofNat i2)) else ((255 : Int32) &&& ((v_S_kindsMarkedAt a2 4 (Int32.ofNat i2)) ^^^ (-1 : Int32))))]) (zt_T L, zt_R, a2, J, e)) (fun j7 => ?_) ?_
    · refine (zz_go 6 (fr' := (zm_G_fewestPlaces, d + 2, 53, [some (.ref 192), some (.ref 4), some (.int x0), some (.int (Int32.ofNat i2)), some (.int (v_S_kindsMarkedAt a2 4 (Int32.ofNat i2))), none, none, none], [.int ((zsr (v_S_kindsMarkedAt a2 4 (Int32.ofNat i2)) x0) &&& (1 : Int32))])) (h' := (zt_T L, zt_R, a2, J, e)) (fun _ => rfl)).trans ?_
      rcases zz_bc (decide (((zsr (v_S_kindsMarkedAt a2 4 (Int32.ofNat i2)) x0) &&& (1 : Int32)) = 0)) with h8 | h8
      · refine zo_eqT rfl h8 ?_
        refine (zz_go 1 (fr' := (zm_G_fewestPlaces, d + 2, 69, [some (.ref 192), some (.ref 4), some (.int x0), some (.int (Int32.ofNat i2)), some (.int (v_S_kindsMarkedAt a2 4 (Int32.ofNat i2))), none, none, none], [.int (v_S_kindsMarkedAt a2 4 (Int32.ofNat i2))])) (h' := (zt_T L, zt_R, a2, J, e)) (fun _ => rfl)).trans ?_
        refine zz_weak (L := [some (.ref 192), some (.ref 4), some (.int x0), some (.int (Int32.ofNat i2)), none, none, none, none]) ⟨Or.inl rfl, Or.inl rfl, Or.inl rfl, Or.inl rfl, Or.inr ⟨rfl, rfl⟩, Or.inl rfl, Or.inl rfl, Or.inl rfl, trivial⟩ ?_
        simpa only [h8, zk_t, zk_f, zb_t, zb_f] using j7
      · refine zo_eqF rfl h8 ?_
        refine (zz_go 6 (fr' := (zm_G_fewestPlaces, d + 2, 69, [some (.ref 192), some (.ref 4), some (.int x0), some (.int (Int32.ofNat i2)), some (.int (v_S_kindsMarkedAt a2 4 (Int32.ofNat i2))), none, none, none], [.int ((255 : Int32) &&& ((v_S_kindsMarkedAt a2 4 (Int32.ofNat i2)) ^^^ (-1 : Int32)))])) (h' := (zt_T L, zt_R, a2, J, e)) (fun _ => rfl)).trans ?_
        refine zz_weak (L := [some (.ref 192), some (.ref 4), some (.int x0), some (.int (Int32.ofNat i2)), none, none, none, none]) ⟨Or.inl rfl, Or.inl rfl, Or.inl rfl, Or.inl rfl, Or.inr ⟨rfl, rfl⟩, Or.inl rfl, Or.inl rfl, Or.inl rfl, trivial⟩ ?_
        simpa only [h8, zk_t, zk_f, zb_t, zb_f] using j7
    refine (zz_go 9 (fr' := (zm_G_fewestPlaces, d + 2, 82, [some (.ref 192), some (.ref 4), some (.int x0), some (.int (Int32.ofNat i2)), none, some (.int (bif (decide (((zsr (v_S_kindsMarkedAt a2 4 (Int32.ofNat i2)) x0) &&& (1 : Int32)) = 0)) then (v_S_kindsMarkedAt a2 4 (Int32.ofNat i2)) else ((255 : Int32) &&& ((v_S_kindsMarkedAt a2 4 (Int32.ofNat i2)) ^^^ (-1 : Int32))))), some (.int ((65536 : Int32) + (zsl (1 : Int32) (Int32.ofNat i2)))), some (.int (0 : Int32))], [])) (h' := (zt_T L, zt_R, a2, J, e)) (fun _ => rfl)).trans ?_
    refine zf_forD (X := fun (i3 : Nat) (a3 : zMem) => zz_D (zm_G_fewestPlaces, d + 2, 82, [some (.ref 192), some (.ref 4), some (.int x0), some (.int (Int32.ofNat i2)), none, some (.int (bif (decide (((zsr (v_S_kindsMarkedAt a2 4 (Int32.ofNat i2)) x0) &&& (1 : Int32)) = 0)) then (v_S_kindsMarkedAt a2 4 (Int32.ofNat i2)) else ((255 : Int32) &&& ((v_S_kindsMarkedAt a2 4 (Int32.ofNat i2)) ^^^ (-1 : Int32))))), some (.int ((65536 : Int32) + (zsl (1 : Int32) (Int32.ofNat i2)))), some (.int (Int32.ofNat i3))], []) (zt_T L, zt_R, a3, J, e)) (f := (f_G_fewestPlaces_3 M x0 i2 a2)) (a := a2) 256 (fun i3 hi3 => ?_) ?_
    · intro hx9
      have k10 := k6 i3 hi3
      generalize zf_for i3 (f_G_fewestPlaces_3 M x0 i2 a2) a2 = a3 at hx9 k10 ⊢
      show zz_D (zm_G_fewestPlaces, d + 2, 82, [some (.ref 192), some (.ref 4), some (.int x0), some (.int (Int32.ofNat i2)), none, some (.int (bif (decide (((zsr (v_S_kindsMarkedAt a2 4 (Int32.ofNat i2)) x0) &&& (1 : Int32)) = 0)) then (v_S_kindsMarkedAt a2 4 (Int32.ofNat i2)) else ((255 : Int32) &&& ((v_S_kindsMarkedAt a2 4 (Int32.ofNat i2)) ^^^ (-1 : Int32))))), some (.int ((65536 : Int32) + (zsl (1 : Int32) (Int32.ofNat i2)))), some (.int (Int32.ofNat i3))], []) (zt_T L, zt_R, a3, J, e) = _
      unfold kb_G_fewestPlaces_3 at k10
      refine (zz_go 2 (fr' := (zm_G_fewestPlaces, d + 2, 87, [some (.ref 192), some (.ref 4), some (.int x0), some (.int (Int32.ofNat i2)), none, some (.int (bif (decide (((zsr (v_S_kindsMarkedAt a2 4 (Int32.ofNat i2)) x0) &&& (1 : Int32)) = 0)) then (v_S_kindsMarkedAt a2 4 (Int32.ofNat i2)) else ((255 : Int32) &&& ((v_S_kindsMarkedAt a2 4 (Int32.ofNat i2)) ^^^ (-1 : Int32))))), some (.int ((65536 : Int32) + (zsl (1 : Int32) (Int32.ofNat i2)))), some (.int (Int32.ofNat i3))], [.int (255 : Int32), .int (Int32.ofNat i3)])) (h' := (zt_T L, zt_R, a3, J, e)) (fun _ => rfl)).trans ?_
      refine zc_gtF rfl (zi_gtc (n := 255) (by omega) (by decide) (by decide)) ?_
      refine (zz_go 1 (fr' := (zm_G_fewestPlaces, d + 2, 91, [some (.ref 192), some (.ref 4), some (.int x0), some (.int (Int32.ofNat i2)), none, some (.int (bif (decide (((zsr (v_S_kindsMarkedAt a2 4 (Int32.ofNat i2)) x0) &&& (1 : Int32)) = 0)) then (v_S_kindsMarkedAt a2 4 (Int32.ofNat i2)) else ((255 : Int32) &&& ((v_S_kindsMarkedAt a2 4 (Int32.ofNat i2)) ^^^ (-1 : Int32))))), some (.int ((65536 : Int32) + (zsl (1 : Int32) (Int32.ofNat i2)))), some (.int (Int32.ofNat i3))], [.ref 192])) (h' := (zt_T L, zt_R, a3, J, e)) (fun _ => rfl)).trans ?_
      refine zl_getR rfl rfl rfl ?_
      refine (zz_go 4 (fr' := (zm_G_fewestPlaces, d + 2, 100, [some (.ref 192), some (.ref 4), some (.int x0), some (.int (Int32.ofNat i2)), none, some (.int (bif (decide (((zsr (v_S_kindsMarkedAt a2 4 (Int32.ofNat i2)) x0) &&& (1 : Int32)) = 0)) then (v_S_kindsMarkedAt a2 4 (Int32.ofNat i2)) else ((255 : Int32) &&& ((v_S_kindsMarkedAt a2 4 (Int32.ofNat i2)) ^^^ (-1 : Int32))))), some (.int ((65536 : Int32) + (zsl (1 : Int32) (Int32.ofNat i2)))), some (.int (Int32.ofNat i3))], [.ref 192, .int ((Int32.ofNat i3) ||| (bif (decide (((zsr (v_S_kindsMarkedAt a2 4 (Int32.ofNat i2)) x0) &&& (1 : Int32)) = 0)) then (v_S_kindsMarkedAt a2 4 (Int32.ofNat i2)) else ((255 : Int32) &&& ((v_S_kindsMarkedAt a2 4 (Int32.ofNat i2)) ^^^ (-1 : Int32))))), .ref 193])) (h' := (zt_T L, zt_R, a3, J, e)) (fun _ => rfl)).trans ?_
      refine zl_getR rfl rfl rfl ?_
      refine (zz_go 3 (fr' := (zm_G_fewestPlaces, d + 2, 108, [some (.ref 192), some (.ref 4), some (.int x0), some (.int (Int32.ofNat i2)), none, some (.int (bif (decide (((zsr (v_S_kindsMarkedAt a2 4 (Int32.ofNat i2)) x0) &&& (1 : Int32)) = 0)) then (v_S_kindsMarkedAt a2 4 (Int32.ofNat i2)) else ((255 : Int32) &&& ((v_S_kindsMarkedAt a2 4 (Int32.ofNat i2)) ^^^ (-1 : Int32))))), some (.int ((65536 : Int32) + (zsl (1 : Int32) (Int32.ofNat i2)))), some (.int (Int32.ofNat i3))], [.int ((Int32.ofNat i3) ||| (bif (decide (((zsr (v_S_kindsMarkedAt a2 4 (Int32.ofNat i2)) x0) &&& (1 : Int32)) = 0)) then (v_S_kindsMarkedAt a2 4 (Int32.ofNat i2)) else ((255 : Int32) &&& ((v_S_kindsMarkedAt a2 4 (Int32.ofNat i2)) ^^^ (-1 : Int32))))), .ref 193, .int ((Int32.ofNat i3) ||| (bif (decide (((zsr (v_S_kindsMarkedAt a2 4 (Int32.ofNat i2)) x0) &&& (1 : Int32)) = 0)) then (v_S_kindsMarkedAt a2 4 (Int32.ofNat i2)) else ((255 : Int32) &&& ((v_S_kindsMarkedAt a2 4 (Int32.ofNat i2)) ^^^ (-1 : Int32))))), .ref 193])) (h' := (zt_T L, zt_R, a3, J, e)) (fun _ => rfl)).trans ?_
      have g11 : zz_in ((Int32.ofNat i3) ||| (bif (decide (((zsr (v_S_kindsMarkedAt a2 4 (Int32.ofNat i2)) x0) &&& (1 : Int32)) = 0)) then (v_S_kindsMarkedAt a2 4 (Int32.ofNat i2)) else ((255 : Int32) &&& ((v_S_kindsMarkedAt a2 4 (Int32.ofNat i2)) ^^^ (-1 : Int32))))) 448 = true := k10
      refine zl_iaload rfl rfl g11 rfl ?_
      refine (zz_go 1 (fr' := (zm_G_fewestPlaces, d + 2, 110, [some (.ref 192), some (.ref 4), some (.int x0), some (.int (Int32.ofNat i2)), none, some (.int (bif (decide (((zsr (v_S_kindsMarkedAt a2 4 (Int32.ofNat i2)) x0) &&& (1 : Int32)) = 0)) then (v_S_kindsMarkedAt a2 4 (Int32.ofNat i2)) else ((255 : Int32) &&& ((v_S_kindsMarkedAt a2 4 (Int32.ofNat i2)) ^^^ (-1 : Int32))))), some (.int ((65536 : Int32) + (zsl (1 : Int32) (Int32.ofNat i2)))), some (.int (Int32.ofNat i3))], [.ref 192, .int (a3 193 ((Int32.ofNat i3) ||| (bif (decide (((zsr (v_S_kindsMarkedAt a2 4 (Int32.ofNat i2)) x0) &&& (1 : Int32)) = 0)) then (v_S_kindsMarkedAt a2 4 (Int32.ofNat i2)) else ((255 : Int32) &&& ((v_S_kindsMarkedAt a2 4 (Int32.ofNat i2)) ^^^ (-1 : Int32))))).toNatClampNeg), .int ((Int32.ofNat i3) ||| (bif (decide (((zsr (v_S_kindsMarkedAt a2 4 (Int32.ofNat i2)) x0) &&& (1 : Int32)) = 0)) then (v_S_kindsMarkedAt a2 4 (Int32.ofNat i2)) else ((255 : Int32) &&& ((v_S_kindsMarkedAt a2 4 (Int32.ofNat i2)) ^^^ (-1 : Int32))))), .ref 193])) (h' := (zt_T L, zt_R, a3, J, e)) (fun _ => rfl)).trans ?_
      refine zl_getR rfl rfl rfl ?_
      refine (zz_go 1 (fr' := (zm_G_fewestPlaces, d + 2, 115, [some (.ref 192), some (.ref 4), some (.int x0), some (.int (Int32.ofNat i2)), none, some (.int (bif (decide (((zsr (v_S_kindsMarkedAt a2 4 (Int32.ofNat i2)) x0) &&& (1 : Int32)) = 0)) then (v_S_kindsMarkedAt a2 4 (Int32.ofNat i2)) else ((255 : Int32) &&& ((v_S_kindsMarkedAt a2 4 (Int32.ofNat i2)) ^^^ (-1 : Int32))))), some (.int ((65536 : Int32) + (zsl (1 : Int32) (Int32.ofNat i2)))), some (.int (Int32.ofNat i3))], [.int (Int32.ofNat i3), .ref 193, .int (a3 193 ((Int32.ofNat i3) ||| (bif (decide (((zsr (v_S_kindsMarkedAt a2 4 (Int32.ofNat i2)) x0) &&& (1 : Int32)) = 0)) then (v_S_kindsMarkedAt a2 4 (Int32.ofNat i2)) else ((255 : Int32) &&& ((v_S_kindsMarkedAt a2 4 (Int32.ofNat i2)) ^^^ (-1 : Int32))))).toNatClampNeg), .int ((Int32.ofNat i3) ||| (bif (decide (((zsr (v_S_kindsMarkedAt a2 4 (Int32.ofNat i2)) x0) &&& (1 : Int32)) = 0)) then (v_S_kindsMarkedAt a2 4 (Int32.ofNat i2)) else ((255 : Int32) &&& ((v_S_kindsMarkedAt a2 4 (Int32.ofNat i2)) ^^^ (-1 : Int32))))), .ref 193])) (h' := (zt_T L, zt_R, a3, J, e)) (fun _ => rfl)).trans ?_
      refine zl_iaload rfl rfl (zi_in (by omega) (by decide)) (by rw [(zi_nat (by omega))] <;> exact rfl) ?_
      refine (zz_go 2 (fr' := (zm_G_fewestPlaces, d + 2, 119, [some (.ref 192), some (.ref 4), some (.int x0), some (.int (Int32.ofNat i2)), none, some (.int (bif (decide (((zsr (v_S_kindsMarkedAt a2 4 (Int32.ofNat i2)) x0) &&& (1 : Int32)) = 0)) then (v_S_kindsMarkedAt a2 4 (Int32.ofNat i2)) else ((255 : Int32) &&& ((v_S_kindsMarkedAt a2 4 (Int32.ofNat i2)) ^^^ (-1 : Int32))))), some (.int ((65536 : Int32) + (zsl (1 : Int32) (Int32.ofNat i2)))), some (.int (Int32.ofNat i3))], [.int ((a3 193 i3) + ((65536 : Int32) + (zsl (1 : Int32) (Int32.ofNat i2)))), .int (a3 193 ((Int32.ofNat i3) ||| (bif (decide (((zsr (v_S_kindsMarkedAt a2 4 (Int32.ofNat i2)) x0) &&& (1 : Int32)) = 0)) then (v_S_kindsMarkedAt a2 4 (Int32.ofNat i2)) else ((255 : Int32) &&& ((v_S_kindsMarkedAt a2 4 (Int32.ofNat i2)) ^^^ (-1 : Int32))))).toNatClampNeg), .int ((Int32.ofNat i3) ||| (bif (decide (((zsr (v_S_kindsMarkedAt a2 4 (Int32.ofNat i2)) x0) &&& (1 : Int32)) = 0)) then (v_S_kindsMarkedAt a2 4 (Int32.ofNat i2)) else ((255 : Int32) &&& ((v_S_kindsMarkedAt a2 4 (Int32.ofNat i2)) ^^^ (-1 : Int32))))), .ref 193])) (h' := (zt_T L, zt_R, a3, J, e)) (fun _ => rfl)).trans ?_
      refine zl_st (d := d + 1) rfl rfl rfl rfl rfl rfl rfl (s_jm_min L e J (d + 0) (a3 193 ((Int32.ofNat i3) ||| (bif (decide (((zsr (v_S_kindsMarkedAt a2 4 (Int32.ofNat i2)) x0) &&& (1 : Int32)) = 0)) then (v_S_kindsMarkedAt a2 4 (Int32.ofNat i2)) else ((255 : Int32) &&& ((v_S_kindsMarkedAt a2 4 (Int32.ofNat i2)) ^^^ (-1 : Int32))))).toNatClampNeg) ((a3 193 i3) + ((65536 : Int32) + (zsl (1 : Int32) (Int32.ofNat i2))))) ?_
      show zz_D (zm_G_fewestPlaces, d + 2, 122, [some (.ref 192), some (.ref 4), some (.int x0), some (.int (Int32.ofNat i2)), none, some (.int (bif (decide (((zsr (v_S_kindsMarkedAt a2 4 (Int32.ofNat i2)) x0) &&& (1 : Int32)) = 0)) then (v_S_kindsMarkedAt a2 4 (Int32.ofNat i2)) else ((255 : Int32) &&& ((v_S_kindsMarkedAt a2 4 (Int32.ofNat i2)) ^^^ (-1 : Int32))))), some (.int ((65536 : Int32) + (zsl (1 : Int32) (Int32.ofNat i2)))), some (.int (Int32.ofNat i3))], [.int (v_jm_min (a3 193 ((Int32.ofNat i3) ||| (bif (decide (((zsr (v_S_kindsMarkedAt a2 4 (Int32.ofNat i2)) x0) &&& (1 : Int32)) = 0)) then (v_S_kindsMarkedAt a2 4 (Int32.ofNat i2)) else ((255 : Int32) &&& ((v_S_kindsMarkedAt a2 4 (Int32.ofNat i2)) ^^^ (-1 : Int32))))).toNatClampNeg) ((a3 193 i3) + ((65536 : Int32) + (zsl (1 : Int32) (Int32.ofNat i2))))), .int ((Int32.ofNat i3) ||| (bif (decide (((zsr (v_S_kindsMarkedAt a2 4 (Int32.ofNat i2)) x0) &&& (1 : Int32)) = 0)) then (v_S_kindsMarkedAt a2 4 (Int32.ofNat i2)) else ((255 : Int32) &&& ((v_S_kindsMarkedAt a2 4 (Int32.ofNat i2)) ^^^ (-1 : Int32))))), .ref 193]) (zt_T L, zt_R, a3, J, e) = _
      refine zl_iastore rfl rfl g11 rfl rfl ?_
      refine (zz_go 2 (fr' := (zm_G_fewestPlaces, d + 2, 82, [some (.ref 192), some (.ref 4), some (.int x0), some (.int (Int32.ofNat i2)), none, some (.int (bif (decide (((zsr (v_S_kindsMarkedAt a2 4 (Int32.ofNat i2)) x0) &&& (1 : Int32)) = 0)) then (v_S_kindsMarkedAt a2 4 (Int32.ofNat i2)) else ((255 : Int32) &&& ((v_S_kindsMarkedAt a2 4 (Int32.ofNat i2)) ^^^ (-1 : Int32))))), some (.int ((65536 : Int32) + (zsl (1 : Int32) (Int32.ofNat i2)))), some (.int (Int32.ofNat i3 + 1))], [])) (h' := (zt_T L, zt_R, (zz_up a3 193 ((Int32.ofNat i3) ||| (bif (decide (((zsr (v_S_kindsMarkedAt a2 4 (Int32.ofNat i2)) x0) &&& (1 : Int32)) = 0)) then (v_S_kindsMarkedAt a2 4 (Int32.ofNat i2)) else ((255 : Int32) &&& ((v_S_kindsMarkedAt a2 4 (Int32.ofNat i2)) ^^^ (-1 : Int32))))).toNatClampNeg (v_jm_min (a3 193 ((Int32.ofNat i3) ||| (bif (decide (((zsr (v_S_kindsMarkedAt a2 4 (Int32.ofNat i2)) x0) &&& (1 : Int32)) = 0)) then (v_S_kindsMarkedAt a2 4 (Int32.ofNat i2)) else ((255 : Int32) &&& ((v_S_kindsMarkedAt a2 4 (Int32.ofNat i2)) ^^^ (-1 : Int32))))).toNatClampNeg) ((a3 193 i3) + ((65536 : Int32) + (zsl (1 : Int32) (Int32.ofNat i2)))))), J, e)) (fun _ => rfl)).trans ?_
      rw [zi_succ i3]
      simpa only [f_G_fewestPlaces_3] using hx9
    show zz_D (zm_G_fewestPlaces, d + 2, 82, [some (.ref 192), some (.ref 4), some (.int x0), some (.int (Int32.ofNat i2)), none, some (.int (bif (decide (((zsr (v_S_kindsMarkedAt a2 4 (Int32.ofNat i2)) x0) &&& (1 : Int32)) = 0)) then (v_S_kindsMarkedAt a2 4 (Int32.ofNat i2)) else ((255 : Int32) &&& ((v_S_kindsMarkedAt a2 4 (Int32.ofNat i2)) ^^^ (-1 : Int32))))), some (.int ((65536 : Int32) + (zsl (1 : Int32) (Int32.ofNat i2)))), some (.int (Int32.ofNat 256))], []) (zt_T L, zt_R, (zf_for 256 (f_G_fewestPlaces_3 M x0 i2 a2) a2), J, e) = _
    refine (zz_go 2 (fr' := (zm_G_fewestPlaces, d + 2, 87, [some (.ref 192), some (.ref 4), some (.int x0), some (.int (Int32.ofNat i2)), none, some (.int (bif (decide (((zsr (v_S_kindsMarkedAt a2 4 (Int32.ofNat i2)) x0) &&& (1 : Int32)) = 0)) then (v_S_kindsMarkedAt a2 4 (Int32.ofNat i2)) else ((255 : Int32) &&& ((v_S_kindsMarkedAt a2 4 (Int32.ofNat i2)) ^^^ (-1 : Int32))))), some (.int ((65536 : Int32) + (zsl (1 : Int32) (Int32.ofNat i2)))), some (.int (Int32.ofNat 256))], [.int (255 : Int32), .int (Int32.ofNat 256)])) (h' := (zt_T L, zt_R, (zf_for 256 (f_G_fewestPlaces_3 M x0 i2 a2) a2), J, e)) (fun _ => rfl)).trans ?_
    refine zc_gtT rfl (by decide) ?_
    refine zz_weak (L := [some (.ref 192), some (.ref 4), some (.int x0), some (.int (Int32.ofNat i2)), none, none, none, none]) ⟨Or.inl rfl, Or.inl rfl, Or.inl rfl, Or.inl rfl, Or.inl rfl, Or.inr ⟨rfl, rfl⟩, Or.inr ⟨rfl, rfl⟩, Or.inr ⟨rfl, rfl⟩, trivial⟩ ?_
    refine (zz_go 2 (fr' := (zm_G_fewestPlaces, d + 2, 34, [some (.ref 192), some (.ref 4), some (.int x0), some (.int (Int32.ofNat i2 + 1)), none, none, none, none], [])) (h' := (zt_T L, zt_R, (zf_for 256 (f_G_fewestPlaces_3 M x0 i2 a2) a2), J, e)) (fun _ => rfl)).trans ?_
    rw [zi_succ i2]
    exact hx5
  show zz_D (zm_G_fewestPlaces, d + 2, 34, [some (.ref 192), some (.ref 4), some (.int x0), some (.int (Int32.ofNat 16)), none, none, none, none], []) (zt_T L, zt_R, (zf_for 16 (f_G_fewestPlaces_2 M x0) (zz_up (zf_for 256 (f_G_fewestPlaces_1 M x0) M) 193 (zsl (1 : Int32) x0).toNatClampNeg (0 : Int32))), J, e) = _
  refine (zz_go 2 (fr' := (zm_G_fewestPlaces, d + 2, 37, [some (.ref 192), some (.ref 4), some (.int x0), some (.int (Int32.ofNat 16)), none, none, none, none], [.int (16 : Int32), .int (Int32.ofNat 16)])) (h' := (zt_T L, zt_R, (zf_for 16 (f_G_fewestPlaces_2 M x0) (zz_up (zf_for 256 (f_G_fewestPlaces_1 M x0) M) 193 (zsl (1 : Int32) x0).toNatClampNeg (0 : Int32))), J, e)) (fun _ => rfl)).trans ?_
  refine zc_geT rfl (by decide) ?_
  refine zz_weak (L := [some (.ref 192), none, none, none, none, none, none, none]) ⟨Or.inl rfl, Or.inr ⟨rfl, rfl⟩, Or.inr ⟨rfl, rfl⟩, Or.inr ⟨rfl, rfl⟩, Or.inl rfl, Or.inl rfl, Or.inl rfl, Or.inl rfl, trivial⟩ ?_
  refine (zz_go 1 (fr' := (zm_G_fewestPlaces, d + 2, 136, [some (.ref 192), none, none, none, none, none, none, none], [.ref 192])) (h' := (zt_T L, zt_R, (zf_for 16 (f_G_fewestPlaces_2 M x0) (zz_up (zf_for 256 (f_G_fewestPlaces_1 M x0) M) 193 (zsl (1 : Int32) x0).toNatClampNeg (0 : Int32))), J, e)) (fun _ => rfl)).trans ?_
  refine zl_getR rfl rfl rfl ?_
  refine (zz_go 1 (fr' := (zm_G_fewestPlaces, d + 2, 142, [some (.ref 192), none, none, none, none, none, none, none], [.int (255 : Int32), .ref 193])) (h' := (zt_T L, zt_R, (zf_for 16 (f_G_fewestPlaces_2 M x0) (zz_up (zf_for 256 (f_G_fewestPlaces_1 M x0) M) 193 (zsl (1 : Int32) x0).toNatClampNeg (0 : Int32))), J, e)) (fun _ => rfl)).trans ?_
  refine zl_iaload rfl rfl (by decide) rfl ?_
  refine zz_jn (X := zz_D (zm_G_fewestPlaces, d + 2, 163, [none, none, none, none, none, none, none, none], [.int (bif (decide (((zf_for 16 (f_G_fewestPlaces_2 M x0) (zz_up (zf_for 256 (f_G_fewestPlaces_1 M x0) M) 193 (zsl (1 : Int32) x0).toNatClampNeg (0 : Int32))) 193 255) < (1073741824 : Int32))) then (((zf_for 16 (f_G_fewestPlaces_2 M x0) (zz_up (zf_for 256 (f_G_fewestPlaces_1 M x0) M) 193 (zsl (1 : Int32) x0).toNatClampNeg (0 : Int32))) 193 255) &&& (65535 : Int32)) else (-1 : Int32))]) (zt_T L, zt_R, (zf_for 16 (f_G_fewestPlaces_2 M x0) (zz_up (zf_for 256 (f_G_fewestPlaces_1 M x0) M) 193 (zsl (1 : Int32) x0).toNatClampNeg (0 : Int32))), J, e)) (fun j12 => ?_) ?_
  · refine (zz_go 1 (fr' := (zm_G_fewestPlaces, d + 2, 145, [some (.ref 192), none, none, none, none, none, none, none], [.int (1073741824 : Int32), .int ((zf_for 16 (f_G_fewestPlaces_2 M x0) (zz_up (zf_for 256 (f_G_fewestPlaces_1 M x0) M) 193 (zsl (1 : Int32) x0).toNatClampNeg (0 : Int32))) 193 255)])) (h' := (zt_T L, zt_R, (zf_for 16 (f_G_fewestPlaces_2 M x0) (zz_up (zf_for 256 (f_G_fewestPlaces_1 M x0) M) 193 (zsl (1 : Int32) x0).toNatClampNeg (0 : Int32))), J, e)) (fun _ => rfl)).trans ?_
    rcases zz_bc (decide (((zf_for 16 (f_G_fewestPlaces_2 M x0) (zz_up (zf_for 256 (f_G_fewestPlaces_1 M x0) M) 193 (zsl (1 : Int32) x0).toNatClampNeg (0 : Int32))) 193 255) < (1073741824 : Int32))) with h13 | h13
    · refine zc_ltT rfl h13 ?_
      refine (zz_go 1 (fr' := (zm_G_fewestPlaces, d + 2, 153, [some (.ref 192), none, none, none, none, none, none, none], [.ref 192])) (h' := (zt_T L, zt_R, (zf_for 16 (f_G_fewestPlaces_2 M x0) (zz_up (zf_for 256 (f_G_fewestPlaces_1 M x0) M) 193 (zsl (1 : Int32) x0).toNatClampNeg (0 : Int32))), J, e)) (fun _ => rfl)).trans ?_
      refine zl_getR rfl rfl rfl ?_
      refine (zz_go 1 (fr' := (zm_G_fewestPlaces, d + 2, 159, [some (.ref 192), none, none, none, none, none, none, none], [.int (255 : Int32), .ref 193])) (h' := (zt_T L, zt_R, (zf_for 16 (f_G_fewestPlaces_2 M x0) (zz_up (zf_for 256 (f_G_fewestPlaces_1 M x0) M) 193 (zsl (1 : Int32) x0).toNatClampNeg (0 : Int32))), J, e)) (fun _ => rfl)).trans ?_
      refine zl_iaload rfl rfl (by decide) rfl ?_
      refine (zz_go 2 (fr' := (zm_G_fewestPlaces, d + 2, 163, [some (.ref 192), none, none, none, none, none, none, none], [.int (((zf_for 16 (f_G_fewestPlaces_2 M x0) (zz_up (zf_for 256 (f_G_fewestPlaces_1 M x0) M) 193 (zsl (1 : Int32) x0).toNatClampNeg (0 : Int32))) 193 255) &&& (65535 : Int32))])) (h' := (zt_T L, zt_R, (zf_for 16 (f_G_fewestPlaces_2 M x0) (zz_up (zf_for 256 (f_G_fewestPlaces_1 M x0) M) 193 (zsl (1 : Int32) x0).toNatClampNeg (0 : Int32))), J, e)) (fun _ => rfl)).trans ?_
      refine zz_weak (L := [none, none, none, none, none, none, none, none]) ⟨Or.inr ⟨rfl, rfl⟩, Or.inl rfl, Or.inl rfl, Or.inl rfl, Or.inl rfl, Or.inl rfl, Or.inl rfl, Or.inl rfl, trivial⟩ ?_
      simpa only [h13, zk_t, zk_f, zb_t, zb_f] using j12
    · refine zc_ltF rfl h13 ?_
      refine (zz_go 2 (fr' := (zm_G_fewestPlaces, d + 2, 163, [some (.ref 192), none, none, none, none, none, none, none], [.int (-1 : Int32)])) (h' := (zt_T L, zt_R, (zf_for 16 (f_G_fewestPlaces_2 M x0) (zz_up (zf_for 256 (f_G_fewestPlaces_1 M x0) M) 193 (zsl (1 : Int32) x0).toNatClampNeg (0 : Int32))), J, e)) (fun _ => rfl)).trans ?_
      refine zz_weak (L := [none, none, none, none, none, none, none, none]) ⟨Or.inr ⟨rfl, rfl⟩, Or.inl rfl, Or.inl rfl, Or.inl rfl, Or.inl rfl, Or.inl rfl, Or.inl rfl, Or.inl rfl, trivial⟩ ?_
      simpa only [h13, zk_t, zk_f, zb_t, zb_f] using j12
  refine zl_retI rfl rfl ?_
  rfl
def g_G_fewestTellers_1 (M : zMem) (x0 : Int32) (i1 : Nat) (a1 : Int32) : Bool × (Int32) := ((bif (decide ((v_S_everybody M 4) < (Int32.ofNat i1))) then false else true), (bif (decide ((v_S_everybody M 4) < (Int32.ofNat i1))) then a1 else (bif (bif (decide (a1 = (-1 : Int32))) then true else (bif (decide ((v_ji_bitCount a1) ≤ (v_ji_bitCount (Int32.ofNat i1)))) then false else true)) then (bif (decide ((x0 &&& ((v_S_toldByGroup M 4 (Int32.ofNat i1)) ^^^ (-1 : Int32))) = 0)) then (Int32.ofNat i1) else a1) else a1)))
def kb_G_fewestTellers_1 (M : zMem) (x0 : Int32) (i1 : Nat) (a1 : Int32) : Prop := ((decide ((v_S_everybody M 4) < (Int32.ofNat i1))) = false → ((bif (decide (a1 = (-1 : Int32))) then true else (bif (decide ((v_ji_bitCount a1) ≤ (v_ji_bitCount (Int32.ofNat i1)))) then false else true)) = true → ok_S_toldByGroup M 4 (Int32.ofNat i1)))
def v_G_fewestTellers (M : zMem) (x0 : Int32) : Int32 := (zf_wh 1000 (g_G_fewestTellers_1 M x0) 0 (-1 : Int32))
def ok_G_fewestTellers (M : zMem) (x0 : Int32) : Prop := (zf_wk 1000 (g_G_fewestTellers_1 M x0) (kb_G_fewestTellers_1 M x0) 0 (-1 : Int32))
set_option maxRecDepth 20000 in
set_option maxHeartbeats 2000000 in
theorem s_G_fewestTellers (L e : Nat) (J : zJem) (d : Nat) (M : zMem) (x0 : Int32) (k0 : ok_G_fewestTellers M x0) : zz_D (zm_G_fewestTellers, d + 4, 0, [some (.ref 192), some (.ref 4), some (.int x0), none, none, none], []) (zt_T L, zt_R, M, J, e) = some (.inl (some (.int (v_G_fewestTellers M x0))), (zt_T L, zt_R, M, J, e)) := by
  unfold ok_G_fewestTellers at k0
  unfold v_G_fewestTellers
  refine (zz_go 4 (fr' := (zm_G_fewestTellers, d + 4, 5, [some (.ref 192), some (.ref 4), some (.int x0), some (.int (-1 : Int32)), some (.int (0 : Int32)), none], [])) (h' := (zt_T L, zt_R, M, J, e)) (fun _ => rfl)).trans ?_
  refine zz_weak (L := [none, some (.ref 4), some (.int x0), some (.int (-1 : Int32)), some (.int (0 : Int32)), none]) ⟨Or.inr ⟨rfl, rfl⟩, Or.inl rfl, Or.inl rfl, Or.inl rfl, Or.inl rfl, Or.inl rfl, trivial⟩ ?_
  refine zf_whY (X := fun (i1 : Nat) (a1 : Int32) => zz_D (zm_G_fewestTellers, d + 4, 5, [none, some (.ref 4), some (.int x0), some (.int a1), some (.int (Int32.ofNat i1)), none], []) (zt_T L, zt_R, M, J, e)) (Y := fun (a1 : Int32) => zz_D (zm_G_fewestTellers, d + 4, 65, [none, none, none, some (.int a1), none, none], []) (zt_T L, zt_R, M, J, e)) (g := (g_G_fewestTellers_1 M x0)) (k := (kb_G_fewestTellers_1 M x0)) (fun i1 a1 k3 hx1 hx2 => ?_) 1000 0 (-1 : Int32) k0 ?_
  · show zz_D (zm_G_fewestTellers, d + 4, 5, [none, some (.ref 4), some (.int x0), some (.int a1), some (.int (Int32.ofNat i1)), none], []) (zt_T L, zt_R, M, J, e) = _
    unfold kb_G_fewestTellers_1 at k3
    refine (zz_go 2 (fr' := (zm_G_fewestTellers, d + 4, 8, [none, some (.ref 4), some (.int x0), some (.int a1), some (.int (Int32.ofNat i1)), none], [.ref 4, .int (Int32.ofNat i1)])) (h' := (zt_T L, zt_R, M, J, e)) (fun _ => rfl)).trans ?_
    refine zl_vt (d := d + 3) rfl rfl rfl rfl rfl rfl rfl rfl rfl rfl (s_S_everybody L e J (d + 2) M 4 zt_St_4) ?_
    show zz_D (zm_G_fewestTellers, d + 4, 11, [none, some (.ref 4), some (.int x0), some (.int a1), some (.int (Int32.ofNat i1)), none], [.int (v_S_everybody M 4), .int (Int32.ofNat i1)]) (zt_T L, zt_R, M, J, e) = _
    rcases zz_bc (decide ((v_S_everybody M 4) < (Int32.ofNat i1))) with h4 | h4
    · refine zc_gtT rfl h4 ?_
      refine zz_weak (L := [none, none, none, some (.int a1), none, none]) ⟨Or.inl rfl, Or.inr ⟨rfl, rfl⟩, Or.inr ⟨rfl, rfl⟩, Or.inl rfl, Or.inr ⟨rfl, rfl⟩, Or.inl rfl, trivial⟩ ?_
      have y1 := hx2 (by simp only [g_G_fewestTellers_1, h4, zk_t, zk_f, zb_t, zb_f])
      simpa only [g_G_fewestTellers_1, h4, zk_t, zk_f, zb_t, zb_f] using y1
    · refine zc_gtF rfl h4 ?_
      have k5 := k3 h4
      refine zz_jn (X := zz_D (zm_G_fewestTellers, d + 4, 36, [none, some (.ref 4), some (.int x0), some (.int a1), some (.int (Int32.ofNat i1)), none], [.int (zb (bif (decide (a1 = (-1 : Int32))) then true else (bif (decide ((v_ji_bitCount a1) ≤ (v_ji_bitCount (Int32.ofNat i1)))) then false else true)))]) (zt_T L, zt_R, M, J, e)) (fun j6 => ?_) ?_
      · refine (zz_go 2 (fr' := (zm_G_fewestTellers, d + 4, 16, [none, some (.ref 4), some (.int x0), some (.int a1), some (.int (Int32.ofNat i1)), none], [.int (-1 : Int32), .int a1])) (h' := (zt_T L, zt_R, M, J, e)) (fun _ => rfl)).trans ?_
        rcases zz_bc (decide (a1 = (-1 : Int32))) with h7 | h7
        · refine zc_eqT rfl h7 ?_
          refine (zz_go 2 (fr' := (zm_G_fewestTellers, d + 4, 36, [none, some (.ref 4), some (.int x0), some (.int a1), some (.int (Int32.ofNat i1)), none], [.int (1 : Int32)])) (h' := (zt_T L, zt_R, M, J, e)) (fun _ => rfl)).trans ?_
          simpa only [h7, zk_t, zk_f, zb_t, zb_f] using j6
        · refine zc_eqF rfl h7 ?_
          refine (zz_go 1 (fr' := (zm_G_fewestTellers, d + 4, 21, [none, some (.ref 4), some (.int x0), some (.int a1), some (.int (Int32.ofNat i1)), none], [.int (Int32.ofNat i1)])) (h' := (zt_T L, zt_R, M, J, e)) (fun _ => rfl)).trans ?_
          refine zl_st (d := d + 3) rfl rfl rfl rfl rfl rfl rfl (s_ji_bitCount L e J (d + 2) (Int32.ofNat i1)) ?_
          show zz_D (zm_G_fewestTellers, d + 4, 24, [none, some (.ref 4), some (.int x0), some (.int a1), some (.int (Int32.ofNat i1)), none], [.int (v_ji_bitCount (Int32.ofNat i1))]) (zt_T L, zt_R, M, J, e) = _
          refine (zz_go 1 (fr' := (zm_G_fewestTellers, d + 4, 25, [none, some (.ref 4), some (.int x0), some (.int a1), some (.int (Int32.ofNat i1)), none], [.int a1, .int (v_ji_bitCount (Int32.ofNat i1))])) (h' := (zt_T L, zt_R, M, J, e)) (fun _ => rfl)).trans ?_
          refine zl_st (d := d + 3) rfl rfl rfl rfl rfl rfl rfl (s_ji_bitCount L e J (d + 2) a1) ?_
          show zz_D (zm_G_fewestTellers, d + 4, 28, [none, some (.ref 4), some (.int x0), some (.int a1), some (.int (Int32.ofNat i1)), none], [.int (v_ji_bitCount a1), .int (v_ji_bitCount (Int32.ofNat i1))]) (zt_T L, zt_R, M, J, e) = _
          refine zz_jn (X := zz_D (zm_G_fewestTellers, d + 4, 36, [none, some (.ref 4), some (.int x0), some (.int a1), some (.int (Int32.ofNat i1)), none], [.int (zb (bif (decide ((v_ji_bitCount a1) ≤ (v_ji_bitCount (Int32.ofNat i1)))) then false else true))]) (zt_T L, zt_R, M, J, e)) (fun j8 => ?_) ?_
          · rcases zz_bc (decide ((v_ji_bitCount a1) ≤ (v_ji_bitCount (Int32.ofNat i1)))) with h9 | h9
            · refine zc_geT rfl h9 ?_
              refine (zz_go 1 (fr' := (zm_G_fewestTellers, d + 4, 36, [none, some (.ref 4), some (.int x0), some (.int a1), some (.int (Int32.ofNat i1)), none], [.int (0 : Int32)])) (h' := (zt_T L, zt_R, M, J, e)) (fun _ => rfl)).trans ?_
              simpa only [h9, zk_t, zk_f, zb_t, zb_f] using j8
            · refine zc_geF rfl h9 ?_
              refine (zz_go 2 (fr' := (zm_G_fewestTellers, d + 4, 36, [none, some (.ref 4), some (.int x0), some (.int a1), some (.int (Int32.ofNat i1)), none], [.int (1 : Int32)])) (h' := (zt_T L, zt_R, M, J, e)) (fun _ => rfl)).trans ?_
              simpa only [h9, zk_t, zk_f, zb_t, zb_f] using j8
          simpa only [h7, zk_t, zk_f, zb_t, zb_f] using j6
      refine zz_jn (X := zz_D (zm_G_fewestTellers, d + 4, 59, [none, some (.ref 4), some (.int x0), some (.int (bif (bif (decide (a1 = (-1 : Int32))) then true else (bif (decide ((v_ji_bitCount a1) ≤ (v_ji_bitCount (Int32.ofNat i1)))) then false else true)) then (bif (decide ((x0 &&& ((v_S_toldByGroup M 4 (Int32.ofNat i1)) ^^^ (-1 : Int32))) = 0)) then (Int32.ofNat i1) else a1) else a1)), some (.int (Int32.ofNat i1)), none], []) (zt_T L, zt_R, M, J, e)) (fun j10 => ?_) ?_
      · refine (zz_go 2 (fr' := (zm_G_fewestTellers, d + 4, 40, [none, some (.ref 4), some (.int x0), some (.int a1), some (.int (Int32.ofNat i1)), some (.int (zb (bif (decide (a1 = (-1 : Int32))) then true else (bif (decide ((v_ji_bitCount a1) ≤ (v_ji_bitCount (Int32.ofNat i1)))) then false else true))))], [.int (zb (bif (decide (a1 = (-1 : Int32))) then true else (bif (decide ((v_ji_bitCount a1) ≤ (v_ji_bitCount (Int32.ofNat i1)))) then false else true)))])) (h' := (zt_T L, zt_R, M, J, e)) (fun _ => rfl)).trans ?_
        rcases zz_bc (bif (decide (a1 = (-1 : Int32))) then true else (bif (decide ((v_ji_bitCount a1) ≤ (v_ji_bitCount (Int32.ofNat i1)))) then false else true)) with h11 | h11
        · refine zq_eT rfl h11 ?_
          have k12 := k5 h11
          refine (zz_go 3 (fr' := (zm_G_fewestTellers, d + 4, 47, [none, some (.ref 4), some (.int x0), some (.int a1), some (.int (Int32.ofNat i1)), some (.int (zb (bif (decide (a1 = (-1 : Int32))) then true else (bif (decide ((v_ji_bitCount a1) ≤ (v_ji_bitCount (Int32.ofNat i1)))) then false else true))))], [.int (Int32.ofNat i1), .ref 4, .int x0])) (h' := (zt_T L, zt_R, M, J, e)) (fun _ => rfl)).trans ?_
          have g13 : ok_S_toldByGroup M 4 (Int32.ofNat i1) := k12
          refine zl_vt (d := d + 3) rfl rfl rfl rfl rfl rfl rfl rfl rfl rfl (s_S_toldByGroup L e J (d + 0) M 4 (Int32.ofNat i1) zt_St_4 g13) ?_
          show zz_D (zm_G_fewestTellers, d + 4, 50, [none, some (.ref 4), some (.int x0), some (.int a1), some (.int (Int32.ofNat i1)), some (.int (zb (bif (decide (a1 = (-1 : Int32))) then true else (bif (decide ((v_ji_bitCount a1) ≤ (v_ji_bitCount (Int32.ofNat i1)))) then false else true))))], [.int (v_S_toldByGroup M 4 (Int32.ofNat i1)), .int x0]) (zt_T L, zt_R, M, J, e) = _
          refine zz_jn (X := zz_D (zm_G_fewestTellers, d + 4, 59, [none, some (.ref 4), some (.int x0), some (.int (bif (decide ((x0 &&& ((v_S_toldByGroup M 4 (Int32.ofNat i1)) ^^^ (-1 : Int32))) = 0)) then (Int32.ofNat i1) else a1)), some (.int (Int32.ofNat i1)), none], []) (zt_T L, zt_R, M, J, e)) (fun j14 => ?_) ?_
          · refine (zz_go 3 (fr' := (zm_G_fewestTellers, d + 4, 53, [none, some (.ref 4), some (.int x0), some (.int a1), some (.int (Int32.ofNat i1)), some (.int (zb (bif (decide (a1 = (-1 : Int32))) then true else (bif (decide ((v_ji_bitCount a1) ≤ (v_ji_bitCount (Int32.ofNat i1)))) then false else true))))], [.int (x0 &&& ((v_S_toldByGroup M 4 (Int32.ofNat i1)) ^^^ (-1 : Int32)))])) (h' := (zt_T L, zt_R, M, J, e)) (fun _ => rfl)).trans ?_
            rcases zz_bc (decide ((x0 &&& ((v_S_toldByGroup M 4 (Int32.ofNat i1)) ^^^ (-1 : Int32))) = 0)) with h15 | h15
            · refine zo_neT rfl h15 ?_
              refine (zz_go 2 (fr' := (zm_G_fewestTellers, d + 4, 59, [none, some (.ref 4), some (.int x0), some (.int (Int32.ofNat i1)), some (.int (Int32.ofNat i1)), some (.int (zb (bif (decide (a1 = (-1 : Int32))) then true else (bif (decide ((v_ji_bitCount a1) ≤ (v_ji_bitCount (Int32.ofNat i1)))) then false else true))))], [])) (h' := (zt_T L, zt_R, M, J, e)) (fun _ => rfl)).trans ?_
              refine zz_weak (L := [none, some (.ref 4), some (.int x0), some (.int (Int32.ofNat i1)), some (.int (Int32.ofNat i1)), none]) ⟨Or.inl rfl, Or.inl rfl, Or.inl rfl, Or.inl rfl, Or.inl rfl, Or.inr ⟨rfl, rfl⟩, trivial⟩ ?_
              simpa only [h15, zk_t, zk_f, zb_t, zb_f] using j14
            · refine zo_neF rfl h15 ?_
              refine zz_weak (L := [none, some (.ref 4), some (.int x0), some (.int a1), some (.int (Int32.ofNat i1)), none]) ⟨Or.inl rfl, Or.inl rfl, Or.inl rfl, Or.inl rfl, Or.inl rfl, Or.inr ⟨rfl, rfl⟩, trivial⟩ ?_
              simpa only [h15, zk_t, zk_f, zb_t, zb_f] using j14
          simpa only [h11, zk_t, zk_f, zb_t, zb_f] using j10
        · refine zq_eF rfl h11 ?_
          refine zz_weak (L := [none, some (.ref 4), some (.int x0), some (.int a1), some (.int (Int32.ofNat i1)), none]) ⟨Or.inl rfl, Or.inl rfl, Or.inl rfl, Or.inl rfl, Or.inl rfl, Or.inr ⟨rfl, rfl⟩, trivial⟩ ?_
          simpa only [h11, zk_t, zk_f, zb_t, zb_f] using j10
      refine (zz_go 2 (fr' := (zm_G_fewestTellers, d + 4, 5, [none, some (.ref 4), some (.int x0), some (.int (bif (bif (decide (a1 = (-1 : Int32))) then true else (bif (decide ((v_ji_bitCount a1) ≤ (v_ji_bitCount (Int32.ofNat i1)))) then false else true)) then (bif (decide ((x0 &&& ((v_S_toldByGroup M 4 (Int32.ofNat i1)) ^^^ (-1 : Int32))) = 0)) then (Int32.ofNat i1) else a1) else a1)), some (.int (Int32.ofNat i1 + 1)), none], [])) (h' := (zt_T L, zt_R, M, J, e)) (fun _ => rfl)).trans ?_
      rw [zi_succ i1]
      have y1 := hx1 (by simp only [g_G_fewestTellers_1, h4, zk_t, zk_f, zb_t, zb_f])
      simpa only [g_G_fewestTellers_1, h4, zk_t, zk_f, zb_t, zb_f] using y1
  show zz_D (zm_G_fewestTellers, d + 4, 65, [none, none, none, some (.int (zf_wh 1000 (g_G_fewestTellers_1 M x0) 0 (-1 : Int32))), none, none], []) (zt_T L, zt_R, M, J, e) = _
  refine (zz_go 1 (fr' := (zm_G_fewestTellers, d + 4, 66, [none, none, none, some (.int (zf_wh 1000 (g_G_fewestTellers_1 M x0) 0 (-1 : Int32))), none, none], [.int (zf_wh 1000 (g_G_fewestTellers_1 M x0) 0 (-1 : Int32))])) (h' := (zt_T L, zt_R, M, J, e)) (fun _ => rfl)).trans ?_
  refine zl_retI rfl rfl ?_
  rfl
def v_G_filledWith (M : zMem) (x0 : Int32) (x1 : Int32) (x2 : Int32) (x3 : Int32) : Int32 := (bif (decide (((zsr x2 x3) &&& (1 : Int32)) = 0)) then (bif (bif (decide (((zsr (v_S_deedsHad M 4 x3) x0) &&& (1 : Int32)) = 0)) then false else true) then ((1 : Int32) + (M 193 (((64 : Int32) * (x1 + (1 : Int32))) + (x2 ||| (zsl (1 : Int32) x3))).toNatClampNeg)) else (-1 : Int32)) else (-1 : Int32))
def ok_G_filledWith (M : zMem) (x0 : Int32) (x1 : Int32) (x2 : Int32) (x3 : Int32) : Prop := (ok_S_deedsHad M 4 x3 ∧ ((decide (((zsr x2 x3) &&& (1 : Int32)) = 0)) = true → ((bif (decide (((zsr (v_S_deedsHad M 4 x3) x0) &&& (1 : Int32)) = 0)) then false else true) = true → zz_in (((64 : Int32) * (x1 + (1 : Int32))) + (x2 ||| (zsl (1 : Int32) x3))) 448 = true)))
set_option maxRecDepth 20000 in
set_option maxHeartbeats 2000000 in
theorem s_G_filledWith (L e : Nat) (J : zJem) (d : Nat) (M : zMem) (x0 : Int32) (x1 : Int32) (x2 : Int32) (x3 : Int32) (k0 : ok_G_filledWith M x0 x1 x2 x3) : zz_D (zm_G_filledWith, d + 4, 0, [some (.ref 192), some (.ref 4), some (.int x0), some (.int x1), some (.int x2), some (.int x3), none, none], []) (zt_T L, zt_R, M, J, e) = some (.inl (some (.int (v_G_filledWith M x0 x1 x2 x3))), (zt_T L, zt_R, M, J, e)) := by
  unfold ok_G_filledWith at k0
  unfold v_G_filledWith
  refine zz_jn (X := zz_D (zm_G_filledWith, d + 4, 15, [some (.ref 192), some (.ref 4), some (.int x0), some (.int x1), some (.int x2), some (.int x3), none, none], [.int (zb (decide (((zsr x2 x3) &&& (1 : Int32)) = 0)))]) (zt_T L, zt_R, M, J, e)) (fun j1 => ?_) ?_
  · refine (zz_go 5 (fr' := (zm_G_filledWith, d + 4, 7, [some (.ref 192), some (.ref 4), some (.int x0), some (.int x1), some (.int x2), some (.int x3), none, none], [.int ((zsr x2 x3) &&& (1 : Int32))])) (h' := (zt_T L, zt_R, M, J, e)) (fun _ => rfl)).trans ?_
    rcases zz_bc (decide (((zsr x2 x3) &&& (1 : Int32)) = 0)) with h2 | h2
    · refine zo_neT rfl h2 ?_
      refine (zz_go 2 (fr' := (zm_G_filledWith, d + 4, 15, [some (.ref 192), some (.ref 4), some (.int x0), some (.int x1), some (.int x2), some (.int x3), none, none], [.int (1 : Int32)])) (h' := (zt_T L, zt_R, M, J, e)) (fun _ => rfl)).trans ?_
      simpa only [h2, zk_t, zk_f, zb_t, zb_f] using j1
    · refine zo_neF rfl h2 ?_
      refine (zz_go 1 (fr' := (zm_G_filledWith, d + 4, 15, [some (.ref 192), some (.ref 4), some (.int x0), some (.int x1), some (.int x2), some (.int x3), none, none], [.int (0 : Int32)])) (h' := (zt_T L, zt_R, M, J, e)) (fun _ => rfl)).trans ?_
      simpa only [h2, zk_t, zk_f, zb_t, zb_f] using j1
  refine (zz_go 3 (fr' := (zm_G_filledWith, d + 4, 20, [some (.ref 192), some (.ref 4), some (.int x0), some (.int x1), some (.int x2), some (.int x3), some (.int (zb (decide (((zsr x2 x3) &&& (1 : Int32)) = 0)))), none], [.int x3, .ref 4])) (h' := (zt_T L, zt_R, M, J, e)) (fun _ => rfl)).trans ?_
  obtain ⟨g3, k4⟩ := k0
  refine zl_vt (d := d + 3) rfl rfl rfl rfl rfl rfl rfl rfl rfl rfl (s_S_deedsHad L e J (d + 0) M 4 x3 zt_St_4 g3) ?_
  show zz_D (zm_G_filledWith, d + 4, 23, [some (.ref 192), some (.ref 4), some (.int x0), some (.int x1), some (.int x2), some (.int x3), some (.int (zb (decide (((zsr x2 x3) &&& (1 : Int32)) = 0)))), none], [.int (v_S_deedsHad M 4 x3)]) (zt_T L, zt_R, M, J, e) = _
  refine zz_jn (X := zz_D (zm_G_filledWith, d + 4, 35, [some (.ref 192), none, none, some (.int x1), some (.int x2), some (.int x3), some (.int (zb (decide (((zsr x2 x3) &&& (1 : Int32)) = 0)))), none], [.int (zb (bif (decide (((zsr (v_S_deedsHad M 4 x3) x0) &&& (1 : Int32)) = 0)) then false else true))]) (zt_T L, zt_R, M, J, e)) (fun j5 => ?_) ?_
  · refine (zz_go 4 (fr' := (zm_G_filledWith, d + 4, 27, [some (.ref 192), some (.ref 4), some (.int x0), some (.int x1), some (.int x2), some (.int x3), some (.int (zb (decide (((zsr x2 x3) &&& (1 : Int32)) = 0)))), none], [.int ((zsr (v_S_deedsHad M 4 x3) x0) &&& (1 : Int32))])) (h' := (zt_T L, zt_R, M, J, e)) (fun _ => rfl)).trans ?_
    rcases zz_bc (decide (((zsr (v_S_deedsHad M 4 x3) x0) &&& (1 : Int32)) = 0)) with h6 | h6
    · refine zo_eqT rfl h6 ?_
      refine (zz_go 1 (fr' := (zm_G_filledWith, d + 4, 35, [some (.ref 192), some (.ref 4), some (.int x0), some (.int x1), some (.int x2), some (.int x3), some (.int (zb (decide (((zsr x2 x3) &&& (1 : Int32)) = 0)))), none], [.int (0 : Int32)])) (h' := (zt_T L, zt_R, M, J, e)) (fun _ => rfl)).trans ?_
      refine zz_weak (L := [some (.ref 192), none, none, some (.int x1), some (.int x2), some (.int x3), some (.int (zb (decide (((zsr x2 x3) &&& (1 : Int32)) = 0)))), none]) ⟨Or.inl rfl, Or.inr ⟨rfl, rfl⟩, Or.inr ⟨rfl, rfl⟩, Or.inl rfl, Or.inl rfl, Or.inl rfl, Or.inl rfl, Or.inl rfl, trivial⟩ ?_
      simpa only [h6, zk_t, zk_f, zb_t, zb_f] using j5
    · refine zo_eqF rfl h6 ?_
      refine (zz_go 2 (fr' := (zm_G_filledWith, d + 4, 35, [some (.ref 192), some (.ref 4), some (.int x0), some (.int x1), some (.int x2), some (.int x3), some (.int (zb (decide (((zsr x2 x3) &&& (1 : Int32)) = 0)))), none], [.int (1 : Int32)])) (h' := (zt_T L, zt_R, M, J, e)) (fun _ => rfl)).trans ?_
      refine zz_weak (L := [some (.ref 192), none, none, some (.int x1), some (.int x2), some (.int x3), some (.int (zb (decide (((zsr x2 x3) &&& (1 : Int32)) = 0)))), none]) ⟨Or.inl rfl, Or.inr ⟨rfl, rfl⟩, Or.inr ⟨rfl, rfl⟩, Or.inl rfl, Or.inl rfl, Or.inl rfl, Or.inl rfl, Or.inl rfl, trivial⟩ ?_
      simpa only [h6, zk_t, zk_f, zb_t, zb_f] using j5
  refine zz_jn (X := zz_D (zm_G_filledWith, d + 4, 72, [none, none, none, none, none, none, none, none], [.int (bif (decide (((zsr x2 x3) &&& (1 : Int32)) = 0)) then (bif (bif (decide (((zsr (v_S_deedsHad M 4 x3) x0) &&& (1 : Int32)) = 0)) then false else true) then ((1 : Int32) + (M 193 (((64 : Int32) * (x1 + (1 : Int32))) + (x2 ||| (zsl (1 : Int32) x3))).toNatClampNeg)) else (-1 : Int32)) else (-1 : Int32))]) (zt_T L, zt_R, M, J, e)) (fun j7 => ?_) ?_
  · refine (zz_go 2 (fr' := (zm_G_filledWith, d + 4, 39, [some (.ref 192), none, none, some (.int x1), some (.int x2), some (.int x3), some (.int (zb (decide (((zsr x2 x3) &&& (1 : Int32)) = 0)))), some (.int (zb (bif (decide (((zsr (v_S_deedsHad M 4 x3) x0) &&& (1 : Int32)) = 0)) then false else true)))], [.int (zb (decide (((zsr x2 x3) &&& (1 : Int32)) = 0)))])) (h' := (zt_T L, zt_R, M, J, e)) (fun _ => rfl)).trans ?_
    rcases zz_bc (decide (((zsr x2 x3) &&& (1 : Int32)) = 0)) with h8 | h8
    · refine zq_eT rfl h8 ?_
      have k9 := k4 h8
      refine zz_jn (X := zz_D (zm_G_filledWith, d + 4, 72, [none, none, none, none, none, none, none, none], [.int (bif (bif (decide (((zsr (v_S_deedsHad M 4 x3) x0) &&& (1 : Int32)) = 0)) then false else true) then ((1 : Int32) + (M 193 (((64 : Int32) * (x1 + (1 : Int32))) + (x2 ||| (zsl (1 : Int32) x3))).toNatClampNeg)) else (-1 : Int32))]) (zt_T L, zt_R, M, J, e)) (fun j10 => ?_) ?_
      · refine (zz_go 1 (fr' := (zm_G_filledWith, d + 4, 44, [some (.ref 192), none, none, some (.int x1), some (.int x2), some (.int x3), some (.int (zb (decide (((zsr x2 x3) &&& (1 : Int32)) = 0)))), some (.int (zb (bif (decide (((zsr (v_S_deedsHad M 4 x3) x0) &&& (1 : Int32)) = 0)) then false else true)))], [.int (zb (bif (decide (((zsr (v_S_deedsHad M 4 x3) x0) &&& (1 : Int32)) = 0)) then false else true))])) (h' := (zt_T L, zt_R, M, J, e)) (fun _ => rfl)).trans ?_
        rcases zz_bc (bif (decide (((zsr (v_S_deedsHad M 4 x3) x0) &&& (1 : Int32)) = 0)) then false else true) with h11 | h11
        · refine zq_eT rfl h11 ?_
          have k12 := k9 h11
          refine (zz_go 2 (fr' := (zm_G_filledWith, d + 4, 49, [some (.ref 192), none, none, some (.int x1), some (.int x2), some (.int x3), some (.int (zb (decide (((zsr x2 x3) &&& (1 : Int32)) = 0)))), some (.int (zb (bif (decide (((zsr (v_S_deedsHad M 4 x3) x0) &&& (1 : Int32)) = 0)) then false else true)))], [.ref 192, .int (1 : Int32)])) (h' := (zt_T L, zt_R, M, J, e)) (fun _ => rfl)).trans ?_
          refine zl_getR rfl rfl rfl ?_
          refine (zz_go 11 (fr' := (zm_G_filledWith, d + 4, 66, [some (.ref 192), none, none, some (.int x1), some (.int x2), some (.int x3), some (.int (zb (decide (((zsr x2 x3) &&& (1 : Int32)) = 0)))), some (.int (zb (bif (decide (((zsr (v_S_deedsHad M 4 x3) x0) &&& (1 : Int32)) = 0)) then false else true)))], [.int (((64 : Int32) * (x1 + (1 : Int32))) + (x2 ||| (zsl (1 : Int32) x3))), .ref 193, .int (1 : Int32)])) (h' := (zt_T L, zt_R, M, J, e)) (fun _ => rfl)).trans ?_
          have g13 : zz_in (((64 : Int32) * (x1 + (1 : Int32))) + (x2 ||| (zsl (1 : Int32) x3))) 448 = true := k12
          refine zl_iaload rfl rfl g13 rfl ?_
          refine (zz_go 2 (fr' := (zm_G_filledWith, d + 4, 72, [some (.ref 192), none, none, some (.int x1), some (.int x2), some (.int x3), some (.int (zb (decide (((zsr x2 x3) &&& (1 : Int32)) = 0)))), some (.int (zb (bif (decide (((zsr (v_S_deedsHad M 4 x3) x0) &&& (1 : Int32)) = 0)) then false else true)))], [.int ((1 : Int32) + (M 193 (((64 : Int32) * (x1 + (1 : Int32))) + (x2 ||| (zsl (1 : Int32) x3))).toNatClampNeg))])) (h' := (zt_T L, zt_R, M, J, e)) (fun _ => rfl)).trans ?_
          refine zz_weak (L := [none, none, none, none, none, none, none, none]) ⟨Or.inr ⟨rfl, rfl⟩, Or.inl rfl, Or.inl rfl, Or.inr ⟨rfl, rfl⟩, Or.inr ⟨rfl, rfl⟩, Or.inr ⟨rfl, rfl⟩, Or.inr ⟨rfl, rfl⟩, Or.inr ⟨rfl, rfl⟩, trivial⟩ ?_
          simpa only [h11, zk_t, zk_f, zb_t, zb_f] using j10
        · refine zq_eF rfl h11 ?_
          refine (zz_go 1 (fr' := (zm_G_filledWith, d + 4, 72, [some (.ref 192), none, none, some (.int x1), some (.int x2), some (.int x3), some (.int (zb (decide (((zsr x2 x3) &&& (1 : Int32)) = 0)))), some (.int (zb (bif (decide (((zsr (v_S_deedsHad M 4 x3) x0) &&& (1 : Int32)) = 0)) then false else true)))], [.int (-1 : Int32)])) (h' := (zt_T L, zt_R, M, J, e)) (fun _ => rfl)).trans ?_
          refine zz_weak (L := [none, none, none, none, none, none, none, none]) ⟨Or.inr ⟨rfl, rfl⟩, Or.inl rfl, Or.inl rfl, Or.inr ⟨rfl, rfl⟩, Or.inr ⟨rfl, rfl⟩, Or.inr ⟨rfl, rfl⟩, Or.inr ⟨rfl, rfl⟩, Or.inr ⟨rfl, rfl⟩, trivial⟩ ?_
          simpa only [h11, zk_t, zk_f, zb_t, zb_f] using j10
      simpa only [h8, zk_t, zk_f, zb_t, zb_f] using j7
    · refine zq_eF rfl h8 ?_
      refine (zz_go 1 (fr' := (zm_G_filledWith, d + 4, 72, [some (.ref 192), none, none, some (.int x1), some (.int x2), some (.int x3), some (.int (zb (decide (((zsr x2 x3) &&& (1 : Int32)) = 0)))), some (.int (zb (bif (decide (((zsr (v_S_deedsHad M 4 x3) x0) &&& (1 : Int32)) = 0)) then false else true)))], [.int (-1 : Int32)])) (h' := (zt_T L, zt_R, M, J, e)) (fun _ => rfl)).trans ?_
      refine zz_weak (L := [none, none, none, none, none, none, none, none]) ⟨Or.inr ⟨rfl, rfl⟩, Or.inl rfl, Or.inl rfl, Or.inr ⟨rfl, rfl⟩, Or.inr ⟨rfl, rfl⟩, Or.inr ⟨rfl, rfl⟩, Or.inr ⟨rfl, rfl⟩, Or.inr ⟨rfl, rfl⟩, trivial⟩ ?_
      simpa only [h8, zk_t, zk_f, zb_t, zb_f] using j7
  refine zl_retI rfl rfl ?_
  rfl
def f_G_fillBerths_1 (M : zMem) (x0 : Int32) (i1 : Nat) (a1 : zMem) : zMem := (zz_up a1 193 (((64 : Int32) * x0) + (Int32.ofNat i1)).toNatClampNeg (0 : Int32))
def kb_G_fillBerths_1 (M : zMem) (x0 : Int32) (i1 : Nat) (a1 : zMem) : Prop := zz_in (((64 : Int32) * x0) + (Int32.ofNat i1)) 448 = true
def f_G_fillBerths_4 (M : zMem) (x0 : Int32) (i2 : Nat) (a2 : Int32 × zMem) (i3 : Nat) (a3 : zMem) (i4 : Nat) (a4 : Int32) : Int32 := (v_jm_max a4 (v_G_filledWith a3 (v_T_byteAt a3 a2.1) a2.1 (Int32.ofNat i3) (Int32.ofNat i4)))
def kb_G_fillBerths_4 (M : zMem) (x0 : Int32) (i2 : Nat) (a2 : Int32 × zMem) (i3 : Nat) (a3 : zMem) (i4 : Nat) (a4 : Int32) : Prop := (ok_T_byteAt a3 a2.1 ∧ ok_G_filledWith a3 (v_T_byteAt a3 a2.1) a2.1 (Int32.ofNat i3) (Int32.ofNat i4))
def g_G_fillBerths_3 (M : zMem) (x0 : Int32) (i2 : Nat) (a2 : Int32 × zMem) (i3 : Nat) (a3 : zMem) : Bool × (zMem) := ((bif (decide ((v_S_everybody a3 4) < (Int32.ofNat i3))) then false else true), (bif (decide ((v_S_everybody a3 4) < (Int32.ofNat i3))) then a3 else (zz_up a3 193 (((64 : Int32) * a2.1) + (Int32.ofNat i3)).toNatClampNeg (zf_for (a3 4 10).toNatClampNeg (f_G_fillBerths_4 M x0 i2 a2 i3 a3) (a3 193 (((64 : Int32) * (a2.1 + (1 : Int32))) + (Int32.ofNat i3)).toNatClampNeg)))))
def kb_G_fillBerths_3 (M : zMem) (x0 : Int32) (i2 : Nat) (a2 : Int32 × zMem) (i3 : Nat) (a3 : zMem) : Prop := ((decide ((v_S_everybody a3 4) < (Int32.ofNat i3))) = false → (zz_in (((64 : Int32) * (a2.1 + (1 : Int32))) + (Int32.ofNat i3)) 448 = true ∧ ((∀ i4, i4 < (a3 4 10).toNatClampNeg → kb_G_fillBerths_4 M x0 i2 a2 i3 a3 i4 (zf_for i4 (f_G_fillBerths_4 M x0 i2 a2 i3 a3) (a3 193 (((64 : Int32) * (a2.1 + (1 : Int32))) + (Int32.ofNat i3)).toNatClampNeg))) ∧ zz_in (((64 : Int32) * a2.1) + (Int32.ofNat i3)) 448 = true)))
def g_G_fillBerths_2 (M : zMem) (x0 : Int32) (i2 : Nat) (a2 : Int32 × zMem) : Bool × (Int32 × zMem) := ((bif (decide (a2.1 < 0)) then false else true), ((bif (decide (a2.1 < 0)) then a2.1 else (a2.1 + (-1 : Int32))), (bif (decide (a2.1 < 0)) then a2.2 else (zf_wh 1000 (g_G_fillBerths_3 M x0 i2 a2) 0 a2.2))))
def kb_G_fillBerths_2 (M : zMem) (x0 : Int32) (i2 : Nat) (a2 : Int32 × zMem) : Prop := ((decide (a2.1 < 0)) = false → (zf_wk 1000 (g_G_fillBerths_3 M x0 i2 a2) (kb_G_fillBerths_3 M x0 i2 a2) 0 a2.2))
def w_G_fillBerths (M : zMem) (x0 : Int32) : zMem := (zf_wh 1000 (g_G_fillBerths_2 M x0) 0 ((x0 - (1 : Int32)), (zf_for 64 (f_G_fillBerths_1 M x0) M))).2
def ok_G_fillBerths (M : zMem) (x0 : Int32) : Prop := ((∀ i1, i1 < 64 → kb_G_fillBerths_1 M x0 i1 (zf_for i1 (f_G_fillBerths_1 M x0) M)) ∧ (zf_wk 1000 (g_G_fillBerths_2 M x0) (kb_G_fillBerths_2 M x0) 0 ((x0 - (1 : Int32)), (zf_for 64 (f_G_fillBerths_1 M x0) M))))
set_option maxRecDepth 20000 in
set_option maxHeartbeats 2000000 in
theorem s_G_fillBerths (L e : Nat) (J : zJem) (d : Nat) (M : zMem) (x0 : Int32) (k0 : ok_G_fillBerths M x0) : zz_D (zm_G_fillBerths, d + 5, 0, [some (.ref 192), some (.ref 4), some (.ref 2), some (.int x0), none, none, none, none], []) (zt_T L, zt_R, M, J, e) = some (.inl (none), (zt_T L, zt_R, (w_G_fillBerths M x0), J, e)) := by
  unfold ok_G_fillBerths at k0
  unfold w_G_fillBerths
  refine (zz_go 2 (fr' := (zm_G_fillBerths, d + 5, 3, [some (.ref 192), some (.ref 4), some (.ref 2), some (.int x0), some (.int (0 : Int32)), none, none, none], [])) (h' := (zt_T L, zt_R, M, J, e)) (fun _ => rfl)).trans ?_
  obtain ⟨k1, k2⟩ := k0
  refine zf_forD (X := fun (i1 : Nat) (a1 : zMem) => zz_D (zm_G_fillBerths, d + 5, 3, [some (.ref 192), some (.ref 4), some (.ref 2), some (.int x0), some (.int (Int32.ofNat i1)), none, none, none], []) (zt_T L, zt_R, a1, J, e)) (f := (f_G_fillBerths_1 M x0)) (a := M) 64 (fun i1 hi1 => ?_) ?_
  · intro hx3
    have k4 := k1 i1 hi1
    generalize zf_for i1 (f_G_fillBerths_1 M x0) M = a1 at hx3 k4 ⊢
    show zz_D (zm_G_fillBerths, d + 5, 3, [some (.ref 192), some (.ref 4), some (.ref 2), some (.int x0), some (.int (Int32.ofNat i1)), none, none, none], []) (zt_T L, zt_R, a1, J, e) = _
    unfold kb_G_fillBerths_1 at k4
    refine (zz_go 2 (fr' := (zm_G_fillBerths, d + 5, 7, [some (.ref 192), some (.ref 4), some (.ref 2), some (.int x0), some (.int (Int32.ofNat i1)), none, none, none], [.int (64 : Int32), .int (Int32.ofNat i1)])) (h' := (zt_T L, zt_R, a1, J, e)) (fun _ => rfl)).trans ?_
    refine zc_geF rfl (zi_ltc (n := 64) (by omega) (by decide)) ?_
    refine (zz_go 1 (fr' := (zm_G_fillBerths, d + 5, 11, [some (.ref 192), some (.ref 4), some (.ref 2), some (.int x0), some (.int (Int32.ofNat i1)), none, none, none], [.ref 192])) (h' := (zt_T L, zt_R, a1, J, e)) (fun _ => rfl)).trans ?_
    refine zl_getR rfl rfl rfl ?_
    refine (zz_go 6 (fr' := (zm_G_fillBerths, d + 5, 22, [some (.ref 192), some (.ref 4), some (.ref 2), some (.int x0), some (.int (Int32.ofNat i1)), none, none, none], [.int (0 : Int32), .int (((64 : Int32) * x0) + (Int32.ofNat i1)), .ref 193])) (h' := (zt_T L, zt_R, a1, J, e)) (fun _ => rfl)).trans ?_
    have g5 : zz_in (((64 : Int32) * x0) + (Int32.ofNat i1)) 448 = true := k4
    refine zl_iastore rfl rfl g5 rfl rfl ?_
    refine (zz_go 2 (fr' := (zm_G_fillBerths, d + 5, 3, [some (.ref 192), some (.ref 4), some (.ref 2), some (.int x0), some (.int (Int32.ofNat i1 + 1)), none, none, none], [])) (h' := (zt_T L, zt_R, (zz_up a1 193 (((64 : Int32) * x0) + (Int32.ofNat i1)).toNatClampNeg (0 : Int32)), J, e)) (fun _ => rfl)).trans ?_
    rw [zi_succ i1]
    exact hx3
  show zz_D (zm_G_fillBerths, d + 5, 3, [some (.ref 192), some (.ref 4), some (.ref 2), some (.int x0), some (.int (Int32.ofNat 64)), none, none, none], []) (zt_T L, zt_R, (zf_for 64 (f_G_fillBerths_1 M x0) M), J, e) = _
  refine (zz_go 2 (fr' := (zm_G_fillBerths, d + 5, 7, [some (.ref 192), some (.ref 4), some (.ref 2), some (.int x0), some (.int (Int32.ofNat 64)), none, none, none], [.int (64 : Int32), .int (Int32.ofNat 64)])) (h' := (zt_T L, zt_R, (zf_for 64 (f_G_fillBerths_1 M x0) M), J, e)) (fun _ => rfl)).trans ?_
  refine zc_geT rfl (by decide) ?_
  refine zz_weak (L := [some (.ref 192), some (.ref 4), some (.ref 2), some (.int x0), none, none, none, none]) ⟨Or.inl rfl, Or.inl rfl, Or.inl rfl, Or.inl rfl, Or.inr ⟨rfl, rfl⟩, Or.inl rfl, Or.inl rfl, Or.inl rfl, trivial⟩ ?_
  refine (zz_go 4 (fr' := (zm_G_fillBerths, d + 5, 34, [some (.ref 192), some (.ref 4), some (.ref 2), some (.int x0), some (.int (x0 - (1 : Int32))), none, none, none], [])) (h' := (zt_T L, zt_R, (zf_for 64 (f_G_fillBerths_1 M x0) M), J, e)) (fun _ => rfl)).trans ?_
  refine zz_weak (L := [some (.ref 192), some (.ref 4), some (.ref 2), none, some (.int (x0 - (1 : Int32))), none, none, none]) ⟨Or.inl rfl, Or.inl rfl, Or.inl rfl, Or.inr ⟨rfl, rfl⟩, Or.inl rfl, Or.inl rfl, Or.inl rfl, Or.inl rfl, trivial⟩ ?_
  refine zf_whY (X := fun (i2 : Nat) (a2 : Int32 × zMem) => zz_D (zm_G_fillBerths, d + 5, 34, [some (.ref 192), some (.ref 4), some (.ref 2), none, some (.int a2.1), none, none, none], []) (zt_T L, zt_R, a2.2, J, e)) (Y := fun (a2 : Int32 × zMem) => zz_D (zm_G_fillBerths, d + 5, 137, [none, none, none, none, none, none, none, none], []) (zt_T L, zt_R, a2.2, J, e)) (g := (g_G_fillBerths_2 M x0)) (k := (kb_G_fillBerths_2 M x0)) (fun i2 a2 k8 hx6 hx7 => ?_) 1000 0 ((x0 - (1 : Int32)), (zf_for 64 (f_G_fillBerths_1 M x0) M)) k2 ?_
  · show zz_D (zm_G_fillBerths, d + 5, 34, [some (.ref 192), some (.ref 4), some (.ref 2), none, some (.int a2.1), none, none, none], []) (zt_T L, zt_R, a2.2, J, e) = _
    unfold kb_G_fillBerths_2 at k8
    refine (zz_go 1 (fr' := (zm_G_fillBerths, d + 5, 36, [some (.ref 192), some (.ref 4), some (.ref 2), none, some (.int a2.1), none, none, none], [.int a2.1])) (h' := (zt_T L, zt_R, a2.2, J, e)) (fun _ => rfl)).trans ?_
    rcases zz_bc (decide (a2.1 < 0)) with h9 | h9
    · refine zo_ltT rfl h9 ?_
      refine zz_weak (L := [none, none, none, none, none, none, none, none]) ⟨Or.inr ⟨rfl, rfl⟩, Or.inr ⟨rfl, rfl⟩, Or.inr ⟨rfl, rfl⟩, Or.inl rfl, Or.inr ⟨rfl, rfl⟩, Or.inl rfl, Or.inl rfl, Or.inl rfl, trivial⟩ ?_
      have y1 := hx7 (by simp only [g_G_fillBerths_2, h9, zk_t, zk_f, zb_t, zb_f])
      simpa only [g_G_fillBerths_2, h9, zk_t, zk_f, zb_t, zb_f] using y1
    · refine zo_ltF rfl h9 ?_
      have k10 := k8 h9
      refine (zz_go 2 (fr' := (zm_G_fillBerths, d + 5, 42, [some (.ref 192), some (.ref 4), some (.ref 2), none, some (.int a2.1), some (.int (0 : Int32)), none, none], [])) (h' := (zt_T L, zt_R, a2.2, J, e)) (fun _ => rfl)).trans ?_
      refine zf_whY (X := fun (i3 : Nat) (a3 : zMem) => zz_D (zm_G_fillBerths, d + 5, 42, [some (.ref 192), some (.ref 4), some (.ref 2), none, some (.int a2.1), some (.int (Int32.ofNat i3)), none, none], []) (zt_T L, zt_R, a3, J, e)) (Y := fun (a3 : zMem) => zz_D (zm_G_fillBerths, d + 5, 131, [some (.ref 192), some (.ref 4), some (.ref 2), none, some (.int a2.1), none, none, none], []) (zt_T L, zt_R, a3, J, e)) (g := (g_G_fillBerths_3 M x0 i2 a2)) (k := (kb_G_fillBerths_3 M x0 i2 a2)) (fun i3 a3 k13 hx11 hx12 => ?_) 1000 0 a2.2 k10 ?_
      · show zz_D (zm_G_fillBerths, d + 5, 42, [some (.ref 192), some (.ref 4), some (.ref 2), none, some (.int a2.1), some (.int (Int32.ofNat i3)), none, none], []) (zt_T L, zt_R, a3, J, e) = _
        unfold kb_G_fillBerths_3 at k13
        refine (zz_go 2 (fr' := (zm_G_fillBerths, d + 5, 45, [some (.ref 192), some (.ref 4), some (.ref 2), none, some (.int a2.1), some (.int (Int32.ofNat i3)), none, none], [.ref 4, .int (Int32.ofNat i3)])) (h' := (zt_T L, zt_R, a3, J, e)) (fun _ => rfl)).trans ?_
        refine zl_vt (d := d + 4) rfl rfl rfl rfl rfl rfl rfl rfl rfl rfl (s_S_everybody L e J (d + 3) a3 4 zt_St_4) ?_
        show zz_D (zm_G_fillBerths, d + 5, 48, [some (.ref 192), some (.ref 4), some (.ref 2), none, some (.int a2.1), some (.int (Int32.ofNat i3)), none, none], [.int (v_S_everybody a3 4), .int (Int32.ofNat i3)]) (zt_T L, zt_R, a3, J, e) = _
        rcases zz_bc (decide ((v_S_everybody a3 4) < (Int32.ofNat i3))) with h14 | h14
        · refine zc_gtT rfl h14 ?_
          refine zz_weak (L := [some (.ref 192), some (.ref 4), some (.ref 2), none, some (.int a2.1), none, none, none]) ⟨Or.inl rfl, Or.inl rfl, Or.inl rfl, Or.inl rfl, Or.inl rfl, Or.inr ⟨rfl, rfl⟩, Or.inl rfl, Or.inl rfl, trivial⟩ ?_
          have y1 := hx12 (by simp only [g_G_fillBerths_3, h14, zk_t, zk_f, zb_t, zb_f])
          simpa only [g_G_fillBerths_3, h14, zk_t, zk_f, zb_t, zb_f] using y1
        · refine zc_gtF rfl h14 ?_
          have k15 := k13 h14
          refine (zz_go 1 (fr' := (zm_G_fillBerths, d + 5, 52, [some (.ref 192), some (.ref 4), some (.ref 2), none, some (.int a2.1), some (.int (Int32.ofNat i3)), none, none], [.ref 192])) (h' := (zt_T L, zt_R, a3, J, e)) (fun _ => rfl)).trans ?_
          refine zl_getR rfl rfl rfl ?_
          refine (zz_go 7 (fr' := (zm_G_fillBerths, d + 5, 65, [some (.ref 192), some (.ref 4), some (.ref 2), none, some (.int a2.1), some (.int (Int32.ofNat i3)), none, none], [.int (((64 : Int32) * (a2.1 + (1 : Int32))) + (Int32.ofNat i3)), .ref 193])) (h' := (zt_T L, zt_R, a3, J, e)) (fun _ => rfl)).trans ?_
          obtain ⟨g16, k17⟩ := k15
          refine zl_iaload rfl rfl g16 rfl ?_
          refine (zz_go 3 (fr' := (zm_G_fillBerths, d + 5, 71, [some (.ref 192), some (.ref 4), some (.ref 2), none, some (.int a2.1), some (.int (Int32.ofNat i3)), some (.int (a3 193 (((64 : Int32) * (a2.1 + (1 : Int32))) + (Int32.ofNat i3)).toNatClampNeg)), some (.int (0 : Int32))], [])) (h' := (zt_T L, zt_R, a3, J, e)) (fun _ => rfl)).trans ?_
          obtain ⟨k18, k19⟩ := k17
          refine zf_forD (X := fun (i4 : Nat) (a4 : Int32) => zz_D (zm_G_fillBerths, d + 5, 71, [some (.ref 192), some (.ref 4), some (.ref 2), none, some (.int a2.1), some (.int (Int32.ofNat i3)), some (.int a4), some (.int (Int32.ofNat i4))], []) (zt_T L, zt_R, a3, J, e)) (f := (f_G_fillBerths_4 M x0 i2 a2 i3 a3)) (a := (a3 193 (((64 : Int32) * (a2.1 + (1 : Int32))) + (Int32.ofNat i3)).toNatClampNeg)) (a3 4 10).toNatClampNeg (fun i4 hi4 => ?_) ?_
          · intro hx20
            have k21 := k18 i4 hi4
            generalize zf_for i4 (f_G_fillBerths_4 M x0 i2 a2 i3 a3) (a3 193 (((64 : Int32) * (a2.1 + (1 : Int32))) + (Int32.ofNat i3)).toNatClampNeg) = a4 at hx20 k21 ⊢
            show zz_D (zm_G_fillBerths, d + 5, 71, [some (.ref 192), some (.ref 4), some (.ref 2), none, some (.int a2.1), some (.int (Int32.ofNat i3)), some (.int a4), some (.int (Int32.ofNat i4))], []) (zt_T L, zt_R, a3, J, e) = _
            unfold kb_G_fillBerths_4 at k21
            refine (zz_go 2 (fr' := (zm_G_fillBerths, d + 5, 74, [some (.ref 192), some (.ref 4), some (.ref 2), none, some (.int a2.1), some (.int (Int32.ofNat i3)), some (.int a4), some (.int (Int32.ofNat i4))], [.ref 4, .int (Int32.ofNat i4)])) (h' := (zt_T L, zt_R, a3, J, e)) (fun _ => rfl)).trans ?_
            refine zl_getI rfl (by decide) rfl rfl ?_
            refine zc_geF rfl (zi_lt hi4) ?_
            refine (zz_go 5 (fr' := (zm_G_fillBerths, d + 5, 87, [some (.ref 192), some (.ref 4), some (.ref 2), none, some (.int a2.1), some (.int (Int32.ofNat i3)), some (.int a4), some (.int (Int32.ofNat i4))], [.int a2.1, .ref 2, .ref 4, .ref 192, .int a4])) (h' := (zt_T L, zt_R, a3, J, e)) (fun _ => rfl)).trans ?_
            obtain ⟨g22, k23⟩ := k21
            refine zl_vt (d := d + 4) rfl rfl rfl rfl rfl rfl rfl rfl rfl rfl (s_T_byteAt L e J (d + 3) a3 a2.1 g22) ?_
            show zz_D (zm_G_fillBerths, d + 5, 90, [some (.ref 192), some (.ref 4), some (.ref 2), none, some (.int a2.1), some (.int (Int32.ofNat i3)), some (.int a4), some (.int (Int32.ofNat i4))], [.int (v_T_byteAt a3 a2.1), .ref 4, .ref 192, .int a4]) (zt_T L, zt_R, a3, J, e) = _
            refine (zz_go 3 (fr' := (zm_G_fillBerths, d + 5, 96, [some (.ref 192), some (.ref 4), some (.ref 2), none, some (.int a2.1), some (.int (Int32.ofNat i3)), some (.int a4), some (.int (Int32.ofNat i4))], [.int (Int32.ofNat i4), .int (Int32.ofNat i3), .int a2.1, .int (v_T_byteAt a3 a2.1), .ref 4, .ref 192, .int a4])) (h' := (zt_T L, zt_R, a3, J, e)) (fun _ => rfl)).trans ?_
            have g24 : ok_G_filledWith a3 (v_T_byteAt a3 a2.1) a2.1 (Int32.ofNat i3) (Int32.ofNat i4) := k23
            refine zl_vt (d := d + 4) rfl rfl rfl rfl rfl rfl rfl rfl rfl rfl (s_G_filledWith L e J (d + 0) a3 (v_T_byteAt a3 a2.1) a2.1 (Int32.ofNat i3) (Int32.ofNat i4) g24) ?_
            show zz_D (zm_G_fillBerths, d + 5, 99, [some (.ref 192), some (.ref 4), some (.ref 2), none, some (.int a2.1), some (.int (Int32.ofNat i3)), some (.int a4), some (.int (Int32.ofNat i4))], [.int (v_G_filledWith a3 (v_T_byteAt a3 a2.1) a2.1 (Int32.ofNat i3) (Int32.ofNat i4)), .int a4]) (zt_T L, zt_R, a3, J, e) = _
            refine zl_st (d := d + 4) rfl rfl rfl rfl rfl rfl rfl (s_jm_max L e J (d + 3) a4 (v_G_filledWith a3 (v_T_byteAt a3 a2.1) a2.1 (Int32.ofNat i3) (Int32.ofNat i4))) ?_
            show zz_D (zm_G_fillBerths, d + 5, 102, [some (.ref 192), some (.ref 4), some (.ref 2), none, some (.int a2.1), some (.int (Int32.ofNat i3)), some (.int a4), some (.int (Int32.ofNat i4))], [.int (v_jm_max a4 (v_G_filledWith a3 (v_T_byteAt a3 a2.1) a2.1 (Int32.ofNat i3) (Int32.ofNat i4)))]) (zt_T L, zt_R, a3, J, e) = _
            refine (zz_go 3 (fr' := (zm_G_fillBerths, d + 5, 71, [some (.ref 192), some (.ref 4), some (.ref 2), none, some (.int a2.1), some (.int (Int32.ofNat i3)), some (.int (v_jm_max a4 (v_G_filledWith a3 (v_T_byteAt a3 a2.1) a2.1 (Int32.ofNat i3) (Int32.ofNat i4)))), some (.int (Int32.ofNat i4 + 1))], [])) (h' := (zt_T L, zt_R, a3, J, e)) (fun _ => rfl)).trans ?_
            rw [zi_succ i4]
            exact hx20
          show zz_D (zm_G_fillBerths, d + 5, 71, [some (.ref 192), some (.ref 4), some (.ref 2), none, some (.int a2.1), some (.int (Int32.ofNat i3)), some (.int (zf_for (a3 4 10).toNatClampNeg (f_G_fillBerths_4 M x0 i2 a2 i3 a3) (a3 193 (((64 : Int32) * (a2.1 + (1 : Int32))) + (Int32.ofNat i3)).toNatClampNeg))), some (.int (Int32.ofNat (a3 4 10).toNatClampNeg))], []) (zt_T L, zt_R, a3, J, e) = _
          refine (zz_go 2 (fr' := (zm_G_fillBerths, d + 5, 74, [some (.ref 192), some (.ref 4), some (.ref 2), none, some (.int a2.1), some (.int (Int32.ofNat i3)), some (.int (zf_for (a3 4 10).toNatClampNeg (f_G_fillBerths_4 M x0 i2 a2 i3 a3) (a3 193 (((64 : Int32) * (a2.1 + (1 : Int32))) + (Int32.ofNat i3)).toNatClampNeg))), some (.int (Int32.ofNat (a3 4 10).toNatClampNeg))], [.ref 4, .int (Int32.ofNat (a3 4 10).toNatClampNeg)])) (h' := (zt_T L, zt_R, a3, J, e)) (fun _ => rfl)).trans ?_
          refine zl_getI rfl (by decide) rfl rfl ?_
          refine zc_geT rfl (zi_ge _) ?_
          refine zz_weak (L := [some (.ref 192), some (.ref 4), some (.ref 2), none, some (.int a2.1), some (.int (Int32.ofNat i3)), some (.int (zf_for (a3 4 10).toNatClampNeg (f_G_fillBerths_4 M x0 i2 a2 i3 a3) (a3 193 (((64 : Int32) * (a2.1 + (1 : Int32))) + (Int32.ofNat i3)).toNatClampNeg))), none]) ⟨Or.inl rfl, Or.inl rfl, Or.inl rfl, Or.inl rfl, Or.inl rfl, Or.inl rfl, Or.inl rfl, Or.inr ⟨rfl, rfl⟩, trivial⟩ ?_
          refine (zz_go 1 (fr' := (zm_G_fillBerths, d + 5, 111, [some (.ref 192), some (.ref 4), some (.ref 2), none, some (.int a2.1), some (.int (Int32.ofNat i3)), some (.int (zf_for (a3 4 10).toNatClampNeg (f_G_fillBerths_4 M x0 i2 a2 i3 a3) (a3 193 (((64 : Int32) * (a2.1 + (1 : Int32))) + (Int32.ofNat i3)).toNatClampNeg))), none], [.ref 192])) (h' := (zt_T L, zt_R, a3, J, e)) (fun _ => rfl)).trans ?_
          refine zl_getR rfl rfl rfl ?_
          refine (zz_go 6 (fr' := (zm_G_fillBerths, d + 5, 124, [some (.ref 192), some (.ref 4), some (.ref 2), none, some (.int a2.1), some (.int (Int32.ofNat i3)), some (.int (zf_for (a3 4 10).toNatClampNeg (f_G_fillBerths_4 M x0 i2 a2 i3 a3) (a3 193 (((64 : Int32) * (a2.1 + (1 : Int32))) + (Int32.ofNat i3)).toNatClampNeg))), none], [.int (zf_for (a3 4 10).toNatClampNeg (f_G_fillBerths_4 M x0 i2 a2 i3 a3) (a3 193 (((64 : Int32) * (a2.1 + (1 : Int32))) + (Int32.ofNat i3)).toNatClampNeg)), .int (((64 : Int32) * a2.1) + (Int32.ofNat i3)), .ref 193])) (h' := (zt_T L, zt_R, a3, J, e)) (fun _ => rfl)).trans ?_
          have g25 : zz_in (((64 : Int32) * a2.1) + (Int32.ofNat i3)) 448 = true := k19
          refine zl_iastore rfl rfl g25 rfl rfl ?_
          refine (zz_go 2 (fr' := (zm_G_fillBerths, d + 5, 42, [some (.ref 192), some (.ref 4), some (.ref 2), none, some (.int a2.1), some (.int (Int32.ofNat i3 + 1)), some (.int (zf_for (a3 4 10).toNatClampNeg (f_G_fillBerths_4 M x0 i2 a2 i3 a3) (a3 193 (((64 : Int32) * (a2.1 + (1 : Int32))) + (Int32.ofNat i3)).toNatClampNeg))), none], [])) (h' := (zt_T L, zt_R, (zz_up a3 193 (((64 : Int32) * a2.1) + (Int32.ofNat i3)).toNatClampNeg (zf_for (a3 4 10).toNatClampNeg (f_G_fillBerths_4 M x0 i2 a2 i3 a3) (a3 193 (((64 : Int32) * (a2.1 + (1 : Int32))) + (Int32.ofNat i3)).toNatClampNeg))), J, e)) (fun _ => rfl)).trans ?_
          refine zz_weak (L := [some (.ref 192), some (.ref 4), some (.ref 2), none, some (.int a2.1), some (.int (Int32.ofNat i3 + 1)), none, none]) ⟨Or.inl rfl, Or.inl rfl, Or.inl rfl, Or.inl rfl, Or.inl rfl, Or.inl rfl, Or.inr ⟨rfl, rfl⟩, Or.inl rfl, trivial⟩ ?_
          rw [zi_succ i3]
          have y1 := hx11 (by simp only [g_G_fillBerths_3, h14, zk_t, zk_f, zb_t, zb_f])
          simpa only [g_G_fillBerths_3, h14, zk_t, zk_f, zb_t, zb_f] using y1
      show zz_D (zm_G_fillBerths, d + 5, 131, [some (.ref 192), some (.ref 4), some (.ref 2), none, some (.int a2.1), none, none, none], []) (zt_T L, zt_R, (zf_wh 1000 (g_G_fillBerths_3 M x0 i2 a2) 0 a2.2), J, e) = _
      refine (zz_go 2 (fr' := (zm_G_fillBerths, d + 5, 34, [some (.ref 192), some (.ref 4), some (.ref 2), none, some (.int (a2.1 + (-1 : Int32))), none, none, none], [])) (h' := (zt_T L, zt_R, (zf_wh 1000 (g_G_fillBerths_3 M x0 i2 a2) 0 a2.2), J, e)) (fun _ => rfl)).trans ?_
      have y1 := hx6 (by simp only [g_G_fillBerths_2, h9, zk_t, zk_f, zb_t, zb_f])
      simpa only [g_G_fillBerths_2, h9, zk_t, zk_f, zb_t, zb_f] using y1
  show zz_D (zm_G_fillBerths, d + 5, 137, [none, none, none, none, none, none, none, none], []) (zt_T L, zt_R, (zf_wh 1000 (g_G_fillBerths_2 M x0) 0 ((x0 - (1 : Int32)), (zf_for 64 (f_G_fillBerths_1 M x0) M))).2, J, e) = _
  refine (zz_end 1 (r := (.inl none, (zt_T L, zt_R, (zf_wh 1000 (g_G_fillBerths_2 M x0) 0 ((x0 - (1 : Int32)), (zf_for 64 (f_G_fillBerths_1 M x0) M))).2, J, e))) (fun _ => rfl)).trans ?_
  rfl
def v_G_berthsFilled (M : zMem) : Int32 := (M 193 0)
set_option maxRecDepth 20000 in
set_option maxHeartbeats 2000000 in
theorem s_G_berthsFilled (L e : Nat) (J : zJem) (d : Nat) (M : zMem) : zz_D (zm_G_berthsFilled, d + 1, 0, [some (.ref 192)], []) (zt_T L, zt_R, M, J, e) = some (.inl (some (.int (v_G_berthsFilled M))), (zt_T L, zt_R, M, J, e)) := by
  unfold v_G_berthsFilled
  refine (zz_go 1 (fr' := (zm_G_berthsFilled, d + 1, 1, [some (.ref 192)], [.ref 192])) (h' := (zt_T L, zt_R, M, J, e)) (fun _ => rfl)).trans ?_
  refine zl_getR rfl rfl rfl ?_
  refine (zz_go 1 (fr' := (zm_G_berthsFilled, d + 1, 5, [some (.ref 192)], [.int (0 : Int32), .ref 193])) (h' := (zt_T L, zt_R, M, J, e)) (fun _ => rfl)).trans ?_
  refine zl_iaload rfl rfl (by decide) rfl ?_
  refine zl_retI rfl rfl ?_
  rfl
def g_G_firstForBerth_1 (M : zMem) (x0 : Int32) (x1 : Int32) (x2 : Int32) (i1 : Nat) (a1 : Bool × Int32) : Bool × (Bool × Int32) := ((bif (decide ((M 4 10) ≤ (Int32.ofNat i1))) then false else (bif (decide ((v_G_filledWith M x0 x1 x2 (Int32.ofNat i1)) = (M 193 (((64 : Int32) * x1) + x2).toNatClampNeg))) then false else true)), ((bif (decide ((M 4 10) ≤ (Int32.ofNat i1))) then false else (decide ((v_G_filledWith M x0 x1 x2 (Int32.ofNat i1)) = (M 193 (((64 : Int32) * x1) + x2).toNatClampNeg)))), (bif (decide ((M 4 10) ≤ (Int32.ofNat i1))) then a1.2 else (bif (decide ((v_G_filledWith M x0 x1 x2 (Int32.ofNat i1)) = (M 193 (((64 : Int32) * x1) + x2).toNatClampNeg))) then (Int32.ofNat i1) else a1.2))))
def kb_G_firstForBerth_1 (M : zMem) (x0 : Int32) (x1 : Int32) (x2 : Int32) (i1 : Nat) (a1 : Bool × Int32) : Prop := ((decide ((M 4 10) ≤ (Int32.ofNat i1))) = false → ok_G_filledWith M x0 x1 x2 (Int32.ofNat i1))
def v_G_firstForBerth (M : zMem) (x0 : Int32) (x1 : Int32) (x2 : Int32) : Int32 := (bif (decide ((M 193 (((64 : Int32) * (x1 + (1 : Int32))) + x2).toNatClampNeg) = (M 193 (((64 : Int32) * x1) + x2).toNatClampNeg))) then (-1 : Int32) else (bif (zf_wh 1000 (g_G_firstForBerth_1 M x0 x1 x2) 0 (false, 0)).1 then (zf_wh 1000 (g_G_firstForBerth_1 M x0 x1 x2) 0 (false, 0)).2 else (-1 : Int32)))
def ok_G_firstForBerth (M : zMem) (x0 : Int32) (x1 : Int32) (x2 : Int32) : Prop := (zz_in (((64 : Int32) * x1) + x2) 448 = true ∧ (zz_in (((64 : Int32) * (x1 + (1 : Int32))) + x2) 448 = true ∧ ((decide ((M 193 (((64 : Int32) * (x1 + (1 : Int32))) + x2).toNatClampNeg) = (M 193 (((64 : Int32) * x1) + x2).toNatClampNeg))) = false → (zf_wk 1000 (g_G_firstForBerth_1 M x0 x1 x2) (kb_G_firstForBerth_1 M x0 x1 x2) 0 (false, 0)))))
set_option maxRecDepth 20000 in
set_option maxHeartbeats 2000000 in
theorem s_G_firstForBerth (L e : Nat) (J : zJem) (d : Nat) (M : zMem) (x0 : Int32) (x1 : Int32) (x2 : Int32) (k0 : ok_G_firstForBerth M x0 x1 x2) : zz_D (zm_G_firstForBerth, d + 5, 0, [some (.ref 192), some (.ref 4), some (.int x0), some (.int x1), some (.int x2), none, none], []) (zt_T L, zt_R, M, J, e) = some (.inl (some (.int (v_G_firstForBerth M x0 x1 x2))), (zt_T L, zt_R, M, J, e)) := by
  unfold ok_G_firstForBerth at k0
  unfold v_G_firstForBerth
  refine (zz_go 1 (fr' := (zm_G_firstForBerth, d + 5, 1, [some (.ref 192), some (.ref 4), some (.int x0), some (.int x1), some (.int x2), none, none], [.ref 192])) (h' := (zt_T L, zt_R, M, J, e)) (fun _ => rfl)).trans ?_
  refine zl_getR rfl rfl rfl ?_
  refine (zz_go 5 (fr' := (zm_G_firstForBerth, d + 5, 11, [some (.ref 192), some (.ref 4), some (.int x0), some (.int x1), some (.int x2), none, none], [.int (((64 : Int32) * x1) + x2), .ref 193])) (h' := (zt_T L, zt_R, M, J, e)) (fun _ => rfl)).trans ?_
  obtain ⟨g1, k2⟩ := k0
  refine zl_iaload rfl rfl g1 rfl ?_
  refine (zz_go 2 (fr' := (zm_G_firstForBerth, d + 5, 15, [some (.ref 192), some (.ref 4), some (.int x0), some (.int x1), some (.int x2), some (.int (M 193 (((64 : Int32) * x1) + x2).toNatClampNeg)), none], [.ref 192])) (h' := (zt_T L, zt_R, M, J, e)) (fun _ => rfl)).trans ?_
  refine zl_getR rfl rfl rfl ?_
  refine (zz_go 7 (fr' := (zm_G_firstForBerth, d + 5, 27, [some (.ref 192), some (.ref 4), some (.int x0), some (.int x1), some (.int x2), some (.int (M 193 (((64 : Int32) * x1) + x2).toNatClampNeg)), none], [.int (((64 : Int32) * (x1 + (1 : Int32))) + x2), .ref 193])) (h' := (zt_T L, zt_R, M, J, e)) (fun _ => rfl)).trans ?_
  obtain ⟨g3, k4⟩ := k2
  refine zl_iaload rfl rfl g3 rfl ?_
  refine (zz_go 1 (fr' := (zm_G_firstForBerth, d + 5, 30, [some (.ref 192), some (.ref 4), some (.int x0), some (.int x1), some (.int x2), some (.int (M 193 (((64 : Int32) * x1) + x2).toNatClampNeg)), none], [.int (M 193 (((64 : Int32) * x1) + x2).toNatClampNeg), .int (M 193 (((64 : Int32) * (x1 + (1 : Int32))) + x2).toNatClampNeg)])) (h' := (zt_T L, zt_R, M, J, e)) (fun _ => rfl)).trans ?_
  rcases zz_bc (decide ((M 193 (((64 : Int32) * (x1 + (1 : Int32))) + x2).toNatClampNeg) = (M 193 (((64 : Int32) * x1) + x2).toNatClampNeg))) with h5 | h5
  · refine zc_neT rfl h5 ?_
    refine (zz_go 1 (fr' := (zm_G_firstForBerth, d + 5, 34, [some (.ref 192), some (.ref 4), some (.int x0), some (.int x1), some (.int x2), some (.int (M 193 (((64 : Int32) * x1) + x2).toNatClampNeg)), none], [.int (-1 : Int32)])) (h' := (zt_T L, zt_R, M, J, e)) (fun _ => rfl)).trans ?_
    refine zl_retI rfl rfl ?_
    first | (simp only [h5, zk_t, zk_f, zb_t, zb_f]; done) | (simp only [h5, zk_t, zk_f, zb_t, zb_f]; rfl) | rfl
  · refine zc_neF rfl h5 ?_
    have k6 := k4 h5
    refine (zz_go 2 (fr' := (zm_G_firstForBerth, d + 5, 38, [some (.ref 192), some (.ref 4), some (.int x0), some (.int x1), some (.int x2), some (.int (M 193 (((64 : Int32) * x1) + x2).toNatClampNeg)), some (.int (0 : Int32))], [])) (h' := (zt_T L, zt_R, M, J, e)) (fun _ => rfl)).trans ?_
    refine zf_whY (X := fun (i1 : Nat) (a1 : Bool × Int32) => zz_D (zm_G_firstForBerth, d + 5, 38, [some (.ref 192), some (.ref 4), some (.int x0), some (.int x1), some (.int x2), some (.int (M 193 (((64 : Int32) * x1) + x2).toNatClampNeg)), some (.int (Int32.ofNat i1))], []) (zt_T L, zt_R, M, J, e)) (Y := fun (a1 : Bool × Int32) => (bif a1.1 then some (.inl (some (.int a1.2)), (zt_T L, zt_R, M, J, e)) else zz_D (zm_G_firstForBerth, d + 5, 72, [none, none, none, none, none, none, none], []) (zt_T L, zt_R, M, J, e))) (g := (g_G_firstForBerth_1 M x0 x1 x2)) (k := (kb_G_firstForBerth_1 M x0 x1 x2)) (fun i1 a1 k9 hx7 hx8 => ?_) 1000 0 (false, 0) k6 ?_
    · show zz_D (zm_G_firstForBerth, d + 5, 38, [some (.ref 192), some (.ref 4), some (.int x0), some (.int x1), some (.int x2), some (.int (M 193 (((64 : Int32) * x1) + x2).toNatClampNeg)), some (.int (Int32.ofNat i1))], []) (zt_T L, zt_R, M, J, e) = _
      unfold kb_G_firstForBerth_1 at k9
      refine (zz_go 2 (fr' := (zm_G_firstForBerth, d + 5, 41, [some (.ref 192), some (.ref 4), some (.int x0), some (.int x1), some (.int x2), some (.int (M 193 (((64 : Int32) * x1) + x2).toNatClampNeg)), some (.int (Int32.ofNat i1))], [.ref 4, .int (Int32.ofNat i1)])) (h' := (zt_T L, zt_R, M, J, e)) (fun _ => rfl)).trans ?_
      refine zl_getI rfl (by decide) rfl rfl ?_
      rcases zz_bc (decide ((M 4 10) ≤ (Int32.ofNat i1))) with h10 | h10
      · refine zc_geT rfl h10 ?_
        refine zz_weak (L := [none, none, none, none, none, none, none]) ⟨Or.inr ⟨rfl, rfl⟩, Or.inr ⟨rfl, rfl⟩, Or.inr ⟨rfl, rfl⟩, Or.inr ⟨rfl, rfl⟩, Or.inr ⟨rfl, rfl⟩, Or.inr ⟨rfl, rfl⟩, Or.inr ⟨rfl, rfl⟩, trivial⟩ ?_
        have y1 := hx8 (by simp only [g_G_firstForBerth_1, h10, zk_t, zk_f, zb_t, zb_f])
        simpa only [g_G_firstForBerth_1, h10, zk_t, zk_f, zb_t, zb_f] using y1
      · refine zc_geF rfl h10 ?_
        have k11 := k9 h10
        refine (zz_go 6 (fr' := (zm_G_firstForBerth, d + 5, 55, [some (.ref 192), some (.ref 4), some (.int x0), some (.int x1), some (.int x2), some (.int (M 193 (((64 : Int32) * x1) + x2).toNatClampNeg)), some (.int (Int32.ofNat i1))], [.int (Int32.ofNat i1), .int x2, .int x1, .int x0, .ref 4, .ref 192])) (h' := (zt_T L, zt_R, M, J, e)) (fun _ => rfl)).trans ?_
        have g12 : ok_G_filledWith M x0 x1 x2 (Int32.ofNat i1) := k11
        refine zl_vt (d := d + 4) rfl rfl rfl rfl rfl rfl rfl rfl rfl rfl (s_G_filledWith L e J (d + 0) M x0 x1 x2 (Int32.ofNat i1) g12) ?_
        show zz_D (zm_G_firstForBerth, d + 5, 58, [some (.ref 192), some (.ref 4), some (.int x0), some (.int x1), some (.int x2), some (.int (M 193 (((64 : Int32) * x1) + x2).toNatClampNeg)), some (.int (Int32.ofNat i1))], [.int (v_G_filledWith M x0 x1 x2 (Int32.ofNat i1))]) (zt_T L, zt_R, M, J, e) = _
        refine (zz_go 1 (fr' := (zm_G_firstForBerth, d + 5, 60, [some (.ref 192), some (.ref 4), some (.int x0), some (.int x1), some (.int x2), some (.int (M 193 (((64 : Int32) * x1) + x2).toNatClampNeg)), some (.int (Int32.ofNat i1))], [.int (M 193 (((64 : Int32) * x1) + x2).toNatClampNeg), .int (v_G_filledWith M x0 x1 x2 (Int32.ofNat i1))])) (h' := (zt_T L, zt_R, M, J, e)) (fun _ => rfl)).trans ?_
        rcases zz_bc (decide ((v_G_filledWith M x0 x1 x2 (Int32.ofNat i1)) = (M 193 (((64 : Int32) * x1) + x2).toNatClampNeg))) with h13 | h13
        · refine zc_neT rfl h13 ?_
          refine (zz_go 1 (fr' := (zm_G_firstForBerth, d + 5, 65, [some (.ref 192), some (.ref 4), some (.int x0), some (.int x1), some (.int x2), some (.int (M 193 (((64 : Int32) * x1) + x2).toNatClampNeg)), some (.int (Int32.ofNat i1))], [.int (Int32.ofNat i1)])) (h' := (zt_T L, zt_R, M, J, e)) (fun _ => rfl)).trans ?_
          refine zl_retI rfl rfl ?_
          have y1 := hx8 (by simp only [g_G_firstForBerth_1, h10, h13, zk_t, zk_f, zb_t, zb_f])
          simpa only [g_G_firstForBerth_1, h10, h13, zk_t, zk_f, zb_t, zb_f] using y1
        · refine zc_neF rfl h13 ?_
          refine (zz_go 2 (fr' := (zm_G_firstForBerth, d + 5, 38, [some (.ref 192), some (.ref 4), some (.int x0), some (.int x1), some (.int x2), some (.int (M 193 (((64 : Int32) * x1) + x2).toNatClampNeg)), some (.int (Int32.ofNat i1 + 1))], [])) (h' := (zt_T L, zt_R, M, J, e)) (fun _ => rfl)).trans ?_
          rw [zi_succ i1]
          have y1 := hx7 (by simp only [g_G_firstForBerth_1, h10, h13, zk_t, zk_f, zb_t, zb_f])
          simpa only [g_G_firstForBerth_1, h10, h13, zk_t, zk_f, zb_t, zb_f] using y1
    show (bif (zf_wh 1000 (g_G_firstForBerth_1 M x0 x1 x2) 0 (false, 0)).1 then some (.inl (some (.int (zf_wh 1000 (g_G_firstForBerth_1 M x0 x1 x2) 0 (false, 0)).2)), (zt_T L, zt_R, M, J, e)) else zz_D (zm_G_firstForBerth, d + 5, 72, [none, none, none, none, none, none, none], []) (zt_T L, zt_R, M, J, e)) = _
    refine zz_ec (fun h14 => ?_) (fun h14 => ?_)
    · skip
      first | (simp only [h5, h14, zk_t, zk_f, zb_t, zb_f]; done) | (simp only [h5, h14, zk_t, zk_f, zb_t, zb_f]; rfl) | rfl
    refine (zz_go 1 (fr' := (zm_G_firstForBerth, d + 5, 73, [none, none, none, none, none, none, none], [.int (-1 : Int32)])) (h' := (zt_T L, zt_R, M, J, e)) (fun _ => rfl)).trans ?_
    refine zl_retI rfl rfl ?_
    first | (simp only [h5, h14, zk_t, zk_f, zb_t, zb_f]; done) | (simp only [h5, h14, zk_t, zk_f, zb_t, zb_f]; rfl) | rfl
def g_G_berthPerson_1 (M : zMem) (x0 : Int32) (x1 : Int32) (i1 : Nat) (a1 : Int32 × Bool × Int32) : Bool × (Int32 × Bool × Int32) := ((bif (decide (x0 ≤ (Int32.ofNat i1))) then false else (bif (decide ((Int32.ofNat i1) = x1)) then false else true)), ((bif (decide (x0 ≤ (Int32.ofNat i1))) then a1.1 else (bif (decide ((Int32.ofNat i1) = x1)) then a1.1 else (bif (decide ((v_G_firstForBerth M (v_T_byteAt M (Int32.ofNat i1)) (Int32.ofNat i1) a1.1) = (-1 : Int32))) then a1.1 else (a1.1 ||| (zsl (1 : Int32) (v_G_firstForBerth M (v_T_byteAt M (Int32.ofNat i1)) (Int32.ofNat i1) a1.1)))))), (bif (decide (x0 ≤ (Int32.ofNat i1))) then false else (decide ((Int32.ofNat i1) = x1))), (bif (decide (x0 ≤ (Int32.ofNat i1))) then a1.2.2 else (bif (decide ((Int32.ofNat i1) = x1)) then (v_G_firstForBerth M (v_T_byteAt M (Int32.ofNat i1)) (Int32.ofNat i1) a1.1) else a1.2.2))))
def kb_G_berthPerson_1 (M : zMem) (x0 : Int32) (x1 : Int32) (i1 : Nat) (a1 : Int32 × Bool × Int32) : Prop := ((decide (x0 ≤ (Int32.ofNat i1))) = false → (ok_T_byteAt M (Int32.ofNat i1) ∧ ok_G_firstForBerth M (v_T_byteAt M (Int32.ofNat i1)) (Int32.ofNat i1) a1.1))
def v_G_berthPerson (M : zMem) (x0 : Int32) (x1 : Int32) : Int32 := (bif (zf_wh 1000 (g_G_berthPerson_1 M x0 x1) 0 ((0 : Int32), false, 0)).2.1 then (zf_wh 1000 (g_G_berthPerson_1 M x0 x1) 0 ((0 : Int32), false, 0)).2.2 else (-1 : Int32))
def ok_G_berthPerson (M : zMem) (x0 : Int32) (x1 : Int32) : Prop := (zf_wk 1000 (g_G_berthPerson_1 M x0 x1) (kb_G_berthPerson_1 M x0 x1) 0 ((0 : Int32), false, 0))
set_option maxRecDepth 20000 in
set_option maxHeartbeats 2000000 in
theorem s_G_berthPerson (L e : Nat) (J : zJem) (d : Nat) (M : zMem) (x0 : Int32) (x1 : Int32) (k0 : ok_G_berthPerson M x0 x1) : zz_D (zm_G_berthPerson, d + 6, 0, [some (.ref 192), some (.ref 4), some (.ref 2), some (.int x0), some (.int x1), none, none, none], []) (zt_T L, zt_R, M, J, e) = some (.inl (some (.int (v_G_berthPerson M x0 x1))), (zt_T L, zt_R, M, J, e)) := by
  unfold ok_G_berthPerson at k0
  unfold v_G_berthPerson
  refine (zz_go 4 (fr' := (zm_G_berthPerson, d + 6, 6, [some (.ref 192), some (.ref 4), some (.ref 2), some (.int x0), some (.int x1), some (.int (0 : Int32)), some (.int (0 : Int32)), none], [])) (h' := (zt_T L, zt_R, M, J, e)) (fun _ => rfl)).trans ?_
  refine zf_whY (X := fun (i1 : Nat) (a1 : Int32 × Bool × Int32) => zz_D (zm_G_berthPerson, d + 6, 6, [some (.ref 192), some (.ref 4), some (.ref 2), some (.int x0), some (.int x1), some (.int a1.1), some (.int (Int32.ofNat i1)), none], []) (zt_T L, zt_R, M, J, e)) (Y := fun (a1 : Int32 × Bool × Int32) => (bif a1.2.1 then some (.inl (some (.int a1.2.2)), (zt_T L, zt_R, M, J, e)) else zz_D (zm_G_berthPerson, d + 6, 60, [none, none, none, none, none, none, none, none], []) (zt_T L, zt_R, M, J, e))) (g := (g_G_berthPerson_1 M x0 x1)) (k := (kb_G_berthPerson_1 M x0 x1)) (fun i1 a1 k3 hx1 hx2 => ?_) 1000 0 ((0 : Int32), false, 0) k0 ?_
  · show zz_D (zm_G_berthPerson, d + 6, 6, [some (.ref 192), some (.ref 4), some (.ref 2), some (.int x0), some (.int x1), some (.int a1.1), some (.int (Int32.ofNat i1)), none], []) (zt_T L, zt_R, M, J, e) = _
    unfold kb_G_berthPerson_1 at k3
    refine (zz_go 2 (fr' := (zm_G_berthPerson, d + 6, 9, [some (.ref 192), some (.ref 4), some (.ref 2), some (.int x0), some (.int x1), some (.int a1.1), some (.int (Int32.ofNat i1)), none], [.int x0, .int (Int32.ofNat i1)])) (h' := (zt_T L, zt_R, M, J, e)) (fun _ => rfl)).trans ?_
    rcases zz_bc (decide (x0 ≤ (Int32.ofNat i1))) with h4 | h4
    · refine zc_geT rfl h4 ?_
      refine zz_weak (L := [none, none, none, none, none, none, none, none]) ⟨Or.inr ⟨rfl, rfl⟩, Or.inr ⟨rfl, rfl⟩, Or.inr ⟨rfl, rfl⟩, Or.inr ⟨rfl, rfl⟩, Or.inr ⟨rfl, rfl⟩, Or.inr ⟨rfl, rfl⟩, Or.inr ⟨rfl, rfl⟩, Or.inl rfl, trivial⟩ ?_
      have y1 := hx2 (by simp only [g_G_berthPerson_1, h4, zk_t, zk_f, zb_t, zb_f])
      simpa only [g_G_berthPerson_1, h4, zk_t, zk_f, zb_t, zb_f] using y1
    · refine zc_geF rfl h4 ?_
      have k5 := k3 h4
      refine (zz_go 4 (fr' := (zm_G_berthPerson, d + 6, 17, [some (.ref 192), some (.ref 4), some (.ref 2), some (.int x0), some (.int x1), some (.int a1.1), some (.int (Int32.ofNat i1)), none], [.int (Int32.ofNat i1), .ref 2, .ref 4, .ref 192])) (h' := (zt_T L, zt_R, M, J, e)) (fun _ => rfl)).trans ?_
      obtain ⟨g6, k7⟩ := k5
      refine zl_vt (d := d + 5) rfl rfl rfl rfl rfl rfl rfl rfl rfl rfl (s_T_byteAt L e J (d + 4) M (Int32.ofNat i1) g6) ?_
      show zz_D (zm_G_berthPerson, d + 6, 20, [some (.ref 192), some (.ref 4), some (.ref 2), some (.int x0), some (.int x1), some (.int a1.1), some (.int (Int32.ofNat i1)), none], [.int (v_T_byteAt M (Int32.ofNat i1)), .ref 4, .ref 192]) (zt_T L, zt_R, M, J, e) = _
      refine (zz_go 2 (fr' := (zm_G_berthPerson, d + 6, 24, [some (.ref 192), some (.ref 4), some (.ref 2), some (.int x0), some (.int x1), some (.int a1.1), some (.int (Int32.ofNat i1)), none], [.int a1.1, .int (Int32.ofNat i1), .int (v_T_byteAt M (Int32.ofNat i1)), .ref 4, .ref 192])) (h' := (zt_T L, zt_R, M, J, e)) (fun _ => rfl)).trans ?_
      have g8 : ok_G_firstForBerth M (v_T_byteAt M (Int32.ofNat i1)) (Int32.ofNat i1) a1.1 := k7
      refine zl_vt (d := d + 5) rfl rfl rfl rfl rfl rfl rfl rfl rfl rfl (s_G_firstForBerth L e J (d + 0) M (v_T_byteAt M (Int32.ofNat i1)) (Int32.ofNat i1) a1.1 g8) ?_
      show zz_D (zm_G_berthPerson, d + 6, 27, [some (.ref 192), some (.ref 4), some (.ref 2), some (.int x0), some (.int x1), some (.int a1.1), some (.int (Int32.ofNat i1)), none], [.int (v_G_firstForBerth M (v_T_byteAt M (Int32.ofNat i1)) (Int32.ofNat i1) a1.1)]) (zt_T L, zt_R, M, J, e) = _
      refine (zz_go 3 (fr' := (zm_G_berthPerson, d + 6, 33, [some (.ref 192), some (.ref 4), some (.ref 2), some (.int x0), some (.int x1), some (.int a1.1), some (.int (Int32.ofNat i1)), some (.int (v_G_firstForBerth M (v_T_byteAt M (Int32.ofNat i1)) (Int32.ofNat i1) a1.1))], [.int x1, .int (Int32.ofNat i1)])) (h' := (zt_T L, zt_R, M, J, e)) (fun _ => rfl)).trans ?_
      rcases zz_bc (decide ((Int32.ofNat i1) = x1)) with h9 | h9
      · refine zc_neT rfl h9 ?_
        refine (zz_go 1 (fr' := (zm_G_berthPerson, d + 6, 38, [some (.ref 192), some (.ref 4), some (.ref 2), some (.int x0), some (.int x1), some (.int a1.1), some (.int (Int32.ofNat i1)), some (.int (v_G_firstForBerth M (v_T_byteAt M (Int32.ofNat i1)) (Int32.ofNat i1) a1.1))], [.int (v_G_firstForBerth M (v_T_byteAt M (Int32.ofNat i1)) (Int32.ofNat i1) a1.1)])) (h' := (zt_T L, zt_R, M, J, e)) (fun _ => rfl)).trans ?_
        refine zl_retI rfl rfl ?_
        have y1 := hx2 (by simp only [g_G_berthPerson_1, h4, h9, zk_t, zk_f, zb_t, zb_f])
        simpa only [g_G_berthPerson_1, h4, h9, zk_t, zk_f, zb_t, zb_f] using y1
      · refine zc_neF rfl h9 ?_
        refine zz_jn (X := zz_D (zm_G_berthPerson, d + 6, 54, [some (.ref 192), some (.ref 4), some (.ref 2), some (.int x0), some (.int x1), some (.int (bif (decide ((v_G_firstForBerth M (v_T_byteAt M (Int32.ofNat i1)) (Int32.ofNat i1) a1.1) = (-1 : Int32))) then a1.1 else (a1.1 ||| (zsl (1 : Int32) (v_G_firstForBerth M (v_T_byteAt M (Int32.ofNat i1)) (Int32.ofNat i1) a1.1))))), some (.int (Int32.ofNat i1)), none], []) (zt_T L, zt_R, M, J, e)) (fun j10 => ?_) ?_
        · refine (zz_go 2 (fr' := (zm_G_berthPerson, d + 6, 42, [some (.ref 192), some (.ref 4), some (.ref 2), some (.int x0), some (.int x1), some (.int a1.1), some (.int (Int32.ofNat i1)), some (.int (v_G_firstForBerth M (v_T_byteAt M (Int32.ofNat i1)) (Int32.ofNat i1) a1.1))], [.int (-1 : Int32), .int (v_G_firstForBerth M (v_T_byteAt M (Int32.ofNat i1)) (Int32.ofNat i1) a1.1)])) (h' := (zt_T L, zt_R, M, J, e)) (fun _ => rfl)).trans ?_
          rcases zz_bc (decide ((v_G_firstForBerth M (v_T_byteAt M (Int32.ofNat i1)) (Int32.ofNat i1) a1.1) = (-1 : Int32))) with h11 | h11
          · refine zc_eqT rfl h11 ?_
            refine zz_weak (L := [some (.ref 192), some (.ref 4), some (.ref 2), some (.int x0), some (.int x1), some (.int a1.1), some (.int (Int32.ofNat i1)), none]) ⟨Or.inl rfl, Or.inl rfl, Or.inl rfl, Or.inl rfl, Or.inl rfl, Or.inl rfl, Or.inl rfl, Or.inr ⟨rfl, rfl⟩, trivial⟩ ?_
            simpa only [h11, zk_t, zk_f, zb_t, zb_f] using j10
          · refine zc_eqF rfl h11 ?_
            refine (zz_go 6 (fr' := (zm_G_berthPerson, d + 6, 54, [some (.ref 192), some (.ref 4), some (.ref 2), some (.int x0), some (.int x1), some (.int (a1.1 ||| (zsl (1 : Int32) (v_G_firstForBerth M (v_T_byteAt M (Int32.ofNat i1)) (Int32.ofNat i1) a1.1)))), some (.int (Int32.ofNat i1)), some (.int (v_G_firstForBerth M (v_T_byteAt M (Int32.ofNat i1)) (Int32.ofNat i1) a1.1))], [])) (h' := (zt_T L, zt_R, M, J, e)) (fun _ => rfl)).trans ?_
            refine zz_weak (L := [some (.ref 192), some (.ref 4), some (.ref 2), some (.int x0), some (.int x1), some (.int (a1.1 ||| (zsl (1 : Int32) (v_G_firstForBerth M (v_T_byteAt M (Int32.ofNat i1)) (Int32.ofNat i1) a1.1)))), some (.int (Int32.ofNat i1)), none]) ⟨Or.inl rfl, Or.inl rfl, Or.inl rfl, Or.inl rfl, Or.inl rfl, Or.inl rfl, Or.inl rfl, Or.inr ⟨rfl, rfl⟩, trivial⟩ ?_
            simpa only [h11, zk_t, zk_f, zb_t, zb_f] using j10
        refine (zz_go 2 (fr' := (zm_G_berthPerson, d + 6, 6, [some (.ref 192), some (.ref 4), some (.ref 2), some (.int x0), some (.int x1), some (.int (bif (decide ((v_G_firstForBerth M (v_T_byteAt M (Int32.ofNat i1)) (Int32.ofNat i1) a1.1) = (-1 : Int32))) then a1.1 else (a1.1 ||| (zsl (1 : Int32) (v_G_firstForBerth M (v_T_byteAt M (Int32.ofNat i1)) (Int32.ofNat i1) a1.1))))), some (.int (Int32.ofNat i1 + 1)), none], [])) (h' := (zt_T L, zt_R, M, J, e)) (fun _ => rfl)).trans ?_
        rw [zi_succ i1]
        have y1 := hx1 (by simp only [g_G_berthPerson_1, h4, h9, zk_t, zk_f, zb_t, zb_f])
        simpa only [g_G_berthPerson_1, h4, h9, zk_t, zk_f, zb_t, zb_f] using y1
  show (bif (zf_wh 1000 (g_G_berthPerson_1 M x0 x1) 0 ((0 : Int32), false, 0)).2.1 then some (.inl (some (.int (zf_wh 1000 (g_G_berthPerson_1 M x0 x1) 0 ((0 : Int32), false, 0)).2.2)), (zt_T L, zt_R, M, J, e)) else zz_D (zm_G_berthPerson, d + 6, 60, [none, none, none, none, none, none, none, none], []) (zt_T L, zt_R, M, J, e)) = _
  refine zz_ec (fun h12 => ?_) (fun h12 => ?_)
  · skip
    first | (simp only [h12, zk_t, zk_f, zb_t, zb_f]; done) | (simp only [h12, zk_t, zk_f, zb_t, zb_f]; rfl) | rfl
  refine (zz_go 1 (fr' := (zm_G_berthPerson, d + 6, 61, [none, none, none, none, none, none, none, none], [.int (-1 : Int32)])) (h' := (zt_T L, zt_R, M, J, e)) (fun _ => rfl)).trans ?_
  refine zl_retI rfl rfl ?_
  first | (simp only [h12, zk_t, zk_f, zb_t, zb_f]; done) | (simp only [h12, zk_t, zk_f, zb_t, zb_f]; rfl) | rfl
def g_G_firstUnsettled_1 (x0 : Int32) (i1 : Nat) (a1 : Int32) : Bool × (Int32) := ((bif (decide ((5 : Int32) ≤ a1)) then false else (bif (decide (((zsr x0 a1) &&& (1 : Int32)) = 0)) then false else true)), (bif (decide ((5 : Int32) ≤ a1)) then a1 else (bif (decide (((zsr x0 a1) &&& (1 : Int32)) = 0)) then a1 else (a1 + (1 : Int32)))))
def kb_G_firstUnsettled_1 (x0 : Int32) (i1 : Nat) (a1 : Int32) : Prop := True
def v_G_firstUnsettled (x0 : Int32) : Int32 := (zf_wh 1000 (g_G_firstUnsettled_1 x0) 0 (0 : Int32))
def ok_G_firstUnsettled (x0 : Int32) : Prop := (zf_wk 1000 (g_G_firstUnsettled_1 x0) (kb_G_firstUnsettled_1 x0) 0 (0 : Int32))
set_option maxRecDepth 20000 in
set_option maxHeartbeats 2000000 in
theorem s_G_firstUnsettled (L e : Nat) (J : zJem) (d : Nat) {M : zMem} (x0 : Int32) (k0 : ok_G_firstUnsettled x0) : zz_D (zm_G_firstUnsettled, d + 1, 0, [some (.int x0), none], []) (zt_T L, zt_R, M, J, e) = some (.inl (some (.int (v_G_firstUnsettled x0))), (zt_T L, zt_R, M, J, e)) := by
  unfold ok_G_firstUnsettled at k0
  unfold v_G_firstUnsettled
  refine (zz_go 2 (fr' := (zm_G_firstUnsettled, d + 1, 2, [some (.int x0), some (.int (0 : Int32))], [])) (h' := (zt_T L, zt_R, M, J, e)) (fun _ => rfl)).trans ?_
  refine zf_whY (X := fun (i1 : Nat) (a1 : Int32) => zz_D (zm_G_firstUnsettled, d + 1, 2, [some (.int x0), some (.int a1)], []) (zt_T L, zt_R, M, J, e)) (Y := fun (a1 : Int32) => zz_D (zm_G_firstUnsettled, d + 1, 21, [none, some (.int a1)], []) (zt_T L, zt_R, M, J, e)) (g := (g_G_firstUnsettled_1 x0)) (k := (kb_G_firstUnsettled_1 x0)) (fun i1 a1 k3 hx1 hx2 => ?_) 1000 0 (0 : Int32) k0 ?_
  · show zz_D (zm_G_firstUnsettled, d + 1, 2, [some (.int x0), some (.int a1)], []) (zt_T L, zt_R, M, J, e) = _
    unfold kb_G_firstUnsettled_1 at k3
    refine (zz_go 2 (fr' := (zm_G_firstUnsettled, d + 1, 4, [some (.int x0), some (.int a1)], [.int (5 : Int32), .int a1])) (h' := (zt_T L, zt_R, M, J, e)) (fun _ => rfl)).trans ?_
    rcases zz_bc (decide ((5 : Int32) ≤ a1)) with h4 | h4
    · refine zc_geT rfl h4 ?_
      refine zz_weak (L := [none, some (.int a1)]) ⟨Or.inr ⟨rfl, rfl⟩, Or.inl rfl, trivial⟩ ?_
      have y1 := hx2 (by simp only [g_G_firstUnsettled_1, h4, zk_t, zk_f, zb_t, zb_f])
      simpa only [g_G_firstUnsettled_1, h4, zk_t, zk_f, zb_t, zb_f] using y1
    · refine zc_geF rfl h4 ?_
      refine (zz_go 5 (fr' := (zm_G_firstUnsettled, d + 1, 12, [some (.int x0), some (.int a1)], [.int ((zsr x0 a1) &&& (1 : Int32))])) (h' := (zt_T L, zt_R, M, J, e)) (fun _ => rfl)).trans ?_
      rcases zz_bc (decide (((zsr x0 a1) &&& (1 : Int32)) = 0)) with h5 | h5
      · refine zo_eqT rfl h5 ?_
        refine zz_weak (L := [none, some (.int a1)]) ⟨Or.inr ⟨rfl, rfl⟩, Or.inl rfl, trivial⟩ ?_
        have y1 := hx2 (by simp only [g_G_firstUnsettled_1, h4, h5, zk_t, zk_f, zb_t, zb_f])
        simpa only [g_G_firstUnsettled_1, h4, h5, zk_t, zk_f, zb_t, zb_f] using y1
      · refine zo_eqF rfl h5 ?_
        refine (zz_go 2 (fr' := (zm_G_firstUnsettled, d + 1, 2, [some (.int x0), some (.int (a1 + (1 : Int32)))], [])) (h' := (zt_T L, zt_R, M, J, e)) (fun _ => rfl)).trans ?_
        have y1 := hx1 (by simp only [g_G_firstUnsettled_1, h4, h5, zk_t, zk_f, zb_t, zb_f])
        simpa only [g_G_firstUnsettled_1, h4, h5, zk_t, zk_f, zb_t, zb_f] using y1
  show zz_D (zm_G_firstUnsettled, d + 1, 21, [none, some (.int (zf_wh 1000 (g_G_firstUnsettled_1 x0) 0 (0 : Int32)))], []) (zt_T L, zt_R, M, J, e) = _
  refine (zz_go 1 (fr' := (zm_G_firstUnsettled, d + 1, 22, [none, some (.int (zf_wh 1000 (g_G_firstUnsettled_1 x0) 0 (0 : Int32)))], [.int (zf_wh 1000 (g_G_firstUnsettled_1 x0) 0 (0 : Int32))])) (h' := (zt_T L, zt_R, M, J, e)) (fun _ => rfl)).trans ?_
  refine zl_retI rfl rfl ?_
  rfl
def v_G_gainedWith (M : zMem) (x0 : Int32) (x1 : Int32) (x2 : Int32) : Int32 := (bif (decide ((x0 &&& ((zsl (1 : Int32) x1) ||| (zsl (1 : Int32) x2))) = 0)) then ((v_ji_bitCount ((v_S_deedsHad M 4 x1) ^^^ (v_S_deedsHad M 4 x2))) + (M 193 (x0 ||| ((zsl (1 : Int32) x1) ||| (zsl (1 : Int32) x2))).toNatClampNeg)) else (-1 : Int32))
def ok_G_gainedWith (M : zMem) (x0 : Int32) (x1 : Int32) (x2 : Int32) : Prop := ((decide ((x0 &&& ((zsl (1 : Int32) x1) ||| (zsl (1 : Int32) x2))) = 0)) = true → (ok_S_deedsHad M 4 x1 ∧ (ok_S_deedsHad M 4 x2 ∧ zz_in (x0 ||| ((zsl (1 : Int32) x1) ||| (zsl (1 : Int32) x2))) 448 = true)))
set_option maxRecDepth 20000 in
set_option maxHeartbeats 2000000 in
theorem s_G_gainedWith (L e : Nat) (J : zJem) (d : Nat) (M : zMem) (x0 : Int32) (x1 : Int32) (x2 : Int32) (k0 : ok_G_gainedWith M x0 x1 x2) : zz_D (zm_G_gainedWith, d + 4, 0, [some (.ref 192), some (.ref 4), some (.int x0), some (.int x1), some (.int x2), none, none], []) (zt_T L, zt_R, M, J, e) = some (.inl (some (.int (v_G_gainedWith M x0 x1 x2))), (zt_T L, zt_R, M, J, e)) := by
  unfold ok_G_gainedWith at k0
  unfold v_G_gainedWith
  refine (zz_go 11 (fr' := (zm_G_gainedWith, d + 4, 14, [some (.ref 192), some (.ref 4), some (.int x0), some (.int x1), some (.int x2), some (.int ((zsl (1 : Int32) x1) ||| (zsl (1 : Int32) x2))), none], [.int (x0 &&& ((zsl (1 : Int32) x1) ||| (zsl (1 : Int32) x2)))])) (h' := (zt_T L, zt_R, M, J, e)) (fun _ => rfl)).trans ?_
  rcases zz_bc (decide ((x0 &&& ((zsl (1 : Int32) x1) ||| (zsl (1 : Int32) x2))) = 0)) with h1 | h1
  · refine zo_eqT rfl h1 ?_
    have k2 := k0 h1
    refine (zz_go 2 (fr' := (zm_G_gainedWith, d + 4, 21, [some (.ref 192), some (.ref 4), some (.int x0), some (.int x1), some (.int x2), some (.int ((zsl (1 : Int32) x1) ||| (zsl (1 : Int32) x2))), none], [.int x1, .ref 4])) (h' := (zt_T L, zt_R, M, J, e)) (fun _ => rfl)).trans ?_
    obtain ⟨g3, k4⟩ := k2
    refine zl_vt (d := d + 3) rfl rfl rfl rfl rfl rfl rfl rfl rfl rfl (s_S_deedsHad L e J (d + 0) M 4 x1 zt_St_4 g3) ?_
    show zz_D (zm_G_gainedWith, d + 4, 24, [some (.ref 192), some (.ref 4), some (.int x0), some (.int x1), some (.int x2), some (.int ((zsl (1 : Int32) x1) ||| (zsl (1 : Int32) x2))), none], [.int (v_S_deedsHad M 4 x1)]) (zt_T L, zt_R, M, J, e) = _
    refine (zz_go 2 (fr' := (zm_G_gainedWith, d + 4, 27, [some (.ref 192), some (.ref 4), some (.int x0), some (.int x1), some (.int x2), some (.int ((zsl (1 : Int32) x1) ||| (zsl (1 : Int32) x2))), none], [.int x2, .ref 4, .int (v_S_deedsHad M 4 x1)])) (h' := (zt_T L, zt_R, M, J, e)) (fun _ => rfl)).trans ?_
    obtain ⟨g5, k6⟩ := k4
    refine zl_vt (d := d + 3) rfl rfl rfl rfl rfl rfl rfl rfl rfl rfl (s_S_deedsHad L e J (d + 0) M 4 x2 zt_St_4 g5) ?_
    show zz_D (zm_G_gainedWith, d + 4, 30, [some (.ref 192), some (.ref 4), some (.int x0), some (.int x1), some (.int x2), some (.int ((zsl (1 : Int32) x1) ||| (zsl (1 : Int32) x2))), none], [.int (v_S_deedsHad M 4 x2), .int (v_S_deedsHad M 4 x1)]) (zt_T L, zt_R, M, J, e) = _
    refine (zz_go 3 (fr' := (zm_G_gainedWith, d + 4, 35, [some (.ref 192), some (.ref 4), some (.int x0), some (.int x1), some (.int x2), some (.int ((zsl (1 : Int32) x1) ||| (zsl (1 : Int32) x2))), some (.int ((v_S_deedsHad M 4 x1) ^^^ (v_S_deedsHad M 4 x2)))], [.int ((v_S_deedsHad M 4 x1) ^^^ (v_S_deedsHad M 4 x2))])) (h' := (zt_T L, zt_R, M, J, e)) (fun _ => rfl)).trans ?_
    refine zl_st (d := d + 3) rfl rfl rfl rfl rfl rfl rfl (s_ji_bitCount L e J (d + 2) ((v_S_deedsHad M 4 x1) ^^^ (v_S_deedsHad M 4 x2))) ?_
    show zz_D (zm_G_gainedWith, d + 4, 38, [some (.ref 192), some (.ref 4), some (.int x0), some (.int x1), some (.int x2), some (.int ((zsl (1 : Int32) x1) ||| (zsl (1 : Int32) x2))), some (.int ((v_S_deedsHad M 4 x1) ^^^ (v_S_deedsHad M 4 x2)))], [.int (v_ji_bitCount ((v_S_deedsHad M 4 x1) ^^^ (v_S_deedsHad M 4 x2)))]) (zt_T L, zt_R, M, J, e) = _
    refine (zz_go 1 (fr' := (zm_G_gainedWith, d + 4, 39, [some (.ref 192), some (.ref 4), some (.int x0), some (.int x1), some (.int x2), some (.int ((zsl (1 : Int32) x1) ||| (zsl (1 : Int32) x2))), some (.int ((v_S_deedsHad M 4 x1) ^^^ (v_S_deedsHad M 4 x2)))], [.ref 192, .int (v_ji_bitCount ((v_S_deedsHad M 4 x1) ^^^ (v_S_deedsHad M 4 x2)))])) (h' := (zt_T L, zt_R, M, J, e)) (fun _ => rfl)).trans ?_
    refine zl_getR rfl rfl rfl ?_
    refine (zz_go 3 (fr' := (zm_G_gainedWith, d + 4, 46, [some (.ref 192), some (.ref 4), some (.int x0), some (.int x1), some (.int x2), some (.int ((zsl (1 : Int32) x1) ||| (zsl (1 : Int32) x2))), some (.int ((v_S_deedsHad M 4 x1) ^^^ (v_S_deedsHad M 4 x2)))], [.int (x0 ||| ((zsl (1 : Int32) x1) ||| (zsl (1 : Int32) x2))), .ref 193, .int (v_ji_bitCount ((v_S_deedsHad M 4 x1) ^^^ (v_S_deedsHad M 4 x2)))])) (h' := (zt_T L, zt_R, M, J, e)) (fun _ => rfl)).trans ?_
    have g7 : zz_in (x0 ||| ((zsl (1 : Int32) x1) ||| (zsl (1 : Int32) x2))) 448 = true := k6
    refine zl_iaload rfl rfl g7 rfl ?_
    refine (zz_go 1 (fr' := (zm_G_gainedWith, d + 4, 48, [some (.ref 192), some (.ref 4), some (.int x0), some (.int x1), some (.int x2), some (.int ((zsl (1 : Int32) x1) ||| (zsl (1 : Int32) x2))), some (.int ((v_S_deedsHad M 4 x1) ^^^ (v_S_deedsHad M 4 x2)))], [.int ((v_ji_bitCount ((v_S_deedsHad M 4 x1) ^^^ (v_S_deedsHad M 4 x2))) + (M 193 (x0 ||| ((zsl (1 : Int32) x1) ||| (zsl (1 : Int32) x2))).toNatClampNeg))])) (h' := (zt_T L, zt_R, M, J, e)) (fun _ => rfl)).trans ?_
    refine zl_retI rfl rfl ?_
    first | (simp only [h1, zk_t, zk_f, zb_t, zb_f]; done) | (simp only [h1, zk_t, zk_f, zb_t, zb_f]; rfl) | rfl
  · refine zo_eqF rfl h1 ?_
    refine (zz_go 1 (fr' := (zm_G_gainedWith, d + 4, 18, [some (.ref 192), some (.ref 4), some (.int x0), some (.int x1), some (.int x2), some (.int ((zsl (1 : Int32) x1) ||| (zsl (1 : Int32) x2))), none], [.int (-1 : Int32)])) (h' := (zt_T L, zt_R, M, J, e)) (fun _ => rfl)).trans ?_
    refine zl_retI rfl rfl ?_
    first | (simp only [h1, zk_t, zk_f, zb_t, zb_f]; done) | (simp only [h1, zk_t, zk_f, zb_t, zb_f]; rfl) | rfl
def g_G_pairPeople_2 (M : zMem) (i1 : Nat) (a1 : Int32 × zMem) (i2 : Nat) (a2 : Int32 × Int32) : Bool × (Int32 × Int32) := ((bif (decide ((a1.2 4 10) ≤ a2.2)) then false else true), ((bif (decide ((a1.2 4 10) ≤ a2.2)) then a2.1 else (v_jm_max a2.1 (v_G_gainedWith a1.2 a1.1 (v_G_firstUnsettled a1.1) a2.2))), (bif (decide ((a1.2 4 10) ≤ a2.2)) then a2.2 else (a2.2 + (1 : Int32)))))
def kb_G_pairPeople_2 (M : zMem) (i1 : Nat) (a1 : Int32 × zMem) (i2 : Nat) (a2 : Int32 × Int32) : Prop := ((decide ((a1.2 4 10) ≤ a2.2)) = false → ok_G_gainedWith a1.2 a1.1 (v_G_firstUnsettled a1.1) a2.2)
def g_G_pairPeople_1 (M : zMem) (i1 : Nat) (a1 : Int32 × zMem) : Bool × (Int32 × zMem) := ((bif (decide (a1.1 < 0)) then false else true), ((bif (decide (a1.1 < 0)) then a1.1 else (a1.1 + (-1 : Int32))), (bif (decide (a1.1 < 0)) then a1.2 else (zz_up a1.2 193 (a1.1).toNatClampNeg (zf_wh 1000 (g_G_pairPeople_2 M i1 a1) 0 ((a1.2 193 (a1.1 ||| (zsl (1 : Int32) (v_G_firstUnsettled a1.1))).toNatClampNeg), ((v_G_firstUnsettled a1.1) + (1 : Int32)))).1))))
def kb_G_pairPeople_1 (M : zMem) (i1 : Nat) (a1 : Int32 × zMem) : Prop := ((decide (a1.1 < 0)) = false → (ok_G_firstUnsettled a1.1 ∧ (zz_in (a1.1 ||| (zsl (1 : Int32) (v_G_firstUnsettled a1.1))) 448 = true ∧ ((zf_wk 1000 (g_G_pairPeople_2 M i1 a1) (kb_G_pairPeople_2 M i1 a1) 0 ((a1.2 193 (a1.1 ||| (zsl (1 : Int32) (v_G_firstUnsettled a1.1))).toNatClampNeg), ((v_G_firstUnsettled a1.1) + (1 : Int32)))) ∧ zz_in a1.1 448 = true))))
def w_G_pairPeople (M : zMem) : zMem := (zf_wh 1000 (g_G_pairPeople_1 M) 0 (((v_S_everybody M 4) - (1 : Int32)), (zz_up M 193 (v_S_everybody M 4).toNatClampNeg (0 : Int32)))).2
def ok_G_pairPeople (M : zMem) : Prop := (zz_in (v_S_everybody M 4) 448 = true ∧ (zf_wk 1000 (g_G_pairPeople_1 M) (kb_G_pairPeople_1 M) 0 (((v_S_everybody M 4) - (1 : Int32)), (zz_up M 193 (v_S_everybody M 4).toNatClampNeg (0 : Int32)))))
set_option maxRecDepth 20000 in
set_option maxHeartbeats 2000000 in
theorem s_G_pairPeople (L e : Nat) (J : zJem) (d : Nat) (M : zMem) (k0 : ok_G_pairPeople M) : zz_D (zm_G_pairPeople, d + 5, 0, [some (.ref 192), some (.ref 4), none, none, none, none, none], []) (zt_T L, zt_R, M, J, e) = some (.inl (none), (zt_T L, zt_R, (w_G_pairPeople M), J, e)) := by
  unfold ok_G_pairPeople at k0
  unfold w_G_pairPeople
  refine (zz_go 1 (fr' := (zm_G_pairPeople, d + 5, 1, [some (.ref 192), some (.ref 4), none, none, none, none, none], [.ref 4])) (h' := (zt_T L, zt_R, M, J, e)) (fun _ => rfl)).trans ?_
  refine zl_vt (d := d + 4) rfl rfl rfl rfl rfl rfl rfl rfl rfl rfl (s_S_everybody L e J (d + 3) M 4 zt_St_4) ?_
  show zz_D (zm_G_pairPeople, d + 5, 4, [some (.ref 192), some (.ref 4), none, none, none, none, none], [.int (v_S_everybody M 4)]) (zt_T L, zt_R, M, J, e) = _
  refine (zz_go 2 (fr' := (zm_G_pairPeople, d + 5, 6, [some (.ref 192), some (.ref 4), some (.int (v_S_everybody M 4)), none, none, none, none], [.ref 192])) (h' := (zt_T L, zt_R, M, J, e)) (fun _ => rfl)).trans ?_
  refine zl_getR rfl rfl rfl ?_
  refine (zz_go 2 (fr' := (zm_G_pairPeople, d + 5, 11, [some (.ref 192), some (.ref 4), some (.int (v_S_everybody M 4)), none, none, none, none], [.int (0 : Int32), .int (v_S_everybody M 4), .ref 193])) (h' := (zt_T L, zt_R, M, J, e)) (fun _ => rfl)).trans ?_
  obtain ⟨g1, k2⟩ := k0
  refine zl_iastore rfl rfl g1 rfl rfl ?_
  refine (zz_go 4 (fr' := (zm_G_pairPeople, d + 5, 16, [some (.ref 192), some (.ref 4), some (.int (v_S_everybody M 4)), some (.int ((v_S_everybody M 4) - (1 : Int32))), none, none, none], [])) (h' := (zt_T L, zt_R, (zz_up M 193 (v_S_everybody M 4).toNatClampNeg (0 : Int32)), J, e)) (fun _ => rfl)).trans ?_
  refine zz_weak (L := [some (.ref 192), some (.ref 4), none, some (.int ((v_S_everybody M 4) - (1 : Int32))), none, none, none]) ⟨Or.inl rfl, Or.inl rfl, Or.inr ⟨rfl, rfl⟩, Or.inl rfl, Or.inl rfl, Or.inl rfl, Or.inl rfl, trivial⟩ ?_
  refine zf_whY (X := fun (i1 : Nat) (a1 : Int32 × zMem) => zz_D (zm_G_pairPeople, d + 5, 16, [some (.ref 192), some (.ref 4), none, some (.int a1.1), none, none, none], []) (zt_T L, zt_R, a1.2, J, e)) (Y := fun (a1 : Int32 × zMem) => zz_D (zm_G_pairPeople, d + 5, 91, [none, none, none, none, none, none, none], []) (zt_T L, zt_R, a1.2, J, e)) (g := (g_G_pairPeople_1 M)) (k := (kb_G_pairPeople_1 M)) (fun i1 a1 k5 hx3 hx4 => ?_) 1000 0 (((v_S_everybody M 4) - (1 : Int32)), (zz_up M 193 (v_S_everybody M 4).toNatClampNeg (0 : Int32))) k2 ?_
  · show zz_D (zm_G_pairPeople, d + 5, 16, [some (.ref 192), some (.ref 4), none, some (.int a1.1), none, none, none], []) (zt_T L, zt_R, a1.2, J, e) = _
    unfold kb_G_pairPeople_1 at k5
    refine (zz_go 1 (fr' := (zm_G_pairPeople, d + 5, 17, [some (.ref 192), some (.ref 4), none, some (.int a1.1), none, none, none], [.int a1.1])) (h' := (zt_T L, zt_R, a1.2, J, e)) (fun _ => rfl)).trans ?_
    rcases zz_bc (decide (a1.1 < 0)) with h6 | h6
    · refine zo_ltT rfl h6 ?_
      refine zz_weak (L := [none, none, none, none, none, none, none]) ⟨Or.inr ⟨rfl, rfl⟩, Or.inr ⟨rfl, rfl⟩, Or.inl rfl, Or.inr ⟨rfl, rfl⟩, Or.inl rfl, Or.inl rfl, Or.inl rfl, trivial⟩ ?_
      have y1 := hx4 (by simp only [g_G_pairPeople_1, h6, zk_t, zk_f, zb_t, zb_f])
      simpa only [g_G_pairPeople_1, h6, zk_t, zk_f, zb_t, zb_f] using y1
    · refine zo_ltF rfl h6 ?_
      have k7 := k5 h6
      refine (zz_go 1 (fr' := (zm_G_pairPeople, d + 5, 21, [some (.ref 192), some (.ref 4), none, some (.int a1.1), none, none, none], [.int a1.1])) (h' := (zt_T L, zt_R, a1.2, J, e)) (fun _ => rfl)).trans ?_
      obtain ⟨g8, k9⟩ := k7
      refine zl_st (d := d + 4) rfl rfl rfl rfl rfl rfl rfl (s_G_firstUnsettled L e J (d + 3) a1.1 g8) ?_
      show zz_D (zm_G_pairPeople, d + 5, 24, [some (.ref 192), some (.ref 4), none, some (.int a1.1), none, none, none], [.int (v_G_firstUnsettled a1.1)]) (zt_T L, zt_R, a1.2, J, e) = _
      refine (zz_go 2 (fr' := (zm_G_pairPeople, d + 5, 27, [some (.ref 192), some (.ref 4), none, some (.int a1.1), some (.int (v_G_firstUnsettled a1.1)), none, none], [.ref 192])) (h' := (zt_T L, zt_R, a1.2, J, e)) (fun _ => rfl)).trans ?_
      refine zl_getR rfl rfl rfl ?_
      refine (zz_go 5 (fr' := (zm_G_pairPeople, d + 5, 36, [some (.ref 192), some (.ref 4), none, some (.int a1.1), some (.int (v_G_firstUnsettled a1.1)), none, none], [.int (a1.1 ||| (zsl (1 : Int32) (v_G_firstUnsettled a1.1))), .ref 193])) (h' := (zt_T L, zt_R, a1.2, J, e)) (fun _ => rfl)).trans ?_
      obtain ⟨g10, k11⟩ := k9
      refine zl_iaload rfl rfl g10 rfl ?_
      refine (zz_go 5 (fr' := (zm_G_pairPeople, d + 5, 45, [some (.ref 192), some (.ref 4), none, some (.int a1.1), some (.int (v_G_firstUnsettled a1.1)), some (.int (a1.2 193 (a1.1 ||| (zsl (1 : Int32) (v_G_firstUnsettled a1.1))).toNatClampNeg)), some (.int ((v_G_firstUnsettled a1.1) + (1 : Int32)))], [])) (h' := (zt_T L, zt_R, a1.2, J, e)) (fun _ => rfl)).trans ?_
      obtain ⟨k12, k13⟩ := k11
      refine zf_whY (X := fun (i2 : Nat) (a2 : Int32 × Int32) => zz_D (zm_G_pairPeople, d + 5, 45, [some (.ref 192), some (.ref 4), none, some (.int a1.1), some (.int (v_G_firstUnsettled a1.1)), some (.int a2.1), some (.int a2.2)], []) (zt_T L, zt_R, a1.2, J, e)) (Y := fun (a2 : Int32 × Int32) => zz_D (zm_G_pairPeople, d + 5, 77, [some (.ref 192), some (.ref 4), none, some (.int a1.1), none, some (.int a2.1), none], []) (zt_T L, zt_R, a1.2, J, e)) (g := (g_G_pairPeople_2 M i1 a1)) (k := (kb_G_pairPeople_2 M i1 a1)) (fun i2 a2 k16 hx14 hx15 => ?_) 1000 0 ((a1.2 193 (a1.1 ||| (zsl (1 : Int32) (v_G_firstUnsettled a1.1))).toNatClampNeg), ((v_G_firstUnsettled a1.1) + (1 : Int32))) k12 ?_
      · show zz_D (zm_G_pairPeople, d + 5, 45, [some (.ref 192), some (.ref 4), none, some (.int a1.1), some (.int (v_G_firstUnsettled a1.1)), some (.int a2.1), some (.int a2.2)], []) (zt_T L, zt_R, a1.2, J, e) = _
        unfold kb_G_pairPeople_2 at k16
        refine (zz_go 2 (fr' := (zm_G_pairPeople, d + 5, 48, [some (.ref 192), some (.ref 4), none, some (.int a1.1), some (.int (v_G_firstUnsettled a1.1)), some (.int a2.1), some (.int a2.2)], [.ref 4, .int a2.2])) (h' := (zt_T L, zt_R, a1.2, J, e)) (fun _ => rfl)).trans ?_
        refine zl_getI rfl (by decide) rfl rfl ?_
        rcases zz_bc (decide ((a1.2 4 10) ≤ a2.2)) with h17 | h17
        · refine zc_geT rfl h17 ?_
          refine zz_weak (L := [some (.ref 192), some (.ref 4), none, some (.int a1.1), none, some (.int a2.1), none]) ⟨Or.inl rfl, Or.inl rfl, Or.inl rfl, Or.inl rfl, Or.inr ⟨rfl, rfl⟩, Or.inl rfl, Or.inr ⟨rfl, rfl⟩, trivial⟩ ?_
          have y1 := hx15 (by simp only [g_G_pairPeople_2, h17, zk_t, zk_f, zb_t, zb_f])
          simpa only [g_G_pairPeople_2, h17, zk_t, zk_f, zb_t, zb_f] using y1
        · refine zc_geF rfl h17 ?_
          have k18 := k16 h17
          refine (zz_go 6 (fr' := (zm_G_pairPeople, d + 5, 63, [some (.ref 192), some (.ref 4), none, some (.int a1.1), some (.int (v_G_firstUnsettled a1.1)), some (.int a2.1), some (.int a2.2)], [.int a2.2, .int (v_G_firstUnsettled a1.1), .int a1.1, .ref 4, .ref 192, .int a2.1])) (h' := (zt_T L, zt_R, a1.2, J, e)) (fun _ => rfl)).trans ?_
          have g19 : ok_G_gainedWith a1.2 a1.1 (v_G_firstUnsettled a1.1) a2.2 := k18
          refine zl_vt (d := d + 4) rfl rfl rfl rfl rfl rfl rfl rfl rfl rfl (s_G_gainedWith L e J (d + 0) a1.2 a1.1 (v_G_firstUnsettled a1.1) a2.2 g19) ?_
          show zz_D (zm_G_pairPeople, d + 5, 66, [some (.ref 192), some (.ref 4), none, some (.int a1.1), some (.int (v_G_firstUnsettled a1.1)), some (.int a2.1), some (.int a2.2)], [.int (v_G_gainedWith a1.2 a1.1 (v_G_firstUnsettled a1.1) a2.2), .int a2.1]) (zt_T L, zt_R, a1.2, J, e) = _
          refine zl_st (d := d + 4) rfl rfl rfl rfl rfl rfl rfl (s_jm_max L e J (d + 3) a2.1 (v_G_gainedWith a1.2 a1.1 (v_G_firstUnsettled a1.1) a2.2)) ?_
          show zz_D (zm_G_pairPeople, d + 5, 69, [some (.ref 192), some (.ref 4), none, some (.int a1.1), some (.int (v_G_firstUnsettled a1.1)), some (.int a2.1), some (.int a2.2)], [.int (v_jm_max a2.1 (v_G_gainedWith a1.2 a1.1 (v_G_firstUnsettled a1.1) a2.2))]) (zt_T L, zt_R, a1.2, J, e) = _
          refine (zz_go 3 (fr' := (zm_G_pairPeople, d + 5, 45, [some (.ref 192), some (.ref 4), none, some (.int a1.1), some (.int (v_G_firstUnsettled a1.1)), some (.int (v_jm_max a2.1 (v_G_gainedWith a1.2 a1.1 (v_G_firstUnsettled a1.1) a2.2))), some (.int (a2.2 + (1 : Int32)))], [])) (h' := (zt_T L, zt_R, a1.2, J, e)) (fun _ => rfl)).trans ?_
          have y1 := hx14 (by simp only [g_G_pairPeople_2, h17, zk_t, zk_f, zb_t, zb_f])
          simpa only [g_G_pairPeople_2, h17, zk_t, zk_f, zb_t, zb_f] using y1
      show zz_D (zm_G_pairPeople, d + 5, 77, [some (.ref 192), some (.ref 4), none, some (.int a1.1), none, some (.int (zf_wh 1000 (g_G_pairPeople_2 M i1 a1) 0 ((a1.2 193 (a1.1 ||| (zsl (1 : Int32) (v_G_firstUnsettled a1.1))).toNatClampNeg), ((v_G_firstUnsettled a1.1) + (1 : Int32)))).1), none], []) (zt_T L, zt_R, a1.2, J, e) = _
      refine (zz_go 1 (fr' := (zm_G_pairPeople, d + 5, 78, [some (.ref 192), some (.ref 4), none, some (.int a1.1), none, some (.int (zf_wh 1000 (g_G_pairPeople_2 M i1 a1) 0 ((a1.2 193 (a1.1 ||| (zsl (1 : Int32) (v_G_firstUnsettled a1.1))).toNatClampNeg), ((v_G_firstUnsettled a1.1) + (1 : Int32)))).1), none], [.ref 192])) (h' := (zt_T L, zt_R, a1.2, J, e)) (fun _ => rfl)).trans ?_
      refine zl_getR rfl rfl rfl ?_
      refine (zz_go 2 (fr' := (zm_G_pairPeople, d + 5, 84, [some (.ref 192), some (.ref 4), none, some (.int a1.1), none, some (.int (zf_wh 1000 (g_G_pairPeople_2 M i1 a1) 0 ((a1.2 193 (a1.1 ||| (zsl (1 : Int32) (v_G_firstUnsettled a1.1))).toNatClampNeg), ((v_G_firstUnsettled a1.1) + (1 : Int32)))).1), none], [.int (zf_wh 1000 (g_G_pairPeople_2 M i1 a1) 0 ((a1.2 193 (a1.1 ||| (zsl (1 : Int32) (v_G_firstUnsettled a1.1))).toNatClampNeg), ((v_G_firstUnsettled a1.1) + (1 : Int32)))).1, .int a1.1, .ref 193])) (h' := (zt_T L, zt_R, a1.2, J, e)) (fun _ => rfl)).trans ?_
      have g20 : zz_in a1.1 448 = true := k13
      refine zl_iastore rfl rfl g20 rfl rfl ?_
      refine (zz_go 2 (fr' := (zm_G_pairPeople, d + 5, 16, [some (.ref 192), some (.ref 4), none, some (.int (a1.1 + (-1 : Int32))), none, some (.int (zf_wh 1000 (g_G_pairPeople_2 M i1 a1) 0 ((a1.2 193 (a1.1 ||| (zsl (1 : Int32) (v_G_firstUnsettled a1.1))).toNatClampNeg), ((v_G_firstUnsettled a1.1) + (1 : Int32)))).1), none], [])) (h' := (zt_T L, zt_R, (zz_up a1.2 193 (a1.1).toNatClampNeg (zf_wh 1000 (g_G_pairPeople_2 M i1 a1) 0 ((a1.2 193 (a1.1 ||| (zsl (1 : Int32) (v_G_firstUnsettled a1.1))).toNatClampNeg), ((v_G_firstUnsettled a1.1) + (1 : Int32)))).1), J, e)) (fun _ => rfl)).trans ?_
      refine zz_weak (L := [some (.ref 192), some (.ref 4), none, some (.int (a1.1 + (-1 : Int32))), none, none, none]) ⟨Or.inl rfl, Or.inl rfl, Or.inl rfl, Or.inl rfl, Or.inl rfl, Or.inr ⟨rfl, rfl⟩, Or.inl rfl, trivial⟩ ?_
      have y1 := hx3 (by simp only [g_G_pairPeople_1, h6, zk_t, zk_f, zb_t, zb_f])
      simpa only [g_G_pairPeople_1, h6, zk_t, zk_f, zb_t, zb_f] using y1
  show zz_D (zm_G_pairPeople, d + 5, 91, [none, none, none, none, none, none, none], []) (zt_T L, zt_R, (zf_wh 1000 (g_G_pairPeople_1 M) 0 (((v_S_everybody M 4) - (1 : Int32)), (zz_up M 193 (v_S_everybody M 4).toNatClampNeg (0 : Int32)))).2, J, e) = _
  refine (zz_end 1 (r := (.inl none, (zt_T L, zt_R, (zf_wh 1000 (g_G_pairPeople_1 M) 0 (((v_S_everybody M 4) - (1 : Int32)), (zz_up M 193 (v_S_everybody M 4).toNatClampNeg (0 : Int32)))).2, J, e))) (fun _ => rfl)).trans ?_
  rfl
def v_G_pairedDeeds (M : zMem) : Int32 := (M 193 0)
set_option maxRecDepth 20000 in
set_option maxHeartbeats 2000000 in
theorem s_G_pairedDeeds (L e : Nat) (J : zJem) (d : Nat) (M : zMem) : zz_D (zm_G_pairedDeeds, d + 1, 0, [some (.ref 192)], []) (zt_T L, zt_R, M, J, e) = some (.inl (some (.int (v_G_pairedDeeds M))), (zt_T L, zt_R, M, J, e)) := by
  unfold v_G_pairedDeeds
  refine (zz_go 1 (fr' := (zm_G_pairedDeeds, d + 1, 1, [some (.ref 192)], [.ref 192])) (h' := (zt_T L, zt_R, M, J, e)) (fun _ => rfl)).trans ?_
  refine zl_getR rfl rfl rfl ?_
  refine (zz_go 1 (fr' := (zm_G_pairedDeeds, d + 1, 5, [some (.ref 192)], [.int (0 : Int32), .ref 193])) (h' := (zt_T L, zt_R, M, J, e)) (fun _ => rfl)).trans ?_
  refine zl_iaload rfl rfl (by decide) rfl ?_
  refine zl_retI rfl rfl ?_
  rfl
def g_G_firstPartner_1 (M : zMem) (x0 : Int32) (x1 : Int32) (i1 : Nat) (a1 : Int32 × Bool × Int32) : Bool × (Int32 × Bool × Int32) := ((bif (decide ((M 4 10) ≤ a1.1)) then false else (bif (decide ((v_G_gainedWith M x0 x1 a1.1) = (M 193 (x0).toNatClampNeg))) then false else true)), ((bif (decide ((M 4 10) ≤ a1.1)) then a1.1 else (bif (decide ((v_G_gainedWith M x0 x1 a1.1) = (M 193 (x0).toNatClampNeg))) then a1.1 else (a1.1 + (1 : Int32)))), (bif (decide ((M 4 10) ≤ a1.1)) then false else (decide ((v_G_gainedWith M x0 x1 a1.1) = (M 193 (x0).toNatClampNeg)))), (bif (decide ((M 4 10) ≤ a1.1)) then a1.2.2 else (bif (decide ((v_G_gainedWith M x0 x1 a1.1) = (M 193 (x0).toNatClampNeg))) then a1.1 else a1.2.2))))
def kb_G_firstPartner_1 (M : zMem) (x0 : Int32) (x1 : Int32) (i1 : Nat) (a1 : Int32 × Bool × Int32) : Prop := ((decide ((M 4 10) ≤ a1.1)) = false → ok_G_gainedWith M x0 x1 a1.1)
def v_G_firstPartner (M : zMem) (x0 : Int32) (x1 : Int32) : Int32 := (bif (decide ((M 193 (x0 ||| (zsl (1 : Int32) x1)).toNatClampNeg) = (M 193 (x0).toNatClampNeg))) then (-1 : Int32) else (bif (zf_wh 1000 (g_G_firstPartner_1 M x0 x1) 0 ((x1 + (1 : Int32)), false, 0)).2.1 then (zf_wh 1000 (g_G_firstPartner_1 M x0 x1) 0 ((x1 + (1 : Int32)), false, 0)).2.2 else (-1 : Int32)))
def ok_G_firstPartner (M : zMem) (x0 : Int32) (x1 : Int32) : Prop := (zz_in (x0 ||| (zsl (1 : Int32) x1)) 448 = true ∧ (zz_in x0 448 = true ∧ ((decide ((M 193 (x0 ||| (zsl (1 : Int32) x1)).toNatClampNeg) = (M 193 (x0).toNatClampNeg))) = false → (zf_wk 1000 (g_G_firstPartner_1 M x0 x1) (kb_G_firstPartner_1 M x0 x1) 0 ((x1 + (1 : Int32)), false, 0)))))
set_option maxRecDepth 20000 in
set_option maxHeartbeats 2000000 in
theorem s_G_firstPartner (L e : Nat) (J : zJem) (d : Nat) (M : zMem) (x0 : Int32) (x1 : Int32) (k0 : ok_G_firstPartner M x0 x1) : zz_D (zm_G_firstPartner, d + 5, 0, [some (.ref 192), some (.ref 4), some (.int x0), some (.int x1), none], []) (zt_T L, zt_R, M, J, e) = some (.inl (some (.int (v_G_firstPartner M x0 x1))), (zt_T L, zt_R, M, J, e)) := by
  unfold ok_G_firstPartner at k0
  unfold v_G_firstPartner
  refine (zz_go 1 (fr' := (zm_G_firstPartner, d + 5, 1, [some (.ref 192), some (.ref 4), some (.int x0), some (.int x1), none], [.ref 192])) (h' := (zt_T L, zt_R, M, J, e)) (fun _ => rfl)).trans ?_
  refine zl_getR rfl rfl rfl ?_
  refine (zz_go 5 (fr' := (zm_G_firstPartner, d + 5, 9, [some (.ref 192), some (.ref 4), some (.int x0), some (.int x1), none], [.int (x0 ||| (zsl (1 : Int32) x1)), .ref 193])) (h' := (zt_T L, zt_R, M, J, e)) (fun _ => rfl)).trans ?_
  obtain ⟨g1, k2⟩ := k0
  refine zl_iaload rfl rfl g1 rfl ?_
  refine (zz_go 1 (fr' := (zm_G_firstPartner, d + 5, 11, [some (.ref 192), some (.ref 4), some (.int x0), some (.int x1), none], [.ref 192, .int (M 193 (x0 ||| (zsl (1 : Int32) x1)).toNatClampNeg)])) (h' := (zt_T L, zt_R, M, J, e)) (fun _ => rfl)).trans ?_
  refine zl_getR rfl rfl rfl ?_
  refine (zz_go 1 (fr' := (zm_G_firstPartner, d + 5, 15, [some (.ref 192), some (.ref 4), some (.int x0), some (.int x1), none], [.int x0, .ref 193, .int (M 193 (x0 ||| (zsl (1 : Int32) x1)).toNatClampNeg)])) (h' := (zt_T L, zt_R, M, J, e)) (fun _ => rfl)).trans ?_
  obtain ⟨g3, k4⟩ := k2
  refine zl_iaload rfl rfl g3 rfl ?_
  rcases zz_bc (decide ((M 193 (x0 ||| (zsl (1 : Int32) x1)).toNatClampNeg) = (M 193 (x0).toNatClampNeg))) with h5 | h5
  · refine zc_neT rfl h5 ?_
    refine (zz_go 1 (fr' := (zm_G_firstPartner, d + 5, 20, [some (.ref 192), some (.ref 4), some (.int x0), some (.int x1), none], [.int (-1 : Int32)])) (h' := (zt_T L, zt_R, M, J, e)) (fun _ => rfl)).trans ?_
    refine zl_retI rfl rfl ?_
    first | (simp only [h5, zk_t, zk_f, zb_t, zb_f]; done) | (simp only [h5, zk_t, zk_f, zb_t, zb_f]; rfl) | rfl
  · refine zc_neF rfl h5 ?_
    have k6 := k4 h5
    refine (zz_go 4 (fr' := (zm_G_firstPartner, d + 5, 26, [some (.ref 192), some (.ref 4), some (.int x0), some (.int x1), some (.int (x1 + (1 : Int32)))], [])) (h' := (zt_T L, zt_R, M, J, e)) (fun _ => rfl)).trans ?_
    refine zf_whY (X := fun (i1 : Nat) (a1 : Int32 × Bool × Int32) => zz_D (zm_G_firstPartner, d + 5, 26, [some (.ref 192), some (.ref 4), some (.int x0), some (.int x1), some (.int a1.1)], []) (zt_T L, zt_R, M, J, e)) (Y := fun (a1 : Int32 × Bool × Int32) => (bif a1.2.1 then some (.inl (some (.int a1.2.2)), (zt_T L, zt_R, M, J, e)) else zz_D (zm_G_firstPartner, d + 5, 62, [none, none, none, none, none], []) (zt_T L, zt_R, M, J, e))) (g := (g_G_firstPartner_1 M x0 x1)) (k := (kb_G_firstPartner_1 M x0 x1)) (fun i1 a1 k9 hx7 hx8 => ?_) 1000 0 ((x1 + (1 : Int32)), false, 0) k6 ?_
    · show zz_D (zm_G_firstPartner, d + 5, 26, [some (.ref 192), some (.ref 4), some (.int x0), some (.int x1), some (.int a1.1)], []) (zt_T L, zt_R, M, J, e) = _
      unfold kb_G_firstPartner_1 at k9
      refine (zz_go 2 (fr' := (zm_G_firstPartner, d + 5, 29, [some (.ref 192), some (.ref 4), some (.int x0), some (.int x1), some (.int a1.1)], [.ref 4, .int a1.1])) (h' := (zt_T L, zt_R, M, J, e)) (fun _ => rfl)).trans ?_
      refine zl_getI rfl (by decide) rfl rfl ?_
      rcases zz_bc (decide ((M 4 10) ≤ a1.1)) with h10 | h10
      · refine zc_geT rfl h10 ?_
        refine zz_weak (L := [none, none, none, none, none]) ⟨Or.inr ⟨rfl, rfl⟩, Or.inr ⟨rfl, rfl⟩, Or.inr ⟨rfl, rfl⟩, Or.inr ⟨rfl, rfl⟩, Or.inr ⟨rfl, rfl⟩, trivial⟩ ?_
        have y1 := hx8 (by simp only [g_G_firstPartner_1, h10, zk_t, zk_f, zb_t, zb_f])
        simpa only [g_G_firstPartner_1, h10, zk_t, zk_f, zb_t, zb_f] using y1
      · refine zc_geF rfl h10 ?_
        have k11 := k9 h10
        refine (zz_go 5 (fr' := (zm_G_firstPartner, d + 5, 41, [some (.ref 192), some (.ref 4), some (.int x0), some (.int x1), some (.int a1.1)], [.int a1.1, .int x1, .int x0, .ref 4, .ref 192])) (h' := (zt_T L, zt_R, M, J, e)) (fun _ => rfl)).trans ?_
        have g12 : ok_G_gainedWith M x0 x1 a1.1 := k11
        refine zl_vt (d := d + 4) rfl rfl rfl rfl rfl rfl rfl rfl rfl rfl (s_G_gainedWith L e J (d + 0) M x0 x1 a1.1 g12) ?_
        show zz_D (zm_G_firstPartner, d + 5, 44, [some (.ref 192), some (.ref 4), some (.int x0), some (.int x1), some (.int a1.1)], [.int (v_G_gainedWith M x0 x1 a1.1)]) (zt_T L, zt_R, M, J, e) = _
        refine (zz_go 1 (fr' := (zm_G_firstPartner, d + 5, 45, [some (.ref 192), some (.ref 4), some (.int x0), some (.int x1), some (.int a1.1)], [.ref 192, .int (v_G_gainedWith M x0 x1 a1.1)])) (h' := (zt_T L, zt_R, M, J, e)) (fun _ => rfl)).trans ?_
        refine zl_getR rfl rfl rfl ?_
        refine (zz_go 1 (fr' := (zm_G_firstPartner, d + 5, 49, [some (.ref 192), some (.ref 4), some (.int x0), some (.int x1), some (.int a1.1)], [.int x0, .ref 193, .int (v_G_gainedWith M x0 x1 a1.1)])) (h' := (zt_T L, zt_R, M, J, e)) (fun _ => rfl)).trans ?_
        refine zl_iaload rfl rfl g3 rfl ?_
        rcases zz_bc (decide ((v_G_gainedWith M x0 x1 a1.1) = (M 193 (x0).toNatClampNeg))) with h13 | h13
        · refine zc_neT rfl h13 ?_
          refine (zz_go 1 (fr' := (zm_G_firstPartner, d + 5, 55, [some (.ref 192), some (.ref 4), some (.int x0), some (.int x1), some (.int a1.1)], [.int a1.1])) (h' := (zt_T L, zt_R, M, J, e)) (fun _ => rfl)).trans ?_
          refine zl_retI rfl rfl ?_
          have y1 := hx8 (by simp only [g_G_firstPartner_1, h10, h13, zk_t, zk_f, zb_t, zb_f])
          simpa only [g_G_firstPartner_1, h10, h13, zk_t, zk_f, zb_t, zb_f] using y1
        · refine zc_neF rfl h13 ?_
          refine (zz_go 2 (fr' := (zm_G_firstPartner, d + 5, 26, [some (.ref 192), some (.ref 4), some (.int x0), some (.int x1), some (.int (a1.1 + (1 : Int32)))], [])) (h' := (zt_T L, zt_R, M, J, e)) (fun _ => rfl)).trans ?_
          have y1 := hx7 (by simp only [g_G_firstPartner_1, h10, h13, zk_t, zk_f, zb_t, zb_f])
          simpa only [g_G_firstPartner_1, h10, h13, zk_t, zk_f, zb_t, zb_f] using y1
    show (bif (zf_wh 1000 (g_G_firstPartner_1 M x0 x1) 0 ((x1 + (1 : Int32)), false, 0)).2.1 then some (.inl (some (.int (zf_wh 1000 (g_G_firstPartner_1 M x0 x1) 0 ((x1 + (1 : Int32)), false, 0)).2.2)), (zt_T L, zt_R, M, J, e)) else zz_D (zm_G_firstPartner, d + 5, 62, [none, none, none, none, none], []) (zt_T L, zt_R, M, J, e)) = _
    refine zz_ec (fun h14 => ?_) (fun h14 => ?_)
    · skip
      first | (simp only [h5, h14, zk_t, zk_f, zb_t, zb_f]; done) | (simp only [h5, h14, zk_t, zk_f, zb_t, zb_f]; rfl) | rfl
    refine (zz_go 1 (fr' := (zm_G_firstPartner, d + 5, 63, [none, none, none, none, none], [.int (-1 : Int32)])) (h' := (zt_T L, zt_R, M, J, e)) (fun _ => rfl)).trans ?_
    refine zl_retI rfl rfl ?_
    first | (simp only [h5, h14, zk_t, zk_f, zb_t, zb_f]; done) | (simp only [h5, h14, zk_t, zk_f, zb_t, zb_f]; rfl) | rfl
def g_G_partner_1 (M : zMem) (x0 : Int32) (i1 : Nat) (a1 : Int32 × Bool × Int32) : Bool × (Int32 × Bool × Int32) := ((bif (decide ((M 4 10) ≤ (Int32.ofNat i1))) then false else (bif (decide (((zsr a1.1 (Int32.ofNat i1)) &&& (1 : Int32)) = 0)) then (bif (decide ((Int32.ofNat i1) = x0)) then false else (bif (decide ((v_G_firstPartner M a1.1 (Int32.ofNat i1)) = x0)) then false else true)) else true)), ((bif (decide ((M 4 10) ≤ (Int32.ofNat i1))) then a1.1 else (bif (decide (((zsr a1.1 (Int32.ofNat i1)) &&& (1 : Int32)) = 0)) then (bif (decide ((Int32.ofNat i1) = x0)) then a1.1 else (bif (decide ((v_G_firstPartner M a1.1 (Int32.ofNat i1)) = x0)) then a1.1 else (a1.1 ||| ((zsl (1 : Int32) (Int32.ofNat i1)) ||| (bif (decide ((v_G_firstPartner M a1.1 (Int32.ofNat i1)) = (-1 : Int32))) then (0 : Int32) else (zsl (1 : Int32) (v_G_firstPartner M a1.1 (Int32.ofNat i1)))))))) else a1.1)), (bif (decide ((M 4 10) ≤ (Int32.ofNat i1))) then false else (bif (decide (((zsr a1.1 (Int32.ofNat i1)) &&& (1 : Int32)) = 0)) then (bif (decide ((Int32.ofNat i1) = x0)) then true else (decide ((v_G_firstPartner M a1.1 (Int32.ofNat i1)) = x0))) else false)), (bif (decide ((M 4 10) ≤ (Int32.ofNat i1))) then a1.2.2 else (bif (decide (((zsr a1.1 (Int32.ofNat i1)) &&& (1 : Int32)) = 0)) then (bif (decide ((Int32.ofNat i1) = x0)) then (v_G_firstPartner M a1.1 (Int32.ofNat i1)) else (bif (decide ((v_G_firstPartner M a1.1 (Int32.ofNat i1)) = x0)) then (Int32.ofNat i1) else a1.2.2)) else a1.2.2))))
def kb_G_partner_1 (M : zMem) (x0 : Int32) (i1 : Nat) (a1 : Int32 × Bool × Int32) : Prop := ((decide ((M 4 10) ≤ (Int32.ofNat i1))) = false → ((decide (((zsr a1.1 (Int32.ofNat i1)) &&& (1 : Int32)) = 0)) = true → ok_G_firstPartner M a1.1 (Int32.ofNat i1)))
def v_G_partner (M : zMem) (x0 : Int32) : Int32 := (bif (zf_wh 1000 (g_G_partner_1 M x0) 0 ((0 : Int32), false, 0)).2.1 then (zf_wh 1000 (g_G_partner_1 M x0) 0 ((0 : Int32), false, 0)).2.2 else (-1 : Int32))
def ok_G_partner (M : zMem) (x0 : Int32) : Prop := (zf_wk 1000 (g_G_partner_1 M x0) (kb_G_partner_1 M x0) 0 ((0 : Int32), false, 0))
set_option maxRecDepth 20000 in
set_option maxHeartbeats 2000000 in
theorem s_G_partner (L e : Nat) (J : zJem) (d : Nat) (M : zMem) (x0 : Int32) (k0 : ok_G_partner M x0) : zz_D (zm_G_partner, d + 6, 0, [some (.ref 192), some (.ref 4), some (.int x0), none, none, none], []) (zt_T L, zt_R, M, J, e) = some (.inl (some (.int (v_G_partner M x0))), (zt_T L, zt_R, M, J, e)) := by
  unfold ok_G_partner at k0
  unfold v_G_partner
  refine (zz_go 4 (fr' := (zm_G_partner, d + 6, 5, [some (.ref 192), some (.ref 4), some (.int x0), some (.int (0 : Int32)), some (.int (0 : Int32)), none], [])) (h' := (zt_T L, zt_R, M, J, e)) (fun _ => rfl)).trans ?_
  refine zf_whY (X := fun (i1 : Nat) (a1 : Int32 × Bool × Int32) => zz_D (zm_G_partner, d + 6, 5, [some (.ref 192), some (.ref 4), some (.int x0), some (.int a1.1), some (.int (Int32.ofNat i1)), none], []) (zt_T L, zt_R, M, J, e)) (Y := fun (a1 : Int32 × Bool × Int32) => (bif a1.2.1 then some (.inl (some (.int a1.2.2)), (zt_T L, zt_R, M, J, e)) else zz_D (zm_G_partner, d + 6, 79, [none, none, none, none, none, none], []) (zt_T L, zt_R, M, J, e))) (g := (g_G_partner_1 M x0)) (k := (kb_G_partner_1 M x0)) (fun i1 a1 k3 hx1 hx2 => ?_) 1000 0 ((0 : Int32), false, 0) k0 ?_
  · show zz_D (zm_G_partner, d + 6, 5, [some (.ref 192), some (.ref 4), some (.int x0), some (.int a1.1), some (.int (Int32.ofNat i1)), none], []) (zt_T L, zt_R, M, J, e) = _
    unfold kb_G_partner_1 at k3
    refine (zz_go 2 (fr' := (zm_G_partner, d + 6, 8, [some (.ref 192), some (.ref 4), some (.int x0), some (.int a1.1), some (.int (Int32.ofNat i1)), none], [.ref 4, .int (Int32.ofNat i1)])) (h' := (zt_T L, zt_R, M, J, e)) (fun _ => rfl)).trans ?_
    refine zl_getI rfl (by decide) rfl rfl ?_
    rcases zz_bc (decide ((M 4 10) ≤ (Int32.ofNat i1))) with h4 | h4
    · refine zc_geT rfl h4 ?_
      refine zz_weak (L := [none, none, none, none, none, none]) ⟨Or.inr ⟨rfl, rfl⟩, Or.inr ⟨rfl, rfl⟩, Or.inr ⟨rfl, rfl⟩, Or.inr ⟨rfl, rfl⟩, Or.inr ⟨rfl, rfl⟩, Or.inl rfl, trivial⟩ ?_
      have y1 := hx2 (by simp only [g_G_partner_1, h4, zk_t, zk_f, zb_t, zb_f])
      simpa only [g_G_partner_1, h4, zk_t, zk_f, zb_t, zb_f] using y1
    · refine zc_geF rfl h4 ?_
      have k5 := k3 h4
      refine (zz_go 5 (fr' := (zm_G_partner, d + 6, 20, [some (.ref 192), some (.ref 4), some (.int x0), some (.int a1.1), some (.int (Int32.ofNat i1)), none], [.int ((zsr a1.1 (Int32.ofNat i1)) &&& (1 : Int32))])) (h' := (zt_T L, zt_R, M, J, e)) (fun _ => rfl)).trans ?_
      rcases zz_bc (decide (((zsr a1.1 (Int32.ofNat i1)) &&& (1 : Int32)) = 0)) with h6 | h6
      · refine zo_neT rfl h6 ?_
        have k7 := k5 h6
        refine (zz_go 4 (fr' := (zm_G_partner, d + 6, 28, [some (.ref 192), some (.ref 4), some (.int x0), some (.int a1.1), some (.int (Int32.ofNat i1)), none], [.int (Int32.ofNat i1), .int a1.1, .ref 4, .ref 192])) (h' := (zt_T L, zt_R, M, J, e)) (fun _ => rfl)).trans ?_
        have g8 : ok_G_firstPartner M a1.1 (Int32.ofNat i1) := k7
        refine zl_vt (d := d + 5) rfl rfl rfl rfl rfl rfl rfl rfl rfl rfl (s_G_firstPartner L e J (d + 0) M a1.1 (Int32.ofNat i1) g8) ?_
        show zz_D (zm_G_partner, d + 6, 31, [some (.ref 192), some (.ref 4), some (.int x0), some (.int a1.1), some (.int (Int32.ofNat i1)), none], [.int (v_G_firstPartner M a1.1 (Int32.ofNat i1))]) (zt_T L, zt_R, M, J, e) = _
        refine (zz_go 3 (fr' := (zm_G_partner, d + 6, 36, [some (.ref 192), some (.ref 4), some (.int x0), some (.int a1.1), some (.int (Int32.ofNat i1)), some (.int (v_G_firstPartner M a1.1 (Int32.ofNat i1)))], [.int x0, .int (Int32.ofNat i1)])) (h' := (zt_T L, zt_R, M, J, e)) (fun _ => rfl)).trans ?_
        rcases zz_bc (decide ((Int32.ofNat i1) = x0)) with h9 | h9
        · refine zc_neT rfl h9 ?_
          refine (zz_go 1 (fr' := (zm_G_partner, d + 6, 41, [some (.ref 192), some (.ref 4), some (.int x0), some (.int a1.1), some (.int (Int32.ofNat i1)), some (.int (v_G_firstPartner M a1.1 (Int32.ofNat i1)))], [.int (v_G_firstPartner M a1.1 (Int32.ofNat i1))])) (h' := (zt_T L, zt_R, M, J, e)) (fun _ => rfl)).trans ?_
          refine zl_retI rfl rfl ?_
          have y1 := hx2 (by simp only [g_G_partner_1, h4, h6, h9, zk_t, zk_f, zb_t, zb_f])
          simpa only [g_G_partner_1, h4, h6, h9, zk_t, zk_f, zb_t, zb_f] using y1
        · refine zc_neF rfl h9 ?_
          refine (zz_go 2 (fr' := (zm_G_partner, d + 6, 45, [some (.ref 192), some (.ref 4), some (.int x0), some (.int a1.1), some (.int (Int32.ofNat i1)), some (.int (v_G_firstPartner M a1.1 (Int32.ofNat i1)))], [.int x0, .int (v_G_firstPartner M a1.1 (Int32.ofNat i1))])) (h' := (zt_T L, zt_R, M, J, e)) (fun _ => rfl)).trans ?_
          rcases zz_bc (decide ((v_G_firstPartner M a1.1 (Int32.ofNat i1)) = x0)) with h10 | h10
          · refine zc_neT rfl h10 ?_
            refine (zz_go 1 (fr' := (zm_G_partner, d + 6, 50, [some (.ref 192), some (.ref 4), some (.int x0), some (.int a1.1), some (.int (Int32.ofNat i1)), some (.int (v_G_firstPartner M a1.1 (Int32.ofNat i1)))], [.int (Int32.ofNat i1)])) (h' := (zt_T L, zt_R, M, J, e)) (fun _ => rfl)).trans ?_
            refine zl_retI rfl rfl ?_
            have y1 := hx2 (by simp only [g_G_partner_1, h4, h6, h9, h10, zk_t, zk_f, zb_t, zb_f])
            simpa only [g_G_partner_1, h4, h6, h9, h10, zk_t, zk_f, zb_t, zb_f] using y1
          · refine zc_neF rfl h10 ?_
            refine zz_jn (X := zz_D (zm_G_partner, d + 6, 70, [some (.ref 192), some (.ref 4), some (.int x0), none, some (.int (Int32.ofNat i1)), none], [.int (bif (decide ((v_G_firstPartner M a1.1 (Int32.ofNat i1)) = (-1 : Int32))) then (0 : Int32) else (zsl (1 : Int32) (v_G_firstPartner M a1.1 (Int32.ofNat i1)))), .int (zsl (1 : Int32) (Int32.ofNat i1)), .int a1.1]) (zt_T L, zt_R, M, J, e)) (fun j11 => ?_) ?_
            · refine (zz_go 6 (fr' := (zm_G_partner, d + 6, 59, [some (.ref 192), some (.ref 4), some (.int x0), some (.int a1.1), some (.int (Int32.ofNat i1)), some (.int (v_G_firstPartner M a1.1 (Int32.ofNat i1)))], [.int (-1 : Int32), .int (v_G_firstPartner M a1.1 (Int32.ofNat i1)), .int (zsl (1 : Int32) (Int32.ofNat i1)), .int a1.1])) (h' := (zt_T L, zt_R, M, J, e)) (fun _ => rfl)).trans ?_
              rcases zz_bc (decide ((v_G_firstPartner M a1.1 (Int32.ofNat i1)) = (-1 : Int32))) with h12 | h12
              · refine zc_neT rfl h12 ?_
                refine (zz_go 2 (fr' := (zm_G_partner, d + 6, 70, [some (.ref 192), some (.ref 4), some (.int x0), some (.int a1.1), some (.int (Int32.ofNat i1)), some (.int (v_G_firstPartner M a1.1 (Int32.ofNat i1)))], [.int (0 : Int32), .int (zsl (1 : Int32) (Int32.ofNat i1)), .int a1.1])) (h' := (zt_T L, zt_R, M, J, e)) (fun _ => rfl)).trans ?_
                refine zz_weak (L := [some (.ref 192), some (.ref 4), some (.int x0), none, some (.int (Int32.ofNat i1)), none]) ⟨Or.inl rfl, Or.inl rfl, Or.inl rfl, Or.inr ⟨rfl, rfl⟩, Or.inl rfl, Or.inr ⟨rfl, rfl⟩, trivial⟩ ?_
                simpa only [h12, zk_t, zk_f, zb_t, zb_f] using j11
              · refine zc_neF rfl h12 ?_
                refine (zz_go 3 (fr' := (zm_G_partner, d + 6, 70, [some (.ref 192), some (.ref 4), some (.int x0), some (.int a1.1), some (.int (Int32.ofNat i1)), some (.int (v_G_firstPartner M a1.1 (Int32.ofNat i1)))], [.int (zsl (1 : Int32) (v_G_firstPartner M a1.1 (Int32.ofNat i1))), .int (zsl (1 : Int32) (Int32.ofNat i1)), .int a1.1])) (h' := (zt_T L, zt_R, M, J, e)) (fun _ => rfl)).trans ?_
                refine zz_weak (L := [some (.ref 192), some (.ref 4), some (.int x0), none, some (.int (Int32.ofNat i1)), none]) ⟨Or.inl rfl, Or.inl rfl, Or.inl rfl, Or.inr ⟨rfl, rfl⟩, Or.inl rfl, Or.inr ⟨rfl, rfl⟩, trivial⟩ ?_
                simpa only [h12, zk_t, zk_f, zb_t, zb_f] using j11
            refine (zz_go 5 (fr' := (zm_G_partner, d + 6, 5, [some (.ref 192), some (.ref 4), some (.int x0), some (.int (a1.1 ||| ((zsl (1 : Int32) (Int32.ofNat i1)) ||| (bif (decide ((v_G_firstPartner M a1.1 (Int32.ofNat i1)) = (-1 : Int32))) then (0 : Int32) else (zsl (1 : Int32) (v_G_firstPartner M a1.1 (Int32.ofNat i1))))))), some (.int (Int32.ofNat i1 + 1)), none], [])) (h' := (zt_T L, zt_R, M, J, e)) (fun _ => rfl)).trans ?_
            rw [zi_succ i1]
            have y1 := hx1 (by simp only [g_G_partner_1, h4, h6, h9, h10, zk_t, zk_f, zb_t, zb_f])
            simpa only [g_G_partner_1, h4, h6, h9, h10, zk_t, zk_f, zb_t, zb_f] using y1
      · refine zo_neF rfl h6 ?_
        refine (zz_go 2 (fr' := (zm_G_partner, d + 6, 5, [some (.ref 192), some (.ref 4), some (.int x0), some (.int a1.1), some (.int (Int32.ofNat i1 + 1)), none], [])) (h' := (zt_T L, zt_R, M, J, e)) (fun _ => rfl)).trans ?_
        rw [zi_succ i1]
        have y1 := hx1 (by simp only [g_G_partner_1, h4, h6, zk_t, zk_f, zb_t, zb_f])
        simpa only [g_G_partner_1, h4, h6, zk_t, zk_f, zb_t, zb_f] using y1
  show (bif (zf_wh 1000 (g_G_partner_1 M x0) 0 ((0 : Int32), false, 0)).2.1 then some (.inl (some (.int (zf_wh 1000 (g_G_partner_1 M x0) 0 ((0 : Int32), false, 0)).2.2)), (zt_T L, zt_R, M, J, e)) else zz_D (zm_G_partner, d + 6, 79, [none, none, none, none, none, none], []) (zt_T L, zt_R, M, J, e)) = _
  refine zz_ec (fun h13 => ?_) (fun h13 => ?_)
  · skip
    first | (simp only [h13, zk_t, zk_f, zb_t, zb_f]; done) | (simp only [h13, zk_t, zk_f, zb_t, zb_f]; rfl) | rfl
  refine (zz_go 1 (fr' := (zm_G_partner, d + 6, 80, [none, none, none, none, none, none], [.int (-1 : Int32)])) (h' := (zt_T L, zt_R, M, J, e)) (fun _ => rfl)).trans ?_
  refine zl_retI rfl rfl ?_
  first | (simp only [h13, zk_t, zk_f, zb_t, zb_f]; done) | (simp only [h13, zk_t, zk_f, zb_t, zb_f]; rfl) | rfl
