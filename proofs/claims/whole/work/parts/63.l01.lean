/-! LIFTED: S_marksOf S_deedBitOf S_hasDoneItsDeed S_awaitsDeed S_deedsHad S_isFound S_everybody S_plainOnes S_bearers S_toldByGroup S_deedsOfKinds S_kindsLike S_fits S_fates S_kindsMarkedAt S_thumb S_fameOfAll S_share S_membersOfAll S_deedsOfAll S_rubbedOfAll S_dockerGain S_needleGain S_addRow S_rowPart S_draw S_growOld L_learn L_joined L_take L_applies L_total L_comes L_makesKnown S_bringDeed S_shakeOver S_endYear S_passYear -/
def v_S_marksOf (M : zMem) (s : Nat) (x0 : Int32) : Int32 := (bif (v_S_isPlain M s x0) then (0 : Int32) else (M (s + 1) (M (s + 4) (x0).toNatClampNeg).toNatClampNeg))
def ok_S_marksOf (M : zMem) (s : Nat) (x0 : Int32) : Prop := (ok_S_isPlain M s x0 ∧ ((v_S_isPlain M s x0) = false → (zz_in x0 6 = true ∧ zz_in (M (s + 4) (x0).toNatClampNeg) 8 = true)))
set_option maxRecDepth 20000 in
set_option maxHeartbeats 2000000 in
theorem s_S_marksOf (L e : Nat) (J : zJem) (d : Nat) (M : zMem) (s : Nat) (x0 : Int32) (hs : zt_St s) (k0 : ok_S_marksOf M s x0) : zz_D (zm_S_marksOf, d + 2, 0, [some (.ref s), some (.int x0)], []) (zt_T L, zt_R, M, J, e) = some (.inl (some (.int (v_S_marksOf M s x0))), (zt_T L, zt_R, M, J, e)) := by
  unfold ok_S_marksOf at k0
  unfold v_S_marksOf
  refine (zz_go 2 (fr' := (zm_S_marksOf, d + 2, 2, [some (.ref s), some (.int x0)], [.int x0, .ref s])) (h' := (zt_T L, zt_R, M, J, e)) (fun _ => rfl)).trans ?_
  obtain ⟨g1, k2⟩ := k0
  refine zl_vt (d := d + 1) rfl rfl rfl (zt_St0 L hs) rfl rfl rfl rfl rfl rfl (s_S_isPlain L e J (d + 0) M s x0 hs g1) ?_
  show zz_D (zm_S_marksOf, d + 2, 5, [some (.ref s), some (.int x0)], [.int (zb (v_S_isPlain M s x0))]) (zt_T L, zt_R, M, J, e) = _
  refine zz_jn (X := zz_D (zm_S_marksOf, d + 2, 23, [none, none], [.int (bif (v_S_isPlain M s x0) then (0 : Int32) else (M (s + 1) (M (s + 4) (x0).toNatClampNeg).toNatClampNeg))]) (zt_T L, zt_R, M, J, e)) (fun j3 => ?_) ?_
  · rcases zz_bc (v_S_isPlain M s x0) with h4 | h4
    · refine zq_eT rfl h4 ?_
      refine (zz_go 2 (fr' := (zm_S_marksOf, d + 2, 23, [some (.ref s), some (.int x0)], [.int (0 : Int32)])) (h' := (zt_T L, zt_R, M, J, e)) (fun _ => rfl)).trans ?_
      refine zz_weak (L := [none, none]) ⟨Or.inr ⟨rfl, rfl⟩, Or.inr ⟨rfl, rfl⟩, trivial⟩ ?_
      simpa only [h4, zk_t, zk_f, zb_t, zb_f] using j3
    · refine zq_eF rfl h4 ?_
      have k5 := k2 h4
      refine (zz_go 1 (fr' := (zm_S_marksOf, d + 2, 13, [some (.ref s), some (.int x0)], [.ref s])) (h' := (zt_T L, zt_R, M, J, e)) (fun _ => rfl)).trans ?_
      refine zl_getR rfl (zt_St0 L hs) (zt_StR0 hs) ?_
      refine (zz_go 1 (fr' := (zm_S_marksOf, d + 2, 17, [some (.ref s), some (.int x0)], [.ref s, .ref (s + 1)])) (h' := (zt_T L, zt_R, M, J, e)) (fun _ => rfl)).trans ?_
      refine zl_getR rfl (zt_St0 L hs) (zt_StR3 hs) ?_
      refine (zz_go 1 (fr' := (zm_S_marksOf, d + 2, 21, [some (.ref s), some (.int x0)], [.int x0, .ref (s + 4), .ref (s + 1)])) (h' := (zt_T L, zt_R, M, J, e)) (fun _ => rfl)).trans ?_
      obtain ⟨g6, k7⟩ := k5
      refine zl_iaload rfl (zt_St4 L hs) g6 rfl ?_
      have g8 : zz_in (M (s + 4) (x0).toNatClampNeg) 8 = true := k7
      refine zl_iaload rfl (zt_St1 L hs) g8 rfl ?_
      refine zz_weak (L := [none, none]) ⟨Or.inr ⟨rfl, rfl⟩, Or.inr ⟨rfl, rfl⟩, trivial⟩ ?_
      simpa only [h4, zk_t, zk_f, zb_t, zb_f] using j3
  refine zl_retI rfl rfl ?_
  rfl
def v_S_deedBitOf (M : zMem) (s : Nat) (x0 : Int32) : Int32 := (bif (v_S_isPlain M s x0) then (0 : Int32) else (zsl (1 : Int32) (M (s + 2) (M (s + 4) (x0).toNatClampNeg).toNatClampNeg)))
def ok_S_deedBitOf (M : zMem) (s : Nat) (x0 : Int32) : Prop := (ok_S_isPlain M s x0 ∧ ((v_S_isPlain M s x0) = false → (zz_in x0 6 = true ∧ zz_in (M (s + 4) (x0).toNatClampNeg) 8 = true)))
set_option maxRecDepth 20000 in
set_option maxHeartbeats 2000000 in
theorem s_S_deedBitOf (L e : Nat) (J : zJem) (d : Nat) (M : zMem) (s : Nat) (x0 : Int32) (hs : zt_St s) (k0 : ok_S_deedBitOf M s x0) : zz_D (zm_S_deedBitOf, d + 2, 0, [some (.ref s), some (.int x0)], []) (zt_T L, zt_R, M, J, e) = some (.inl (some (.int (v_S_deedBitOf M s x0))), (zt_T L, zt_R, M, J, e)) := by
  unfold ok_S_deedBitOf at k0
  unfold v_S_deedBitOf
  refine (zz_go 2 (fr' := (zm_S_deedBitOf, d + 2, 2, [some (.ref s), some (.int x0)], [.int x0, .ref s])) (h' := (zt_T L, zt_R, M, J, e)) (fun _ => rfl)).trans ?_
  obtain ⟨g1, k2⟩ := k0
  refine zl_vt (d := d + 1) rfl rfl rfl (zt_St0 L hs) rfl rfl rfl rfl rfl rfl (s_S_isPlain L e J (d + 0) M s x0 hs g1) ?_
  show zz_D (zm_S_deedBitOf, d + 2, 5, [some (.ref s), some (.int x0)], [.int (zb (v_S_isPlain M s x0))]) (zt_T L, zt_R, M, J, e) = _
  refine zz_jn (X := zz_D (zm_S_deedBitOf, d + 2, 25, [none, none], [.int (bif (v_S_isPlain M s x0) then (0 : Int32) else (zsl (1 : Int32) (M (s + 2) (M (s + 4) (x0).toNatClampNeg).toNatClampNeg)))]) (zt_T L, zt_R, M, J, e)) (fun j3 => ?_) ?_
  · rcases zz_bc (v_S_isPlain M s x0) with h4 | h4
    · refine zq_eT rfl h4 ?_
      refine (zz_go 2 (fr' := (zm_S_deedBitOf, d + 2, 25, [some (.ref s), some (.int x0)], [.int (0 : Int32)])) (h' := (zt_T L, zt_R, M, J, e)) (fun _ => rfl)).trans ?_
      refine zz_weak (L := [none, none]) ⟨Or.inr ⟨rfl, rfl⟩, Or.inr ⟨rfl, rfl⟩, trivial⟩ ?_
      simpa only [h4, zk_t, zk_f, zb_t, zb_f] using j3
    · refine zq_eF rfl h4 ?_
      have k5 := k2 h4
      refine (zz_go 2 (fr' := (zm_S_deedBitOf, d + 2, 14, [some (.ref s), some (.int x0)], [.ref s, .int (1 : Int32)])) (h' := (zt_T L, zt_R, M, J, e)) (fun _ => rfl)).trans ?_
      refine zl_getR rfl (zt_St0 L hs) (zt_StR1 hs) ?_
      refine (zz_go 1 (fr' := (zm_S_deedBitOf, d + 2, 18, [some (.ref s), some (.int x0)], [.ref s, .ref (s + 2), .int (1 : Int32)])) (h' := (zt_T L, zt_R, M, J, e)) (fun _ => rfl)).trans ?_
      refine zl_getR rfl (zt_St0 L hs) (zt_StR3 hs) ?_
      refine (zz_go 1 (fr' := (zm_S_deedBitOf, d + 2, 22, [some (.ref s), some (.int x0)], [.int x0, .ref (s + 4), .ref (s + 2), .int (1 : Int32)])) (h' := (zt_T L, zt_R, M, J, e)) (fun _ => rfl)).trans ?_
      obtain ⟨g6, k7⟩ := k5
      refine zl_iaload rfl (zt_St4 L hs) g6 rfl ?_
      have g8 : zz_in (M (s + 4) (x0).toNatClampNeg) 8 = true := k7
      refine zl_iaload rfl (zt_St2 L hs) g8 rfl ?_
      refine (zz_go 1 (fr' := (zm_S_deedBitOf, d + 2, 25, [some (.ref s), some (.int x0)], [.int (zsl (1 : Int32) (M (s + 2) (M (s + 4) (x0).toNatClampNeg).toNatClampNeg))])) (h' := (zt_T L, zt_R, M, J, e)) (fun _ => rfl)).trans ?_
      refine zz_weak (L := [none, none]) ⟨Or.inr ⟨rfl, rfl⟩, Or.inr ⟨rfl, rfl⟩, trivial⟩ ?_
      simpa only [h4, zk_t, zk_f, zb_t, zb_f] using j3
  refine zl_retI rfl rfl ?_
  rfl
def v_S_hasDoneItsDeed (M : zMem) (s : Nat) (x0 : Int32) : Bool := (bif (decide (((M (s + 8) (x0).toNatClampNeg) &&& (v_S_deedBitOf M s x0)) = 0)) then false else true)
def ok_S_hasDoneItsDeed (M : zMem) (s : Nat) (x0 : Int32) : Prop := (zz_in x0 6 = true ∧ ok_S_deedBitOf M s x0)
set_option maxRecDepth 20000 in
set_option maxHeartbeats 2000000 in
theorem s_S_hasDoneItsDeed (L e : Nat) (J : zJem) (d : Nat) (M : zMem) (s : Nat) (x0 : Int32) (hs : zt_St s) (k0 : ok_S_hasDoneItsDeed M s x0) : zz_D (zm_S_hasDoneItsDeed, d + 3, 0, [some (.ref s), some (.int x0)], []) (zt_T L, zt_R, M, J, e) = some (.inl (some (.int (zb (v_S_hasDoneItsDeed M s x0)))), (zt_T L, zt_R, M, J, e)) := by
  unfold ok_S_hasDoneItsDeed at k0
  unfold v_S_hasDoneItsDeed
  refine (zz_go 1 (fr' := (zm_S_hasDoneItsDeed, d + 3, 1, [some (.ref s), some (.int x0)], [.ref s])) (h' := (zt_T L, zt_R, M, J, e)) (fun _ => rfl)).trans ?_
  refine zl_getR rfl (zt_St0 L hs) (zt_StR7 hs) ?_
  refine (zz_go 1 (fr' := (zm_S_hasDoneItsDeed, d + 3, 5, [some (.ref s), some (.int x0)], [.int x0, .ref (s + 8)])) (h' := (zt_T L, zt_R, M, J, e)) (fun _ => rfl)).trans ?_
  obtain ⟨g1, k2⟩ := k0
  refine zl_iaload rfl (zt_St8 L hs) g1 rfl ?_
  refine (zz_go 2 (fr' := (zm_S_hasDoneItsDeed, d + 3, 8, [some (.ref s), some (.int x0)], [.int x0, .ref s, .int (M (s + 8) (x0).toNatClampNeg)])) (h' := (zt_T L, zt_R, M, J, e)) (fun _ => rfl)).trans ?_
  have g3 : ok_S_deedBitOf M s x0 := k2
  refine zl_vt (d := d + 2) rfl rfl rfl (zt_St0 L hs) rfl rfl rfl rfl rfl rfl (s_S_deedBitOf L e J (d + 0) M s x0 hs g3) ?_
  show zz_D (zm_S_hasDoneItsDeed, d + 3, 11, [some (.ref s), some (.int x0)], [.int (v_S_deedBitOf M s x0), .int (M (s + 8) (x0).toNatClampNeg)]) (zt_T L, zt_R, M, J, e) = _
  refine zz_jn (X := zz_D (zm_S_hasDoneItsDeed, d + 3, 20, [none, none], [.int (zb (bif (decide (((M (s + 8) (x0).toNatClampNeg) &&& (v_S_deedBitOf M s x0)) = 0)) then false else true))]) (zt_T L, zt_R, M, J, e)) (fun j4 => ?_) ?_
  · refine (zz_go 1 (fr' := (zm_S_hasDoneItsDeed, d + 3, 12, [some (.ref s), some (.int x0)], [.int ((M (s + 8) (x0).toNatClampNeg) &&& (v_S_deedBitOf M s x0))])) (h' := (zt_T L, zt_R, M, J, e)) (fun _ => rfl)).trans ?_
    rcases zz_bc (decide (((M (s + 8) (x0).toNatClampNeg) &&& (v_S_deedBitOf M s x0)) = 0)) with h5 | h5
    · refine zo_eqT rfl h5 ?_
      refine (zz_go 1 (fr' := (zm_S_hasDoneItsDeed, d + 3, 20, [some (.ref s), some (.int x0)], [.int (0 : Int32)])) (h' := (zt_T L, zt_R, M, J, e)) (fun _ => rfl)).trans ?_
      refine zz_weak (L := [none, none]) ⟨Or.inr ⟨rfl, rfl⟩, Or.inr ⟨rfl, rfl⟩, trivial⟩ ?_
      simpa only [h5, zk_t, zk_f, zb_t, zb_f] using j4
    · refine zo_eqF rfl h5 ?_
      refine (zz_go 2 (fr' := (zm_S_hasDoneItsDeed, d + 3, 20, [some (.ref s), some (.int x0)], [.int (1 : Int32)])) (h' := (zt_T L, zt_R, M, J, e)) (fun _ => rfl)).trans ?_
      refine zz_weak (L := [none, none]) ⟨Or.inr ⟨rfl, rfl⟩, Or.inr ⟨rfl, rfl⟩, trivial⟩ ?_
      simpa only [h5, zk_t, zk_f, zb_t, zb_f] using j4
  refine zl_retI rfl (zb_01 _) ?_
  rfl
def v_S_awaitsDeed (M : zMem) (s : Nat) (x0 : Int32) : Bool := (bif (v_S_isPlain M s x0) then false else (bif (v_S_hasDoneItsDeed M s x0) then false else true))
def ok_S_awaitsDeed (M : zMem) (s : Nat) (x0 : Int32) : Prop := (ok_S_isPlain M s x0 ∧ ((v_S_isPlain M s x0) = false → ok_S_hasDoneItsDeed M s x0))
set_option maxRecDepth 20000 in
set_option maxHeartbeats 2000000 in
theorem s_S_awaitsDeed (L e : Nat) (J : zJem) (d : Nat) (M : zMem) (s : Nat) (x0 : Int32) (hs : zt_St s) (k0 : ok_S_awaitsDeed M s x0) : zz_D (zm_S_awaitsDeed, d + 4, 0, [some (.ref s), some (.int x0)], []) (zt_T L, zt_R, M, J, e) = some (.inl (some (.int (zb (v_S_awaitsDeed M s x0)))), (zt_T L, zt_R, M, J, e)) := by
  unfold ok_S_awaitsDeed at k0
  unfold v_S_awaitsDeed
  refine (zz_go 2 (fr' := (zm_S_awaitsDeed, d + 4, 2, [some (.ref s), some (.int x0)], [.int x0, .ref s])) (h' := (zt_T L, zt_R, M, J, e)) (fun _ => rfl)).trans ?_
  obtain ⟨g1, k2⟩ := k0
  refine zl_vt (d := d + 3) rfl rfl rfl (zt_St0 L hs) rfl rfl rfl rfl rfl rfl (s_S_isPlain L e J (d + 2) M s x0 hs g1) ?_
  show zz_D (zm_S_awaitsDeed, d + 4, 5, [some (.ref s), some (.int x0)], [.int (zb (v_S_isPlain M s x0))]) (zt_T L, zt_R, M, J, e) = _
  refine zz_jn (X := zz_D (zm_S_awaitsDeed, d + 4, 21, [none, none], [.int (zb (bif (v_S_isPlain M s x0) then false else (bif (v_S_hasDoneItsDeed M s x0) then false else true)))]) (zt_T L, zt_R, M, J, e)) (fun j3 => ?_) ?_
  · rcases zz_bc (v_S_isPlain M s x0) with h4 | h4
    · refine zq_fT rfl h4 ?_
      refine (zz_go 1 (fr' := (zm_S_awaitsDeed, d + 4, 21, [some (.ref s), some (.int x0)], [.int (0 : Int32)])) (h' := (zt_T L, zt_R, M, J, e)) (fun _ => rfl)).trans ?_
      refine zz_weak (L := [none, none]) ⟨Or.inr ⟨rfl, rfl⟩, Or.inr ⟨rfl, rfl⟩, trivial⟩ ?_
      simpa only [h4, zk_t, zk_f, zb_t, zb_f] using j3
    · refine zq_fF rfl h4 ?_
      have k5 := k2 h4
      refine (zz_go 2 (fr' := (zm_S_awaitsDeed, d + 4, 10, [some (.ref s), some (.int x0)], [.int x0, .ref s])) (h' := (zt_T L, zt_R, M, J, e)) (fun _ => rfl)).trans ?_
      have g6 : ok_S_hasDoneItsDeed M s x0 := k5
      refine zl_vt (d := d + 3) rfl rfl rfl (zt_St0 L hs) rfl rfl rfl rfl rfl rfl (s_S_hasDoneItsDeed L e J (d + 0) M s x0 hs g6) ?_
      show zz_D (zm_S_awaitsDeed, d + 4, 13, [some (.ref s), some (.int x0)], [.int (zb (v_S_hasDoneItsDeed M s x0))]) (zt_T L, zt_R, M, J, e) = _
      refine zz_jn (X := zz_D (zm_S_awaitsDeed, d + 4, 21, [none, none], [.int (zb (bif (v_S_hasDoneItsDeed M s x0) then false else true))]) (zt_T L, zt_R, M, J, e)) (fun j7 => ?_) ?_
      · rcases zz_bc (v_S_hasDoneItsDeed M s x0) with h8 | h8
        · refine zq_fT rfl h8 ?_
          refine (zz_go 1 (fr' := (zm_S_awaitsDeed, d + 4, 21, [some (.ref s), some (.int x0)], [.int (0 : Int32)])) (h' := (zt_T L, zt_R, M, J, e)) (fun _ => rfl)).trans ?_
          refine zz_weak (L := [none, none]) ⟨Or.inr ⟨rfl, rfl⟩, Or.inr ⟨rfl, rfl⟩, trivial⟩ ?_
          simpa only [h8, zk_t, zk_f, zb_t, zb_f] using j7
        · refine zq_fF rfl h8 ?_
          refine (zz_go 2 (fr' := (zm_S_awaitsDeed, d + 4, 21, [some (.ref s), some (.int x0)], [.int (1 : Int32)])) (h' := (zt_T L, zt_R, M, J, e)) (fun _ => rfl)).trans ?_
          refine zz_weak (L := [none, none]) ⟨Or.inr ⟨rfl, rfl⟩, Or.inr ⟨rfl, rfl⟩, trivial⟩ ?_
          simpa only [h8, zk_t, zk_f, zb_t, zb_f] using j7
      simpa only [h4, zk_t, zk_f, zb_t, zb_f] using j3
  refine zl_retI rfl (zb_01 _) ?_
  rfl
def v_S_deedsHad (M : zMem) (s : Nat) (x0 : Int32) : Int32 := ((M (s + 8) (x0).toNatClampNeg) ||| (v_S_deedBitOf M s x0))
def ok_S_deedsHad (M : zMem) (s : Nat) (x0 : Int32) : Prop := (zz_in x0 6 = true ∧ ok_S_deedBitOf M s x0)
set_option maxRecDepth 20000 in
set_option maxHeartbeats 2000000 in
theorem s_S_deedsHad (L e : Nat) (J : zJem) (d : Nat) (M : zMem) (s : Nat) (x0 : Int32) (hs : zt_St s) (k0 : ok_S_deedsHad M s x0) : zz_D (zm_S_deedsHad, d + 3, 0, [some (.ref s), some (.int x0)], []) (zt_T L, zt_R, M, J, e) = some (.inl (some (.int (v_S_deedsHad M s x0))), (zt_T L, zt_R, M, J, e)) := by
  unfold ok_S_deedsHad at k0
  unfold v_S_deedsHad
  refine (zz_go 1 (fr' := (zm_S_deedsHad, d + 3, 1, [some (.ref s), some (.int x0)], [.ref s])) (h' := (zt_T L, zt_R, M, J, e)) (fun _ => rfl)).trans ?_
  refine zl_getR rfl (zt_St0 L hs) (zt_StR7 hs) ?_
  refine (zz_go 1 (fr' := (zm_S_deedsHad, d + 3, 5, [some (.ref s), some (.int x0)], [.int x0, .ref (s + 8)])) (h' := (zt_T L, zt_R, M, J, e)) (fun _ => rfl)).trans ?_
  obtain ⟨g1, k2⟩ := k0
  refine zl_iaload rfl (zt_St8 L hs) g1 rfl ?_
  refine (zz_go 2 (fr' := (zm_S_deedsHad, d + 3, 8, [some (.ref s), some (.int x0)], [.int x0, .ref s, .int (M (s + 8) (x0).toNatClampNeg)])) (h' := (zt_T L, zt_R, M, J, e)) (fun _ => rfl)).trans ?_
  have g3 : ok_S_deedBitOf M s x0 := k2
  refine zl_vt (d := d + 2) rfl rfl rfl (zt_St0 L hs) rfl rfl rfl rfl rfl rfl (s_S_deedBitOf L e J (d + 0) M s x0 hs g3) ?_
  show zz_D (zm_S_deedsHad, d + 3, 11, [some (.ref s), some (.int x0)], [.int (v_S_deedBitOf M s x0), .int (M (s + 8) (x0).toNatClampNeg)]) (zt_T L, zt_R, M, J, e) = _
  refine (zz_go 1 (fr' := (zm_S_deedsHad, d + 3, 12, [some (.ref s), some (.int x0)], [.int ((M (s + 8) (x0).toNatClampNeg) ||| (v_S_deedBitOf M s x0))])) (h' := (zt_T L, zt_R, M, J, e)) (fun _ => rfl)).trans ?_
  refine zl_retI rfl rfl ?_
  rfl
def v_S_isFound (M : zMem) (s : Nat) (x0 : Int32) : Bool := (decide (((v_S_marksOf M s x0) &&& ((M (s + 5) (x0).toNatClampNeg) ^^^ (-1 : Int32))) = 0))
def ok_S_isFound (M : zMem) (s : Nat) (x0 : Int32) : Prop := (ok_S_marksOf M s x0 ∧ zz_in x0 6 = true)
set_option maxRecDepth 20000 in
set_option maxHeartbeats 2000000 in
theorem s_S_isFound (L e : Nat) (J : zJem) (d : Nat) (M : zMem) (s : Nat) (x0 : Int32) (hs : zt_St s) (k0 : ok_S_isFound M s x0) : zz_D (zm_S_isFound, d + 3, 0, [some (.ref s), some (.int x0)], []) (zt_T L, zt_R, M, J, e) = some (.inl (some (.int (zb (v_S_isFound M s x0)))), (zt_T L, zt_R, M, J, e)) := by
  unfold ok_S_isFound at k0
  unfold v_S_isFound
  refine (zz_go 2 (fr' := (zm_S_isFound, d + 3, 2, [some (.ref s), some (.int x0)], [.int x0, .ref s])) (h' := (zt_T L, zt_R, M, J, e)) (fun _ => rfl)).trans ?_
  obtain ⟨g1, k2⟩ := k0
  refine zl_vt (d := d + 2) rfl rfl rfl (zt_St0 L hs) rfl rfl rfl rfl rfl rfl (s_S_marksOf L e J (d + 0) M s x0 hs g1) ?_
  show zz_D (zm_S_isFound, d + 3, 5, [some (.ref s), some (.int x0)], [.int (v_S_marksOf M s x0)]) (zt_T L, zt_R, M, J, e) = _
  refine (zz_go 1 (fr' := (zm_S_isFound, d + 3, 6, [some (.ref s), some (.int x0)], [.ref s, .int (v_S_marksOf M s x0)])) (h' := (zt_T L, zt_R, M, J, e)) (fun _ => rfl)).trans ?_
  refine zl_getR rfl (zt_St0 L hs) (zt_StR4 hs) ?_
  refine (zz_go 1 (fr' := (zm_S_isFound, d + 3, 10, [some (.ref s), some (.int x0)], [.int x0, .ref (s + 5), .int (v_S_marksOf M s x0)])) (h' := (zt_T L, zt_R, M, J, e)) (fun _ => rfl)).trans ?_
  have g3 : zz_in x0 6 = true := k2
  refine zl_iaload rfl (zt_St5 L hs) g3 rfl ?_
  refine zz_jn (X := zz_D (zm_S_isFound, d + 3, 22, [none, none], [.int (zb (decide (((v_S_marksOf M s x0) &&& ((M (s + 5) (x0).toNatClampNeg) ^^^ (-1 : Int32))) = 0)))]) (zt_T L, zt_R, M, J, e)) (fun j4 => ?_) ?_
  · refine (zz_go 3 (fr' := (zm_S_isFound, d + 3, 14, [some (.ref s), some (.int x0)], [.int ((v_S_marksOf M s x0) &&& ((M (s + 5) (x0).toNatClampNeg) ^^^ (-1 : Int32)))])) (h' := (zt_T L, zt_R, M, J, e)) (fun _ => rfl)).trans ?_
    rcases zz_bc (decide (((v_S_marksOf M s x0) &&& ((M (s + 5) (x0).toNatClampNeg) ^^^ (-1 : Int32))) = 0)) with h5 | h5
    · refine zo_neT rfl h5 ?_
      refine (zz_go 2 (fr' := (zm_S_isFound, d + 3, 22, [some (.ref s), some (.int x0)], [.int (1 : Int32)])) (h' := (zt_T L, zt_R, M, J, e)) (fun _ => rfl)).trans ?_
      refine zz_weak (L := [none, none]) ⟨Or.inr ⟨rfl, rfl⟩, Or.inr ⟨rfl, rfl⟩, trivial⟩ ?_
      simpa only [h5, zk_t, zk_f, zb_t, zb_f] using j4
    · refine zo_neF rfl h5 ?_
      refine (zz_go 1 (fr' := (zm_S_isFound, d + 3, 22, [some (.ref s), some (.int x0)], [.int (0 : Int32)])) (h' := (zt_T L, zt_R, M, J, e)) (fun _ => rfl)).trans ?_
      refine zz_weak (L := [none, none]) ⟨Or.inr ⟨rfl, rfl⟩, Or.inr ⟨rfl, rfl⟩, trivial⟩ ?_
      simpa only [h5, zk_t, zk_f, zb_t, zb_f] using j4
  refine zl_retI rfl (zb_01 _) ?_
  rfl
def v_S_everybody (M : zMem) (s : Nat) : Int32 := ((zsl (1 : Int32) (M s 10)) - (1 : Int32))
set_option maxRecDepth 20000 in
set_option maxHeartbeats 2000000 in
theorem s_S_everybody (L e : Nat) (J : zJem) (d : Nat) (M : zMem) (s : Nat) (hs : zt_St s) : zz_D (zm_S_everybody, d + 1, 0, [some (.ref s)], []) (zt_T L, zt_R, M, J, e) = some (.inl (some (.int (v_S_everybody M s))), (zt_T L, zt_R, M, J, e)) := by
  unfold v_S_everybody
  refine (zz_go 2 (fr' := (zm_S_everybody, d + 1, 2, [some (.ref s)], [.ref s, .int (1 : Int32)])) (h' := (zt_T L, zt_R, M, J, e)) (fun _ => rfl)).trans ?_
  refine zl_getI rfl (by decide) (zt_St0 L hs) rfl ?_
  refine (zz_go 3 (fr' := (zm_S_everybody, d + 1, 8, [some (.ref s)], [.int ((zsl (1 : Int32) (M s 10)) - (1 : Int32))])) (h' := (zt_T L, zt_R, M, J, e)) (fun _ => rfl)).trans ?_
  refine zl_retI rfl rfl ?_
  rfl
def f_S_plainOnes_1 (M : zMem) (s : Nat) (i1 : Nat) (a1 : Int32) : Int32 := (bif (v_S_isPlain M s (Int32.ofNat i1)) then (a1 ||| (zsl (1 : Int32) (Int32.ofNat i1))) else a1)
def kb_S_plainOnes_1 (M : zMem) (s : Nat) (i1 : Nat) (a1 : Int32) : Prop := ok_S_isPlain M s (Int32.ofNat i1)
def v_S_plainOnes (M : zMem) (s : Nat) : Int32 := (zf_for (M s 10).toNatClampNeg (f_S_plainOnes_1 M s) (0 : Int32))
def ok_S_plainOnes (M : zMem) (s : Nat) : Prop := (∀ i1, i1 < (M s 10).toNatClampNeg → kb_S_plainOnes_1 M s i1 (zf_for i1 (f_S_plainOnes_1 M s) (0 : Int32)))
set_option maxRecDepth 20000 in
set_option maxHeartbeats 2000000 in
theorem s_S_plainOnes (L e : Nat) (J : zJem) (d : Nat) (M : zMem) (s : Nat) (hs : zt_St s) (k0 : ok_S_plainOnes M s) : zz_D (zm_S_plainOnes, d + 2, 0, [some (.ref s), none, none], []) (zt_T L, zt_R, M, J, e) = some (.inl (some (.int (v_S_plainOnes M s))), (zt_T L, zt_R, M, J, e)) := by
  unfold ok_S_plainOnes at k0
  unfold v_S_plainOnes
  refine (zz_go 4 (fr' := (zm_S_plainOnes, d + 2, 4, [some (.ref s), some (.int (0 : Int32)), some (.int (0 : Int32))], [])) (h' := (zt_T L, zt_R, M, J, e)) (fun _ => rfl)).trans ?_
  refine zf_forD (X := fun (i1 : Nat) (a1 : Int32) => zz_D (zm_S_plainOnes, d + 2, 4, [some (.ref s), some (.int a1), some (.int (Int32.ofNat i1))], []) (zt_T L, zt_R, M, J, e)) (f := (f_S_plainOnes_1 M s)) (a := (0 : Int32)) (M s 10).toNatClampNeg (fun i1 hi1 => ?_) ?_
  · intro hx1
    have k2 := k0 i1 hi1
    generalize zf_for i1 (f_S_plainOnes_1 M s) (0 : Int32) = a1 at hx1 k2 ⊢
    show zz_D (zm_S_plainOnes, d + 2, 4, [some (.ref s), some (.int a1), some (.int (Int32.ofNat i1))], []) (zt_T L, zt_R, M, J, e) = _
    unfold kb_S_plainOnes_1 at k2
    refine (zz_go 2 (fr' := (zm_S_plainOnes, d + 2, 6, [some (.ref s), some (.int a1), some (.int (Int32.ofNat i1))], [.ref s, .int (Int32.ofNat i1)])) (h' := (zt_T L, zt_R, M, J, e)) (fun _ => rfl)).trans ?_
    refine zl_getI rfl (by decide) (zt_St0 L hs) rfl ?_
    refine zc_geF rfl (zi_lt hi1) ?_
    refine (zz_go 2 (fr' := (zm_S_plainOnes, d + 2, 14, [some (.ref s), some (.int a1), some (.int (Int32.ofNat i1))], [.int (Int32.ofNat i1), .ref s])) (h' := (zt_T L, zt_R, M, J, e)) (fun _ => rfl)).trans ?_
    have g3 : ok_S_isPlain M s (Int32.ofNat i1) := k2
    refine zl_vt (d := d + 1) rfl rfl rfl (zt_St0 L hs) rfl rfl rfl rfl rfl rfl (s_S_isPlain L e J (d + 0) M s (Int32.ofNat i1) hs g3) ?_
    show zz_D (zm_S_plainOnes, d + 2, 17, [some (.ref s), some (.int a1), some (.int (Int32.ofNat i1))], [.int (zb (v_S_isPlain M s (Int32.ofNat i1)))]) (zt_T L, zt_R, M, J, e) = _
    refine zz_jn (X := zz_D (zm_S_plainOnes, d + 2, 26, [some (.ref s), some (.int (bif (v_S_isPlain M s (Int32.ofNat i1)) then (a1 ||| (zsl (1 : Int32) (Int32.ofNat i1))) else a1)), some (.int (Int32.ofNat i1))], []) (zt_T L, zt_R, M, J, e)) (fun j4 => ?_) ?_
    · rcases zz_bc (v_S_isPlain M s (Int32.ofNat i1)) with h5 | h5
      · refine zq_eT rfl h5 ?_
        refine (zz_go 6 (fr' := (zm_S_plainOnes, d + 2, 26, [some (.ref s), some (.int (a1 ||| (zsl (1 : Int32) (Int32.ofNat i1)))), some (.int (Int32.ofNat i1))], [])) (h' := (zt_T L, zt_R, M, J, e)) (fun _ => rfl)).trans ?_
        simpa only [h5, zk_t, zk_f, zb_t, zb_f] using j4
      · refine zq_eF rfl h5 ?_
        simpa only [h5, zk_t, zk_f, zb_t, zb_f] using j4
    refine (zz_go 2 (fr' := (zm_S_plainOnes, d + 2, 4, [some (.ref s), some (.int (bif (v_S_isPlain M s (Int32.ofNat i1)) then (a1 ||| (zsl (1 : Int32) (Int32.ofNat i1))) else a1)), some (.int (Int32.ofNat i1 + 1))], [])) (h' := (zt_T L, zt_R, M, J, e)) (fun _ => rfl)).trans ?_
    rw [zi_succ i1]
    simpa only [f_S_plainOnes_1] using hx1
  show zz_D (zm_S_plainOnes, d + 2, 4, [some (.ref s), some (.int (zf_for (M s 10).toNatClampNeg (f_S_plainOnes_1 M s) (0 : Int32))), some (.int (Int32.ofNat (M s 10).toNatClampNeg))], []) (zt_T L, zt_R, M, J, e) = _
  refine (zz_go 2 (fr' := (zm_S_plainOnes, d + 2, 6, [some (.ref s), some (.int (zf_for (M s 10).toNatClampNeg (f_S_plainOnes_1 M s) (0 : Int32))), some (.int (Int32.ofNat (M s 10).toNatClampNeg))], [.ref s, .int (Int32.ofNat (M s 10).toNatClampNeg)])) (h' := (zt_T L, zt_R, M, J, e)) (fun _ => rfl)).trans ?_
  refine zl_getI rfl (by decide) (zt_St0 L hs) rfl ?_
  refine zc_geT rfl (zi_ge _) ?_
  refine zz_weak (L := [none, some (.int (zf_for (M s 10).toNatClampNeg (f_S_plainOnes_1 M s) (0 : Int32))), none]) ⟨Or.inr ⟨rfl, rfl⟩, Or.inl rfl, Or.inr ⟨rfl, rfl⟩, trivial⟩ ?_
  refine (zz_go 1 (fr' := (zm_S_plainOnes, d + 2, 33, [none, some (.int (zf_for (M s 10).toNatClampNeg (f_S_plainOnes_1 M s) (0 : Int32))), none], [.int (zf_for (M s 10).toNatClampNeg (f_S_plainOnes_1 M s) (0 : Int32))])) (h' := (zt_T L, zt_R, M, J, e)) (fun _ => rfl)).trans ?_
  refine zl_retI rfl rfl ?_
  rfl
def f_S_bearers_1 (M : zMem) (s : Nat) (x0 : Int32) (i1 : Nat) (a1 : Int32) : Int32 := (bif (decide ((M (s + 4) i1) = x0)) then (a1 ||| (zsl (1 : Int32) (Int32.ofNat i1))) else a1)
def kb_S_bearers_1 (M : zMem) (s : Nat) (x0 : Int32) (i1 : Nat) (a1 : Int32) : Prop := zz_in (Int32.ofNat i1) 6 = true
def v_S_bearers (M : zMem) (s : Nat) (x0 : Int32) : Int32 := (zf_for (M s 10).toNatClampNeg (f_S_bearers_1 M s x0) (0 : Int32))
def ok_S_bearers (M : zMem) (s : Nat) (x0 : Int32) : Prop := (∀ i1, i1 < (M s 10).toNatClampNeg → kb_S_bearers_1 M s x0 i1 (zf_for i1 (f_S_bearers_1 M s x0) (0 : Int32)))
set_option maxRecDepth 20000 in
set_option maxHeartbeats 2000000 in
theorem s_S_bearers (L e : Nat) (J : zJem) (d : Nat) (M : zMem) (s : Nat) (x0 : Int32) (hs : zt_St s) (k0 : ok_S_bearers M s x0) : zz_D (zm_S_bearers, d + 1, 0, [some (.ref s), some (.int x0), none, none], []) (zt_T L, zt_R, M, J, e) = some (.inl (some (.int (v_S_bearers M s x0))), (zt_T L, zt_R, M, J, e)) := by
  unfold ok_S_bearers at k0
  unfold v_S_bearers
  refine (zz_go 4 (fr' := (zm_S_bearers, d + 1, 4, [some (.ref s), some (.int x0), some (.int (0 : Int32)), some (.int (0 : Int32))], [])) (h' := (zt_T L, zt_R, M, J, e)) (fun _ => rfl)).trans ?_
  refine zf_forD (X := fun (i1 : Nat) (a1 : Int32) => zz_D (zm_S_bearers, d + 1, 4, [some (.ref s), some (.int x0), some (.int a1), some (.int (Int32.ofNat i1))], []) (zt_T L, zt_R, M, J, e)) (f := (f_S_bearers_1 M s x0)) (a := (0 : Int32)) (M s 10).toNatClampNeg (fun i1 hi1 => ?_) ?_
  · intro hx1
    have k2 := k0 i1 hi1
    generalize zf_for i1 (f_S_bearers_1 M s x0) (0 : Int32) = a1 at hx1 k2 ⊢
    show zz_D (zm_S_bearers, d + 1, 4, [some (.ref s), some (.int x0), some (.int a1), some (.int (Int32.ofNat i1))], []) (zt_T L, zt_R, M, J, e) = _
    unfold kb_S_bearers_1 at k2
    refine (zz_go 2 (fr' := (zm_S_bearers, d + 1, 6, [some (.ref s), some (.int x0), some (.int a1), some (.int (Int32.ofNat i1))], [.ref s, .int (Int32.ofNat i1)])) (h' := (zt_T L, zt_R, M, J, e)) (fun _ => rfl)).trans ?_
    refine zl_getI rfl (by decide) (zt_St0 L hs) rfl ?_
    refine zc_geF rfl (zi_lt hi1) ?_
    refine (zz_go 1 (fr' := (zm_S_bearers, d + 1, 13, [some (.ref s), some (.int x0), some (.int a1), some (.int (Int32.ofNat i1))], [.ref s])) (h' := (zt_T L, zt_R, M, J, e)) (fun _ => rfl)).trans ?_
    refine zl_getR rfl (zt_St0 L hs) (zt_StR3 hs) ?_
    refine (zz_go 1 (fr' := (zm_S_bearers, d + 1, 17, [some (.ref s), some (.int x0), some (.int a1), some (.int (Int32.ofNat i1))], [.int (Int32.ofNat i1), .ref (s + 4)])) (h' := (zt_T L, zt_R, M, J, e)) (fun _ => rfl)).trans ?_
    have g3 : zz_in (Int32.ofNat i1) 6 = true := k2
    refine zl_iaload rfl (zt_St4 L hs) g3 (by rw [(zi_nat (by have := zi_tn (M s 10); omega))] <;> exact rfl) ?_
    refine zz_jn (X := zz_D (zm_S_bearers, d + 1, 28, [some (.ref s), some (.int x0), some (.int (bif (decide ((M (s + 4) i1) = x0)) then (a1 ||| (zsl (1 : Int32) (Int32.ofNat i1))) else a1)), some (.int (Int32.ofNat i1))], []) (zt_T L, zt_R, M, J, e)) (fun j4 => ?_) ?_
    · refine (zz_go 1 (fr' := (zm_S_bearers, d + 1, 19, [some (.ref s), some (.int x0), some (.int a1), some (.int (Int32.ofNat i1))], [.int x0, .int (M (s + 4) i1)])) (h' := (zt_T L, zt_R, M, J, e)) (fun _ => rfl)).trans ?_
      rcases zz_bc (decide ((M (s + 4) i1) = x0)) with h5 | h5
      · refine zc_neT rfl h5 ?_
        refine (zz_go 6 (fr' := (zm_S_bearers, d + 1, 28, [some (.ref s), some (.int x0), some (.int (a1 ||| (zsl (1 : Int32) (Int32.ofNat i1)))), some (.int (Int32.ofNat i1))], [])) (h' := (zt_T L, zt_R, M, J, e)) (fun _ => rfl)).trans ?_
        simpa only [h5, zk_t, zk_f, zb_t, zb_f] using j4
      · refine zc_neF rfl h5 ?_
        simpa only [h5, zk_t, zk_f, zb_t, zb_f] using j4
    refine (zz_go 2 (fr' := (zm_S_bearers, d + 1, 4, [some (.ref s), some (.int x0), some (.int (bif (decide ((M (s + 4) i1) = x0)) then (a1 ||| (zsl (1 : Int32) (Int32.ofNat i1))) else a1)), some (.int (Int32.ofNat i1 + 1))], [])) (h' := (zt_T L, zt_R, M, J, e)) (fun _ => rfl)).trans ?_
    rw [zi_succ i1]
    simpa only [f_S_bearers_1] using hx1
  show zz_D (zm_S_bearers, d + 1, 4, [some (.ref s), some (.int x0), some (.int (zf_for (M s 10).toNatClampNeg (f_S_bearers_1 M s x0) (0 : Int32))), some (.int (Int32.ofNat (M s 10).toNatClampNeg))], []) (zt_T L, zt_R, M, J, e) = _
  refine (zz_go 2 (fr' := (zm_S_bearers, d + 1, 6, [some (.ref s), some (.int x0), some (.int (zf_for (M s 10).toNatClampNeg (f_S_bearers_1 M s x0) (0 : Int32))), some (.int (Int32.ofNat (M s 10).toNatClampNeg))], [.ref s, .int (Int32.ofNat (M s 10).toNatClampNeg)])) (h' := (zt_T L, zt_R, M, J, e)) (fun _ => rfl)).trans ?_
  refine zl_getI rfl (by decide) (zt_St0 L hs) rfl ?_
  refine zc_geT rfl (zi_ge _) ?_
  refine zz_weak (L := [none, none, some (.int (zf_for (M s 10).toNatClampNeg (f_S_bearers_1 M s x0) (0 : Int32))), none]) ⟨Or.inr ⟨rfl, rfl⟩, Or.inr ⟨rfl, rfl⟩, Or.inl rfl, Or.inr ⟨rfl, rfl⟩, trivial⟩ ?_
  refine (zz_go 1 (fr' := (zm_S_bearers, d + 1, 35, [none, none, some (.int (zf_for (M s 10).toNatClampNeg (f_S_bearers_1 M s x0) (0 : Int32))), none], [.int (zf_for (M s 10).toNatClampNeg (f_S_bearers_1 M s x0) (0 : Int32))])) (h' := (zt_T L, zt_R, M, J, e)) (fun _ => rfl)).trans ?_
  refine zl_retI rfl rfl ?_
  rfl
def f_S_toldByGroup_1 (M : zMem) (s : Nat) (x0 : Int32) (i1 : Nat) (a1 : Int32) : Int32 := (bif (decide (((zsr x0 (Int32.ofNat i1)) &&& (1 : Int32)) = 0)) then a1 else (a1 ||| (v_S_deedBitOf M s (Int32.ofNat i1))))
def kb_S_toldByGroup_1 (M : zMem) (s : Nat) (x0 : Int32) (i1 : Nat) (a1 : Int32) : Prop := ((decide (((zsr x0 (Int32.ofNat i1)) &&& (1 : Int32)) = 0)) = false → ok_S_deedBitOf M s (Int32.ofNat i1))
def v_S_toldByGroup (M : zMem) (s : Nat) (x0 : Int32) : Int32 := (zf_for (M s 10).toNatClampNeg (f_S_toldByGroup_1 M s x0) (0 : Int32))
def ok_S_toldByGroup (M : zMem) (s : Nat) (x0 : Int32) : Prop := (∀ i1, i1 < (M s 10).toNatClampNeg → kb_S_toldByGroup_1 M s x0 i1 (zf_for i1 (f_S_toldByGroup_1 M s x0) (0 : Int32)))
set_option maxRecDepth 20000 in
set_option maxHeartbeats 2000000 in
theorem s_S_toldByGroup (L e : Nat) (J : zJem) (d : Nat) (M : zMem) (s : Nat) (x0 : Int32) (hs : zt_St s) (k0 : ok_S_toldByGroup M s x0) : zz_D (zm_S_toldByGroup, d + 3, 0, [some (.ref s), some (.int x0), none, none], []) (zt_T L, zt_R, M, J, e) = some (.inl (some (.int (v_S_toldByGroup M s x0))), (zt_T L, zt_R, M, J, e)) := by
  unfold ok_S_toldByGroup at k0
  unfold v_S_toldByGroup
  refine (zz_go 4 (fr' := (zm_S_toldByGroup, d + 3, 4, [some (.ref s), some (.int x0), some (.int (0 : Int32)), some (.int (0 : Int32))], [])) (h' := (zt_T L, zt_R, M, J, e)) (fun _ => rfl)).trans ?_
  refine zf_forD (X := fun (i1 : Nat) (a1 : Int32) => zz_D (zm_S_toldByGroup, d + 3, 4, [some (.ref s), some (.int x0), some (.int a1), some (.int (Int32.ofNat i1))], []) (zt_T L, zt_R, M, J, e)) (f := (f_S_toldByGroup_1 M s x0)) (a := (0 : Int32)) (M s 10).toNatClampNeg (fun i1 hi1 => ?_) ?_
  · intro hx1
    have k2 := k0 i1 hi1
    generalize zf_for i1 (f_S_toldByGroup_1 M s x0) (0 : Int32) = a1 at hx1 k2 ⊢
    show zz_D (zm_S_toldByGroup, d + 3, 4, [some (.ref s), some (.int x0), some (.int a1), some (.int (Int32.ofNat i1))], []) (zt_T L, zt_R, M, J, e) = _
    unfold kb_S_toldByGroup_1 at k2
    refine (zz_go 2 (fr' := (zm_S_toldByGroup, d + 3, 6, [some (.ref s), some (.int x0), some (.int a1), some (.int (Int32.ofNat i1))], [.ref s, .int (Int32.ofNat i1)])) (h' := (zt_T L, zt_R, M, J, e)) (fun _ => rfl)).trans ?_
    refine zl_getI rfl (by decide) (zt_St0 L hs) rfl ?_
    refine zc_geF rfl (zi_lt hi1) ?_
    refine zz_jn (X := zz_D (zm_S_toldByGroup, d + 3, 28, [some (.ref s), some (.int x0), some (.int (bif (decide (((zsr x0 (Int32.ofNat i1)) &&& (1 : Int32)) = 0)) then a1 else (a1 ||| (v_S_deedBitOf M s (Int32.ofNat i1))))), some (.int (Int32.ofNat i1))], []) (zt_T L, zt_R, M, J, e)) (fun j3 => ?_) ?_
    · refine (zz_go 5 (fr' := (zm_S_toldByGroup, d + 3, 17, [some (.ref s), some (.int x0), some (.int a1), some (.int (Int32.ofNat i1))], [.int ((zsr x0 (Int32.ofNat i1)) &&& (1 : Int32))])) (h' := (zt_T L, zt_R, M, J, e)) (fun _ => rfl)).trans ?_
      rcases zz_bc (decide (((zsr x0 (Int32.ofNat i1)) &&& (1 : Int32)) = 0)) with h4 | h4
      · refine zo_eqT rfl h4 ?_
        simpa only [h4, zk_t, zk_f, zb_t, zb_f] using j3
      · refine zo_eqF rfl h4 ?_
        have k5 := k2 h4
        refine (zz_go 3 (fr' := (zm_S_toldByGroup, d + 3, 23, [some (.ref s), some (.int x0), some (.int a1), some (.int (Int32.ofNat i1))], [.int (Int32.ofNat i1), .ref s, .int a1])) (h' := (zt_T L, zt_R, M, J, e)) (fun _ => rfl)).trans ?_
        have g6 : ok_S_deedBitOf M s (Int32.ofNat i1) := k5
        refine zl_vt (d := d + 2) rfl rfl rfl (zt_St0 L hs) rfl rfl rfl rfl rfl rfl (s_S_deedBitOf L e J (d + 0) M s (Int32.ofNat i1) hs g6) ?_
        show zz_D (zm_S_toldByGroup, d + 3, 26, [some (.ref s), some (.int x0), some (.int a1), some (.int (Int32.ofNat i1))], [.int (v_S_deedBitOf M s (Int32.ofNat i1)), .int a1]) (zt_T L, zt_R, M, J, e) = _
        refine (zz_go 2 (fr' := (zm_S_toldByGroup, d + 3, 28, [some (.ref s), some (.int x0), some (.int (a1 ||| (v_S_deedBitOf M s (Int32.ofNat i1)))), some (.int (Int32.ofNat i1))], [])) (h' := (zt_T L, zt_R, M, J, e)) (fun _ => rfl)).trans ?_
        simpa only [h4, zk_t, zk_f, zb_t, zb_f] using j3
    refine (zz_go 2 (fr' := (zm_S_toldByGroup, d + 3, 4, [some (.ref s), some (.int x0), some (.int (bif (decide (((zsr x0 (Int32.ofNat i1)) &&& (1 : Int32)) = 0)) then a1 else (a1 ||| (v_S_deedBitOf M s (Int32.ofNat i1))))), some (.int (Int32.ofNat i1 + 1))], [])) (h' := (zt_T L, zt_R, M, J, e)) (fun _ => rfl)).trans ?_
    rw [zi_succ i1]
    simpa only [f_S_toldByGroup_1] using hx1
  show zz_D (zm_S_toldByGroup, d + 3, 4, [some (.ref s), some (.int x0), some (.int (zf_for (M s 10).toNatClampNeg (f_S_toldByGroup_1 M s x0) (0 : Int32))), some (.int (Int32.ofNat (M s 10).toNatClampNeg))], []) (zt_T L, zt_R, M, J, e) = _
  refine (zz_go 2 (fr' := (zm_S_toldByGroup, d + 3, 6, [some (.ref s), some (.int x0), some (.int (zf_for (M s 10).toNatClampNeg (f_S_toldByGroup_1 M s x0) (0 : Int32))), some (.int (Int32.ofNat (M s 10).toNatClampNeg))], [.ref s, .int (Int32.ofNat (M s 10).toNatClampNeg)])) (h' := (zt_T L, zt_R, M, J, e)) (fun _ => rfl)).trans ?_
  refine zl_getI rfl (by decide) (zt_St0 L hs) rfl ?_
  refine zc_geT rfl (zi_ge _) ?_
  refine zz_weak (L := [none, none, some (.int (zf_for (M s 10).toNatClampNeg (f_S_toldByGroup_1 M s x0) (0 : Int32))), none]) ⟨Or.inr ⟨rfl, rfl⟩, Or.inr ⟨rfl, rfl⟩, Or.inl rfl, Or.inr ⟨rfl, rfl⟩, trivial⟩ ?_
  refine (zz_go 1 (fr' := (zm_S_toldByGroup, d + 3, 35, [none, none, some (.int (zf_for (M s 10).toNatClampNeg (f_S_toldByGroup_1 M s x0) (0 : Int32))), none], [.int (zf_for (M s 10).toNatClampNeg (f_S_toldByGroup_1 M s x0) (0 : Int32))])) (h' := (zt_T L, zt_R, M, J, e)) (fun _ => rfl)).trans ?_
  refine zl_retI rfl rfl ?_
  rfl
def f_S_deedsOfKinds_1 (M : zMem) (s : Nat) (x0 : Int32) (i1 : Nat) (a1 : Int32) : Int32 := (bif (decide (((zsr x0 (Int32.ofNat i1)) &&& (1 : Int32)) = 0)) then a1 else (a1 ||| (zsl (1 : Int32) (M (s + 2) i1))))
def v_S_deedsOfKinds (M : zMem) (s : Nat) (x0 : Int32) : Int32 := (zf_for 8 (f_S_deedsOfKinds_1 M s x0) (0 : Int32))
set_option maxRecDepth 20000 in
set_option maxHeartbeats 2000000 in
theorem s_S_deedsOfKinds (L e : Nat) (J : zJem) (d : Nat) (M : zMem) (s : Nat) (x0 : Int32) (hs : zt_St s) : zz_D (zm_S_deedsOfKinds, d + 1, 0, [some (.ref s), some (.int x0), none, none], []) (zt_T L, zt_R, M, J, e) = some (.inl (some (.int (v_S_deedsOfKinds M s x0))), (zt_T L, zt_R, M, J, e)) := by
  unfold v_S_deedsOfKinds
  refine (zz_go 4 (fr' := (zm_S_deedsOfKinds, d + 1, 4, [some (.ref s), some (.int x0), some (.int (0 : Int32)), some (.int (0 : Int32))], [])) (h' := (zt_T L, zt_R, M, J, e)) (fun _ => rfl)).trans ?_
  refine zf_forD (X := fun (i1 : Nat) (a1 : Int32) => zz_D (zm_S_deedsOfKinds, d + 1, 4, [some (.ref s), some (.int x0), some (.int a1), some (.int (Int32.ofNat i1))], []) (zt_T L, zt_R, M, J, e)) (f := (f_S_deedsOfKinds_1 M s x0)) (a := (0 : Int32)) 8 (fun i1 hi1 => ?_) ?_
  · intro hx1
    generalize zf_for i1 (f_S_deedsOfKinds_1 M s x0) (0 : Int32) = a1 at hx1 ⊢
    show zz_D (zm_S_deedsOfKinds, d + 1, 4, [some (.ref s), some (.int x0), some (.int a1), some (.int (Int32.ofNat i1))], []) (zt_T L, zt_R, M, J, e) = _
    refine (zz_go 2 (fr' := (zm_S_deedsOfKinds, d + 1, 7, [some (.ref s), some (.int x0), some (.int a1), some (.int (Int32.ofNat i1))], [.int (8 : Int32), .int (Int32.ofNat i1)])) (h' := (zt_T L, zt_R, M, J, e)) (fun _ => rfl)).trans ?_
    refine zc_geF rfl (zi_ltc (n := 8) (by omega) (by decide)) ?_
    refine zz_jn (X := zz_D (zm_S_deedsOfKinds, d + 1, 29, [some (.ref s), some (.int x0), some (.int (bif (decide (((zsr x0 (Int32.ofNat i1)) &&& (1 : Int32)) = 0)) then a1 else (a1 ||| (zsl (1 : Int32) (M (s + 2) i1))))), some (.int (Int32.ofNat i1))], []) (zt_T L, zt_R, M, J, e)) (fun j3 => ?_) ?_
    · refine (zz_go 5 (fr' := (zm_S_deedsOfKinds, d + 1, 15, [some (.ref s), some (.int x0), some (.int a1), some (.int (Int32.ofNat i1))], [.int ((zsr x0 (Int32.ofNat i1)) &&& (1 : Int32))])) (h' := (zt_T L, zt_R, M, J, e)) (fun _ => rfl)).trans ?_
      rcases zz_bc (decide (((zsr x0 (Int32.ofNat i1)) &&& (1 : Int32)) = 0)) with h4 | h4
      · refine zo_eqT rfl h4 ?_
        simpa only [h4, zk_t, zk_f, zb_t, zb_f] using j3
      · refine zo_eqF rfl h4 ?_
        refine (zz_go 3 (fr' := (zm_S_deedsOfKinds, d + 1, 21, [some (.ref s), some (.int x0), some (.int a1), some (.int (Int32.ofNat i1))], [.ref s, .int (1 : Int32), .int a1])) (h' := (zt_T L, zt_R, M, J, e)) (fun _ => rfl)).trans ?_
        refine zl_getR rfl (zt_St0 L hs) (zt_StR1 hs) ?_
        refine (zz_go 1 (fr' := (zm_S_deedsOfKinds, d + 1, 25, [some (.ref s), some (.int x0), some (.int a1), some (.int (Int32.ofNat i1))], [.int (Int32.ofNat i1), .ref (s + 2), .int (1 : Int32), .int a1])) (h' := (zt_T L, zt_R, M, J, e)) (fun _ => rfl)).trans ?_
        refine zl_iaload rfl (zt_St2 L hs) (zi_in (by omega) (by decide)) (by rw [(zi_nat (by omega))] <;> exact rfl) ?_
        refine (zz_go 3 (fr' := (zm_S_deedsOfKinds, d + 1, 29, [some (.ref s), some (.int x0), some (.int (a1 ||| (zsl (1 : Int32) (M (s + 2) i1)))), some (.int (Int32.ofNat i1))], [])) (h' := (zt_T L, zt_R, M, J, e)) (fun _ => rfl)).trans ?_
        simpa only [h4, zk_t, zk_f, zb_t, zb_f] using j3
    refine (zz_go 2 (fr' := (zm_S_deedsOfKinds, d + 1, 4, [some (.ref s), some (.int x0), some (.int (bif (decide (((zsr x0 (Int32.ofNat i1)) &&& (1 : Int32)) = 0)) then a1 else (a1 ||| (zsl (1 : Int32) (M (s + 2) i1))))), some (.int (Int32.ofNat i1 + 1))], [])) (h' := (zt_T L, zt_R, M, J, e)) (fun _ => rfl)).trans ?_
    rw [zi_succ i1]
    simpa only [f_S_deedsOfKinds_1] using hx1
  show zz_D (zm_S_deedsOfKinds, d + 1, 4, [some (.ref s), some (.int x0), some (.int (zf_for 8 (f_S_deedsOfKinds_1 M s x0) (0 : Int32))), some (.int (Int32.ofNat 8))], []) (zt_T L, zt_R, M, J, e) = _
  refine (zz_go 2 (fr' := (zm_S_deedsOfKinds, d + 1, 7, [some (.ref s), some (.int x0), some (.int (zf_for 8 (f_S_deedsOfKinds_1 M s x0) (0 : Int32))), some (.int (Int32.ofNat 8))], [.int (8 : Int32), .int (Int32.ofNat 8)])) (h' := (zt_T L, zt_R, M, J, e)) (fun _ => rfl)).trans ?_
  refine zc_geT rfl (by decide) ?_
  refine zz_weak (L := [none, none, some (.int (zf_for 8 (f_S_deedsOfKinds_1 M s x0) (0 : Int32))), none]) ⟨Or.inr ⟨rfl, rfl⟩, Or.inr ⟨rfl, rfl⟩, Or.inl rfl, Or.inr ⟨rfl, rfl⟩, trivial⟩ ?_
  refine (zz_go 1 (fr' := (zm_S_deedsOfKinds, d + 1, 36, [none, none, some (.int (zf_for 8 (f_S_deedsOfKinds_1 M s x0) (0 : Int32))), none], [.int (zf_for 8 (f_S_deedsOfKinds_1 M s x0) (0 : Int32))])) (h' := (zt_T L, zt_R, M, J, e)) (fun _ => rfl)).trans ?_
  refine zl_retI rfl rfl ?_
  rfl
def f_S_kindsLike_1 (M : zMem) (s : Nat) (x0 : Int32) (x1 : Int32) (i1 : Nat) (a1 : Int32) : Int32 := (bif (decide ((((M (s + 1) i1) ^^^ (M (s + 1) (x0).toNatClampNeg)) &&& x1) = 0)) then (a1 ||| (zsl (1 : Int32) (Int32.ofNat i1))) else a1)
def kb_S_kindsLike_1 (M : zMem) (s : Nat) (x0 : Int32) (x1 : Int32) (i1 : Nat) (a1 : Int32) : Prop := zz_in x0 8 = true
def v_S_kindsLike (M : zMem) (s : Nat) (x0 : Int32) (x1 : Int32) : Int32 := (zf_for 8 (f_S_kindsLike_1 M s x0 x1) (0 : Int32))
def ok_S_kindsLike (M : zMem) (s : Nat) (x0 : Int32) (x1 : Int32) : Prop := (∀ i1, i1 < 8 → kb_S_kindsLike_1 M s x0 x1 i1 (zf_for i1 (f_S_kindsLike_1 M s x0 x1) (0 : Int32)))
set_option maxRecDepth 20000 in
set_option maxHeartbeats 2000000 in
theorem s_S_kindsLike (L e : Nat) (J : zJem) (d : Nat) (M : zMem) (s : Nat) (x0 : Int32) (x1 : Int32) (hs : zt_St s) (k0 : ok_S_kindsLike M s x0 x1) : zz_D (zm_S_kindsLike, d + 1, 0, [some (.ref s), some (.int x0), some (.int x1), none, none], []) (zt_T L, zt_R, M, J, e) = some (.inl (some (.int (v_S_kindsLike M s x0 x1))), (zt_T L, zt_R, M, J, e)) := by
  unfold ok_S_kindsLike at k0
  unfold v_S_kindsLike
  refine (zz_go 4 (fr' := (zm_S_kindsLike, d + 1, 5, [some (.ref s), some (.int x0), some (.int x1), some (.int (0 : Int32)), some (.int (0 : Int32))], [])) (h' := (zt_T L, zt_R, M, J, e)) (fun _ => rfl)).trans ?_
  refine zf_forD (X := fun (i1 : Nat) (a1 : Int32) => zz_D (zm_S_kindsLike, d + 1, 5, [some (.ref s), some (.int x0), some (.int x1), some (.int a1), some (.int (Int32.ofNat i1))], []) (zt_T L, zt_R, M, J, e)) (f := (f_S_kindsLike_1 M s x0 x1)) (a := (0 : Int32)) 8 (fun i1 hi1 => ?_) ?_
  · intro hx1
    have k2 := k0 i1 hi1
    generalize zf_for i1 (f_S_kindsLike_1 M s x0 x1) (0 : Int32) = a1 at hx1 k2 ⊢
    show zz_D (zm_S_kindsLike, d + 1, 5, [some (.ref s), some (.int x0), some (.int x1), some (.int a1), some (.int (Int32.ofNat i1))], []) (zt_T L, zt_R, M, J, e) = _
    unfold kb_S_kindsLike_1 at k2
    refine (zz_go 2 (fr' := (zm_S_kindsLike, d + 1, 9, [some (.ref s), some (.int x0), some (.int x1), some (.int a1), some (.int (Int32.ofNat i1))], [.int (8 : Int32), .int (Int32.ofNat i1)])) (h' := (zt_T L, zt_R, M, J, e)) (fun _ => rfl)).trans ?_
    refine zc_geF rfl (zi_ltc (n := 8) (by omega) (by decide)) ?_
    refine (zz_go 1 (fr' := (zm_S_kindsLike, d + 1, 13, [some (.ref s), some (.int x0), some (.int x1), some (.int a1), some (.int (Int32.ofNat i1))], [.ref s])) (h' := (zt_T L, zt_R, M, J, e)) (fun _ => rfl)).trans ?_
    refine zl_getR rfl (zt_St0 L hs) (zt_StR0 hs) ?_
    refine (zz_go 1 (fr' := (zm_S_kindsLike, d + 1, 18, [some (.ref s), some (.int x0), some (.int x1), some (.int a1), some (.int (Int32.ofNat i1))], [.int (Int32.ofNat i1), .ref (s + 1)])) (h' := (zt_T L, zt_R, M, J, e)) (fun _ => rfl)).trans ?_
    refine zl_iaload rfl (zt_St1 L hs) (zi_in (by omega) (by decide)) (by rw [(zi_nat (by omega))] <;> exact rfl) ?_
    refine (zz_go 1 (fr' := (zm_S_kindsLike, d + 1, 20, [some (.ref s), some (.int x0), some (.int x1), some (.int a1), some (.int (Int32.ofNat i1))], [.ref s, .int (M (s + 1) i1)])) (h' := (zt_T L, zt_R, M, J, e)) (fun _ => rfl)).trans ?_
    refine zl_getR rfl (zt_St0 L hs) (zt_StR0 hs) ?_
    refine (zz_go 1 (fr' := (zm_S_kindsLike, d + 1, 24, [some (.ref s), some (.int x0), some (.int x1), some (.int a1), some (.int (Int32.ofNat i1))], [.int x0, .ref (s + 1), .int (M (s + 1) i1)])) (h' := (zt_T L, zt_R, M, J, e)) (fun _ => rfl)).trans ?_
    have g3 : zz_in x0 8 = true := k2
    refine zl_iaload rfl (zt_St1 L hs) g3 rfl ?_
    refine zz_jn (X := zz_D (zm_S_kindsLike, d + 1, 38, [some (.ref s), some (.int x0), some (.int x1), some (.int (bif (decide ((((M (s + 1) i1) ^^^ (M (s + 1) (x0).toNatClampNeg)) &&& x1) = 0)) then (a1 ||| (zsl (1 : Int32) (Int32.ofNat i1))) else a1)), some (.int (Int32.ofNat i1))], []) (zt_T L, zt_R, M, J, e)) (fun j4 => ?_) ?_
    · refine (zz_go 3 (fr' := (zm_S_kindsLike, d + 1, 28, [some (.ref s), some (.int x0), some (.int x1), some (.int a1), some (.int (Int32.ofNat i1))], [.int (((M (s + 1) i1) ^^^ (M (s + 1) (x0).toNatClampNeg)) &&& x1)])) (h' := (zt_T L, zt_R, M, J, e)) (fun _ => rfl)).trans ?_
      rcases zz_bc (decide ((((M (s + 1) i1) ^^^ (M (s + 1) (x0).toNatClampNeg)) &&& x1) = 0)) with h5 | h5
      · refine zo_neT rfl h5 ?_
        refine (zz_go 6 (fr' := (zm_S_kindsLike, d + 1, 38, [some (.ref s), some (.int x0), some (.int x1), some (.int (a1 ||| (zsl (1 : Int32) (Int32.ofNat i1)))), some (.int (Int32.ofNat i1))], [])) (h' := (zt_T L, zt_R, M, J, e)) (fun _ => rfl)).trans ?_
        simpa only [h5, zk_t, zk_f, zb_t, zb_f] using j4
      · refine zo_neF rfl h5 ?_
        simpa only [h5, zk_t, zk_f, zb_t, zb_f] using j4
    refine (zz_go 2 (fr' := (zm_S_kindsLike, d + 1, 5, [some (.ref s), some (.int x0), some (.int x1), some (.int (bif (decide ((((M (s + 1) i1) ^^^ (M (s + 1) (x0).toNatClampNeg)) &&& x1) = 0)) then (a1 ||| (zsl (1 : Int32) (Int32.ofNat i1))) else a1)), some (.int (Int32.ofNat i1 + 1))], [])) (h' := (zt_T L, zt_R, M, J, e)) (fun _ => rfl)).trans ?_
    rw [zi_succ i1]
    simpa only [f_S_kindsLike_1] using hx1
  show zz_D (zm_S_kindsLike, d + 1, 5, [some (.ref s), some (.int x0), some (.int x1), some (.int (zf_for 8 (f_S_kindsLike_1 M s x0 x1) (0 : Int32))), some (.int (Int32.ofNat 8))], []) (zt_T L, zt_R, M, J, e) = _
  refine (zz_go 2 (fr' := (zm_S_kindsLike, d + 1, 9, [some (.ref s), some (.int x0), some (.int x1), some (.int (zf_for 8 (f_S_kindsLike_1 M s x0 x1) (0 : Int32))), some (.int (Int32.ofNat 8))], [.int (8 : Int32), .int (Int32.ofNat 8)])) (h' := (zt_T L, zt_R, M, J, e)) (fun _ => rfl)).trans ?_
  refine zc_geT rfl (by decide) ?_
  refine zz_weak (L := [none, none, none, some (.int (zf_for 8 (f_S_kindsLike_1 M s x0 x1) (0 : Int32))), none]) ⟨Or.inr ⟨rfl, rfl⟩, Or.inr ⟨rfl, rfl⟩, Or.inr ⟨rfl, rfl⟩, Or.inl rfl, Or.inr ⟨rfl, rfl⟩, trivial⟩ ?_
  refine (zz_go 1 (fr' := (zm_S_kindsLike, d + 1, 45, [none, none, none, some (.int (zf_for 8 (f_S_kindsLike_1 M s x0 x1) (0 : Int32))), none], [.int (zf_for 8 (f_S_kindsLike_1 M s x0 x1) (0 : Int32))])) (h' := (zt_T L, zt_R, M, J, e)) (fun _ => rfl)).trans ?_
  refine zl_retI rfl rfl ?_
  rfl
def v_S_fits (M : zMem) (s : Nat) (x0 : Int32) : Int32 := (bif (v_S_isPlain M s x0) then (0 : Int32) else (v_S_kindsLike M s (M (s + 4) (x0).toNatClampNeg) (M (s + 5) (x0).toNatClampNeg)))
def ok_S_fits (M : zMem) (s : Nat) (x0 : Int32) : Prop := (ok_S_isPlain M s x0 ∧ ((v_S_isPlain M s x0) = false → (zz_in x0 6 = true ∧ ok_S_kindsLike M s (M (s + 4) (x0).toNatClampNeg) (M (s + 5) (x0).toNatClampNeg))))
set_option maxRecDepth 20000 in
set_option maxHeartbeats 2000000 in
theorem s_S_fits (L e : Nat) (J : zJem) (d : Nat) (M : zMem) (s : Nat) (x0 : Int32) (hs : zt_St s) (k0 : ok_S_fits M s x0) : zz_D (zm_S_fits, d + 2, 0, [some (.ref s), some (.int x0)], []) (zt_T L, zt_R, M, J, e) = some (.inl (some (.int (v_S_fits M s x0))), (zt_T L, zt_R, M, J, e)) := by
  unfold ok_S_fits at k0
  unfold v_S_fits
  refine (zz_go 2 (fr' := (zm_S_fits, d + 2, 2, [some (.ref s), some (.int x0)], [.int x0, .ref s])) (h' := (zt_T L, zt_R, M, J, e)) (fun _ => rfl)).trans ?_
  obtain ⟨g1, k2⟩ := k0
  refine zl_vt (d := d + 1) rfl rfl rfl (zt_St0 L hs) rfl rfl rfl rfl rfl rfl (s_S_isPlain L e J (d + 0) M s x0 hs g1) ?_
  show zz_D (zm_S_fits, d + 2, 5, [some (.ref s), some (.int x0)], [.int (zb (v_S_isPlain M s x0))]) (zt_T L, zt_R, M, J, e) = _
  refine zz_jn (X := zz_D (zm_S_fits, d + 2, 28, [none, none], [.int (bif (v_S_isPlain M s x0) then (0 : Int32) else (v_S_kindsLike M s (M (s + 4) (x0).toNatClampNeg) (M (s + 5) (x0).toNatClampNeg)))]) (zt_T L, zt_R, M, J, e)) (fun j3 => ?_) ?_
  · rcases zz_bc (v_S_isPlain M s x0) with h4 | h4
    · refine zq_eT rfl h4 ?_
      refine (zz_go 2 (fr' := (zm_S_fits, d + 2, 28, [some (.ref s), some (.int x0)], [.int (0 : Int32)])) (h' := (zt_T L, zt_R, M, J, e)) (fun _ => rfl)).trans ?_
      refine zz_weak (L := [none, none]) ⟨Or.inr ⟨rfl, rfl⟩, Or.inr ⟨rfl, rfl⟩, trivial⟩ ?_
      simpa only [h4, zk_t, zk_f, zb_t, zb_f] using j3
    · refine zq_eF rfl h4 ?_
      have k5 := k2 h4
      refine (zz_go 2 (fr' := (zm_S_fits, d + 2, 14, [some (.ref s), some (.int x0)], [.ref s, .ref s])) (h' := (zt_T L, zt_R, M, J, e)) (fun _ => rfl)).trans ?_
      refine zl_getR rfl (zt_St0 L hs) (zt_StR3 hs) ?_
      refine (zz_go 1 (fr' := (zm_S_fits, d + 2, 18, [some (.ref s), some (.int x0)], [.int x0, .ref (s + 4), .ref s])) (h' := (zt_T L, zt_R, M, J, e)) (fun _ => rfl)).trans ?_
      obtain ⟨g6, k7⟩ := k5
      refine zl_iaload rfl (zt_St4 L hs) g6 rfl ?_
      refine (zz_go 1 (fr' := (zm_S_fits, d + 2, 20, [some (.ref s), some (.int x0)], [.ref s, .int (M (s + 4) (x0).toNatClampNeg), .ref s])) (h' := (zt_T L, zt_R, M, J, e)) (fun _ => rfl)).trans ?_
      refine zl_getR rfl (zt_St0 L hs) (zt_StR4 hs) ?_
      refine (zz_go 1 (fr' := (zm_S_fits, d + 2, 24, [some (.ref s), some (.int x0)], [.int x0, .ref (s + 5), .int (M (s + 4) (x0).toNatClampNeg), .ref s])) (h' := (zt_T L, zt_R, M, J, e)) (fun _ => rfl)).trans ?_
      refine zl_iaload rfl (zt_St5 L hs) g6 rfl ?_
      have g8 : ok_S_kindsLike M s (M (s + 4) (x0).toNatClampNeg) (M (s + 5) (x0).toNatClampNeg) := k7
      refine zl_vt (d := d + 1) rfl rfl rfl (zt_St0 L hs) rfl rfl rfl rfl rfl rfl (s_S_kindsLike L e J (d + 0) M s (M (s + 4) (x0).toNatClampNeg) (M (s + 5) (x0).toNatClampNeg) hs g8) ?_
      show zz_D (zm_S_fits, d + 2, 28, [some (.ref s), some (.int x0)], [.int (v_S_kindsLike M s (M (s + 4) (x0).toNatClampNeg) (M (s + 5) (x0).toNatClampNeg))]) (zt_T L, zt_R, M, J, e) = _
      refine zz_weak (L := [none, none]) ⟨Or.inr ⟨rfl, rfl⟩, Or.inr ⟨rfl, rfl⟩, trivial⟩ ?_
      simpa only [h4, zk_t, zk_f, zb_t, zb_f] using j3
  refine zl_retI rfl rfl ?_
  rfl
def v_S_fates (M : zMem) (s : Nat) (x0 : Int32) : Int32 := (v_S_deedsOfKinds M s (v_S_fits M s x0))
def ok_S_fates (M : zMem) (s : Nat) (x0 : Int32) : Prop := ok_S_fits M s x0
set_option maxRecDepth 20000 in
set_option maxHeartbeats 2000000 in
theorem s_S_fates (L e : Nat) (J : zJem) (d : Nat) (M : zMem) (s : Nat) (x0 : Int32) (hs : zt_St s) (k0 : ok_S_fates M s x0) : zz_D (zm_S_fates, d + 3, 0, [some (.ref s), some (.int x0)], []) (zt_T L, zt_R, M, J, e) = some (.inl (some (.int (v_S_fates M s x0))), (zt_T L, zt_R, M, J, e)) := by
  unfold ok_S_fates at k0
  unfold v_S_fates
  refine (zz_go 3 (fr' := (zm_S_fates, d + 3, 3, [some (.ref s), some (.int x0)], [.int x0, .ref s, .ref s])) (h' := (zt_T L, zt_R, M, J, e)) (fun _ => rfl)).trans ?_
  have g1 : ok_S_fits M s x0 := k0
  refine zl_vt (d := d + 2) rfl rfl rfl (zt_St0 L hs) rfl rfl rfl rfl rfl rfl (s_S_fits L e J (d + 0) M s x0 hs g1) ?_
  show zz_D (zm_S_fates, d + 3, 6, [some (.ref s), some (.int x0)], [.int (v_S_fits M s x0), .ref s]) (zt_T L, zt_R, M, J, e) = _
  refine zl_vt (d := d + 2) rfl rfl rfl (zt_St0 L hs) rfl rfl rfl rfl rfl rfl (s_S_deedsOfKinds L e J (d + 1) M s (v_S_fits M s x0) hs) ?_
  show zz_D (zm_S_fates, d + 3, 9, [some (.ref s), some (.int x0)], [.int (v_S_deedsOfKinds M s (v_S_fits M s x0))]) (zt_T L, zt_R, M, J, e) = _
  refine zl_retI rfl rfl ?_
  rfl
def f_S_kindsMarkedAt_1 (M : zMem) (s : Nat) (x0 : Int32) (i1 : Nat) (a1 : Int32) : Int32 := (a1 ||| (zsl ((zsr (M (s + 1) i1) x0) &&& (1 : Int32)) (Int32.ofNat i1)))
def v_S_kindsMarkedAt (M : zMem) (s : Nat) (x0 : Int32) : Int32 := (zf_for 8 (f_S_kindsMarkedAt_1 M s x0) (0 : Int32))
set_option maxRecDepth 20000 in
set_option maxHeartbeats 2000000 in
theorem s_S_kindsMarkedAt (L e : Nat) (J : zJem) (d : Nat) (M : zMem) (s : Nat) (x0 : Int32) (hs : zt_St s) : zz_D (zm_S_kindsMarkedAt, d + 1, 0, [some (.ref s), some (.int x0), none, none], []) (zt_T L, zt_R, M, J, e) = some (.inl (some (.int (v_S_kindsMarkedAt M s x0))), (zt_T L, zt_R, M, J, e)) := by
  unfold v_S_kindsMarkedAt
  refine (zz_go 4 (fr' := (zm_S_kindsMarkedAt, d + 1, 4, [some (.ref s), some (.int x0), some (.int (0 : Int32)), some (.int (0 : Int32))], [])) (h' := (zt_T L, zt_R, M, J, e)) (fun _ => rfl)).trans ?_
  refine zf_forD (X := fun (i1 : Nat) (a1 : Int32) => zz_D (zm_S_kindsMarkedAt, d + 1, 4, [some (.ref s), some (.int x0), some (.int a1), some (.int (Int32.ofNat i1))], []) (zt_T L, zt_R, M, J, e)) (f := (f_S_kindsMarkedAt_1 M s x0)) (a := (0 : Int32)) 8 (fun i1 hi1 => ?_) ?_
  · intro hx1
    generalize zf_for i1 (f_S_kindsMarkedAt_1 M s x0) (0 : Int32) = a1 at hx1 ⊢
    show zz_D (zm_S_kindsMarkedAt, d + 1, 4, [some (.ref s), some (.int x0), some (.int a1), some (.int (Int32.ofNat i1))], []) (zt_T L, zt_R, M, J, e) = _
    refine (zz_go 2 (fr' := (zm_S_kindsMarkedAt, d + 1, 7, [some (.ref s), some (.int x0), some (.int a1), some (.int (Int32.ofNat i1))], [.int (8 : Int32), .int (Int32.ofNat i1)])) (h' := (zt_T L, zt_R, M, J, e)) (fun _ => rfl)).trans ?_
    refine zc_geF rfl (zi_ltc (n := 8) (by omega) (by decide)) ?_
    refine (zz_go 2 (fr' := (zm_S_kindsMarkedAt, d + 1, 12, [some (.ref s), some (.int x0), some (.int a1), some (.int (Int32.ofNat i1))], [.ref s, .int a1])) (h' := (zt_T L, zt_R, M, J, e)) (fun _ => rfl)).trans ?_
    refine zl_getR rfl (zt_St0 L hs) (zt_StR0 hs) ?_
    refine (zz_go 1 (fr' := (zm_S_kindsMarkedAt, d + 1, 16, [some (.ref s), some (.int x0), some (.int a1), some (.int (Int32.ofNat i1))], [.int (Int32.ofNat i1), .ref (s + 1), .int a1])) (h' := (zt_T L, zt_R, M, J, e)) (fun _ => rfl)).trans ?_
    refine zl_iaload rfl (zt_St1 L hs) (zi_in (by omega) (by decide)) (by rw [(zi_nat (by omega))] <;> exact rfl) ?_
    refine (zz_go 10 (fr' := (zm_S_kindsMarkedAt, d + 1, 4, [some (.ref s), some (.int x0), some (.int (a1 ||| (zsl ((zsr (M (s + 1) i1) x0) &&& (1 : Int32)) (Int32.ofNat i1)))), some (.int (Int32.ofNat i1 + 1))], [])) (h' := (zt_T L, zt_R, M, J, e)) (fun _ => rfl)).trans ?_
    rw [zi_succ i1]
    exact hx1
  show zz_D (zm_S_kindsMarkedAt, d + 1, 4, [some (.ref s), some (.int x0), some (.int (zf_for 8 (f_S_kindsMarkedAt_1 M s x0) (0 : Int32))), some (.int (Int32.ofNat 8))], []) (zt_T L, zt_R, M, J, e) = _
  refine (zz_go 2 (fr' := (zm_S_kindsMarkedAt, d + 1, 7, [some (.ref s), some (.int x0), some (.int (zf_for 8 (f_S_kindsMarkedAt_1 M s x0) (0 : Int32))), some (.int (Int32.ofNat 8))], [.int (8 : Int32), .int (Int32.ofNat 8)])) (h' := (zt_T L, zt_R, M, J, e)) (fun _ => rfl)).trans ?_
  refine zc_geT rfl (by decide) ?_
  refine zz_weak (L := [none, none, some (.int (zf_for 8 (f_S_kindsMarkedAt_1 M s x0) (0 : Int32))), none]) ⟨Or.inr ⟨rfl, rfl⟩, Or.inr ⟨rfl, rfl⟩, Or.inl rfl, Or.inr ⟨rfl, rfl⟩, trivial⟩ ?_
  refine (zz_go 1 (fr' := (zm_S_kindsMarkedAt, d + 1, 32, [none, none, some (.int (zf_for 8 (f_S_kindsMarkedAt_1 M s x0) (0 : Int32))), none], [.int (zf_for 8 (f_S_kindsMarkedAt_1 M s x0) (0 : Int32))])) (h' := (zt_T L, zt_R, M, J, e)) (fun _ => rfl)).trans ?_
  refine zl_retI rfl rfl ?_
  rfl
def f_S_thumb_1 (M : zMem) (s : Nat) (x0 : Int32) (i1 : Nat) (a1 : Int32 × Int32) : Int32 × Int32 := ((bif (decide (((zsr (M (s + 5) (x0).toNatClampNeg) (Int32.ofNat i1)) &&& (1 : Int32)) = 0)) then (bif (decide (a1.2 ≤ (v_jm_max (v_ji_bitCount ((v_S_fits M s x0) &&& (v_S_kindsMarkedAt M s (Int32.ofNat i1)))) ((v_ji_bitCount (v_S_fits M s x0)) - (v_ji_bitCount ((v_S_fits M s x0) &&& (v_S_kindsMarkedAt M s (Int32.ofNat i1)))))))) then a1.1 else (Int32.ofNat i1)) else a1.1), (bif (decide (((zsr (M (s + 5) (x0).toNatClampNeg) (Int32.ofNat i1)) &&& (1 : Int32)) = 0)) then (bif (decide (a1.2 ≤ (v_jm_max (v_ji_bitCount ((v_S_fits M s x0) &&& (v_S_kindsMarkedAt M s (Int32.ofNat i1)))) ((v_ji_bitCount (v_S_fits M s x0)) - (v_ji_bitCount ((v_S_fits M s x0) &&& (v_S_kindsMarkedAt M s (Int32.ofNat i1)))))))) then a1.2 else (v_jm_max (v_ji_bitCount ((v_S_fits M s x0) &&& (v_S_kindsMarkedAt M s (Int32.ofNat i1)))) ((v_ji_bitCount (v_S_fits M s x0)) - (v_ji_bitCount ((v_S_fits M s x0) &&& (v_S_kindsMarkedAt M s (Int32.ofNat i1))))))) else a1.2))
def kb_S_thumb_1 (M : zMem) (s : Nat) (x0 : Int32) (i1 : Nat) (a1 : Int32 × Int32) : Prop := zz_in x0 6 = true
def v_S_thumb (M : zMem) (s : Nat) (x0 : Int32) : Int32 := (bif (decide ((2 : Int32) ≤ (v_ji_bitCount (v_S_fits M s x0)))) then (zf_for 16 (f_S_thumb_1 M s x0) ((-1 : Int32), ((v_ji_bitCount (v_S_fits M s x0)) + (1 : Int32)))).1 else (-1 : Int32))
def ok_S_thumb (M : zMem) (s : Nat) (x0 : Int32) : Prop := (ok_S_fits M s x0 ∧ ((decide ((2 : Int32) ≤ (v_ji_bitCount (v_S_fits M s x0)))) = true → (∀ i1, i1 < 16 → kb_S_thumb_1 M s x0 i1 (zf_for i1 (f_S_thumb_1 M s x0) ((-1 : Int32), ((v_ji_bitCount (v_S_fits M s x0)) + (1 : Int32)))))))
set_option maxRecDepth 20000 in
set_option maxHeartbeats 2000000 in
theorem s_S_thumb (L e : Nat) (J : zJem) (d : Nat) (M : zMem) (s : Nat) (x0 : Int32) (hs : zt_St s) (k0 : ok_S_thumb M s x0) : zz_D (zm_S_thumb, d + 3, 0, [some (.ref s), some (.int x0), none, none, none, none, none, none, none], []) (zt_T L, zt_R, M, J, e) = some (.inl (some (.int (v_S_thumb M s x0))), (zt_T L, zt_R, M, J, e)) := by
  unfold ok_S_thumb at k0
  unfold v_S_thumb
  refine (zz_go 2 (fr' := (zm_S_thumb, d + 3, 2, [some (.ref s), some (.int x0), none, none, none, none, none, none, none], [.int x0, .ref s])) (h' := (zt_T L, zt_R, M, J, e)) (fun _ => rfl)).trans ?_
  obtain ⟨g1, k2⟩ := k0
  refine zl_vt (d := d + 2) rfl rfl rfl (zt_St0 L hs) rfl rfl rfl rfl rfl rfl (s_S_fits L e J (d + 0) M s x0 hs g1) ?_
  show zz_D (zm_S_thumb, d + 3, 5, [some (.ref s), some (.int x0), none, none, none, none, none, none, none], [.int (v_S_fits M s x0)]) (zt_T L, zt_R, M, J, e) = _
  refine (zz_go 2 (fr' := (zm_S_thumb, d + 3, 7, [some (.ref s), some (.int x0), some (.int (v_S_fits M s x0)), none, none, none, none, none, none], [.int (v_S_fits M s x0)])) (h' := (zt_T L, zt_R, M, J, e)) (fun _ => rfl)).trans ?_
  refine zl_st (d := d + 2) rfl rfl rfl rfl rfl rfl rfl (s_ji_bitCount L e J (d + 1) (v_S_fits M s x0)) ?_
  show zz_D (zm_S_thumb, d + 3, 10, [some (.ref s), some (.int x0), some (.int (v_S_fits M s x0)), none, none, none, none, none, none], [.int (v_ji_bitCount (v_S_fits M s x0))]) (zt_T L, zt_R, M, J, e) = _
  refine (zz_go 3 (fr' := (zm_S_thumb, d + 3, 13, [some (.ref s), some (.int x0), some (.int (v_S_fits M s x0)), some (.int (v_ji_bitCount (v_S_fits M s x0))), none, none, none, none, none], [.int (2 : Int32), .int (v_ji_bitCount (v_S_fits M s x0))])) (h' := (zt_T L, zt_R, M, J, e)) (fun _ => rfl)).trans ?_
  rcases zz_bc (decide ((2 : Int32) ≤ (v_ji_bitCount (v_S_fits M s x0)))) with h3 | h3
  · refine zc_geT rfl h3 ?_
    have k4 := k2 h3
    refine (zz_go 8 (fr' := (zm_S_thumb, d + 3, 29, [some (.ref s), some (.int x0), some (.int (v_S_fits M s x0)), some (.int (v_ji_bitCount (v_S_fits M s x0))), some (.int (-1 : Int32)), some (.int ((v_ji_bitCount (v_S_fits M s x0)) + (1 : Int32))), some (.int (0 : Int32)), none, none], [])) (h' := (zt_T L, zt_R, M, J, e)) (fun _ => rfl)).trans ?_
    refine zf_forD (X := fun (i1 : Nat) (a1 : Int32 × Int32) => zz_D (zm_S_thumb, d + 3, 29, [some (.ref s), some (.int x0), some (.int (v_S_fits M s x0)), some (.int (v_ji_bitCount (v_S_fits M s x0))), some (.int a1.1), some (.int a1.2), some (.int (Int32.ofNat i1)), none, none], []) (zt_T L, zt_R, M, J, e)) (f := (f_S_thumb_1 M s x0)) (a := ((-1 : Int32), ((v_ji_bitCount (v_S_fits M s x0)) + (1 : Int32)))) 16 (fun i1 hi1 => ?_) ?_
    · intro hx5
      have k6 := k4 i1 hi1
      generalize zf_for i1 (f_S_thumb_1 M s x0) ((-1 : Int32), ((v_ji_bitCount (v_S_fits M s x0)) + (1 : Int32))) = a1 at hx5 k6 ⊢
      show zz_D (zm_S_thumb, d + 3, 29, [some (.ref s), some (.int x0), some (.int (v_S_fits M s x0)), some (.int (v_ji_bitCount (v_S_fits M s x0))), some (.int a1.1), some (.int a1.2), some (.int (Int32.ofNat i1)), none, none], []) (zt_T L, zt_R, M, J, e) = _
      unfold kb_S_thumb_1 at k6
      refine (zz_go 2 (fr' := (zm_S_thumb, d + 3, 33, [some (.ref s), some (.int x0), some (.int (v_S_fits M s x0)), some (.int (v_ji_bitCount (v_S_fits M s x0))), some (.int a1.1), some (.int a1.2), some (.int (Int32.ofNat i1)), none, none], [.int (16 : Int32), .int (Int32.ofNat i1)])) (h' := (zt_T L, zt_R, M, J, e)) (fun _ => rfl)).trans ?_
      refine zc_geF rfl (zi_ltc (n := 16) (by omega) (by decide)) ?_
      refine (zz_go 3 (fr' := (zm_S_thumb, d + 3, 40, [some (.ref s), some (.int x0), some (.int (v_S_fits M s x0)), some (.int (v_ji_bitCount (v_S_fits M s x0))), some (.int a1.1), some (.int a1.2), some (.int (Int32.ofNat i1)), none, none], [.int (Int32.ofNat i1), .ref s, .int (v_S_fits M s x0)])) (h' := (zt_T L, zt_R, M, J, e)) (fun _ => rfl)).trans ?_
      refine zl_vt (d := d + 2) rfl rfl rfl (zt_St0 L hs) rfl rfl rfl rfl rfl rfl (s_S_kindsMarkedAt L e J (d + 1) M s (Int32.ofNat i1) hs) ?_
      show zz_D (zm_S_thumb, d + 3, 43, [some (.ref s), some (.int x0), some (.int (v_S_fits M s x0)), some (.int (v_ji_bitCount (v_S_fits M s x0))), some (.int a1.1), some (.int a1.2), some (.int (Int32.ofNat i1)), none, none], [.int (v_S_kindsMarkedAt M s (Int32.ofNat i1)), .int (v_S_fits M s x0)]) (zt_T L, zt_R, M, J, e) = _
      refine (zz_go 1 (fr' := (zm_S_thumb, d + 3, 44, [some (.ref s), some (.int x0), some (.int (v_S_fits M s x0)), some (.int (v_ji_bitCount (v_S_fits M s x0))), some (.int a1.1), some (.int a1.2), some (.int (Int32.ofNat i1)), none, none], [.int ((v_S_fits M s x0) &&& (v_S_kindsMarkedAt M s (Int32.ofNat i1)))])) (h' := (zt_T L, zt_R, M, J, e)) (fun _ => rfl)).trans ?_
      refine zl_st (d := d + 2) rfl rfl rfl rfl rfl rfl rfl (s_ji_bitCount L e J (d + 1) ((v_S_fits M s x0) &&& (v_S_kindsMarkedAt M s (Int32.ofNat i1)))) ?_
      show zz_D (zm_S_thumb, d + 3, 47, [some (.ref s), some (.int x0), some (.int (v_S_fits M s x0)), some (.int (v_ji_bitCount (v_S_fits M s x0))), some (.int a1.1), some (.int a1.2), some (.int (Int32.ofNat i1)), none, none], [.int (v_ji_bitCount ((v_S_fits M s x0) &&& (v_S_kindsMarkedAt M s (Int32.ofNat i1))))]) (zt_T L, zt_R, M, J, e) = _
      refine (zz_go 5 (fr' := (zm_S_thumb, d + 3, 55, [some (.ref s), some (.int x0), some (.int (v_S_fits M s x0)), some (.int (v_ji_bitCount (v_S_fits M s x0))), some (.int a1.1), some (.int a1.2), some (.int (Int32.ofNat i1)), some (.int (v_ji_bitCount ((v_S_fits M s x0) &&& (v_S_kindsMarkedAt M s (Int32.ofNat i1))))), none], [.int ((v_ji_bitCount (v_S_fits M s x0)) - (v_ji_bitCount ((v_S_fits M s x0) &&& (v_S_kindsMarkedAt M s (Int32.ofNat i1))))), .int (v_ji_bitCount ((v_S_fits M s x0) &&& (v_S_kindsMarkedAt M s (Int32.ofNat i1))))])) (h' := (zt_T L, zt_R, M, J, e)) (fun _ => rfl)).trans ?_
      refine zl_st (d := d + 2) rfl rfl rfl rfl rfl rfl rfl (s_jm_max L e J (d + 1) (v_ji_bitCount ((v_S_fits M s x0) &&& (v_S_kindsMarkedAt M s (Int32.ofNat i1)))) ((v_ji_bitCount (v_S_fits M s x0)) - (v_ji_bitCount ((v_S_fits M s x0) &&& (v_S_kindsMarkedAt M s (Int32.ofNat i1)))))) ?_
      show zz_D (zm_S_thumb, d + 3, 58, [some (.ref s), some (.int x0), some (.int (v_S_fits M s x0)), some (.int (v_ji_bitCount (v_S_fits M s x0))), some (.int a1.1), some (.int a1.2), some (.int (Int32.ofNat i1)), some (.int (v_ji_bitCount ((v_S_fits M s x0) &&& (v_S_kindsMarkedAt M s (Int32.ofNat i1))))), none], [.int (v_jm_max (v_ji_bitCount ((v_S_fits M s x0) &&& (v_S_kindsMarkedAt M s (Int32.ofNat i1)))) ((v_ji_bitCount (v_S_fits M s x0)) - (v_ji_bitCount ((v_S_fits M s x0) &&& (v_S_kindsMarkedAt M s (Int32.ofNat i1))))))]) (zt_T L, zt_R, M, J, e) = _
      refine (zz_go 2 (fr' := (zm_S_thumb, d + 3, 61, [some (.ref s), some (.int x0), some (.int (v_S_fits M s x0)), some (.int (v_ji_bitCount (v_S_fits M s x0))), some (.int a1.1), some (.int a1.2), some (.int (Int32.ofNat i1)), some (.int (v_ji_bitCount ((v_S_fits M s x0) &&& (v_S_kindsMarkedAt M s (Int32.ofNat i1))))), some (.int (v_jm_max (v_ji_bitCount ((v_S_fits M s x0) &&& (v_S_kindsMarkedAt M s (Int32.ofNat i1)))) ((v_ji_bitCount (v_S_fits M s x0)) - (v_ji_bitCount ((v_S_fits M s x0) &&& (v_S_kindsMarkedAt M s (Int32.ofNat i1)))))))], [.ref s])) (h' := (zt_T L, zt_R, M, J, e)) (fun _ => rfl)).trans ?_
      refine zl_getR rfl (zt_St0 L hs) (zt_StR4 hs) ?_
      refine (zz_go 1 (fr' := (zm_S_thumb, d + 3, 65, [some (.ref s), some (.int x0), some (.int (v_S_fits M s x0)), some (.int (v_ji_bitCount (v_S_fits M s x0))), some (.int a1.1), some (.int a1.2), some (.int (Int32.ofNat i1)), some (.int (v_ji_bitCount ((v_S_fits M s x0) &&& (v_S_kindsMarkedAt M s (Int32.ofNat i1))))), some (.int (v_jm_max (v_ji_bitCount ((v_S_fits M s x0) &&& (v_S_kindsMarkedAt M s (Int32.ofNat i1)))) ((v_ji_bitCount (v_S_fits M s x0)) - (v_ji_bitCount ((v_S_fits M s x0) &&& (v_S_kindsMarkedAt M s (Int32.ofNat i1)))))))], [.int x0, .ref (s + 5)])) (h' := (zt_T L, zt_R, M, J, e)) (fun _ => rfl)).trans ?_
      have g7 : zz_in x0 6 = true := k6
      refine zl_iaload rfl (zt_St5 L hs) g7 rfl ?_
      refine zz_jn (X := zz_D (zm_S_thumb, d + 3, 89, [some (.ref s), some (.int x0), some (.int (v_S_fits M s x0)), some (.int (v_ji_bitCount (v_S_fits M s x0))), some (.int (bif (decide (((zsr (M (s + 5) (x0).toNatClampNeg) (Int32.ofNat i1)) &&& (1 : Int32)) = 0)) then (bif (decide (a1.2 ≤ (v_jm_max (v_ji_bitCount ((v_S_fits M s x0) &&& (v_S_kindsMarkedAt M s (Int32.ofNat i1)))) ((v_ji_bitCount (v_S_fits M s x0)) - (v_ji_bitCount ((v_S_fits M s x0) &&& (v_S_kindsMarkedAt M s (Int32.ofNat i1)))))))) then a1.1 else (Int32.ofNat i1)) else a1.1)), some (.int (bif (decide (((zsr (M (s + 5) (x0).toNatClampNeg) (Int32.ofNat i1)) &&& (1 : Int32)) = 0)) then (bif (decide (a1.2 ≤ (v_jm_max (v_ji_bitCount ((v_S_fits M s x0) &&& (v_S_kindsMarkedAt M s (Int32.ofNat i1)))) ((v_ji_bitCount (v_S_fits M s x0)) - (v_ji_bitCount ((v_S_fits M s x0) &&& (v_S_kindsMarkedAt M s (Int32.ofNat i1)))))))) then a1.2 else (v_jm_max (v_ji_bitCount ((v_S_fits M s x0) &&& (v_S_kindsMarkedAt M s (Int32.ofNat i1)))) ((v_ji_bitCount (v_S_fits M s x0)) - (v_ji_bitCount ((v_S_fits M s x0) &&& (v_S_kindsMarkedAt M s (Int32.ofNat i1))))))) else a1.2)), some (.int (Int32.ofNat i1)), none, none], []) (zt_T L, zt_R, M, J, e)) (fun j8 => ?_) ?_
      · refine (zz_go 4 (fr' := (zm_S_thumb, d + 3, 71, [some (.ref s), some (.int x0), some (.int (v_S_fits M s x0)), some (.int (v_ji_bitCount (v_S_fits M s x0))), some (.int a1.1), some (.int a1.2), some (.int (Int32.ofNat i1)), some (.int (v_ji_bitCount ((v_S_fits M s x0) &&& (v_S_kindsMarkedAt M s (Int32.ofNat i1))))), some (.int (v_jm_max (v_ji_bitCount ((v_S_fits M s x0) &&& (v_S_kindsMarkedAt M s (Int32.ofNat i1)))) ((v_ji_bitCount (v_S_fits M s x0)) - (v_ji_bitCount ((v_S_fits M s x0) &&& (v_S_kindsMarkedAt M s (Int32.ofNat i1)))))))], [.int ((zsr (M (s + 5) (x0).toNatClampNeg) (Int32.ofNat i1)) &&& (1 : Int32))])) (h' := (zt_T L, zt_R, M, J, e)) (fun _ => rfl)).trans ?_
        rcases zz_bc (decide (((zsr (M (s + 5) (x0).toNatClampNeg) (Int32.ofNat i1)) &&& (1 : Int32)) = 0)) with h9 | h9
        · refine zo_neT rfl h9 ?_
          refine zz_jn (X := zz_D (zm_S_thumb, d + 3, 89, [some (.ref s), some (.int x0), some (.int (v_S_fits M s x0)), some (.int (v_ji_bitCount (v_S_fits M s x0))), some (.int (bif (decide (a1.2 ≤ (v_jm_max (v_ji_bitCount ((v_S_fits M s x0) &&& (v_S_kindsMarkedAt M s (Int32.ofNat i1)))) ((v_ji_bitCount (v_S_fits M s x0)) - (v_ji_bitCount ((v_S_fits M s x0) &&& (v_S_kindsMarkedAt M s (Int32.ofNat i1)))))))) then a1.1 else (Int32.ofNat i1))), some (.int (bif (decide (a1.2 ≤ (v_jm_max (v_ji_bitCount ((v_S_fits M s x0) &&& (v_S_kindsMarkedAt M s (Int32.ofNat i1)))) ((v_ji_bitCount (v_S_fits M s x0)) - (v_ji_bitCount ((v_S_fits M s x0) &&& (v_S_kindsMarkedAt M s (Int32.ofNat i1)))))))) then a1.2 else (v_jm_max (v_ji_bitCount ((v_S_fits M s x0) &&& (v_S_kindsMarkedAt M s (Int32.ofNat i1)))) ((v_ji_bitCount (v_S_fits M s x0)) - (v_ji_bitCount ((v_S_fits M s x0) &&& (v_S_kindsMarkedAt M s (Int32.ofNat i1)))))))), some (.int (Int32.ofNat i1)), none, none], []) (zt_T L, zt_R, M, J, e)) (fun j10 => ?_) ?_
          · refine (zz_go 2 (fr' := (zm_S_thumb, d + 3, 78, [some (.ref s), some (.int x0), some (.int (v_S_fits M s x0)), some (.int (v_ji_bitCount (v_S_fits M s x0))), some (.int a1.1), some (.int a1.2), some (.int (Int32.ofNat i1)), some (.int (v_ji_bitCount ((v_S_fits M s x0) &&& (v_S_kindsMarkedAt M s (Int32.ofNat i1))))), some (.int (v_jm_max (v_ji_bitCount ((v_S_fits M s x0) &&& (v_S_kindsMarkedAt M s (Int32.ofNat i1)))) ((v_ji_bitCount (v_S_fits M s x0)) - (v_ji_bitCount ((v_S_fits M s x0) &&& (v_S_kindsMarkedAt M s (Int32.ofNat i1)))))))], [.int a1.2, .int (v_jm_max (v_ji_bitCount ((v_S_fits M s x0) &&& (v_S_kindsMarkedAt M s (Int32.ofNat i1)))) ((v_ji_bitCount (v_S_fits M s x0)) - (v_ji_bitCount ((v_S_fits M s x0) &&& (v_S_kindsMarkedAt M s (Int32.ofNat i1))))))])) (h' := (zt_T L, zt_R, M, J, e)) (fun _ => rfl)).trans ?_
            rcases zz_bc (decide (a1.2 ≤ (v_jm_max (v_ji_bitCount ((v_S_fits M s x0) &&& (v_S_kindsMarkedAt M s (Int32.ofNat i1)))) ((v_ji_bitCount (v_S_fits M s x0)) - (v_ji_bitCount ((v_S_fits M s x0) &&& (v_S_kindsMarkedAt M s (Int32.ofNat i1)))))))) with h11 | h11
            · refine zc_geT rfl h11 ?_
              refine zz_weak (L := [some (.ref s), some (.int x0), some (.int (v_S_fits M s x0)), some (.int (v_ji_bitCount (v_S_fits M s x0))), some (.int a1.1), some (.int a1.2), some (.int (Int32.ofNat i1)), none, none]) ⟨Or.inl rfl, Or.inl rfl, Or.inl rfl, Or.inl rfl, Or.inl rfl, Or.inl rfl, Or.inl rfl, Or.inr ⟨rfl, rfl⟩, Or.inr ⟨rfl, rfl⟩, trivial⟩ ?_
              simpa only [h11, zk_t, zk_f, zb_t, zb_f] using j10
            · refine zc_geF rfl h11 ?_
              refine (zz_go 4 (fr' := (zm_S_thumb, d + 3, 89, [some (.ref s), some (.int x0), some (.int (v_S_fits M s x0)), some (.int (v_ji_bitCount (v_S_fits M s x0))), some (.int (Int32.ofNat i1)), some (.int (v_jm_max (v_ji_bitCount ((v_S_fits M s x0) &&& (v_S_kindsMarkedAt M s (Int32.ofNat i1)))) ((v_ji_bitCount (v_S_fits M s x0)) - (v_ji_bitCount ((v_S_fits M s x0) &&& (v_S_kindsMarkedAt M s (Int32.ofNat i1))))))), some (.int (Int32.ofNat i1)), some (.int (v_ji_bitCount ((v_S_fits M s x0) &&& (v_S_kindsMarkedAt M s (Int32.ofNat i1))))), some (.int (v_jm_max (v_ji_bitCount ((v_S_fits M s x0) &&& (v_S_kindsMarkedAt M s (Int32.ofNat i1)))) ((v_ji_bitCount (v_S_fits M s x0)) - (v_ji_bitCount ((v_S_fits M s x0) &&& (v_S_kindsMarkedAt M s (Int32.ofNat i1)))))))], [])) (h' := (zt_T L, zt_R, M, J, e)) (fun _ => rfl)).trans ?_
              refine zz_weak (L := [some (.ref s), some (.int x0), some (.int (v_S_fits M s x0)), some (.int (v_ji_bitCount (v_S_fits M s x0))), some (.int (Int32.ofNat i1)), some (.int (v_jm_max (v_ji_bitCount ((v_S_fits M s x0) &&& (v_S_kindsMarkedAt M s (Int32.ofNat i1)))) ((v_ji_bitCount (v_S_fits M s x0)) - (v_ji_bitCount ((v_S_fits M s x0) &&& (v_S_kindsMarkedAt M s (Int32.ofNat i1))))))), some (.int (Int32.ofNat i1)), none, none]) ⟨Or.inl rfl, Or.inl rfl, Or.inl rfl, Or.inl rfl, Or.inl rfl, Or.inl rfl, Or.inl rfl, Or.inr ⟨rfl, rfl⟩, Or.inr ⟨rfl, rfl⟩, trivial⟩ ?_
              simpa only [h11, zk_t, zk_f, zb_t, zb_f] using j10
          simpa only [h9, zk_t, zk_f, zb_t, zb_f] using j8
        · refine zo_neF rfl h9 ?_
          refine zz_weak (L := [some (.ref s), some (.int x0), some (.int (v_S_fits M s x0)), some (.int (v_ji_bitCount (v_S_fits M s x0))), some (.int a1.1), some (.int a1.2), some (.int (Int32.ofNat i1)), none, none]) ⟨Or.inl rfl, Or.inl rfl, Or.inl rfl, Or.inl rfl, Or.inl rfl, Or.inl rfl, Or.inl rfl, Or.inr ⟨rfl, rfl⟩, Or.inr ⟨rfl, rfl⟩, trivial⟩ ?_
          simpa only [h9, zk_t, zk_f, zb_t, zb_f] using j8
      refine (zz_go 2 (fr' := (zm_S_thumb, d + 3, 29, [some (.ref s), some (.int x0), some (.int (v_S_fits M s x0)), some (.int (v_ji_bitCount (v_S_fits M s x0))), some (.int (bif (decide (((zsr (M (s + 5) (x0).toNatClampNeg) (Int32.ofNat i1)) &&& (1 : Int32)) = 0)) then (bif (decide (a1.2 ≤ (v_jm_max (v_ji_bitCount ((v_S_fits M s x0) &&& (v_S_kindsMarkedAt M s (Int32.ofNat i1)))) ((v_ji_bitCount (v_S_fits M s x0)) - (v_ji_bitCount ((v_S_fits M s x0) &&& (v_S_kindsMarkedAt M s (Int32.ofNat i1)))))))) then a1.1 else (Int32.ofNat i1)) else a1.1)), some (.int (bif (decide (((zsr (M (s + 5) (x0).toNatClampNeg) (Int32.ofNat i1)) &&& (1 : Int32)) = 0)) then (bif (decide (a1.2 ≤ (v_jm_max (v_ji_bitCount ((v_S_fits M s x0) &&& (v_S_kindsMarkedAt M s (Int32.ofNat i1)))) ((v_ji_bitCount (v_S_fits M s x0)) - (v_ji_bitCount ((v_S_fits M s x0) &&& (v_S_kindsMarkedAt M s (Int32.ofNat i1)))))))) then a1.2 else (v_jm_max (v_ji_bitCount ((v_S_fits M s x0) &&& (v_S_kindsMarkedAt M s (Int32.ofNat i1)))) ((v_ji_bitCount (v_S_fits M s x0)) - (v_ji_bitCount ((v_S_fits M s x0) &&& (v_S_kindsMarkedAt M s (Int32.ofNat i1))))))) else a1.2)), some (.int (Int32.ofNat i1 + 1)), none, none], [])) (h' := (zt_T L, zt_R, M, J, e)) (fun _ => rfl)).trans ?_
      rw [zi_succ i1]
      simpa only [f_S_thumb_1] using hx5
    show zz_D (zm_S_thumb, d + 3, 29, [some (.ref s), some (.int x0), some (.int (v_S_fits M s x0)), some (.int (v_ji_bitCount (v_S_fits M s x0))), some (.int (zf_for 16 (f_S_thumb_1 M s x0) ((-1 : Int32), ((v_ji_bitCount (v_S_fits M s x0)) + (1 : Int32)))).1), some (.int (zf_for 16 (f_S_thumb_1 M s x0) ((-1 : Int32), ((v_ji_bitCount (v_S_fits M s x0)) + (1 : Int32)))).2), some (.int (Int32.ofNat 16)), none, none], []) (zt_T L, zt_R, M, J, e) = _
    refine (zz_go 2 (fr' := (zm_S_thumb, d + 3, 33, [some (.ref s), some (.int x0), some (.int (v_S_fits M s x0)), some (.int (v_ji_bitCount (v_S_fits M s x0))), some (.int (zf_for 16 (f_S_thumb_1 M s x0) ((-1 : Int32), ((v_ji_bitCount (v_S_fits M s x0)) + (1 : Int32)))).1), some (.int (zf_for 16 (f_S_thumb_1 M s x0) ((-1 : Int32), ((v_ji_bitCount (v_S_fits M s x0)) + (1 : Int32)))).2), some (.int (Int32.ofNat 16)), none, none], [.int (16 : Int32), .int (Int32.ofNat 16)])) (h' := (zt_T L, zt_R, M, J, e)) (fun _ => rfl)).trans ?_
    refine zc_geT rfl (by decide) ?_
    refine zz_weak (L := [none, none, none, none, some (.int (zf_for 16 (f_S_thumb_1 M s x0) ((-1 : Int32), ((v_ji_bitCount (v_S_fits M s x0)) + (1 : Int32)))).1), none, none, none, none]) ⟨Or.inr ⟨rfl, rfl⟩, Or.inr ⟨rfl, rfl⟩, Or.inr ⟨rfl, rfl⟩, Or.inr ⟨rfl, rfl⟩, Or.inl rfl, Or.inr ⟨rfl, rfl⟩, Or.inr ⟨rfl, rfl⟩, Or.inl rfl, Or.inl rfl, trivial⟩ ?_
    refine (zz_go 1 (fr' := (zm_S_thumb, d + 3, 97, [none, none, none, none, some (.int (zf_for 16 (f_S_thumb_1 M s x0) ((-1 : Int32), ((v_ji_bitCount (v_S_fits M s x0)) + (1 : Int32)))).1), none, none, none, none], [.int (zf_for 16 (f_S_thumb_1 M s x0) ((-1 : Int32), ((v_ji_bitCount (v_S_fits M s x0)) + (1 : Int32)))).1])) (h' := (zt_T L, zt_R, M, J, e)) (fun _ => rfl)).trans ?_
    refine zl_retI rfl rfl ?_
    first | (simp only [h3, zk_t, zk_f, zb_t, zb_f]; done) | (simp only [h3, zk_t, zk_f, zb_t, zb_f]; rfl) | rfl
  · refine zc_geF rfl h3 ?_
    refine (zz_go 1 (fr' := (zm_S_thumb, d + 3, 17, [some (.ref s), some (.int x0), some (.int (v_S_fits M s x0)), some (.int (v_ji_bitCount (v_S_fits M s x0))), none, none, none, none, none], [.int (-1 : Int32)])) (h' := (zt_T L, zt_R, M, J, e)) (fun _ => rfl)).trans ?_
    refine zl_retI rfl rfl ?_
    first | (simp only [h3, zk_t, zk_f, zb_t, zb_f]; done) | (simp only [h3, zk_t, zk_f, zb_t, zb_f]; rfl) | rfl
def f_S_fameOfAll_1 (M : zMem) (s : Nat) (i1 : Nat) (a1 : Int32) : Int32 := (a1 + (M (s + 9) i1))
def kb_S_fameOfAll_1 (M : zMem) (s : Nat) (i1 : Nat) (a1 : Int32) : Prop := zz_in (Int32.ofNat i1) 6 = true
def v_S_fameOfAll (M : zMem) (s : Nat) : Int32 := (zf_for (M s 10).toNatClampNeg (f_S_fameOfAll_1 M s) (0 : Int32))
def ok_S_fameOfAll (M : zMem) (s : Nat) : Prop := (∀ i1, i1 < (M s 10).toNatClampNeg → kb_S_fameOfAll_1 M s i1 (zf_for i1 (f_S_fameOfAll_1 M s) (0 : Int32)))
set_option maxRecDepth 20000 in
set_option maxHeartbeats 2000000 in
theorem s_S_fameOfAll (L e : Nat) (J : zJem) (d : Nat) (M : zMem) (s : Nat) (hs : zt_St s) (k0 : ok_S_fameOfAll M s) : zz_D (zm_S_fameOfAll, d + 1, 0, [some (.ref s), none, none], []) (zt_T L, zt_R, M, J, e) = some (.inl (some (.int (v_S_fameOfAll M s))), (zt_T L, zt_R, M, J, e)) := by
  unfold ok_S_fameOfAll at k0
  unfold v_S_fameOfAll
  refine (zz_go 4 (fr' := (zm_S_fameOfAll, d + 1, 4, [some (.ref s), some (.int (0 : Int32)), some (.int (0 : Int32))], [])) (h' := (zt_T L, zt_R, M, J, e)) (fun _ => rfl)).trans ?_
  refine zf_forD (X := fun (i1 : Nat) (a1 : Int32) => zz_D (zm_S_fameOfAll, d + 1, 4, [some (.ref s), some (.int a1), some (.int (Int32.ofNat i1))], []) (zt_T L, zt_R, M, J, e)) (f := (f_S_fameOfAll_1 M s)) (a := (0 : Int32)) (M s 10).toNatClampNeg (fun i1 hi1 => ?_) ?_
  · intro hx1
    have k2 := k0 i1 hi1
    generalize zf_for i1 (f_S_fameOfAll_1 M s) (0 : Int32) = a1 at hx1 k2 ⊢
    show zz_D (zm_S_fameOfAll, d + 1, 4, [some (.ref s), some (.int a1), some (.int (Int32.ofNat i1))], []) (zt_T L, zt_R, M, J, e) = _
    unfold kb_S_fameOfAll_1 at k2
    refine (zz_go 2 (fr' := (zm_S_fameOfAll, d + 1, 6, [some (.ref s), some (.int a1), some (.int (Int32.ofNat i1))], [.ref s, .int (Int32.ofNat i1)])) (h' := (zt_T L, zt_R, M, J, e)) (fun _ => rfl)).trans ?_
    refine zl_getI rfl (by decide) (zt_St0 L hs) rfl ?_
    refine zc_geF rfl (zi_lt hi1) ?_
    refine (zz_go 2 (fr' := (zm_S_fameOfAll, d + 1, 14, [some (.ref s), some (.int a1), some (.int (Int32.ofNat i1))], [.ref s, .int a1])) (h' := (zt_T L, zt_R, M, J, e)) (fun _ => rfl)).trans ?_
    refine zl_getR rfl (zt_St0 L hs) (zt_StR8 hs) ?_
    refine (zz_go 1 (fr' := (zm_S_fameOfAll, d + 1, 18, [some (.ref s), some (.int a1), some (.int (Int32.ofNat i1))], [.int (Int32.ofNat i1), .ref (s + 9), .int a1])) (h' := (zt_T L, zt_R, M, J, e)) (fun _ => rfl)).trans ?_
    have g3 : zz_in (Int32.ofNat i1) 6 = true := k2
    refine zl_iaload rfl (zt_St9 L hs) g3 (by rw [(zi_nat (by have := zi_tn (M s 10); omega))] <;> exact rfl) ?_
    refine (zz_go 4 (fr' := (zm_S_fameOfAll, d + 1, 4, [some (.ref s), some (.int (a1 + (M (s + 9) i1))), some (.int (Int32.ofNat i1 + 1))], [])) (h' := (zt_T L, zt_R, M, J, e)) (fun _ => rfl)).trans ?_
    rw [zi_succ i1]
    exact hx1
  show zz_D (zm_S_fameOfAll, d + 1, 4, [some (.ref s), some (.int (zf_for (M s 10).toNatClampNeg (f_S_fameOfAll_1 M s) (0 : Int32))), some (.int (Int32.ofNat (M s 10).toNatClampNeg))], []) (zt_T L, zt_R, M, J, e) = _
  refine (zz_go 2 (fr' := (zm_S_fameOfAll, d + 1, 6, [some (.ref s), some (.int (zf_for (M s 10).toNatClampNeg (f_S_fameOfAll_1 M s) (0 : Int32))), some (.int (Int32.ofNat (M s 10).toNatClampNeg))], [.ref s, .int (Int32.ofNat (M s 10).toNatClampNeg)])) (h' := (zt_T L, zt_R, M, J, e)) (fun _ => rfl)).trans ?_
  refine zl_getI rfl (by decide) (zt_St0 L hs) rfl ?_
  refine zc_geT rfl (zi_ge _) ?_
  refine zz_weak (L := [none, some (.int (zf_for (M s 10).toNatClampNeg (f_S_fameOfAll_1 M s) (0 : Int32))), none]) ⟨Or.inr ⟨rfl, rfl⟩, Or.inl rfl, Or.inr ⟨rfl, rfl⟩, trivial⟩ ?_
  refine (zz_go 1 (fr' := (zm_S_fameOfAll, d + 1, 28, [none, some (.int (zf_for (M s 10).toNatClampNeg (f_S_fameOfAll_1 M s) (0 : Int32))), none], [.int (zf_for (M s 10).toNatClampNeg (f_S_fameOfAll_1 M s) (0 : Int32))])) (h' := (zt_T L, zt_R, M, J, e)) (fun _ => rfl)).trans ?_
  refine zl_retI rfl rfl ?_
  rfl
def v_S_share (M : zMem) (s : Nat) (x0 : Int32) : Int32 := (bif (decide (0 < (v_S_fameOfAll M s))) then (((M (s + 9) (x0).toNatClampNeg) * (100 : Int32)) / (v_S_fameOfAll M s)) else (0 : Int32))
def ok_S_share (M : zMem) (s : Nat) (x0 : Int32) : Prop := (ok_S_fameOfAll M s ∧ ((decide (0 < (v_S_fameOfAll M s))) = true → (zz_in x0 6 = true ∧ decide ((v_S_fameOfAll M s) = 0) = false)))
set_option maxRecDepth 20000 in
set_option maxHeartbeats 2000000 in
theorem s_S_share (L e : Nat) (J : zJem) (d : Nat) (M : zMem) (s : Nat) (x0 : Int32) (hs : zt_St s) (k0 : ok_S_share M s x0) : zz_D (zm_S_share, d + 2, 0, [some (.ref s), some (.int x0), none], []) (zt_T L, zt_R, M, J, e) = some (.inl (some (.int (v_S_share M s x0))), (zt_T L, zt_R, M, J, e)) := by
  unfold ok_S_share at k0
  unfold v_S_share
  refine (zz_go 1 (fr' := (zm_S_share, d + 2, 1, [some (.ref s), some (.int x0), none], [.ref s])) (h' := (zt_T L, zt_R, M, J, e)) (fun _ => rfl)).trans ?_
  obtain ⟨g1, k2⟩ := k0
  refine zl_vt (d := d + 1) rfl rfl rfl (zt_St0 L hs) rfl rfl rfl rfl rfl rfl (s_S_fameOfAll L e J (d + 0) M s hs g1) ?_
  show zz_D (zm_S_share, d + 2, 4, [some (.ref s), some (.int x0), none], [.int (v_S_fameOfAll M s)]) (zt_T L, zt_R, M, J, e) = _
  refine zz_jn (X := zz_D (zm_S_share, d + 2, 24, [none, none, none], [.int (bif (decide (0 < (v_S_fameOfAll M s))) then (((M (s + 9) (x0).toNatClampNeg) * (100 : Int32)) / (v_S_fameOfAll M s)) else (0 : Int32))]) (zt_T L, zt_R, M, J, e)) (fun j3 => ?_) ?_
  · refine (zz_go 2 (fr' := (zm_S_share, d + 2, 6, [some (.ref s), some (.int x0), some (.int (v_S_fameOfAll M s))], [.int (v_S_fameOfAll M s)])) (h' := (zt_T L, zt_R, M, J, e)) (fun _ => rfl)).trans ?_
    rcases zz_bc (decide (0 < (v_S_fameOfAll M s))) with h4 | h4
    · refine zo_gtT rfl h4 ?_
      have k5 := k2 h4
      refine (zz_go 1 (fr' := (zm_S_share, d + 2, 14, [some (.ref s), some (.int x0), some (.int (v_S_fameOfAll M s))], [.ref s])) (h' := (zt_T L, zt_R, M, J, e)) (fun _ => rfl)).trans ?_
      refine zl_getR rfl (zt_St0 L hs) (zt_StR8 hs) ?_
      refine (zz_go 1 (fr' := (zm_S_share, d + 2, 18, [some (.ref s), some (.int x0), some (.int (v_S_fameOfAll M s))], [.int x0, .ref (s + 9)])) (h' := (zt_T L, zt_R, M, J, e)) (fun _ => rfl)).trans ?_
      obtain ⟨g6, k7⟩ := k5
      refine zl_iaload rfl (zt_St9 L hs) g6 rfl ?_
      refine (zz_go 3 (fr' := (zm_S_share, d + 2, 23, [some (.ref s), some (.int x0), some (.int (v_S_fameOfAll M s))], [.int (v_S_fameOfAll M s), .int ((M (s + 9) (x0).toNatClampNeg) * (100 : Int32))])) (h' := (zt_T L, zt_R, M, J, e)) (fun _ => rfl)).trans ?_
      have g8 : decide ((v_S_fameOfAll M s) = 0) = false := k7
      refine zl_div rfl g8 ?_
      refine zz_weak (L := [none, none, none]) ⟨Or.inr ⟨rfl, rfl⟩, Or.inr ⟨rfl, rfl⟩, Or.inr ⟨rfl, rfl⟩, trivial⟩ ?_
      simpa only [h4, zk_t, zk_f, zb_t, zb_f] using j3
    · refine zo_gtF rfl h4 ?_
      refine (zz_go 2 (fr' := (zm_S_share, d + 2, 24, [some (.ref s), some (.int x0), some (.int (v_S_fameOfAll M s))], [.int (0 : Int32)])) (h' := (zt_T L, zt_R, M, J, e)) (fun _ => rfl)).trans ?_
      refine zz_weak (L := [none, none, none]) ⟨Or.inr ⟨rfl, rfl⟩, Or.inr ⟨rfl, rfl⟩, Or.inr ⟨rfl, rfl⟩, trivial⟩ ?_
      simpa only [h4, zk_t, zk_f, zb_t, zb_f] using j3
  refine zl_retI rfl rfl ?_
  rfl
def g_S_membersOfAll_1 (M : zMem) (s : Nat) (q : Nat) (i1 : Nat) (a1 : Int32) : Bool × (Int32) := ((bif (decide ((M s 10) ≤ (Int32.ofNat i1))) then false else (bif (decide ((Int32.ofNat 6) ≤ (Int32.ofNat i1))) then false else true)), (bif (decide ((M s 10) ≤ (Int32.ofNat i1))) then a1 else (bif (decide ((Int32.ofNat 6) ≤ (Int32.ofNat i1))) then a1 else (a1 + (v_ji_bitCount (M q (Int32.ofNat i1).toNatClampNeg))))))
def kb_S_membersOfAll_1 (M : zMem) (s : Nat) (q : Nat) (i1 : Nat) (a1 : Int32) : Prop := ((decide ((M s 10) ≤ (Int32.ofNat i1))) = false → ((decide ((Int32.ofNat 6) ≤ (Int32.ofNat i1))) = false → zz_in (Int32.ofNat i1) 6 = true))
def v_S_membersOfAll (M : zMem) (s : Nat) (q : Nat) : Int32 := (zf_wh 1000 (g_S_membersOfAll_1 M s q) 0 (0 : Int32))
def ok_S_membersOfAll (M : zMem) (s : Nat) (q : Nat) : Prop := (zf_wk 1000 (g_S_membersOfAll_1 M s q) (kb_S_membersOfAll_1 M s q) 0 (0 : Int32))
set_option maxRecDepth 20000 in
set_option maxHeartbeats 2000000 in
theorem s_S_membersOfAll (L e : Nat) (J : zJem) (d : Nat) (M : zMem) (s : Nat) (q : Nat) (hs : zt_St s) (hq : zt_A6 L q) (k0 : ok_S_membersOfAll M s q) : zz_D (zm_S_membersOfAll, d + 2, 0, [some (.ref s), some (.ref q), none, none], []) (zt_T L, zt_R, M, J, e) = some (.inl (some (.int (v_S_membersOfAll M s q))), (zt_T L, zt_R, M, J, e)) := by
  unfold ok_S_membersOfAll at k0
  unfold v_S_membersOfAll
  refine (zz_go 4 (fr' := (zm_S_membersOfAll, d + 2, 4, [some (.ref s), some (.ref q), some (.int (0 : Int32)), some (.int (0 : Int32))], [])) (h' := (zt_T L, zt_R, M, J, e)) (fun _ => rfl)).trans ?_
  refine zf_whY (X := fun (i1 : Nat) (a1 : Int32) => zz_D (zm_S_membersOfAll, d + 2, 4, [some (.ref s), some (.ref q), some (.int a1), some (.int (Int32.ofNat i1))], []) (zt_T L, zt_R, M, J, e)) (Y := fun (a1 : Int32) => zz_D (zm_S_membersOfAll, d + 2, 33, [none, none, some (.int a1), none], []) (zt_T L, zt_R, M, J, e)) (g := (g_S_membersOfAll_1 M s q)) (k := (kb_S_membersOfAll_1 M s q)) (fun i1 a1 k3 hx1 hx2 => ?_) 1000 0 (0 : Int32) k0 ?_
  · show zz_D (zm_S_membersOfAll, d + 2, 4, [some (.ref s), some (.ref q), some (.int a1), some (.int (Int32.ofNat i1))], []) (zt_T L, zt_R, M, J, e) = _
    unfold kb_S_membersOfAll_1 at k3
    refine (zz_go 2 (fr' := (zm_S_membersOfAll, d + 2, 6, [some (.ref s), some (.ref q), some (.int a1), some (.int (Int32.ofNat i1))], [.ref s, .int (Int32.ofNat i1)])) (h' := (zt_T L, zt_R, M, J, e)) (fun _ => rfl)).trans ?_
    refine zl_getI rfl (by decide) (zt_St0 L hs) rfl ?_
    rcases zz_bc (decide ((M s 10) ≤ (Int32.ofNat i1))) with h4 | h4
    · refine zc_geT rfl h4 ?_
      refine zz_weak (L := [none, none, some (.int a1), none]) ⟨Or.inr ⟨rfl, rfl⟩, Or.inr ⟨rfl, rfl⟩, Or.inl rfl, Or.inr ⟨rfl, rfl⟩, trivial⟩ ?_
      have y1 := hx2 (by simp only [g_S_membersOfAll_1, h4, zk_t, zk_f, zb_t, zb_f])
      simpa only [g_S_membersOfAll_1, h4, zk_t, zk_f, zb_t, zb_f] using y1
    · refine zc_geF rfl h4 ?_
      have k5 := k3 h4
      refine (zz_go 2 (fr' := (zm_S_membersOfAll, d + 2, 14, [some (.ref s), some (.ref q), some (.int a1), some (.int (Int32.ofNat i1))], [.ref q, .int (Int32.ofNat i1)])) (h' := (zt_T L, zt_R, M, J, e)) (fun _ => rfl)).trans ?_
      refine zl_len rfl hq ?_
      rcases zz_bc (decide ((Int32.ofNat 6) ≤ (Int32.ofNat i1))) with h6 | h6
      · refine zc_geT rfl h6 ?_
        refine zz_weak (L := [none, none, some (.int a1), none]) ⟨Or.inr ⟨rfl, rfl⟩, Or.inr ⟨rfl, rfl⟩, Or.inl rfl, Or.inr ⟨rfl, rfl⟩, trivial⟩ ?_
        have y1 := hx2 (by simp only [g_S_membersOfAll_1, h4, h6, zk_t, zk_f, zb_t, zb_f])
        simpa only [g_S_membersOfAll_1, h4, h6, zk_t, zk_f, zb_t, zb_f] using y1
      · refine zc_geF rfl h6 ?_
        have k7 := k5 h6
        refine (zz_go 3 (fr' := (zm_S_membersOfAll, d + 2, 21, [some (.ref s), some (.ref q), some (.int a1), some (.int (Int32.ofNat i1))], [.int (Int32.ofNat i1), .ref q, .int a1])) (h' := (zt_T L, zt_R, M, J, e)) (fun _ => rfl)).trans ?_
        have g8 : zz_in (Int32.ofNat i1) 6 = true := k7
        refine zl_iaload rfl hq g8 rfl ?_
        refine zl_st (d := d + 1) rfl rfl rfl rfl rfl rfl rfl (s_ji_bitCount L e J (d + 0) (M q (Int32.ofNat i1).toNatClampNeg)) ?_
        show zz_D (zm_S_membersOfAll, d + 2, 25, [some (.ref s), some (.ref q), some (.int a1), some (.int (Int32.ofNat i1))], [.int (v_ji_bitCount (M q (Int32.ofNat i1).toNatClampNeg)), .int a1]) (zt_T L, zt_R, M, J, e) = _
        refine (zz_go 4 (fr' := (zm_S_membersOfAll, d + 2, 4, [some (.ref s), some (.ref q), some (.int (a1 + (v_ji_bitCount (M q (Int32.ofNat i1).toNatClampNeg)))), some (.int (Int32.ofNat i1 + 1))], [])) (h' := (zt_T L, zt_R, M, J, e)) (fun _ => rfl)).trans ?_
        rw [zi_succ i1]
        have y1 := hx1 (by simp only [g_S_membersOfAll_1, h4, h6, zk_t, zk_f, zb_t, zb_f])
        simpa only [g_S_membersOfAll_1, h4, h6, zk_t, zk_f, zb_t, zb_f] using y1
  show zz_D (zm_S_membersOfAll, d + 2, 33, [none, none, some (.int (zf_wh 1000 (g_S_membersOfAll_1 M s q) 0 (0 : Int32))), none], []) (zt_T L, zt_R, M, J, e) = _
  refine (zz_go 1 (fr' := (zm_S_membersOfAll, d + 2, 34, [none, none, some (.int (zf_wh 1000 (g_S_membersOfAll_1 M s q) 0 (0 : Int32))), none], [.int (zf_wh 1000 (g_S_membersOfAll_1 M s q) 0 (0 : Int32))])) (h' := (zt_T L, zt_R, M, J, e)) (fun _ => rfl)).trans ?_
  refine zl_retI rfl rfl ?_
  rfl
def v_S_deedsOfAll (M : zMem) (s : Nat) : Int32 := (v_S_membersOfAll M s (s + 8))
def ok_S_deedsOfAll (M : zMem) (s : Nat) : Prop := ok_S_membersOfAll M s (s + 8)
set_option maxRecDepth 20000 in
set_option maxHeartbeats 2000000 in
theorem s_S_deedsOfAll (L e : Nat) (J : zJem) (d : Nat) (M : zMem) (s : Nat) (hs : zt_St s) (k0 : ok_S_deedsOfAll M s) : zz_D (zm_S_deedsOfAll, d + 3, 0, [some (.ref s)], []) (zt_T L, zt_R, M, J, e) = some (.inl (some (.int (v_S_deedsOfAll M s))), (zt_T L, zt_R, M, J, e)) := by
  unfold ok_S_deedsOfAll at k0
  unfold v_S_deedsOfAll
  refine (zz_go 2 (fr' := (zm_S_deedsOfAll, d + 3, 2, [some (.ref s)], [.ref s, .ref s])) (h' := (zt_T L, zt_R, M, J, e)) (fun _ => rfl)).trans ?_
  refine zl_getR rfl (zt_St0 L hs) (zt_StR7 hs) ?_
  have g1 : ok_S_membersOfAll M s (s + 8) := k0
  refine zl_vt (d := d + 2) rfl rfl rfl (zt_St0 L hs) rfl rfl rfl rfl rfl rfl (s_S_membersOfAll L e J (d + 0) M s (s + 8) hs (zt_St8 L hs) g1) ?_
  show zz_D (zm_S_deedsOfAll, d + 3, 8, [some (.ref s)], [.int (v_S_membersOfAll M s (s + 8))]) (zt_T L, zt_R, M, J, e) = _
  refine zl_retI rfl rfl ?_
  rfl
def v_S_rubbedOfAll (M : zMem) (s : Nat) : Int32 := (v_S_membersOfAll M s (s + 5))
def ok_S_rubbedOfAll (M : zMem) (s : Nat) : Prop := ok_S_membersOfAll M s (s + 5)
set_option maxRecDepth 20000 in
set_option maxHeartbeats 2000000 in
theorem s_S_rubbedOfAll (L e : Nat) (J : zJem) (d : Nat) (M : zMem) (s : Nat) (hs : zt_St s) (k0 : ok_S_rubbedOfAll M s) : zz_D (zm_S_rubbedOfAll, d + 3, 0, [some (.ref s)], []) (zt_T L, zt_R, M, J, e) = some (.inl (some (.int (v_S_rubbedOfAll M s))), (zt_T L, zt_R, M, J, e)) := by
  unfold ok_S_rubbedOfAll at k0
  unfold v_S_rubbedOfAll
  refine (zz_go 2 (fr' := (zm_S_rubbedOfAll, d + 3, 2, [some (.ref s)], [.ref s, .ref s])) (h' := (zt_T L, zt_R, M, J, e)) (fun _ => rfl)).trans ?_
  refine zl_getR rfl (zt_St0 L hs) (zt_StR4 hs) ?_
  have g1 : ok_S_membersOfAll M s (s + 5) := k0
  refine zl_vt (d := d + 2) rfl rfl rfl (zt_St0 L hs) rfl rfl rfl rfl rfl rfl (s_S_membersOfAll L e J (d + 0) M s (s + 5) hs (zt_St5 L hs) g1) ?_
  show zz_D (zm_S_rubbedOfAll, d + 3, 8, [some (.ref s)], [.int (v_S_membersOfAll M s (s + 5))]) (zt_T L, zt_R, M, J, e) = _
  refine zl_retI rfl rfl ?_
  rfl
def v_S_dockerGain (M : zMem) (s : Nat) (x0 : Int32) (x1 : Int32) : Int32 := (bif (decide (x1 = (0 : Int32))) then (M (s + 7) (x0).toNatClampNeg) else (bif (decide (x1 = (1 : Int32))) then (-3 : Int32) else (bif (decide (x1 = (2 : Int32))) then (1 : Int32) else (2 : Int32))))
def ok_S_dockerGain (M : zMem) (s : Nat) (x0 : Int32) (x1 : Int32) : Prop := ((decide (x1 = (0 : Int32))) = true → zz_in x0 6 = true)
set_option maxRecDepth 20000 in
set_option maxHeartbeats 2000000 in
theorem s_S_dockerGain (L e : Nat) (J : zJem) (d : Nat) (M : zMem) (s : Nat) (x0 : Int32) (x1 : Int32) (hs : zt_St s) (k0 : ok_S_dockerGain M s x0 x1) : zz_D (zm_S_dockerGain, d + 1, 0, [some (.ref s), some (.int x0), some (.int x1)], []) (zt_T L, zt_R, M, J, e) = some (.inl (some (.int (v_S_dockerGain M s x0 x1))), (zt_T L, zt_R, M, J, e)) := by
  unfold ok_S_dockerGain at k0
  unfold v_S_dockerGain
  refine (zz_go 1 (fr' := (zm_S_dockerGain, d + 1, 1, [some (.ref s), some (.int x0), some (.int x1)], [.int x1])) (h' := (zt_T L, zt_R, M, J, e)) (fun _ => rfl)).trans ?_
  rcases zz_bc (decide (x1 = (0 : Int32))) with h1 | h1
  · refine zl_swc (A := (zm_S_dockerGain, d + 1, 28, [some (.ref s), some (.int x0), some (.int x1)], [])) h1 (fun _ => rfl) ?_
    have k2 := k0 h1
    refine (zz_go 1 (fr' := (zm_S_dockerGain, d + 1, 29, [some (.ref s), some (.int x0), some (.int x1)], [.ref s])) (h' := (zt_T L, zt_R, M, J, e)) (fun _ => rfl)).trans ?_
    refine zl_getR rfl (zt_St0 L hs) (zt_StR6 hs) ?_
    refine (zz_go 1 (fr' := (zm_S_dockerGain, d + 1, 33, [some (.ref s), some (.int x0), some (.int x1)], [.int x0, .ref (s + 7)])) (h' := (zt_T L, zt_R, M, J, e)) (fun _ => rfl)).trans ?_
    have g3 : zz_in x0 6 = true := k2
    refine zl_iaload rfl (zt_St7 L hs) g3 rfl ?_
    refine zl_retI rfl rfl ?_
    first | (simp only [h1, zk_t, zk_f, zb_t, zb_f]; done) | (simp only [h1, zk_t, zk_f, zb_t, zb_f]; rfl) | rfl
  · skip
    rcases zz_bc (decide (x1 = (1 : Int32))) with h4 | h4
    · refine zl_swc (A := (zm_S_dockerGain, d + 1, 35, [some (.ref s), some (.int x0), some (.int x1)], [])) h4 (fun _ => rfl) ?_
      refine (zz_go 1 (fr' := (zm_S_dockerGain, d + 1, 37, [some (.ref s), some (.int x0), some (.int x1)], [.int (-3 : Int32)])) (h' := (zt_T L, zt_R, M, J, e)) (fun _ => rfl)).trans ?_
      refine zl_retI rfl rfl ?_
      first | (simp only [h1, h4, zk_t, zk_f, zb_t, zb_f]; done) | (simp only [h1, h4, zk_t, zk_f, zb_t, zb_f]; rfl) | rfl
    · skip
      rcases zz_bc (decide (x1 = (2 : Int32))) with h5 | h5
      · refine zl_swc (A := (zm_S_dockerGain, d + 1, 38, [some (.ref s), some (.int x0), some (.int x1)], [])) h5 (fun _ => rfl) ?_
        refine (zz_go 1 (fr' := (zm_S_dockerGain, d + 1, 39, [some (.ref s), some (.int x0), some (.int x1)], [.int (1 : Int32)])) (h' := (zt_T L, zt_R, M, J, e)) (fun _ => rfl)).trans ?_
        refine zl_retI rfl rfl ?_
        first | (simp only [h1, h4, h5, zk_t, zk_f, zb_t, zb_f]; done) | (simp only [h1, h4, h5, zk_t, zk_f, zb_t, zb_f]; rfl) | rfl
      · skip
        refine zl_swd rfl (by have e0 : (x1).toInt ≠ 0 := zsw_ne h1; have e1 : (x1).toInt ≠ 1 := zsw_ne h4; have e2 : (x1).toInt ≠ 2 := zsw_ne h5; simp only [Bool.or_eq_true, decide_eq_true_eq]; omega) rfl ?_
        refine (zz_go 1 (fr' := (zm_S_dockerGain, d + 1, 41, [some (.ref s), some (.int x0), some (.int x1)], [.int (2 : Int32)])) (h' := (zt_T L, zt_R, M, J, e)) (fun _ => rfl)).trans ?_
        refine zl_retI rfl rfl ?_
        first | (simp only [h1, h4, h5, zk_t, zk_f, zb_t, zb_f]; done) | (simp only [h1, h4, h5, zk_t, zk_f, zb_t, zb_f]; rfl) | rfl
def v_S_needleGain (M : zMem) (s : Nat) (x0 : Int32) (x1 : Int32) : Int32 := (bif (decide (x1 = (0 : Int32))) then (5 : Int32) else (bif (decide (x1 = (1 : Int32))) then (-((M (s + 9) (x0).toNatClampNeg) / (100 : Int32))) else (bif (decide (x1 = (2 : Int32))) then (2 : Int32) else (4 : Int32))))
def ok_S_needleGain (M : zMem) (s : Nat) (x0 : Int32) (x1 : Int32) : Prop := ((decide (x1 = (0 : Int32))) = false → ((decide (x1 = (1 : Int32))) = true → zz_in x0 6 = true))
set_option maxRecDepth 20000 in
set_option maxHeartbeats 2000000 in
theorem s_S_needleGain (L e : Nat) (J : zJem) (d : Nat) (M : zMem) (s : Nat) (x0 : Int32) (x1 : Int32) (hs : zt_St s) (k0 : ok_S_needleGain M s x0 x1) : zz_D (zm_S_needleGain, d + 1, 0, [some (.ref s), some (.int x0), some (.int x1)], []) (zt_T L, zt_R, M, J, e) = some (.inl (some (.int (v_S_needleGain M s x0 x1))), (zt_T L, zt_R, M, J, e)) := by
  unfold ok_S_needleGain at k0
  unfold v_S_needleGain
  refine (zz_go 1 (fr' := (zm_S_needleGain, d + 1, 1, [some (.ref s), some (.int x0), some (.int x1)], [.int x1])) (h' := (zt_T L, zt_R, M, J, e)) (fun _ => rfl)).trans ?_
  rcases zz_bc (decide (x1 = (0 : Int32))) with h1 | h1
  · refine zl_swc (A := (zm_S_needleGain, d + 1, 28, [some (.ref s), some (.int x0), some (.int x1)], [])) h1 (fun _ => rfl) ?_
    refine (zz_go 1 (fr' := (zm_S_needleGain, d + 1, 29, [some (.ref s), some (.int x0), some (.int x1)], [.int (5 : Int32)])) (h' := (zt_T L, zt_R, M, J, e)) (fun _ => rfl)).trans ?_
    refine zl_retI rfl rfl ?_
    first | (simp only [h1, zk_t, zk_f, zb_t, zb_f]; done) | (simp only [h1, zk_t, zk_f, zb_t, zb_f]; rfl) | rfl
  · have k2 := k0 h1
    rcases zz_bc (decide (x1 = (1 : Int32))) with h3 | h3
    · refine zl_swc (A := (zm_S_needleGain, d + 1, 30, [some (.ref s), some (.int x0), some (.int x1)], [])) h3 (fun _ => rfl) ?_
      have k4 := k2 h3
      refine (zz_go 1 (fr' := (zm_S_needleGain, d + 1, 31, [some (.ref s), some (.int x0), some (.int x1)], [.ref s])) (h' := (zt_T L, zt_R, M, J, e)) (fun _ => rfl)).trans ?_
      refine zl_getR rfl (zt_St0 L hs) (zt_StR8 hs) ?_
      refine (zz_go 1 (fr' := (zm_S_needleGain, d + 1, 35, [some (.ref s), some (.int x0), some (.int x1)], [.int x0, .ref (s + 9)])) (h' := (zt_T L, zt_R, M, J, e)) (fun _ => rfl)).trans ?_
      have g5 : zz_in x0 6 = true := k4
      refine zl_iaload rfl (zt_St9 L hs) g5 rfl ?_
      refine (zz_go 1 (fr' := (zm_S_needleGain, d + 1, 38, [some (.ref s), some (.int x0), some (.int x1)], [.int (100 : Int32), .int (M (s + 9) (x0).toNatClampNeg)])) (h' := (zt_T L, zt_R, M, J, e)) (fun _ => rfl)).trans ?_
      refine zl_div rfl (by decide) ?_
      refine (zz_go 1 (fr' := (zm_S_needleGain, d + 1, 40, [some (.ref s), some (.int x0), some (.int x1)], [.int (-((M (s + 9) (x0).toNatClampNeg) / (100 : Int32)))])) (h' := (zt_T L, zt_R, M, J, e)) (fun _ => rfl)).trans ?_
      refine zl_retI rfl rfl ?_
      first | (simp only [h1, h3, zk_t, zk_f, zb_t, zb_f]; done) | (simp only [h1, h3, zk_t, zk_f, zb_t, zb_f]; rfl) | rfl
    · skip
      rcases zz_bc (decide (x1 = (2 : Int32))) with h6 | h6
      · refine zl_swc (A := (zm_S_needleGain, d + 1, 41, [some (.ref s), some (.int x0), some (.int x1)], [])) h6 (fun _ => rfl) ?_
        refine (zz_go 1 (fr' := (zm_S_needleGain, d + 1, 42, [some (.ref s), some (.int x0), some (.int x1)], [.int (2 : Int32)])) (h' := (zt_T L, zt_R, M, J, e)) (fun _ => rfl)).trans ?_
        refine zl_retI rfl rfl ?_
        first | (simp only [h1, h3, h6, zk_t, zk_f, zb_t, zb_f]; done) | (simp only [h1, h3, h6, zk_t, zk_f, zb_t, zb_f]; rfl) | rfl
      · skip
        refine zl_swd rfl (by have e0 : (x1).toInt ≠ 0 := zsw_ne h1; have e1 : (x1).toInt ≠ 1 := zsw_ne h3; have e2 : (x1).toInt ≠ 2 := zsw_ne h6; simp only [Bool.or_eq_true, decide_eq_true_eq]; omega) rfl ?_
        refine (zz_go 1 (fr' := (zm_S_needleGain, d + 1, 44, [some (.ref s), some (.int x0), some (.int x1)], [.int (4 : Int32)])) (h' := (zt_T L, zt_R, M, J, e)) (fun _ => rfl)).trans ?_
        refine zl_retI rfl rfl ?_
        first | (simp only [h1, h3, h6, zk_t, zk_f, zb_t, zb_f]; done) | (simp only [h1, h3, h6, zk_t, zk_f, zb_t, zb_f]; rfl) | rfl
def w_S_addRow (M : zMem) (s : Nat) (x0 : Int32) (x1 : Int32) (x2 : Int32) : zMem := (bif (decide ((M s 17) < 0)) then M else (bif (decide ((M s 17) < (60 : Int32))) then (zz_up (zz_up (zz_up M (s + 10) (M s 17).toNatClampNeg (((((((M s 12) * (8 : Int32)) + x0) * (4 : Int32)) + x1) * (16 : Int32)) + x2)) s 17 (zrm ((M s 17) + (1 : Int32)) (60 : Int32))) s 16 (v_jm_min ((M s 16) + (1 : Int32)) (60 : Int32))) else M))
def ok_S_addRow (M : zMem) (s : Nat) (x0 : Int32) (x1 : Int32) (x2 : Int32) : Prop := ((decide ((M s 17) < 0)) = false → ((decide ((M s 17) < (60 : Int32))) = true → zz_in (M s 17) 60 = true))
set_option maxRecDepth 20000 in
set_option maxHeartbeats 2000000 in
theorem s_S_addRow (L e : Nat) (J : zJem) (d : Nat) (M : zMem) (s : Nat) (x0 : Int32) (x1 : Int32) (x2 : Int32) (hs : zt_St s) (k0 : ok_S_addRow M s x0 x1 x2) : zz_D (zm_S_addRow, d + 2, 0, [some (.ref s), some (.int x0), some (.int x1), some (.int x2)], []) (zt_T L, zt_R, M, J, e) = some (.inl (none), (zt_T L, zt_R, (w_S_addRow M s x0 x1 x2), J, e)) := by
  unfold ok_S_addRow at k0
  unfold w_S_addRow
  refine (zz_go 1 (fr' := (zm_S_addRow, d + 2, 1, [some (.ref s), some (.int x0), some (.int x1), some (.int x2)], [.ref s])) (h' := (zt_T L, zt_R, M, J, e)) (fun _ => rfl)).trans ?_
  refine zl_getI rfl (by decide) (zt_St0 L hs) rfl ?_
  rcases zz_bc (decide ((M s 17) < 0)) with h1 | h1
  · refine zo_ltT rfl h1 ?_
    refine (zz_end 1 (r := (.inl none, (zt_T L, zt_R, M, J, e))) (fun _ => rfl)).trans ?_
    first | (simp only [h1, zk_t, zk_f, zb_t, zb_f]; done) | (simp only [h1, zk_t, zk_f, zb_t, zb_f]; rfl) | rfl
  · refine zo_ltF rfl h1 ?_
    have k2 := k0 h1
    refine (zz_go 1 (fr' := (zm_S_addRow, d + 2, 8, [some (.ref s), some (.int x0), some (.int x1), some (.int x2)], [.ref s])) (h' := (zt_T L, zt_R, M, J, e)) (fun _ => rfl)).trans ?_
    refine zl_getI rfl (by decide) (zt_St0 L hs) rfl ?_
    refine (zz_go 1 (fr' := (zm_S_addRow, d + 2, 13, [some (.ref s), some (.int x0), some (.int x1), some (.int x2)], [.int (60 : Int32), .int (M s 17)])) (h' := (zt_T L, zt_R, M, J, e)) (fun _ => rfl)).trans ?_
    rcases zz_bc (decide ((M s 17) < (60 : Int32))) with h3 | h3
    · refine zc_ltT rfl h3 ?_
      have k4 := k2 h3
      refine (zz_go 1 (fr' := (zm_S_addRow, d + 2, 18, [some (.ref s), some (.int x0), some (.int x1), some (.int x2)], [.ref s])) (h' := (zt_T L, zt_R, M, J, e)) (fun _ => rfl)).trans ?_
      refine zl_getR rfl (zt_St0 L hs) (zt_StR9 hs) ?_
      refine (zz_go 1 (fr' := (zm_S_addRow, d + 2, 22, [some (.ref s), some (.int x0), some (.int x1), some (.int x2)], [.ref s, .ref (s + 10)])) (h' := (zt_T L, zt_R, M, J, e)) (fun _ => rfl)).trans ?_
      refine zl_getI rfl (by decide) (zt_St0 L hs) rfl ?_
      refine (zz_go 1 (fr' := (zm_S_addRow, d + 2, 26, [some (.ref s), some (.int x0), some (.int x1), some (.int x2)], [.ref s, .int (M s 17), .ref (s + 10)])) (h' := (zt_T L, zt_R, M, J, e)) (fun _ => rfl)).trans ?_
      refine zl_getI rfl (by decide) (zt_St0 L hs) rfl ?_
      refine (zz_go 12 (fr' := (zm_S_addRow, d + 2, 43, [some (.ref s), some (.int x0), some (.int x1), some (.int x2)], [.int (((((((M s 12) * (8 : Int32)) + x0) * (4 : Int32)) + x1) * (16 : Int32)) + x2), .int (M s 17), .ref (s + 10)])) (h' := (zt_T L, zt_R, M, J, e)) (fun _ => rfl)).trans ?_
      have g5 : zz_in (M s 17) 60 = true := k4
      refine zl_iastore rfl (zt_St10 L hs) g5 (zt_Stp hs 10) rfl ?_
      refine (zz_go 2 (fr' := (zm_S_addRow, d + 2, 46, [some (.ref s), some (.int x0), some (.int x1), some (.int x2)], [.ref s, .ref s])) (h' := (zt_T L, zt_R, (zz_up M (s + 10) (M s 17).toNatClampNeg (((((((M s 12) * (8 : Int32)) + x0) * (4 : Int32)) + x1) * (16 : Int32)) + x2)), J, e)) (fun _ => rfl)).trans ?_
      refine zl_getI rfl (by decide) (zt_St0 L hs) ((zu_ne (zn_off s (a := 0) (b := 10) rfl)).trans rfl) ?_
      refine (zz_go 3 (fr' := (zm_S_addRow, d + 2, 53, [some (.ref s), some (.int x0), some (.int x1), some (.int x2)], [.int (60 : Int32), .int ((M s 17) + (1 : Int32)), .ref s])) (h' := (zt_T L, zt_R, (zz_up M (s + 10) (M s 17).toNatClampNeg (((((((M s 12) * (8 : Int32)) + x0) * (4 : Int32)) + x1) * (16 : Int32)) + x2)), J, e)) (fun _ => rfl)).trans ?_
      refine zl_rem rfl (by decide) ?_
      refine zl_putI rfl rfl (zt_St0 L hs) (zt_Stp hs 0) ?_
      refine (zz_go 2 (fr' := (zm_S_addRow, d + 2, 59, [some (.ref s), some (.int x0), some (.int x1), some (.int x2)], [.ref s, .ref s])) (h' := (zt_T L, zt_R, (zz_up (zz_up M (s + 10) (M s 17).toNatClampNeg (((((((M s 12) * (8 : Int32)) + x0) * (4 : Int32)) + x1) * (16 : Int32)) + x2)) s 17 (zrm ((M s 17) + (1 : Int32)) (60 : Int32))), J, e)) (fun _ => rfl)).trans ?_
      refine zl_getI rfl (by decide) (zt_St0 L hs) ((zu_nk rfl).trans ((zu_ne (zn_off s (a := 0) (b := 10) rfl)).trans rfl)) ?_
      refine (zz_go 3 (fr' := (zm_S_addRow, d + 2, 66, [some (.ref s), some (.int x0), some (.int x1), some (.int x2)], [.int (60 : Int32), .int ((M s 16) + (1 : Int32)), .ref s])) (h' := (zt_T L, zt_R, (zz_up (zz_up M (s + 10) (M s 17).toNatClampNeg (((((((M s 12) * (8 : Int32)) + x0) * (4 : Int32)) + x1) * (16 : Int32)) + x2)) s 17 (zrm ((M s 17) + (1 : Int32)) (60 : Int32))), J, e)) (fun _ => rfl)).trans ?_
      refine zl_st (d := d + 1) rfl rfl rfl rfl rfl rfl rfl (s_jm_min L e J (d + 0) ((M s 16) + (1 : Int32)) (60 : Int32)) ?_
      show zz_D (zm_S_addRow, d + 2, 69, [some (.ref s), some (.int x0), some (.int x1), some (.int x2)], [.int (v_jm_min ((M s 16) + (1 : Int32)) (60 : Int32)), .ref s]) (zt_T L, zt_R, (zz_up (zz_up M (s + 10) (M s 17).toNatClampNeg (((((((M s 12) * (8 : Int32)) + x0) * (4 : Int32)) + x1) * (16 : Int32)) + x2)) s 17 (zrm ((M s 17) + (1 : Int32)) (60 : Int32))), J, e) = _
      refine zl_putI rfl rfl (zt_St0 L hs) (zt_Stp hs 0) ?_
      refine (zz_end 1 (r := (.inl none, (zt_T L, zt_R, (zz_up (zz_up (zz_up M (s + 10) (M s 17).toNatClampNeg (((((((M s 12) * (8 : Int32)) + x0) * (4 : Int32)) + x1) * (16 : Int32)) + x2)) s 17 (zrm ((M s 17) + (1 : Int32)) (60 : Int32))) s 16 (v_jm_min ((M s 16) + (1 : Int32)) (60 : Int32))), J, e))) (fun _ => rfl)).trans ?_
      first | (simp only [h1, h3, zk_t, zk_f, zb_t, zb_f]; done) | (simp only [h1, h3, zk_t, zk_f, zb_t, zb_f]; rfl) | rfl
    · refine zc_ltF rfl h3 ?_
      refine (zz_end 1 (r := (.inl none, (zt_T L, zt_R, M, J, e))) (fun _ => rfl)).trans ?_
      first | (simp only [h1, h3, zk_t, zk_f, zb_t, zb_f]; done) | (simp only [h1, h3, zk_t, zk_f, zb_t, zb_f]; rfl) | rfl
def v_S_rowPart (M : zMem) (s : Nat) (x0 : Int32) (x1 : Int32) : Int32 := (bif (decide (x0 < 0)) then (-1 : Int32) else (bif (decide (x0 < (M s 16))) then (bif (decide (0 ≤ (zrm ((((M s 17) + (60 : Int32)) - (1 : Int32)) - x0) (60 : Int32)))) then (bif (decide (x1 = (0 : Int32))) then (zsr (M (s + 10) (zrm ((((M s 17) + (60 : Int32)) - (1 : Int32)) - x0) (60 : Int32)).toNatClampNeg) (9 : Int32)) else (bif (decide (x1 = (1 : Int32))) then ((zsr (M (s + 10) (zrm ((((M s 17) + (60 : Int32)) - (1 : Int32)) - x0) (60 : Int32)).toNatClampNeg) (6 : Int32)) &&& (7 : Int32)) else (bif (decide (x1 = (2 : Int32))) then ((zsr (M (s + 10) (zrm ((((M s 17) + (60 : Int32)) - (1 : Int32)) - x0) (60 : Int32)).toNatClampNeg) (4 : Int32)) &&& (3 : Int32)) else ((M (s + 10) (zrm ((((M s 17) + (60 : Int32)) - (1 : Int32)) - x0) (60 : Int32)).toNatClampNeg) &&& (15 : Int32))))) else (-1 : Int32)) else (-1 : Int32)))
def ok_S_rowPart (M : zMem) (s : Nat) (x0 : Int32) (x1 : Int32) : Prop := ((decide (x0 < 0)) = false → ((decide (x0 < (M s 16))) = true → ((decide (0 ≤ (zrm ((((M s 17) + (60 : Int32)) - (1 : Int32)) - x0) (60 : Int32)))) = true → (((decide (x1 = (0 : Int32))) = true → zz_in (zrm ((((M s 17) + (60 : Int32)) - (1 : Int32)) - x0) (60 : Int32)) 60 = true) ∧ ((decide (x1 = (0 : Int32))) = false → (((decide (x1 = (1 : Int32))) = true → zz_in (zrm ((((M s 17) + (60 : Int32)) - (1 : Int32)) - x0) (60 : Int32)) 60 = true) ∧ ((decide (x1 = (1 : Int32))) = false → (((decide (x1 = (2 : Int32))) = true → zz_in (zrm ((((M s 17) + (60 : Int32)) - (1 : Int32)) - x0) (60 : Int32)) 60 = true) ∧ ((decide (x1 = (2 : Int32))) = false → zz_in (zrm ((((M s 17) + (60 : Int32)) - (1 : Int32)) - x0) (60 : Int32)) 60 = true)))))))))
set_option maxRecDepth 20000 in
set_option maxHeartbeats 2000000 in
theorem s_S_rowPart (L e : Nat) (J : zJem) (d : Nat) (M : zMem) (s : Nat) (x0 : Int32) (x1 : Int32) (hs : zt_St s) (k0 : ok_S_rowPart M s x0 x1) : zz_D (zm_S_rowPart, d + 1, 0, [some (.ref s), some (.int x0), some (.int x1), none], []) (zt_T L, zt_R, M, J, e) = some (.inl (some (.int (v_S_rowPart M s x0 x1))), (zt_T L, zt_R, M, J, e)) := by
  unfold ok_S_rowPart at k0
  unfold v_S_rowPart
  refine (zz_go 1 (fr' := (zm_S_rowPart, d + 1, 1, [some (.ref s), some (.int x0), some (.int x1), none], [.int x0])) (h' := (zt_T L, zt_R, M, J, e)) (fun _ => rfl)).trans ?_
  rcases zz_bc (decide (x0 < 0)) with h1 | h1
  · refine zo_ltT rfl h1 ?_
    refine (zz_go 1 (fr' := (zm_S_rowPart, d + 1, 13, [some (.ref s), some (.int x0), some (.int x1), none], [.int (-1 : Int32)])) (h' := (zt_T L, zt_R, M, J, e)) (fun _ => rfl)).trans ?_
    refine zl_retI rfl rfl ?_
    first | (simp only [h1, zk_t, zk_f, zb_t, zb_f]; done) | (simp only [h1, zk_t, zk_f, zb_t, zb_f]; rfl) | rfl
  · refine zo_ltF rfl h1 ?_
    have k2 := k0 h1
    refine (zz_go 2 (fr' := (zm_S_rowPart, d + 1, 6, [some (.ref s), some (.int x0), some (.int x1), none], [.ref s, .int x0])) (h' := (zt_T L, zt_R, M, J, e)) (fun _ => rfl)).trans ?_
    refine zl_getI rfl (by decide) (zt_St0 L hs) rfl ?_
    rcases zz_bc (decide (x0 < (M s 16))) with h3 | h3
    · refine zc_ltT rfl h3 ?_
      have k4 := k2 h3
      refine (zz_go 1 (fr' := (zm_S_rowPart, d + 1, 15, [some (.ref s), some (.int x0), some (.int x1), none], [.ref s])) (h' := (zt_T L, zt_R, M, J, e)) (fun _ => rfl)).trans ?_
      refine zl_getI rfl (by decide) (zt_St0 L hs) rfl ?_
      refine (zz_go 7 (fr' := (zm_S_rowPart, d + 1, 27, [some (.ref s), some (.int x0), some (.int x1), none], [.int (60 : Int32), .int ((((M s 17) + (60 : Int32)) - (1 : Int32)) - x0)])) (h' := (zt_T L, zt_R, M, J, e)) (fun _ => rfl)).trans ?_
      refine zl_rem rfl (by decide) ?_
      refine (zz_go 2 (fr' := (zm_S_rowPart, d + 1, 30, [some (.ref s), some (.int x0), some (.int x1), some (.int (zrm ((((M s 17) + (60 : Int32)) - (1 : Int32)) - x0) (60 : Int32)))], [.int (zrm ((((M s 17) + (60 : Int32)) - (1 : Int32)) - x0) (60 : Int32))])) (h' := (zt_T L, zt_R, M, J, e)) (fun _ => rfl)).trans ?_
      rcases zz_bc (decide (0 ≤ (zrm ((((M s 17) + (60 : Int32)) - (1 : Int32)) - x0) (60 : Int32)))) with h5 | h5
      · refine zo_geT rfl h5 ?_
        have k6 := k4 h5
        refine (zz_go 1 (fr' := (zm_S_rowPart, d + 1, 36, [some (.ref s), some (.int x0), some (.int x1), some (.int (zrm ((((M s 17) + (60 : Int32)) - (1 : Int32)) - x0) (60 : Int32)))], [.int x1])) (h' := (zt_T L, zt_R, M, J, e)) (fun _ => rfl)).trans ?_
        obtain ⟨k8, k9⟩ := k6
        rcases zz_bc (decide (x1 = (0 : Int32))) with h7 | h7
        · refine zl_swc (A := (zm_S_rowPart, d + 1, 64, [some (.ref s), some (.int x0), some (.int x1), some (.int (zrm ((((M s 17) + (60 : Int32)) - (1 : Int32)) - x0) (60 : Int32)))], [])) h7 (fun _ => rfl) ?_
          have k10 := k8 h7
          refine (zz_go 1 (fr' := (zm_S_rowPart, d + 1, 65, [some (.ref s), some (.int x0), some (.int x1), some (.int (zrm ((((M s 17) + (60 : Int32)) - (1 : Int32)) - x0) (60 : Int32)))], [.ref s])) (h' := (zt_T L, zt_R, M, J, e)) (fun _ => rfl)).trans ?_
          refine zl_getR rfl (zt_St0 L hs) (zt_StR9 hs) ?_
          refine (zz_go 1 (fr' := (zm_S_rowPart, d + 1, 69, [some (.ref s), some (.int x0), some (.int x1), some (.int (zrm ((((M s 17) + (60 : Int32)) - (1 : Int32)) - x0) (60 : Int32)))], [.int (zrm ((((M s 17) + (60 : Int32)) - (1 : Int32)) - x0) (60 : Int32)), .ref (s + 10)])) (h' := (zt_T L, zt_R, M, J, e)) (fun _ => rfl)).trans ?_
          have g11 : zz_in (zrm ((((M s 17) + (60 : Int32)) - (1 : Int32)) - x0) (60 : Int32)) 60 = true := k10
          refine zl_iaload rfl (zt_St10 L hs) g11 rfl ?_
          refine (zz_go 2 (fr' := (zm_S_rowPart, d + 1, 73, [some (.ref s), some (.int x0), some (.int x1), some (.int (zrm ((((M s 17) + (60 : Int32)) - (1 : Int32)) - x0) (60 : Int32)))], [.int (zsr (M (s + 10) (zrm ((((M s 17) + (60 : Int32)) - (1 : Int32)) - x0) (60 : Int32)).toNatClampNeg) (9 : Int32))])) (h' := (zt_T L, zt_R, M, J, e)) (fun _ => rfl)).trans ?_
          refine zl_retI rfl rfl ?_
          first | (simp only [h1, h3, h5, h7, zk_t, zk_f, zb_t, zb_f]; done) | (simp only [h1, h3, h5, h7, zk_t, zk_f, zb_t, zb_f]; rfl) | rfl
        · have k12 := k9 h7
          obtain ⟨k14, k15⟩ := k12
          rcases zz_bc (decide (x1 = (1 : Int32))) with h13 | h13
          · refine zl_swc (A := (zm_S_rowPart, d + 1, 74, [some (.ref s), some (.int x0), some (.int x1), some (.int (zrm ((((M s 17) + (60 : Int32)) - (1 : Int32)) - x0) (60 : Int32)))], [])) h13 (fun _ => rfl) ?_
            have k16 := k14 h13
            refine (zz_go 1 (fr' := (zm_S_rowPart, d + 1, 75, [some (.ref s), some (.int x0), some (.int x1), some (.int (zrm ((((M s 17) + (60 : Int32)) - (1 : Int32)) - x0) (60 : Int32)))], [.ref s])) (h' := (zt_T L, zt_R, M, J, e)) (fun _ => rfl)).trans ?_
            refine zl_getR rfl (zt_St0 L hs) (zt_StR9 hs) ?_
            refine (zz_go 1 (fr' := (zm_S_rowPart, d + 1, 79, [some (.ref s), some (.int x0), some (.int x1), some (.int (zrm ((((M s 17) + (60 : Int32)) - (1 : Int32)) - x0) (60 : Int32)))], [.int (zrm ((((M s 17) + (60 : Int32)) - (1 : Int32)) - x0) (60 : Int32)), .ref (s + 10)])) (h' := (zt_T L, zt_R, M, J, e)) (fun _ => rfl)).trans ?_
            have g17 : zz_in (zrm ((((M s 17) + (60 : Int32)) - (1 : Int32)) - x0) (60 : Int32)) 60 = true := k16
            refine zl_iaload rfl (zt_St10 L hs) g17 rfl ?_
            refine (zz_go 4 (fr' := (zm_S_rowPart, d + 1, 86, [some (.ref s), some (.int x0), some (.int x1), some (.int (zrm ((((M s 17) + (60 : Int32)) - (1 : Int32)) - x0) (60 : Int32)))], [.int ((zsr (M (s + 10) (zrm ((((M s 17) + (60 : Int32)) - (1 : Int32)) - x0) (60 : Int32)).toNatClampNeg) (6 : Int32)) &&& (7 : Int32))])) (h' := (zt_T L, zt_R, M, J, e)) (fun _ => rfl)).trans ?_
            refine zl_retI rfl rfl ?_
            first | (simp only [h1, h3, h5, h7, h13, zk_t, zk_f, zb_t, zb_f]; done) | (simp only [h1, h3, h5, h7, h13, zk_t, zk_f, zb_t, zb_f]; rfl) | rfl
          · have k18 := k15 h13
            obtain ⟨k20, k21⟩ := k18
            rcases zz_bc (decide (x1 = (2 : Int32))) with h19 | h19
            · refine zl_swc (A := (zm_S_rowPart, d + 1, 87, [some (.ref s), some (.int x0), some (.int x1), some (.int (zrm ((((M s 17) + (60 : Int32)) - (1 : Int32)) - x0) (60 : Int32)))], [])) h19 (fun _ => rfl) ?_
              have k22 := k20 h19
              refine (zz_go 1 (fr' := (zm_S_rowPart, d + 1, 88, [some (.ref s), some (.int x0), some (.int x1), some (.int (zrm ((((M s 17) + (60 : Int32)) - (1 : Int32)) - x0) (60 : Int32)))], [.ref s])) (h' := (zt_T L, zt_R, M, J, e)) (fun _ => rfl)).trans ?_
              refine zl_getR rfl (zt_St0 L hs) (zt_StR9 hs) ?_
              refine (zz_go 1 (fr' := (zm_S_rowPart, d + 1, 92, [some (.ref s), some (.int x0), some (.int x1), some (.int (zrm ((((M s 17) + (60 : Int32)) - (1 : Int32)) - x0) (60 : Int32)))], [.int (zrm ((((M s 17) + (60 : Int32)) - (1 : Int32)) - x0) (60 : Int32)), .ref (s + 10)])) (h' := (zt_T L, zt_R, M, J, e)) (fun _ => rfl)).trans ?_
              have g23 : zz_in (zrm ((((M s 17) + (60 : Int32)) - (1 : Int32)) - x0) (60 : Int32)) 60 = true := k22
              refine zl_iaload rfl (zt_St10 L hs) g23 rfl ?_
              refine (zz_go 4 (fr' := (zm_S_rowPart, d + 1, 97, [some (.ref s), some (.int x0), some (.int x1), some (.int (zrm ((((M s 17) + (60 : Int32)) - (1 : Int32)) - x0) (60 : Int32)))], [.int ((zsr (M (s + 10) (zrm ((((M s 17) + (60 : Int32)) - (1 : Int32)) - x0) (60 : Int32)).toNatClampNeg) (4 : Int32)) &&& (3 : Int32))])) (h' := (zt_T L, zt_R, M, J, e)) (fun _ => rfl)).trans ?_
              refine zl_retI rfl rfl ?_
              first | (simp only [h1, h3, h5, h7, h13, h19, zk_t, zk_f, zb_t, zb_f]; done) | (simp only [h1, h3, h5, h7, h13, h19, zk_t, zk_f, zb_t, zb_f]; rfl) | rfl
            · have k24 := k21 h19
              refine zl_swd rfl (by have e0 : (x1).toInt ≠ 0 := zsw_ne h7; have e1 : (x1).toInt ≠ 1 := zsw_ne h13; have e2 : (x1).toInt ≠ 2 := zsw_ne h19; simp only [Bool.or_eq_true, decide_eq_true_eq]; omega) rfl ?_
              refine (zz_go 1 (fr' := (zm_S_rowPart, d + 1, 99, [some (.ref s), some (.int x0), some (.int x1), some (.int (zrm ((((M s 17) + (60 : Int32)) - (1 : Int32)) - x0) (60 : Int32)))], [.ref s])) (h' := (zt_T L, zt_R, M, J, e)) (fun _ => rfl)).trans ?_
              refine zl_getR rfl (zt_St0 L hs) (zt_StR9 hs) ?_
              refine (zz_go 1 (fr' := (zm_S_rowPart, d + 1, 103, [some (.ref s), some (.int x0), some (.int x1), some (.int (zrm ((((M s 17) + (60 : Int32)) - (1 : Int32)) - x0) (60 : Int32)))], [.int (zrm ((((M s 17) + (60 : Int32)) - (1 : Int32)) - x0) (60 : Int32)), .ref (s + 10)])) (h' := (zt_T L, zt_R, M, J, e)) (fun _ => rfl)).trans ?_
              have g25 : zz_in (zrm ((((M s 17) + (60 : Int32)) - (1 : Int32)) - x0) (60 : Int32)) 60 = true := k24
              refine zl_iaload rfl (zt_St10 L hs) g25 rfl ?_
              refine (zz_go 2 (fr' := (zm_S_rowPart, d + 1, 107, [some (.ref s), some (.int x0), some (.int x1), some (.int (zrm ((((M s 17) + (60 : Int32)) - (1 : Int32)) - x0) (60 : Int32)))], [.int ((M (s + 10) (zrm ((((M s 17) + (60 : Int32)) - (1 : Int32)) - x0) (60 : Int32)).toNatClampNeg) &&& (15 : Int32))])) (h' := (zt_T L, zt_R, M, J, e)) (fun _ => rfl)).trans ?_
              refine zl_retI rfl rfl ?_
              first | (simp only [h1, h3, h5, h7, h13, h19, zk_t, zk_f, zb_t, zb_f]; done) | (simp only [h1, h3, h5, h7, h13, h19, zk_t, zk_f, zb_t, zb_f]; rfl) | rfl
      · refine zo_geF rfl h5 ?_
        refine (zz_go 1 (fr' := (zm_S_rowPart, d + 1, 34, [some (.ref s), some (.int x0), some (.int x1), some (.int (zrm ((((M s 17) + (60 : Int32)) - (1 : Int32)) - x0) (60 : Int32)))], [.int (-1 : Int32)])) (h' := (zt_T L, zt_R, M, J, e)) (fun _ => rfl)).trans ?_
        refine zl_retI rfl rfl ?_
        first | (simp only [h1, h3, h5, zk_t, zk_f, zb_t, zb_f]; done) | (simp only [h1, h3, h5, zk_t, zk_f, zb_t, zb_f]; rfl) | rfl
    · refine zc_ltF rfl h3 ?_
      refine (zz_go 1 (fr' := (zm_S_rowPart, d + 1, 13, [some (.ref s), some (.int x0), some (.int x1), none], [.int (-1 : Int32)])) (h' := (zt_T L, zt_R, M, J, e)) (fun _ => rfl)).trans ?_
      refine zl_retI rfl rfl ?_
      first | (simp only [h1, h3, zk_t, zk_f, zb_t, zb_f]; done) | (simp only [h1, h3, zk_t, zk_f, zb_t, zb_f]; rfl) | rfl
def v_S_draw (M : zMem) (s : Nat) : Int32 := ((zus (((1103515245 : Int32) * (M s 14)) + (12345 : Int32)) (16 : Int32)) &&& (32767 : Int32))
def w_S_draw (M : zMem) (s : Nat) : zMem := (zz_up M s 14 (((1103515245 : Int32) * (M s 14)) + (12345 : Int32)))
set_option maxRecDepth 20000 in
set_option maxHeartbeats 2000000 in
theorem s_S_draw (L e : Nat) (J : zJem) (d : Nat) (M : zMem) (s : Nat) (hs : zt_St s) : zz_D (zm_S_draw, d + 1, 0, [some (.ref s)], []) (zt_T L, zt_R, M, J, e) = some (.inl (some (.int (v_S_draw M s))), (zt_T L, zt_R, (w_S_draw M s), J, e)) := by
  unfold v_S_draw w_S_draw
  refine (zz_go 3 (fr' := (zm_S_draw, d + 1, 4, [some (.ref s)], [.ref s, .int (1103515245 : Int32), .ref s])) (h' := (zt_T L, zt_R, M, J, e)) (fun _ => rfl)).trans ?_
  refine zl_getI rfl (by decide) (zt_St0 L hs) rfl ?_
  refine (zz_go 3 (fr' := (zm_S_draw, d + 1, 12, [some (.ref s)], [.int (((1103515245 : Int32) * (M s 14)) + (12345 : Int32)), .ref s])) (h' := (zt_T L, zt_R, M, J, e)) (fun _ => rfl)).trans ?_
  refine zl_putI rfl rfl (zt_St0 L hs) (zt_Stp hs 0) ?_
  refine (zz_go 1 (fr' := (zm_S_draw, d + 1, 16, [some (.ref s)], [.ref s])) (h' := (zt_T L, zt_R, (zz_up M s 14 (((1103515245 : Int32) * (M s 14)) + (12345 : Int32))), J, e)) (fun _ => rfl)).trans ?_
  refine zl_getI rfl (by decide) (zt_St0 L hs) zu_eq ?_
  refine (zz_go 4 (fr' := (zm_S_draw, d + 1, 26, [some (.ref s)], [.int ((zus (((1103515245 : Int32) * (M s 14)) + (12345 : Int32)) (16 : Int32)) &&& (32767 : Int32))])) (h' := (zt_T L, zt_R, (zz_up M s 14 (((1103515245 : Int32) * (M s 14)) + (12345 : Int32))), J, e)) (fun _ => rfl)).trans ?_
  refine zl_retI rfl rfl ?_
  rfl
def g_S_growOld_1 (M : zMem) (s : Nat) (i1 : Nat) (a1 : zMem) : Bool × (zMem) := ((bif (decide ((a1 s 10) ≤ (Int32.ofNat i1))) then false else true), (bif (decide ((a1 s 10) ≤ (Int32.ofNat i1))) then a1 else (zz_up a1 (s + 6) (Int32.ofNat i1).toNatClampNeg (v_jm_min ((a1 (s + 6) (Int32.ofNat i1).toNatClampNeg) + (1 : Int32)) (99 : Int32)))))
def kb_S_growOld_1 (M : zMem) (s : Nat) (i1 : Nat) (a1 : zMem) : Prop := ((decide ((a1 s 10) ≤ (Int32.ofNat i1))) = false → zz_in (Int32.ofNat i1) 6 = true)
def w_S_growOld (M : zMem) (s : Nat) : zMem := (zf_wh 1000 (g_S_growOld_1 M s) 0 M)
def ok_S_growOld (M : zMem) (s : Nat) : Prop := (zf_wk 1000 (g_S_growOld_1 M s) (kb_S_growOld_1 M s) 0 M)
set_option maxRecDepth 20000 in
set_option maxHeartbeats 2000000 in
theorem s_S_growOld (L e : Nat) (J : zJem) (d : Nat) (M : zMem) (s : Nat) (hs : zt_St s) (k0 : ok_S_growOld M s) : zz_D (zm_S_growOld, d + 2, 0, [some (.ref s), none], []) (zt_T L, zt_R, M, J, e) = some (.inl (none), (zt_T L, zt_R, (w_S_growOld M s), J, e)) := by
  unfold ok_S_growOld at k0
  unfold w_S_growOld
  refine (zz_go 2 (fr' := (zm_S_growOld, d + 2, 2, [some (.ref s), some (.int (0 : Int32))], [])) (h' := (zt_T L, zt_R, M, J, e)) (fun _ => rfl)).trans ?_
  refine zf_whY (X := fun (i1 : Nat) (a1 : zMem) => zz_D (zm_S_growOld, d + 2, 2, [some (.ref s), some (.int (Int32.ofNat i1))], []) (zt_T L, zt_R, a1, J, e)) (Y := fun (a1 : zMem) => zz_D (zm_S_growOld, d + 2, 35, [none, none], []) (zt_T L, zt_R, a1, J, e)) (g := (g_S_growOld_1 M s)) (k := (kb_S_growOld_1 M s)) (fun i1 a1 k3 hx1 hx2 => ?_) 1000 0 M k0 ?_
  · show zz_D (zm_S_growOld, d + 2, 2, [some (.ref s), some (.int (Int32.ofNat i1))], []) (zt_T L, zt_R, a1, J, e) = _
    unfold kb_S_growOld_1 at k3
    refine (zz_go 2 (fr' := (zm_S_growOld, d + 2, 4, [some (.ref s), some (.int (Int32.ofNat i1))], [.ref s, .int (Int32.ofNat i1)])) (h' := (zt_T L, zt_R, a1, J, e)) (fun _ => rfl)).trans ?_
    refine zl_getI rfl (by decide) (zt_St0 L hs) rfl ?_
    rcases zz_bc (decide ((a1 s 10) ≤ (Int32.ofNat i1))) with h4 | h4
    · refine zc_geT rfl h4 ?_
      refine zz_weak (L := [none, none]) ⟨Or.inr ⟨rfl, rfl⟩, Or.inr ⟨rfl, rfl⟩, trivial⟩ ?_
      have y1 := hx2 (by simp only [g_S_growOld_1, h4, zk_t, zk_f, zb_t, zb_f])
      simpa only [g_S_growOld_1, h4, zk_t, zk_f, zb_t, zb_f] using y1
    · refine zc_geF rfl h4 ?_
      have k5 := k3 h4
      refine (zz_go 1 (fr' := (zm_S_growOld, d + 2, 11, [some (.ref s), some (.int (Int32.ofNat i1))], [.ref s])) (h' := (zt_T L, zt_R, a1, J, e)) (fun _ => rfl)).trans ?_
      refine zl_getR rfl (zt_St0 L hs) (zt_StR5 hs) ?_
      refine (zz_go 2 (fr' := (zm_S_growOld, d + 2, 16, [some (.ref s), some (.int (Int32.ofNat i1))], [.ref s, .int (Int32.ofNat i1), .ref (s + 6)])) (h' := (zt_T L, zt_R, a1, J, e)) (fun _ => rfl)).trans ?_
      refine zl_getR rfl (zt_St0 L hs) (zt_StR5 hs) ?_
      refine (zz_go 1 (fr' := (zm_S_growOld, d + 2, 20, [some (.ref s), some (.int (Int32.ofNat i1))], [.int (Int32.ofNat i1), .ref (s + 6), .int (Int32.ofNat i1), .ref (s + 6)])) (h' := (zt_T L, zt_R, a1, J, e)) (fun _ => rfl)).trans ?_
      have g6 : zz_in (Int32.ofNat i1) 6 = true := k5
      refine zl_iaload rfl (zt_St6 L hs) g6 rfl ?_
      refine (zz_go 3 (fr' := (zm_S_growOld, d + 2, 25, [some (.ref s), some (.int (Int32.ofNat i1))], [.int (99 : Int32), .int ((a1 (s + 6) (Int32.ofNat i1).toNatClampNeg) + (1 : Int32)), .int (Int32.ofNat i1), .ref (s + 6)])) (h' := (zt_T L, zt_R, a1, J, e)) (fun _ => rfl)).trans ?_
      refine zl_st (d := d + 1) rfl rfl rfl rfl rfl rfl rfl (s_jm_min L e J (d + 0) ((a1 (s + 6) (Int32.ofNat i1).toNatClampNeg) + (1 : Int32)) (99 : Int32)) ?_
      show zz_D (zm_S_growOld, d + 2, 28, [some (.ref s), some (.int (Int32.ofNat i1))], [.int (v_jm_min ((a1 (s + 6) (Int32.ofNat i1).toNatClampNeg) + (1 : Int32)) (99 : Int32)), .int (Int32.ofNat i1), .ref (s + 6)]) (zt_T L, zt_R, a1, J, e) = _
      refine zl_iastore rfl (zt_St6 L hs) g6 (zt_Stp hs 6) rfl ?_
      refine (zz_go 2 (fr' := (zm_S_growOld, d + 2, 2, [some (.ref s), some (.int (Int32.ofNat i1 + 1))], [])) (h' := (zt_T L, zt_R, (zz_up a1 (s + 6) (Int32.ofNat i1).toNatClampNeg (v_jm_min ((a1 (s + 6) (Int32.ofNat i1).toNatClampNeg) + (1 : Int32)) (99 : Int32))), J, e)) (fun _ => rfl)).trans ?_
      rw [zi_succ i1]
      have y1 := hx1 (by simp only [g_S_growOld_1, h4, zk_t, zk_f, zb_t, zb_f])
      simpa only [g_S_growOld_1, h4, zk_t, zk_f, zb_t, zb_f] using y1
  show zz_D (zm_S_growOld, d + 2, 35, [none, none], []) (zt_T L, zt_R, (zf_wh 1000 (g_S_growOld_1 M s) 0 M), J, e) = _
  refine (zz_end 1 (r := (.inl none, (zt_T L, zt_R, (zf_wh 1000 (g_S_growOld_1 M s) 0 M), J, e))) (fun _ => rfl)).trans ?_
  rfl
def w_L_learn (M : zMem) (s : Nat) (x0 : Int32) : zMem := (bif (decide ((M (s + 4) (x0).toNatClampNeg) < 0)) then M else (bif (decide ((M (s + 4) (x0).toNatClampNeg) < (8 : Int32))) then (zy_l (zy_l (zy_l (zy_l (zz_up (zy_l (zy_l (zy_l (zz_up (zz_up M 42 0 x0) 42 1 (M (s + 4) (x0).toNatClampNeg)) (fun N => (zz_up N 42 2 (N (s + 6) (x0).toNatClampNeg)))) (fun N => (zz_up N 42 3 (N (s + 7) (x0).toNatClampNeg)))) (fun N => (zz_up N 42 4 (v_ji_bitCount (N (s + 8) (x0).toNatClampNeg))))) 42 5 (v_ji_bitCount (M (s + 5) (x0).toNatClampNeg))) (fun N => (zz_up N 42 6 (N (s + 2) (M (s + 4) (x0).toNatClampNeg).toNatClampNeg)))) (fun N => (zz_up N 42 7 (zrm (N s 12) (100 : Int32))))) (fun N => (zz_up N 42 8 (zb (decide (((N (s + 1) (M (s + 4) (x0).toNatClampNeg).toNatClampNeg) &&& ((M (s + 5) (x0).toNatClampNeg) ^^^ (-1 : Int32))) = 0)))))) (fun N => (zz_up N 42 9 (zb (decide ((v_S_kindsLike N s (M (s + 4) (x0).toNatClampNeg) (M (s + 5) (x0).toNatClampNeg)) = (zsl (1 : Int32) (M (s + 4) (x0).toNatClampNeg)))))))) else M))
def ok_L_learn (M : zMem) (s : Nat) (x0 : Int32) : Prop := (zz_in x0 6 = true ∧ ((decide ((M (s + 4) (x0).toNatClampNeg) < 0)) = false → ((decide ((M (s + 4) (x0).toNatClampNeg) < (8 : Int32))) = true → (zz_in (M (s + 4) (x0).toNatClampNeg) 8 = true ∧ ok_S_kindsLike (zy_l (zy_l (zy_l (zz_up (zy_l (zy_l (zy_l (zz_up (zz_up M 42 0 x0) 42 1 (M (s + 4) (x0).toNatClampNeg)) (fun N => (zz_up N 42 2 (N (s + 6) (x0).toNatClampNeg)))) (fun N => (zz_up N 42 3 (N (s + 7) (x0).toNatClampNeg)))) (fun N => (zz_up N 42 4 (v_ji_bitCount (N (s + 8) (x0).toNatClampNeg))))) 42 5 (v_ji_bitCount (M (s + 5) (x0).toNatClampNeg))) (fun N => (zz_up N 42 6 (N (s + 2) (M (s + 4) (x0).toNatClampNeg).toNatClampNeg)))) (fun N => (zz_up N 42 7 (zrm (N s 12) (100 : Int32))))) (fun N => (zz_up N 42 8 (zb (decide (((N (s + 1) (M (s + 4) (x0).toNatClampNeg).toNatClampNeg) &&& ((M (s + 5) (x0).toNatClampNeg) ^^^ (-1 : Int32))) = 0)))))) s (M (s + 4) (x0).toNatClampNeg) (M (s + 5) (x0).toNatClampNeg)))))
set_option maxRecDepth 20000 in
set_option maxHeartbeats 2000000 in
theorem s_L_learn (L e : Nat) (J : zJem) (d : Nat) (M : zMem) (s : Nat) (x0 : Int32) (hs : zt_St s) (k0 : ok_L_learn M s x0) : zz_D (zm_L_learn, d + 2, 0, [some (.ref 37), some (.ref s), some (.int x0), none, none], []) (zt_T L, zt_R, M, J, e) = some (.inl (none), (zt_T L, zt_R, (w_L_learn M s x0), J, e)) := by
  unfold ok_L_learn at k0
  unfold w_L_learn
  refine (zz_go 1 (fr' := (zm_L_learn, d + 2, 1, [some (.ref 37), some (.ref s), some (.int x0), none, none], [.ref s])) (h' := (zt_T L, zt_R, M, J, e)) (fun _ => rfl)).trans ?_
  refine zl_getR rfl (zt_St0 L hs) (zt_StR3 hs) ?_
  refine (zz_go 1 (fr' := (zm_L_learn, d + 2, 5, [some (.ref 37), some (.ref s), some (.int x0), none, none], [.int x0, .ref (s + 4)])) (h' := (zt_T L, zt_R, M, J, e)) (fun _ => rfl)).trans ?_
  obtain ⟨g1, k2⟩ := k0
  refine zl_iaload rfl (zt_St4 L hs) g1 rfl ?_
  refine (zz_go 2 (fr' := (zm_L_learn, d + 2, 8, [some (.ref 37), some (.ref s), some (.int x0), some (.int (M (s + 4) (x0).toNatClampNeg)), none], [.ref s])) (h' := (zt_T L, zt_R, M, J, e)) (fun _ => rfl)).trans ?_
  refine zl_getR rfl (zt_St0 L hs) (zt_StR4 hs) ?_
  refine (zz_go 1 (fr' := (zm_L_learn, d + 2, 12, [some (.ref 37), some (.ref s), some (.int x0), some (.int (M (s + 4) (x0).toNatClampNeg)), none], [.int x0, .ref (s + 5)])) (h' := (zt_T L, zt_R, M, J, e)) (fun _ => rfl)).trans ?_
  refine zl_iaload rfl (zt_St5 L hs) g1 rfl ?_
  refine (zz_go 2 (fr' := (zm_L_learn, d + 2, 16, [some (.ref 37), some (.ref s), some (.int x0), some (.int (M (s + 4) (x0).toNatClampNeg)), some (.int (M (s + 5) (x0).toNatClampNeg))], [.int (M (s + 4) (x0).toNatClampNeg)])) (h' := (zt_T L, zt_R, M, J, e)) (fun _ => rfl)).trans ?_
  rcases zz_bc (decide ((M (s + 4) (x0).toNatClampNeg) < 0)) with h3 | h3
  · refine zo_ltT rfl h3 ?_
    refine (zz_end 1 (r := (.inl none, (zt_T L, zt_R, M, J, e))) (fun _ => rfl)).trans ?_
    first | (simp only [h3, zk_t, zk_f, zb_t, zb_f]; done) | (simp only [h3, zk_t, zk_f, zb_t, zb_f]; rfl) | rfl
  · refine zo_ltF rfl h3 ?_
    have k4 := k2 h3
    refine (zz_go 2 (fr' := (zm_L_learn, d + 2, 22, [some (.ref 37), some (.ref s), some (.int x0), some (.int (M (s + 4) (x0).toNatClampNeg)), some (.int (M (s + 5) (x0).toNatClampNeg))], [.int (8 : Int32), .int (M (s + 4) (x0).toNatClampNeg)])) (h' := (zt_T L, zt_R, M, J, e)) (fun _ => rfl)).trans ?_
    rcases zz_bc (decide ((M (s + 4) (x0).toNatClampNeg) < (8 : Int32))) with h5 | h5
    · refine zc_ltT rfl h5 ?_
      have k6 := k4 h5
      refine (zz_go 1 (fr' := (zm_L_learn, d + 2, 27, [some (.ref 37), some (.ref s), some (.int x0), some (.int (M (s + 4) (x0).toNatClampNeg)), some (.int (M (s + 5) (x0).toNatClampNeg))], [.ref 37])) (h' := (zt_T L, zt_R, M, J, e)) (fun _ => rfl)).trans ?_
      refine zl_getR rfl rfl rfl ?_
      refine (zz_go 2 (fr' := (zm_L_learn, d + 2, 32, [some (.ref 37), some (.ref s), some (.int x0), some (.int (M (s + 4) (x0).toNatClampNeg)), some (.int (M (s + 5) (x0).toNatClampNeg))], [.int x0, .int (0 : Int32), .ref 42])) (h' := (zt_T L, zt_R, M, J, e)) (fun _ => rfl)).trans ?_
      refine zl_iastore rfl rfl (by decide) rfl rfl ?_
      refine (zz_go 1 (fr' := (zm_L_learn, d + 2, 34, [some (.ref 37), some (.ref s), some (.int x0), some (.int (M (s + 4) (x0).toNatClampNeg)), some (.int (M (s + 5) (x0).toNatClampNeg))], [.ref 37])) (h' := (zt_T L, zt_R, (zz_up M 42 0 x0), J, e)) (fun _ => rfl)).trans ?_
      refine zl_getR rfl rfl rfl ?_
      refine (zz_go 2 (fr' := (zm_L_learn, d + 2, 39, [some (.ref 37), some (.ref s), some (.int x0), some (.int (M (s + 4) (x0).toNatClampNeg)), some (.int (M (s + 5) (x0).toNatClampNeg))], [.int (M (s + 4) (x0).toNatClampNeg), .int (1 : Int32), .ref 42])) (h' := (zt_T L, zt_R, (zz_up M 42 0 x0), J, e)) (fun _ => rfl)).trans ?_
      refine zl_iastore rfl rfl (by decide) rfl rfl ?_
      refine (zz_go 1 (fr' := (zm_L_learn, d + 2, 41, [some (.ref 37), some (.ref s), some (.int x0), some (.int (M (s + 4) (x0).toNatClampNeg)), some (.int (M (s + 5) (x0).toNatClampNeg))], [.ref 37])) (h' := (zt_T L, zt_R, (zz_up (zz_up M 42 0 x0) 42 1 (M (s + 4) (x0).toNatClampNeg)), J, e)) (fun _ => rfl)).trans ?_
      refine zl_getR rfl rfl rfl ?_
      refine (zz_go 2 (fr' := (zm_L_learn, d + 2, 46, [some (.ref 37), some (.ref s), some (.int x0), some (.int (M (s + 4) (x0).toNatClampNeg)), some (.int (M (s + 5) (x0).toNatClampNeg))], [.ref s, .int (2 : Int32), .ref 42])) (h' := (zt_T L, zt_R, (zz_up (zz_up M 42 0 x0) 42 1 (M (s + 4) (x0).toNatClampNeg)), J, e)) (fun _ => rfl)).trans ?_
      refine zl_getR rfl (zt_St0 L hs) (zt_StR5 hs) ?_
      refine (zz_go 1 (fr' := (zm_L_learn, d + 2, 50, [some (.ref 37), some (.ref s), some (.int x0), some (.int (M (s + 4) (x0).toNatClampNeg)), some (.int (M (s + 5) (x0).toNatClampNeg))], [.int x0, .ref (s + 6), .int (2 : Int32), .ref 42])) (h' := (zt_T L, zt_R, (zz_up (zz_up M 42 0 x0) 42 1 (M (s + 4) (x0).toNatClampNeg)), J, e)) (fun _ => rfl)).trans ?_
      refine zl_iaload rfl (zt_St6 L hs) g1 rfl ?_
      refine zl_iastore rfl rfl (by decide) rfl rfl ?_
      refine (zz_go 1 (fr' := (zm_L_learn, d + 2, 53, [some (.ref 37), some (.ref s), some (.int x0), some (.int (M (s + 4) (x0).toNatClampNeg)), some (.int (M (s + 5) (x0).toNatClampNeg))], [.ref 37])) (h' := (zt_T L, zt_R, (zy_l (zz_up (zz_up M 42 0 x0) 42 1 (M (s + 4) (x0).toNatClampNeg)) (fun N => (zz_up N 42 2 (N (s + 6) (x0).toNatClampNeg)))), J, e)) (fun _ => rfl)).trans ?_
      refine zl_getR rfl rfl rfl ?_
      refine (zz_go 2 (fr' := (zm_L_learn, d + 2, 58, [some (.ref 37), some (.ref s), some (.int x0), some (.int (M (s + 4) (x0).toNatClampNeg)), some (.int (M (s + 5) (x0).toNatClampNeg))], [.ref s, .int (3 : Int32), .ref 42])) (h' := (zt_T L, zt_R, (zy_l (zz_up (zz_up M 42 0 x0) 42 1 (M (s + 4) (x0).toNatClampNeg)) (fun N => (zz_up N 42 2 (N (s + 6) (x0).toNatClampNeg)))), J, e)) (fun _ => rfl)).trans ?_
      refine zl_getR rfl (zt_St0 L hs) (zt_StR6 hs) ?_
      refine (zz_go 1 (fr' := (zm_L_learn, d + 2, 62, [some (.ref 37), some (.ref s), some (.int x0), some (.int (M (s + 4) (x0).toNatClampNeg)), some (.int (M (s + 5) (x0).toNatClampNeg))], [.int x0, .ref (s + 7), .int (3 : Int32), .ref 42])) (h' := (zt_T L, zt_R, (zy_l (zz_up (zz_up M 42 0 x0) 42 1 (M (s + 4) (x0).toNatClampNeg)) (fun N => (zz_up N 42 2 (N (s + 6) (x0).toNatClampNeg)))), J, e)) (fun _ => rfl)).trans ?_
      refine zl_iaload rfl (zt_St7 L hs) g1 rfl ?_
      refine zl_iastore rfl rfl (by decide) rfl rfl ?_
      refine (zz_go 1 (fr' := (zm_L_learn, d + 2, 65, [some (.ref 37), some (.ref s), some (.int x0), some (.int (M (s + 4) (x0).toNatClampNeg)), some (.int (M (s + 5) (x0).toNatClampNeg))], [.ref 37])) (h' := (zt_T L, zt_R, (zy_l (zy_l (zz_up (zz_up M 42 0 x0) 42 1 (M (s + 4) (x0).toNatClampNeg)) (fun N => (zz_up N 42 2 (N (s + 6) (x0).toNatClampNeg)))) (fun N => (zz_up N 42 3 (N (s + 7) (x0).toNatClampNeg)))), J, e)) (fun _ => rfl)).trans ?_
      refine zl_getR rfl rfl rfl ?_
      refine (zz_go 2 (fr' := (zm_L_learn, d + 2, 70, [some (.ref 37), some (.ref s), some (.int x0), some (.int (M (s + 4) (x0).toNatClampNeg)), some (.int (M (s + 5) (x0).toNatClampNeg))], [.ref s, .int (4 : Int32), .ref 42])) (h' := (zt_T L, zt_R, (zy_l (zy_l (zz_up (zz_up M 42 0 x0) 42 1 (M (s + 4) (x0).toNatClampNeg)) (fun N => (zz_up N 42 2 (N (s + 6) (x0).toNatClampNeg)))) (fun N => (zz_up N 42 3 (N (s + 7) (x0).toNatClampNeg)))), J, e)) (fun _ => rfl)).trans ?_
      refine zl_getR rfl (zt_St0 L hs) (zt_StR7 hs) ?_
      refine (zz_go 1 (fr' := (zm_L_learn, d + 2, 74, [some (.ref 37), some (.ref s), some (.int x0), some (.int (M (s + 4) (x0).toNatClampNeg)), some (.int (M (s + 5) (x0).toNatClampNeg))], [.int x0, .ref (s + 8), .int (4 : Int32), .ref 42])) (h' := (zt_T L, zt_R, (zy_l (zy_l (zz_up (zz_up M 42 0 x0) 42 1 (M (s + 4) (x0).toNatClampNeg)) (fun N => (zz_up N 42 2 (N (s + 6) (x0).toNatClampNeg)))) (fun N => (zz_up N 42 3 (N (s + 7) (x0).toNatClampNeg)))), J, e)) (fun _ => rfl)).trans ?_
      refine zl_iaload rfl (zt_St8 L hs) g1 rfl ?_
      refine zl_st (d := d + 1) rfl rfl rfl rfl rfl rfl rfl (s_ji_bitCount L e J (d + 0) ((zy_l (zy_l (zz_up (zz_up M 42 0 x0) 42 1 (M (s + 4) (x0).toNatClampNeg)) (fun N => (zz_up N 42 2 (N (s + 6) (x0).toNatClampNeg)))) (fun N => (zz_up N 42 3 (N (s + 7) (x0).toNatClampNeg)))) (s + 8) (x0).toNatClampNeg)) ?_
      show zz_D (zm_L_learn, d + 2, 78, [some (.ref 37), some (.ref s), some (.int x0), some (.int (M (s + 4) (x0).toNatClampNeg)), some (.int (M (s + 5) (x0).toNatClampNeg))], [.int (v_ji_bitCount ((zy_l (zy_l (zz_up (zz_up M 42 0 x0) 42 1 (M (s + 4) (x0).toNatClampNeg)) (fun N => (zz_up N 42 2 (N (s + 6) (x0).toNatClampNeg)))) (fun N => (zz_up N 42 3 (N (s + 7) (x0).toNatClampNeg)))) (s + 8) (x0).toNatClampNeg)), .int (4 : Int32), .ref 42]) (zt_T L, zt_R, (zy_l (zy_l (zz_up (zz_up M 42 0 x0) 42 1 (M (s + 4) (x0).toNatClampNeg)) (fun N => (zz_up N 42 2 (N (s + 6) (x0).toNatClampNeg)))) (fun N => (zz_up N 42 3 (N (s + 7) (x0).toNatClampNeg)))), J, e) = _
      refine zl_iastore rfl rfl (by decide) rfl rfl ?_
      refine (zz_go 1 (fr' := (zm_L_learn, d + 2, 80, [some (.ref 37), some (.ref s), some (.int x0), some (.int (M (s + 4) (x0).toNatClampNeg)), some (.int (M (s + 5) (x0).toNatClampNeg))], [.ref 37])) (h' := (zt_T L, zt_R, (zy_l (zy_l (zy_l (zz_up (zz_up M 42 0 x0) 42 1 (M (s + 4) (x0).toNatClampNeg)) (fun N => (zz_up N 42 2 (N (s + 6) (x0).toNatClampNeg)))) (fun N => (zz_up N 42 3 (N (s + 7) (x0).toNatClampNeg)))) (fun N => (zz_up N 42 4 (v_ji_bitCount (N (s + 8) (x0).toNatClampNeg))))), J, e)) (fun _ => rfl)).trans ?_
      refine zl_getR rfl rfl rfl ?_
      refine (zz_go 2 (fr' := (zm_L_learn, d + 2, 86, [some (.ref 37), some (.ref s), some (.int x0), some (.int (M (s + 4) (x0).toNatClampNeg)), some (.int (M (s + 5) (x0).toNatClampNeg))], [.int (M (s + 5) (x0).toNatClampNeg), .int (5 : Int32), .ref 42])) (h' := (zt_T L, zt_R, (zy_l (zy_l (zy_l (zz_up (zz_up M 42 0 x0) 42 1 (M (s + 4) (x0).toNatClampNeg)) (fun N => (zz_up N 42 2 (N (s + 6) (x0).toNatClampNeg)))) (fun N => (zz_up N 42 3 (N (s + 7) (x0).toNatClampNeg)))) (fun N => (zz_up N 42 4 (v_ji_bitCount (N (s + 8) (x0).toNatClampNeg))))), J, e)) (fun _ => rfl)).trans ?_
      refine zl_st (d := d + 1) rfl rfl rfl rfl rfl rfl rfl (s_ji_bitCount L e J (d + 0) (M (s + 5) (x0).toNatClampNeg)) ?_
      show zz_D (zm_L_learn, d + 2, 89, [some (.ref 37), some (.ref s), some (.int x0), some (.int (M (s + 4) (x0).toNatClampNeg)), some (.int (M (s + 5) (x0).toNatClampNeg))], [.int (v_ji_bitCount (M (s + 5) (x0).toNatClampNeg)), .int (5 : Int32), .ref 42]) (zt_T L, zt_R, (zy_l (zy_l (zy_l (zz_up (zz_up M 42 0 x0) 42 1 (M (s + 4) (x0).toNatClampNeg)) (fun N => (zz_up N 42 2 (N (s + 6) (x0).toNatClampNeg)))) (fun N => (zz_up N 42 3 (N (s + 7) (x0).toNatClampNeg)))) (fun N => (zz_up N 42 4 (v_ji_bitCount (N (s + 8) (x0).toNatClampNeg))))), J, e) = _
      refine zl_iastore rfl rfl (by decide) rfl rfl ?_
      refine (zz_go 1 (fr' := (zm_L_learn, d + 2, 91, [some (.ref 37), some (.ref s), some (.int x0), some (.int (M (s + 4) (x0).toNatClampNeg)), some (.int (M (s + 5) (x0).toNatClampNeg))], [.ref 37])) (h' := (zt_T L, zt_R, (zz_up (zy_l (zy_l (zy_l (zz_up (zz_up M 42 0 x0) 42 1 (M (s + 4) (x0).toNatClampNeg)) (fun N => (zz_up N 42 2 (N (s + 6) (x0).toNatClampNeg)))) (fun N => (zz_up N 42 3 (N (s + 7) (x0).toNatClampNeg)))) (fun N => (zz_up N 42 4 (v_ji_bitCount (N (s + 8) (x0).toNatClampNeg))))) 42 5 (v_ji_bitCount (M (s + 5) (x0).toNatClampNeg))), J, e)) (fun _ => rfl)).trans ?_
      refine zl_getR rfl rfl rfl ?_
      refine (zz_go 2 (fr' := (zm_L_learn, d + 2, 97, [some (.ref 37), some (.ref s), some (.int x0), some (.int (M (s + 4) (x0).toNatClampNeg)), some (.int (M (s + 5) (x0).toNatClampNeg))], [.ref s, .int (6 : Int32), .ref 42])) (h' := (zt_T L, zt_R, (zz_up (zy_l (zy_l (zy_l (zz_up (zz_up M 42 0 x0) 42 1 (M (s + 4) (x0).toNatClampNeg)) (fun N => (zz_up N 42 2 (N (s + 6) (x0).toNatClampNeg)))) (fun N => (zz_up N 42 3 (N (s + 7) (x0).toNatClampNeg)))) (fun N => (zz_up N 42 4 (v_ji_bitCount (N (s + 8) (x0).toNatClampNeg))))) 42 5 (v_ji_bitCount (M (s + 5) (x0).toNatClampNeg))), J, e)) (fun _ => rfl)).trans ?_
      refine zl_getR rfl (zt_St0 L hs) (zt_StR1 hs) ?_
      refine (zz_go 1 (fr' := (zm_L_learn, d + 2, 101, [some (.ref 37), some (.ref s), some (.int x0), some (.int (M (s + 4) (x0).toNatClampNeg)), some (.int (M (s + 5) (x0).toNatClampNeg))], [.int (M (s + 4) (x0).toNatClampNeg), .ref (s + 2), .int (6 : Int32), .ref 42])) (h' := (zt_T L, zt_R, (zz_up (zy_l (zy_l (zy_l (zz_up (zz_up M 42 0 x0) 42 1 (M (s + 4) (x0).toNatClampNeg)) (fun N => (zz_up N 42 2 (N (s + 6) (x0).toNatClampNeg)))) (fun N => (zz_up N 42 3 (N (s + 7) (x0).toNatClampNeg)))) (fun N => (zz_up N 42 4 (v_ji_bitCount (N (s + 8) (x0).toNatClampNeg))))) 42 5 (v_ji_bitCount (M (s + 5) (x0).toNatClampNeg))), J, e)) (fun _ => rfl)).trans ?_
      obtain ⟨g7, k8⟩ := k6
      refine zl_iaload rfl (zt_St2 L hs) g7 rfl ?_
      refine zl_iastore rfl rfl (by decide) rfl rfl ?_
      refine (zz_go 1 (fr' := (zm_L_learn, d + 2, 104, [some (.ref 37), some (.ref s), some (.int x0), some (.int (M (s + 4) (x0).toNatClampNeg)), some (.int (M (s + 5) (x0).toNatClampNeg))], [.ref 37])) (h' := (zt_T L, zt_R, (zy_l (zz_up (zy_l (zy_l (zy_l (zz_up (zz_up M 42 0 x0) 42 1 (M (s + 4) (x0).toNatClampNeg)) (fun N => (zz_up N 42 2 (N (s + 6) (x0).toNatClampNeg)))) (fun N => (zz_up N 42 3 (N (s + 7) (x0).toNatClampNeg)))) (fun N => (zz_up N 42 4 (v_ji_bitCount (N (s + 8) (x0).toNatClampNeg))))) 42 5 (v_ji_bitCount (M (s + 5) (x0).toNatClampNeg))) (fun N => (zz_up N 42 6 (N (s + 2) (M (s + 4) (x0).toNatClampNeg).toNatClampNeg)))), J, e)) (fun _ => rfl)).trans ?_
      refine zl_getR rfl rfl rfl ?_
      refine (zz_go 2 (fr' := (zm_L_learn, d + 2, 110, [some (.ref 37), some (.ref s), some (.int x0), some (.int (M (s + 4) (x0).toNatClampNeg)), some (.int (M (s + 5) (x0).toNatClampNeg))], [.ref s, .int (7 : Int32), .ref 42])) (h' := (zt_T L, zt_R, (zy_l (zz_up (zy_l (zy_l (zy_l (zz_up (zz_up M 42 0 x0) 42 1 (M (s + 4) (x0).toNatClampNeg)) (fun N => (zz_up N 42 2 (N (s + 6) (x0).toNatClampNeg)))) (fun N => (zz_up N 42 3 (N (s + 7) (x0).toNatClampNeg)))) (fun N => (zz_up N 42 4 (v_ji_bitCount (N (s + 8) (x0).toNatClampNeg))))) 42 5 (v_ji_bitCount (M (s + 5) (x0).toNatClampNeg))) (fun N => (zz_up N 42 6 (N (s + 2) (M (s + 4) (x0).toNatClampNeg).toNatClampNeg)))), J, e)) (fun _ => rfl)).trans ?_
      refine zl_getI rfl (by decide) (zt_St0 L hs) rfl ?_
      refine (zz_go 1 (fr' := (zm_L_learn, d + 2, 115, [some (.ref 37), some (.ref s), some (.int x0), some (.int (M (s + 4) (x0).toNatClampNeg)), some (.int (M (s + 5) (x0).toNatClampNeg))], [.int (100 : Int32), .int ((zy_l (zz_up (zy_l (zy_l (zy_l (zz_up (zz_up M 42 0 x0) 42 1 (M (s + 4) (x0).toNatClampNeg)) (fun N => (zz_up N 42 2 (N (s + 6) (x0).toNatClampNeg)))) (fun N => (zz_up N 42 3 (N (s + 7) (x0).toNatClampNeg)))) (fun N => (zz_up N 42 4 (v_ji_bitCount (N (s + 8) (x0).toNatClampNeg))))) 42 5 (v_ji_bitCount (M (s + 5) (x0).toNatClampNeg))) (fun N => (zz_up N 42 6 (N (s + 2) (M (s + 4) (x0).toNatClampNeg).toNatClampNeg)))) s 12), .int (7 : Int32), .ref 42])) (h' := (zt_T L, zt_R, (zy_l (zz_up (zy_l (zy_l (zy_l (zz_up (zz_up M 42 0 x0) 42 1 (M (s + 4) (x0).toNatClampNeg)) (fun N => (zz_up N 42 2 (N (s + 6) (x0).toNatClampNeg)))) (fun N => (zz_up N 42 3 (N (s + 7) (x0).toNatClampNeg)))) (fun N => (zz_up N 42 4 (v_ji_bitCount (N (s + 8) (x0).toNatClampNeg))))) 42 5 (v_ji_bitCount (M (s + 5) (x0).toNatClampNeg))) (fun N => (zz_up N 42 6 (N (s + 2) (M (s + 4) (x0).toNatClampNeg).toNatClampNeg)))), J, e)) (fun _ => rfl)).trans ?_
      refine zl_rem rfl (by decide) ?_
      refine zl_iastore rfl rfl (by decide) rfl rfl ?_
      refine (zz_go 1 (fr' := (zm_L_learn, d + 2, 118, [some (.ref 37), some (.ref s), some (.int x0), some (.int (M (s + 4) (x0).toNatClampNeg)), some (.int (M (s + 5) (x0).toNatClampNeg))], [.ref 37])) (h' := (zt_T L, zt_R, (zy_l (zy_l (zz_up (zy_l (zy_l (zy_l (zz_up (zz_up M 42 0 x0) 42 1 (M (s + 4) (x0).toNatClampNeg)) (fun N => (zz_up N 42 2 (N (s + 6) (x0).toNatClampNeg)))) (fun N => (zz_up N 42 3 (N (s + 7) (x0).toNatClampNeg)))) (fun N => (zz_up N 42 4 (v_ji_bitCount (N (s + 8) (x0).toNatClampNeg))))) 42 5 (v_ji_bitCount (M (s + 5) (x0).toNatClampNeg))) (fun N => (zz_up N 42 6 (N (s + 2) (M (s + 4) (x0).toNatClampNeg).toNatClampNeg)))) (fun N => (zz_up N 42 7 (zrm (N s 12) (100 : Int32))))), J, e)) (fun _ => rfl)).trans ?_
      refine zl_getR rfl rfl rfl ?_
      refine (zz_go 2 (fr' := (zm_L_learn, d + 2, 124, [some (.ref 37), some (.ref s), some (.int x0), some (.int (M (s + 4) (x0).toNatClampNeg)), some (.int (M (s + 5) (x0).toNatClampNeg))], [.ref s, .int (8 : Int32), .ref 42])) (h' := (zt_T L, zt_R, (zy_l (zy_l (zz_up (zy_l (zy_l (zy_l (zz_up (zz_up M 42 0 x0) 42 1 (M (s + 4) (x0).toNatClampNeg)) (fun N => (zz_up N 42 2 (N (s + 6) (x0).toNatClampNeg)))) (fun N => (zz_up N 42 3 (N (s + 7) (x0).toNatClampNeg)))) (fun N => (zz_up N 42 4 (v_ji_bitCount (N (s + 8) (x0).toNatClampNeg))))) 42 5 (v_ji_bitCount (M (s + 5) (x0).toNatClampNeg))) (fun N => (zz_up N 42 6 (N (s + 2) (M (s + 4) (x0).toNatClampNeg).toNatClampNeg)))) (fun N => (zz_up N 42 7 (zrm (N s 12) (100 : Int32))))), J, e)) (fun _ => rfl)).trans ?_
      refine zl_getR rfl (zt_St0 L hs) (zt_StR0 hs) ?_
      refine (zz_go 1 (fr' := (zm_L_learn, d + 2, 128, [some (.ref 37), some (.ref s), some (.int x0), some (.int (M (s + 4) (x0).toNatClampNeg)), some (.int (M (s + 5) (x0).toNatClampNeg))], [.int (M (s + 4) (x0).toNatClampNeg), .ref (s + 1), .int (8 : Int32), .ref 42])) (h' := (zt_T L, zt_R, (zy_l (zy_l (zz_up (zy_l (zy_l (zy_l (zz_up (zz_up M 42 0 x0) 42 1 (M (s + 4) (x0).toNatClampNeg)) (fun N => (zz_up N 42 2 (N (s + 6) (x0).toNatClampNeg)))) (fun N => (zz_up N 42 3 (N (s + 7) (x0).toNatClampNeg)))) (fun N => (zz_up N 42 4 (v_ji_bitCount (N (s + 8) (x0).toNatClampNeg))))) 42 5 (v_ji_bitCount (M (s + 5) (x0).toNatClampNeg))) (fun N => (zz_up N 42 6 (N (s + 2) (M (s + 4) (x0).toNatClampNeg).toNatClampNeg)))) (fun N => (zz_up N 42 7 (zrm (N s 12) (100 : Int32))))), J, e)) (fun _ => rfl)).trans ?_
      refine zl_iaload rfl (zt_St1 L hs) g7 rfl ?_
      refine zz_jn (X := zz_D (zm_L_learn, d + 2, 142, [some (.ref 37), some (.ref s), none, some (.int (M (s + 4) (x0).toNatClampNeg)), some (.int (M (s + 5) (x0).toNatClampNeg))], [.int (zb (decide ((((zy_l (zy_l (zz_up (zy_l (zy_l (zy_l (zz_up (zz_up M 42 0 x0) 42 1 (M (s + 4) (x0).toNatClampNeg)) (fun N => (zz_up N 42 2 (N (s + 6) (x0).toNatClampNeg)))) (fun N => (zz_up N 42 3 (N (s + 7) (x0).toNatClampNeg)))) (fun N => (zz_up N 42 4 (v_ji_bitCount (N (s + 8) (x0).toNatClampNeg))))) 42 5 (v_ji_bitCount (M (s + 5) (x0).toNatClampNeg))) (fun N => (zz_up N 42 6 (N (s + 2) (M (s + 4) (x0).toNatClampNeg).toNatClampNeg)))) (fun N => (zz_up N 42 7 (zrm (N s 12) (100 : Int32))))) (s + 1) (M (s + 4) (x0).toNatClampNeg).toNatClampNeg) &&& ((M (s + 5) (x0).toNatClampNeg) ^^^ (-1 : Int32))) = 0))), .int (8 : Int32), .ref 42]) (zt_T L, zt_R, (zy_l (zy_l (zz_up (zy_l (zy_l (zy_l (zz_up (zz_up M 42 0 x0) 42 1 (M (s + 4) (x0).toNatClampNeg)) (fun N => (zz_up N 42 2 (N (s + 6) (x0).toNatClampNeg)))) (fun N => (zz_up N 42 3 (N (s + 7) (x0).toNatClampNeg)))) (fun N => (zz_up N 42 4 (v_ji_bitCount (N (s + 8) (x0).toNatClampNeg))))) 42 5 (v_ji_bitCount (M (s + 5) (x0).toNatClampNeg))) (fun N => (zz_up N 42 6 (N (s + 2) (M (s + 4) (x0).toNatClampNeg).toNatClampNeg)))) (fun N => (zz_up N 42 7 (zrm (N s 12) (100 : Int32))))), J, e)) (fun j9 => ?_) ?_
      · refine (zz_go 4 (fr' := (zm_L_learn, d + 2, 134, [some (.ref 37), some (.ref s), some (.int x0), some (.int (M (s + 4) (x0).toNatClampNeg)), some (.int (M (s + 5) (x0).toNatClampNeg))], [.int (((zy_l (zy_l (zz_up (zy_l (zy_l (zy_l (zz_up (zz_up M 42 0 x0) 42 1 (M (s + 4) (x0).toNatClampNeg)) (fun N => (zz_up N 42 2 (N (s + 6) (x0).toNatClampNeg)))) (fun N => (zz_up N 42 3 (N (s + 7) (x0).toNatClampNeg)))) (fun N => (zz_up N 42 4 (v_ji_bitCount (N (s + 8) (x0).toNatClampNeg))))) 42 5 (v_ji_bitCount (M (s + 5) (x0).toNatClampNeg))) (fun N => (zz_up N 42 6 (N (s + 2) (M (s + 4) (x0).toNatClampNeg).toNatClampNeg)))) (fun N => (zz_up N 42 7 (zrm (N s 12) (100 : Int32))))) (s + 1) (M (s + 4) (x0).toNatClampNeg).toNatClampNeg) &&& ((M (s + 5) (x0).toNatClampNeg) ^^^ (-1 : Int32))), .int (8 : Int32), .ref 42])) (h' := (zt_T L, zt_R, (zy_l (zy_l (zz_up (zy_l (zy_l (zy_l (zz_up (zz_up M 42 0 x0) 42 1 (M (s + 4) (x0).toNatClampNeg)) (fun N => (zz_up N 42 2 (N (s + 6) (x0).toNatClampNeg)))) (fun N => (zz_up N 42 3 (N (s + 7) (x0).toNatClampNeg)))) (fun N => (zz_up N 42 4 (v_ji_bitCount (N (s + 8) (x0).toNatClampNeg))))) 42 5 (v_ji_bitCount (M (s + 5) (x0).toNatClampNeg))) (fun N => (zz_up N 42 6 (N (s + 2) (M (s + 4) (x0).toNatClampNeg).toNatClampNeg)))) (fun N => (zz_up N 42 7 (zrm (N s 12) (100 : Int32))))), J, e)) (fun _ => rfl)).trans ?_
        rcases zz_bc (decide ((((zy_l (zy_l (zz_up (zy_l (zy_l (zy_l (zz_up (zz_up M 42 0 x0) 42 1 (M (s + 4) (x0).toNatClampNeg)) (fun N => (zz_up N 42 2 (N (s + 6) (x0).toNatClampNeg)))) (fun N => (zz_up N 42 3 (N (s + 7) (x0).toNatClampNeg)))) (fun N => (zz_up N 42 4 (v_ji_bitCount (N (s + 8) (x0).toNatClampNeg))))) 42 5 (v_ji_bitCount (M (s + 5) (x0).toNatClampNeg))) (fun N => (zz_up N 42 6 (N (s + 2) (M (s + 4) (x0).toNatClampNeg).toNatClampNeg)))) (fun N => (zz_up N 42 7 (zrm (N s 12) (100 : Int32))))) (s + 1) (M (s + 4) (x0).toNatClampNeg).toNatClampNeg) &&& ((M (s + 5) (x0).toNatClampNeg) ^^^ (-1 : Int32))) = 0)) with h10 | h10
        · refine zo_neT rfl h10 ?_
          refine (zz_go 2 (fr' := (zm_L_learn, d + 2, 142, [some (.ref 37), some (.ref s), some (.int x0), some (.int (M (s + 4) (x0).toNatClampNeg)), some (.int (M (s + 5) (x0).toNatClampNeg))], [.int (1 : Int32), .int (8 : Int32), .ref 42])) (h' := (zt_T L, zt_R, (zy_l (zy_l (zz_up (zy_l (zy_l (zy_l (zz_up (zz_up M 42 0 x0) 42 1 (M (s + 4) (x0).toNatClampNeg)) (fun N => (zz_up N 42 2 (N (s + 6) (x0).toNatClampNeg)))) (fun N => (zz_up N 42 3 (N (s + 7) (x0).toNatClampNeg)))) (fun N => (zz_up N 42 4 (v_ji_bitCount (N (s + 8) (x0).toNatClampNeg))))) 42 5 (v_ji_bitCount (M (s + 5) (x0).toNatClampNeg))) (fun N => (zz_up N 42 6 (N (s + 2) (M (s + 4) (x0).toNatClampNeg).toNatClampNeg)))) (fun N => (zz_up N 42 7 (zrm (N s 12) (100 : Int32))))), J, e)) (fun _ => rfl)).trans ?_
          refine zz_weak (L := [some (.ref 37), some (.ref s), none, some (.int (M (s + 4) (x0).toNatClampNeg)), some (.int (M (s + 5) (x0).toNatClampNeg))]) ⟨Or.inl rfl, Or.inl rfl, Or.inr ⟨rfl, rfl⟩, Or.inl rfl, Or.inl rfl, trivial⟩ ?_
          simpa only [h10, zk_t, zk_f, zb_t, zb_f] using j9
        · refine zo_neF rfl h10 ?_
          refine (zz_go 1 (fr' := (zm_L_learn, d + 2, 142, [some (.ref 37), some (.ref s), some (.int x0), some (.int (M (s + 4) (x0).toNatClampNeg)), some (.int (M (s + 5) (x0).toNatClampNeg))], [.int (0 : Int32), .int (8 : Int32), .ref 42])) (h' := (zt_T L, zt_R, (zy_l (zy_l (zz_up (zy_l (zy_l (zy_l (zz_up (zz_up M 42 0 x0) 42 1 (M (s + 4) (x0).toNatClampNeg)) (fun N => (zz_up N 42 2 (N (s + 6) (x0).toNatClampNeg)))) (fun N => (zz_up N 42 3 (N (s + 7) (x0).toNatClampNeg)))) (fun N => (zz_up N 42 4 (v_ji_bitCount (N (s + 8) (x0).toNatClampNeg))))) 42 5 (v_ji_bitCount (M (s + 5) (x0).toNatClampNeg))) (fun N => (zz_up N 42 6 (N (s + 2) (M (s + 4) (x0).toNatClampNeg).toNatClampNeg)))) (fun N => (zz_up N 42 7 (zrm (N s 12) (100 : Int32))))), J, e)) (fun _ => rfl)).trans ?_
          refine zz_weak (L := [some (.ref 37), some (.ref s), none, some (.int (M (s + 4) (x0).toNatClampNeg)), some (.int (M (s + 5) (x0).toNatClampNeg))]) ⟨Or.inl rfl, Or.inl rfl, Or.inr ⟨rfl, rfl⟩, Or.inl rfl, Or.inl rfl, trivial⟩ ?_
          simpa only [h10, zk_t, zk_f, zb_t, zb_f] using j9
      refine zl_iastore rfl rfl (by decide) rfl rfl ?_
      refine (zz_go 1 (fr' := (zm_L_learn, d + 2, 144, [some (.ref 37), some (.ref s), none, some (.int (M (s + 4) (x0).toNatClampNeg)), some (.int (M (s + 5) (x0).toNatClampNeg))], [.ref 37])) (h' := (zt_T L, zt_R, (zy_l (zy_l (zy_l (zz_up (zy_l (zy_l (zy_l (zz_up (zz_up M 42 0 x0) 42 1 (M (s + 4) (x0).toNatClampNeg)) (fun N => (zz_up N 42 2 (N (s + 6) (x0).toNatClampNeg)))) (fun N => (zz_up N 42 3 (N (s + 7) (x0).toNatClampNeg)))) (fun N => (zz_up N 42 4 (v_ji_bitCount (N (s + 8) (x0).toNatClampNeg))))) 42 5 (v_ji_bitCount (M (s + 5) (x0).toNatClampNeg))) (fun N => (zz_up N 42 6 (N (s + 2) (M (s + 4) (x0).toNatClampNeg).toNatClampNeg)))) (fun N => (zz_up N 42 7 (zrm (N s 12) (100 : Int32))))) (fun N => (zz_up N 42 8 (zb (decide (((N (s + 1) (M (s + 4) (x0).toNatClampNeg).toNatClampNeg) &&& ((M (s + 5) (x0).toNatClampNeg) ^^^ (-1 : Int32))) = 0)))))), J, e)) (fun _ => rfl)).trans ?_
      refine zl_getR rfl rfl rfl ?_
      refine (zz_go 4 (fr' := (zm_L_learn, d + 2, 153, [some (.ref 37), some (.ref s), none, some (.int (M (s + 4) (x0).toNatClampNeg)), some (.int (M (s + 5) (x0).toNatClampNeg))], [.int (M (s + 5) (x0).toNatClampNeg), .int (M (s + 4) (x0).toNatClampNeg), .ref s, .int (9 : Int32), .ref 42])) (h' := (zt_T L, zt_R, (zy_l (zy_l (zy_l (zz_up (zy_l (zy_l (zy_l (zz_up (zz_up M 42 0 x0) 42 1 (M (s + 4) (x0).toNatClampNeg)) (fun N => (zz_up N 42 2 (N (s + 6) (x0).toNatClampNeg)))) (fun N => (zz_up N 42 3 (N (s + 7) (x0).toNatClampNeg)))) (fun N => (zz_up N 42 4 (v_ji_bitCount (N (s + 8) (x0).toNatClampNeg))))) 42 5 (v_ji_bitCount (M (s + 5) (x0).toNatClampNeg))) (fun N => (zz_up N 42 6 (N (s + 2) (M (s + 4) (x0).toNatClampNeg).toNatClampNeg)))) (fun N => (zz_up N 42 7 (zrm (N s 12) (100 : Int32))))) (fun N => (zz_up N 42 8 (zb (decide (((N (s + 1) (M (s + 4) (x0).toNatClampNeg).toNatClampNeg) &&& ((M (s + 5) (x0).toNatClampNeg) ^^^ (-1 : Int32))) = 0)))))), J, e)) (fun _ => rfl)).trans ?_
      have g11 : ok_S_kindsLike (zy_l (zy_l (zy_l (zz_up (zy_l (zy_l (zy_l (zz_up (zz_up M 42 0 x0) 42 1 (M (s + 4) (x0).toNatClampNeg)) (fun N => (zz_up N 42 2 (N (s + 6) (x0).toNatClampNeg)))) (fun N => (zz_up N 42 3 (N (s + 7) (x0).toNatClampNeg)))) (fun N => (zz_up N 42 4 (v_ji_bitCount (N (s + 8) (x0).toNatClampNeg))))) 42 5 (v_ji_bitCount (M (s + 5) (x0).toNatClampNeg))) (fun N => (zz_up N 42 6 (N (s + 2) (M (s + 4) (x0).toNatClampNeg).toNatClampNeg)))) (fun N => (zz_up N 42 7 (zrm (N s 12) (100 : Int32))))) (fun N => (zz_up N 42 8 (zb (decide (((N (s + 1) (M (s + 4) (x0).toNatClampNeg).toNatClampNeg) &&& ((M (s + 5) (x0).toNatClampNeg) ^^^ (-1 : Int32))) = 0)))))) s (M (s + 4) (x0).toNatClampNeg) (M (s + 5) (x0).toNatClampNeg) := k8
      refine zl_vt (d := d + 1) rfl rfl rfl (zt_St0 L hs) rfl rfl rfl rfl rfl rfl (s_S_kindsLike L e J (d + 0) (zy_l (zy_l (zy_l (zz_up (zy_l (zy_l (zy_l (zz_up (zz_up M 42 0 x0) 42 1 (M (s + 4) (x0).toNatClampNeg)) (fun N => (zz_up N 42 2 (N (s + 6) (x0).toNatClampNeg)))) (fun N => (zz_up N 42 3 (N (s + 7) (x0).toNatClampNeg)))) (fun N => (zz_up N 42 4 (v_ji_bitCount (N (s + 8) (x0).toNatClampNeg))))) 42 5 (v_ji_bitCount (M (s + 5) (x0).toNatClampNeg))) (fun N => (zz_up N 42 6 (N (s + 2) (M (s + 4) (x0).toNatClampNeg).toNatClampNeg)))) (fun N => (zz_up N 42 7 (zrm (N s 12) (100 : Int32))))) (fun N => (zz_up N 42 8 (zb (decide (((N (s + 1) (M (s + 4) (x0).toNatClampNeg).toNatClampNeg) &&& ((M (s + 5) (x0).toNatClampNeg) ^^^ (-1 : Int32))) = 0)))))) s (M (s + 4) (x0).toNatClampNeg) (M (s + 5) (x0).toNatClampNeg) hs g11) ?_
      show zz_D (zm_L_learn, d + 2, 156, [some (.ref 37), some (.ref s), none, some (.int (M (s + 4) (x0).toNatClampNeg)), some (.int (M (s + 5) (x0).toNatClampNeg))], [.int (v_S_kindsLike (zy_l (zy_l (zy_l (zz_up (zy_l (zy_l (zy_l (zz_up (zz_up M 42 0 x0) 42 1 (M (s + 4) (x0).toNatClampNeg)) (fun N => (zz_up N 42 2 (N (s + 6) (x0).toNatClampNeg)))) (fun N => (zz_up N 42 3 (N (s + 7) (x0).toNatClampNeg)))) (fun N => (zz_up N 42 4 (v_ji_bitCount (N (s + 8) (x0).toNatClampNeg))))) 42 5 (v_ji_bitCount (M (s + 5) (x0).toNatClampNeg))) (fun N => (zz_up N 42 6 (N (s + 2) (M (s + 4) (x0).toNatClampNeg).toNatClampNeg)))) (fun N => (zz_up N 42 7 (zrm (N s 12) (100 : Int32))))) (fun N => (zz_up N 42 8 (zb (decide (((N (s + 1) (M (s + 4) (x0).toNatClampNeg).toNatClampNeg) &&& ((M (s + 5) (x0).toNatClampNeg) ^^^ (-1 : Int32))) = 0)))))) s (M (s + 4) (x0).toNatClampNeg) (M (s + 5) (x0).toNatClampNeg)), .int (9 : Int32), .ref 42]) (zt_T L, zt_R, (zy_l (zy_l (zy_l (zz_up (zy_l (zy_l (zy_l (zz_up (zz_up M 42 0 x0) 42 1 (M (s + 4) (x0).toNatClampNeg)) (fun N => (zz_up N 42 2 (N (s + 6) (x0).toNatClampNeg)))) (fun N => (zz_up N 42 3 (N (s + 7) (x0).toNatClampNeg)))) (fun N => (zz_up N 42 4 (v_ji_bitCount (N (s + 8) (x0).toNatClampNeg))))) 42 5 (v_ji_bitCount (M (s + 5) (x0).toNatClampNeg))) (fun N => (zz_up N 42 6 (N (s + 2) (M (s + 4) (x0).toNatClampNeg).toNatClampNeg)))) (fun N => (zz_up N 42 7 (zrm (N s 12) (100 : Int32))))) (fun N => (zz_up N 42 8 (zb (decide (((N (s + 1) (M (s + 4) (x0).toNatClampNeg).toNatClampNeg) &&& ((M (s + 5) (x0).toNatClampNeg) ^^^ (-1 : Int32))) = 0)))))), J, e) = _
      refine zz_jn (X := zz_D (zm_L_learn, d + 2, 167, [none, none, none, none, none], [.int (zb (decide ((v_S_kindsLike (zy_l (zy_l (zy_l (zz_up (zy_l (zy_l (zy_l (zz_up (zz_up M 42 0 x0) 42 1 (M (s + 4) (x0).toNatClampNeg)) (fun N => (zz_up N 42 2 (N (s + 6) (x0).toNatClampNeg)))) (fun N => (zz_up N 42 3 (N (s + 7) (x0).toNatClampNeg)))) (fun N => (zz_up N 42 4 (v_ji_bitCount (N (s + 8) (x0).toNatClampNeg))))) 42 5 (v_ji_bitCount (M (s + 5) (x0).toNatClampNeg))) (fun N => (zz_up N 42 6 (N (s + 2) (M (s + 4) (x0).toNatClampNeg).toNatClampNeg)))) (fun N => (zz_up N 42 7 (zrm (N s 12) (100 : Int32))))) (fun N => (zz_up N 42 8 (zb (decide (((N (s + 1) (M (s + 4) (x0).toNatClampNeg).toNatClampNeg) &&& ((M (s + 5) (x0).toNatClampNeg) ^^^ (-1 : Int32))) = 0)))))) s (M (s + 4) (x0).toNatClampNeg) (M (s + 5) (x0).toNatClampNeg)) = (zsl (1 : Int32) (M (s + 4) (x0).toNatClampNeg))))), .int (9 : Int32), .ref 42]) (zt_T L, zt_R, (zy_l (zy_l (zy_l (zz_up (zy_l (zy_l (zy_l (zz_up (zz_up M 42 0 x0) 42 1 (M (s + 4) (x0).toNatClampNeg)) (fun N => (zz_up N 42 2 (N (s + 6) (x0).toNatClampNeg)))) (fun N => (zz_up N 42 3 (N (s + 7) (x0).toNatClampNeg)))) (fun N => (zz_up N 42 4 (v_ji_bitCount (N (s + 8) (x0).toNatClampNeg))))) 42 5 (v_ji_bitCount (M (s + 5) (x0).toNatClampNeg))) (fun N => (zz_up N 42 6 (N (s + 2) (M (s + 4) (x0).toNatClampNeg).toNatClampNeg)))) (fun N => (zz_up N 42 7 (zrm (N s 12) (100 : Int32))))) (fun N => (zz_up N 42 8 (zb (decide (((N (s + 1) (M (s + 4) (x0).toNatClampNeg).toNatClampNeg) &&& ((M (s + 5) (x0).toNatClampNeg) ^^^ (-1 : Int32))) = 0)))))), J, e)) (fun j12 => ?_) ?_
      · refine (zz_go 3 (fr' := (zm_L_learn, d + 2, 159, [some (.ref 37), some (.ref s), none, some (.int (M (s + 4) (x0).toNatClampNeg)), some (.int (M (s + 5) (x0).toNatClampNeg))], [.int (zsl (1 : Int32) (M (s + 4) (x0).toNatClampNeg)), .int (v_S_kindsLike (zy_l (zy_l (zy_l (zz_up (zy_l (zy_l (zy_l (zz_up (zz_up M 42 0 x0) 42 1 (M (s + 4) (x0).toNatClampNeg)) (fun N => (zz_up N 42 2 (N (s + 6) (x0).toNatClampNeg)))) (fun N => (zz_up N 42 3 (N (s + 7) (x0).toNatClampNeg)))) (fun N => (zz_up N 42 4 (v_ji_bitCount (N (s + 8) (x0).toNatClampNeg))))) 42 5 (v_ji_bitCount (M (s + 5) (x0).toNatClampNeg))) (fun N => (zz_up N 42 6 (N (s + 2) (M (s + 4) (x0).toNatClampNeg).toNatClampNeg)))) (fun N => (zz_up N 42 7 (zrm (N s 12) (100 : Int32))))) (fun N => (zz_up N 42 8 (zb (decide (((N (s + 1) (M (s + 4) (x0).toNatClampNeg).toNatClampNeg) &&& ((M (s + 5) (x0).toNatClampNeg) ^^^ (-1 : Int32))) = 0)))))) s (M (s + 4) (x0).toNatClampNeg) (M (s + 5) (x0).toNatClampNeg)), .int (9 : Int32), .ref 42])) (h' := (zt_T L, zt_R, (zy_l (zy_l (zy_l (zz_up (zy_l (zy_l (zy_l (zz_up (zz_up M 42 0 x0) 42 1 (M (s + 4) (x0).toNatClampNeg)) (fun N => (zz_up N 42 2 (N (s + 6) (x0).toNatClampNeg)))) (fun N => (zz_up N 42 3 (N (s + 7) (x0).toNatClampNeg)))) (fun N => (zz_up N 42 4 (v_ji_bitCount (N (s + 8) (x0).toNatClampNeg))))) 42 5 (v_ji_bitCount (M (s + 5) (x0).toNatClampNeg))) (fun N => (zz_up N 42 6 (N (s + 2) (M (s + 4) (x0).toNatClampNeg).toNatClampNeg)))) (fun N => (zz_up N 42 7 (zrm (N s 12) (100 : Int32))))) (fun N => (zz_up N 42 8 (zb (decide (((N (s + 1) (M (s + 4) (x0).toNatClampNeg).toNatClampNeg) &&& ((M (s + 5) (x0).toNatClampNeg) ^^^ (-1 : Int32))) = 0)))))), J, e)) (fun _ => rfl)).trans ?_
        rcases zz_bc (decide ((v_S_kindsLike (zy_l (zy_l (zy_l (zz_up (zy_l (zy_l (zy_l (zz_up (zz_up M 42 0 x0) 42 1 (M (s + 4) (x0).toNatClampNeg)) (fun N => (zz_up N 42 2 (N (s + 6) (x0).toNatClampNeg)))) (fun N => (zz_up N 42 3 (N (s + 7) (x0).toNatClampNeg)))) (fun N => (zz_up N 42 4 (v_ji_bitCount (N (s + 8) (x0).toNatClampNeg))))) 42 5 (v_ji_bitCount (M (s + 5) (x0).toNatClampNeg))) (fun N => (zz_up N 42 6 (N (s + 2) (M (s + 4) (x0).toNatClampNeg).toNatClampNeg)))) (fun N => (zz_up N 42 7 (zrm (N s 12) (100 : Int32))))) (fun N => (zz_up N 42 8 (zb (decide (((N (s + 1) (M (s + 4) (x0).toNatClampNeg).toNatClampNeg) &&& ((M (s + 5) (x0).toNatClampNeg) ^^^ (-1 : Int32))) = 0)))))) s (M (s + 4) (x0).toNatClampNeg) (M (s + 5) (x0).toNatClampNeg)) = (zsl (1 : Int32) (M (s + 4) (x0).toNatClampNeg)))) with h13 | h13
        · refine zc_neT rfl h13 ?_
          refine (zz_go 2 (fr' := (zm_L_learn, d + 2, 167, [some (.ref 37), some (.ref s), none, some (.int (M (s + 4) (x0).toNatClampNeg)), some (.int (M (s + 5) (x0).toNatClampNeg))], [.int (1 : Int32), .int (9 : Int32), .ref 42])) (h' := (zt_T L, zt_R, (zy_l (zy_l (zy_l (zz_up (zy_l (zy_l (zy_l (zz_up (zz_up M 42 0 x0) 42 1 (M (s + 4) (x0).toNatClampNeg)) (fun N => (zz_up N 42 2 (N (s + 6) (x0).toNatClampNeg)))) (fun N => (zz_up N 42 3 (N (s + 7) (x0).toNatClampNeg)))) (fun N => (zz_up N 42 4 (v_ji_bitCount (N (s + 8) (x0).toNatClampNeg))))) 42 5 (v_ji_bitCount (M (s + 5) (x0).toNatClampNeg))) (fun N => (zz_up N 42 6 (N (s + 2) (M (s + 4) (x0).toNatClampNeg).toNatClampNeg)))) (fun N => (zz_up N 42 7 (zrm (N s 12) (100 : Int32))))) (fun N => (zz_up N 42 8 (zb (decide (((N (s + 1) (M (s + 4) (x0).toNatClampNeg).toNatClampNeg) &&& ((M (s + 5) (x0).toNatClampNeg) ^^^ (-1 : Int32))) = 0)))))), J, e)) (fun _ => rfl)).trans ?_
          refine zz_weak (L := [none, none, none, none, none]) ⟨Or.inr ⟨rfl, rfl⟩, Or.inr ⟨rfl, rfl⟩, Or.inl rfl, Or.inr ⟨rfl, rfl⟩, Or.inr ⟨rfl, rfl⟩, trivial⟩ ?_
          simpa only [h13, zk_t, zk_f, zb_t, zb_f] using j12
        · refine zc_neF rfl h13 ?_
          refine (zz_go 1 (fr' := (zm_L_learn, d + 2, 167, [some (.ref 37), some (.ref s), none, some (.int (M (s + 4) (x0).toNatClampNeg)), some (.int (M (s + 5) (x0).toNatClampNeg))], [.int (0 : Int32), .int (9 : Int32), .ref 42])) (h' := (zt_T L, zt_R, (zy_l (zy_l (zy_l (zz_up (zy_l (zy_l (zy_l (zz_up (zz_up M 42 0 x0) 42 1 (M (s + 4) (x0).toNatClampNeg)) (fun N => (zz_up N 42 2 (N (s + 6) (x0).toNatClampNeg)))) (fun N => (zz_up N 42 3 (N (s + 7) (x0).toNatClampNeg)))) (fun N => (zz_up N 42 4 (v_ji_bitCount (N (s + 8) (x0).toNatClampNeg))))) 42 5 (v_ji_bitCount (M (s + 5) (x0).toNatClampNeg))) (fun N => (zz_up N 42 6 (N (s + 2) (M (s + 4) (x0).toNatClampNeg).toNatClampNeg)))) (fun N => (zz_up N 42 7 (zrm (N s 12) (100 : Int32))))) (fun N => (zz_up N 42 8 (zb (decide (((N (s + 1) (M (s + 4) (x0).toNatClampNeg).toNatClampNeg) &&& ((M (s + 5) (x0).toNatClampNeg) ^^^ (-1 : Int32))) = 0)))))), J, e)) (fun _ => rfl)).trans ?_
          refine zz_weak (L := [none, none, none, none, none]) ⟨Or.inr ⟨rfl, rfl⟩, Or.inr ⟨rfl, rfl⟩, Or.inl rfl, Or.inr ⟨rfl, rfl⟩, Or.inr ⟨rfl, rfl⟩, trivial⟩ ?_
          simpa only [h13, zk_t, zk_f, zb_t, zb_f] using j12
      refine zl_iastore rfl rfl (by decide) rfl rfl ?_
      refine (zz_end 1 (r := (.inl none, (zt_T L, zt_R, (zy_l (zy_l (zy_l (zy_l (zz_up (zy_l (zy_l (zy_l (zz_up (zz_up M 42 0 x0) 42 1 (M (s + 4) (x0).toNatClampNeg)) (fun N => (zz_up N 42 2 (N (s + 6) (x0).toNatClampNeg)))) (fun N => (zz_up N 42 3 (N (s + 7) (x0).toNatClampNeg)))) (fun N => (zz_up N 42 4 (v_ji_bitCount (N (s + 8) (x0).toNatClampNeg))))) 42 5 (v_ji_bitCount (M (s + 5) (x0).toNatClampNeg))) (fun N => (zz_up N 42 6 (N (s + 2) (M (s + 4) (x0).toNatClampNeg).toNatClampNeg)))) (fun N => (zz_up N 42 7 (zrm (N s 12) (100 : Int32))))) (fun N => (zz_up N 42 8 (zb (decide (((N (s + 1) (M (s + 4) (x0).toNatClampNeg).toNatClampNeg) &&& ((M (s + 5) (x0).toNatClampNeg) ^^^ (-1 : Int32))) = 0)))))) (fun N => (zz_up N 42 9 (zb (decide ((v_S_kindsLike N s (M (s + 4) (x0).toNatClampNeg) (M (s + 5) (x0).toNatClampNeg)) = (zsl (1 : Int32) (M (s + 4) (x0).toNatClampNeg)))))))), J, e))) (fun _ => rfl)).trans ?_
      first | (simp only [h3, h5, zk_t, zk_f, zb_t, zb_f]; done) | (simp only [h3, h5, zk_t, zk_f, zb_t, zb_f]; rfl) | rfl
    · refine zc_ltF rfl h5 ?_
      refine (zz_end 1 (r := (.inl none, (zt_T L, zt_R, M, J, e))) (fun _ => rfl)).trans ?_
      first | (simp only [h3, h5, zk_t, zk_f, zb_t, zb_f]; done) | (simp only [h3, h5, zk_t, zk_f, zb_t, zb_f]; rfl) | rfl
def v_L_joined (x0 : Int32) (x1 : Int32) (x2 : Int32) : Int32 := (bif (decide (x0 = (10 : Int32))) then (x1 + x2) else (bif (decide (x0 = (11 : Int32))) then (zb (bif (decide (x2 ≤ x1)) then false else true)) else (bif (decide (x0 = (12 : Int32))) then (zb (bif (decide (x1 ≤ x2)) then false else true)) else (bif (decide (x0 = (13 : Int32))) then (x1 ||| x2) else (bif (decide (x0 = (14 : Int32))) then (x1 &&& x2) else (x1 ||| x2))))))
set_option maxRecDepth 20000 in
set_option maxHeartbeats 2000000 in
theorem s_L_joined (L e : Nat) (J : zJem) (d : Nat) {M : zMem} (x0 : Int32) (x1 : Int32) (x2 : Int32) : zz_D (zm_L_joined, d + 1, 0, [some (.int x0), some (.int x1), some (.int x2)], []) (zt_T L, zt_R, M, J, e) = some (.inl (some (.int (v_L_joined x0 x1 x2))), (zt_T L, zt_R, M, J, e)) := by
  unfold v_L_joined
  refine (zz_go 1 (fr' := (zm_L_joined, d + 1, 1, [some (.int x0), some (.int x1), some (.int x2)], [.int x0])) (h' := (zt_T L, zt_R, M, J, e)) (fun _ => rfl)).trans ?_
  rcases zz_bc (decide (x0 = (10 : Int32))) with h1 | h1
  · refine zl_swc (A := (zm_L_joined, d + 1, 36, [some (.int x0), some (.int x1), some (.int x2)], [])) h1 (fun _ => rfl) ?_
    refine (zz_go 3 (fr' := (zm_L_joined, d + 1, 39, [some (.int x0), some (.int x1), some (.int x2)], [.int (x1 + x2)])) (h' := (zt_T L, zt_R, M, J, e)) (fun _ => rfl)).trans ?_
    refine zl_retI rfl rfl ?_
    first | (simp only [h1, zk_t, zk_f, zb_t, zb_f]; done) | (simp only [h1, zk_t, zk_f, zb_t, zb_f]; rfl) | rfl
  · skip
    rcases zz_bc (decide (x0 = (11 : Int32))) with h2 | h2
    · refine zl_swc (A := (zm_L_joined, d + 1, 40, [some (.int x0), some (.int x1), some (.int x2)], [])) h2 (fun _ => rfl) ?_
      refine zz_jn (X := zz_D (zm_L_joined, d + 1, 50, [none, none, none], [.int (zb (bif (decide (x2 ≤ x1)) then false else true))]) (zt_T L, zt_R, M, J, e)) (fun j3 => ?_) ?_
      · refine (zz_go 2 (fr' := (zm_L_joined, d + 1, 42, [some (.int x0), some (.int x1), some (.int x2)], [.int x2, .int x1])) (h' := (zt_T L, zt_R, M, J, e)) (fun _ => rfl)).trans ?_
        rcases zz_bc (decide (x2 ≤ x1)) with h4 | h4
        · refine zc_geT rfl h4 ?_
          refine (zz_go 1 (fr' := (zm_L_joined, d + 1, 50, [some (.int x0), some (.int x1), some (.int x2)], [.int (0 : Int32)])) (h' := (zt_T L, zt_R, M, J, e)) (fun _ => rfl)).trans ?_
          refine zz_weak (L := [none, none, none]) ⟨Or.inr ⟨rfl, rfl⟩, Or.inr ⟨rfl, rfl⟩, Or.inr ⟨rfl, rfl⟩, trivial⟩ ?_
          simpa only [h4, zk_t, zk_f, zb_t, zb_f] using j3
        · refine zc_geF rfl h4 ?_
          refine (zz_go 2 (fr' := (zm_L_joined, d + 1, 50, [some (.int x0), some (.int x1), some (.int x2)], [.int (1 : Int32)])) (h' := (zt_T L, zt_R, M, J, e)) (fun _ => rfl)).trans ?_
          refine zz_weak (L := [none, none, none]) ⟨Or.inr ⟨rfl, rfl⟩, Or.inr ⟨rfl, rfl⟩, Or.inr ⟨rfl, rfl⟩, trivial⟩ ?_
          simpa only [h4, zk_t, zk_f, zb_t, zb_f] using j3
      refine zl_retI rfl rfl ?_
      first | (simp only [h1, h2, zk_t, zk_f, zb_t, zb_f]; done) | (simp only [h1, h2, zk_t, zk_f, zb_t, zb_f]; rfl) | rfl
    · skip
      rcases zz_bc (decide (x0 = (12 : Int32))) with h5 | h5
      · refine zl_swc (A := (zm_L_joined, d + 1, 51, [some (.int x0), some (.int x1), some (.int x2)], [])) h5 (fun _ => rfl) ?_
        refine zz_jn (X := zz_D (zm_L_joined, d + 1, 61, [none, none, none], [.int (zb (bif (decide (x1 ≤ x2)) then false else true))]) (zt_T L, zt_R, M, J, e)) (fun j6 => ?_) ?_
        · refine (zz_go 2 (fr' := (zm_L_joined, d + 1, 53, [some (.int x0), some (.int x1), some (.int x2)], [.int x2, .int x1])) (h' := (zt_T L, zt_R, M, J, e)) (fun _ => rfl)).trans ?_
          rcases zz_bc (decide (x1 ≤ x2)) with h7 | h7
          · refine zc_leT rfl h7 ?_
            refine (zz_go 1 (fr' := (zm_L_joined, d + 1, 61, [some (.int x0), some (.int x1), some (.int x2)], [.int (0 : Int32)])) (h' := (zt_T L, zt_R, M, J, e)) (fun _ => rfl)).trans ?_
            refine zz_weak (L := [none, none, none]) ⟨Or.inr ⟨rfl, rfl⟩, Or.inr ⟨rfl, rfl⟩, Or.inr ⟨rfl, rfl⟩, trivial⟩ ?_
            simpa only [h7, zk_t, zk_f, zb_t, zb_f] using j6
          · refine zc_leF rfl h7 ?_
            refine (zz_go 2 (fr' := (zm_L_joined, d + 1, 61, [some (.int x0), some (.int x1), some (.int x2)], [.int (1 : Int32)])) (h' := (zt_T L, zt_R, M, J, e)) (fun _ => rfl)).trans ?_
            refine zz_weak (L := [none, none, none]) ⟨Or.inr ⟨rfl, rfl⟩, Or.inr ⟨rfl, rfl⟩, Or.inr ⟨rfl, rfl⟩, trivial⟩ ?_
            simpa only [h7, zk_t, zk_f, zb_t, zb_f] using j6
        refine zl_retI rfl rfl ?_
        first | (simp only [h1, h2, h5, zk_t, zk_f, zb_t, zb_f]; done) | (simp only [h1, h2, h5, zk_t, zk_f, zb_t, zb_f]; rfl) | rfl
      · skip
        rcases zz_bc (decide (x0 = (13 : Int32))) with h8 | h8
        · refine zl_swc (A := (zm_L_joined, d + 1, 66, [some (.int x0), some (.int x1), some (.int x2)], [])) h8 (fun _ => rfl) ?_
          refine (zz_go 3 (fr' := (zm_L_joined, d + 1, 69, [some (.int x0), some (.int x1), some (.int x2)], [.int (x1 ||| x2)])) (h' := (zt_T L, zt_R, M, J, e)) (fun _ => rfl)).trans ?_
          refine zl_retI rfl rfl ?_
          first | (simp only [h1, h2, h5, h8, zk_t, zk_f, zb_t, zb_f]; done) | (simp only [h1, h2, h5, h8, zk_t, zk_f, zb_t, zb_f]; rfl) | rfl
        · skip
          rcases zz_bc (decide (x0 = (14 : Int32))) with h9 | h9
          · refine zl_swc (A := (zm_L_joined, d + 1, 62, [some (.int x0), some (.int x1), some (.int x2)], [])) h9 (fun _ => rfl) ?_
            refine (zz_go 3 (fr' := (zm_L_joined, d + 1, 65, [some (.int x0), some (.int x1), some (.int x2)], [.int (x1 &&& x2)])) (h' := (zt_T L, zt_R, M, J, e)) (fun _ => rfl)).trans ?_
            refine zl_retI rfl rfl ?_
            first | (simp only [h1, h2, h5, h8, h9, zk_t, zk_f, zb_t, zb_f]; done) | (simp only [h1, h2, h5, h8, h9, zk_t, zk_f, zb_t, zb_f]; rfl) | rfl
          · skip
            refine zl_swd rfl (by have e0 : (x0).toInt ≠ 10 := zsw_ne h1; have e1 : (x0).toInt ≠ 11 := zsw_ne h2; have e2 : (x0).toInt ≠ 12 := zsw_ne h5; have e3 : (x0).toInt ≠ 13 := zsw_ne h8; have e4 : (x0).toInt ≠ 14 := zsw_ne h9; simp only [Bool.or_eq_true, decide_eq_true_eq]; omega) rfl ?_
            refine (zz_go 3 (fr' := (zm_L_joined, d + 1, 69, [some (.int x0), some (.int x1), some (.int x2)], [.int (x1 ||| x2)])) (h' := (zt_T L, zt_R, M, J, e)) (fun _ => rfl)).trans ?_
            refine zl_retI rfl rfl ?_
            first | (simp only [h1, h2, h5, h8, h9, zk_t, zk_f, zb_t, zb_f]; done) | (simp only [h1, h2, h5, h8, h9, zk_t, zk_f, zb_t, zb_f]; rfl) | rfl
def v_L_take (M : zMem) (x0 : Int32) (x1 : Int32) : Int32 := (bif (decide ((16 : Int32) ≤ x0)) then (bif (decide ((24 : Int32) ≤ x1)) then x1 else (bif (decide (0 ≤ x0)) then (x1 + (1 : Int32)) else x1)) else (bif (decide ((10 : Int32) ≤ x0)) then (bif (decide (x0 = (13 : Int32))) then x1 else (bif (decide ((2 : Int32) ≤ x1)) then (x1 - (1 : Int32)) else x1)) else (bif (decide ((24 : Int32) ≤ x1)) then x1 else (bif (decide (0 ≤ x0)) then (x1 + (1 : Int32)) else x1))))
def w_L_take (M : zMem) (x0 : Int32) (x1 : Int32) : zMem := (bif (decide ((16 : Int32) ≤ x0)) then (bif (decide ((24 : Int32) ≤ x1)) then M else (bif (decide (0 ≤ x0)) then (zz_up M 43 (x1).toNatClampNeg (bif (decide (x0 < (16 : Int32))) then (M 42 (x0).toNatClampNeg) else (x0 - (16 : Int32)))) else M)) else (bif (decide ((10 : Int32) ≤ x0)) then (bif (decide (x0 = (13 : Int32))) then (bif (decide (x1 < (1 : Int32))) then M else (zz_up M 43 (x1 - (1 : Int32)).toNatClampNeg ((1 : Int32) - (M 43 (x1 - (1 : Int32)).toNatClampNeg)))) else (bif (decide ((2 : Int32) ≤ x1)) then (zz_up M 43 (x1 - (2 : Int32)).toNatClampNeg (v_L_joined x0 (M 43 (x1 - (2 : Int32)).toNatClampNeg) (M 43 (x1 - (1 : Int32)).toNatClampNeg))) else M)) else (bif (decide ((24 : Int32) ≤ x1)) then M else (bif (decide (0 ≤ x0)) then (zz_up M 43 (x1).toNatClampNeg (bif (decide (x0 < (16 : Int32))) then (M 42 (x0).toNatClampNeg) else (x0 - (16 : Int32)))) else M))))
def ok_L_take (M : zMem) (x0 : Int32) (x1 : Int32) : Prop := (((decide ((16 : Int32) ≤ x0)) = true → ((decide ((24 : Int32) ≤ x1)) = false → ((decide (0 ≤ x0)) = true → (((decide (x0 < (16 : Int32))) = true → zz_in x0 10 = true) ∧ zz_in x1 24 = true)))) ∧ ((decide ((16 : Int32) ≤ x0)) = false → (((decide ((10 : Int32) ≤ x0)) = true → (((decide (x0 = (13 : Int32))) = true → ((decide (x1 < (1 : Int32))) = false → zz_in (x1 - (1 : Int32)) 24 = true)) ∧ ((decide (x0 = (13 : Int32))) = false → ((decide ((2 : Int32) ≤ x1)) = true → (zz_in (x1 - (2 : Int32)) 24 = true ∧ zz_in (x1 - (1 : Int32)) 24 = true))))) ∧ ((decide ((10 : Int32) ≤ x0)) = false → ((decide ((24 : Int32) ≤ x1)) = false → ((decide (0 ≤ x0)) = true → (((decide (x0 < (16 : Int32))) = true → zz_in x0 10 = true) ∧ zz_in x1 24 = true)))))))
set_option maxRecDepth 20000 in
set_option maxHeartbeats 2000000 in
theorem s_L_take (L e : Nat) (J : zJem) (d : Nat) (M : zMem) (x0 : Int32) (x1 : Int32) (k0 : ok_L_take M x0 x1) : zz_D (zm_L_take, d + 2, 0, [some (.ref 37), some (.int x0), some (.int x1)], []) (zt_T L, zt_R, M, J, e) = some (.inl (some (.int (v_L_take M x0 x1))), (zt_T L, zt_R, (w_L_take M x0 x1), J, e)) := by
  unfold ok_L_take at k0
  unfold v_L_take w_L_take
  obtain ⟨k2, k3⟩ := k0
  refine (zz_go 2 (fr' := (zm_L_take, d + 2, 3, [some (.ref 37), some (.int x0), some (.int x1)], [.int (16 : Int32), .int x0])) (h' := (zt_T L, zt_R, M, J, e)) (fun _ => rfl)).trans ?_
  rcases zz_bc (decide ((16 : Int32) ≤ x0)) with h1 | h1
  · refine zc_geT rfl h1 ?_
    have k4 := k2 h1
    refine (zz_go 2 (fr' := (zm_L_take, d + 2, 15, [some (.ref 37), some (.int x0), some (.int x1)], [.int (24 : Int32), .int x1])) (h' := (zt_T L, zt_R, M, J, e)) (fun _ => rfl)).trans ?_
    rcases zz_bc (decide ((24 : Int32) ≤ x1)) with h5 | h5
    · refine zc_geT rfl h5 ?_
      refine (zz_go 1 (fr' := (zm_L_take, d + 2, 23, [some (.ref 37), some (.int x0), some (.int x1)], [.int x1])) (h' := (zt_T L, zt_R, M, J, e)) (fun _ => rfl)).trans ?_
      refine zl_retI rfl rfl ?_
      first | (simp only [h1, h5, zk_t, zk_f, zb_t, zb_f]; done) | (simp only [h1, h5, zk_t, zk_f, zb_t, zb_f]; rfl) | rfl
    · refine zc_geF rfl h5 ?_
      have k6 := k4 h5
      refine (zz_go 1 (fr' := (zm_L_take, d + 2, 19, [some (.ref 37), some (.int x0), some (.int x1)], [.int x0])) (h' := (zt_T L, zt_R, M, J, e)) (fun _ => rfl)).trans ?_
      rcases zz_bc (decide (0 ≤ x0)) with h7 | h7
      · refine zo_geT rfl h7 ?_
        have k8 := k6 h7
        refine (zz_go 1 (fr' := (zm_L_take, d + 2, 25, [some (.ref 37), some (.int x0), some (.int x1)], [.ref 37])) (h' := (zt_T L, zt_R, M, J, e)) (fun _ => rfl)).trans ?_
        refine zl_getR rfl rfl rfl ?_
        obtain ⟨k9, k10⟩ := k8
        refine zz_jn (X := zz_D (zm_L_take, d + 2, 48, [none, none, some (.int x1)], [.int (bif (decide (x0 < (16 : Int32))) then (M 42 (x0).toNatClampNeg) else (x0 - (16 : Int32))), .int x1, .ref 43]) (zt_T L, zt_R, M, J, e)) (fun j11 => ?_) ?_
        · refine (zz_go 3 (fr' := (zm_L_take, d + 2, 32, [some (.ref 37), some (.int x0), some (.int x1)], [.int (16 : Int32), .int x0, .int x1, .ref 43])) (h' := (zt_T L, zt_R, M, J, e)) (fun _ => rfl)).trans ?_
          rcases zz_bc (decide (x0 < (16 : Int32))) with h12 | h12
          · refine zc_ltT rfl h12 ?_
            have k13 := k9 h12
            refine (zz_go 1 (fr' := (zm_L_take, d + 2, 43, [some (.ref 37), some (.int x0), some (.int x1)], [.ref 37, .int x1, .ref 43])) (h' := (zt_T L, zt_R, M, J, e)) (fun _ => rfl)).trans ?_
            refine zl_getR rfl rfl rfl ?_
            refine (zz_go 1 (fr' := (zm_L_take, d + 2, 47, [some (.ref 37), some (.int x0), some (.int x1)], [.int x0, .ref 42, .int x1, .ref 43])) (h' := (zt_T L, zt_R, M, J, e)) (fun _ => rfl)).trans ?_
            have g14 : zz_in x0 10 = true := k13
            refine zl_iaload rfl rfl g14 rfl ?_
            refine zz_weak (L := [none, none, some (.int x1)]) ⟨Or.inr ⟨rfl, rfl⟩, Or.inr ⟨rfl, rfl⟩, Or.inl rfl, trivial⟩ ?_
            simpa only [h12, zk_t, zk_f, zb_t, zb_f] using j11
          · refine zc_ltF rfl h12 ?_
            refine (zz_go 4 (fr' := (zm_L_take, d + 2, 48, [some (.ref 37), some (.int x0), some (.int x1)], [.int (x0 - (16 : Int32)), .int x1, .ref 43])) (h' := (zt_T L, zt_R, M, J, e)) (fun _ => rfl)).trans ?_
            refine zz_weak (L := [none, none, some (.int x1)]) ⟨Or.inr ⟨rfl, rfl⟩, Or.inr ⟨rfl, rfl⟩, Or.inl rfl, trivial⟩ ?_
            simpa only [h12, zk_t, zk_f, zb_t, zb_f] using j11
        have g15 : zz_in x1 24 = true := k10
        refine zl_iastore rfl rfl g15 rfl rfl ?_
        refine (zz_go 3 (fr' := (zm_L_take, d + 2, 52, [none, none, some (.int x1)], [.int (x1 + (1 : Int32))])) (h' := (zt_T L, zt_R, (zz_up M 43 (x1).toNatClampNeg (bif (decide (x0 < (16 : Int32))) then (M 42 (x0).toNatClampNeg) else (x0 - (16 : Int32)))), J, e)) (fun _ => rfl)).trans ?_
        refine zl_retI rfl rfl ?_
        first | (simp only [h1, h5, h7, zk_t, zk_f, zb_t, zb_f]; done) | (simp only [h1, h5, h7, zk_t, zk_f, zb_t, zb_f]; rfl) | rfl
      · refine zo_geF rfl h7 ?_
        refine (zz_go 1 (fr' := (zm_L_take, d + 2, 23, [some (.ref 37), some (.int x0), some (.int x1)], [.int x1])) (h' := (zt_T L, zt_R, M, J, e)) (fun _ => rfl)).trans ?_
        refine zl_retI rfl rfl ?_
        first | (simp only [h1, h5, h7, zk_t, zk_f, zb_t, zb_f]; done) | (simp only [h1, h5, h7, zk_t, zk_f, zb_t, zb_f]; rfl) | rfl
  · refine zc_geF rfl h1 ?_
    have k16 := k3 h1
    obtain ⟨k18, k19⟩ := k16
    refine (zz_go 2 (fr' := (zm_L_take, d + 2, 9, [some (.ref 37), some (.int x0), some (.int x1)], [.int (10 : Int32), .int x0])) (h' := (zt_T L, zt_R, M, J, e)) (fun _ => rfl)).trans ?_
    rcases zz_bc (decide ((10 : Int32) ≤ x0)) with h17 | h17
    · refine zc_geT rfl h17 ?_
      have k20 := k18 h17
      obtain ⟨k22, k23⟩ := k20
      refine (zz_go 2 (fr' := (zm_L_take, d + 2, 56, [some (.ref 37), some (.int x0), some (.int x1)], [.int (13 : Int32), .int x0])) (h' := (zt_T L, zt_R, M, J, e)) (fun _ => rfl)).trans ?_
      rcases zz_bc (decide (x0 = (13 : Int32))) with h21 | h21
      · refine zc_neT rfl h21 ?_
        have k24 := k22 h21
        refine zz_jn (X := zz_D (zm_L_take, d + 2, 82, [none, none, some (.int x1)], []) (zt_T L, zt_R, (bif (decide (x1 < (1 : Int32))) then M else (zz_up M 43 (x1 - (1 : Int32)).toNatClampNeg ((1 : Int32) - (M 43 (x1 - (1 : Int32)).toNatClampNeg)))), J, e)) (fun j25 => ?_) ?_
        · refine (zz_go 2 (fr' := (zm_L_take, d + 2, 61, [some (.ref 37), some (.int x0), some (.int x1)], [.int (1 : Int32), .int x1])) (h' := (zt_T L, zt_R, M, J, e)) (fun _ => rfl)).trans ?_
          rcases zz_bc (decide (x1 < (1 : Int32))) with h26 | h26
          · refine zc_ltT rfl h26 ?_
            refine zz_weak (L := [none, none, some (.int x1)]) ⟨Or.inr ⟨rfl, rfl⟩, Or.inr ⟨rfl, rfl⟩, Or.inl rfl, trivial⟩ ?_
            simpa only [h26, zk_t, zk_f, zb_t, zb_f] using j25
          · refine zc_ltF rfl h26 ?_
            have k27 := k24 h26
            refine (zz_go 1 (fr' := (zm_L_take, d + 2, 65, [some (.ref 37), some (.int x0), some (.int x1)], [.ref 37])) (h' := (zt_T L, zt_R, M, J, e)) (fun _ => rfl)).trans ?_
            refine zl_getR rfl rfl rfl ?_
            refine (zz_go 5 (fr' := (zm_L_take, d + 2, 73, [some (.ref 37), some (.int x0), some (.int x1)], [.ref 37, .int (1 : Int32), .int (x1 - (1 : Int32)), .ref 43])) (h' := (zt_T L, zt_R, M, J, e)) (fun _ => rfl)).trans ?_
            refine zl_getR rfl rfl rfl ?_
            refine (zz_go 3 (fr' := (zm_L_take, d + 2, 79, [some (.ref 37), some (.int x0), some (.int x1)], [.int (x1 - (1 : Int32)), .ref 43, .int (1 : Int32), .int (x1 - (1 : Int32)), .ref 43])) (h' := (zt_T L, zt_R, M, J, e)) (fun _ => rfl)).trans ?_
            have g28 : zz_in (x1 - (1 : Int32)) 24 = true := k27
            refine zl_iaload rfl rfl g28 rfl ?_
            refine (zz_go 1 (fr' := (zm_L_take, d + 2, 81, [some (.ref 37), some (.int x0), some (.int x1)], [.int ((1 : Int32) - (M 43 (x1 - (1 : Int32)).toNatClampNeg)), .int (x1 - (1 : Int32)), .ref 43])) (h' := (zt_T L, zt_R, M, J, e)) (fun _ => rfl)).trans ?_
            refine zl_iastore rfl rfl g28 rfl rfl ?_
            refine zz_weak (L := [none, none, some (.int x1)]) ⟨Or.inr ⟨rfl, rfl⟩, Or.inr ⟨rfl, rfl⟩, Or.inl rfl, trivial⟩ ?_
            simpa only [h26, zk_t, zk_f, zb_t, zb_f] using j25
        refine (zz_go 1 (fr' := (zm_L_take, d + 2, 83, [none, none, some (.int x1)], [.int x1])) (h' := (zt_T L, zt_R, (bif (decide (x1 < (1 : Int32))) then M else (zz_up M 43 (x1 - (1 : Int32)).toNatClampNeg ((1 : Int32) - (M 43 (x1 - (1 : Int32)).toNatClampNeg)))), J, e)) (fun _ => rfl)).trans ?_
        refine zl_retI rfl rfl ?_
        first | (simp only [h1, h17, h21, zk_t, zk_f, zb_t, zb_f]; done) | (simp only [h1, h17, h21, zk_t, zk_f, zb_t, zb_f]; rfl) | rfl
      · refine zc_neF rfl h21 ?_
        have k29 := k23 h21
        refine (zz_go 2 (fr' := (zm_L_take, d + 2, 86, [some (.ref 37), some (.int x0), some (.int x1)], [.int (2 : Int32), .int x1])) (h' := (zt_T L, zt_R, M, J, e)) (fun _ => rfl)).trans ?_
        rcases zz_bc (decide ((2 : Int32) ≤ x1)) with h30 | h30
        · refine zc_geT rfl h30 ?_
          have k31 := k29 h30
          refine (zz_go 1 (fr' := (zm_L_take, d + 2, 92, [some (.ref 37), some (.int x0), some (.int x1)], [.ref 37])) (h' := (zt_T L, zt_R, M, J, e)) (fun _ => rfl)).trans ?_
          refine zl_getR rfl rfl rfl ?_
          refine (zz_go 5 (fr' := (zm_L_take, d + 2, 100, [some (.ref 37), some (.int x0), some (.int x1)], [.ref 37, .int x0, .int (x1 - (2 : Int32)), .ref 43])) (h' := (zt_T L, zt_R, M, J, e)) (fun _ => rfl)).trans ?_
          refine zl_getR rfl rfl rfl ?_
          refine (zz_go 3 (fr' := (zm_L_take, d + 2, 106, [some (.ref 37), some (.int x0), some (.int x1)], [.int (x1 - (2 : Int32)), .ref 43, .int x0, .int (x1 - (2 : Int32)), .ref 43])) (h' := (zt_T L, zt_R, M, J, e)) (fun _ => rfl)).trans ?_
          obtain ⟨g32, k33⟩ := k31
          refine zl_iaload rfl rfl g32 rfl ?_
          refine (zz_go 1 (fr' := (zm_L_take, d + 2, 108, [some (.ref 37), some (.int x0), some (.int x1)], [.ref 37, .int (M 43 (x1 - (2 : Int32)).toNatClampNeg), .int x0, .int (x1 - (2 : Int32)), .ref 43])) (h' := (zt_T L, zt_R, M, J, e)) (fun _ => rfl)).trans ?_
          refine zl_getR rfl rfl rfl ?_
          refine (zz_go 3 (fr' := (zm_L_take, d + 2, 114, [some (.ref 37), some (.int x0), some (.int x1)], [.int (x1 - (1 : Int32)), .ref 43, .int (M 43 (x1 - (2 : Int32)).toNatClampNeg), .int x0, .int (x1 - (2 : Int32)), .ref 43])) (h' := (zt_T L, zt_R, M, J, e)) (fun _ => rfl)).trans ?_
          have g34 : zz_in (x1 - (1 : Int32)) 24 = true := k33
          refine zl_iaload rfl rfl g34 rfl ?_
          refine zl_st (d := d + 1) rfl rfl rfl rfl rfl rfl rfl (s_L_joined L e J (d + 0) x0 (M 43 (x1 - (2 : Int32)).toNatClampNeg) (M 43 (x1 - (1 : Int32)).toNatClampNeg)) ?_
          show zz_D (zm_L_take, d + 2, 118, [some (.ref 37), some (.int x0), some (.int x1)], [.int (v_L_joined x0 (M 43 (x1 - (2 : Int32)).toNatClampNeg) (M 43 (x1 - (1 : Int32)).toNatClampNeg)), .int (x1 - (2 : Int32)), .ref 43]) (zt_T L, zt_R, M, J, e) = _
          refine zl_iastore rfl rfl g32 rfl rfl ?_
          refine (zz_go 3 (fr' := (zm_L_take, d + 2, 122, [some (.ref 37), some (.int x0), some (.int x1)], [.int (x1 - (1 : Int32))])) (h' := (zt_T L, zt_R, (zz_up M 43 (x1 - (2 : Int32)).toNatClampNeg (v_L_joined x0 (M 43 (x1 - (2 : Int32)).toNatClampNeg) (M 43 (x1 - (1 : Int32)).toNatClampNeg))), J, e)) (fun _ => rfl)).trans ?_
          refine zl_retI rfl rfl ?_
          first | (simp only [h1, h17, h21, h30, zk_t, zk_f, zb_t, zb_f]; done) | (simp only [h1, h17, h21, h30, zk_t, zk_f, zb_t, zb_f]; rfl) | rfl
        · refine zc_geF rfl h30 ?_
          refine (zz_go 1 (fr' := (zm_L_take, d + 2, 90, [some (.ref 37), some (.int x0), some (.int x1)], [.int x1])) (h' := (zt_T L, zt_R, M, J, e)) (fun _ => rfl)).trans ?_
          refine zl_retI rfl rfl ?_
          first | (simp only [h1, h17, h21, h30, zk_t, zk_f, zb_t, zb_f]; done) | (simp only [h1, h17, h21, h30, zk_t, zk_f, zb_t, zb_f]; rfl) | rfl
    · refine zc_geF rfl h17 ?_
      have k35 := k19 h17
      refine (zz_go 2 (fr' := (zm_L_take, d + 2, 15, [some (.ref 37), some (.int x0), some (.int x1)], [.int (24 : Int32), .int x1])) (h' := (zt_T L, zt_R, M, J, e)) (fun _ => rfl)).trans ?_
      rcases zz_bc (decide ((24 : Int32) ≤ x1)) with h36 | h36
      · refine zc_geT rfl h36 ?_
        refine (zz_go 1 (fr' := (zm_L_take, d + 2, 23, [some (.ref 37), some (.int x0), some (.int x1)], [.int x1])) (h' := (zt_T L, zt_R, M, J, e)) (fun _ => rfl)).trans ?_
        refine zl_retI rfl rfl ?_
        first | (simp only [h1, h17, h36, zk_t, zk_f, zb_t, zb_f]; done) | (simp only [h1, h17, h36, zk_t, zk_f, zb_t, zb_f]; rfl) | rfl
      · refine zc_geF rfl h36 ?_
        have k37 := k35 h36
        refine (zz_go 1 (fr' := (zm_L_take, d + 2, 19, [some (.ref 37), some (.int x0), some (.int x1)], [.int x0])) (h' := (zt_T L, zt_R, M, J, e)) (fun _ => rfl)).trans ?_
        rcases zz_bc (decide (0 ≤ x0)) with h38 | h38
        · refine zo_geT rfl h38 ?_
          have k39 := k37 h38
          refine (zz_go 1 (fr' := (zm_L_take, d + 2, 25, [some (.ref 37), some (.int x0), some (.int x1)], [.ref 37])) (h' := (zt_T L, zt_R, M, J, e)) (fun _ => rfl)).trans ?_
          refine zl_getR rfl rfl rfl ?_
          obtain ⟨k40, k41⟩ := k39
          refine zz_jn (X := zz_D (zm_L_take, d + 2, 48, [none, none, some (.int x1)], [.int (bif (decide (x0 < (16 : Int32))) then (M 42 (x0).toNatClampNeg) else (x0 - (16 : Int32))), .int x1, .ref 43]) (zt_T L, zt_R, M, J, e)) (fun j42 => ?_) ?_
          · refine (zz_go 3 (fr' := (zm_L_take, d + 2, 32, [some (.ref 37), some (.int x0), some (.int x1)], [.int (16 : Int32), .int x0, .int x1, .ref 43])) (h' := (zt_T L, zt_R, M, J, e)) (fun _ => rfl)).trans ?_
            rcases zz_bc (decide (x0 < (16 : Int32))) with h43 | h43
            · refine zc_ltT rfl h43 ?_
              have k44 := k40 h43
              refine (zz_go 1 (fr' := (zm_L_take, d + 2, 43, [some (.ref 37), some (.int x0), some (.int x1)], [.ref 37, .int x1, .ref 43])) (h' := (zt_T L, zt_R, M, J, e)) (fun _ => rfl)).trans ?_
              refine zl_getR rfl rfl rfl ?_
              refine (zz_go 1 (fr' := (zm_L_take, d + 2, 47, [some (.ref 37), some (.int x0), some (.int x1)], [.int x0, .ref 42, .int x1, .ref 43])) (h' := (zt_T L, zt_R, M, J, e)) (fun _ => rfl)).trans ?_
              have g45 : zz_in x0 10 = true := k44
              refine zl_iaload rfl rfl g45 rfl ?_
              refine zz_weak (L := [none, none, some (.int x1)]) ⟨Or.inr ⟨rfl, rfl⟩, Or.inr ⟨rfl, rfl⟩, Or.inl rfl, trivial⟩ ?_
              simpa only [h43, zk_t, zk_f, zb_t, zb_f] using j42
            · refine zc_ltF rfl h43 ?_
              refine (zz_go 4 (fr' := (zm_L_take, d + 2, 48, [some (.ref 37), some (.int x0), some (.int x1)], [.int (x0 - (16 : Int32)), .int x1, .ref 43])) (h' := (zt_T L, zt_R, M, J, e)) (fun _ => rfl)).trans ?_
              refine zz_weak (L := [none, none, some (.int x1)]) ⟨Or.inr ⟨rfl, rfl⟩, Or.inr ⟨rfl, rfl⟩, Or.inl rfl, trivial⟩ ?_
              simpa only [h43, zk_t, zk_f, zb_t, zb_f] using j42
          have g46 : zz_in x1 24 = true := k41
          refine zl_iastore rfl rfl g46 rfl rfl ?_
          refine (zz_go 3 (fr' := (zm_L_take, d + 2, 52, [none, none, some (.int x1)], [.int (x1 + (1 : Int32))])) (h' := (zt_T L, zt_R, (zz_up M 43 (x1).toNatClampNeg (bif (decide (x0 < (16 : Int32))) then (M 42 (x0).toNatClampNeg) else (x0 - (16 : Int32)))), J, e)) (fun _ => rfl)).trans ?_
          refine zl_retI rfl rfl ?_
          first | (simp only [h1, h17, h36, h38, zk_t, zk_f, zb_t, zb_f]; done) | (simp only [h1, h17, h36, h38, zk_t, zk_f, zb_t, zb_f]; rfl) | rfl
        · refine zo_geF rfl h38 ?_
          refine (zz_go 1 (fr' := (zm_L_take, d + 2, 23, [some (.ref 37), some (.int x0), some (.int x1)], [.int x1])) (h' := (zt_T L, zt_R, M, J, e)) (fun _ => rfl)).trans ?_
          refine zl_retI rfl rfl ?_
          first | (simp only [h1, h17, h36, h38, zk_t, zk_f, zb_t, zb_f]; done) | (simp only [h1, h17, h36, h38, zk_t, zk_f, zb_t, zb_f]; rfl) | rfl
def g_L_applies_1 (M : zMem) (x0 : Int32) (x1 : Int32) (i1 : Nat) (a1 : Int32 × Int32 × zMem) : Bool × (Int32 × Int32 × zMem) := ((bif (decide (x1 ≤ a1.2.1)) then false else true), ((bif (decide (x1 ≤ a1.2.1)) then a1.1 else (v_L_take a1.2.2 (a1.2.2 41 (a1.2.1).toNatClampNeg) a1.1)), (bif (decide (x1 ≤ a1.2.1)) then a1.2.1 else (a1.2.1 + (1 : Int32))), (bif (decide (x1 ≤ a1.2.1)) then a1.2.2 else (w_L_take a1.2.2 (a1.2.2 41 (a1.2.1).toNatClampNeg) a1.1))))
def kb_L_applies_1 (M : zMem) (x0 : Int32) (x1 : Int32) (i1 : Nat) (a1 : Int32 × Int32 × zMem) : Prop := ((decide (x1 ≤ a1.2.1)) = false → (zz_in a1.2.1 400 = true ∧ ok_L_take a1.2.2 (a1.2.2 41 (a1.2.1).toNatClampNeg) a1.1))
def v_L_applies (M : zMem) (x0 : Int32) (x1 : Int32) : Bool := (bif (decide ((zf_wh 1000 (g_L_applies_1 M x0 x1) 0 ((0 : Int32), x0, M)).1 = 0)) then true else (bif (decide (((zf_wh 1000 (g_L_applies_1 M x0 x1) 0 ((0 : Int32), x0, M)).2.2 43 0) = 0)) then false else true))
def w_L_applies (M : zMem) (x0 : Int32) (x1 : Int32) : zMem := (zf_wh 1000 (g_L_applies_1 M x0 x1) 0 ((0 : Int32), x0, M)).2.2
def ok_L_applies (M : zMem) (x0 : Int32) (x1 : Int32) : Prop := (zf_wk 1000 (g_L_applies_1 M x0 x1) (kb_L_applies_1 M x0 x1) 0 ((0 : Int32), x0, M))
set_option maxRecDepth 20000 in
set_option maxHeartbeats 2000000 in
theorem s_L_applies (L e : Nat) (J : zJem) (d : Nat) (M : zMem) (x0 : Int32) (x1 : Int32) (k0 : ok_L_applies M x0 x1) : zz_D (zm_L_applies, d + 3, 0, [some (.ref 37), some (.int x0), some (.int x1), none, none], []) (zt_T L, zt_R, M, J, e) = some (.inl (some (.int (zb (v_L_applies M x0 x1)))), (zt_T L, zt_R, (w_L_applies M x0 x1), J, e)) := by
  unfold ok_L_applies at k0
  unfold v_L_applies w_L_applies
  refine (zz_go 4 (fr' := (zm_L_applies, d + 3, 5, [some (.ref 37), some (.int x0), some (.int x1), some (.int (0 : Int32)), some (.int x0)], [])) (h' := (zt_T L, zt_R, M, J, e)) (fun _ => rfl)).trans ?_
  refine zz_weak (L := [some (.ref 37), none, some (.int x1), some (.int (0 : Int32)), some (.int x0)]) ⟨Or.inl rfl, Or.inr ⟨rfl, rfl⟩, Or.inl rfl, Or.inl rfl, Or.inl rfl, trivial⟩ ?_
  refine zf_whY (X := fun (i1 : Nat) (a1 : Int32 × Int32 × zMem) => zz_D (zm_L_applies, d + 3, 5, [some (.ref 37), none, some (.int x1), some (.int a1.1), some (.int a1.2.1)], []) (zt_T L, zt_R, a1.2.2, J, e)) (Y := fun (a1 : Int32 × Int32 × zMem) => zz_D (zm_L_applies, d + 3, 30, [some (.ref 37), none, none, some (.int a1.1), none], []) (zt_T L, zt_R, a1.2.2, J, e)) (g := (g_L_applies_1 M x0 x1)) (k := (kb_L_applies_1 M x0 x1)) (fun i1 a1 k3 hx1 hx2 => ?_) 1000 0 ((0 : Int32), x0, M) k0 ?_
  · show zz_D (zm_L_applies, d + 3, 5, [some (.ref 37), none, some (.int x1), some (.int a1.1), some (.int a1.2.1)], []) (zt_T L, zt_R, a1.2.2, J, e) = _
    unfold kb_L_applies_1 at k3
    refine (zz_go 2 (fr' := (zm_L_applies, d + 3, 8, [some (.ref 37), none, some (.int x1), some (.int a1.1), some (.int a1.2.1)], [.int x1, .int a1.2.1])) (h' := (zt_T L, zt_R, a1.2.2, J, e)) (fun _ => rfl)).trans ?_
    rcases zz_bc (decide (x1 ≤ a1.2.1)) with h4 | h4
    · refine zc_geT rfl h4 ?_
      refine zz_weak (L := [some (.ref 37), none, none, some (.int a1.1), none]) ⟨Or.inl rfl, Or.inl rfl, Or.inr ⟨rfl, rfl⟩, Or.inl rfl, Or.inr ⟨rfl, rfl⟩, trivial⟩ ?_
      have y1 := hx2 (by simp only [g_L_applies_1, h4, zk_t, zk_f, zb_t, zb_f])
      simpa only [g_L_applies_1, h4, zk_t, zk_f, zb_t, zb_f] using y1
    · refine zc_geF rfl h4 ?_
      have k5 := k3 h4
      refine (zz_go 2 (fr' := (zm_L_applies, d + 3, 13, [some (.ref 37), none, some (.int x1), some (.int a1.1), some (.int a1.2.1)], [.ref 37, .ref 37])) (h' := (zt_T L, zt_R, a1.2.2, J, e)) (fun _ => rfl)).trans ?_
      refine zl_getR rfl rfl rfl ?_
      refine (zz_go 1 (fr' := (zm_L_applies, d + 3, 18, [some (.ref 37), none, some (.int x1), some (.int a1.1), some (.int a1.2.1)], [.int a1.2.1, .ref 41, .ref 37])) (h' := (zt_T L, zt_R, a1.2.2, J, e)) (fun _ => rfl)).trans ?_
      obtain ⟨g6, k7⟩ := k5
      refine zl_iaload rfl rfl g6 rfl ?_
      refine (zz_go 1 (fr' := (zm_L_applies, d + 3, 20, [some (.ref 37), none, some (.int x1), some (.int a1.1), some (.int a1.2.1)], [.int a1.1, .int (a1.2.2 41 (a1.2.1).toNatClampNeg), .ref 37])) (h' := (zt_T L, zt_R, a1.2.2, J, e)) (fun _ => rfl)).trans ?_
      have g8 : ok_L_take a1.2.2 (a1.2.2 41 (a1.2.1).toNatClampNeg) a1.1 := k7
      refine zl_vt (d := d + 2) rfl rfl rfl rfl rfl rfl rfl rfl rfl rfl (s_L_take L e J (d + 0) a1.2.2 (a1.2.2 41 (a1.2.1).toNatClampNeg) a1.1 g8) ?_
      show zz_D (zm_L_applies, d + 3, 23, [some (.ref 37), none, some (.int x1), some (.int a1.1), some (.int a1.2.1)], [.int (v_L_take a1.2.2 (a1.2.2 41 (a1.2.1).toNatClampNeg) a1.1)]) (zt_T L, zt_R, (w_L_take a1.2.2 (a1.2.2 41 (a1.2.1).toNatClampNeg) a1.1), J, e) = _
      refine (zz_go 3 (fr' := (zm_L_applies, d + 3, 5, [some (.ref 37), none, some (.int x1), some (.int (v_L_take a1.2.2 (a1.2.2 41 (a1.2.1).toNatClampNeg) a1.1)), some (.int (a1.2.1 + (1 : Int32)))], [])) (h' := (zt_T L, zt_R, (w_L_take a1.2.2 (a1.2.2 41 (a1.2.1).toNatClampNeg) a1.1), J, e)) (fun _ => rfl)).trans ?_
      have y1 := hx1 (by simp only [g_L_applies_1, h4, zk_t, zk_f, zb_t, zb_f])
      simpa only [g_L_applies_1, h4, zk_t, zk_f, zb_t, zb_f] using y1
  show zz_D (zm_L_applies, d + 3, 30, [some (.ref 37), none, none, some (.int (zf_wh 1000 (g_L_applies_1 M x0 x1) 0 ((0 : Int32), x0, M)).1), none], []) (zt_T L, zt_R, (zf_wh 1000 (g_L_applies_1 M x0 x1) 0 ((0 : Int32), x0, M)).2.2, J, e) = _
  refine zz_jn (X := zz_D (zm_L_applies, d + 3, 48, [none, none, none, none, none], [.int (zb (bif (decide ((zf_wh 1000 (g_L_applies_1 M x0 x1) 0 ((0 : Int32), x0, M)).1 = 0)) then true else (bif (decide (((zf_wh 1000 (g_L_applies_1 M x0 x1) 0 ((0 : Int32), x0, M)).2.2 43 0) = 0)) then false else true)))]) (zt_T L, zt_R, (zf_wh 1000 (g_L_applies_1 M x0 x1) 0 ((0 : Int32), x0, M)).2.2, J, e)) (fun j9 => ?_) ?_
  · refine (zz_go 1 (fr' := (zm_L_applies, d + 3, 31, [some (.ref 37), none, none, some (.int (zf_wh 1000 (g_L_applies_1 M x0 x1) 0 ((0 : Int32), x0, M)).1), none], [.int (zf_wh 1000 (g_L_applies_1 M x0 x1) 0 ((0 : Int32), x0, M)).1])) (h' := (zt_T L, zt_R, (zf_wh 1000 (g_L_applies_1 M x0 x1) 0 ((0 : Int32), x0, M)).2.2, J, e)) (fun _ => rfl)).trans ?_
    rcases zz_bc (decide ((zf_wh 1000 (g_L_applies_1 M x0 x1) 0 ((0 : Int32), x0, M)).1 = 0)) with h10 | h10
    · refine zo_eqT rfl h10 ?_
      refine (zz_go 2 (fr' := (zm_L_applies, d + 3, 48, [some (.ref 37), none, none, some (.int (zf_wh 1000 (g_L_applies_1 M x0 x1) 0 ((0 : Int32), x0, M)).1), none], [.int (1 : Int32)])) (h' := (zt_T L, zt_R, (zf_wh 1000 (g_L_applies_1 M x0 x1) 0 ((0 : Int32), x0, M)).2.2, J, e)) (fun _ => rfl)).trans ?_
      refine zz_weak (L := [none, none, none, none, none]) ⟨Or.inr ⟨rfl, rfl⟩, Or.inl rfl, Or.inl rfl, Or.inr ⟨rfl, rfl⟩, Or.inl rfl, trivial⟩ ?_
      simpa only [h10, zk_t, zk_f, zb_t, zb_f] using j9
    · refine zo_eqF rfl h10 ?_
      refine (zz_go 1 (fr' := (zm_L_applies, d + 3, 35, [some (.ref 37), none, none, some (.int (zf_wh 1000 (g_L_applies_1 M x0 x1) 0 ((0 : Int32), x0, M)).1), none], [.ref 37])) (h' := (zt_T L, zt_R, (zf_wh 1000 (g_L_applies_1 M x0 x1) 0 ((0 : Int32), x0, M)).2.2, J, e)) (fun _ => rfl)).trans ?_
      refine zl_getR rfl rfl rfl ?_
      refine (zz_go 1 (fr' := (zm_L_applies, d + 3, 39, [some (.ref 37), none, none, some (.int (zf_wh 1000 (g_L_applies_1 M x0 x1) 0 ((0 : Int32), x0, M)).1), none], [.int (0 : Int32), .ref 43])) (h' := (zt_T L, zt_R, (zf_wh 1000 (g_L_applies_1 M x0 x1) 0 ((0 : Int32), x0, M)).2.2, J, e)) (fun _ => rfl)).trans ?_
      refine zl_iaload rfl rfl (by decide) rfl ?_
      refine zz_jn (X := zz_D (zm_L_applies, d + 3, 48, [none, none, none, none, none], [.int (zb (bif (decide (((zf_wh 1000 (g_L_applies_1 M x0 x1) 0 ((0 : Int32), x0, M)).2.2 43 0) = 0)) then false else true))]) (zt_T L, zt_R, (zf_wh 1000 (g_L_applies_1 M x0 x1) 0 ((0 : Int32), x0, M)).2.2, J, e)) (fun j11 => ?_) ?_
      · rcases zz_bc (decide (((zf_wh 1000 (g_L_applies_1 M x0 x1) 0 ((0 : Int32), x0, M)).2.2 43 0) = 0)) with h12 | h12
        · refine zo_eqT rfl h12 ?_
          refine (zz_go 1 (fr' := (zm_L_applies, d + 3, 48, [some (.ref 37), none, none, some (.int (zf_wh 1000 (g_L_applies_1 M x0 x1) 0 ((0 : Int32), x0, M)).1), none], [.int (0 : Int32)])) (h' := (zt_T L, zt_R, (zf_wh 1000 (g_L_applies_1 M x0 x1) 0 ((0 : Int32), x0, M)).2.2, J, e)) (fun _ => rfl)).trans ?_
          refine zz_weak (L := [none, none, none, none, none]) ⟨Or.inr ⟨rfl, rfl⟩, Or.inl rfl, Or.inl rfl, Or.inr ⟨rfl, rfl⟩, Or.inl rfl, trivial⟩ ?_
          simpa only [h12, zk_t, zk_f, zb_t, zb_f] using j11
        · refine zo_eqF rfl h12 ?_
          refine (zz_go 2 (fr' := (zm_L_applies, d + 3, 48, [some (.ref 37), none, none, some (.int (zf_wh 1000 (g_L_applies_1 M x0 x1) 0 ((0 : Int32), x0, M)).1), none], [.int (1 : Int32)])) (h' := (zt_T L, zt_R, (zf_wh 1000 (g_L_applies_1 M x0 x1) 0 ((0 : Int32), x0, M)).2.2, J, e)) (fun _ => rfl)).trans ?_
          refine zz_weak (L := [none, none, none, none, none]) ⟨Or.inr ⟨rfl, rfl⟩, Or.inl rfl, Or.inl rfl, Or.inr ⟨rfl, rfl⟩, Or.inl rfl, trivial⟩ ?_
          simpa only [h12, zk_t, zk_f, zb_t, zb_f] using j11
      simpa only [h10, zk_t, zk_f, zb_t, zb_f] using j9
  refine zl_retI rfl (zb_01 _) ?_
  rfl
def g_L_total_1 (M : zMem) (x0 : Int32) (i1 : Nat) (a1 : Int32 × Int32 × zMem) : Bool × (Int32 × Int32 × zMem) := ((bif (decide ((a1.2.2 37 0) ≤ (Int32.ofNat i1))) then false else true), ((bif (decide ((a1.2.2 37 0) ≤ (Int32.ofNat i1))) then a1.1 else (bif (decide ((a1.2.2 38 (Int32.ofNat i1).toNatClampNeg) = x0)) then (bif (v_L_applies a1.2.2 a1.2.1 (a1.2.2 40 (Int32.ofNat i1).toNatClampNeg)) then (a1.1 + ((w_L_applies a1.2.2 a1.2.1 (a1.2.2 40 (Int32.ofNat i1).toNatClampNeg)) 39 (Int32.ofNat i1).toNatClampNeg)) else a1.1) else a1.1)), (bif (decide ((a1.2.2 37 0) ≤ (Int32.ofNat i1))) then a1.2.1 else ((bif (decide ((a1.2.2 38 (Int32.ofNat i1).toNatClampNeg) = x0)) then (w_L_applies a1.2.2 a1.2.1 (a1.2.2 40 (Int32.ofNat i1).toNatClampNeg)) else a1.2.2) 40 (Int32.ofNat i1).toNatClampNeg)), (bif (decide ((a1.2.2 37 0) ≤ (Int32.ofNat i1))) then a1.2.2 else (bif (decide ((a1.2.2 38 (Int32.ofNat i1).toNatClampNeg) = x0)) then (w_L_applies a1.2.2 a1.2.1 (a1.2.2 40 (Int32.ofNat i1).toNatClampNeg)) else a1.2.2))))
def kb_L_total_1 (M : zMem) (x0 : Int32) (i1 : Nat) (a1 : Int32 × Int32 × zMem) : Prop := ((decide ((a1.2.2 37 0) ≤ (Int32.ofNat i1))) = false → (zz_in (Int32.ofNat i1) 12 = true ∧ ((decide ((a1.2.2 38 (Int32.ofNat i1).toNatClampNeg) = x0)) = true → ok_L_applies a1.2.2 a1.2.1 (a1.2.2 40 (Int32.ofNat i1).toNatClampNeg))))
def v_L_total (M : zMem) (x0 : Int32) : Int32 := (zf_wh 1000 (g_L_total_1 M x0) 0 ((0 : Int32), (0 : Int32), M)).1
def w_L_total (M : zMem) (x0 : Int32) : zMem := (zf_wh 1000 (g_L_total_1 M x0) 0 ((0 : Int32), (0 : Int32), M)).2.2
def ok_L_total (M : zMem) (x0 : Int32) : Prop := (zf_wk 1000 (g_L_total_1 M x0) (kb_L_total_1 M x0) 0 ((0 : Int32), (0 : Int32), M))
set_option maxRecDepth 20000 in
set_option maxHeartbeats 2000000 in
theorem s_L_total (L e : Nat) (J : zJem) (d : Nat) (M : zMem) (x0 : Int32) (k0 : ok_L_total M x0) : zz_D (zm_L_total, d + 4, 0, [some (.ref 37), some (.int x0), none, none, none], []) (zt_T L, zt_R, M, J, e) = some (.inl (some (.int (v_L_total M x0))), (zt_T L, zt_R, (w_L_total M x0), J, e)) := by
  unfold ok_L_total at k0
  unfold v_L_total w_L_total
  refine (zz_go 6 (fr' := (zm_L_total, d + 4, 7, [some (.ref 37), some (.int x0), some (.int (0 : Int32)), some (.int (0 : Int32)), some (.int (0 : Int32))], [])) (h' := (zt_T L, zt_R, M, J, e)) (fun _ => rfl)).trans ?_
  refine zf_whY (X := fun (i1 : Nat) (a1 : Int32 × Int32 × zMem) => zz_D (zm_L_total, d + 4, 7, [some (.ref 37), some (.int x0), some (.int a1.1), some (.int a1.2.1), some (.int (Int32.ofNat i1))], []) (zt_T L, zt_R, a1.2.2, J, e)) (Y := fun (a1 : Int32 × Int32 × zMem) => zz_D (zm_L_total, d + 4, 66, [none, none, some (.int a1.1), none, none], []) (zt_T L, zt_R, a1.2.2, J, e)) (g := (g_L_total_1 M x0)) (k := (kb_L_total_1 M x0)) (fun i1 a1 k3 hx1 hx2 => ?_) 1000 0 ((0 : Int32), (0 : Int32), M) k0 ?_
  · show zz_D (zm_L_total, d + 4, 7, [some (.ref 37), some (.int x0), some (.int a1.1), some (.int a1.2.1), some (.int (Int32.ofNat i1))], []) (zt_T L, zt_R, a1.2.2, J, e) = _
    unfold kb_L_total_1 at k3
    refine (zz_go 2 (fr' := (zm_L_total, d + 4, 10, [some (.ref 37), some (.int x0), some (.int a1.1), some (.int a1.2.1), some (.int (Int32.ofNat i1))], [.ref 37, .int (Int32.ofNat i1)])) (h' := (zt_T L, zt_R, a1.2.2, J, e)) (fun _ => rfl)).trans ?_
    refine zl_getI rfl (by decide) rfl rfl ?_
    rcases zz_bc (decide ((a1.2.2 37 0) ≤ (Int32.ofNat i1))) with h4 | h4
    · refine zc_geT rfl h4 ?_
      refine zz_weak (L := [none, none, some (.int a1.1), none, none]) ⟨Or.inr ⟨rfl, rfl⟩, Or.inr ⟨rfl, rfl⟩, Or.inl rfl, Or.inr ⟨rfl, rfl⟩, Or.inr ⟨rfl, rfl⟩, trivial⟩ ?_
      have y1 := hx2 (by simp only [g_L_total_1, h4, zk_t, zk_f, zb_t, zb_f])
      simpa only [g_L_total_1, h4, zk_t, zk_f, zb_t, zb_f] using y1
    · refine zc_geF rfl h4 ?_
      have k5 := k3 h4
      refine (zz_go 1 (fr' := (zm_L_total, d + 4, 17, [some (.ref 37), some (.int x0), some (.int a1.1), some (.int a1.2.1), some (.int (Int32.ofNat i1))], [.ref 37])) (h' := (zt_T L, zt_R, a1.2.2, J, e)) (fun _ => rfl)).trans ?_
      refine zl_getR rfl rfl rfl ?_
      refine (zz_go 1 (fr' := (zm_L_total, d + 4, 22, [some (.ref 37), some (.int x0), some (.int a1.1), some (.int a1.2.1), some (.int (Int32.ofNat i1))], [.int (Int32.ofNat i1), .ref 38])) (h' := (zt_T L, zt_R, a1.2.2, J, e)) (fun _ => rfl)).trans ?_
      obtain ⟨g6, k7⟩ := k5
      refine zl_iaload rfl rfl g6 rfl ?_
      refine zz_jn (X := zz_D (zm_L_total, d + 4, 52, [some (.ref 37), some (.int x0), some (.int (bif (decide ((a1.2.2 38 (Int32.ofNat i1).toNatClampNeg) = x0)) then (bif (v_L_applies a1.2.2 a1.2.1 (a1.2.2 40 (Int32.ofNat i1).toNatClampNeg)) then (a1.1 + ((w_L_applies a1.2.2 a1.2.1 (a1.2.2 40 (Int32.ofNat i1).toNatClampNeg)) 39 (Int32.ofNat i1).toNatClampNeg)) else a1.1) else a1.1)), none, some (.int (Int32.ofNat i1))], []) (zt_T L, zt_R, (bif (decide ((a1.2.2 38 (Int32.ofNat i1).toNatClampNeg) = x0)) then (w_L_applies a1.2.2 a1.2.1 (a1.2.2 40 (Int32.ofNat i1).toNatClampNeg)) else a1.2.2), J, e)) (fun j8 => ?_) ?_
      · refine (zz_go 1 (fr' := (zm_L_total, d + 4, 24, [some (.ref 37), some (.int x0), some (.int a1.1), some (.int a1.2.1), some (.int (Int32.ofNat i1))], [.int x0, .int (a1.2.2 38 (Int32.ofNat i1).toNatClampNeg)])) (h' := (zt_T L, zt_R, a1.2.2, J, e)) (fun _ => rfl)).trans ?_
        rcases zz_bc (decide ((a1.2.2 38 (Int32.ofNat i1).toNatClampNeg) = x0)) with h9 | h9
        · refine zc_neT rfl h9 ?_
          have k10 := k7 h9
          refine (zz_go 3 (fr' := (zm_L_total, d + 4, 30, [some (.ref 37), some (.int x0), some (.int a1.1), some (.int a1.2.1), some (.int (Int32.ofNat i1))], [.ref 37, .int a1.2.1, .ref 37])) (h' := (zt_T L, zt_R, a1.2.2, J, e)) (fun _ => rfl)).trans ?_
          refine zl_getR rfl rfl rfl ?_
          refine (zz_go 1 (fr' := (zm_L_total, d + 4, 35, [some (.ref 37), some (.int x0), some (.int a1.1), some (.int a1.2.1), some (.int (Int32.ofNat i1))], [.int (Int32.ofNat i1), .ref 40, .int a1.2.1, .ref 37])) (h' := (zt_T L, zt_R, a1.2.2, J, e)) (fun _ => rfl)).trans ?_
          refine zl_iaload rfl rfl g6 rfl ?_
          have g11 : ok_L_applies a1.2.2 a1.2.1 (a1.2.2 40 (Int32.ofNat i1).toNatClampNeg) := k10
          refine zl_vt (d := d + 3) rfl rfl rfl rfl rfl rfl rfl rfl rfl rfl (s_L_applies L e J (d + 0) a1.2.2 a1.2.1 (a1.2.2 40 (Int32.ofNat i1).toNatClampNeg) g11) ?_
          show zz_D (zm_L_total, d + 4, 39, [some (.ref 37), some (.int x0), some (.int a1.1), some (.int a1.2.1), some (.int (Int32.ofNat i1))], [.int (zb (v_L_applies a1.2.2 a1.2.1 (a1.2.2 40 (Int32.ofNat i1).toNatClampNeg)))]) (zt_T L, zt_R, (w_L_applies a1.2.2 a1.2.1 (a1.2.2 40 (Int32.ofNat i1).toNatClampNeg)), J, e) = _
          refine zz_jn (X := zz_D (zm_L_total, d + 4, 52, [some (.ref 37), some (.int x0), some (.int (bif (v_L_applies a1.2.2 a1.2.1 (a1.2.2 40 (Int32.ofNat i1).toNatClampNeg)) then (a1.1 + ((w_L_applies a1.2.2 a1.2.1 (a1.2.2 40 (Int32.ofNat i1).toNatClampNeg)) 39 (Int32.ofNat i1).toNatClampNeg)) else a1.1)), none, some (.int (Int32.ofNat i1))], []) (zt_T L, zt_R, (w_L_applies a1.2.2 a1.2.1 (a1.2.2 40 (Int32.ofNat i1).toNatClampNeg)), J, e)) (fun j12 => ?_) ?_
          · rcases zz_bc (v_L_applies a1.2.2 a1.2.1 (a1.2.2 40 (Int32.ofNat i1).toNatClampNeg)) with h13 | h13
            · refine zq_eT rfl h13 ?_
              refine (zz_go 2 (fr' := (zm_L_total, d + 4, 44, [some (.ref 37), some (.int x0), some (.int a1.1), some (.int a1.2.1), some (.int (Int32.ofNat i1))], [.ref 37, .int a1.1])) (h' := (zt_T L, zt_R, (w_L_applies a1.2.2 a1.2.1 (a1.2.2 40 (Int32.ofNat i1).toNatClampNeg)), J, e)) (fun _ => rfl)).trans ?_
              refine zl_getR rfl rfl rfl ?_
              refine (zz_go 1 (fr' := (zm_L_total, d + 4, 49, [some (.ref 37), some (.int x0), some (.int a1.1), some (.int a1.2.1), some (.int (Int32.ofNat i1))], [.int (Int32.ofNat i1), .ref 39, .int a1.1])) (h' := (zt_T L, zt_R, (w_L_applies a1.2.2 a1.2.1 (a1.2.2 40 (Int32.ofNat i1).toNatClampNeg)), J, e)) (fun _ => rfl)).trans ?_
              refine zl_iaload rfl rfl g6 rfl ?_
              refine (zz_go 2 (fr' := (zm_L_total, d + 4, 52, [some (.ref 37), some (.int x0), some (.int (a1.1 + ((w_L_applies a1.2.2 a1.2.1 (a1.2.2 40 (Int32.ofNat i1).toNatClampNeg)) 39 (Int32.ofNat i1).toNatClampNeg))), some (.int a1.2.1), some (.int (Int32.ofNat i1))], [])) (h' := (zt_T L, zt_R, (w_L_applies a1.2.2 a1.2.1 (a1.2.2 40 (Int32.ofNat i1).toNatClampNeg)), J, e)) (fun _ => rfl)).trans ?_
              refine zz_weak (L := [some (.ref 37), some (.int x0), some (.int (a1.1 + ((w_L_applies a1.2.2 a1.2.1 (a1.2.2 40 (Int32.ofNat i1).toNatClampNeg)) 39 (Int32.ofNat i1).toNatClampNeg))), none, some (.int (Int32.ofNat i1))]) ⟨Or.inl rfl, Or.inl rfl, Or.inl rfl, Or.inr ⟨rfl, rfl⟩, Or.inl rfl, trivial⟩ ?_
              simpa only [h13, zk_t, zk_f, zb_t, zb_f] using j12
            · refine zq_eF rfl h13 ?_
              refine zz_weak (L := [some (.ref 37), some (.int x0), some (.int a1.1), none, some (.int (Int32.ofNat i1))]) ⟨Or.inl rfl, Or.inl rfl, Or.inl rfl, Or.inr ⟨rfl, rfl⟩, Or.inl rfl, trivial⟩ ?_
              simpa only [h13, zk_t, zk_f, zb_t, zb_f] using j12
          simpa only [h9, zk_t, zk_f, zb_t, zb_f] using j8
        · refine zc_neF rfl h9 ?_
          refine zz_weak (L := [some (.ref 37), some (.int x0), some (.int a1.1), none, some (.int (Int32.ofNat i1))]) ⟨Or.inl rfl, Or.inl rfl, Or.inl rfl, Or.inr ⟨rfl, rfl⟩, Or.inl rfl, trivial⟩ ?_
          simpa only [h9, zk_t, zk_f, zb_t, zb_f] using j8
      refine (zz_go 1 (fr' := (zm_L_total, d + 4, 53, [some (.ref 37), some (.int x0), some (.int (bif (decide ((a1.2.2 38 (Int32.ofNat i1).toNatClampNeg) = x0)) then (bif (v_L_applies a1.2.2 a1.2.1 (a1.2.2 40 (Int32.ofNat i1).toNatClampNeg)) then (a1.1 + ((w_L_applies a1.2.2 a1.2.1 (a1.2.2 40 (Int32.ofNat i1).toNatClampNeg)) 39 (Int32.ofNat i1).toNatClampNeg)) else a1.1) else a1.1)), none, some (.int (Int32.ofNat i1))], [.ref 37])) (h' := (zt_T L, zt_R, (bif (decide ((a1.2.2 38 (Int32.ofNat i1).toNatClampNeg) = x0)) then (w_L_applies a1.2.2 a1.2.1 (a1.2.2 40 (Int32.ofNat i1).toNatClampNeg)) else a1.2.2), J, e)) (fun _ => rfl)).trans ?_
      refine zl_getR rfl rfl rfl ?_
      refine (zz_go 1 (fr' := (zm_L_total, d + 4, 58, [some (.ref 37), some (.int x0), some (.int (bif (decide ((a1.2.2 38 (Int32.ofNat i1).toNatClampNeg) = x0)) then (bif (v_L_applies a1.2.2 a1.2.1 (a1.2.2 40 (Int32.ofNat i1).toNatClampNeg)) then (a1.1 + ((w_L_applies a1.2.2 a1.2.1 (a1.2.2 40 (Int32.ofNat i1).toNatClampNeg)) 39 (Int32.ofNat i1).toNatClampNeg)) else a1.1) else a1.1)), none, some (.int (Int32.ofNat i1))], [.int (Int32.ofNat i1), .ref 40])) (h' := (zt_T L, zt_R, (bif (decide ((a1.2.2 38 (Int32.ofNat i1).toNatClampNeg) = x0)) then (w_L_applies a1.2.2 a1.2.1 (a1.2.2 40 (Int32.ofNat i1).toNatClampNeg)) else a1.2.2), J, e)) (fun _ => rfl)).trans ?_
      refine zl_iaload rfl rfl g6 rfl ?_
      refine (zz_go 3 (fr' := (zm_L_total, d + 4, 7, [some (.ref 37), some (.int x0), some (.int (bif (decide ((a1.2.2 38 (Int32.ofNat i1).toNatClampNeg) = x0)) then (bif (v_L_applies a1.2.2 a1.2.1 (a1.2.2 40 (Int32.ofNat i1).toNatClampNeg)) then (a1.1 + ((w_L_applies a1.2.2 a1.2.1 (a1.2.2 40 (Int32.ofNat i1).toNatClampNeg)) 39 (Int32.ofNat i1).toNatClampNeg)) else a1.1) else a1.1)), some (.int ((bif (decide ((a1.2.2 38 (Int32.ofNat i1).toNatClampNeg) = x0)) then (w_L_applies a1.2.2 a1.2.1 (a1.2.2 40 (Int32.ofNat i1).toNatClampNeg)) else a1.2.2) 40 (Int32.ofNat i1).toNatClampNeg)), some (.int (Int32.ofNat i1 + 1))], [])) (h' := (zt_T L, zt_R, (bif (decide ((a1.2.2 38 (Int32.ofNat i1).toNatClampNeg) = x0)) then (w_L_applies a1.2.2 a1.2.1 (a1.2.2 40 (Int32.ofNat i1).toNatClampNeg)) else a1.2.2), J, e)) (fun _ => rfl)).trans ?_
      rw [zi_succ i1]
      have y1 := hx1 (by simp only [g_L_total_1, h4, zk_t, zk_f, zb_t, zb_f])
      simpa only [g_L_total_1, h4, zk_t, zk_f, zb_t, zb_f] using y1
  show zz_D (zm_L_total, d + 4, 66, [none, none, some (.int (zf_wh 1000 (g_L_total_1 M x0) 0 ((0 : Int32), (0 : Int32), M)).1), none, none], []) (zt_T L, zt_R, (zf_wh 1000 (g_L_total_1 M x0) 0 ((0 : Int32), (0 : Int32), M)).2.2, J, e) = _
  refine (zz_go 1 (fr' := (zm_L_total, d + 4, 67, [none, none, some (.int (zf_wh 1000 (g_L_total_1 M x0) 0 ((0 : Int32), (0 : Int32), M)).1), none, none], [.int (zf_wh 1000 (g_L_total_1 M x0) 0 ((0 : Int32), (0 : Int32), M)).1])) (h' := (zt_T L, zt_R, (zf_wh 1000 (g_L_total_1 M x0) 0 ((0 : Int32), (0 : Int32), M)).2.2, J, e)) (fun _ => rfl)).trans ?_
  refine zl_retI rfl rfl ?_
  rfl
def v_L_comes (M : zMem) (s : Nat) (x0 : Int32) : Int32 := (bif (v_S_isPlain M s x0) then (0 : Int32) else (v_jm_max (0 : Int32) (v_jm_min ((((((w_L_learn M s x0) (s + 6) (x0).toNatClampNeg) / (10 : Int32)) + ((w_L_learn M s x0) (s + 7) (x0).toNatClampNeg)) + (v_L_total (w_L_learn M s x0) (0 : Int32))) - (v_L_total (w_L_total (w_L_learn M s x0) (0 : Int32)) (1 : Int32))) (100 : Int32))))
def w_L_comes (M : zMem) (s : Nat) (x0 : Int32) : zMem := (bif (v_S_isPlain M s x0) then M else (w_L_total (w_L_total (w_L_learn M s x0) (0 : Int32)) (1 : Int32)))
def ok_L_comes (M : zMem) (s : Nat) (x0 : Int32) : Prop := (ok_S_isPlain M s x0 ∧ ((v_S_isPlain M s x0) = false → (ok_L_learn M s x0 ∧ (zz_in x0 6 = true ∧ (ok_L_total (w_L_learn M s x0) (0 : Int32) ∧ ok_L_total (w_L_total (w_L_learn M s x0) (0 : Int32)) (1 : Int32))))))
set_option maxRecDepth 20000 in
set_option maxHeartbeats 2000000 in
theorem s_L_comes (L e : Nat) (J : zJem) (d : Nat) (M : zMem) (s : Nat) (x0 : Int32) (hs : zt_St s) (k0 : ok_L_comes M s x0) : zz_D (zm_L_comes, d + 5, 0, [some (.ref 37), some (.ref s), some (.int x0), none], []) (zt_T L, zt_R, M, J, e) = some (.inl (some (.int (v_L_comes M s x0))), (zt_T L, zt_R, (w_L_comes M s x0), J, e)) := by
  unfold ok_L_comes at k0
  unfold v_L_comes w_L_comes
  refine (zz_go 2 (fr' := (zm_L_comes, d + 5, 2, [some (.ref 37), some (.ref s), some (.int x0), none], [.int x0, .ref s])) (h' := (zt_T L, zt_R, M, J, e)) (fun _ => rfl)).trans ?_
  obtain ⟨g1, k2⟩ := k0
  refine zl_vt (d := d + 4) rfl rfl rfl (zt_St0 L hs) rfl rfl rfl rfl rfl rfl (s_S_isPlain L e J (d + 3) M s x0 hs g1) ?_
  show zz_D (zm_L_comes, d + 5, 5, [some (.ref 37), some (.ref s), some (.int x0), none], [.int (zb (v_S_isPlain M s x0))]) (zt_T L, zt_R, M, J, e) = _
  rcases zz_bc (v_S_isPlain M s x0) with h3 | h3
  · refine zq_eT rfl h3 ?_
    refine (zz_go 1 (fr' := (zm_L_comes, d + 5, 9, [some (.ref 37), some (.ref s), some (.int x0), none], [.int (0 : Int32)])) (h' := (zt_T L, zt_R, M, J, e)) (fun _ => rfl)).trans ?_
    refine zl_retI rfl rfl ?_
    first | (simp only [h3, zk_t, zk_f, zb_t, zb_f]; done) | (simp only [h3, zk_t, zk_f, zb_t, zb_f]; rfl) | rfl
  · refine zq_eF rfl h3 ?_
    have k4 := k2 h3
    refine (zz_go 3 (fr' := (zm_L_comes, d + 5, 13, [some (.ref 37), some (.ref s), some (.int x0), none], [.int x0, .ref s, .ref 37])) (h' := (zt_T L, zt_R, M, J, e)) (fun _ => rfl)).trans ?_
    obtain ⟨g5, k6⟩ := k4
    refine zl_vt (d := d + 4) rfl rfl rfl rfl rfl rfl rfl rfl rfl rfl (s_L_learn L e J (d + 2) M s x0 hs g5) ?_
    show zz_D (zm_L_comes, d + 5, 16, [some (.ref 37), some (.ref s), some (.int x0), none], []) (zt_T L, zt_R, (w_L_learn M s x0), J, e) = _
    refine (zz_go 1 (fr' := (zm_L_comes, d + 5, 17, [some (.ref 37), some (.ref s), some (.int x0), none], [.ref s])) (h' := (zt_T L, zt_R, (w_L_learn M s x0), J, e)) (fun _ => rfl)).trans ?_
    refine zl_getR rfl (zt_St0 L hs) (zt_StR5 hs) ?_
    refine (zz_go 1 (fr' := (zm_L_comes, d + 5, 21, [some (.ref 37), some (.ref s), some (.int x0), none], [.int x0, .ref (s + 6)])) (h' := (zt_T L, zt_R, (w_L_learn M s x0), J, e)) (fun _ => rfl)).trans ?_
    obtain ⟨g7, k8⟩ := k6
    refine zl_iaload rfl (zt_St6 L hs) g7 rfl ?_
    refine (zz_go 1 (fr' := (zm_L_comes, d + 5, 24, [some (.ref 37), some (.ref s), some (.int x0), none], [.int (10 : Int32), .int ((w_L_learn M s x0) (s + 6) (x0).toNatClampNeg)])) (h' := (zt_T L, zt_R, (w_L_learn M s x0), J, e)) (fun _ => rfl)).trans ?_
    refine zl_div rfl (by decide) ?_
    refine (zz_go 1 (fr' := (zm_L_comes, d + 5, 26, [some (.ref 37), some (.ref s), some (.int x0), none], [.ref s, .int (((w_L_learn M s x0) (s + 6) (x0).toNatClampNeg) / (10 : Int32))])) (h' := (zt_T L, zt_R, (w_L_learn M s x0), J, e)) (fun _ => rfl)).trans ?_
    refine zl_getR rfl (zt_St0 L hs) (zt_StR6 hs) ?_
    refine (zz_go 1 (fr' := (zm_L_comes, d + 5, 30, [some (.ref 37), some (.ref s), some (.int x0), none], [.int x0, .ref (s + 7), .int (((w_L_learn M s x0) (s + 6) (x0).toNatClampNeg) / (10 : Int32))])) (h' := (zt_T L, zt_R, (w_L_learn M s x0), J, e)) (fun _ => rfl)).trans ?_
    refine zl_iaload rfl (zt_St7 L hs) g7 rfl ?_
    refine (zz_go 3 (fr' := (zm_L_comes, d + 5, 34, [some (.ref 37), some (.ref s), some (.int x0), none], [.int (0 : Int32), .ref 37, .int ((((w_L_learn M s x0) (s + 6) (x0).toNatClampNeg) / (10 : Int32)) + ((w_L_learn M s x0) (s + 7) (x0).toNatClampNeg))])) (h' := (zt_T L, zt_R, (w_L_learn M s x0), J, e)) (fun _ => rfl)).trans ?_
    obtain ⟨g9, k10⟩ := k8
    refine zl_vt (d := d + 4) rfl rfl rfl rfl rfl rfl rfl rfl rfl rfl (s_L_total L e J (d + 0) (w_L_learn M s x0) (0 : Int32) g9) ?_
    show zz_D (zm_L_comes, d + 5, 37, [some (.ref 37), some (.ref s), some (.int x0), none], [.int (v_L_total (w_L_learn M s x0) (0 : Int32)), .int ((((w_L_learn M s x0) (s + 6) (x0).toNatClampNeg) / (10 : Int32)) + ((w_L_learn M s x0) (s + 7) (x0).toNatClampNeg))]) (zt_T L, zt_R, (w_L_total (w_L_learn M s x0) (0 : Int32)), J, e) = _
    refine (zz_go 3 (fr' := (zm_L_comes, d + 5, 40, [some (.ref 37), some (.ref s), some (.int x0), none], [.int (1 : Int32), .ref 37, .int (((((w_L_learn M s x0) (s + 6) (x0).toNatClampNeg) / (10 : Int32)) + ((w_L_learn M s x0) (s + 7) (x0).toNatClampNeg)) + (v_L_total (w_L_learn M s x0) (0 : Int32)))])) (h' := (zt_T L, zt_R, (w_L_total (w_L_learn M s x0) (0 : Int32)), J, e)) (fun _ => rfl)).trans ?_
    have g11 : ok_L_total (w_L_total (w_L_learn M s x0) (0 : Int32)) (1 : Int32) := k10
    refine zl_vt (d := d + 4) rfl rfl rfl rfl rfl rfl rfl rfl rfl rfl (s_L_total L e J (d + 0) (w_L_total (w_L_learn M s x0) (0 : Int32)) (1 : Int32) g11) ?_
    show zz_D (zm_L_comes, d + 5, 43, [some (.ref 37), some (.ref s), some (.int x0), none], [.int (v_L_total (w_L_total (w_L_learn M s x0) (0 : Int32)) (1 : Int32)), .int (((((w_L_learn M s x0) (s + 6) (x0).toNatClampNeg) / (10 : Int32)) + ((w_L_learn M s x0) (s + 7) (x0).toNatClampNeg)) + (v_L_total (w_L_learn M s x0) (0 : Int32)))]) (zt_T L, zt_R, (w_L_total (w_L_total (w_L_learn M s x0) (0 : Int32)) (1 : Int32)), J, e) = _
    refine (zz_go 5 (fr' := (zm_L_comes, d + 5, 49, [some (.ref 37), some (.ref s), some (.int x0), some (.int ((((((w_L_learn M s x0) (s + 6) (x0).toNatClampNeg) / (10 : Int32)) + ((w_L_learn M s x0) (s + 7) (x0).toNatClampNeg)) + (v_L_total (w_L_learn M s x0) (0 : Int32))) - (v_L_total (w_L_total (w_L_learn M s x0) (0 : Int32)) (1 : Int32))))], [.int (100 : Int32), .int ((((((w_L_learn M s x0) (s + 6) (x0).toNatClampNeg) / (10 : Int32)) + ((w_L_learn M s x0) (s + 7) (x0).toNatClampNeg)) + (v_L_total (w_L_learn M s x0) (0 : Int32))) - (v_L_total (w_L_total (w_L_learn M s x0) (0 : Int32)) (1 : Int32))), .int (0 : Int32)])) (h' := (zt_T L, zt_R, (w_L_total (w_L_total (w_L_learn M s x0) (0 : Int32)) (1 : Int32)), J, e)) (fun _ => rfl)).trans ?_
    refine zl_st (d := d + 4) rfl rfl rfl rfl rfl rfl rfl (s_jm_min L e J (d + 3) ((((((w_L_learn M s x0) (s + 6) (x0).toNatClampNeg) / (10 : Int32)) + ((w_L_learn M s x0) (s + 7) (x0).toNatClampNeg)) + (v_L_total (w_L_learn M s x0) (0 : Int32))) - (v_L_total (w_L_total (w_L_learn M s x0) (0 : Int32)) (1 : Int32))) (100 : Int32)) ?_
    show zz_D (zm_L_comes, d + 5, 52, [some (.ref 37), some (.ref s), some (.int x0), some (.int ((((((w_L_learn M s x0) (s + 6) (x0).toNatClampNeg) / (10 : Int32)) + ((w_L_learn M s x0) (s + 7) (x0).toNatClampNeg)) + (v_L_total (w_L_learn M s x0) (0 : Int32))) - (v_L_total (w_L_total (w_L_learn M s x0) (0 : Int32)) (1 : Int32))))], [.int (v_jm_min ((((((w_L_learn M s x0) (s + 6) (x0).toNatClampNeg) / (10 : Int32)) + ((w_L_learn M s x0) (s + 7) (x0).toNatClampNeg)) + (v_L_total (w_L_learn M s x0) (0 : Int32))) - (v_L_total (w_L_total (w_L_learn M s x0) (0 : Int32)) (1 : Int32))) (100 : Int32)), .int (0 : Int32)]) (zt_T L, zt_R, (w_L_total (w_L_total (w_L_learn M s x0) (0 : Int32)) (1 : Int32)), J, e) = _
    refine zl_st (d := d + 4) rfl rfl rfl rfl rfl rfl rfl (s_jm_max L e J (d + 3) (0 : Int32) (v_jm_min ((((((w_L_learn M s x0) (s + 6) (x0).toNatClampNeg) / (10 : Int32)) + ((w_L_learn M s x0) (s + 7) (x0).toNatClampNeg)) + (v_L_total (w_L_learn M s x0) (0 : Int32))) - (v_L_total (w_L_total (w_L_learn M s x0) (0 : Int32)) (1 : Int32))) (100 : Int32))) ?_
    show zz_D (zm_L_comes, d + 5, 55, [some (.ref 37), some (.ref s), some (.int x0), some (.int ((((((w_L_learn M s x0) (s + 6) (x0).toNatClampNeg) / (10 : Int32)) + ((w_L_learn M s x0) (s + 7) (x0).toNatClampNeg)) + (v_L_total (w_L_learn M s x0) (0 : Int32))) - (v_L_total (w_L_total (w_L_learn M s x0) (0 : Int32)) (1 : Int32))))], [.int (v_jm_max (0 : Int32) (v_jm_min ((((((w_L_learn M s x0) (s + 6) (x0).toNatClampNeg) / (10 : Int32)) + ((w_L_learn M s x0) (s + 7) (x0).toNatClampNeg)) + (v_L_total (w_L_learn M s x0) (0 : Int32))) - (v_L_total (w_L_total (w_L_learn M s x0) (0 : Int32)) (1 : Int32))) (100 : Int32)))]) (zt_T L, zt_R, (w_L_total (w_L_total (w_L_learn M s x0) (0 : Int32)) (1 : Int32)), J, e) = _
    refine zl_retI rfl rfl ?_
    first | (simp only [h3, zk_t, zk_f, zb_t, zb_f]; done) | (simp only [h3, zk_t, zk_f, zb_t, zb_f]; rfl) | rfl
def v_L_makesKnown (M : zMem) (s : Nat) (x0 : Int32) : Int32 := ((10 : Int32) + (v_L_total (w_L_learn M s x0) (2 : Int32)))
def w_L_makesKnown (M : zMem) (s : Nat) (x0 : Int32) : zMem := (w_L_total (w_L_learn M s x0) (2 : Int32))
def ok_L_makesKnown (M : zMem) (s : Nat) (x0 : Int32) : Prop := (ok_L_learn M s x0 ∧ ok_L_total (w_L_learn M s x0) (2 : Int32))
set_option maxRecDepth 20000 in
set_option maxHeartbeats 2000000 in
theorem s_L_makesKnown (L e : Nat) (J : zJem) (d : Nat) (M : zMem) (s : Nat) (x0 : Int32) (hs : zt_St s) (k0 : ok_L_makesKnown M s x0) : zz_D (zm_L_makesKnown, d + 5, 0, [some (.ref 37), some (.ref s), some (.int x0)], []) (zt_T L, zt_R, M, J, e) = some (.inl (some (.int (v_L_makesKnown M s x0))), (zt_T L, zt_R, (w_L_makesKnown M s x0), J, e)) := by
  unfold ok_L_makesKnown at k0
  unfold v_L_makesKnown w_L_makesKnown
  refine (zz_go 3 (fr' := (zm_L_makesKnown, d + 5, 3, [some (.ref 37), some (.ref s), some (.int x0)], [.int x0, .ref s, .ref 37])) (h' := (zt_T L, zt_R, M, J, e)) (fun _ => rfl)).trans ?_
  obtain ⟨g1, k2⟩ := k0
  refine zl_vt (d := d + 4) rfl rfl rfl rfl rfl rfl rfl rfl rfl rfl (s_L_learn L e J (d + 2) M s x0 hs g1) ?_
  show zz_D (zm_L_makesKnown, d + 5, 6, [some (.ref 37), some (.ref s), some (.int x0)], []) (zt_T L, zt_R, (w_L_learn M s x0), J, e) = _
  refine (zz_go 3 (fr' := (zm_L_makesKnown, d + 5, 10, [some (.ref 37), some (.ref s), some (.int x0)], [.int (2 : Int32), .ref 37, .int (10 : Int32)])) (h' := (zt_T L, zt_R, (w_L_learn M s x0), J, e)) (fun _ => rfl)).trans ?_
  have g3 : ok_L_total (w_L_learn M s x0) (2 : Int32) := k2
  refine zl_vt (d := d + 4) rfl rfl rfl rfl rfl rfl rfl rfl rfl rfl (s_L_total L e J (d + 0) (w_L_learn M s x0) (2 : Int32) g3) ?_
  show zz_D (zm_L_makesKnown, d + 5, 13, [some (.ref 37), some (.ref s), some (.int x0)], [.int (v_L_total (w_L_learn M s x0) (2 : Int32)), .int (10 : Int32)]) (zt_T L, zt_R, (w_L_total (w_L_learn M s x0) (2 : Int32)), J, e) = _
  refine (zz_go 1 (fr' := (zm_L_makesKnown, d + 5, 14, [some (.ref 37), some (.ref s), some (.int x0)], [.int ((10 : Int32) + (v_L_total (w_L_learn M s x0) (2 : Int32)))])) (h' := (zt_T L, zt_R, (w_L_total (w_L_learn M s x0) (2 : Int32)), J, e)) (fun _ => rfl)).trans ?_
  refine zl_retI rfl rfl ?_
  rfl
def w_S_bringDeed (M : zMem) (s : Nat) (x0 : Int32) (x1 : Int32) : zMem := (bif (v_S_isPlain M s x0) then M else (w_S_addRow (zz_up (zz_up M (s + 9) (x0).toNatClampNeg (v_jm_min ((M (s + 9) (x0).toNatClampNeg) + x1) (999 : Int32))) (s + 8) (x0).toNatClampNeg ((M (s + 8) (x0).toNatClampNeg) ||| (zsl (1 : Int32) (M (s + 2) (M (s + 4) (x0).toNatClampNeg).toNatClampNeg)))) s x0 (0 : Int32) (M (s + 2) (M (s + 4) (x0).toNatClampNeg).toNatClampNeg)))
def ok_S_bringDeed (M : zMem) (s : Nat) (x0 : Int32) (x1 : Int32) : Prop := (ok_S_isPlain M s x0 ∧ ((v_S_isPlain M s x0) = false → (zz_in x0 6 = true ∧ (zz_in (M (s + 4) (x0).toNatClampNeg) 8 = true ∧ ok_S_addRow (zz_up (zz_up M (s + 9) (x0).toNatClampNeg (v_jm_min ((M (s + 9) (x0).toNatClampNeg) + x1) (999 : Int32))) (s + 8) (x0).toNatClampNeg ((M (s + 8) (x0).toNatClampNeg) ||| (zsl (1 : Int32) (M (s + 2) (M (s + 4) (x0).toNatClampNeg).toNatClampNeg)))) s x0 (0 : Int32) (M (s + 2) (M (s + 4) (x0).toNatClampNeg).toNatClampNeg)))))
set_option maxRecDepth 20000 in
set_option maxHeartbeats 2000000 in
theorem s_S_bringDeed (L e : Nat) (J : zJem) (d : Nat) (M : zMem) (s : Nat) (x0 : Int32) (x1 : Int32) (hs : zt_St s) (k0 : ok_S_bringDeed M s x0 x1) : zz_D (zm_S_bringDeed, d + 3, 0, [some (.ref s), some (.int x0), some (.int x1), none], []) (zt_T L, zt_R, M, J, e) = some (.inl (none), (zt_T L, zt_R, (w_S_bringDeed M s x0 x1), J, e)) := by
  unfold ok_S_bringDeed at k0
  unfold w_S_bringDeed
  refine (zz_go 2 (fr' := (zm_S_bringDeed, d + 3, 2, [some (.ref s), some (.int x0), some (.int x1), none], [.int x0, .ref s])) (h' := (zt_T L, zt_R, M, J, e)) (fun _ => rfl)).trans ?_
  obtain ⟨g1, k2⟩ := k0
  refine zl_vt (d := d + 2) rfl rfl rfl (zt_St0 L hs) rfl rfl rfl rfl rfl rfl (s_S_isPlain L e J (d + 1) M s x0 hs g1) ?_
  show zz_D (zm_S_bringDeed, d + 3, 5, [some (.ref s), some (.int x0), some (.int x1), none], [.int (zb (v_S_isPlain M s x0))]) (zt_T L, zt_R, M, J, e) = _
  rcases zz_bc (v_S_isPlain M s x0) with h3 | h3
  · refine zq_eT rfl h3 ?_
    refine (zz_end 1 (r := (.inl none, (zt_T L, zt_R, M, J, e))) (fun _ => rfl)).trans ?_
    first | (simp only [h3, zk_t, zk_f, zb_t, zb_f]; done) | (simp only [h3, zk_t, zk_f, zb_t, zb_f]; rfl) | rfl
  · refine zq_eF rfl h3 ?_
    have k4 := k2 h3
    refine (zz_go 1 (fr' := (zm_S_bringDeed, d + 3, 10, [some (.ref s), some (.int x0), some (.int x1), none], [.ref s])) (h' := (zt_T L, zt_R, M, J, e)) (fun _ => rfl)).trans ?_
    refine zl_getR rfl (zt_St0 L hs) (zt_StR1 hs) ?_
    refine (zz_go 1 (fr' := (zm_S_bringDeed, d + 3, 14, [some (.ref s), some (.int x0), some (.int x1), none], [.ref s, .ref (s + 2)])) (h' := (zt_T L, zt_R, M, J, e)) (fun _ => rfl)).trans ?_
    refine zl_getR rfl (zt_St0 L hs) (zt_StR3 hs) ?_
    refine (zz_go 1 (fr' := (zm_S_bringDeed, d + 3, 18, [some (.ref s), some (.int x0), some (.int x1), none], [.int x0, .ref (s + 4), .ref (s + 2)])) (h' := (zt_T L, zt_R, M, J, e)) (fun _ => rfl)).trans ?_
    obtain ⟨g5, k6⟩ := k4
    refine zl_iaload rfl (zt_St4 L hs) g5 rfl ?_
    obtain ⟨g7, k8⟩ := k6
    refine zl_iaload rfl (zt_St2 L hs) g7 rfl ?_
    refine (zz_go 2 (fr' := (zm_S_bringDeed, d + 3, 22, [some (.ref s), some (.int x0), some (.int x1), some (.int (M (s + 2) (M (s + 4) (x0).toNatClampNeg).toNatClampNeg))], [.ref s])) (h' := (zt_T L, zt_R, M, J, e)) (fun _ => rfl)).trans ?_
    refine zl_getR rfl (zt_St0 L hs) (zt_StR8 hs) ?_
    refine (zz_go 2 (fr' := (zm_S_bringDeed, d + 3, 27, [some (.ref s), some (.int x0), some (.int x1), some (.int (M (s + 2) (M (s + 4) (x0).toNatClampNeg).toNatClampNeg))], [.ref s, .int x0, .ref (s + 9)])) (h' := (zt_T L, zt_R, M, J, e)) (fun _ => rfl)).trans ?_
    refine zl_getR rfl (zt_St0 L hs) (zt_StR8 hs) ?_
    refine (zz_go 1 (fr' := (zm_S_bringDeed, d + 3, 31, [some (.ref s), some (.int x0), some (.int x1), some (.int (M (s + 2) (M (s + 4) (x0).toNatClampNeg).toNatClampNeg))], [.int x0, .ref (s + 9), .int x0, .ref (s + 9)])) (h' := (zt_T L, zt_R, M, J, e)) (fun _ => rfl)).trans ?_
    refine zl_iaload rfl (zt_St9 L hs) g5 rfl ?_
    refine (zz_go 3 (fr' := (zm_S_bringDeed, d + 3, 37, [some (.ref s), some (.int x0), some (.int x1), some (.int (M (s + 2) (M (s + 4) (x0).toNatClampNeg).toNatClampNeg))], [.int (999 : Int32), .int ((M (s + 9) (x0).toNatClampNeg) + x1), .int x0, .ref (s + 9)])) (h' := (zt_T L, zt_R, M, J, e)) (fun _ => rfl)).trans ?_
    refine zl_st (d := d + 2) rfl rfl rfl rfl rfl rfl rfl (s_jm_min L e J (d + 1) ((M (s + 9) (x0).toNatClampNeg) + x1) (999 : Int32)) ?_
    show zz_D (zm_S_bringDeed, d + 3, 40, [some (.ref s), some (.int x0), some (.int x1), some (.int (M (s + 2) (M (s + 4) (x0).toNatClampNeg).toNatClampNeg))], [.int (v_jm_min ((M (s + 9) (x0).toNatClampNeg) + x1) (999 : Int32)), .int x0, .ref (s + 9)]) (zt_T L, zt_R, M, J, e) = _
    refine zl_iastore rfl (zt_St9 L hs) g5 (zt_Stp hs 9) rfl ?_
    refine (zz_go 1 (fr' := (zm_S_bringDeed, d + 3, 42, [some (.ref s), some (.int x0), some (.int x1), some (.int (M (s + 2) (M (s + 4) (x0).toNatClampNeg).toNatClampNeg))], [.ref s])) (h' := (zt_T L, zt_R, (zz_up M (s + 9) (x0).toNatClampNeg (v_jm_min ((M (s + 9) (x0).toNatClampNeg) + x1) (999 : Int32))), J, e)) (fun _ => rfl)).trans ?_
    refine zl_getR rfl (zt_St0 L hs) (zt_StR7 hs) ?_
    refine (zz_go 2 (fr' := (zm_S_bringDeed, d + 3, 47, [some (.ref s), some (.int x0), some (.int x1), some (.int (M (s + 2) (M (s + 4) (x0).toNatClampNeg).toNatClampNeg))], [.int x0, .ref (s + 8), .int x0, .ref (s + 8)])) (h' := (zt_T L, zt_R, (zz_up M (s + 9) (x0).toNatClampNeg (v_jm_min ((M (s + 9) (x0).toNatClampNeg) + x1) (999 : Int32))), J, e)) (fun _ => rfl)).trans ?_
    refine zl_iaload rfl (zt_St8 L hs) g5 ((zu_ne (zn_off s (a := 8) (b := 9) rfl)).trans rfl) ?_
    refine (zz_go 4 (fr' := (zm_S_bringDeed, d + 3, 52, [some (.ref s), some (.int x0), some (.int x1), some (.int (M (s + 2) (M (s + 4) (x0).toNatClampNeg).toNatClampNeg))], [.int ((M (s + 8) (x0).toNatClampNeg) ||| (zsl (1 : Int32) (M (s + 2) (M (s + 4) (x0).toNatClampNeg).toNatClampNeg))), .int x0, .ref (s + 8)])) (h' := (zt_T L, zt_R, (zz_up M (s + 9) (x0).toNatClampNeg (v_jm_min ((M (s + 9) (x0).toNatClampNeg) + x1) (999 : Int32))), J, e)) (fun _ => rfl)).trans ?_
    refine zl_iastore rfl (zt_St8 L hs) g5 (zt_Stp hs 8) rfl ?_
    refine (zz_go 4 (fr' := (zm_S_bringDeed, d + 3, 57, [some (.ref s), some (.int x0), some (.int x1), some (.int (M (s + 2) (M (s + 4) (x0).toNatClampNeg).toNatClampNeg))], [.int (M (s + 2) (M (s + 4) (x0).toNatClampNeg).toNatClampNeg), .int (0 : Int32), .int x0, .ref s])) (h' := (zt_T L, zt_R, (zz_up (zz_up M (s + 9) (x0).toNatClampNeg (v_jm_min ((M (s + 9) (x0).toNatClampNeg) + x1) (999 : Int32))) (s + 8) (x0).toNatClampNeg ((M (s + 8) (x0).toNatClampNeg) ||| (zsl (1 : Int32) (M (s + 2) (M (s + 4) (x0).toNatClampNeg).toNatClampNeg)))), J, e)) (fun _ => rfl)).trans ?_
    have g9 : ok_S_addRow (zz_up (zz_up M (s + 9) (x0).toNatClampNeg (v_jm_min ((M (s + 9) (x0).toNatClampNeg) + x1) (999 : Int32))) (s + 8) (x0).toNatClampNeg ((M (s + 8) (x0).toNatClampNeg) ||| (zsl (1 : Int32) (M (s + 2) (M (s + 4) (x0).toNatClampNeg).toNatClampNeg)))) s x0 (0 : Int32) (M (s + 2) (M (s + 4) (x0).toNatClampNeg).toNatClampNeg) := k8
    refine zl_vt (d := d + 2) rfl rfl rfl (zt_St0 L hs) rfl rfl rfl rfl rfl rfl (s_S_addRow L e J (d + 0) (zz_up (zz_up M (s + 9) (x0).toNatClampNeg (v_jm_min ((M (s + 9) (x0).toNatClampNeg) + x1) (999 : Int32))) (s + 8) (x0).toNatClampNeg ((M (s + 8) (x0).toNatClampNeg) ||| (zsl (1 : Int32) (M (s + 2) (M (s + 4) (x0).toNatClampNeg).toNatClampNeg)))) s x0 (0 : Int32) (M (s + 2) (M (s + 4) (x0).toNatClampNeg).toNatClampNeg) hs g9) ?_
    show zz_D (zm_S_bringDeed, d + 3, 60, [some (.ref s), some (.int x0), some (.int x1), some (.int (M (s + 2) (M (s + 4) (x0).toNatClampNeg).toNatClampNeg))], []) (zt_T L, zt_R, (w_S_addRow (zz_up (zz_up M (s + 9) (x0).toNatClampNeg (v_jm_min ((M (s + 9) (x0).toNatClampNeg) + x1) (999 : Int32))) (s + 8) (x0).toNatClampNeg ((M (s + 8) (x0).toNatClampNeg) ||| (zsl (1 : Int32) (M (s + 2) (M (s + 4) (x0).toNatClampNeg).toNatClampNeg)))) s x0 (0 : Int32) (M (s + 2) (M (s + 4) (x0).toNatClampNeg).toNatClampNeg)), J, e) = _
    refine (zz_end 1 (r := (.inl none, (zt_T L, zt_R, (w_S_addRow (zz_up (zz_up M (s + 9) (x0).toNatClampNeg (v_jm_min ((M (s + 9) (x0).toNatClampNeg) + x1) (999 : Int32))) (s + 8) (x0).toNatClampNeg ((M (s + 8) (x0).toNatClampNeg) ||| (zsl (1 : Int32) (M (s + 2) (M (s + 4) (x0).toNatClampNeg).toNatClampNeg)))) s x0 (0 : Int32) (M (s + 2) (M (s + 4) (x0).toNatClampNeg).toNatClampNeg)), J, e))) (fun _ => rfl)).trans ?_
    first | (simp only [h3, zk_t, zk_f, zb_t, zb_f]; done) | (simp only [h3, zk_t, zk_f, zb_t, zb_f]; rfl) | rfl
def w_S_shakeOver (M : zMem) (s : Nat) (x0 : Int32) (x1 : Int32) : zMem := (bif (decide (((M (s + 5) (x0).toNatClampNeg) &&& (zsl (1 : Int32) x1)) = 0)) then (w_S_addRow (zz_up M (s + 5) (x0).toNatClampNeg ((M (s + 5) (x0).toNatClampNeg) ||| (zsl (1 : Int32) x1))) s x0 (2 : Int32) x1) else M)
def ok_S_shakeOver (M : zMem) (s : Nat) (x0 : Int32) (x1 : Int32) : Prop := (zz_in x0 6 = true ∧ ((decide (((M (s + 5) (x0).toNatClampNeg) &&& (zsl (1 : Int32) x1)) = 0)) = true → ok_S_addRow (zz_up M (s + 5) (x0).toNatClampNeg ((M (s + 5) (x0).toNatClampNeg) ||| (zsl (1 : Int32) x1))) s x0 (2 : Int32) x1))
set_option maxRecDepth 20000 in
set_option maxHeartbeats 2000000 in
theorem s_S_shakeOver (L e : Nat) (J : zJem) (d : Nat) (M : zMem) (s : Nat) (x0 : Int32) (x1 : Int32) (hs : zt_St s) (k0 : ok_S_shakeOver M s x0 x1) : zz_D (zm_S_shakeOver, d + 3, 0, [some (.ref s), some (.int x0), some (.int x1), none], []) (zt_T L, zt_R, M, J, e) = some (.inl (none), (zt_T L, zt_R, (w_S_shakeOver M s x0 x1), J, e)) := by
  unfold ok_S_shakeOver at k0
  unfold w_S_shakeOver
  refine (zz_go 5 (fr' := (zm_S_shakeOver, d + 3, 5, [some (.ref s), some (.int x0), some (.int x1), some (.int (zsl (1 : Int32) x1))], [.ref s])) (h' := (zt_T L, zt_R, M, J, e)) (fun _ => rfl)).trans ?_
  refine zl_getR rfl (zt_St0 L hs) (zt_StR4 hs) ?_
  refine (zz_go 1 (fr' := (zm_S_shakeOver, d + 3, 9, [some (.ref s), some (.int x0), some (.int x1), some (.int (zsl (1 : Int32) x1))], [.int x0, .ref (s + 5)])) (h' := (zt_T L, zt_R, M, J, e)) (fun _ => rfl)).trans ?_
  obtain ⟨g1, k2⟩ := k0
  refine zl_iaload rfl (zt_St5 L hs) g1 rfl ?_
  refine zz_jn (X := zz_D (zm_S_shakeOver, d + 3, 32, [none, none, none, none], []) (zt_T L, zt_R, (bif (decide (((M (s + 5) (x0).toNatClampNeg) &&& (zsl (1 : Int32) x1)) = 0)) then (w_S_addRow (zz_up M (s + 5) (x0).toNatClampNeg ((M (s + 5) (x0).toNatClampNeg) ||| (zsl (1 : Int32) x1))) s x0 (2 : Int32) x1) else M), J, e)) (fun j3 => ?_) ?_
  · refine (zz_go 2 (fr' := (zm_S_shakeOver, d + 3, 12, [some (.ref s), some (.int x0), some (.int x1), some (.int (zsl (1 : Int32) x1))], [.int ((M (s + 5) (x0).toNatClampNeg) &&& (zsl (1 : Int32) x1))])) (h' := (zt_T L, zt_R, M, J, e)) (fun _ => rfl)).trans ?_
    rcases zz_bc (decide (((M (s + 5) (x0).toNatClampNeg) &&& (zsl (1 : Int32) x1)) = 0)) with h4 | h4
    · refine zo_neT rfl h4 ?_
      have k5 := k2 h4
      refine (zz_go 1 (fr' := (zm_S_shakeOver, d + 3, 16, [some (.ref s), some (.int x0), some (.int x1), some (.int (zsl (1 : Int32) x1))], [.ref s])) (h' := (zt_T L, zt_R, M, J, e)) (fun _ => rfl)).trans ?_
      refine zl_getR rfl (zt_St0 L hs) (zt_StR4 hs) ?_
      refine (zz_go 2 (fr' := (zm_S_shakeOver, d + 3, 21, [some (.ref s), some (.int x0), some (.int x1), some (.int (zsl (1 : Int32) x1))], [.int x0, .ref (s + 5), .int x0, .ref (s + 5)])) (h' := (zt_T L, zt_R, M, J, e)) (fun _ => rfl)).trans ?_
      refine zl_iaload rfl (zt_St5 L hs) g1 rfl ?_
      refine (zz_go 2 (fr' := (zm_S_shakeOver, d + 3, 24, [some (.ref s), some (.int x0), some (.int x1), some (.int (zsl (1 : Int32) x1))], [.int ((M (s + 5) (x0).toNatClampNeg) ||| (zsl (1 : Int32) x1)), .int x0, .ref (s + 5)])) (h' := (zt_T L, zt_R, M, J, e)) (fun _ => rfl)).trans ?_
      refine zl_iastore rfl (zt_St5 L hs) g1 (zt_Stp hs 5) rfl ?_
      refine (zz_go 4 (fr' := (zm_S_shakeOver, d + 3, 29, [some (.ref s), some (.int x0), some (.int x1), some (.int (zsl (1 : Int32) x1))], [.int x1, .int (2 : Int32), .int x0, .ref s])) (h' := (zt_T L, zt_R, (zz_up M (s + 5) (x0).toNatClampNeg ((M (s + 5) (x0).toNatClampNeg) ||| (zsl (1 : Int32) x1))), J, e)) (fun _ => rfl)).trans ?_
      have g6 : ok_S_addRow (zz_up M (s + 5) (x0).toNatClampNeg ((M (s + 5) (x0).toNatClampNeg) ||| (zsl (1 : Int32) x1))) s x0 (2 : Int32) x1 := k5
      refine zl_vt (d := d + 2) rfl rfl rfl (zt_St0 L hs) rfl rfl rfl rfl rfl rfl (s_S_addRow L e J (d + 0) (zz_up M (s + 5) (x0).toNatClampNeg ((M (s + 5) (x0).toNatClampNeg) ||| (zsl (1 : Int32) x1))) s x0 (2 : Int32) x1 hs g6) ?_
      show zz_D (zm_S_shakeOver, d + 3, 32, [some (.ref s), some (.int x0), some (.int x1), some (.int (zsl (1 : Int32) x1))], []) (zt_T L, zt_R, (w_S_addRow (zz_up M (s + 5) (x0).toNatClampNeg ((M (s + 5) (x0).toNatClampNeg) ||| (zsl (1 : Int32) x1))) s x0 (2 : Int32) x1), J, e) = _
      refine zz_weak (L := [none, none, none, none]) ⟨Or.inr ⟨rfl, rfl⟩, Or.inr ⟨rfl, rfl⟩, Or.inr ⟨rfl, rfl⟩, Or.inr ⟨rfl, rfl⟩, trivial⟩ ?_
      simpa only [h4, zk_t, zk_f, zb_t, zb_f] using j3
    · refine zo_neF rfl h4 ?_
      refine zz_weak (L := [none, none, none, none]) ⟨Or.inr ⟨rfl, rfl⟩, Or.inr ⟨rfl, rfl⟩, Or.inr ⟨rfl, rfl⟩, Or.inr ⟨rfl, rfl⟩, trivial⟩ ?_
      simpa only [h4, zk_t, zk_f, zb_t, zb_f] using j3
  refine (zz_end 1 (r := (.inl none, (zt_T L, zt_R, (bif (decide (((M (s + 5) (x0).toNatClampNeg) &&& (zsl (1 : Int32) x1)) = 0)) then (w_S_addRow (zz_up M (s + 5) (x0).toNatClampNeg ((M (s + 5) (x0).toNatClampNeg) ||| (zsl (1 : Int32) x1))) s x0 (2 : Int32) x1) else M), J, e))) (fun _ => rfl)).trans ?_
  rfl
def w_S_endYear (M : zMem) (s : Nat) : zMem := (zz_up M s 12 (v_jm_min ((M s 12) + (1 : Int32)) (9999 : Int32)))
set_option maxRecDepth 20000 in
set_option maxHeartbeats 2000000 in
theorem s_S_endYear (L e : Nat) (J : zJem) (d : Nat) (M : zMem) (s : Nat) (hs : zt_St s) : zz_D (zm_S_endYear, d + 2, 0, [some (.ref s)], []) (zt_T L, zt_R, M, J, e) = some (.inl (none), (zt_T L, zt_R, (w_S_endYear M s), J, e)) := by
  unfold w_S_endYear
  refine (zz_go 2 (fr' := (zm_S_endYear, d + 2, 2, [some (.ref s)], [.ref s, .ref s])) (h' := (zt_T L, zt_R, M, J, e)) (fun _ => rfl)).trans ?_
  refine zl_getI rfl (by decide) (zt_St0 L hs) rfl ?_
  refine (zz_go 3 (fr' := (zm_S_endYear, d + 2, 10, [some (.ref s)], [.int (9999 : Int32), .int ((M s 12) + (1 : Int32)), .ref s])) (h' := (zt_T L, zt_R, M, J, e)) (fun _ => rfl)).trans ?_
  refine zl_st (d := d + 1) rfl rfl rfl rfl rfl rfl rfl (s_jm_min L e J (d + 0) ((M s 12) + (1 : Int32)) (9999 : Int32)) ?_
  show zz_D (zm_S_endYear, d + 2, 13, [some (.ref s)], [.int (v_jm_min ((M s 12) + (1 : Int32)) (9999 : Int32)), .ref s]) (zt_T L, zt_R, M, J, e) = _
  refine zl_putI rfl rfl (zt_St0 L hs) (zt_Stp hs 0) ?_
  refine (zz_end 1 (r := (.inl none, (zt_T L, zt_R, (zz_up M s 12 (v_jm_min ((M s 12) + (1 : Int32)) (9999 : Int32))), J, e))) (fun _ => rfl)).trans ?_
  rfl
def g_S_passYear_1 (M : zMem) (s : Nat) (i1 : Nat) (a1 : Int32 × zMem) : Bool × (Int32 × zMem) := ((bif (decide ((a1.2 s 10) ≤ (Int32.ofNat i1))) then false else true), ((bif (decide ((a1.2 s 10) ≤ (Int32.ofNat i1))) then a1.1 else (bif (v_S_awaitsDeed a1.2 s (Int32.ofNat i1)) then (bif (decide ((v_L_comes (w_S_draw a1.2 s) s (Int32.ofNat i1)) ≤ (zrm (v_S_draw a1.2 s) (100 : Int32)))) then a1.1 else (a1.1 + (1 : Int32))) else a1.1)), (bif (decide ((a1.2 s 10) ≤ (Int32.ofNat i1))) then a1.2 else (bif (v_S_awaitsDeed a1.2 s (Int32.ofNat i1)) then (bif (decide ((v_L_comes (w_S_draw a1.2 s) s (Int32.ofNat i1)) ≤ (zrm (v_S_draw a1.2 s) (100 : Int32)))) then (w_L_comes (w_S_draw a1.2 s) s (Int32.ofNat i1)) else (w_S_bringDeed (w_L_makesKnown (w_L_comes (w_S_draw a1.2 s) s (Int32.ofNat i1)) s (Int32.ofNat i1)) s (Int32.ofNat i1) (v_L_makesKnown (w_L_comes (w_S_draw a1.2 s) s (Int32.ofNat i1)) s (Int32.ofNat i1)))) else a1.2))))
def kb_S_passYear_1 (M : zMem) (s : Nat) (i1 : Nat) (a1 : Int32 × zMem) : Prop := ((decide ((a1.2 s 10) ≤ (Int32.ofNat i1))) = false → (ok_S_awaitsDeed a1.2 s (Int32.ofNat i1) ∧ ((v_S_awaitsDeed a1.2 s (Int32.ofNat i1)) = true → (ok_L_comes (w_S_draw a1.2 s) s (Int32.ofNat i1) ∧ ((decide ((v_L_comes (w_S_draw a1.2 s) s (Int32.ofNat i1)) ≤ (zrm (v_S_draw a1.2 s) (100 : Int32)))) = false → (ok_L_makesKnown (w_L_comes (w_S_draw a1.2 s) s (Int32.ofNat i1)) s (Int32.ofNat i1) ∧ ok_S_bringDeed (w_L_makesKnown (w_L_comes (w_S_draw a1.2 s) s (Int32.ofNat i1)) s (Int32.ofNat i1)) s (Int32.ofNat i1) (v_L_makesKnown (w_L_comes (w_S_draw a1.2 s) s (Int32.ofNat i1)) s (Int32.ofNat i1))))))))
def g_S_passYear_2 (M : zMem) (s : Nat) (i2 : Nat) (a2 : zMem) : Bool × (zMem) := ((bif (decide ((a2 s 10) ≤ (Int32.ofNat i2))) then false else true), (bif (decide ((a2 s 10) ≤ (Int32.ofNat i2))) then a2 else (bif (decide (((w_S_draw a2 s) s 11) ≤ (zrm (v_S_draw a2 s) (100 : Int32)))) then (w_S_draw a2 s) else (w_S_shakeOver (w_S_draw (w_S_draw a2 s) s) s (Int32.ofNat i2) (zrm (v_S_draw (w_S_draw a2 s) s) (16 : Int32))))))
def kb_S_passYear_2 (M : zMem) (s : Nat) (i2 : Nat) (a2 : zMem) : Prop := ((decide ((a2 s 10) ≤ (Int32.ofNat i2))) = false → ((decide (((w_S_draw a2 s) s 11) ≤ (zrm (v_S_draw a2 s) (100 : Int32)))) = false → ok_S_shakeOver (w_S_draw (w_S_draw a2 s) s) s (Int32.ofNat i2) (zrm (v_S_draw (w_S_draw a2 s) s) (16 : Int32))))
def v_S_passYear (M : zMem) (s : Nat) : Int32 := (zf_wh 1000 (g_S_passYear_1 M s) 0 ((0 : Int32), (w_S_growOld M s))).1
def w_S_passYear (M : zMem) (s : Nat) : zMem := (w_S_endYear (zf_wh 1000 (g_S_passYear_2 M s) 0 (zf_wh 1000 (g_S_passYear_1 M s) 0 ((0 : Int32), (w_S_growOld M s))).2) s)
def ok_S_passYear (M : zMem) (s : Nat) : Prop := (ok_S_growOld M s ∧ ((zf_wk 1000 (g_S_passYear_1 M s) (kb_S_passYear_1 M s) 0 ((0 : Int32), (w_S_growOld M s))) ∧ (zf_wk 1000 (g_S_passYear_2 M s) (kb_S_passYear_2 M s) 0 (zf_wh 1000 (g_S_passYear_1 M s) 0 ((0 : Int32), (w_S_growOld M s))).2)))
set_option maxRecDepth 20000 in
set_option maxHeartbeats 2000000 in
theorem s_S_passYear (L e : Nat) (J : zJem) (d : Nat) (M : zMem) (s : Nat) (hs : zt_St s) (k0 : ok_S_passYear M s) : zz_D (zm_S_passYear, d + 6, 0, [some (.ref s), some (.ref 37), none, none], []) (zt_T L, zt_R, M, J, e) = some (.inl (some (.int (v_S_passYear M s))), (zt_T L, zt_R, (w_S_passYear M s), J, e)) := by
  unfold ok_S_passYear at k0
  unfold v_S_passYear w_S_passYear
  refine (zz_go 1 (fr' := (zm_S_passYear, d + 6, 1, [some (.ref s), some (.ref 37), none, none], [.ref s])) (h' := (zt_T L, zt_R, M, J, e)) (fun _ => rfl)).trans ?_
  obtain ⟨g1, k2⟩ := k0
  refine zl_vt (d := d + 5) rfl rfl rfl (zt_St0 L hs) rfl rfl rfl rfl rfl rfl (s_S_growOld L e J (d + 3) M s hs g1) ?_
  show zz_D (zm_S_passYear, d + 6, 4, [some (.ref s), some (.ref 37), none, none], []) (zt_T L, zt_R, (w_S_growOld M s), J, e) = _
  refine (zz_go 4 (fr' := (zm_S_passYear, d + 6, 8, [some (.ref s), some (.ref 37), some (.int (0 : Int32)), some (.int (0 : Int32))], [])) (h' := (zt_T L, zt_R, (w_S_growOld M s), J, e)) (fun _ => rfl)).trans ?_
  obtain ⟨k3, k4⟩ := k2
  refine zf_whY (X := fun (i1 : Nat) (a1 : Int32 × zMem) => zz_D (zm_S_passYear, d + 6, 8, [some (.ref s), some (.ref 37), some (.int a1.1), some (.int (Int32.ofNat i1))], []) (zt_T L, zt_R, a1.2, J, e)) (Y := fun (a1 : Int32 × zMem) => zz_D (zm_S_passYear, d + 6, 60, [some (.ref s), none, some (.int a1.1), none], []) (zt_T L, zt_R, a1.2, J, e)) (g := (g_S_passYear_1 M s)) (k := (kb_S_passYear_1 M s)) (fun i1 a1 k7 hx5 hx6 => ?_) 1000 0 ((0 : Int32), (w_S_growOld M s)) k3 ?_
  · show zz_D (zm_S_passYear, d + 6, 8, [some (.ref s), some (.ref 37), some (.int a1.1), some (.int (Int32.ofNat i1))], []) (zt_T L, zt_R, a1.2, J, e) = _
    unfold kb_S_passYear_1 at k7
    refine (zz_go 2 (fr' := (zm_S_passYear, d + 6, 10, [some (.ref s), some (.ref 37), some (.int a1.1), some (.int (Int32.ofNat i1))], [.ref s, .int (Int32.ofNat i1)])) (h' := (zt_T L, zt_R, a1.2, J, e)) (fun _ => rfl)).trans ?_
    refine zl_getI rfl (by decide) (zt_St0 L hs) rfl ?_
    rcases zz_bc (decide ((a1.2 s 10) ≤ (Int32.ofNat i1))) with h8 | h8
    · refine zc_geT rfl h8 ?_
      refine zz_weak (L := [some (.ref s), none, some (.int a1.1), none]) ⟨Or.inl rfl, Or.inr ⟨rfl, rfl⟩, Or.inl rfl, Or.inr ⟨rfl, rfl⟩, trivial⟩ ?_
      have y1 := hx6 (by simp only [g_S_passYear_1, h8, zk_t, zk_f, zb_t, zb_f])
      simpa only [g_S_passYear_1, h8, zk_t, zk_f, zb_t, zb_f] using y1
    · refine zc_geF rfl h8 ?_
      have k9 := k7 h8
      refine (zz_go 2 (fr' := (zm_S_passYear, d + 6, 18, [some (.ref s), some (.ref 37), some (.int a1.1), some (.int (Int32.ofNat i1))], [.int (Int32.ofNat i1), .ref s])) (h' := (zt_T L, zt_R, a1.2, J, e)) (fun _ => rfl)).trans ?_
      obtain ⟨g10, k11⟩ := k9
      refine zl_vt (d := d + 5) rfl rfl rfl (zt_St0 L hs) rfl rfl rfl rfl rfl rfl (s_S_awaitsDeed L e J (d + 1) a1.2 s (Int32.ofNat i1) hs g10) ?_
      show zz_D (zm_S_passYear, d + 6, 21, [some (.ref s), some (.ref 37), some (.int a1.1), some (.int (Int32.ofNat i1))], [.int (zb (v_S_awaitsDeed a1.2 s (Int32.ofNat i1)))]) (zt_T L, zt_R, a1.2, J, e) = _
      refine zz_jn (X := zz_D (zm_S_passYear, d + 6, 54, [some (.ref s), some (.ref 37), some (.int (bif (v_S_awaitsDeed a1.2 s (Int32.ofNat i1)) then (bif (decide ((v_L_comes (w_S_draw a1.2 s) s (Int32.ofNat i1)) ≤ (zrm (v_S_draw a1.2 s) (100 : Int32)))) then a1.1 else (a1.1 + (1 : Int32))) else a1.1)), some (.int (Int32.ofNat i1))], []) (zt_T L, zt_R, (bif (v_S_awaitsDeed a1.2 s (Int32.ofNat i1)) then (bif (decide ((v_L_comes (w_S_draw a1.2 s) s (Int32.ofNat i1)) ≤ (zrm (v_S_draw a1.2 s) (100 : Int32)))) then (w_L_comes (w_S_draw a1.2 s) s (Int32.ofNat i1)) else (w_S_bringDeed (w_L_makesKnown (w_L_comes (w_S_draw a1.2 s) s (Int32.ofNat i1)) s (Int32.ofNat i1)) s (Int32.ofNat i1) (v_L_makesKnown (w_L_comes (w_S_draw a1.2 s) s (Int32.ofNat i1)) s (Int32.ofNat i1)))) else a1.2), J, e)) (fun j12 => ?_) ?_
      · rcases zz_bc (v_S_awaitsDeed a1.2 s (Int32.ofNat i1)) with h13 | h13
        · refine zq_eT rfl h13 ?_
          have k14 := k11 h13
          refine (zz_go 1 (fr' := (zm_S_passYear, d + 6, 25, [some (.ref s), some (.ref 37), some (.int a1.1), some (.int (Int32.ofNat i1))], [.ref s])) (h' := (zt_T L, zt_R, a1.2, J, e)) (fun _ => rfl)).trans ?_
          refine zl_vt (d := d + 5) rfl rfl rfl (zt_St0 L hs) rfl rfl rfl rfl rfl rfl (s_S_draw L e J (d + 4) a1.2 s hs) ?_
          show zz_D (zm_S_passYear, d + 6, 28, [some (.ref s), some (.ref 37), some (.int a1.1), some (.int (Int32.ofNat i1))], [.int (v_S_draw a1.2 s)]) (zt_T L, zt_R, (w_S_draw a1.2 s), J, e) = _
          refine (zz_go 1 (fr' := (zm_S_passYear, d + 6, 30, [some (.ref s), some (.ref 37), some (.int a1.1), some (.int (Int32.ofNat i1))], [.int (100 : Int32), .int (v_S_draw a1.2 s)])) (h' := (zt_T L, zt_R, (w_S_draw a1.2 s), J, e)) (fun _ => rfl)).trans ?_
          refine zl_rem rfl (by decide) ?_
          refine (zz_go 3 (fr' := (zm_S_passYear, d + 6, 34, [some (.ref s), some (.ref 37), some (.int a1.1), some (.int (Int32.ofNat i1))], [.int (Int32.ofNat i1), .ref s, .ref 37, .int (zrm (v_S_draw a1.2 s) (100 : Int32))])) (h' := (zt_T L, zt_R, (w_S_draw a1.2 s), J, e)) (fun _ => rfl)).trans ?_
          obtain ⟨g15, k16⟩ := k14
          refine zl_vt (d := d + 5) rfl rfl rfl rfl rfl rfl rfl rfl rfl rfl (s_L_comes L e J (d + 0) (w_S_draw a1.2 s) s (Int32.ofNat i1) hs g15) ?_
          show zz_D (zm_S_passYear, d + 6, 37, [some (.ref s), some (.ref 37), some (.int a1.1), some (.int (Int32.ofNat i1))], [.int (v_L_comes (w_S_draw a1.2 s) s (Int32.ofNat i1)), .int (zrm (v_S_draw a1.2 s) (100 : Int32))]) (zt_T L, zt_R, (w_L_comes (w_S_draw a1.2 s) s (Int32.ofNat i1)), J, e) = _
          refine zz_jn (X := zz_D (zm_S_passYear, d + 6, 54, [some (.ref s), some (.ref 37), some (.int (bif (decide ((v_L_comes (w_S_draw a1.2 s) s (Int32.ofNat i1)) ≤ (zrm (v_S_draw a1.2 s) (100 : Int32)))) then a1.1 else (a1.1 + (1 : Int32)))), some (.int (Int32.ofNat i1))], []) (zt_T L, zt_R, (bif (decide ((v_L_comes (w_S_draw a1.2 s) s (Int32.ofNat i1)) ≤ (zrm (v_S_draw a1.2 s) (100 : Int32)))) then (w_L_comes (w_S_draw a1.2 s) s (Int32.ofNat i1)) else (w_S_bringDeed (w_L_makesKnown (w_L_comes (w_S_draw a1.2 s) s (Int32.ofNat i1)) s (Int32.ofNat i1)) s (Int32.ofNat i1) (v_L_makesKnown (w_L_comes (w_S_draw a1.2 s) s (Int32.ofNat i1)) s (Int32.ofNat i1)))), J, e)) (fun j17 => ?_) ?_
          · rcases zz_bc (decide ((v_L_comes (w_S_draw a1.2 s) s (Int32.ofNat i1)) ≤ (zrm (v_S_draw a1.2 s) (100 : Int32)))) with h18 | h18
            · refine zc_geT rfl h18 ?_
              simpa only [h18, zk_t, zk_f, zb_t, zb_f] using j17
            · refine zc_geF rfl h18 ?_
              have k19 := k16 h18
              refine (zz_go 5 (fr' := (zm_S_passYear, d + 6, 45, [some (.ref s), some (.ref 37), some (.int a1.1), some (.int (Int32.ofNat i1))], [.int (Int32.ofNat i1), .ref s, .ref 37, .int (Int32.ofNat i1), .ref s])) (h' := (zt_T L, zt_R, (w_L_comes (w_S_draw a1.2 s) s (Int32.ofNat i1)), J, e)) (fun _ => rfl)).trans ?_
              obtain ⟨g20, k21⟩ := k19
              refine zl_vt (d := d + 5) rfl rfl rfl rfl rfl rfl rfl rfl rfl rfl (s_L_makesKnown L e J (d + 0) (w_L_comes (w_S_draw a1.2 s) s (Int32.ofNat i1)) s (Int32.ofNat i1) hs g20) ?_
              show zz_D (zm_S_passYear, d + 6, 48, [some (.ref s), some (.ref 37), some (.int a1.1), some (.int (Int32.ofNat i1))], [.int (v_L_makesKnown (w_L_comes (w_S_draw a1.2 s) s (Int32.ofNat i1)) s (Int32.ofNat i1)), .int (Int32.ofNat i1), .ref s]) (zt_T L, zt_R, (w_L_makesKnown (w_L_comes (w_S_draw a1.2 s) s (Int32.ofNat i1)) s (Int32.ofNat i1)), J, e) = _
              have g22 : ok_S_bringDeed (w_L_makesKnown (w_L_comes (w_S_draw a1.2 s) s (Int32.ofNat i1)) s (Int32.ofNat i1)) s (Int32.ofNat i1) (v_L_makesKnown (w_L_comes (w_S_draw a1.2 s) s (Int32.ofNat i1)) s (Int32.ofNat i1)) := k21
              refine zl_vt (d := d + 5) rfl rfl rfl (zt_St0 L hs) rfl rfl rfl rfl rfl rfl (s_S_bringDeed L e J (d + 2) (w_L_makesKnown (w_L_comes (w_S_draw a1.2 s) s (Int32.ofNat i1)) s (Int32.ofNat i1)) s (Int32.ofNat i1) (v_L_makesKnown (w_L_comes (w_S_draw a1.2 s) s (Int32.ofNat i1)) s (Int32.ofNat i1)) hs g22) ?_
              show zz_D (zm_S_passYear, d + 6, 51, [some (.ref s), some (.ref 37), some (.int a1.1), some (.int (Int32.ofNat i1))], []) (zt_T L, zt_R, (w_S_bringDeed (w_L_makesKnown (w_L_comes (w_S_draw a1.2 s) s (Int32.ofNat i1)) s (Int32.ofNat i1)) s (Int32.ofNat i1) (v_L_makesKnown (w_L_comes (w_S_draw a1.2 s) s (Int32.ofNat i1)) s (Int32.ofNat i1))), J, e) = _
              refine (zz_go 1 (fr' := (zm_S_passYear, d + 6, 54, [some (.ref s), some (.ref 37), some (.int (a1.1 + (1 : Int32))), some (.int (Int32.ofNat i1))], [])) (h' := (zt_T L, zt_R, (w_S_bringDeed (w_L_makesKnown (w_L_comes (w_S_draw a1.2 s) s (Int32.ofNat i1)) s (Int32.ofNat i1)) s (Int32.ofNat i1) (v_L_makesKnown (w_L_comes (w_S_draw a1.2 s) s (Int32.ofNat i1)) s (Int32.ofNat i1))), J, e)) (fun _ => rfl)).trans ?_
              simpa only [h18, zk_t, zk_f, zb_t, zb_f] using j17
          simpa only [h13, zk_t, zk_f, zb_t, zb_f] using j12
        · refine zq_eF rfl h13 ?_
          simpa only [h13, zk_t, zk_f, zb_t, zb_f] using j12
      refine (zz_go 2 (fr' := (zm_S_passYear, d + 6, 8, [some (.ref s), some (.ref 37), some (.int (bif (v_S_awaitsDeed a1.2 s (Int32.ofNat i1)) then (bif (decide ((v_L_comes (w_S_draw a1.2 s) s (Int32.ofNat i1)) ≤ (zrm (v_S_draw a1.2 s) (100 : Int32)))) then a1.1 else (a1.1 + (1 : Int32))) else a1.1)), some (.int (Int32.ofNat i1 + 1))], [])) (h' := (zt_T L, zt_R, (bif (v_S_awaitsDeed a1.2 s (Int32.ofNat i1)) then (bif (decide ((v_L_comes (w_S_draw a1.2 s) s (Int32.ofNat i1)) ≤ (zrm (v_S_draw a1.2 s) (100 : Int32)))) then (w_L_comes (w_S_draw a1.2 s) s (Int32.ofNat i1)) else (w_S_bringDeed (w_L_makesKnown (w_L_comes (w_S_draw a1.2 s) s (Int32.ofNat i1)) s (Int32.ofNat i1)) s (Int32.ofNat i1) (v_L_makesKnown (w_L_comes (w_S_draw a1.2 s) s (Int32.ofNat i1)) s (Int32.ofNat i1)))) else a1.2), J, e)) (fun _ => rfl)).trans ?_
      rw [zi_succ i1]
      have y1 := hx5 (by simp only [g_S_passYear_1, h8, zk_t, zk_f, zb_t, zb_f])
      simpa only [g_S_passYear_1, h8, zk_t, zk_f, zb_t, zb_f] using y1
  show zz_D (zm_S_passYear, d + 6, 60, [some (.ref s), none, some (.int (zf_wh 1000 (g_S_passYear_1 M s) 0 ((0 : Int32), (w_S_growOld M s))).1), none], []) (zt_T L, zt_R, (zf_wh 1000 (g_S_passYear_1 M s) 0 ((0 : Int32), (w_S_growOld M s))).2, J, e) = _
  refine (zz_go 2 (fr' := (zm_S_passYear, d + 6, 62, [some (.ref s), none, some (.int (zf_wh 1000 (g_S_passYear_1 M s) 0 ((0 : Int32), (w_S_growOld M s))).1), some (.int (0 : Int32))], [])) (h' := (zt_T L, zt_R, (zf_wh 1000 (g_S_passYear_1 M s) 0 ((0 : Int32), (w_S_growOld M s))).2, J, e)) (fun _ => rfl)).trans ?_
  refine zf_whY (X := fun (i2 : Nat) (a2 : zMem) => zz_D (zm_S_passYear, d + 6, 62, [some (.ref s), none, some (.int (zf_wh 1000 (g_S_passYear_1 M s) 0 ((0 : Int32), (w_S_growOld M s))).1), some (.int (Int32.ofNat i2))], []) (zt_T L, zt_R, a2, J, e)) (Y := fun (a2 : zMem) => zz_D (zm_S_passYear, d + 6, 102, [some (.ref s), none, some (.int (zf_wh 1000 (g_S_passYear_1 M s) 0 ((0 : Int32), (w_S_growOld M s))).1), none], []) (zt_T L, zt_R, a2, J, e)) (g := (g_S_passYear_2 M s)) (k := (kb_S_passYear_2 M s)) (fun i2 a2 k25 hx23 hx24 => ?_) 1000 0 (zf_wh 1000 (g_S_passYear_1 M s) 0 ((0 : Int32), (w_S_growOld M s))).2 k4 ?_
  · show zz_D (zm_S_passYear, d + 6, 62, [some (.ref s), none, some (.int (zf_wh 1000 (g_S_passYear_1 M s) 0 ((0 : Int32), (w_S_growOld M s))).1), some (.int (Int32.ofNat i2))], []) (zt_T L, zt_R, a2, J, e) = _
    unfold kb_S_passYear_2 at k25
    refine (zz_go 2 (fr' := (zm_S_passYear, d + 6, 64, [some (.ref s), none, some (.int (zf_wh 1000 (g_S_passYear_1 M s) 0 ((0 : Int32), (w_S_growOld M s))).1), some (.int (Int32.ofNat i2))], [.ref s, .int (Int32.ofNat i2)])) (h' := (zt_T L, zt_R, a2, J, e)) (fun _ => rfl)).trans ?_
    refine zl_getI rfl (by decide) (zt_St0 L hs) rfl ?_
    rcases zz_bc (decide ((a2 s 10) ≤ (Int32.ofNat i2))) with h26 | h26
    · refine zc_geT rfl h26 ?_
      refine zz_weak (L := [some (.ref s), none, some (.int (zf_wh 1000 (g_S_passYear_1 M s) 0 ((0 : Int32), (w_S_growOld M s))).1), none]) ⟨Or.inl rfl, Or.inl rfl, Or.inl rfl, Or.inr ⟨rfl, rfl⟩, trivial⟩ ?_
      have y1 := hx24 (by simp only [g_S_passYear_2, h26, zk_t, zk_f, zb_t, zb_f])
      simpa only [g_S_passYear_2, h26, zk_t, zk_f, zb_t, zb_f] using y1
    · refine zc_geF rfl h26 ?_
      have k27 := k25 h26
      refine (zz_go 1 (fr' := (zm_S_passYear, d + 6, 71, [some (.ref s), none, some (.int (zf_wh 1000 (g_S_passYear_1 M s) 0 ((0 : Int32), (w_S_growOld M s))).1), some (.int (Int32.ofNat i2))], [.ref s])) (h' := (zt_T L, zt_R, a2, J, e)) (fun _ => rfl)).trans ?_
      refine zl_vt (d := d + 5) rfl rfl rfl (zt_St0 L hs) rfl rfl rfl rfl rfl rfl (s_S_draw L e J (d + 4) a2 s hs) ?_
      show zz_D (zm_S_passYear, d + 6, 74, [some (.ref s), none, some (.int (zf_wh 1000 (g_S_passYear_1 M s) 0 ((0 : Int32), (w_S_growOld M s))).1), some (.int (Int32.ofNat i2))], [.int (v_S_draw a2 s)]) (zt_T L, zt_R, (w_S_draw a2 s), J, e) = _
      refine (zz_go 1 (fr' := (zm_S_passYear, d + 6, 76, [some (.ref s), none, some (.int (zf_wh 1000 (g_S_passYear_1 M s) 0 ((0 : Int32), (w_S_growOld M s))).1), some (.int (Int32.ofNat i2))], [.int (100 : Int32), .int (v_S_draw a2 s)])) (h' := (zt_T L, zt_R, (w_S_draw a2 s), J, e)) (fun _ => rfl)).trans ?_
      refine zl_rem rfl (by decide) ?_
      refine (zz_go 1 (fr' := (zm_S_passYear, d + 6, 78, [some (.ref s), none, some (.int (zf_wh 1000 (g_S_passYear_1 M s) 0 ((0 : Int32), (w_S_growOld M s))).1), some (.int (Int32.ofNat i2))], [.ref s, .int (zrm (v_S_draw a2 s) (100 : Int32))])) (h' := (zt_T L, zt_R, (w_S_draw a2 s), J, e)) (fun _ => rfl)).trans ?_
      refine zl_getI rfl (by decide) (zt_St0 L hs) rfl ?_
      refine zz_jn (X := zz_D (zm_S_passYear, d + 6, 96, [some (.ref s), none, some (.int (zf_wh 1000 (g_S_passYear_1 M s) 0 ((0 : Int32), (w_S_growOld M s))).1), some (.int (Int32.ofNat i2))], []) (zt_T L, zt_R, (bif (decide (((w_S_draw a2 s) s 11) ≤ (zrm (v_S_draw a2 s) (100 : Int32)))) then (w_S_draw a2 s) else (w_S_shakeOver (w_S_draw (w_S_draw a2 s) s) s (Int32.ofNat i2) (zrm (v_S_draw (w_S_draw a2 s) s) (16 : Int32)))), J, e)) (fun j28 => ?_) ?_
      · rcases zz_bc (decide (((w_S_draw a2 s) s 11) ≤ (zrm (v_S_draw a2 s) (100 : Int32)))) with h29 | h29
        · refine zc_geT rfl h29 ?_
          simpa only [h29, zk_t, zk_f, zb_t, zb_f] using j28
        · refine zc_geF rfl h29 ?_
          have k30 := k27 h29
          refine (zz_go 3 (fr' := (zm_S_passYear, d + 6, 87, [some (.ref s), none, some (.int (zf_wh 1000 (g_S_passYear_1 M s) 0 ((0 : Int32), (w_S_growOld M s))).1), some (.int (Int32.ofNat i2))], [.ref s, .int (Int32.ofNat i2), .ref s])) (h' := (zt_T L, zt_R, (w_S_draw a2 s), J, e)) (fun _ => rfl)).trans ?_
          refine zl_vt (d := d + 5) rfl rfl rfl (zt_St0 L hs) rfl rfl rfl rfl rfl rfl (s_S_draw L e J (d + 4) (w_S_draw a2 s) s hs) ?_
          show zz_D (zm_S_passYear, d + 6, 90, [some (.ref s), none, some (.int (zf_wh 1000 (g_S_passYear_1 M s) 0 ((0 : Int32), (w_S_growOld M s))).1), some (.int (Int32.ofNat i2))], [.int (v_S_draw (w_S_draw a2 s) s), .int (Int32.ofNat i2), .ref s]) (zt_T L, zt_R, (w_S_draw (w_S_draw a2 s) s), J, e) = _
          refine (zz_go 1 (fr' := (zm_S_passYear, d + 6, 92, [some (.ref s), none, some (.int (zf_wh 1000 (g_S_passYear_1 M s) 0 ((0 : Int32), (w_S_growOld M s))).1), some (.int (Int32.ofNat i2))], [.int (16 : Int32), .int (v_S_draw (w_S_draw a2 s) s), .int (Int32.ofNat i2), .ref s])) (h' := (zt_T L, zt_R, (w_S_draw (w_S_draw a2 s) s), J, e)) (fun _ => rfl)).trans ?_
          refine zl_rem rfl (by decide) ?_
          have g31 : ok_S_shakeOver (w_S_draw (w_S_draw a2 s) s) s (Int32.ofNat i2) (zrm (v_S_draw (w_S_draw a2 s) s) (16 : Int32)) := k30
          refine zl_vt (d := d + 5) rfl rfl rfl (zt_St0 L hs) rfl rfl rfl rfl rfl rfl (s_S_shakeOver L e J (d + 2) (w_S_draw (w_S_draw a2 s) s) s (Int32.ofNat i2) (zrm (v_S_draw (w_S_draw a2 s) s) (16 : Int32)) hs g31) ?_
          show zz_D (zm_S_passYear, d + 6, 96, [some (.ref s), none, some (.int (zf_wh 1000 (g_S_passYear_1 M s) 0 ((0 : Int32), (w_S_growOld M s))).1), some (.int (Int32.ofNat i2))], []) (zt_T L, zt_R, (w_S_shakeOver (w_S_draw (w_S_draw a2 s) s) s (Int32.ofNat i2) (zrm (v_S_draw (w_S_draw a2 s) s) (16 : Int32))), J, e) = _
          simpa only [h29, zk_t, zk_f, zb_t, zb_f] using j28
      refine (zz_go 2 (fr' := (zm_S_passYear, d + 6, 62, [some (.ref s), none, some (.int (zf_wh 1000 (g_S_passYear_1 M s) 0 ((0 : Int32), (w_S_growOld M s))).1), some (.int (Int32.ofNat i2 + 1))], [])) (h' := (zt_T L, zt_R, (bif (decide (((w_S_draw a2 s) s 11) ≤ (zrm (v_S_draw a2 s) (100 : Int32)))) then (w_S_draw a2 s) else (w_S_shakeOver (w_S_draw (w_S_draw a2 s) s) s (Int32.ofNat i2) (zrm (v_S_draw (w_S_draw a2 s) s) (16 : Int32)))), J, e)) (fun _ => rfl)).trans ?_
      rw [zi_succ i2]
      have y1 := hx23 (by simp only [g_S_passYear_2, h26, zk_t, zk_f, zb_t, zb_f])
      simpa only [g_S_passYear_2, h26, zk_t, zk_f, zb_t, zb_f] using y1
  show zz_D (zm_S_passYear, d + 6, 102, [some (.ref s), none, some (.int (zf_wh 1000 (g_S_passYear_1 M s) 0 ((0 : Int32), (w_S_growOld M s))).1), none], []) (zt_T L, zt_R, (zf_wh 1000 (g_S_passYear_2 M s) 0 (zf_wh 1000 (g_S_passYear_1 M s) 0 ((0 : Int32), (w_S_growOld M s))).2), J, e) = _
  refine (zz_go 1 (fr' := (zm_S_passYear, d + 6, 103, [some (.ref s), none, some (.int (zf_wh 1000 (g_S_passYear_1 M s) 0 ((0 : Int32), (w_S_growOld M s))).1), none], [.ref s])) (h' := (zt_T L, zt_R, (zf_wh 1000 (g_S_passYear_2 M s) 0 (zf_wh 1000 (g_S_passYear_1 M s) 0 ((0 : Int32), (w_S_growOld M s))).2), J, e)) (fun _ => rfl)).trans ?_
  refine zl_vt (d := d + 5) rfl rfl rfl (zt_St0 L hs) rfl rfl rfl rfl rfl rfl (s_S_endYear L e J (d + 3) (zf_wh 1000 (g_S_passYear_2 M s) 0 (zf_wh 1000 (g_S_passYear_1 M s) 0 ((0 : Int32), (w_S_growOld M s))).2) s hs) ?_
  show zz_D (zm_S_passYear, d + 6, 106, [some (.ref s), none, some (.int (zf_wh 1000 (g_S_passYear_1 M s) 0 ((0 : Int32), (w_S_growOld M s))).1), none], []) (zt_T L, zt_R, (w_S_endYear (zf_wh 1000 (g_S_passYear_2 M s) 0 (zf_wh 1000 (g_S_passYear_1 M s) 0 ((0 : Int32), (w_S_growOld M s))).2) s), J, e) = _
  refine (zz_go 1 (fr' := (zm_S_passYear, d + 6, 107, [some (.ref s), none, some (.int (zf_wh 1000 (g_S_passYear_1 M s) 0 ((0 : Int32), (w_S_growOld M s))).1), none], [.int (zf_wh 1000 (g_S_passYear_1 M s) 0 ((0 : Int32), (w_S_growOld M s))).1])) (h' := (zt_T L, zt_R, (w_S_endYear (zf_wh 1000 (g_S_passYear_2 M s) 0 (zf_wh 1000 (g_S_passYear_1 M s) 0 ((0 : Int32), (w_S_growOld M s))).2) s), J, e)) (fun _ => rfl)).trans ?_
  refine zl_retI rfl rfl ?_
  rfl
