/-! LIFTED: jm_max jm_min ji_bitCount jl_bitCount F_grown F_spread F_pieces F_largestPiece F_holes F_steps F_turnedOnce F_quarterTurns F_lyingOn F_bestShift E_allWithin E_depth E_comesBack E_deepestKind T_size T_put T_cut T_useUp T_byteAt T_moveTo T_open T_wrongByte T_fail T_takeSign T_needSign T_takeLine T_runEnd T_takeWord T_needWord T_atNumber T_takeNumber T_takeKind T_takeFigures U_narrowed U_fittingRows U_fittingKinds U_first U_greatestPart U_bestQuestion S_copyFrom S_addPerson S_isPlain -/
def v_jm_max (x0 : Int32) (x1 : Int32) : Int32 := (bif (decide (x0 < x1)) then x1 else x0)
set_option maxRecDepth 20000 in
set_option maxHeartbeats 2000000 in
theorem s_jm_max (L e : Nat) (J : zJem) (d : Nat) {M : zMem} (x0 : Int32) (x1 : Int32) : zz_D (zm_jm_max, d + 1, 0, [some (.int x0), some (.int x1)], []) (zt_T L, zt_R, M, J, e) = some (.inl (some (.int (v_jm_max x0 x1))), (zt_T L, zt_R, M, J, e)) := by
  unfold v_jm_max
  refine zz_jn (X := zz_D (zm_jm_max, d + 1, 10, [none, none], [.int (bif (decide (x0 < x1)) then x1 else x0)]) (zt_T L, zt_R, M, J, e)) (fun j1 => ?_) ?_
  · refine (zz_go 2 (fr' := (zm_jm_max, d + 1, 2, [some (.int x0), some (.int x1)], [.int x1, .int x0])) (h' := (zt_T L, zt_R, M, J, e)) (fun _ => rfl)).trans ?_
    rcases zz_bc (decide (x0 < x1)) with h2 | h2
    · refine zc_ltT rfl h2 ?_
      refine (zz_go 1 (fr' := (zm_jm_max, d + 1, 10, [some (.int x0), some (.int x1)], [.int x1])) (h' := (zt_T L, zt_R, M, J, e)) (fun _ => rfl)).trans ?_
      refine zz_weak (L := [none, none]) ⟨Or.inr ⟨rfl, rfl⟩, Or.inr ⟨rfl, rfl⟩, trivial⟩ ?_
      simpa only [h2, zk_t, zk_f, zb_t, zb_f] using j1
    · refine zc_ltF rfl h2 ?_
      refine (zz_go 2 (fr' := (zm_jm_max, d + 1, 10, [some (.int x0), some (.int x1)], [.int x0])) (h' := (zt_T L, zt_R, M, J, e)) (fun _ => rfl)).trans ?_
      refine zz_weak (L := [none, none]) ⟨Or.inr ⟨rfl, rfl⟩, Or.inr ⟨rfl, rfl⟩, trivial⟩ ?_
      simpa only [h2, zk_t, zk_f, zb_t, zb_f] using j1
  refine zl_retI rfl rfl ?_
  rfl
def v_jm_min (x0 : Int32) (x1 : Int32) : Int32 := (bif (decide (x1 < x0)) then x1 else x0)
set_option maxRecDepth 20000 in
set_option maxHeartbeats 2000000 in
theorem s_jm_min (L e : Nat) (J : zJem) (d : Nat) {M : zMem} (x0 : Int32) (x1 : Int32) : zz_D (zm_jm_min, d + 1, 0, [some (.int x0), some (.int x1)], []) (zt_T L, zt_R, M, J, e) = some (.inl (some (.int (v_jm_min x0 x1))), (zt_T L, zt_R, M, J, e)) := by
  unfold v_jm_min
  refine zz_jn (X := zz_D (zm_jm_min, d + 1, 10, [none, none], [.int (bif (decide (x1 < x0)) then x1 else x0)]) (zt_T L, zt_R, M, J, e)) (fun j1 => ?_) ?_
  · refine (zz_go 2 (fr' := (zm_jm_min, d + 1, 2, [some (.int x0), some (.int x1)], [.int x1, .int x0])) (h' := (zt_T L, zt_R, M, J, e)) (fun _ => rfl)).trans ?_
    rcases zz_bc (decide (x1 < x0)) with h2 | h2
    · refine zc_gtT rfl h2 ?_
      refine (zz_go 1 (fr' := (zm_jm_min, d + 1, 10, [some (.int x0), some (.int x1)], [.int x1])) (h' := (zt_T L, zt_R, M, J, e)) (fun _ => rfl)).trans ?_
      refine zz_weak (L := [none, none]) ⟨Or.inr ⟨rfl, rfl⟩, Or.inr ⟨rfl, rfl⟩, trivial⟩ ?_
      simpa only [h2, zk_t, zk_f, zb_t, zb_f] using j1
    · refine zc_gtF rfl h2 ?_
      refine (zz_go 2 (fr' := (zm_jm_min, d + 1, 10, [some (.int x0), some (.int x1)], [.int x0])) (h' := (zt_T L, zt_R, M, J, e)) (fun _ => rfl)).trans ?_
      refine zz_weak (L := [none, none]) ⟨Or.inr ⟨rfl, rfl⟩, Or.inr ⟨rfl, rfl⟩, trivial⟩ ?_
      simpa only [h2, zk_t, zk_f, zb_t, zb_f] using j1
  refine zl_retI rfl rfl ?_
  rfl
def v_ji_bitCount (x0 : Int32) : Int32 := ((((((((x0 - ((zus x0 (1 : Int32)) &&& (1431655765 : Int32))) &&& (858993459 : Int32)) + ((zus (x0 - ((zus x0 (1 : Int32)) &&& (1431655765 : Int32))) (2 : Int32)) &&& (858993459 : Int32))) + (zus (((x0 - ((zus x0 (1 : Int32)) &&& (1431655765 : Int32))) &&& (858993459 : Int32)) + ((zus (x0 - ((zus x0 (1 : Int32)) &&& (1431655765 : Int32))) (2 : Int32)) &&& (858993459 : Int32))) (4 : Int32))) &&& (252645135 : Int32)) + (zus (((((x0 - ((zus x0 (1 : Int32)) &&& (1431655765 : Int32))) &&& (858993459 : Int32)) + ((zus (x0 - ((zus x0 (1 : Int32)) &&& (1431655765 : Int32))) (2 : Int32)) &&& (858993459 : Int32))) + (zus (((x0 - ((zus x0 (1 : Int32)) &&& (1431655765 : Int32))) &&& (858993459 : Int32)) + ((zus (x0 - ((zus x0 (1 : Int32)) &&& (1431655765 : Int32))) (2 : Int32)) &&& (858993459 : Int32))) (4 : Int32))) &&& (252645135 : Int32)) (8 : Int32))) + (zus ((((((x0 - ((zus x0 (1 : Int32)) &&& (1431655765 : Int32))) &&& (858993459 : Int32)) + ((zus (x0 - ((zus x0 (1 : Int32)) &&& (1431655765 : Int32))) (2 : Int32)) &&& (858993459 : Int32))) + (zus (((x0 - ((zus x0 (1 : Int32)) &&& (1431655765 : Int32))) &&& (858993459 : Int32)) + ((zus (x0 - ((zus x0 (1 : Int32)) &&& (1431655765 : Int32))) (2 : Int32)) &&& (858993459 : Int32))) (4 : Int32))) &&& (252645135 : Int32)) + (zus (((((x0 - ((zus x0 (1 : Int32)) &&& (1431655765 : Int32))) &&& (858993459 : Int32)) + ((zus (x0 - ((zus x0 (1 : Int32)) &&& (1431655765 : Int32))) (2 : Int32)) &&& (858993459 : Int32))) + (zus (((x0 - ((zus x0 (1 : Int32)) &&& (1431655765 : Int32))) &&& (858993459 : Int32)) + ((zus (x0 - ((zus x0 (1 : Int32)) &&& (1431655765 : Int32))) (2 : Int32)) &&& (858993459 : Int32))) (4 : Int32))) &&& (252645135 : Int32)) (8 : Int32))) (16 : Int32))) &&& (63 : Int32))
set_option maxRecDepth 20000 in
set_option maxHeartbeats 2000000 in
theorem s_ji_bitCount (L e : Nat) (J : zJem) (d : Nat) {M : zMem} (x0 : Int32) : zz_D (zm_ji_bitCount, d + 1, 0, [some (.int x0)], []) (zt_T L, zt_R, M, J, e) = some (.inl (some (.int (v_ji_bitCount x0))), (zt_T L, zt_R, M, J, e)) := by
  unfold v_ji_bitCount
  refine (zz_go 41 (fr' := (zm_ji_bitCount, d + 1, 52, [some (.int (((((((x0 - ((zus x0 (1 : Int32)) &&& (1431655765 : Int32))) &&& (858993459 : Int32)) + ((zus (x0 - ((zus x0 (1 : Int32)) &&& (1431655765 : Int32))) (2 : Int32)) &&& (858993459 : Int32))) + (zus (((x0 - ((zus x0 (1 : Int32)) &&& (1431655765 : Int32))) &&& (858993459 : Int32)) + ((zus (x0 - ((zus x0 (1 : Int32)) &&& (1431655765 : Int32))) (2 : Int32)) &&& (858993459 : Int32))) (4 : Int32))) &&& (252645135 : Int32)) + (zus (((((x0 - ((zus x0 (1 : Int32)) &&& (1431655765 : Int32))) &&& (858993459 : Int32)) + ((zus (x0 - ((zus x0 (1 : Int32)) &&& (1431655765 : Int32))) (2 : Int32)) &&& (858993459 : Int32))) + (zus (((x0 - ((zus x0 (1 : Int32)) &&& (1431655765 : Int32))) &&& (858993459 : Int32)) + ((zus (x0 - ((zus x0 (1 : Int32)) &&& (1431655765 : Int32))) (2 : Int32)) &&& (858993459 : Int32))) (4 : Int32))) &&& (252645135 : Int32)) (8 : Int32))) + (zus ((((((x0 - ((zus x0 (1 : Int32)) &&& (1431655765 : Int32))) &&& (858993459 : Int32)) + ((zus (x0 - ((zus x0 (1 : Int32)) &&& (1431655765 : Int32))) (2 : Int32)) &&& (858993459 : Int32))) + (zus (((x0 - ((zus x0 (1 : Int32)) &&& (1431655765 : Int32))) &&& (858993459 : Int32)) + ((zus (x0 - ((zus x0 (1 : Int32)) &&& (1431655765 : Int32))) (2 : Int32)) &&& (858993459 : Int32))) (4 : Int32))) &&& (252645135 : Int32)) + (zus (((((x0 - ((zus x0 (1 : Int32)) &&& (1431655765 : Int32))) &&& (858993459 : Int32)) + ((zus (x0 - ((zus x0 (1 : Int32)) &&& (1431655765 : Int32))) (2 : Int32)) &&& (858993459 : Int32))) + (zus (((x0 - ((zus x0 (1 : Int32)) &&& (1431655765 : Int32))) &&& (858993459 : Int32)) + ((zus (x0 - ((zus x0 (1 : Int32)) &&& (1431655765 : Int32))) (2 : Int32)) &&& (858993459 : Int32))) (4 : Int32))) &&& (252645135 : Int32)) (8 : Int32))) (16 : Int32))))], [.int ((((((((x0 - ((zus x0 (1 : Int32)) &&& (1431655765 : Int32))) &&& (858993459 : Int32)) + ((zus (x0 - ((zus x0 (1 : Int32)) &&& (1431655765 : Int32))) (2 : Int32)) &&& (858993459 : Int32))) + (zus (((x0 - ((zus x0 (1 : Int32)) &&& (1431655765 : Int32))) &&& (858993459 : Int32)) + ((zus (x0 - ((zus x0 (1 : Int32)) &&& (1431655765 : Int32))) (2 : Int32)) &&& (858993459 : Int32))) (4 : Int32))) &&& (252645135 : Int32)) + (zus (((((x0 - ((zus x0 (1 : Int32)) &&& (1431655765 : Int32))) &&& (858993459 : Int32)) + ((zus (x0 - ((zus x0 (1 : Int32)) &&& (1431655765 : Int32))) (2 : Int32)) &&& (858993459 : Int32))) + (zus (((x0 - ((zus x0 (1 : Int32)) &&& (1431655765 : Int32))) &&& (858993459 : Int32)) + ((zus (x0 - ((zus x0 (1 : Int32)) &&& (1431655765 : Int32))) (2 : Int32)) &&& (858993459 : Int32))) (4 : Int32))) &&& (252645135 : Int32)) (8 : Int32))) + (zus ((((((x0 - ((zus x0 (1 : Int32)) &&& (1431655765 : Int32))) &&& (858993459 : Int32)) + ((zus (x0 - ((zus x0 (1 : Int32)) &&& (1431655765 : Int32))) (2 : Int32)) &&& (858993459 : Int32))) + (zus (((x0 - ((zus x0 (1 : Int32)) &&& (1431655765 : Int32))) &&& (858993459 : Int32)) + ((zus (x0 - ((zus x0 (1 : Int32)) &&& (1431655765 : Int32))) (2 : Int32)) &&& (858993459 : Int32))) (4 : Int32))) &&& (252645135 : Int32)) + (zus (((((x0 - ((zus x0 (1 : Int32)) &&& (1431655765 : Int32))) &&& (858993459 : Int32)) + ((zus (x0 - ((zus x0 (1 : Int32)) &&& (1431655765 : Int32))) (2 : Int32)) &&& (858993459 : Int32))) + (zus (((x0 - ((zus x0 (1 : Int32)) &&& (1431655765 : Int32))) &&& (858993459 : Int32)) + ((zus (x0 - ((zus x0 (1 : Int32)) &&& (1431655765 : Int32))) (2 : Int32)) &&& (858993459 : Int32))) (4 : Int32))) &&& (252645135 : Int32)) (8 : Int32))) (16 : Int32))) &&& (63 : Int32))])) (h' := (zt_T L, zt_R, M, J, e)) (fun _ => rfl)).trans ?_
  refine zl_retI rfl rfl ?_
  rfl
def v_jl_bitCount (y0 : Int64) : Int32 := ((((((((((y0 - ((zlu y0 (1 : Int32)) &&& (Int64.ofNat 6148914691236517205))) &&& (Int64.ofNat 3689348814741910323)) + ((zlu (y0 - ((zlu y0 (1 : Int32)) &&& (Int64.ofNat 6148914691236517205))) (2 : Int32)) &&& (Int64.ofNat 3689348814741910323))) + (zlu (((y0 - ((zlu y0 (1 : Int32)) &&& (Int64.ofNat 6148914691236517205))) &&& (Int64.ofNat 3689348814741910323)) + ((zlu (y0 - ((zlu y0 (1 : Int32)) &&& (Int64.ofNat 6148914691236517205))) (2 : Int32)) &&& (Int64.ofNat 3689348814741910323))) (4 : Int32))) &&& (Int64.ofNat 1085102592571150095)) + (zlu (((((y0 - ((zlu y0 (1 : Int32)) &&& (Int64.ofNat 6148914691236517205))) &&& (Int64.ofNat 3689348814741910323)) + ((zlu (y0 - ((zlu y0 (1 : Int32)) &&& (Int64.ofNat 6148914691236517205))) (2 : Int32)) &&& (Int64.ofNat 3689348814741910323))) + (zlu (((y0 - ((zlu y0 (1 : Int32)) &&& (Int64.ofNat 6148914691236517205))) &&& (Int64.ofNat 3689348814741910323)) + ((zlu (y0 - ((zlu y0 (1 : Int32)) &&& (Int64.ofNat 6148914691236517205))) (2 : Int32)) &&& (Int64.ofNat 3689348814741910323))) (4 : Int32))) &&& (Int64.ofNat 1085102592571150095)) (8 : Int32))) + (zlu ((((((y0 - ((zlu y0 (1 : Int32)) &&& (Int64.ofNat 6148914691236517205))) &&& (Int64.ofNat 3689348814741910323)) + ((zlu (y0 - ((zlu y0 (1 : Int32)) &&& (Int64.ofNat 6148914691236517205))) (2 : Int32)) &&& (Int64.ofNat 3689348814741910323))) + (zlu (((y0 - ((zlu y0 (1 : Int32)) &&& (Int64.ofNat 6148914691236517205))) &&& (Int64.ofNat 3689348814741910323)) + ((zlu (y0 - ((zlu y0 (1 : Int32)) &&& (Int64.ofNat 6148914691236517205))) (2 : Int32)) &&& (Int64.ofNat 3689348814741910323))) (4 : Int32))) &&& (Int64.ofNat 1085102592571150095)) + (zlu (((((y0 - ((zlu y0 (1 : Int32)) &&& (Int64.ofNat 6148914691236517205))) &&& (Int64.ofNat 3689348814741910323)) + ((zlu (y0 - ((zlu y0 (1 : Int32)) &&& (Int64.ofNat 6148914691236517205))) (2 : Int32)) &&& (Int64.ofNat 3689348814741910323))) + (zlu (((y0 - ((zlu y0 (1 : Int32)) &&& (Int64.ofNat 6148914691236517205))) &&& (Int64.ofNat 3689348814741910323)) + ((zlu (y0 - ((zlu y0 (1 : Int32)) &&& (Int64.ofNat 6148914691236517205))) (2 : Int32)) &&& (Int64.ofNat 3689348814741910323))) (4 : Int32))) &&& (Int64.ofNat 1085102592571150095)) (8 : Int32))) (16 : Int32))) + (zlu (((((((y0 - ((zlu y0 (1 : Int32)) &&& (Int64.ofNat 6148914691236517205))) &&& (Int64.ofNat 3689348814741910323)) + ((zlu (y0 - ((zlu y0 (1 : Int32)) &&& (Int64.ofNat 6148914691236517205))) (2 : Int32)) &&& (Int64.ofNat 3689348814741910323))) + (zlu (((y0 - ((zlu y0 (1 : Int32)) &&& (Int64.ofNat 6148914691236517205))) &&& (Int64.ofNat 3689348814741910323)) + ((zlu (y0 - ((zlu y0 (1 : Int32)) &&& (Int64.ofNat 6148914691236517205))) (2 : Int32)) &&& (Int64.ofNat 3689348814741910323))) (4 : Int32))) &&& (Int64.ofNat 1085102592571150095)) + (zlu (((((y0 - ((zlu y0 (1 : Int32)) &&& (Int64.ofNat 6148914691236517205))) &&& (Int64.ofNat 3689348814741910323)) + ((zlu (y0 - ((zlu y0 (1 : Int32)) &&& (Int64.ofNat 6148914691236517205))) (2 : Int32)) &&& (Int64.ofNat 3689348814741910323))) + (zlu (((y0 - ((zlu y0 (1 : Int32)) &&& (Int64.ofNat 6148914691236517205))) &&& (Int64.ofNat 3689348814741910323)) + ((zlu (y0 - ((zlu y0 (1 : Int32)) &&& (Int64.ofNat 6148914691236517205))) (2 : Int32)) &&& (Int64.ofNat 3689348814741910323))) (4 : Int32))) &&& (Int64.ofNat 1085102592571150095)) (8 : Int32))) + (zlu ((((((y0 - ((zlu y0 (1 : Int32)) &&& (Int64.ofNat 6148914691236517205))) &&& (Int64.ofNat 3689348814741910323)) + ((zlu (y0 - ((zlu y0 (1 : Int32)) &&& (Int64.ofNat 6148914691236517205))) (2 : Int32)) &&& (Int64.ofNat 3689348814741910323))) + (zlu (((y0 - ((zlu y0 (1 : Int32)) &&& (Int64.ofNat 6148914691236517205))) &&& (Int64.ofNat 3689348814741910323)) + ((zlu (y0 - ((zlu y0 (1 : Int32)) &&& (Int64.ofNat 6148914691236517205))) (2 : Int32)) &&& (Int64.ofNat 3689348814741910323))) (4 : Int32))) &&& (Int64.ofNat 1085102592571150095)) + (zlu (((((y0 - ((zlu y0 (1 : Int32)) &&& (Int64.ofNat 6148914691236517205))) &&& (Int64.ofNat 3689348814741910323)) + ((zlu (y0 - ((zlu y0 (1 : Int32)) &&& (Int64.ofNat 6148914691236517205))) (2 : Int32)) &&& (Int64.ofNat 3689348814741910323))) + (zlu (((y0 - ((zlu y0 (1 : Int32)) &&& (Int64.ofNat 6148914691236517205))) &&& (Int64.ofNat 3689348814741910323)) + ((zlu (y0 - ((zlu y0 (1 : Int32)) &&& (Int64.ofNat 6148914691236517205))) (2 : Int32)) &&& (Int64.ofNat 3689348814741910323))) (4 : Int32))) &&& (Int64.ofNat 1085102592571150095)) (8 : Int32))) (16 : Int32))) (32 : Int32)))).toInt32 &&& (127 : Int32))
set_option maxRecDepth 20000 in
set_option maxHeartbeats 2000000 in
theorem s_jl_bitCount (L e : Nat) (J : zJem) (d : Nat) {M : zMem} (y0 : Int64) : zz_D (zm_jl_bitCount, d + 1, 0, [some (.long y0), none], []) (zt_T L, zt_R, M, J, e) = some (.inl (some (.int (v_jl_bitCount y0))), (zt_T L, zt_R, M, J, e)) := by
  unfold v_jl_bitCount
  refine (zz_go 48 (fr' := (zm_jl_bitCount, d + 1, 60, [some (.long ((((((((y0 - ((zlu y0 (1 : Int32)) &&& (Int64.ofNat 6148914691236517205))) &&& (Int64.ofNat 3689348814741910323)) + ((zlu (y0 - ((zlu y0 (1 : Int32)) &&& (Int64.ofNat 6148914691236517205))) (2 : Int32)) &&& (Int64.ofNat 3689348814741910323))) + (zlu (((y0 - ((zlu y0 (1 : Int32)) &&& (Int64.ofNat 6148914691236517205))) &&& (Int64.ofNat 3689348814741910323)) + ((zlu (y0 - ((zlu y0 (1 : Int32)) &&& (Int64.ofNat 6148914691236517205))) (2 : Int32)) &&& (Int64.ofNat 3689348814741910323))) (4 : Int32))) &&& (Int64.ofNat 1085102592571150095)) + (zlu (((((y0 - ((zlu y0 (1 : Int32)) &&& (Int64.ofNat 6148914691236517205))) &&& (Int64.ofNat 3689348814741910323)) + ((zlu (y0 - ((zlu y0 (1 : Int32)) &&& (Int64.ofNat 6148914691236517205))) (2 : Int32)) &&& (Int64.ofNat 3689348814741910323))) + (zlu (((y0 - ((zlu y0 (1 : Int32)) &&& (Int64.ofNat 6148914691236517205))) &&& (Int64.ofNat 3689348814741910323)) + ((zlu (y0 - ((zlu y0 (1 : Int32)) &&& (Int64.ofNat 6148914691236517205))) (2 : Int32)) &&& (Int64.ofNat 3689348814741910323))) (4 : Int32))) &&& (Int64.ofNat 1085102592571150095)) (8 : Int32))) + (zlu ((((((y0 - ((zlu y0 (1 : Int32)) &&& (Int64.ofNat 6148914691236517205))) &&& (Int64.ofNat 3689348814741910323)) + ((zlu (y0 - ((zlu y0 (1 : Int32)) &&& (Int64.ofNat 6148914691236517205))) (2 : Int32)) &&& (Int64.ofNat 3689348814741910323))) + (zlu (((y0 - ((zlu y0 (1 : Int32)) &&& (Int64.ofNat 6148914691236517205))) &&& (Int64.ofNat 3689348814741910323)) + ((zlu (y0 - ((zlu y0 (1 : Int32)) &&& (Int64.ofNat 6148914691236517205))) (2 : Int32)) &&& (Int64.ofNat 3689348814741910323))) (4 : Int32))) &&& (Int64.ofNat 1085102592571150095)) + (zlu (((((y0 - ((zlu y0 (1 : Int32)) &&& (Int64.ofNat 6148914691236517205))) &&& (Int64.ofNat 3689348814741910323)) + ((zlu (y0 - ((zlu y0 (1 : Int32)) &&& (Int64.ofNat 6148914691236517205))) (2 : Int32)) &&& (Int64.ofNat 3689348814741910323))) + (zlu (((y0 - ((zlu y0 (1 : Int32)) &&& (Int64.ofNat 6148914691236517205))) &&& (Int64.ofNat 3689348814741910323)) + ((zlu (y0 - ((zlu y0 (1 : Int32)) &&& (Int64.ofNat 6148914691236517205))) (2 : Int32)) &&& (Int64.ofNat 3689348814741910323))) (4 : Int32))) &&& (Int64.ofNat 1085102592571150095)) (8 : Int32))) (16 : Int32))) + (zlu (((((((y0 - ((zlu y0 (1 : Int32)) &&& (Int64.ofNat 6148914691236517205))) &&& (Int64.ofNat 3689348814741910323)) + ((zlu (y0 - ((zlu y0 (1 : Int32)) &&& (Int64.ofNat 6148914691236517205))) (2 : Int32)) &&& (Int64.ofNat 3689348814741910323))) + (zlu (((y0 - ((zlu y0 (1 : Int32)) &&& (Int64.ofNat 6148914691236517205))) &&& (Int64.ofNat 3689348814741910323)) + ((zlu (y0 - ((zlu y0 (1 : Int32)) &&& (Int64.ofNat 6148914691236517205))) (2 : Int32)) &&& (Int64.ofNat 3689348814741910323))) (4 : Int32))) &&& (Int64.ofNat 1085102592571150095)) + (zlu (((((y0 - ((zlu y0 (1 : Int32)) &&& (Int64.ofNat 6148914691236517205))) &&& (Int64.ofNat 3689348814741910323)) + ((zlu (y0 - ((zlu y0 (1 : Int32)) &&& (Int64.ofNat 6148914691236517205))) (2 : Int32)) &&& (Int64.ofNat 3689348814741910323))) + (zlu (((y0 - ((zlu y0 (1 : Int32)) &&& (Int64.ofNat 6148914691236517205))) &&& (Int64.ofNat 3689348814741910323)) + ((zlu (y0 - ((zlu y0 (1 : Int32)) &&& (Int64.ofNat 6148914691236517205))) (2 : Int32)) &&& (Int64.ofNat 3689348814741910323))) (4 : Int32))) &&& (Int64.ofNat 1085102592571150095)) (8 : Int32))) + (zlu ((((((y0 - ((zlu y0 (1 : Int32)) &&& (Int64.ofNat 6148914691236517205))) &&& (Int64.ofNat 3689348814741910323)) + ((zlu (y0 - ((zlu y0 (1 : Int32)) &&& (Int64.ofNat 6148914691236517205))) (2 : Int32)) &&& (Int64.ofNat 3689348814741910323))) + (zlu (((y0 - ((zlu y0 (1 : Int32)) &&& (Int64.ofNat 6148914691236517205))) &&& (Int64.ofNat 3689348814741910323)) + ((zlu (y0 - ((zlu y0 (1 : Int32)) &&& (Int64.ofNat 6148914691236517205))) (2 : Int32)) &&& (Int64.ofNat 3689348814741910323))) (4 : Int32))) &&& (Int64.ofNat 1085102592571150095)) + (zlu (((((y0 - ((zlu y0 (1 : Int32)) &&& (Int64.ofNat 6148914691236517205))) &&& (Int64.ofNat 3689348814741910323)) + ((zlu (y0 - ((zlu y0 (1 : Int32)) &&& (Int64.ofNat 6148914691236517205))) (2 : Int32)) &&& (Int64.ofNat 3689348814741910323))) + (zlu (((y0 - ((zlu y0 (1 : Int32)) &&& (Int64.ofNat 6148914691236517205))) &&& (Int64.ofNat 3689348814741910323)) + ((zlu (y0 - ((zlu y0 (1 : Int32)) &&& (Int64.ofNat 6148914691236517205))) (2 : Int32)) &&& (Int64.ofNat 3689348814741910323))) (4 : Int32))) &&& (Int64.ofNat 1085102592571150095)) (8 : Int32))) (16 : Int32))) (32 : Int32)))), none], [.int ((((((((((y0 - ((zlu y0 (1 : Int32)) &&& (Int64.ofNat 6148914691236517205))) &&& (Int64.ofNat 3689348814741910323)) + ((zlu (y0 - ((zlu y0 (1 : Int32)) &&& (Int64.ofNat 6148914691236517205))) (2 : Int32)) &&& (Int64.ofNat 3689348814741910323))) + (zlu (((y0 - ((zlu y0 (1 : Int32)) &&& (Int64.ofNat 6148914691236517205))) &&& (Int64.ofNat 3689348814741910323)) + ((zlu (y0 - ((zlu y0 (1 : Int32)) &&& (Int64.ofNat 6148914691236517205))) (2 : Int32)) &&& (Int64.ofNat 3689348814741910323))) (4 : Int32))) &&& (Int64.ofNat 1085102592571150095)) + (zlu (((((y0 - ((zlu y0 (1 : Int32)) &&& (Int64.ofNat 6148914691236517205))) &&& (Int64.ofNat 3689348814741910323)) + ((zlu (y0 - ((zlu y0 (1 : Int32)) &&& (Int64.ofNat 6148914691236517205))) (2 : Int32)) &&& (Int64.ofNat 3689348814741910323))) + (zlu (((y0 - ((zlu y0 (1 : Int32)) &&& (Int64.ofNat 6148914691236517205))) &&& (Int64.ofNat 3689348814741910323)) + ((zlu (y0 - ((zlu y0 (1 : Int32)) &&& (Int64.ofNat 6148914691236517205))) (2 : Int32)) &&& (Int64.ofNat 3689348814741910323))) (4 : Int32))) &&& (Int64.ofNat 1085102592571150095)) (8 : Int32))) + (zlu ((((((y0 - ((zlu y0 (1 : Int32)) &&& (Int64.ofNat 6148914691236517205))) &&& (Int64.ofNat 3689348814741910323)) + ((zlu (y0 - ((zlu y0 (1 : Int32)) &&& (Int64.ofNat 6148914691236517205))) (2 : Int32)) &&& (Int64.ofNat 3689348814741910323))) + (zlu (((y0 - ((zlu y0 (1 : Int32)) &&& (Int64.ofNat 6148914691236517205))) &&& (Int64.ofNat 3689348814741910323)) + ((zlu (y0 - ((zlu y0 (1 : Int32)) &&& (Int64.ofNat 6148914691236517205))) (2 : Int32)) &&& (Int64.ofNat 3689348814741910323))) (4 : Int32))) &&& (Int64.ofNat 1085102592571150095)) + (zlu (((((y0 - ((zlu y0 (1 : Int32)) &&& (Int64.ofNat 6148914691236517205))) &&& (Int64.ofNat 3689348814741910323)) + ((zlu (y0 - ((zlu y0 (1 : Int32)) &&& (Int64.ofNat 6148914691236517205))) (2 : Int32)) &&& (Int64.ofNat 3689348814741910323))) + (zlu (((y0 - ((zlu y0 (1 : Int32)) &&& (Int64.ofNat 6148914691236517205))) &&& (Int64.ofNat 3689348814741910323)) + ((zlu (y0 - ((zlu y0 (1 : Int32)) &&& (Int64.ofNat 6148914691236517205))) (2 : Int32)) &&& (Int64.ofNat 3689348814741910323))) (4 : Int32))) &&& (Int64.ofNat 1085102592571150095)) (8 : Int32))) (16 : Int32))) + (zlu (((((((y0 - ((zlu y0 (1 : Int32)) &&& (Int64.ofNat 6148914691236517205))) &&& (Int64.ofNat 3689348814741910323)) + ((zlu (y0 - ((zlu y0 (1 : Int32)) &&& (Int64.ofNat 6148914691236517205))) (2 : Int32)) &&& (Int64.ofNat 3689348814741910323))) + (zlu (((y0 - ((zlu y0 (1 : Int32)) &&& (Int64.ofNat 6148914691236517205))) &&& (Int64.ofNat 3689348814741910323)) + ((zlu (y0 - ((zlu y0 (1 : Int32)) &&& (Int64.ofNat 6148914691236517205))) (2 : Int32)) &&& (Int64.ofNat 3689348814741910323))) (4 : Int32))) &&& (Int64.ofNat 1085102592571150095)) + (zlu (((((y0 - ((zlu y0 (1 : Int32)) &&& (Int64.ofNat 6148914691236517205))) &&& (Int64.ofNat 3689348814741910323)) + ((zlu (y0 - ((zlu y0 (1 : Int32)) &&& (Int64.ofNat 6148914691236517205))) (2 : Int32)) &&& (Int64.ofNat 3689348814741910323))) + (zlu (((y0 - ((zlu y0 (1 : Int32)) &&& (Int64.ofNat 6148914691236517205))) &&& (Int64.ofNat 3689348814741910323)) + ((zlu (y0 - ((zlu y0 (1 : Int32)) &&& (Int64.ofNat 6148914691236517205))) (2 : Int32)) &&& (Int64.ofNat 3689348814741910323))) (4 : Int32))) &&& (Int64.ofNat 1085102592571150095)) (8 : Int32))) + (zlu ((((((y0 - ((zlu y0 (1 : Int32)) &&& (Int64.ofNat 6148914691236517205))) &&& (Int64.ofNat 3689348814741910323)) + ((zlu (y0 - ((zlu y0 (1 : Int32)) &&& (Int64.ofNat 6148914691236517205))) (2 : Int32)) &&& (Int64.ofNat 3689348814741910323))) + (zlu (((y0 - ((zlu y0 (1 : Int32)) &&& (Int64.ofNat 6148914691236517205))) &&& (Int64.ofNat 3689348814741910323)) + ((zlu (y0 - ((zlu y0 (1 : Int32)) &&& (Int64.ofNat 6148914691236517205))) (2 : Int32)) &&& (Int64.ofNat 3689348814741910323))) (4 : Int32))) &&& (Int64.ofNat 1085102592571150095)) + (zlu (((((y0 - ((zlu y0 (1 : Int32)) &&& (Int64.ofNat 6148914691236517205))) &&& (Int64.ofNat 3689348814741910323)) + ((zlu (y0 - ((zlu y0 (1 : Int32)) &&& (Int64.ofNat 6148914691236517205))) (2 : Int32)) &&& (Int64.ofNat 3689348814741910323))) + (zlu (((y0 - ((zlu y0 (1 : Int32)) &&& (Int64.ofNat 6148914691236517205))) &&& (Int64.ofNat 3689348814741910323)) + ((zlu (y0 - ((zlu y0 (1 : Int32)) &&& (Int64.ofNat 6148914691236517205))) (2 : Int32)) &&& (Int64.ofNat 3689348814741910323))) (4 : Int32))) &&& (Int64.ofNat 1085102592571150095)) (8 : Int32))) (16 : Int32))) (32 : Int32)))).toInt32 &&& (127 : Int32))])) (h' := (zt_T L, zt_R, M, J, e)) (fun _ => rfl)).trans ?_
  refine zl_retI rfl rfl ?_
  rfl
def v_F_grown (x0 : Int32) : Int32 := ((x0 ||| ((zsl (x0 &&& (-34953 : Int32)) (1 : Int32)) ||| (zsr (x0 &&& (-4370 : Int32)) (1 : Int32)))) ||| (((zsl x0 (4 : Int32)) &&& (65535 : Int32)) ||| (zsr x0 (4 : Int32))))
set_option maxRecDepth 20000 in
set_option maxHeartbeats 2000000 in
theorem s_F_grown (L e : Nat) (J : zJem) (d : Nat) {M : zMem} (x0 : Int32) : zz_D (zm_F_grown, d + 1, 0, [some (.int x0), none, none], []) (zt_T L, zt_R, M, J, e) = some (.inl (some (.int (v_F_grown x0))), (zt_T L, zt_R, M, J, e)) := by
  unfold v_F_grown
  refine (zz_go 27 (fr' := (zm_F_grown, d + 1, 31, [some (.int x0), some (.int ((zsl (x0 &&& (-34953 : Int32)) (1 : Int32)) ||| (zsr (x0 &&& (-4370 : Int32)) (1 : Int32)))), some (.int (((zsl x0 (4 : Int32)) &&& (65535 : Int32)) ||| (zsr x0 (4 : Int32))))], [.int ((x0 ||| ((zsl (x0 &&& (-34953 : Int32)) (1 : Int32)) ||| (zsr (x0 &&& (-4370 : Int32)) (1 : Int32)))) ||| (((zsl x0 (4 : Int32)) &&& (65535 : Int32)) ||| (zsr x0 (4 : Int32))))])) (h' := (zt_T L, zt_R, M, J, e)) (fun _ => rfl)).trans ?_
  refine zl_retI rfl rfl ?_
  rfl
def f_F_spread_1 (x0 : Int32) (x1 : Int32) (i1 : Nat) (a1 : Int32) : Int32 := ((v_F_grown a1) &&& x1)
def v_F_spread (x0 : Int32) (x1 : Int32) : Int32 := (zf_for 16 (f_F_spread_1 x0 x1) x0)
set_option maxRecDepth 20000 in
set_option maxHeartbeats 2000000 in
theorem s_F_spread (L e : Nat) (J : zJem) (d : Nat) {M : zMem} (x0 : Int32) (x1 : Int32) : zz_D (zm_F_spread, d + 2, 0, [some (.int x0), some (.int x1), none, none], []) (zt_T L, zt_R, M, J, e) = some (.inl (some (.int (v_F_spread x0 x1))), (zt_T L, zt_R, M, J, e)) := by
  unfold v_F_spread
  refine (zz_go 4 (fr' := (zm_F_spread, d + 2, 4, [some (.int x0), some (.int x1), some (.int x0), some (.int (0 : Int32))], [])) (h' := (zt_T L, zt_R, M, J, e)) (fun _ => rfl)).trans ?_
  refine zz_weak (L := [none, some (.int x1), some (.int x0), some (.int (0 : Int32))]) ⟨Or.inr ⟨rfl, rfl⟩, Or.inl rfl, Or.inl rfl, Or.inl rfl, trivial⟩ ?_
  refine zf_forD (X := fun (i1 : Nat) (a1 : Int32) => zz_D (zm_F_spread, d + 2, 4, [none, some (.int x1), some (.int a1), some (.int (Int32.ofNat i1))], []) (zt_T L, zt_R, M, J, e)) (f := (f_F_spread_1 x0 x1)) (a := x0) 16 (fun i1 hi1 => ?_) ?_
  · intro hx1
    generalize zf_for i1 (f_F_spread_1 x0 x1) x0 = a1 at hx1 ⊢
    show zz_D (zm_F_spread, d + 2, 4, [none, some (.int x1), some (.int a1), some (.int (Int32.ofNat i1))], []) (zt_T L, zt_R, M, J, e) = _
    refine (zz_go 2 (fr' := (zm_F_spread, d + 2, 7, [none, some (.int x1), some (.int a1), some (.int (Int32.ofNat i1))], [.int (16 : Int32), .int (Int32.ofNat i1)])) (h' := (zt_T L, zt_R, M, J, e)) (fun _ => rfl)).trans ?_
    refine zc_geF rfl (zi_ltc (n := 16) (by omega) (by decide)) ?_
    refine (zz_go 1 (fr' := (zm_F_spread, d + 2, 11, [none, some (.int x1), some (.int a1), some (.int (Int32.ofNat i1))], [.int a1])) (h' := (zt_T L, zt_R, M, J, e)) (fun _ => rfl)).trans ?_
    refine zl_st (d := d + 1) rfl rfl rfl rfl rfl rfl rfl (s_F_grown L e J (d + 0) a1) ?_
    show zz_D (zm_F_spread, d + 2, 14, [none, some (.int x1), some (.int a1), some (.int (Int32.ofNat i1))], [.int (v_F_grown a1)]) (zt_T L, zt_R, M, J, e) = _
    refine (zz_go 5 (fr' := (zm_F_spread, d + 2, 4, [none, some (.int x1), some (.int ((v_F_grown a1) &&& x1)), some (.int (Int32.ofNat i1 + 1))], [])) (h' := (zt_T L, zt_R, M, J, e)) (fun _ => rfl)).trans ?_
    rw [zi_succ i1]
    exact hx1
  show zz_D (zm_F_spread, d + 2, 4, [none, some (.int x1), some (.int (zf_for 16 (f_F_spread_1 x0 x1) x0)), some (.int (Int32.ofNat 16))], []) (zt_T L, zt_R, M, J, e) = _
  refine (zz_go 2 (fr' := (zm_F_spread, d + 2, 7, [none, some (.int x1), some (.int (zf_for 16 (f_F_spread_1 x0 x1) x0)), some (.int (Int32.ofNat 16))], [.int (16 : Int32), .int (Int32.ofNat 16)])) (h' := (zt_T L, zt_R, M, J, e)) (fun _ => rfl)).trans ?_
  refine zc_geT rfl (by decide) ?_
  refine zz_weak (L := [none, none, some (.int (zf_for 16 (f_F_spread_1 x0 x1) x0)), none]) ⟨Or.inl rfl, Or.inr ⟨rfl, rfl⟩, Or.inl rfl, Or.inr ⟨rfl, rfl⟩, trivial⟩ ?_
  refine (zz_go 1 (fr' := (zm_F_spread, d + 2, 24, [none, none, some (.int (zf_for 16 (f_F_spread_1 x0 x1) x0)), none], [.int (zf_for 16 (f_F_spread_1 x0 x1) x0)])) (h' := (zt_T L, zt_R, M, J, e)) (fun _ => rfl)).trans ?_
  refine zl_retI rfl rfl ?_
  rfl
def g_F_pieces_1 (x0 : Int32) (i1 : Nat) (a1 : Int32 × Int32) : Bool × (Int32 × Int32) := ((bif (decide ((16 : Int32) ≤ (Int32.ofNat i1))) then false else (bif (decide (a1.1 = 0)) then false else true)), ((bif (decide ((16 : Int32) ≤ (Int32.ofNat i1))) then a1.1 else (bif (decide (a1.1 = 0)) then a1.1 else (a1.1 &&& ((v_F_spread (a1.1 &&& (-a1.1)) x0) ^^^ (-1 : Int32))))), (bif (decide ((16 : Int32) ≤ (Int32.ofNat i1))) then a1.2 else (bif (decide (a1.1 = 0)) then a1.2 else (a1.2 + (1 : Int32))))))
def kb_F_pieces_1 (x0 : Int32) (i1 : Nat) (a1 : Int32 × Int32) : Prop := True
def v_F_pieces (x0 : Int32) : Int32 := (zf_wh 1000 (g_F_pieces_1 x0) 0 (x0, (0 : Int32))).2
def ok_F_pieces (x0 : Int32) : Prop := (zf_wk 1000 (g_F_pieces_1 x0) (kb_F_pieces_1 x0) 0 (x0, (0 : Int32)))
set_option maxRecDepth 20000 in
set_option maxHeartbeats 2000000 in
theorem s_F_pieces (L e : Nat) (J : zJem) (d : Nat) {M : zMem} (x0 : Int32) (k0 : ok_F_pieces x0) : zz_D (zm_F_pieces, d + 3, 0, [some (.int x0), none, none, none], []) (zt_T L, zt_R, M, J, e) = some (.inl (some (.int (v_F_pieces x0))), (zt_T L, zt_R, M, J, e)) := by
  unfold ok_F_pieces at k0
  unfold v_F_pieces
  refine (zz_go 6 (fr' := (zm_F_pieces, d + 3, 6, [some (.int x0), some (.int x0), some (.int (0 : Int32)), some (.int (0 : Int32))], [])) (h' := (zt_T L, zt_R, M, J, e)) (fun _ => rfl)).trans ?_
  refine zf_whY (X := fun (i1 : Nat) (a1 : Int32 × Int32) => zz_D (zm_F_pieces, d + 3, 6, [some (.int x0), some (.int a1.1), some (.int a1.2), some (.int (Int32.ofNat i1))], []) (zt_T L, zt_R, M, J, e)) (Y := fun (a1 : Int32 × Int32) => zz_D (zm_F_pieces, d + 3, 38, [none, none, some (.int a1.2), none], []) (zt_T L, zt_R, M, J, e)) (g := (g_F_pieces_1 x0)) (k := (kb_F_pieces_1 x0)) (fun i1 a1 k3 hx1 hx2 => ?_) 1000 0 (x0, (0 : Int32)) k0 ?_
  · show zz_D (zm_F_pieces, d + 3, 6, [some (.int x0), some (.int a1.1), some (.int a1.2), some (.int (Int32.ofNat i1))], []) (zt_T L, zt_R, M, J, e) = _
    unfold kb_F_pieces_1 at k3
    refine (zz_go 2 (fr' := (zm_F_pieces, d + 3, 9, [some (.int x0), some (.int a1.1), some (.int a1.2), some (.int (Int32.ofNat i1))], [.int (16 : Int32), .int (Int32.ofNat i1)])) (h' := (zt_T L, zt_R, M, J, e)) (fun _ => rfl)).trans ?_
    rcases zz_bc (decide ((16 : Int32) ≤ (Int32.ofNat i1))) with h4 | h4
    · refine zc_geT rfl h4 ?_
      refine zz_weak (L := [none, none, some (.int a1.2), none]) ⟨Or.inr ⟨rfl, rfl⟩, Or.inr ⟨rfl, rfl⟩, Or.inl rfl, Or.inr ⟨rfl, rfl⟩, trivial⟩ ?_
      have y1 := hx2 (by simp only [g_F_pieces_1, h4, zk_t, zk_f, zb_t, zb_f])
      simpa only [g_F_pieces_1, h4, zk_t, zk_f, zb_t, zb_f] using y1
    · refine zc_geF rfl h4 ?_
      refine (zz_go 1 (fr' := (zm_F_pieces, d + 3, 13, [some (.int x0), some (.int a1.1), some (.int a1.2), some (.int (Int32.ofNat i1))], [.int a1.1])) (h' := (zt_T L, zt_R, M, J, e)) (fun _ => rfl)).trans ?_
      rcases zz_bc (decide (a1.1 = 0)) with h5 | h5
      · refine zo_eqT rfl h5 ?_
        refine zz_weak (L := [none, none, some (.int a1.2), none]) ⟨Or.inr ⟨rfl, rfl⟩, Or.inr ⟨rfl, rfl⟩, Or.inl rfl, Or.inr ⟨rfl, rfl⟩, trivial⟩ ?_
        have y1 := hx2 (by simp only [g_F_pieces_1, h4, h5, zk_t, zk_f, zb_t, zb_f])
        simpa only [g_F_pieces_1, h4, h5, zk_t, zk_f, zb_t, zb_f] using y1
      · refine zo_eqF rfl h5 ?_
        refine (zz_go 6 (fr' := (zm_F_pieces, d + 3, 22, [some (.int x0), some (.int a1.1), some (.int a1.2), some (.int (Int32.ofNat i1))], [.int x0, .int (a1.1 &&& (-a1.1)), .int a1.1])) (h' := (zt_T L, zt_R, M, J, e)) (fun _ => rfl)).trans ?_
        refine zl_st (d := d + 2) rfl rfl rfl rfl rfl rfl rfl (s_F_spread L e J (d + 0) (a1.1 &&& (-a1.1)) x0) ?_
        show zz_D (zm_F_pieces, d + 3, 25, [some (.int x0), some (.int a1.1), some (.int a1.2), some (.int (Int32.ofNat i1))], [.int (v_F_spread (a1.1 &&& (-a1.1)) x0), .int a1.1]) (zt_T L, zt_R, M, J, e) = _
        refine (zz_go 7 (fr' := (zm_F_pieces, d + 3, 6, [some (.int x0), some (.int (a1.1 &&& ((v_F_spread (a1.1 &&& (-a1.1)) x0) ^^^ (-1 : Int32)))), some (.int (a1.2 + (1 : Int32))), some (.int (Int32.ofNat i1 + 1))], [])) (h' := (zt_T L, zt_R, M, J, e)) (fun _ => rfl)).trans ?_
        rw [zi_succ i1]
        have y1 := hx1 (by simp only [g_F_pieces_1, h4, h5, zk_t, zk_f, zb_t, zb_f])
        simpa only [g_F_pieces_1, h4, h5, zk_t, zk_f, zb_t, zb_f] using y1
  show zz_D (zm_F_pieces, d + 3, 38, [none, none, some (.int (zf_wh 1000 (g_F_pieces_1 x0) 0 (x0, (0 : Int32))).2), none], []) (zt_T L, zt_R, M, J, e) = _
  refine (zz_go 1 (fr' := (zm_F_pieces, d + 3, 39, [none, none, some (.int (zf_wh 1000 (g_F_pieces_1 x0) 0 (x0, (0 : Int32))).2), none], [.int (zf_wh 1000 (g_F_pieces_1 x0) 0 (x0, (0 : Int32))).2])) (h' := (zt_T L, zt_R, M, J, e)) (fun _ => rfl)).trans ?_
  refine zl_retI rfl rfl ?_
  rfl
def g_F_largestPiece_1 (x0 : Int32) (i1 : Nat) (a1 : Int32 × Int32) : Bool × (Int32 × Int32) := ((bif (decide ((16 : Int32) ≤ (Int32.ofNat i1))) then false else (bif (decide (a1.1 = 0)) then false else true)), ((bif (decide ((16 : Int32) ≤ (Int32.ofNat i1))) then a1.1 else (bif (decide (a1.1 = 0)) then a1.1 else (a1.1 &&& ((v_F_spread (a1.1 &&& (-a1.1)) x0) ^^^ (-1 : Int32))))), (bif (decide ((16 : Int32) ≤ (Int32.ofNat i1))) then a1.2 else (bif (decide (a1.1 = 0)) then a1.2 else (v_jm_max a1.2 (v_ji_bitCount (v_F_spread (a1.1 &&& (-a1.1)) x0)))))))
def kb_F_largestPiece_1 (x0 : Int32) (i1 : Nat) (a1 : Int32 × Int32) : Prop := True
def v_F_largestPiece (x0 : Int32) : Int32 := (zf_wh 1000 (g_F_largestPiece_1 x0) 0 (x0, (0 : Int32))).2
def ok_F_largestPiece (x0 : Int32) : Prop := (zf_wk 1000 (g_F_largestPiece_1 x0) (kb_F_largestPiece_1 x0) 0 (x0, (0 : Int32)))
set_option maxRecDepth 20000 in
set_option maxHeartbeats 2000000 in
theorem s_F_largestPiece (L e : Nat) (J : zJem) (d : Nat) {M : zMem} (x0 : Int32) (k0 : ok_F_largestPiece x0) : zz_D (zm_F_largestPiece, d + 3, 0, [some (.int x0), none, none, none, none], []) (zt_T L, zt_R, M, J, e) = some (.inl (some (.int (v_F_largestPiece x0))), (zt_T L, zt_R, M, J, e)) := by
  unfold ok_F_largestPiece at k0
  unfold v_F_largestPiece
  refine (zz_go 6 (fr' := (zm_F_largestPiece, d + 3, 6, [some (.int x0), some (.int x0), some (.int (0 : Int32)), some (.int (0 : Int32)), none], [])) (h' := (zt_T L, zt_R, M, J, e)) (fun _ => rfl)).trans ?_
  refine zf_whY (X := fun (i1 : Nat) (a1 : Int32 × Int32) => zz_D (zm_F_largestPiece, d + 3, 6, [some (.int x0), some (.int a1.1), some (.int a1.2), some (.int (Int32.ofNat i1)), none], []) (zt_T L, zt_R, M, J, e)) (Y := fun (a1 : Int32 × Int32) => zz_D (zm_F_largestPiece, d + 3, 49, [none, none, some (.int a1.2), none, none], []) (zt_T L, zt_R, M, J, e)) (g := (g_F_largestPiece_1 x0)) (k := (kb_F_largestPiece_1 x0)) (fun i1 a1 k3 hx1 hx2 => ?_) 1000 0 (x0, (0 : Int32)) k0 ?_
  · show zz_D (zm_F_largestPiece, d + 3, 6, [some (.int x0), some (.int a1.1), some (.int a1.2), some (.int (Int32.ofNat i1)), none], []) (zt_T L, zt_R, M, J, e) = _
    unfold kb_F_largestPiece_1 at k3
    refine (zz_go 2 (fr' := (zm_F_largestPiece, d + 3, 9, [some (.int x0), some (.int a1.1), some (.int a1.2), some (.int (Int32.ofNat i1)), none], [.int (16 : Int32), .int (Int32.ofNat i1)])) (h' := (zt_T L, zt_R, M, J, e)) (fun _ => rfl)).trans ?_
    rcases zz_bc (decide ((16 : Int32) ≤ (Int32.ofNat i1))) with h4 | h4
    · refine zc_geT rfl h4 ?_
      refine zz_weak (L := [none, none, some (.int a1.2), none, none]) ⟨Or.inr ⟨rfl, rfl⟩, Or.inr ⟨rfl, rfl⟩, Or.inl rfl, Or.inr ⟨rfl, rfl⟩, Or.inl rfl, trivial⟩ ?_
      have y1 := hx2 (by simp only [g_F_largestPiece_1, h4, zk_t, zk_f, zb_t, zb_f])
      simpa only [g_F_largestPiece_1, h4, zk_t, zk_f, zb_t, zb_f] using y1
    · refine zc_geF rfl h4 ?_
      refine (zz_go 1 (fr' := (zm_F_largestPiece, d + 3, 13, [some (.int x0), some (.int a1.1), some (.int a1.2), some (.int (Int32.ofNat i1)), none], [.int a1.1])) (h' := (zt_T L, zt_R, M, J, e)) (fun _ => rfl)).trans ?_
      rcases zz_bc (decide (a1.1 = 0)) with h5 | h5
      · refine zo_eqT rfl h5 ?_
        refine zz_weak (L := [none, none, some (.int a1.2), none, none]) ⟨Or.inr ⟨rfl, rfl⟩, Or.inr ⟨rfl, rfl⟩, Or.inl rfl, Or.inr ⟨rfl, rfl⟩, Or.inl rfl, trivial⟩ ?_
        have y1 := hx2 (by simp only [g_F_largestPiece_1, h4, h5, zk_t, zk_f, zb_t, zb_f])
        simpa only [g_F_largestPiece_1, h4, h5, zk_t, zk_f, zb_t, zb_f] using y1
      · refine zo_eqF rfl h5 ?_
        refine (zz_go 5 (fr' := (zm_F_largestPiece, d + 3, 21, [some (.int x0), some (.int a1.1), some (.int a1.2), some (.int (Int32.ofNat i1)), none], [.int x0, .int (a1.1 &&& (-a1.1))])) (h' := (zt_T L, zt_R, M, J, e)) (fun _ => rfl)).trans ?_
        refine zl_st (d := d + 2) rfl rfl rfl rfl rfl rfl rfl (s_F_spread L e J (d + 0) (a1.1 &&& (-a1.1)) x0) ?_
        show zz_D (zm_F_largestPiece, d + 3, 24, [some (.int x0), some (.int a1.1), some (.int a1.2), some (.int (Int32.ofNat i1)), none], [.int (v_F_spread (a1.1 &&& (-a1.1)) x0)]) (zt_T L, zt_R, M, J, e) = _
        refine (zz_go 9 (fr' := (zm_F_largestPiece, d + 3, 36, [some (.int x0), some (.int (a1.1 &&& ((v_F_spread (a1.1 &&& (-a1.1)) x0) ^^^ (-1 : Int32)))), some (.int a1.2), some (.int (Int32.ofNat i1)), some (.int (v_F_spread (a1.1 &&& (-a1.1)) x0))], [.int (v_F_spread (a1.1 &&& (-a1.1)) x0), .int a1.2])) (h' := (zt_T L, zt_R, M, J, e)) (fun _ => rfl)).trans ?_
        refine zl_st (d := d + 2) rfl rfl rfl rfl rfl rfl rfl (s_ji_bitCount L e J (d + 1) (v_F_spread (a1.1 &&& (-a1.1)) x0)) ?_
        show zz_D (zm_F_largestPiece, d + 3, 39, [some (.int x0), some (.int (a1.1 &&& ((v_F_spread (a1.1 &&& (-a1.1)) x0) ^^^ (-1 : Int32)))), some (.int a1.2), some (.int (Int32.ofNat i1)), some (.int (v_F_spread (a1.1 &&& (-a1.1)) x0))], [.int (v_ji_bitCount (v_F_spread (a1.1 &&& (-a1.1)) x0)), .int a1.2]) (zt_T L, zt_R, M, J, e) = _
        refine zl_st (d := d + 2) rfl rfl rfl rfl rfl rfl rfl (s_jm_max L e J (d + 1) a1.2 (v_ji_bitCount (v_F_spread (a1.1 &&& (-a1.1)) x0))) ?_
        show zz_D (zm_F_largestPiece, d + 3, 42, [some (.int x0), some (.int (a1.1 &&& ((v_F_spread (a1.1 &&& (-a1.1)) x0) ^^^ (-1 : Int32)))), some (.int a1.2), some (.int (Int32.ofNat i1)), some (.int (v_F_spread (a1.1 &&& (-a1.1)) x0))], [.int (v_jm_max a1.2 (v_ji_bitCount (v_F_spread (a1.1 &&& (-a1.1)) x0)))]) (zt_T L, zt_R, M, J, e) = _
        refine (zz_go 3 (fr' := (zm_F_largestPiece, d + 3, 6, [some (.int x0), some (.int (a1.1 &&& ((v_F_spread (a1.1 &&& (-a1.1)) x0) ^^^ (-1 : Int32)))), some (.int (v_jm_max a1.2 (v_ji_bitCount (v_F_spread (a1.1 &&& (-a1.1)) x0)))), some (.int (Int32.ofNat i1 + 1)), some (.int (v_F_spread (a1.1 &&& (-a1.1)) x0))], [])) (h' := (zt_T L, zt_R, M, J, e)) (fun _ => rfl)).trans ?_
        refine zz_weak (L := [some (.int x0), some (.int (a1.1 &&& ((v_F_spread (a1.1 &&& (-a1.1)) x0) ^^^ (-1 : Int32)))), some (.int (v_jm_max a1.2 (v_ji_bitCount (v_F_spread (a1.1 &&& (-a1.1)) x0)))), some (.int (Int32.ofNat i1 + 1)), none]) ⟨Or.inl rfl, Or.inl rfl, Or.inl rfl, Or.inl rfl, Or.inr ⟨rfl, rfl⟩, trivial⟩ ?_
        rw [zi_succ i1]
        have y1 := hx1 (by simp only [g_F_largestPiece_1, h4, h5, zk_t, zk_f, zb_t, zb_f])
        simpa only [g_F_largestPiece_1, h4, h5, zk_t, zk_f, zb_t, zb_f] using y1
  show zz_D (zm_F_largestPiece, d + 3, 49, [none, none, some (.int (zf_wh 1000 (g_F_largestPiece_1 x0) 0 (x0, (0 : Int32))).2), none, none], []) (zt_T L, zt_R, M, J, e) = _
  refine (zz_go 1 (fr' := (zm_F_largestPiece, d + 3, 50, [none, none, some (.int (zf_wh 1000 (g_F_largestPiece_1 x0) 0 (x0, (0 : Int32))).2), none, none], [.int (zf_wh 1000 (g_F_largestPiece_1 x0) 0 (x0, (0 : Int32))).2])) (h' := (zt_T L, zt_R, M, J, e)) (fun _ => rfl)).trans ?_
  refine zl_retI rfl rfl ?_
  rfl
def v_F_holes (x0 : Int32) : Int32 := (((65535 : Int32) &&& (x0 ^^^ (-1 : Int32))) &&& ((v_F_spread (((65535 : Int32) &&& (x0 ^^^ (-1 : Int32))) &&& (63903 : Int32)) ((65535 : Int32) &&& (x0 ^^^ (-1 : Int32)))) ^^^ (-1 : Int32)))
set_option maxRecDepth 20000 in
set_option maxHeartbeats 2000000 in
theorem s_F_holes (L e : Nat) (J : zJem) (d : Nat) {M : zMem} (x0 : Int32) : zz_D (zm_F_holes, d + 3, 0, [some (.int x0), none], []) (zt_T L, zt_R, M, J, e) = some (.inl (some (.int (v_F_holes x0))), (zt_T L, zt_R, M, J, e)) := by
  unfold v_F_holes
  refine (zz_go 11 (fr' := (zm_F_holes, d + 3, 13, [some (.int x0), some (.int ((65535 : Int32) &&& (x0 ^^^ (-1 : Int32))))], [.int ((65535 : Int32) &&& (x0 ^^^ (-1 : Int32))), .int (((65535 : Int32) &&& (x0 ^^^ (-1 : Int32))) &&& (63903 : Int32)), .int ((65535 : Int32) &&& (x0 ^^^ (-1 : Int32)))])) (h' := (zt_T L, zt_R, M, J, e)) (fun _ => rfl)).trans ?_
  refine zl_st (d := d + 2) rfl rfl rfl rfl rfl rfl rfl (s_F_spread L e J (d + 0) (((65535 : Int32) &&& (x0 ^^^ (-1 : Int32))) &&& (63903 : Int32)) ((65535 : Int32) &&& (x0 ^^^ (-1 : Int32)))) ?_
  show zz_D (zm_F_holes, d + 3, 16, [some (.int x0), some (.int ((65535 : Int32) &&& (x0 ^^^ (-1 : Int32))))], [.int (v_F_spread (((65535 : Int32) &&& (x0 ^^^ (-1 : Int32))) &&& (63903 : Int32)) ((65535 : Int32) &&& (x0 ^^^ (-1 : Int32)))), .int ((65535 : Int32) &&& (x0 ^^^ (-1 : Int32)))]) (zt_T L, zt_R, M, J, e) = _
  refine (zz_go 3 (fr' := (zm_F_holes, d + 3, 19, [some (.int x0), some (.int ((65535 : Int32) &&& (x0 ^^^ (-1 : Int32))))], [.int (((65535 : Int32) &&& (x0 ^^^ (-1 : Int32))) &&& ((v_F_spread (((65535 : Int32) &&& (x0 ^^^ (-1 : Int32))) &&& (63903 : Int32)) ((65535 : Int32) &&& (x0 ^^^ (-1 : Int32)))) ^^^ (-1 : Int32)))])) (h' := (zt_T L, zt_R, M, J, e)) (fun _ => rfl)).trans ?_
  refine zl_retI rfl rfl ?_
  rfl
def g_F_steps_1 (x0 : Int32) (x1 : Int32) (x2 : Int32) (i1 : Nat) (a1 : Int32 × Bool × Int32) : Bool × (Int32 × Bool × Int32) := ((bif (decide ((16 : Int32) ≤ (Int32.ofNat i1))) then false else (decide (((zsr a1.1 x2) &&& (1 : Int32)) = 0))), ((bif (decide ((16 : Int32) ≤ (Int32.ofNat i1))) then a1.1 else (bif (decide (((zsr a1.1 x2) &&& (1 : Int32)) = 0)) then ((v_F_grown a1.1) &&& x0) else a1.1)), (bif (decide ((16 : Int32) ≤ (Int32.ofNat i1))) then false else (bif (decide (((zsr a1.1 x2) &&& (1 : Int32)) = 0)) then false else true)), (bif (decide ((16 : Int32) ≤ (Int32.ofNat i1))) then a1.2.2 else (bif (decide (((zsr a1.1 x2) &&& (1 : Int32)) = 0)) then a1.2.2 else (Int32.ofNat i1)))))
def kb_F_steps_1 (x0 : Int32) (x1 : Int32) (x2 : Int32) (i1 : Nat) (a1 : Int32 × Bool × Int32) : Prop := True
def v_F_steps (x0 : Int32) (x1 : Int32) (x2 : Int32) : Int32 := (bif (zf_wh 1000 (g_F_steps_1 x0 x1 x2) 0 ((x0 &&& (zsl (1 : Int32) x1)), false, 0)).2.1 then (zf_wh 1000 (g_F_steps_1 x0 x1 x2) 0 ((x0 &&& (zsl (1 : Int32) x1)), false, 0)).2.2 else (-1 : Int32))
def ok_F_steps (x0 : Int32) (x1 : Int32) (x2 : Int32) : Prop := (zf_wk 1000 (g_F_steps_1 x0 x1 x2) (kb_F_steps_1 x0 x1 x2) 0 ((x0 &&& (zsl (1 : Int32) x1)), false, 0))
set_option maxRecDepth 20000 in
set_option maxHeartbeats 2000000 in
theorem s_F_steps (L e : Nat) (J : zJem) (d : Nat) {M : zMem} (x0 : Int32) (x1 : Int32) (x2 : Int32) (k0 : ok_F_steps x0 x1 x2) : zz_D (zm_F_steps, d + 2, 0, [some (.int x0), some (.int x1), some (.int x2), none, none], []) (zt_T L, zt_R, M, J, e) = some (.inl (some (.int (v_F_steps x0 x1 x2))), (zt_T L, zt_R, M, J, e)) := by
  unfold ok_F_steps at k0
  unfold v_F_steps
  refine (zz_go 8 (fr' := (zm_F_steps, d + 2, 9, [some (.int x0), some (.int x1), some (.int x2), some (.int (x0 &&& (zsl (1 : Int32) x1))), some (.int (0 : Int32))], [])) (h' := (zt_T L, zt_R, M, J, e)) (fun _ => rfl)).trans ?_
  refine zz_weak (L := [some (.int x0), none, some (.int x2), some (.int (x0 &&& (zsl (1 : Int32) x1))), some (.int (0 : Int32))]) ⟨Or.inl rfl, Or.inr ⟨rfl, rfl⟩, Or.inl rfl, Or.inl rfl, Or.inl rfl, trivial⟩ ?_
  refine zf_whY (X := fun (i1 : Nat) (a1 : Int32 × Bool × Int32) => zz_D (zm_F_steps, d + 2, 9, [some (.int x0), none, some (.int x2), some (.int a1.1), some (.int (Int32.ofNat i1))], []) (zt_T L, zt_R, M, J, e)) (Y := fun (a1 : Int32 × Bool × Int32) => (bif a1.2.1 then some (.inl (some (.int a1.2.2)), (zt_T L, zt_R, M, J, e)) else zz_D (zm_F_steps, d + 2, 40, [none, none, none, none, none], []) (zt_T L, zt_R, M, J, e))) (g := (g_F_steps_1 x0 x1 x2)) (k := (kb_F_steps_1 x0 x1 x2)) (fun i1 a1 k3 hx1 hx2 => ?_) 1000 0 ((x0 &&& (zsl (1 : Int32) x1)), false, 0) k0 ?_
  · show zz_D (zm_F_steps, d + 2, 9, [some (.int x0), none, some (.int x2), some (.int a1.1), some (.int (Int32.ofNat i1))], []) (zt_T L, zt_R, M, J, e) = _
    unfold kb_F_steps_1 at k3
    refine (zz_go 2 (fr' := (zm_F_steps, d + 2, 13, [some (.int x0), none, some (.int x2), some (.int a1.1), some (.int (Int32.ofNat i1))], [.int (16 : Int32), .int (Int32.ofNat i1)])) (h' := (zt_T L, zt_R, M, J, e)) (fun _ => rfl)).trans ?_
    rcases zz_bc (decide ((16 : Int32) ≤ (Int32.ofNat i1))) with h4 | h4
    · refine zc_geT rfl h4 ?_
      refine zz_weak (L := [none, none, none, none, none]) ⟨Or.inr ⟨rfl, rfl⟩, Or.inl rfl, Or.inr ⟨rfl, rfl⟩, Or.inr ⟨rfl, rfl⟩, Or.inr ⟨rfl, rfl⟩, trivial⟩ ?_
      have y1 := hx2 (by simp only [g_F_steps_1, h4, zk_t, zk_f, zb_t, zb_f])
      simpa only [g_F_steps_1, h4, zk_t, zk_f, zb_t, zb_f] using y1
    · refine zc_geF rfl h4 ?_
      refine (zz_go 5 (fr' := (zm_F_steps, d + 2, 21, [some (.int x0), none, some (.int x2), some (.int a1.1), some (.int (Int32.ofNat i1))], [.int ((zsr a1.1 x2) &&& (1 : Int32))])) (h' := (zt_T L, zt_R, M, J, e)) (fun _ => rfl)).trans ?_
      rcases zz_bc (decide (((zsr a1.1 x2) &&& (1 : Int32)) = 0)) with h5 | h5
      · refine zo_eqT rfl h5 ?_
        refine (zz_go 1 (fr' := (zm_F_steps, d + 2, 28, [some (.int x0), none, some (.int x2), some (.int a1.1), some (.int (Int32.ofNat i1))], [.int a1.1])) (h' := (zt_T L, zt_R, M, J, e)) (fun _ => rfl)).trans ?_
        refine zl_st (d := d + 1) rfl rfl rfl rfl rfl rfl rfl (s_F_grown L e J (d + 0) a1.1) ?_
        show zz_D (zm_F_steps, d + 2, 31, [some (.int x0), none, some (.int x2), some (.int a1.1), some (.int (Int32.ofNat i1))], [.int (v_F_grown a1.1)]) (zt_T L, zt_R, M, J, e) = _
        refine (zz_go 5 (fr' := (zm_F_steps, d + 2, 9, [some (.int x0), none, some (.int x2), some (.int ((v_F_grown a1.1) &&& x0)), some (.int (Int32.ofNat i1 + 1))], [])) (h' := (zt_T L, zt_R, M, J, e)) (fun _ => rfl)).trans ?_
        rw [zi_succ i1]
        have y1 := hx1 (by simp only [g_F_steps_1, h4, h5, zk_t, zk_f, zb_t, zb_f])
        simpa only [g_F_steps_1, h4, h5, zk_t, zk_f, zb_t, zb_f] using y1
      · refine zo_eqF rfl h5 ?_
        refine (zz_go 1 (fr' := (zm_F_steps, d + 2, 26, [some (.int x0), none, some (.int x2), some (.int a1.1), some (.int (Int32.ofNat i1))], [.int (Int32.ofNat i1)])) (h' := (zt_T L, zt_R, M, J, e)) (fun _ => rfl)).trans ?_
        refine zl_retI rfl rfl ?_
        have y1 := hx2 (by simp only [g_F_steps_1, h4, h5, zk_t, zk_f, zb_t, zb_f])
        simpa only [g_F_steps_1, h4, h5, zk_t, zk_f, zb_t, zb_f] using y1
  show (bif (zf_wh 1000 (g_F_steps_1 x0 x1 x2) 0 ((x0 &&& (zsl (1 : Int32) x1)), false, 0)).2.1 then some (.inl (some (.int (zf_wh 1000 (g_F_steps_1 x0 x1 x2) 0 ((x0 &&& (zsl (1 : Int32) x1)), false, 0)).2.2)), (zt_T L, zt_R, M, J, e)) else zz_D (zm_F_steps, d + 2, 40, [none, none, none, none, none], []) (zt_T L, zt_R, M, J, e)) = _
  refine zz_ec (fun h6 => ?_) (fun h6 => ?_)
  · skip
    first | (simp only [h6, zk_t, zk_f, zb_t, zb_f]; done) | (simp only [h6, zk_t, zk_f, zb_t, zb_f]; rfl) | rfl
  refine (zz_go 1 (fr' := (zm_F_steps, d + 2, 41, [none, none, none, none, none], [.int (-1 : Int32)])) (h' := (zt_T L, zt_R, M, J, e)) (fun _ => rfl)).trans ?_
  refine zl_retI rfl rfl ?_
  first | (simp only [h6, zk_t, zk_f, zb_t, zb_f]; done) | (simp only [h6, zk_t, zk_f, zb_t, zb_f]; rfl) | rfl
def f_F_turnedOnce_1 (x0 : Int32) (i1 : Nat) (a1 : Int32) : Int32 := (a1 ||| (zsl ((zsr x0 (Int32.ofNat i1)) &&& (1 : Int32)) (((((4 : Int32) * (zrm (Int32.ofNat i1) (4 : Int32))) + (4 : Int32)) - (1 : Int32)) - ((Int32.ofNat i1) / (4 : Int32)))))
def v_F_turnedOnce (x0 : Int32) : Int32 := (zf_for 16 (f_F_turnedOnce_1 x0) (0 : Int32))
set_option maxRecDepth 20000 in
set_option maxHeartbeats 2000000 in
theorem s_F_turnedOnce (L e : Nat) (J : zJem) (d : Nat) {M : zMem} (x0 : Int32) : zz_D (zm_F_turnedOnce, d + 1, 0, [some (.int x0), none, none, none, none], []) (zt_T L, zt_R, M, J, e) = some (.inl (some (.int (v_F_turnedOnce x0))), (zt_T L, zt_R, M, J, e)) := by
  unfold v_F_turnedOnce
  refine (zz_go 4 (fr' := (zm_F_turnedOnce, d + 1, 4, [some (.int x0), some (.int (0 : Int32)), some (.int (0 : Int32)), none, none], [])) (h' := (zt_T L, zt_R, M, J, e)) (fun _ => rfl)).trans ?_
  refine zf_forD (X := fun (i1 : Nat) (a1 : Int32) => zz_D (zm_F_turnedOnce, d + 1, 4, [some (.int x0), some (.int a1), some (.int (Int32.ofNat i1)), none, none], []) (zt_T L, zt_R, M, J, e)) (f := (f_F_turnedOnce_1 x0)) (a := (0 : Int32)) 16 (fun i1 hi1 => ?_) ?_
  · intro hx1
    generalize zf_for i1 (f_F_turnedOnce_1 x0) (0 : Int32) = a1 at hx1 ⊢
    show zz_D (zm_F_turnedOnce, d + 1, 4, [some (.int x0), some (.int a1), some (.int (Int32.ofNat i1)), none, none], []) (zt_T L, zt_R, M, J, e) = _
    refine (zz_go 2 (fr' := (zm_F_turnedOnce, d + 1, 7, [some (.int x0), some (.int a1), some (.int (Int32.ofNat i1)), none, none], [.int (16 : Int32), .int (Int32.ofNat i1)])) (h' := (zt_T L, zt_R, M, J, e)) (fun _ => rfl)).trans ?_
    refine zc_geF rfl (zi_ltc (n := 16) (by omega) (by decide)) ?_
    refine (zz_go 2 (fr' := (zm_F_turnedOnce, d + 1, 12, [some (.int x0), some (.int a1), some (.int (Int32.ofNat i1)), none, none], [.int (4 : Int32), .int (Int32.ofNat i1)])) (h' := (zt_T L, zt_R, M, J, e)) (fun _ => rfl)).trans ?_
    refine zl_div rfl (by decide) ?_
    refine (zz_go 3 (fr' := (zm_F_turnedOnce, d + 1, 16, [some (.int x0), some (.int a1), some (.int (Int32.ofNat i1)), some (.int ((Int32.ofNat i1) / (4 : Int32))), none], [.int (4 : Int32), .int (Int32.ofNat i1)])) (h' := (zt_T L, zt_R, M, J, e)) (fun _ => rfl)).trans ?_
    refine zl_rem rfl (by decide) ?_
    refine (zz_go 21 (fr' := (zm_F_turnedOnce, d + 1, 4, [some (.int x0), some (.int (a1 ||| (zsl ((zsr x0 (Int32.ofNat i1)) &&& (1 : Int32)) (((((4 : Int32) * (zrm (Int32.ofNat i1) (4 : Int32))) + (4 : Int32)) - (1 : Int32)) - ((Int32.ofNat i1) / (4 : Int32)))))), some (.int (Int32.ofNat i1 + 1)), some (.int ((Int32.ofNat i1) / (4 : Int32))), some (.int (zrm (Int32.ofNat i1) (4 : Int32)))], [])) (h' := (zt_T L, zt_R, M, J, e)) (fun _ => rfl)).trans ?_
    refine zz_weak (L := [some (.int x0), some (.int (a1 ||| (zsl ((zsr x0 (Int32.ofNat i1)) &&& (1 : Int32)) (((((4 : Int32) * (zrm (Int32.ofNat i1) (4 : Int32))) + (4 : Int32)) - (1 : Int32)) - ((Int32.ofNat i1) / (4 : Int32)))))), some (.int (Int32.ofNat i1 + 1)), none, none]) ⟨Or.inl rfl, Or.inl rfl, Or.inl rfl, Or.inr ⟨rfl, rfl⟩, Or.inr ⟨rfl, rfl⟩, trivial⟩ ?_
    rw [zi_succ i1]
    exact hx1
  show zz_D (zm_F_turnedOnce, d + 1, 4, [some (.int x0), some (.int (zf_for 16 (f_F_turnedOnce_1 x0) (0 : Int32))), some (.int (Int32.ofNat 16)), none, none], []) (zt_T L, zt_R, M, J, e) = _
  refine (zz_go 2 (fr' := (zm_F_turnedOnce, d + 1, 7, [some (.int x0), some (.int (zf_for 16 (f_F_turnedOnce_1 x0) (0 : Int32))), some (.int (Int32.ofNat 16)), none, none], [.int (16 : Int32), .int (Int32.ofNat 16)])) (h' := (zt_T L, zt_R, M, J, e)) (fun _ => rfl)).trans ?_
  refine zc_geT rfl (by decide) ?_
  refine zz_weak (L := [none, some (.int (zf_for 16 (f_F_turnedOnce_1 x0) (0 : Int32))), none, none, none]) ⟨Or.inr ⟨rfl, rfl⟩, Or.inl rfl, Or.inr ⟨rfl, rfl⟩, Or.inl rfl, Or.inl rfl, trivial⟩ ?_
  refine (zz_go 1 (fr' := (zm_F_turnedOnce, d + 1, 45, [none, some (.int (zf_for 16 (f_F_turnedOnce_1 x0) (0 : Int32))), none, none, none], [.int (zf_for 16 (f_F_turnedOnce_1 x0) (0 : Int32))])) (h' := (zt_T L, zt_R, M, J, e)) (fun _ => rfl)).trans ?_
  refine zl_retI rfl rfl ?_
  rfl
def g_F_quarterTurns_1 (x0 : Int32) (x1 : Int32) (i1 : Nat) (a1 : Int32 × Bool × Int32) : Bool × (Int32 × Bool × Int32) := ((bif (decide ((4 : Int32) ≤ (Int32.ofNat i1))) then false else (bif (decide (a1.1 = x1)) then false else true)), ((bif (decide ((4 : Int32) ≤ (Int32.ofNat i1))) then a1.1 else (bif (decide (a1.1 = x1)) then a1.1 else (v_F_turnedOnce a1.1))), (bif (decide ((4 : Int32) ≤ (Int32.ofNat i1))) then false else (decide (a1.1 = x1))), (bif (decide ((4 : Int32) ≤ (Int32.ofNat i1))) then a1.2.2 else (bif (decide (a1.1 = x1)) then (Int32.ofNat i1) else a1.2.2))))
def kb_F_quarterTurns_1 (x0 : Int32) (x1 : Int32) (i1 : Nat) (a1 : Int32 × Bool × Int32) : Prop := True
def v_F_quarterTurns (x0 : Int32) (x1 : Int32) : Int32 := (bif (zf_wh 1000 (g_F_quarterTurns_1 x0 x1) 0 (x0, false, 0)).2.1 then (zf_wh 1000 (g_F_quarterTurns_1 x0 x1) 0 (x0, false, 0)).2.2 else (-1 : Int32))
def ok_F_quarterTurns (x0 : Int32) (x1 : Int32) : Prop := (zf_wk 1000 (g_F_quarterTurns_1 x0 x1) (kb_F_quarterTurns_1 x0 x1) 0 (x0, false, 0))
set_option maxRecDepth 20000 in
set_option maxHeartbeats 2000000 in
theorem s_F_quarterTurns (L e : Nat) (J : zJem) (d : Nat) {M : zMem} (x0 : Int32) (x1 : Int32) (k0 : ok_F_quarterTurns x0 x1) : zz_D (zm_F_quarterTurns, d + 2, 0, [some (.int x0), some (.int x1), none, none], []) (zt_T L, zt_R, M, J, e) = some (.inl (some (.int (v_F_quarterTurns x0 x1))), (zt_T L, zt_R, M, J, e)) := by
  unfold ok_F_quarterTurns at k0
  unfold v_F_quarterTurns
  refine (zz_go 4 (fr' := (zm_F_quarterTurns, d + 2, 4, [some (.int x0), some (.int x1), some (.int x0), some (.int (0 : Int32))], [])) (h' := (zt_T L, zt_R, M, J, e)) (fun _ => rfl)).trans ?_
  refine zz_weak (L := [none, some (.int x1), some (.int x0), some (.int (0 : Int32))]) ⟨Or.inr ⟨rfl, rfl⟩, Or.inl rfl, Or.inl rfl, Or.inl rfl, trivial⟩ ?_
  refine zf_whY (X := fun (i1 : Nat) (a1 : Int32 × Bool × Int32) => zz_D (zm_F_quarterTurns, d + 2, 4, [none, some (.int x1), some (.int a1.1), some (.int (Int32.ofNat i1))], []) (zt_T L, zt_R, M, J, e)) (Y := fun (a1 : Int32 × Bool × Int32) => (bif a1.2.1 then some (.inl (some (.int a1.2.2)), (zt_T L, zt_R, M, J, e)) else zz_D (zm_F_quarterTurns, d + 2, 27, [none, none, none, none], []) (zt_T L, zt_R, M, J, e))) (g := (g_F_quarterTurns_1 x0 x1)) (k := (kb_F_quarterTurns_1 x0 x1)) (fun i1 a1 k3 hx1 hx2 => ?_) 1000 0 (x0, false, 0) k0 ?_
  · show zz_D (zm_F_quarterTurns, d + 2, 4, [none, some (.int x1), some (.int a1.1), some (.int (Int32.ofNat i1))], []) (zt_T L, zt_R, M, J, e) = _
    unfold kb_F_quarterTurns_1 at k3
    refine (zz_go 2 (fr' := (zm_F_quarterTurns, d + 2, 6, [none, some (.int x1), some (.int a1.1), some (.int (Int32.ofNat i1))], [.int (4 : Int32), .int (Int32.ofNat i1)])) (h' := (zt_T L, zt_R, M, J, e)) (fun _ => rfl)).trans ?_
    rcases zz_bc (decide ((4 : Int32) ≤ (Int32.ofNat i1))) with h4 | h4
    · refine zc_geT rfl h4 ?_
      refine zz_weak (L := [none, none, none, none]) ⟨Or.inl rfl, Or.inr ⟨rfl, rfl⟩, Or.inr ⟨rfl, rfl⟩, Or.inr ⟨rfl, rfl⟩, trivial⟩ ?_
      have y1 := hx2 (by simp only [g_F_quarterTurns_1, h4, zk_t, zk_f, zb_t, zb_f])
      simpa only [g_F_quarterTurns_1, h4, zk_t, zk_f, zb_t, zb_f] using y1
    · refine zc_geF rfl h4 ?_
      refine (zz_go 2 (fr' := (zm_F_quarterTurns, d + 2, 11, [none, some (.int x1), some (.int a1.1), some (.int (Int32.ofNat i1))], [.int x1, .int a1.1])) (h' := (zt_T L, zt_R, M, J, e)) (fun _ => rfl)).trans ?_
      rcases zz_bc (decide (a1.1 = x1)) with h5 | h5
      · refine zc_neT rfl h5 ?_
        refine (zz_go 1 (fr' := (zm_F_quarterTurns, d + 2, 15, [none, some (.int x1), some (.int a1.1), some (.int (Int32.ofNat i1))], [.int (Int32.ofNat i1)])) (h' := (zt_T L, zt_R, M, J, e)) (fun _ => rfl)).trans ?_
        refine zl_retI rfl rfl ?_
        have y1 := hx2 (by simp only [g_F_quarterTurns_1, h4, h5, zk_t, zk_f, zb_t, zb_f])
        simpa only [g_F_quarterTurns_1, h4, h5, zk_t, zk_f, zb_t, zb_f] using y1
      · refine zc_neF rfl h5 ?_
        refine (zz_go 1 (fr' := (zm_F_quarterTurns, d + 2, 17, [none, some (.int x1), some (.int a1.1), some (.int (Int32.ofNat i1))], [.int a1.1])) (h' := (zt_T L, zt_R, M, J, e)) (fun _ => rfl)).trans ?_
        refine zl_st (d := d + 1) rfl rfl rfl rfl rfl rfl rfl (s_F_turnedOnce L e J (d + 0) a1.1) ?_
        show zz_D (zm_F_quarterTurns, d + 2, 20, [none, some (.int x1), some (.int a1.1), some (.int (Int32.ofNat i1))], [.int (v_F_turnedOnce a1.1)]) (zt_T L, zt_R, M, J, e) = _
        refine (zz_go 3 (fr' := (zm_F_quarterTurns, d + 2, 4, [none, some (.int x1), some (.int (v_F_turnedOnce a1.1)), some (.int (Int32.ofNat i1 + 1))], [])) (h' := (zt_T L, zt_R, M, J, e)) (fun _ => rfl)).trans ?_
        rw [zi_succ i1]
        have y1 := hx1 (by simp only [g_F_quarterTurns_1, h4, h5, zk_t, zk_f, zb_t, zb_f])
        simpa only [g_F_quarterTurns_1, h4, h5, zk_t, zk_f, zb_t, zb_f] using y1
  show (bif (zf_wh 1000 (g_F_quarterTurns_1 x0 x1) 0 (x0, false, 0)).2.1 then some (.inl (some (.int (zf_wh 1000 (g_F_quarterTurns_1 x0 x1) 0 (x0, false, 0)).2.2)), (zt_T L, zt_R, M, J, e)) else zz_D (zm_F_quarterTurns, d + 2, 27, [none, none, none, none], []) (zt_T L, zt_R, M, J, e)) = _
  refine zz_ec (fun h6 => ?_) (fun h6 => ?_)
  · skip
    first | (simp only [h6, zk_t, zk_f, zb_t, zb_f]; done) | (simp only [h6, zk_t, zk_f, zb_t, zb_f]; rfl) | rfl
  refine (zz_go 1 (fr' := (zm_F_quarterTurns, d + 2, 28, [none, none, none, none], [.int (-1 : Int32)])) (h' := (zt_T L, zt_R, M, J, e)) (fun _ => rfl)).trans ?_
  refine zl_retI rfl rfl ?_
  first | (simp only [h6, zk_t, zk_f, zb_t, zb_f]; done) | (simp only [h6, zk_t, zk_f, zb_t, zb_f]; rfl) | rfl
def f_F_lyingOn_1 (x0 : Int32) (x1 : Int32) (x2 : Int32) (i1 : Nat) (a1 : Int32) : Int32 := (zsl (a1 &&& (-34953 : Int32)) (1 : Int32))
def f_F_lyingOn_2 (x0 : Int32) (x1 : Int32) (x2 : Int32) (i2 : Nat) (a2 : Int32) : Int32 := (zsr (a2 &&& (-4370 : Int32)) (1 : Int32))
def v_F_lyingOn (x0 : Int32) (x1 : Int32) (x2 : Int32) : Int32 := (v_ji_bitCount ((bif (decide (((x2 / (7 : Int32)) - (3 : Int32)) < 0)) then (zsr (zf_for (-((zrm x2 (7 : Int32)) - (3 : Int32))).toNatClampNeg (f_F_lyingOn_2 x0 x1 x2) (zf_for ((zrm x2 (7 : Int32)) - (3 : Int32)).toNatClampNeg (f_F_lyingOn_1 x0 x1 x2) x0)) ((-4 : Int32) * ((x2 / (7 : Int32)) - (3 : Int32)))) else (zsl (zf_for (-((zrm x2 (7 : Int32)) - (3 : Int32))).toNatClampNeg (f_F_lyingOn_2 x0 x1 x2) (zf_for ((zrm x2 (7 : Int32)) - (3 : Int32)).toNatClampNeg (f_F_lyingOn_1 x0 x1 x2) x0)) ((4 : Int32) * ((x2 / (7 : Int32)) - (3 : Int32))))) &&& x1))
set_option maxRecDepth 20000 in
set_option maxHeartbeats 2000000 in
theorem s_F_lyingOn (L e : Nat) (J : zJem) (d : Nat) {M : zMem} (x0 : Int32) (x1 : Int32) (x2 : Int32) : zz_D (zm_F_lyingOn, d + 2, 0, [some (.int x0), some (.int x1), some (.int x2), none, none, none, none], []) (zt_T L, zt_R, M, J, e) = some (.inl (some (.int (v_F_lyingOn x0 x1 x2))), (zt_T L, zt_R, M, J, e)) := by
  unfold v_F_lyingOn
  refine (zz_go 2 (fr' := (zm_F_lyingOn, d + 2, 3, [some (.int x0), some (.int x1), some (.int x2), none, none, none, none], [.int (7 : Int32), .int x2])) (h' := (zt_T L, zt_R, M, J, e)) (fun _ => rfl)).trans ?_
  refine zl_div rfl (by decide) ?_
  refine (zz_go 5 (fr' := (zm_F_lyingOn, d + 2, 10, [some (.int x0), some (.int x1), some (.int x2), some (.int ((x2 / (7 : Int32)) - (3 : Int32))), none, none, none], [.int (7 : Int32), .int x2])) (h' := (zt_T L, zt_R, M, J, e)) (fun _ => rfl)).trans ?_
  refine zl_rem rfl (by decide) ?_
  refine (zz_go 7 (fr' := (zm_F_lyingOn, d + 2, 21, [some (.int x0), some (.int x1), some (.int x2), some (.int ((x2 / (7 : Int32)) - (3 : Int32))), some (.int ((zrm x2 (7 : Int32)) - (3 : Int32))), some (.int x0), some (.int (0 : Int32))], [])) (h' := (zt_T L, zt_R, M, J, e)) (fun _ => rfl)).trans ?_
  refine zz_weak (L := [none, some (.int x1), none, some (.int ((x2 / (7 : Int32)) - (3 : Int32))), some (.int ((zrm x2 (7 : Int32)) - (3 : Int32))), some (.int x0), some (.int (0 : Int32))]) ⟨Or.inr ⟨rfl, rfl⟩, Or.inl rfl, Or.inr ⟨rfl, rfl⟩, Or.inl rfl, Or.inl rfl, Or.inl rfl, Or.inl rfl, trivial⟩ ?_
  refine zf_forD (X := fun (i1 : Nat) (a1 : Int32) => zz_D (zm_F_lyingOn, d + 2, 21, [none, some (.int x1), none, some (.int ((x2 / (7 : Int32)) - (3 : Int32))), some (.int ((zrm x2 (7 : Int32)) - (3 : Int32))), some (.int a1), some (.int (Int32.ofNat i1))], []) (zt_T L, zt_R, M, J, e)) (f := (f_F_lyingOn_1 x0 x1 x2)) (a := x0) ((zrm x2 (7 : Int32)) - (3 : Int32)).toNatClampNeg (fun i1 hi1 => ?_) ?_
  · intro hx1
    generalize zf_for i1 (f_F_lyingOn_1 x0 x1 x2) x0 = a1 at hx1 ⊢
    show zz_D (zm_F_lyingOn, d + 2, 21, [none, some (.int x1), none, some (.int ((x2 / (7 : Int32)) - (3 : Int32))), some (.int ((zrm x2 (7 : Int32)) - (3 : Int32))), some (.int a1), some (.int (Int32.ofNat i1))], []) (zt_T L, zt_R, M, J, e) = _
    refine (zz_go 2 (fr' := (zm_F_lyingOn, d + 2, 25, [none, some (.int x1), none, some (.int ((x2 / (7 : Int32)) - (3 : Int32))), some (.int ((zrm x2 (7 : Int32)) - (3 : Int32))), some (.int a1), some (.int (Int32.ofNat i1))], [.int ((zrm x2 (7 : Int32)) - (3 : Int32)), .int (Int32.ofNat i1)])) (h' := (zt_T L, zt_R, M, J, e)) (fun _ => rfl)).trans ?_
    refine zc_geF rfl (zi_lt hi1) ?_
    refine (zz_go 8 (fr' := (zm_F_lyingOn, d + 2, 21, [none, some (.int x1), none, some (.int ((x2 / (7 : Int32)) - (3 : Int32))), some (.int ((zrm x2 (7 : Int32)) - (3 : Int32))), some (.int (zsl (a1 &&& (-34953 : Int32)) (1 : Int32))), some (.int (Int32.ofNat i1 + 1))], [])) (h' := (zt_T L, zt_R, M, J, e)) (fun _ => rfl)).trans ?_
    rw [zi_succ i1]
    exact hx1
  show zz_D (zm_F_lyingOn, d + 2, 21, [none, some (.int x1), none, some (.int ((x2 / (7 : Int32)) - (3 : Int32))), some (.int ((zrm x2 (7 : Int32)) - (3 : Int32))), some (.int (zf_for ((zrm x2 (7 : Int32)) - (3 : Int32)).toNatClampNeg (f_F_lyingOn_1 x0 x1 x2) x0)), some (.int (Int32.ofNat ((zrm x2 (7 : Int32)) - (3 : Int32)).toNatClampNeg))], []) (zt_T L, zt_R, M, J, e) = _
  refine (zz_go 2 (fr' := (zm_F_lyingOn, d + 2, 25, [none, some (.int x1), none, some (.int ((x2 / (7 : Int32)) - (3 : Int32))), some (.int ((zrm x2 (7 : Int32)) - (3 : Int32))), some (.int (zf_for ((zrm x2 (7 : Int32)) - (3 : Int32)).toNatClampNeg (f_F_lyingOn_1 x0 x1 x2) x0)), some (.int (Int32.ofNat ((zrm x2 (7 : Int32)) - (3 : Int32)).toNatClampNeg))], [.int ((zrm x2 (7 : Int32)) - (3 : Int32)), .int (Int32.ofNat ((zrm x2 (7 : Int32)) - (3 : Int32)).toNatClampNeg)])) (h' := (zt_T L, zt_R, M, J, e)) (fun _ => rfl)).trans ?_
  refine zc_geT rfl (zi_ge _) ?_
  refine zz_weak (L := [none, some (.int x1), none, some (.int ((x2 / (7 : Int32)) - (3 : Int32))), some (.int ((zrm x2 (7 : Int32)) - (3 : Int32))), some (.int (zf_for ((zrm x2 (7 : Int32)) - (3 : Int32)).toNatClampNeg (f_F_lyingOn_1 x0 x1 x2) x0)), none]) ⟨Or.inl rfl, Or.inl rfl, Or.inl rfl, Or.inl rfl, Or.inl rfl, Or.inl rfl, Or.inr ⟨rfl, rfl⟩, trivial⟩ ?_
  refine (zz_go 2 (fr' := (zm_F_lyingOn, d + 2, 46, [none, some (.int x1), none, some (.int ((x2 / (7 : Int32)) - (3 : Int32))), some (.int ((zrm x2 (7 : Int32)) - (3 : Int32))), some (.int (zf_for ((zrm x2 (7 : Int32)) - (3 : Int32)).toNatClampNeg (f_F_lyingOn_1 x0 x1 x2) x0)), some (.int (0 : Int32))], [])) (h' := (zt_T L, zt_R, M, J, e)) (fun _ => rfl)).trans ?_
  refine zf_forD (X := fun (i2 : Nat) (a2 : Int32) => zz_D (zm_F_lyingOn, d + 2, 46, [none, some (.int x1), none, some (.int ((x2 / (7 : Int32)) - (3 : Int32))), some (.int ((zrm x2 (7 : Int32)) - (3 : Int32))), some (.int a2), some (.int (Int32.ofNat i2))], []) (zt_T L, zt_R, M, J, e)) (f := (f_F_lyingOn_2 x0 x1 x2)) (a := (zf_for ((zrm x2 (7 : Int32)) - (3 : Int32)).toNatClampNeg (f_F_lyingOn_1 x0 x1 x2) x0)) (-((zrm x2 (7 : Int32)) - (3 : Int32))).toNatClampNeg (fun i2 hi2 => ?_) ?_
  · intro hx3
    generalize zf_for i2 (f_F_lyingOn_2 x0 x1 x2) (zf_for ((zrm x2 (7 : Int32)) - (3 : Int32)).toNatClampNeg (f_F_lyingOn_1 x0 x1 x2) x0) = a2 at hx3 ⊢
    show zz_D (zm_F_lyingOn, d + 2, 46, [none, some (.int x1), none, some (.int ((x2 / (7 : Int32)) - (3 : Int32))), some (.int ((zrm x2 (7 : Int32)) - (3 : Int32))), some (.int a2), some (.int (Int32.ofNat i2))], []) (zt_T L, zt_R, M, J, e) = _
    refine (zz_go 3 (fr' := (zm_F_lyingOn, d + 2, 51, [none, some (.int x1), none, some (.int ((x2 / (7 : Int32)) - (3 : Int32))), some (.int ((zrm x2 (7 : Int32)) - (3 : Int32))), some (.int a2), some (.int (Int32.ofNat i2))], [.int (-((zrm x2 (7 : Int32)) - (3 : Int32))), .int (Int32.ofNat i2)])) (h' := (zt_T L, zt_R, M, J, e)) (fun _ => rfl)).trans ?_
    refine zc_geF rfl (zi_lt hi2) ?_
    refine (zz_go 8 (fr' := (zm_F_lyingOn, d + 2, 46, [none, some (.int x1), none, some (.int ((x2 / (7 : Int32)) - (3 : Int32))), some (.int ((zrm x2 (7 : Int32)) - (3 : Int32))), some (.int (zsr (a2 &&& (-4370 : Int32)) (1 : Int32))), some (.int (Int32.ofNat i2 + 1))], [])) (h' := (zt_T L, zt_R, M, J, e)) (fun _ => rfl)).trans ?_
    rw [zi_succ i2]
    exact hx3
  show zz_D (zm_F_lyingOn, d + 2, 46, [none, some (.int x1), none, some (.int ((x2 / (7 : Int32)) - (3 : Int32))), some (.int ((zrm x2 (7 : Int32)) - (3 : Int32))), some (.int (zf_for (-((zrm x2 (7 : Int32)) - (3 : Int32))).toNatClampNeg (f_F_lyingOn_2 x0 x1 x2) (zf_for ((zrm x2 (7 : Int32)) - (3 : Int32)).toNatClampNeg (f_F_lyingOn_1 x0 x1 x2) x0))), some (.int (Int32.ofNat (-((zrm x2 (7 : Int32)) - (3 : Int32))).toNatClampNeg))], []) (zt_T L, zt_R, M, J, e) = _
  refine (zz_go 3 (fr' := (zm_F_lyingOn, d + 2, 51, [none, some (.int x1), none, some (.int ((x2 / (7 : Int32)) - (3 : Int32))), some (.int ((zrm x2 (7 : Int32)) - (3 : Int32))), some (.int (zf_for (-((zrm x2 (7 : Int32)) - (3 : Int32))).toNatClampNeg (f_F_lyingOn_2 x0 x1 x2) (zf_for ((zrm x2 (7 : Int32)) - (3 : Int32)).toNatClampNeg (f_F_lyingOn_1 x0 x1 x2) x0))), some (.int (Int32.ofNat (-((zrm x2 (7 : Int32)) - (3 : Int32))).toNatClampNeg))], [.int (-((zrm x2 (7 : Int32)) - (3 : Int32))), .int (Int32.ofNat (-((zrm x2 (7 : Int32)) - (3 : Int32))).toNatClampNeg)])) (h' := (zt_T L, zt_R, M, J, e)) (fun _ => rfl)).trans ?_
  refine zc_geT rfl (zi_ge _) ?_
  refine zz_weak (L := [none, some (.int x1), none, some (.int ((x2 / (7 : Int32)) - (3 : Int32))), none, some (.int (zf_for (-((zrm x2 (7 : Int32)) - (3 : Int32))).toNatClampNeg (f_F_lyingOn_2 x0 x1 x2) (zf_for ((zrm x2 (7 : Int32)) - (3 : Int32)).toNatClampNeg (f_F_lyingOn_1 x0 x1 x2) x0))), none]) ⟨Or.inl rfl, Or.inl rfl, Or.inl rfl, Or.inl rfl, Or.inr ⟨rfl, rfl⟩, Or.inl rfl, Or.inr ⟨rfl, rfl⟩, trivial⟩ ?_
  refine zz_jn (X := zz_D (zm_F_lyingOn, d + 2, 90, [none, some (.int x1), none, none, none, none, none], [.int (bif (decide (((x2 / (7 : Int32)) - (3 : Int32)) < 0)) then (zsr (zf_for (-((zrm x2 (7 : Int32)) - (3 : Int32))).toNatClampNeg (f_F_lyingOn_2 x0 x1 x2) (zf_for ((zrm x2 (7 : Int32)) - (3 : Int32)).toNatClampNeg (f_F_lyingOn_1 x0 x1 x2) x0)) ((-4 : Int32) * ((x2 / (7 : Int32)) - (3 : Int32)))) else (zsl (zf_for (-((zrm x2 (7 : Int32)) - (3 : Int32))).toNatClampNeg (f_F_lyingOn_2 x0 x1 x2) (zf_for ((zrm x2 (7 : Int32)) - (3 : Int32)).toNatClampNeg (f_F_lyingOn_1 x0 x1 x2) x0)) ((4 : Int32) * ((x2 / (7 : Int32)) - (3 : Int32)))))]) (zt_T L, zt_R, M, J, e)) (fun j5 => ?_) ?_
  · refine (zz_go 1 (fr' := (zm_F_lyingOn, d + 2, 71, [none, some (.int x1), none, some (.int ((x2 / (7 : Int32)) - (3 : Int32))), none, some (.int (zf_for (-((zrm x2 (7 : Int32)) - (3 : Int32))).toNatClampNeg (f_F_lyingOn_2 x0 x1 x2) (zf_for ((zrm x2 (7 : Int32)) - (3 : Int32)).toNatClampNeg (f_F_lyingOn_1 x0 x1 x2) x0))), none], [.int ((x2 / (7 : Int32)) - (3 : Int32))])) (h' := (zt_T L, zt_R, M, J, e)) (fun _ => rfl)).trans ?_
    rcases zz_bc (decide (((x2 / (7 : Int32)) - (3 : Int32)) < 0)) with h6 | h6
    · refine zo_ltT rfl h6 ?_
      refine (zz_go 5 (fr' := (zm_F_lyingOn, d + 2, 90, [none, some (.int x1), none, some (.int ((x2 / (7 : Int32)) - (3 : Int32))), none, some (.int (zf_for (-((zrm x2 (7 : Int32)) - (3 : Int32))).toNatClampNeg (f_F_lyingOn_2 x0 x1 x2) (zf_for ((zrm x2 (7 : Int32)) - (3 : Int32)).toNatClampNeg (f_F_lyingOn_1 x0 x1 x2) x0))), none], [.int (zsr (zf_for (-((zrm x2 (7 : Int32)) - (3 : Int32))).toNatClampNeg (f_F_lyingOn_2 x0 x1 x2) (zf_for ((zrm x2 (7 : Int32)) - (3 : Int32)).toNatClampNeg (f_F_lyingOn_1 x0 x1 x2) x0)) ((-4 : Int32) * ((x2 / (7 : Int32)) - (3 : Int32))))])) (h' := (zt_T L, zt_R, M, J, e)) (fun _ => rfl)).trans ?_
      refine zz_weak (L := [none, some (.int x1), none, none, none, none, none]) ⟨Or.inl rfl, Or.inl rfl, Or.inl rfl, Or.inr ⟨rfl, rfl⟩, Or.inl rfl, Or.inr ⟨rfl, rfl⟩, Or.inl rfl, trivial⟩ ?_
      simpa only [h6, zk_t, zk_f, zb_t, zb_f] using j5
    · refine zo_ltF rfl h6 ?_
      refine (zz_go 6 (fr' := (zm_F_lyingOn, d + 2, 90, [none, some (.int x1), none, some (.int ((x2 / (7 : Int32)) - (3 : Int32))), none, some (.int (zf_for (-((zrm x2 (7 : Int32)) - (3 : Int32))).toNatClampNeg (f_F_lyingOn_2 x0 x1 x2) (zf_for ((zrm x2 (7 : Int32)) - (3 : Int32)).toNatClampNeg (f_F_lyingOn_1 x0 x1 x2) x0))), none], [.int (zsl (zf_for (-((zrm x2 (7 : Int32)) - (3 : Int32))).toNatClampNeg (f_F_lyingOn_2 x0 x1 x2) (zf_for ((zrm x2 (7 : Int32)) - (3 : Int32)).toNatClampNeg (f_F_lyingOn_1 x0 x1 x2) x0)) ((4 : Int32) * ((x2 / (7 : Int32)) - (3 : Int32))))])) (h' := (zt_T L, zt_R, M, J, e)) (fun _ => rfl)).trans ?_
      refine zz_weak (L := [none, some (.int x1), none, none, none, none, none]) ⟨Or.inl rfl, Or.inl rfl, Or.inl rfl, Or.inr ⟨rfl, rfl⟩, Or.inl rfl, Or.inr ⟨rfl, rfl⟩, Or.inl rfl, trivial⟩ ?_
      simpa only [h6, zk_t, zk_f, zb_t, zb_f] using j5
  refine (zz_go 4 (fr' := (zm_F_lyingOn, d + 2, 96, [none, some (.int x1), none, none, none, some (.int (bif (decide (((x2 / (7 : Int32)) - (3 : Int32)) < 0)) then (zsr (zf_for (-((zrm x2 (7 : Int32)) - (3 : Int32))).toNatClampNeg (f_F_lyingOn_2 x0 x1 x2) (zf_for ((zrm x2 (7 : Int32)) - (3 : Int32)).toNatClampNeg (f_F_lyingOn_1 x0 x1 x2) x0)) ((-4 : Int32) * ((x2 / (7 : Int32)) - (3 : Int32)))) else (zsl (zf_for (-((zrm x2 (7 : Int32)) - (3 : Int32))).toNatClampNeg (f_F_lyingOn_2 x0 x1 x2) (zf_for ((zrm x2 (7 : Int32)) - (3 : Int32)).toNatClampNeg (f_F_lyingOn_1 x0 x1 x2) x0)) ((4 : Int32) * ((x2 / (7 : Int32)) - (3 : Int32)))))), none], [.int ((bif (decide (((x2 / (7 : Int32)) - (3 : Int32)) < 0)) then (zsr (zf_for (-((zrm x2 (7 : Int32)) - (3 : Int32))).toNatClampNeg (f_F_lyingOn_2 x0 x1 x2) (zf_for ((zrm x2 (7 : Int32)) - (3 : Int32)).toNatClampNeg (f_F_lyingOn_1 x0 x1 x2) x0)) ((-4 : Int32) * ((x2 / (7 : Int32)) - (3 : Int32)))) else (zsl (zf_for (-((zrm x2 (7 : Int32)) - (3 : Int32))).toNatClampNeg (f_F_lyingOn_2 x0 x1 x2) (zf_for ((zrm x2 (7 : Int32)) - (3 : Int32)).toNatClampNeg (f_F_lyingOn_1 x0 x1 x2) x0)) ((4 : Int32) * ((x2 / (7 : Int32)) - (3 : Int32))))) &&& x1)])) (h' := (zt_T L, zt_R, M, J, e)) (fun _ => rfl)).trans ?_
  refine zl_st (d := d + 1) rfl rfl rfl rfl rfl rfl rfl (s_ji_bitCount L e J (d + 0) ((bif (decide (((x2 / (7 : Int32)) - (3 : Int32)) < 0)) then (zsr (zf_for (-((zrm x2 (7 : Int32)) - (3 : Int32))).toNatClampNeg (f_F_lyingOn_2 x0 x1 x2) (zf_for ((zrm x2 (7 : Int32)) - (3 : Int32)).toNatClampNeg (f_F_lyingOn_1 x0 x1 x2) x0)) ((-4 : Int32) * ((x2 / (7 : Int32)) - (3 : Int32)))) else (zsl (zf_for (-((zrm x2 (7 : Int32)) - (3 : Int32))).toNatClampNeg (f_F_lyingOn_2 x0 x1 x2) (zf_for ((zrm x2 (7 : Int32)) - (3 : Int32)).toNatClampNeg (f_F_lyingOn_1 x0 x1 x2) x0)) ((4 : Int32) * ((x2 / (7 : Int32)) - (3 : Int32))))) &&& x1)) ?_
  show zz_D (zm_F_lyingOn, d + 2, 99, [none, some (.int x1), none, none, none, some (.int (bif (decide (((x2 / (7 : Int32)) - (3 : Int32)) < 0)) then (zsr (zf_for (-((zrm x2 (7 : Int32)) - (3 : Int32))).toNatClampNeg (f_F_lyingOn_2 x0 x1 x2) (zf_for ((zrm x2 (7 : Int32)) - (3 : Int32)).toNatClampNeg (f_F_lyingOn_1 x0 x1 x2) x0)) ((-4 : Int32) * ((x2 / (7 : Int32)) - (3 : Int32)))) else (zsl (zf_for (-((zrm x2 (7 : Int32)) - (3 : Int32))).toNatClampNeg (f_F_lyingOn_2 x0 x1 x2) (zf_for ((zrm x2 (7 : Int32)) - (3 : Int32)).toNatClampNeg (f_F_lyingOn_1 x0 x1 x2) x0)) ((4 : Int32) * ((x2 / (7 : Int32)) - (3 : Int32)))))), none], [.int (v_ji_bitCount ((bif (decide (((x2 / (7 : Int32)) - (3 : Int32)) < 0)) then (zsr (zf_for (-((zrm x2 (7 : Int32)) - (3 : Int32))).toNatClampNeg (f_F_lyingOn_2 x0 x1 x2) (zf_for ((zrm x2 (7 : Int32)) - (3 : Int32)).toNatClampNeg (f_F_lyingOn_1 x0 x1 x2) x0)) ((-4 : Int32) * ((x2 / (7 : Int32)) - (3 : Int32)))) else (zsl (zf_for (-((zrm x2 (7 : Int32)) - (3 : Int32))).toNatClampNeg (f_F_lyingOn_2 x0 x1 x2) (zf_for ((zrm x2 (7 : Int32)) - (3 : Int32)).toNatClampNeg (f_F_lyingOn_1 x0 x1 x2) x0)) ((4 : Int32) * ((x2 / (7 : Int32)) - (3 : Int32))))) &&& x1))]) (zt_T L, zt_R, M, J, e) = _
  refine zl_retI rfl rfl ?_
  rfl
def f_F_bestShift_1 (x0 : Int32) (x1 : Int32) (i1 : Nat) (a1 : Int32 × Int32) : Int32 × Int32 := ((bif (decide ((v_F_lyingOn x0 x1 (Int32.ofNat i1)) ≤ a1.2)) then a1.1 else (Int32.ofNat i1)), (bif (decide ((v_F_lyingOn x0 x1 (Int32.ofNat i1)) ≤ a1.2)) then a1.2 else (v_F_lyingOn x0 x1 (Int32.ofNat i1))))
def v_F_bestShift (x0 : Int32) (x1 : Int32) : Int32 := (zf_for 49 (f_F_bestShift_1 x0 x1) ((0 : Int32), (0 : Int32))).1
set_option maxRecDepth 20000 in
set_option maxHeartbeats 2000000 in
theorem s_F_bestShift (L e : Nat) (J : zJem) (d : Nat) {M : zMem} (x0 : Int32) (x1 : Int32) : zz_D (zm_F_bestShift, d + 3, 0, [some (.int x0), some (.int x1), none, none, none, none], []) (zt_T L, zt_R, M, J, e) = some (.inl (some (.int (v_F_bestShift x0 x1))), (zt_T L, zt_R, M, J, e)) := by
  unfold v_F_bestShift
  refine (zz_go 6 (fr' := (zm_F_bestShift, d + 3, 7, [some (.int x0), some (.int x1), some (.int (0 : Int32)), some (.int (0 : Int32)), some (.int (0 : Int32)), none], [])) (h' := (zt_T L, zt_R, M, J, e)) (fun _ => rfl)).trans ?_
  refine zf_forD (X := fun (i1 : Nat) (a1 : Int32 × Int32) => zz_D (zm_F_bestShift, d + 3, 7, [some (.int x0), some (.int x1), some (.int a1.1), some (.int a1.2), some (.int (Int32.ofNat i1)), none], []) (zt_T L, zt_R, M, J, e)) (f := (f_F_bestShift_1 x0 x1)) (a := ((0 : Int32), (0 : Int32))) 49 (fun i1 hi1 => ?_) ?_
  · intro hx1
    generalize zf_for i1 (f_F_bestShift_1 x0 x1) ((0 : Int32), (0 : Int32)) = a1 at hx1 ⊢
    show zz_D (zm_F_bestShift, d + 3, 7, [some (.int x0), some (.int x1), some (.int a1.1), some (.int a1.2), some (.int (Int32.ofNat i1)), none], []) (zt_T L, zt_R, M, J, e) = _
    refine (zz_go 2 (fr' := (zm_F_bestShift, d + 3, 11, [some (.int x0), some (.int x1), some (.int a1.1), some (.int a1.2), some (.int (Int32.ofNat i1)), none], [.int (49 : Int32), .int (Int32.ofNat i1)])) (h' := (zt_T L, zt_R, M, J, e)) (fun _ => rfl)).trans ?_
    refine zc_geF rfl (zi_ltc (n := 49) (by omega) (by decide)) ?_
    refine (zz_go 3 (fr' := (zm_F_bestShift, d + 3, 18, [some (.int x0), some (.int x1), some (.int a1.1), some (.int a1.2), some (.int (Int32.ofNat i1)), none], [.int (Int32.ofNat i1), .int x1, .int x0])) (h' := (zt_T L, zt_R, M, J, e)) (fun _ => rfl)).trans ?_
    refine zl_st (d := d + 2) rfl rfl rfl rfl rfl rfl rfl (s_F_lyingOn L e J (d + 0) x0 x1 (Int32.ofNat i1)) ?_
    show zz_D (zm_F_bestShift, d + 3, 21, [some (.int x0), some (.int x1), some (.int a1.1), some (.int a1.2), some (.int (Int32.ofNat i1)), none], [.int (v_F_lyingOn x0 x1 (Int32.ofNat i1))]) (zt_T L, zt_R, M, J, e) = _
    refine zz_jn (X := zz_D (zm_F_bestShift, d + 3, 35, [some (.int x0), some (.int x1), some (.int (bif (decide ((v_F_lyingOn x0 x1 (Int32.ofNat i1)) ≤ a1.2)) then a1.1 else (Int32.ofNat i1))), some (.int (bif (decide ((v_F_lyingOn x0 x1 (Int32.ofNat i1)) ≤ a1.2)) then a1.2 else (v_F_lyingOn x0 x1 (Int32.ofNat i1)))), some (.int (Int32.ofNat i1)), none], []) (zt_T L, zt_R, M, J, e)) (fun j3 => ?_) ?_
    · refine (zz_go 3 (fr' := (zm_F_bestShift, d + 3, 26, [some (.int x0), some (.int x1), some (.int a1.1), some (.int a1.2), some (.int (Int32.ofNat i1)), some (.int (v_F_lyingOn x0 x1 (Int32.ofNat i1)))], [.int a1.2, .int (v_F_lyingOn x0 x1 (Int32.ofNat i1))])) (h' := (zt_T L, zt_R, M, J, e)) (fun _ => rfl)).trans ?_
      rcases zz_bc (decide ((v_F_lyingOn x0 x1 (Int32.ofNat i1)) ≤ a1.2)) with h4 | h4
      · refine zc_leT rfl h4 ?_
        refine zz_weak (L := [some (.int x0), some (.int x1), some (.int a1.1), some (.int a1.2), some (.int (Int32.ofNat i1)), none]) ⟨Or.inl rfl, Or.inl rfl, Or.inl rfl, Or.inl rfl, Or.inl rfl, Or.inr ⟨rfl, rfl⟩, trivial⟩ ?_
        simpa only [h4, zk_t, zk_f, zb_t, zb_f] using j3
      · refine zc_leF rfl h4 ?_
        refine (zz_go 4 (fr' := (zm_F_bestShift, d + 3, 35, [some (.int x0), some (.int x1), some (.int (Int32.ofNat i1)), some (.int (v_F_lyingOn x0 x1 (Int32.ofNat i1))), some (.int (Int32.ofNat i1)), some (.int (v_F_lyingOn x0 x1 (Int32.ofNat i1)))], [])) (h' := (zt_T L, zt_R, M, J, e)) (fun _ => rfl)).trans ?_
        refine zz_weak (L := [some (.int x0), some (.int x1), some (.int (Int32.ofNat i1)), some (.int (v_F_lyingOn x0 x1 (Int32.ofNat i1))), some (.int (Int32.ofNat i1)), none]) ⟨Or.inl rfl, Or.inl rfl, Or.inl rfl, Or.inl rfl, Or.inl rfl, Or.inr ⟨rfl, rfl⟩, trivial⟩ ?_
        simpa only [h4, zk_t, zk_f, zb_t, zb_f] using j3
    refine (zz_go 2 (fr' := (zm_F_bestShift, d + 3, 7, [some (.int x0), some (.int x1), some (.int (bif (decide ((v_F_lyingOn x0 x1 (Int32.ofNat i1)) ≤ a1.2)) then a1.1 else (Int32.ofNat i1))), some (.int (bif (decide ((v_F_lyingOn x0 x1 (Int32.ofNat i1)) ≤ a1.2)) then a1.2 else (v_F_lyingOn x0 x1 (Int32.ofNat i1)))), some (.int (Int32.ofNat i1 + 1)), none], [])) (h' := (zt_T L, zt_R, M, J, e)) (fun _ => rfl)).trans ?_
    rw [zi_succ i1]
    simpa only [f_F_bestShift_1] using hx1
  show zz_D (zm_F_bestShift, d + 3, 7, [some (.int x0), some (.int x1), some (.int (zf_for 49 (f_F_bestShift_1 x0 x1) ((0 : Int32), (0 : Int32))).1), some (.int (zf_for 49 (f_F_bestShift_1 x0 x1) ((0 : Int32), (0 : Int32))).2), some (.int (Int32.ofNat 49)), none], []) (zt_T L, zt_R, M, J, e) = _
  refine (zz_go 2 (fr' := (zm_F_bestShift, d + 3, 11, [some (.int x0), some (.int x1), some (.int (zf_for 49 (f_F_bestShift_1 x0 x1) ((0 : Int32), (0 : Int32))).1), some (.int (zf_for 49 (f_F_bestShift_1 x0 x1) ((0 : Int32), (0 : Int32))).2), some (.int (Int32.ofNat 49)), none], [.int (49 : Int32), .int (Int32.ofNat 49)])) (h' := (zt_T L, zt_R, M, J, e)) (fun _ => rfl)).trans ?_
  refine zc_geT rfl (by decide) ?_
  refine zz_weak (L := [none, none, some (.int (zf_for 49 (f_F_bestShift_1 x0 x1) ((0 : Int32), (0 : Int32))).1), none, none, none]) ⟨Or.inr ⟨rfl, rfl⟩, Or.inr ⟨rfl, rfl⟩, Or.inl rfl, Or.inr ⟨rfl, rfl⟩, Or.inr ⟨rfl, rfl⟩, Or.inl rfl, trivial⟩ ?_
  refine (zz_go 1 (fr' := (zm_F_bestShift, d + 3, 42, [none, none, some (.int (zf_for 49 (f_F_bestShift_1 x0 x1) ((0 : Int32), (0 : Int32))).1), none, none, none], [.int (zf_for 49 (f_F_bestShift_1 x0 x1) ((0 : Int32), (0 : Int32))).1])) (h' := (zt_T L, zt_R, M, J, e)) (fun _ => rfl)).trans ?_
  refine zl_retI rfl rfl ?_
  rfl
def g_E_allWithin_1 (M : zMem) (x0 : Int32) (i1 : Nat) (a1 : Int32 × Int32) : Bool × (Int32 × Int32) := ((bif (decide ((8 : Int32) ≤ (Int32.ofNat i1))) then false else (bif (decide (a1.2 < 0)) then false else (bif (decide ((8 : Int32) ≤ a1.2)) then false else true))), ((bif (decide ((8 : Int32) ≤ (Int32.ofNat i1))) then a1.1 else (bif (decide (a1.2 < 0)) then a1.1 else (bif (decide ((8 : Int32) ≤ a1.2)) then a1.1 else (a1.1 ||| (zsl (1 : Int32) a1.2))))), (bif (decide ((8 : Int32) ≤ (Int32.ofNat i1))) then a1.2 else (bif (decide (a1.2 < 0)) then a1.2 else (bif (decide ((8 : Int32) ≤ a1.2)) then a1.2 else (M 7 (a1.2).toNatClampNeg))))))
def kb_E_allWithin_1 (M : zMem) (x0 : Int32) (i1 : Nat) (a1 : Int32 × Int32) : Prop := ((decide ((8 : Int32) ≤ (Int32.ofNat i1))) = false → ((decide (a1.2 < 0)) = false → ((decide ((8 : Int32) ≤ a1.2)) = false → zz_in a1.2 8 = true)))
def v_E_allWithin (M : zMem) (x0 : Int32) : Int32 := (zf_wh 1000 (g_E_allWithin_1 M x0) 0 ((0 : Int32), x0)).1
def ok_E_allWithin (M : zMem) (x0 : Int32) : Prop := (zf_wk 1000 (g_E_allWithin_1 M x0) (kb_E_allWithin_1 M x0) 0 ((0 : Int32), x0))
set_option maxRecDepth 20000 in
set_option maxHeartbeats 2000000 in
theorem s_E_allWithin (L e : Nat) (J : zJem) (d : Nat) (M : zMem) (x0 : Int32) (k0 : ok_E_allWithin M x0) : zz_D (zm_E_allWithin, d + 1, 0, [some (.ref 4), some (.int x0), none, none, none], []) (zt_T L, zt_R, M, J, e) = some (.inl (some (.int (v_E_allWithin M x0))), (zt_T L, zt_R, M, J, e)) := by
  unfold ok_E_allWithin at k0
  unfold v_E_allWithin
  refine (zz_go 6 (fr' := (zm_E_allWithin, d + 1, 7, [some (.ref 4), some (.int x0), some (.int (0 : Int32)), some (.int x0), some (.int (0 : Int32))], [])) (h' := (zt_T L, zt_R, M, J, e)) (fun _ => rfl)).trans ?_
  refine zz_weak (L := [some (.ref 4), none, some (.int (0 : Int32)), some (.int x0), some (.int (0 : Int32))]) ⟨Or.inl rfl, Or.inr ⟨rfl, rfl⟩, Or.inl rfl, Or.inl rfl, Or.inl rfl, trivial⟩ ?_
  refine zf_whY (X := fun (i1 : Nat) (a1 : Int32 × Int32) => zz_D (zm_E_allWithin, d + 1, 7, [some (.ref 4), none, some (.int a1.1), some (.int a1.2), some (.int (Int32.ofNat i1))], []) (zt_T L, zt_R, M, J, e)) (Y := fun (a1 : Int32 × Int32) => zz_D (zm_E_allWithin, d + 1, 43, [none, none, some (.int a1.1), none, none], []) (zt_T L, zt_R, M, J, e)) (g := (g_E_allWithin_1 M x0)) (k := (kb_E_allWithin_1 M x0)) (fun i1 a1 k3 hx1 hx2 => ?_) 1000 0 ((0 : Int32), x0) k0 ?_
  · show zz_D (zm_E_allWithin, d + 1, 7, [some (.ref 4), none, some (.int a1.1), some (.int a1.2), some (.int (Int32.ofNat i1))], []) (zt_T L, zt_R, M, J, e) = _
    unfold kb_E_allWithin_1 at k3
    refine (zz_go 2 (fr' := (zm_E_allWithin, d + 1, 11, [some (.ref 4), none, some (.int a1.1), some (.int a1.2), some (.int (Int32.ofNat i1))], [.int (8 : Int32), .int (Int32.ofNat i1)])) (h' := (zt_T L, zt_R, M, J, e)) (fun _ => rfl)).trans ?_
    rcases zz_bc (decide ((8 : Int32) ≤ (Int32.ofNat i1))) with h4 | h4
    · refine zc_geT rfl h4 ?_
      refine zz_weak (L := [none, none, some (.int a1.1), none, none]) ⟨Or.inr ⟨rfl, rfl⟩, Or.inl rfl, Or.inl rfl, Or.inr ⟨rfl, rfl⟩, Or.inr ⟨rfl, rfl⟩, trivial⟩ ?_
      have y1 := hx2 (by simp only [g_E_allWithin_1, h4, zk_t, zk_f, zb_t, zb_f])
      simpa only [g_E_allWithin_1, h4, zk_t, zk_f, zb_t, zb_f] using y1
    · refine zc_geF rfl h4 ?_
      have k5 := k3 h4
      refine (zz_go 1 (fr' := (zm_E_allWithin, d + 1, 15, [some (.ref 4), none, some (.int a1.1), some (.int a1.2), some (.int (Int32.ofNat i1))], [.int a1.2])) (h' := (zt_T L, zt_R, M, J, e)) (fun _ => rfl)).trans ?_
      rcases zz_bc (decide (a1.2 < 0)) with h6 | h6
      · refine zo_ltT rfl h6 ?_
        refine zz_weak (L := [none, none, some (.int a1.1), none, none]) ⟨Or.inr ⟨rfl, rfl⟩, Or.inl rfl, Or.inl rfl, Or.inr ⟨rfl, rfl⟩, Or.inr ⟨rfl, rfl⟩, trivial⟩ ?_
        have y1 := hx2 (by simp only [g_E_allWithin_1, h4, h6, zk_t, zk_f, zb_t, zb_f])
        simpa only [g_E_allWithin_1, h4, h6, zk_t, zk_f, zb_t, zb_f] using y1
      · refine zo_ltF rfl h6 ?_
        have k7 := k5 h6
        refine (zz_go 2 (fr' := (zm_E_allWithin, d + 1, 21, [some (.ref 4), none, some (.int a1.1), some (.int a1.2), some (.int (Int32.ofNat i1))], [.int (8 : Int32), .int a1.2])) (h' := (zt_T L, zt_R, M, J, e)) (fun _ => rfl)).trans ?_
        rcases zz_bc (decide ((8 : Int32) ≤ a1.2)) with h8 | h8
        · refine zc_geT rfl h8 ?_
          refine zz_weak (L := [none, none, some (.int a1.1), none, none]) ⟨Or.inr ⟨rfl, rfl⟩, Or.inl rfl, Or.inl rfl, Or.inr ⟨rfl, rfl⟩, Or.inr ⟨rfl, rfl⟩, trivial⟩ ?_
          have y1 := hx2 (by simp only [g_E_allWithin_1, h4, h6, h8, zk_t, zk_f, zb_t, zb_f])
          simpa only [g_E_allWithin_1, h4, h6, h8, zk_t, zk_f, zb_t, zb_f] using y1
        · refine zc_geF rfl h8 ?_
          have k9 := k7 h8
          refine (zz_go 7 (fr' := (zm_E_allWithin, d + 1, 31, [some (.ref 4), none, some (.int (a1.1 ||| (zsl (1 : Int32) a1.2))), some (.int a1.2), some (.int (Int32.ofNat i1))], [.ref 4])) (h' := (zt_T L, zt_R, M, J, e)) (fun _ => rfl)).trans ?_
          refine zl_getR rfl rfl rfl ?_
          refine (zz_go 1 (fr' := (zm_E_allWithin, d + 1, 35, [some (.ref 4), none, some (.int (a1.1 ||| (zsl (1 : Int32) a1.2))), some (.int a1.2), some (.int (Int32.ofNat i1))], [.int a1.2, .ref 7])) (h' := (zt_T L, zt_R, M, J, e)) (fun _ => rfl)).trans ?_
          have g10 : zz_in a1.2 8 = true := k9
          refine zl_iaload rfl rfl g10 rfl ?_
          refine (zz_go 3 (fr' := (zm_E_allWithin, d + 1, 7, [some (.ref 4), none, some (.int (a1.1 ||| (zsl (1 : Int32) a1.2))), some (.int (M 7 (a1.2).toNatClampNeg)), some (.int (Int32.ofNat i1 + 1))], [])) (h' := (zt_T L, zt_R, M, J, e)) (fun _ => rfl)).trans ?_
          rw [zi_succ i1]
          have y1 := hx1 (by simp only [g_E_allWithin_1, h4, h6, h8, zk_t, zk_f, zb_t, zb_f])
          simpa only [g_E_allWithin_1, h4, h6, h8, zk_t, zk_f, zb_t, zb_f] using y1
  show zz_D (zm_E_allWithin, d + 1, 43, [none, none, some (.int (zf_wh 1000 (g_E_allWithin_1 M x0) 0 ((0 : Int32), x0)).1), none, none], []) (zt_T L, zt_R, M, J, e) = _
  refine (zz_go 1 (fr' := (zm_E_allWithin, d + 1, 44, [none, none, some (.int (zf_wh 1000 (g_E_allWithin_1 M x0) 0 ((0 : Int32), x0)).1), none, none], [.int (zf_wh 1000 (g_E_allWithin_1 M x0) 0 ((0 : Int32), x0)).1])) (h' := (zt_T L, zt_R, M, J, e)) (fun _ => rfl)).trans ?_
  refine zl_retI rfl rfl ?_
  rfl
def g_E_depth_1 (M : zMem) (x0 : Int32) (i1 : Nat) (a1 : Int32 × Bool × Int32) : Bool × (Int32 × Bool × Int32) := ((bif (decide ((8 : Int32) < (Int32.ofNat i1))) then false else (bif (decide (a1.1 < 0)) then false else (decide (a1.1 < (8 : Int32))))), ((bif (decide ((8 : Int32) < (Int32.ofNat i1))) then a1.1 else (bif (decide (a1.1 < 0)) then a1.1 else (bif (decide (a1.1 < (8 : Int32))) then (M 7 (a1.1).toNatClampNeg) else a1.1))), (bif (decide ((8 : Int32) < (Int32.ofNat i1))) then false else (bif (decide (a1.1 < 0)) then true else (bif (decide (a1.1 < (8 : Int32))) then false else true))), (bif (decide ((8 : Int32) < (Int32.ofNat i1))) then a1.2.2 else (bif (decide (a1.1 < 0)) then (Int32.ofNat i1) else (bif (decide (a1.1 < (8 : Int32))) then a1.2.2 else (Int32.ofNat i1))))))
def kb_E_depth_1 (M : zMem) (x0 : Int32) (i1 : Nat) (a1 : Int32 × Bool × Int32) : Prop := ((decide ((8 : Int32) < (Int32.ofNat i1))) = false → ((decide (a1.1 < 0)) = false → ((decide (a1.1 < (8 : Int32))) = true → zz_in a1.1 8 = true)))
def v_E_depth (M : zMem) (x0 : Int32) : Int32 := (bif (zf_wh 1000 (g_E_depth_1 M x0) 0 (x0, false, 0)).2.1 then (zf_wh 1000 (g_E_depth_1 M x0) 0 (x0, false, 0)).2.2 else (-1 : Int32))
def ok_E_depth (M : zMem) (x0 : Int32) : Prop := (zf_wk 1000 (g_E_depth_1 M x0) (kb_E_depth_1 M x0) 0 (x0, false, 0))
set_option maxRecDepth 20000 in
set_option maxHeartbeats 2000000 in
theorem s_E_depth (L e : Nat) (J : zJem) (d : Nat) (M : zMem) (x0 : Int32) (k0 : ok_E_depth M x0) : zz_D (zm_E_depth, d + 1, 0, [some (.ref 4), some (.int x0), none, none], []) (zt_T L, zt_R, M, J, e) = some (.inl (some (.int (v_E_depth M x0))), (zt_T L, zt_R, M, J, e)) := by
  unfold ok_E_depth at k0
  unfold v_E_depth
  refine (zz_go 4 (fr' := (zm_E_depth, d + 1, 4, [some (.ref 4), some (.int x0), some (.int x0), some (.int (0 : Int32))], [])) (h' := (zt_T L, zt_R, M, J, e)) (fun _ => rfl)).trans ?_
  refine zz_weak (L := [some (.ref 4), none, some (.int x0), some (.int (0 : Int32))]) ⟨Or.inl rfl, Or.inr ⟨rfl, rfl⟩, Or.inl rfl, Or.inl rfl, trivial⟩ ?_
  refine zf_whY (X := fun (i1 : Nat) (a1 : Int32 × Bool × Int32) => zz_D (zm_E_depth, d + 1, 4, [some (.ref 4), none, some (.int a1.1), some (.int (Int32.ofNat i1))], []) (zt_T L, zt_R, M, J, e)) (Y := fun (a1 : Int32 × Bool × Int32) => (bif a1.2.1 then some (.inl (some (.int a1.2.2)), (zt_T L, zt_R, M, J, e)) else zz_D (zm_E_depth, d + 1, 35, [none, none, none, none], []) (zt_T L, zt_R, M, J, e))) (g := (g_E_depth_1 M x0)) (k := (kb_E_depth_1 M x0)) (fun i1 a1 k3 hx1 hx2 => ?_) 1000 0 (x0, false, 0) k0 ?_
  · show zz_D (zm_E_depth, d + 1, 4, [some (.ref 4), none, some (.int a1.1), some (.int (Int32.ofNat i1))], []) (zt_T L, zt_R, M, J, e) = _
    unfold kb_E_depth_1 at k3
    refine (zz_go 2 (fr' := (zm_E_depth, d + 1, 7, [some (.ref 4), none, some (.int a1.1), some (.int (Int32.ofNat i1))], [.int (8 : Int32), .int (Int32.ofNat i1)])) (h' := (zt_T L, zt_R, M, J, e)) (fun _ => rfl)).trans ?_
    rcases zz_bc (decide ((8 : Int32) < (Int32.ofNat i1))) with h4 | h4
    · refine zc_gtT rfl h4 ?_
      refine zz_weak (L := [none, none, none, none]) ⟨Or.inr ⟨rfl, rfl⟩, Or.inl rfl, Or.inr ⟨rfl, rfl⟩, Or.inr ⟨rfl, rfl⟩, trivial⟩ ?_
      have y1 := hx2 (by simp only [g_E_depth_1, h4, zk_t, zk_f, zb_t, zb_f])
      simpa only [g_E_depth_1, h4, zk_t, zk_f, zb_t, zb_f] using y1
    · refine zc_gtF rfl h4 ?_
      have k5 := k3 h4
      refine (zz_go 1 (fr' := (zm_E_depth, d + 1, 11, [some (.ref 4), none, some (.int a1.1), some (.int (Int32.ofNat i1))], [.int a1.1])) (h' := (zt_T L, zt_R, M, J, e)) (fun _ => rfl)).trans ?_
      rcases zz_bc (decide (a1.1 < 0)) with h6 | h6
      · refine zo_ltT rfl h6 ?_
        refine (zz_go 1 (fr' := (zm_E_depth, d + 1, 21, [some (.ref 4), none, some (.int a1.1), some (.int (Int32.ofNat i1))], [.int (Int32.ofNat i1)])) (h' := (zt_T L, zt_R, M, J, e)) (fun _ => rfl)).trans ?_
        refine zl_retI rfl rfl ?_
        have y1 := hx2 (by simp only [g_E_depth_1, h4, h6, zk_t, zk_f, zb_t, zb_f])
        simpa only [g_E_depth_1, h4, h6, zk_t, zk_f, zb_t, zb_f] using y1
      · refine zo_ltF rfl h6 ?_
        have k7 := k5 h6
        refine (zz_go 2 (fr' := (zm_E_depth, d + 1, 17, [some (.ref 4), none, some (.int a1.1), some (.int (Int32.ofNat i1))], [.int (8 : Int32), .int a1.1])) (h' := (zt_T L, zt_R, M, J, e)) (fun _ => rfl)).trans ?_
        rcases zz_bc (decide (a1.1 < (8 : Int32))) with h8 | h8
        · refine zc_ltT rfl h8 ?_
          have k9 := k7 h8
          refine (zz_go 1 (fr' := (zm_E_depth, d + 1, 23, [some (.ref 4), none, some (.int a1.1), some (.int (Int32.ofNat i1))], [.ref 4])) (h' := (zt_T L, zt_R, M, J, e)) (fun _ => rfl)).trans ?_
          refine zl_getR rfl rfl rfl ?_
          refine (zz_go 1 (fr' := (zm_E_depth, d + 1, 27, [some (.ref 4), none, some (.int a1.1), some (.int (Int32.ofNat i1))], [.int a1.1, .ref 7])) (h' := (zt_T L, zt_R, M, J, e)) (fun _ => rfl)).trans ?_
          have g10 : zz_in a1.1 8 = true := k9
          refine zl_iaload rfl rfl g10 rfl ?_
          refine (zz_go 3 (fr' := (zm_E_depth, d + 1, 4, [some (.ref 4), none, some (.int (M 7 (a1.1).toNatClampNeg)), some (.int (Int32.ofNat i1 + 1))], [])) (h' := (zt_T L, zt_R, M, J, e)) (fun _ => rfl)).trans ?_
          rw [zi_succ i1]
          have y1 := hx1 (by simp only [g_E_depth_1, h4, h6, h8, zk_t, zk_f, zb_t, zb_f])
          simpa only [g_E_depth_1, h4, h6, h8, zk_t, zk_f, zb_t, zb_f] using y1
        · refine zc_ltF rfl h8 ?_
          refine (zz_go 1 (fr' := (zm_E_depth, d + 1, 21, [some (.ref 4), none, some (.int a1.1), some (.int (Int32.ofNat i1))], [.int (Int32.ofNat i1)])) (h' := (zt_T L, zt_R, M, J, e)) (fun _ => rfl)).trans ?_
          refine zl_retI rfl rfl ?_
          have y1 := hx2 (by simp only [g_E_depth_1, h4, h6, h8, zk_t, zk_f, zb_t, zb_f])
          simpa only [g_E_depth_1, h4, h6, h8, zk_t, zk_f, zb_t, zb_f] using y1
  show (bif (zf_wh 1000 (g_E_depth_1 M x0) 0 (x0, false, 0)).2.1 then some (.inl (some (.int (zf_wh 1000 (g_E_depth_1 M x0) 0 (x0, false, 0)).2.2)), (zt_T L, zt_R, M, J, e)) else zz_D (zm_E_depth, d + 1, 35, [none, none, none, none], []) (zt_T L, zt_R, M, J, e)) = _
  refine zz_ec (fun h11 => ?_) (fun h11 => ?_)
  · skip
    first | (simp only [h11, zk_t, zk_f, zb_t, zb_f]; done) | (simp only [h11, zk_t, zk_f, zb_t, zb_f]; rfl) | rfl
  refine (zz_go 1 (fr' := (zm_E_depth, d + 1, 36, [none, none, none, none], [.int (-1 : Int32)])) (h' := (zt_T L, zt_R, M, J, e)) (fun _ => rfl)).trans ?_
  refine zl_retI rfl rfl ?_
  first | (simp only [h11, zk_t, zk_f, zb_t, zb_f]; done) | (simp only [h11, zk_t, zk_f, zb_t, zb_f]; rfl) | rfl
def v_E_comesBack (M : zMem) (x0 : Int32) : Bool := (bif (decide ((M 7 (x0).toNatClampNeg) = (-1 : Int32))) then false else (bif (decide (((zsr (v_E_allWithin M (M 7 (x0).toNatClampNeg)) x0) &&& (1 : Int32)) = 0)) then false else true))
def ok_E_comesBack (M : zMem) (x0 : Int32) : Prop := (zz_in x0 8 = true ∧ ((decide ((M 7 (x0).toNatClampNeg) = (-1 : Int32))) = false → ok_E_allWithin M (M 7 (x0).toNatClampNeg)))
set_option maxRecDepth 20000 in
set_option maxHeartbeats 2000000 in
theorem s_E_comesBack (L e : Nat) (J : zJem) (d : Nat) (M : zMem) (x0 : Int32) (k0 : ok_E_comesBack M x0) : zz_D (zm_E_comesBack, d + 2, 0, [some (.ref 4), some (.int x0), none], []) (zt_T L, zt_R, M, J, e) = some (.inl (some (.int (zb (v_E_comesBack M x0)))), (zt_T L, zt_R, M, J, e)) := by
  unfold ok_E_comesBack at k0
  unfold v_E_comesBack
  refine (zz_go 1 (fr' := (zm_E_comesBack, d + 2, 1, [some (.ref 4), some (.int x0), none], [.ref 4])) (h' := (zt_T L, zt_R, M, J, e)) (fun _ => rfl)).trans ?_
  refine zl_getR rfl rfl rfl ?_
  refine (zz_go 1 (fr' := (zm_E_comesBack, d + 2, 5, [some (.ref 4), some (.int x0), none], [.int x0, .ref 7])) (h' := (zt_T L, zt_R, M, J, e)) (fun _ => rfl)).trans ?_
  obtain ⟨g1, k2⟩ := k0
  refine zl_iaload rfl rfl g1 rfl ?_
  refine zz_jn (X := zz_D (zm_E_comesBack, d + 2, 29, [none, none, none], [.int (zb (bif (decide ((M 7 (x0).toNatClampNeg) = (-1 : Int32))) then false else (bif (decide (((zsr (v_E_allWithin M (M 7 (x0).toNatClampNeg)) x0) &&& (1 : Int32)) = 0)) then false else true)))]) (zt_T L, zt_R, M, J, e)) (fun j3 => ?_) ?_
  · refine (zz_go 3 (fr' := (zm_E_comesBack, d + 2, 9, [some (.ref 4), some (.int x0), some (.int (M 7 (x0).toNatClampNeg))], [.int (-1 : Int32), .int (M 7 (x0).toNatClampNeg)])) (h' := (zt_T L, zt_R, M, J, e)) (fun _ => rfl)).trans ?_
    rcases zz_bc (decide ((M 7 (x0).toNatClampNeg) = (-1 : Int32))) with h4 | h4
    · refine zc_eqT rfl h4 ?_
      refine (zz_go 1 (fr' := (zm_E_comesBack, d + 2, 29, [some (.ref 4), some (.int x0), some (.int (M 7 (x0).toNatClampNeg))], [.int (0 : Int32)])) (h' := (zt_T L, zt_R, M, J, e)) (fun _ => rfl)).trans ?_
      refine zz_weak (L := [none, none, none]) ⟨Or.inr ⟨rfl, rfl⟩, Or.inr ⟨rfl, rfl⟩, Or.inr ⟨rfl, rfl⟩, trivial⟩ ?_
      simpa only [h4, zk_t, zk_f, zb_t, zb_f] using j3
    · refine zc_eqF rfl h4 ?_
      have k5 := k2 h4
      refine (zz_go 2 (fr' := (zm_E_comesBack, d + 2, 14, [some (.ref 4), some (.int x0), some (.int (M 7 (x0).toNatClampNeg))], [.int (M 7 (x0).toNatClampNeg), .ref 4])) (h' := (zt_T L, zt_R, M, J, e)) (fun _ => rfl)).trans ?_
      have g6 : ok_E_allWithin M (M 7 (x0).toNatClampNeg) := k5
      refine zl_st (d := d + 1) rfl rfl rfl rfl rfl rfl rfl (s_E_allWithin L e J (d + 0) M (M 7 (x0).toNatClampNeg) g6) ?_
      show zz_D (zm_E_comesBack, d + 2, 17, [some (.ref 4), some (.int x0), some (.int (M 7 (x0).toNatClampNeg))], [.int (v_E_allWithin M (M 7 (x0).toNatClampNeg))]) (zt_T L, zt_R, M, J, e) = _
      refine zz_jn (X := zz_D (zm_E_comesBack, d + 2, 29, [none, none, none], [.int (zb (bif (decide (((zsr (v_E_allWithin M (M 7 (x0).toNatClampNeg)) x0) &&& (1 : Int32)) = 0)) then false else true))]) (zt_T L, zt_R, M, J, e)) (fun j7 => ?_) ?_
      · refine (zz_go 4 (fr' := (zm_E_comesBack, d + 2, 21, [some (.ref 4), some (.int x0), some (.int (M 7 (x0).toNatClampNeg))], [.int ((zsr (v_E_allWithin M (M 7 (x0).toNatClampNeg)) x0) &&& (1 : Int32))])) (h' := (zt_T L, zt_R, M, J, e)) (fun _ => rfl)).trans ?_
        rcases zz_bc (decide (((zsr (v_E_allWithin M (M 7 (x0).toNatClampNeg)) x0) &&& (1 : Int32)) = 0)) with h8 | h8
        · refine zo_eqT rfl h8 ?_
          refine (zz_go 1 (fr' := (zm_E_comesBack, d + 2, 29, [some (.ref 4), some (.int x0), some (.int (M 7 (x0).toNatClampNeg))], [.int (0 : Int32)])) (h' := (zt_T L, zt_R, M, J, e)) (fun _ => rfl)).trans ?_
          refine zz_weak (L := [none, none, none]) ⟨Or.inr ⟨rfl, rfl⟩, Or.inr ⟨rfl, rfl⟩, Or.inr ⟨rfl, rfl⟩, trivial⟩ ?_
          simpa only [h8, zk_t, zk_f, zb_t, zb_f] using j7
        · refine zo_eqF rfl h8 ?_
          refine (zz_go 2 (fr' := (zm_E_comesBack, d + 2, 29, [some (.ref 4), some (.int x0), some (.int (M 7 (x0).toNatClampNeg))], [.int (1 : Int32)])) (h' := (zt_T L, zt_R, M, J, e)) (fun _ => rfl)).trans ?_
          refine zz_weak (L := [none, none, none]) ⟨Or.inr ⟨rfl, rfl⟩, Or.inr ⟨rfl, rfl⟩, Or.inr ⟨rfl, rfl⟩, trivial⟩ ?_
          simpa only [h8, zk_t, zk_f, zb_t, zb_f] using j7
      simpa only [h4, zk_t, zk_f, zb_t, zb_f] using j3
  refine zl_retI rfl (zb_01 _) ?_
  rfl
def f_E_deepestKind_1 (M : zMem) (i1 : Nat) (a1 : Int32 × Int32) : Int32 × Int32 := ((bif (decide ((v_E_depth M (Int32.ofNat i1)) ≤ a1.2)) then a1.1 else (Int32.ofNat i1)), (bif (decide ((v_E_depth M (Int32.ofNat i1)) ≤ a1.2)) then a1.2 else (v_E_depth M (Int32.ofNat i1))))
def kb_E_deepestKind_1 (M : zMem) (i1 : Nat) (a1 : Int32 × Int32) : Prop := ok_E_depth M (Int32.ofNat i1)
def v_E_deepestKind (M : zMem) : Int32 := (zf_for 8 (f_E_deepestKind_1 M) ((-1 : Int32), (0 : Int32))).1
def ok_E_deepestKind (M : zMem) : Prop := (∀ i1, i1 < 8 → kb_E_deepestKind_1 M i1 (zf_for i1 (f_E_deepestKind_1 M) ((-1 : Int32), (0 : Int32))))
set_option maxRecDepth 20000 in
set_option maxHeartbeats 2000000 in
theorem s_E_deepestKind (L e : Nat) (J : zJem) (d : Nat) (M : zMem) (k0 : ok_E_deepestKind M) : zz_D (zm_E_deepestKind, d + 2, 0, [some (.ref 4), none, none, none, none], []) (zt_T L, zt_R, M, J, e) = some (.inl (some (.int (v_E_deepestKind M))), (zt_T L, zt_R, M, J, e)) := by
  unfold ok_E_deepestKind at k0
  unfold v_E_deepestKind
  refine (zz_go 6 (fr' := (zm_E_deepestKind, d + 2, 6, [some (.ref 4), some (.int (-1 : Int32)), some (.int (0 : Int32)), some (.int (0 : Int32)), none], [])) (h' := (zt_T L, zt_R, M, J, e)) (fun _ => rfl)).trans ?_
  refine zf_forD (X := fun (i1 : Nat) (a1 : Int32 × Int32) => zz_D (zm_E_deepestKind, d + 2, 6, [some (.ref 4), some (.int a1.1), some (.int a1.2), some (.int (Int32.ofNat i1)), none], []) (zt_T L, zt_R, M, J, e)) (f := (f_E_deepestKind_1 M)) (a := ((-1 : Int32), (0 : Int32))) 8 (fun i1 hi1 => ?_) ?_
  · intro hx1
    have k2 := k0 i1 hi1
    generalize zf_for i1 (f_E_deepestKind_1 M) ((-1 : Int32), (0 : Int32)) = a1 at hx1 k2 ⊢
    show zz_D (zm_E_deepestKind, d + 2, 6, [some (.ref 4), some (.int a1.1), some (.int a1.2), some (.int (Int32.ofNat i1)), none], []) (zt_T L, zt_R, M, J, e) = _
    unfold kb_E_deepestKind_1 at k2
    refine (zz_go 2 (fr' := (zm_E_deepestKind, d + 2, 9, [some (.ref 4), some (.int a1.1), some (.int a1.2), some (.int (Int32.ofNat i1)), none], [.int (8 : Int32), .int (Int32.ofNat i1)])) (h' := (zt_T L, zt_R, M, J, e)) (fun _ => rfl)).trans ?_
    refine zc_geF rfl (zi_ltc (n := 8) (by omega) (by decide)) ?_
    refine (zz_go 2 (fr' := (zm_E_deepestKind, d + 2, 14, [some (.ref 4), some (.int a1.1), some (.int a1.2), some (.int (Int32.ofNat i1)), none], [.int (Int32.ofNat i1), .ref 4])) (h' := (zt_T L, zt_R, M, J, e)) (fun _ => rfl)).trans ?_
    have g3 : ok_E_depth M (Int32.ofNat i1) := k2
    refine zl_st (d := d + 1) rfl rfl rfl rfl rfl rfl rfl (s_E_depth L e J (d + 0) M (Int32.ofNat i1) g3) ?_
    show zz_D (zm_E_deepestKind, d + 2, 17, [some (.ref 4), some (.int a1.1), some (.int a1.2), some (.int (Int32.ofNat i1)), none], [.int (v_E_depth M (Int32.ofNat i1))]) (zt_T L, zt_R, M, J, e) = _
    refine zz_jn (X := zz_D (zm_E_deepestKind, d + 2, 30, [some (.ref 4), some (.int (bif (decide ((v_E_depth M (Int32.ofNat i1)) ≤ a1.2)) then a1.1 else (Int32.ofNat i1))), some (.int (bif (decide ((v_E_depth M (Int32.ofNat i1)) ≤ a1.2)) then a1.2 else (v_E_depth M (Int32.ofNat i1)))), some (.int (Int32.ofNat i1)), none], []) (zt_T L, zt_R, M, J, e)) (fun j4 => ?_) ?_
    · refine (zz_go 3 (fr' := (zm_E_deepestKind, d + 2, 22, [some (.ref 4), some (.int a1.1), some (.int a1.2), some (.int (Int32.ofNat i1)), some (.int (v_E_depth M (Int32.ofNat i1)))], [.int a1.2, .int (v_E_depth M (Int32.ofNat i1))])) (h' := (zt_T L, zt_R, M, J, e)) (fun _ => rfl)).trans ?_
      rcases zz_bc (decide ((v_E_depth M (Int32.ofNat i1)) ≤ a1.2)) with h5 | h5
      · refine zc_leT rfl h5 ?_
        refine zz_weak (L := [some (.ref 4), some (.int a1.1), some (.int a1.2), some (.int (Int32.ofNat i1)), none]) ⟨Or.inl rfl, Or.inl rfl, Or.inl rfl, Or.inl rfl, Or.inr ⟨rfl, rfl⟩, trivial⟩ ?_
        simpa only [h5, zk_t, zk_f, zb_t, zb_f] using j4
      · refine zc_leF rfl h5 ?_
        refine (zz_go 4 (fr' := (zm_E_deepestKind, d + 2, 30, [some (.ref 4), some (.int (Int32.ofNat i1)), some (.int (v_E_depth M (Int32.ofNat i1))), some (.int (Int32.ofNat i1)), some (.int (v_E_depth M (Int32.ofNat i1)))], [])) (h' := (zt_T L, zt_R, M, J, e)) (fun _ => rfl)).trans ?_
        refine zz_weak (L := [some (.ref 4), some (.int (Int32.ofNat i1)), some (.int (v_E_depth M (Int32.ofNat i1))), some (.int (Int32.ofNat i1)), none]) ⟨Or.inl rfl, Or.inl rfl, Or.inl rfl, Or.inl rfl, Or.inr ⟨rfl, rfl⟩, trivial⟩ ?_
        simpa only [h5, zk_t, zk_f, zb_t, zb_f] using j4
    refine (zz_go 2 (fr' := (zm_E_deepestKind, d + 2, 6, [some (.ref 4), some (.int (bif (decide ((v_E_depth M (Int32.ofNat i1)) ≤ a1.2)) then a1.1 else (Int32.ofNat i1))), some (.int (bif (decide ((v_E_depth M (Int32.ofNat i1)) ≤ a1.2)) then a1.2 else (v_E_depth M (Int32.ofNat i1)))), some (.int (Int32.ofNat i1 + 1)), none], [])) (h' := (zt_T L, zt_R, M, J, e)) (fun _ => rfl)).trans ?_
    rw [zi_succ i1]
    simpa only [f_E_deepestKind_1] using hx1
  show zz_D (zm_E_deepestKind, d + 2, 6, [some (.ref 4), some (.int (zf_for 8 (f_E_deepestKind_1 M) ((-1 : Int32), (0 : Int32))).1), some (.int (zf_for 8 (f_E_deepestKind_1 M) ((-1 : Int32), (0 : Int32))).2), some (.int (Int32.ofNat 8)), none], []) (zt_T L, zt_R, M, J, e) = _
  refine (zz_go 2 (fr' := (zm_E_deepestKind, d + 2, 9, [some (.ref 4), some (.int (zf_for 8 (f_E_deepestKind_1 M) ((-1 : Int32), (0 : Int32))).1), some (.int (zf_for 8 (f_E_deepestKind_1 M) ((-1 : Int32), (0 : Int32))).2), some (.int (Int32.ofNat 8)), none], [.int (8 : Int32), .int (Int32.ofNat 8)])) (h' := (zt_T L, zt_R, M, J, e)) (fun _ => rfl)).trans ?_
  refine zc_geT rfl (by decide) ?_
  refine zz_weak (L := [none, some (.int (zf_for 8 (f_E_deepestKind_1 M) ((-1 : Int32), (0 : Int32))).1), none, none, none]) ⟨Or.inr ⟨rfl, rfl⟩, Or.inl rfl, Or.inr ⟨rfl, rfl⟩, Or.inr ⟨rfl, rfl⟩, Or.inl rfl, trivial⟩ ?_
  refine (zz_go 1 (fr' := (zm_E_deepestKind, d + 2, 37, [none, some (.int (zf_for 8 (f_E_deepestKind_1 M) ((-1 : Int32), (0 : Int32))).1), none, none, none], [.int (zf_for 8 (f_E_deepestKind_1 M) ((-1 : Int32), (0 : Int32))).1])) (h' := (zt_T L, zt_R, M, J, e)) (fun _ => rfl)).trans ?_
  refine zl_retI rfl rfl ?_
  rfl
def v_T_size (M : zMem) : Int32 := (M 2 1)
set_option maxRecDepth 20000 in
set_option maxHeartbeats 2000000 in
theorem s_T_size (L e : Nat) (J : zJem) (d : Nat) (M : zMem) : zz_D (zm_T_size, d + 1, 0, [some (.ref 2)], []) (zt_T L, zt_R, M, J, e) = some (.inl (some (.int (v_T_size M))), (zt_T L, zt_R, M, J, e)) := by
  unfold v_T_size
  refine (zz_go 1 (fr' := (zm_T_size, d + 1, 1, [some (.ref 2)], [.ref 2])) (h' := (zt_T L, zt_R, M, J, e)) (fun _ => rfl)).trans ?_
  refine zl_getI rfl (by decide) rfl rfl ?_
  refine zl_retI rfl rfl ?_
  rfl
def g_T_put_1 (M : zMem) (x0 : Int32) (i1 : Nat) (a1 : Int32 × zMem) : Bool × (Int32 × zMem) := ((bif (decide (a1.1 < 0)) then false else (bif (decide ((400 : Int32) ≤ (a1.2 2 1))) then false else true)), ((bif (decide (a1.1 < 0)) then a1.1 else (bif (decide ((400 : Int32) ≤ (a1.2 2 1))) then a1.1 else (a1.1 + (-8 : Int32)))), (bif (decide (a1.1 < 0)) then a1.2 else (bif (decide ((400 : Int32) ≤ (a1.2 2 1))) then a1.2 else (zz_up (zz_up a1.2 3 (a1.2 2 1).toNatClampNeg ((zus x0 a1.1) &&& (255 : Int32))) 2 1 ((a1.2 2 1) + (1 : Int32)))))))
def kb_T_put_1 (M : zMem) (x0 : Int32) (i1 : Nat) (a1 : Int32 × zMem) : Prop := ((decide (a1.1 < 0)) = false → ((decide ((400 : Int32) ≤ (a1.2 2 1))) = false → zz_in (a1.2 2 1) 400 = true))
def w_T_put (M : zMem) (x0 : Int32) : zMem := (zf_wh 1000 (g_T_put_1 M x0) 0 ((24 : Int32), M)).2
def ok_T_put (M : zMem) (x0 : Int32) : Prop := (zf_wk 1000 (g_T_put_1 M x0) (kb_T_put_1 M x0) 0 ((24 : Int32), M))
set_option maxRecDepth 20000 in
set_option maxHeartbeats 2000000 in
theorem s_T_put (L e : Nat) (J : zJem) (d : Nat) (M : zMem) (x0 : Int32) (k0 : ok_T_put M x0) : zz_D (zm_T_put, d + 1, 0, [some (.ref 2), some (.int x0), none], []) (zt_T L, zt_R, M, J, e) = some (.inl (none), (zt_T L, zt_R, (w_T_put M x0), J, e)) := by
  unfold ok_T_put at k0
  unfold w_T_put
  refine (zz_go 2 (fr' := (zm_T_put, d + 1, 3, [some (.ref 2), some (.int x0), some (.int (24 : Int32))], [])) (h' := (zt_T L, zt_R, M, J, e)) (fun _ => rfl)).trans ?_
  refine zf_whY (X := fun (i1 : Nat) (a1 : Int32 × zMem) => zz_D (zm_T_put, d + 1, 3, [some (.ref 2), some (.int x0), some (.int a1.1)], []) (zt_T L, zt_R, a1.2, J, e)) (Y := fun (a1 : Int32 × zMem) => zz_D (zm_T_put, d + 1, 49, [none, none, none], []) (zt_T L, zt_R, a1.2, J, e)) (g := (g_T_put_1 M x0)) (k := (kb_T_put_1 M x0)) (fun i1 a1 k3 hx1 hx2 => ?_) 1000 0 ((24 : Int32), M) k0 ?_
  · show zz_D (zm_T_put, d + 1, 3, [some (.ref 2), some (.int x0), some (.int a1.1)], []) (zt_T L, zt_R, a1.2, J, e) = _
    unfold kb_T_put_1 at k3
    refine (zz_go 1 (fr' := (zm_T_put, d + 1, 4, [some (.ref 2), some (.int x0), some (.int a1.1)], [.int a1.1])) (h' := (zt_T L, zt_R, a1.2, J, e)) (fun _ => rfl)).trans ?_
    rcases zz_bc (decide (a1.1 < 0)) with h4 | h4
    · refine zo_ltT rfl h4 ?_
      refine zz_weak (L := [none, none, none]) ⟨Or.inr ⟨rfl, rfl⟩, Or.inr ⟨rfl, rfl⟩, Or.inr ⟨rfl, rfl⟩, trivial⟩ ?_
      have y1 := hx2 (by simp only [g_T_put_1, h4, zk_t, zk_f, zb_t, zb_f])
      simpa only [g_T_put_1, h4, zk_t, zk_f, zb_t, zb_f] using y1
    · refine zo_ltF rfl h4 ?_
      have k5 := k3 h4
      refine (zz_go 1 (fr' := (zm_T_put, d + 1, 8, [some (.ref 2), some (.int x0), some (.int a1.1)], [.ref 2])) (h' := (zt_T L, zt_R, a1.2, J, e)) (fun _ => rfl)).trans ?_
      refine zl_getI rfl (by decide) rfl rfl ?_
      refine (zz_go 1 (fr' := (zm_T_put, d + 1, 14, [some (.ref 2), some (.int x0), some (.int a1.1)], [.int (400 : Int32), .int (a1.2 2 1)])) (h' := (zt_T L, zt_R, a1.2, J, e)) (fun _ => rfl)).trans ?_
      rcases zz_bc (decide ((400 : Int32) ≤ (a1.2 2 1))) with h6 | h6
      · refine zc_geT rfl h6 ?_
        refine zz_weak (L := [none, none, none]) ⟨Or.inr ⟨rfl, rfl⟩, Or.inr ⟨rfl, rfl⟩, Or.inr ⟨rfl, rfl⟩, trivial⟩ ?_
        have y1 := hx2 (by simp only [g_T_put_1, h4, h6, zk_t, zk_f, zb_t, zb_f])
        simpa only [g_T_put_1, h4, h6, zk_t, zk_f, zb_t, zb_f] using y1
      · refine zc_geF rfl h6 ?_
        have k7 := k5 h6
        refine (zz_go 1 (fr' := (zm_T_put, d + 1, 18, [some (.ref 2), some (.int x0), some (.int a1.1)], [.ref 2])) (h' := (zt_T L, zt_R, a1.2, J, e)) (fun _ => rfl)).trans ?_
        refine zl_getR rfl rfl rfl ?_
        refine (zz_go 1 (fr' := (zm_T_put, d + 1, 22, [some (.ref 2), some (.int x0), some (.int a1.1)], [.ref 2, .ref 3])) (h' := (zt_T L, zt_R, a1.2, J, e)) (fun _ => rfl)).trans ?_
        refine zl_getI rfl (by decide) rfl rfl ?_
        refine (zz_go 5 (fr' := (zm_T_put, d + 1, 32, [some (.ref 2), some (.int x0), some (.int a1.1)], [.int ((zus x0 a1.1) &&& (255 : Int32)), .int (a1.2 2 1), .ref 3])) (h' := (zt_T L, zt_R, a1.2, J, e)) (fun _ => rfl)).trans ?_
        have g8 : zz_in (a1.2 2 1) 400 = true := k7
        refine zl_iastore rfl rfl g8 rfl rfl ?_
        refine (zz_go 2 (fr' := (zm_T_put, d + 1, 35, [some (.ref 2), some (.int x0), some (.int a1.1)], [.ref 2, .ref 2])) (h' := (zt_T L, zt_R, (zz_up a1.2 3 (a1.2 2 1).toNatClampNeg ((zus x0 a1.1) &&& (255 : Int32))), J, e)) (fun _ => rfl)).trans ?_
        refine zl_getI rfl (by decide) rfl ((zu_ne (rfl)).trans rfl) ?_
        refine (zz_go 2 (fr' := (zm_T_put, d + 1, 40, [some (.ref 2), some (.int x0), some (.int a1.1)], [.int ((a1.2 2 1) + (1 : Int32)), .ref 2])) (h' := (zt_T L, zt_R, (zz_up a1.2 3 (a1.2 2 1).toNatClampNeg ((zus x0 a1.1) &&& (255 : Int32))), J, e)) (fun _ => rfl)).trans ?_
        refine zl_putI rfl rfl rfl rfl ?_
        refine (zz_go 2 (fr' := (zm_T_put, d + 1, 3, [some (.ref 2), some (.int x0), some (.int (a1.1 + (-8 : Int32)))], [])) (h' := (zt_T L, zt_R, (zz_up (zz_up a1.2 3 (a1.2 2 1).toNatClampNeg ((zus x0 a1.1) &&& (255 : Int32))) 2 1 ((a1.2 2 1) + (1 : Int32))), J, e)) (fun _ => rfl)).trans ?_
        have y1 := hx1 (by simp only [g_T_put_1, h4, h6, zk_t, zk_f, zb_t, zb_f])
        simpa only [g_T_put_1, h4, h6, zk_t, zk_f, zb_t, zb_f] using y1
  show zz_D (zm_T_put, d + 1, 49, [none, none, none], []) (zt_T L, zt_R, (zf_wh 1000 (g_T_put_1 M x0) 0 ((24 : Int32), M)).2, J, e) = _
  refine (zz_end 1 (r := (.inl none, (zt_T L, zt_R, (zf_wh 1000 (g_T_put_1 M x0) 0 ((24 : Int32), M)).2, J, e))) (fun _ => rfl)).trans ?_
  rfl
def w_T_cut (M : zMem) (x0 : Int32) : zMem := (zz_up M 2 1 (v_jm_max (0 : Int32) (v_jm_min x0 (M 2 1))))
set_option maxRecDepth 20000 in
set_option maxHeartbeats 2000000 in
theorem s_T_cut (L e : Nat) (J : zJem) (d : Nat) (M : zMem) (x0 : Int32) : zz_D (zm_T_cut, d + 2, 0, [some (.ref 2), some (.int x0)], []) (zt_T L, zt_R, M, J, e) = some (.inl (none), (zt_T L, zt_R, (w_T_cut M x0), J, e)) := by
  unfold w_T_cut
  refine (zz_go 4 (fr' := (zm_T_cut, d + 2, 4, [some (.ref 2), some (.int x0)], [.ref 2, .int x0, .int (0 : Int32), .ref 2])) (h' := (zt_T L, zt_R, M, J, e)) (fun _ => rfl)).trans ?_
  refine zl_getI rfl (by decide) rfl rfl ?_
  refine zl_st (d := d + 1) rfl rfl rfl rfl rfl rfl rfl (s_jm_min L e J (d + 0) x0 (M 2 1)) ?_
  show zz_D (zm_T_cut, d + 2, 10, [some (.ref 2), some (.int x0)], [.int (v_jm_min x0 (M 2 1)), .int (0 : Int32), .ref 2]) (zt_T L, zt_R, M, J, e) = _
  refine zl_st (d := d + 1) rfl rfl rfl rfl rfl rfl rfl (s_jm_max L e J (d + 0) (0 : Int32) (v_jm_min x0 (M 2 1))) ?_
  show zz_D (zm_T_cut, d + 2, 13, [some (.ref 2), some (.int x0)], [.int (v_jm_max (0 : Int32) (v_jm_min x0 (M 2 1))), .ref 2]) (zt_T L, zt_R, M, J, e) = _
  refine zl_putI rfl rfl rfl rfl ?_
  refine (zz_end 1 (r := (.inl none, (zt_T L, zt_R, (zz_up M 2 1 (v_jm_max (0 : Int32) (v_jm_min x0 (M 2 1)))), J, e))) (fun _ => rfl)).trans ?_
  rfl
def v_T_useUp (M : zMem) : Int32 := (M 2 1)
def w_T_useUp (M : zMem) : zMem := (zz_up M 2 1 (0 : Int32))
set_option maxRecDepth 20000 in
set_option maxHeartbeats 2000000 in
theorem s_T_useUp (L e : Nat) (J : zJem) (d : Nat) (M : zMem) : zz_D (zm_T_useUp, d + 1, 0, [some (.ref 2), none], []) (zt_T L, zt_R, M, J, e) = some (.inl (some (.int (v_T_useUp M))), (zt_T L, zt_R, (w_T_useUp M), J, e)) := by
  unfold v_T_useUp w_T_useUp
  refine (zz_go 1 (fr' := (zm_T_useUp, d + 1, 1, [some (.ref 2), none], [.ref 2])) (h' := (zt_T L, zt_R, M, J, e)) (fun _ => rfl)).trans ?_
  refine zl_getI rfl (by decide) rfl rfl ?_
  refine (zz_go 3 (fr' := (zm_T_useUp, d + 1, 7, [some (.ref 2), some (.int (M 2 1))], [.int (0 : Int32), .ref 2])) (h' := (zt_T L, zt_R, M, J, e)) (fun _ => rfl)).trans ?_
  refine zl_putI rfl rfl rfl rfl ?_
  refine (zz_go 1 (fr' := (zm_T_useUp, d + 1, 11, [some (.ref 2), some (.int (M 2 1))], [.int (M 2 1)])) (h' := (zt_T L, zt_R, (zz_up M 2 1 (0 : Int32)), J, e)) (fun _ => rfl)).trans ?_
  refine zl_retI rfl rfl ?_
  rfl
def v_T_byteAt (M : zMem) (x0 : Int32) : Int32 := (bif (decide (x0 < 0)) then (0 : Int32) else (bif (decide (x0 < (400 : Int32))) then (M 3 (x0).toNatClampNeg) else (0 : Int32)))
def ok_T_byteAt (M : zMem) (x0 : Int32) : Prop := ((decide (x0 < 0)) = false → ((decide (x0 < (400 : Int32))) = true → zz_in x0 400 = true))
set_option maxRecDepth 20000 in
set_option maxHeartbeats 2000000 in
theorem s_T_byteAt (L e : Nat) (J : zJem) (d : Nat) (M : zMem) (x0 : Int32) (k0 : ok_T_byteAt M x0) : zz_D (zm_T_byteAt, d + 1, 0, [some (.ref 2), some (.int x0)], []) (zt_T L, zt_R, M, J, e) = some (.inl (some (.int (v_T_byteAt M x0))), (zt_T L, zt_R, M, J, e)) := by
  unfold ok_T_byteAt at k0
  unfold v_T_byteAt
  refine zz_jn (X := zz_D (zm_T_byteAt, d + 1, 21, [none, none], [.int (bif (decide (x0 < 0)) then (0 : Int32) else (bif (decide (x0 < (400 : Int32))) then (M 3 (x0).toNatClampNeg) else (0 : Int32)))]) (zt_T L, zt_R, M, J, e)) (fun j1 => ?_) ?_
  · refine (zz_go 1 (fr' := (zm_T_byteAt, d + 1, 1, [some (.ref 2), some (.int x0)], [.int x0])) (h' := (zt_T L, zt_R, M, J, e)) (fun _ => rfl)).trans ?_
    rcases zz_bc (decide (x0 < 0)) with h2 | h2
    · refine zo_ltT rfl h2 ?_
      refine (zz_go 2 (fr' := (zm_T_byteAt, d + 1, 21, [some (.ref 2), some (.int x0)], [.int (0 : Int32)])) (h' := (zt_T L, zt_R, M, J, e)) (fun _ => rfl)).trans ?_
      refine zz_weak (L := [none, none]) ⟨Or.inr ⟨rfl, rfl⟩, Or.inr ⟨rfl, rfl⟩, trivial⟩ ?_
      simpa only [h2, zk_t, zk_f, zb_t, zb_f] using j1
    · refine zo_ltF rfl h2 ?_
      have k3 := k0 h2
      refine zz_jn (X := zz_D (zm_T_byteAt, d + 1, 21, [none, none], [.int (bif (decide (x0 < (400 : Int32))) then (M 3 (x0).toNatClampNeg) else (0 : Int32))]) (zt_T L, zt_R, M, J, e)) (fun j4 => ?_) ?_
      · refine (zz_go 2 (fr' := (zm_T_byteAt, d + 1, 8, [some (.ref 2), some (.int x0)], [.int (400 : Int32), .int x0])) (h' := (zt_T L, zt_R, M, J, e)) (fun _ => rfl)).trans ?_
        rcases zz_bc (decide (x0 < (400 : Int32))) with h5 | h5
        · refine zc_ltT rfl h5 ?_
          have k6 := k3 h5
          refine (zz_go 1 (fr' := (zm_T_byteAt, d + 1, 16, [some (.ref 2), some (.int x0)], [.ref 2])) (h' := (zt_T L, zt_R, M, J, e)) (fun _ => rfl)).trans ?_
          refine zl_getR rfl rfl rfl ?_
          refine (zz_go 1 (fr' := (zm_T_byteAt, d + 1, 20, [some (.ref 2), some (.int x0)], [.int x0, .ref 3])) (h' := (zt_T L, zt_R, M, J, e)) (fun _ => rfl)).trans ?_
          have g7 : zz_in x0 400 = true := k6
          refine zl_iaload rfl rfl g7 rfl ?_
          refine zz_weak (L := [none, none]) ⟨Or.inr ⟨rfl, rfl⟩, Or.inr ⟨rfl, rfl⟩, trivial⟩ ?_
          simpa only [h5, zk_t, zk_f, zb_t, zb_f] using j4
        · refine zc_ltF rfl h5 ?_
          refine (zz_go 2 (fr' := (zm_T_byteAt, d + 1, 21, [some (.ref 2), some (.int x0)], [.int (0 : Int32)])) (h' := (zt_T L, zt_R, M, J, e)) (fun _ => rfl)).trans ?_
          refine zz_weak (L := [none, none]) ⟨Or.inr ⟨rfl, rfl⟩, Or.inr ⟨rfl, rfl⟩, trivial⟩ ?_
          simpa only [h5, zk_t, zk_f, zb_t, zb_f] using j4
      simpa only [h2, zk_t, zk_f, zb_t, zb_f] using j1
  refine zl_retI rfl rfl ?_
  rfl
def g_T_moveTo_1 (M : zMem) (x0 : Int32) (i1 : Nat) (a1 : zMem) : Bool × (zMem) := ((bif (decide ((a1 2 2) ≤ (a1 2 3))) then false else (decide ((a1 3 (a1 2 3).toNatClampNeg) = (32 : Int32)))), (bif (decide ((a1 2 2) ≤ (a1 2 3))) then a1 else (bif (decide ((a1 3 (a1 2 3).toNatClampNeg) = (32 : Int32))) then (zz_up a1 2 3 ((a1 2 3) + (1 : Int32))) else a1)))
def kb_T_moveTo_1 (M : zMem) (x0 : Int32) (i1 : Nat) (a1 : zMem) : Prop := ((decide ((a1 2 2) ≤ (a1 2 3))) = false → zz_in (a1 2 3) 400 = true)
def w_T_moveTo (M : zMem) (x0 : Int32) : zMem := (zf_wh 1000 (g_T_moveTo_1 M x0) 0 (zz_up M 2 3 x0))
def ok_T_moveTo (M : zMem) (x0 : Int32) : Prop := (zf_wk 1000 (g_T_moveTo_1 M x0) (kb_T_moveTo_1 M x0) 0 (zz_up M 2 3 x0))
set_option maxRecDepth 20000 in
set_option maxHeartbeats 2000000 in
theorem s_T_moveTo (L e : Nat) (J : zJem) (d : Nat) (M : zMem) (x0 : Int32) (k0 : ok_T_moveTo M x0) : zz_D (zm_T_moveTo, d + 1, 0, [some (.ref 2), some (.int x0)], []) (zt_T L, zt_R, M, J, e) = some (.inl (none), (zt_T L, zt_R, (w_T_moveTo M x0), J, e)) := by
  unfold ok_T_moveTo at k0
  unfold w_T_moveTo
  refine (zz_go 2 (fr' := (zm_T_moveTo, d + 1, 2, [some (.ref 2), some (.int x0)], [.int x0, .ref 2])) (h' := (zt_T L, zt_R, M, J, e)) (fun _ => rfl)).trans ?_
  refine zl_putI rfl rfl rfl rfl ?_
  refine zz_weak (L := [some (.ref 2), none]) ⟨Or.inl rfl, Or.inr ⟨rfl, rfl⟩, trivial⟩ ?_
  refine zf_whY (X := fun (i1 : Nat) (a1 : zMem) => zz_D (zm_T_moveTo, d + 1, 5, [some (.ref 2), none], []) (zt_T L, zt_R, a1, J, e)) (Y := fun (a1 : zMem) => zz_D (zm_T_moveTo, d + 1, 43, [none, none], []) (zt_T L, zt_R, a1, J, e)) (g := (g_T_moveTo_1 M x0)) (k := (kb_T_moveTo_1 M x0)) (fun i1 a1 k3 hx1 hx2 => ?_) 1000 0 (zz_up M 2 3 x0) k0 ?_
  · show zz_D (zm_T_moveTo, d + 1, 5, [some (.ref 2), none], []) (zt_T L, zt_R, a1, J, e) = _
    unfold kb_T_moveTo_1 at k3
    refine (zz_go 1 (fr' := (zm_T_moveTo, d + 1, 6, [some (.ref 2), none], [.ref 2])) (h' := (zt_T L, zt_R, a1, J, e)) (fun _ => rfl)).trans ?_
    refine zl_getI rfl (by decide) rfl rfl ?_
    refine (zz_go 1 (fr' := (zm_T_moveTo, d + 1, 10, [some (.ref 2), none], [.ref 2, .int (a1 2 3)])) (h' := (zt_T L, zt_R, a1, J, e)) (fun _ => rfl)).trans ?_
    refine zl_getI rfl (by decide) rfl rfl ?_
    rcases zz_bc (decide ((a1 2 2) ≤ (a1 2 3))) with h4 | h4
    · refine zc_geT rfl h4 ?_
      refine zz_weak (L := [none, none]) ⟨Or.inr ⟨rfl, rfl⟩, Or.inl rfl, trivial⟩ ?_
      have y1 := hx2 (by simp only [g_T_moveTo_1, h4, zk_t, zk_f, zb_t, zb_f])
      simpa only [g_T_moveTo_1, h4, zk_t, zk_f, zb_t, zb_f] using y1
    · refine zc_geF rfl h4 ?_
      have k5 := k3 h4
      refine (zz_go 1 (fr' := (zm_T_moveTo, d + 1, 17, [some (.ref 2), none], [.ref 2])) (h' := (zt_T L, zt_R, a1, J, e)) (fun _ => rfl)).trans ?_
      refine zl_getR rfl rfl rfl ?_
      refine (zz_go 1 (fr' := (zm_T_moveTo, d + 1, 21, [some (.ref 2), none], [.ref 2, .ref 3])) (h' := (zt_T L, zt_R, a1, J, e)) (fun _ => rfl)).trans ?_
      refine zl_getI rfl (by decide) rfl rfl ?_
      have g6 : zz_in (a1 2 3) 400 = true := k5
      refine zl_iaload rfl rfl g6 rfl ?_
      refine (zz_go 1 (fr' := (zm_T_moveTo, d + 1, 27, [some (.ref 2), none], [.int (32 : Int32), .int (a1 3 (a1 2 3).toNatClampNeg)])) (h' := (zt_T L, zt_R, a1, J, e)) (fun _ => rfl)).trans ?_
      rcases zz_bc (decide ((a1 3 (a1 2 3).toNatClampNeg) = (32 : Int32))) with h7 | h7
      · refine zc_neT rfl h7 ?_
        refine (zz_go 2 (fr' := (zm_T_moveTo, d + 1, 32, [some (.ref 2), none], [.ref 2, .ref 2])) (h' := (zt_T L, zt_R, a1, J, e)) (fun _ => rfl)).trans ?_
        refine zl_getI rfl (by decide) rfl rfl ?_
        refine (zz_go 2 (fr' := (zm_T_moveTo, d + 1, 37, [some (.ref 2), none], [.int ((a1 2 3) + (1 : Int32)), .ref 2])) (h' := (zt_T L, zt_R, a1, J, e)) (fun _ => rfl)).trans ?_
        refine zl_putI rfl rfl rfl rfl ?_
        refine (zz_go 1 (fr' := (zm_T_moveTo, d + 1, 5, [some (.ref 2), none], [])) (h' := (zt_T L, zt_R, (zz_up a1 2 3 ((a1 2 3) + (1 : Int32))), J, e)) (fun _ => rfl)).trans ?_
        have y1 := hx1 (by simp only [g_T_moveTo_1, h4, h7, zk_t, zk_f, zb_t, zb_f])
        simpa only [g_T_moveTo_1, h4, h7, zk_t, zk_f, zb_t, zb_f] using y1
      · refine zc_neF rfl h7 ?_
        refine zz_weak (L := [none, none]) ⟨Or.inr ⟨rfl, rfl⟩, Or.inl rfl, trivial⟩ ?_
        have y1 := hx2 (by simp only [g_T_moveTo_1, h4, h7, zk_t, zk_f, zb_t, zb_f])
        simpa only [g_T_moveTo_1, h4, h7, zk_t, zk_f, zb_t, zb_f] using y1
  show zz_D (zm_T_moveTo, d + 1, 43, [none, none], []) (zt_T L, zt_R, (zf_wh 1000 (g_T_moveTo_1 M x0) 0 (zz_up M 2 3 x0)), J, e) = _
  refine (zz_end 1 (r := (.inl none, (zt_T L, zt_R, (zf_wh 1000 (g_T_moveTo_1 M x0) 0 (zz_up M 2 3 x0)), J, e))) (fun _ => rfl)).trans ?_
  rfl
def w_T_open (M : zMem) : zMem := (w_T_moveTo (zz_up (zz_up (w_T_useUp M) 2 2 (v_T_useUp M)) 2 4 (-1 : Int32)) (0 : Int32))
def ok_T_open (M : zMem) : Prop := ok_T_moveTo (zz_up (zz_up (w_T_useUp M) 2 2 (v_T_useUp M)) 2 4 (-1 : Int32)) (0 : Int32)
set_option maxRecDepth 20000 in
set_option maxHeartbeats 2000000 in
theorem s_T_open (L e : Nat) (J : zJem) (d : Nat) (M : zMem) (k0 : ok_T_open M) : zz_D (zm_T_open, d + 2, 0, [some (.ref 2)], []) (zt_T L, zt_R, M, J, e) = some (.inl (none), (zt_T L, zt_R, (w_T_open M), J, e)) := by
  unfold ok_T_open at k0
  unfold w_T_open
  refine (zz_go 2 (fr' := (zm_T_open, d + 2, 2, [some (.ref 2)], [.ref 2, .ref 2])) (h' := (zt_T L, zt_R, M, J, e)) (fun _ => rfl)).trans ?_
  refine zl_vt (d := d + 1) rfl rfl rfl rfl rfl rfl rfl rfl rfl rfl (s_T_useUp L e J (d + 0) M) ?_
  show zz_D (zm_T_open, d + 2, 5, [some (.ref 2)], [.int (v_T_useUp M), .ref 2]) (zt_T L, zt_R, (w_T_useUp M), J, e) = _
  refine zl_putI rfl rfl rfl rfl ?_
  refine (zz_go 2 (fr' := (zm_T_open, d + 2, 10, [some (.ref 2)], [.int (-1 : Int32), .ref 2])) (h' := (zt_T L, zt_R, (zz_up (w_T_useUp M) 2 2 (v_T_useUp M)), J, e)) (fun _ => rfl)).trans ?_
  refine zl_putI rfl rfl rfl rfl ?_
  refine (zz_go 2 (fr' := (zm_T_open, d + 2, 15, [some (.ref 2)], [.int (0 : Int32), .ref 2])) (h' := (zt_T L, zt_R, (zz_up (zz_up (w_T_useUp M) 2 2 (v_T_useUp M)) 2 4 (-1 : Int32)), J, e)) (fun _ => rfl)).trans ?_
  have g1 : ok_T_moveTo (zz_up (zz_up (w_T_useUp M) 2 2 (v_T_useUp M)) 2 4 (-1 : Int32)) (0 : Int32) := k0
  refine zl_vt (d := d + 1) rfl rfl rfl rfl rfl rfl rfl rfl rfl rfl (s_T_moveTo L e J (d + 0) (zz_up (zz_up (w_T_useUp M) 2 2 (v_T_useUp M)) 2 4 (-1 : Int32)) (0 : Int32) g1) ?_
  show zz_D (zm_T_open, d + 2, 18, [some (.ref 2)], []) (zt_T L, zt_R, (w_T_moveTo (zz_up (zz_up (w_T_useUp M) 2 2 (v_T_useUp M)) 2 4 (-1 : Int32)) (0 : Int32)), J, e) = _
  refine (zz_end 1 (r := (.inl none, (zt_T L, zt_R, (w_T_moveTo (zz_up (zz_up (w_T_useUp M) 2 2 (v_T_useUp M)) 2 4 (-1 : Int32)) (0 : Int32)), J, e))) (fun _ => rfl)).trans ?_
  rfl
def v_T_wrongByte (M : zMem) : Int32 := (M 2 4)
set_option maxRecDepth 20000 in
set_option maxHeartbeats 2000000 in
theorem s_T_wrongByte (L e : Nat) (J : zJem) (d : Nat) (M : zMem) : zz_D (zm_T_wrongByte, d + 1, 0, [some (.ref 2)], []) (zt_T L, zt_R, M, J, e) = some (.inl (some (.int (v_T_wrongByte M))), (zt_T L, zt_R, M, J, e)) := by
  unfold v_T_wrongByte
  refine (zz_go 1 (fr' := (zm_T_wrongByte, d + 1, 1, [some (.ref 2)], [.ref 2])) (h' := (zt_T L, zt_R, M, J, e)) (fun _ => rfl)).trans ?_
  refine zl_getI rfl (by decide) rfl rfl ?_
  refine zl_retI rfl rfl ?_
  rfl
def w_T_fail (M : zMem) : zMem := (zy_l (bif (decide ((M 2 4) = (-1 : Int32))) then (zz_up M 2 4 (M 2 3)) else M) (fun N => (zz_up N 2 3 (N 2 2))))
set_option maxRecDepth 20000 in
set_option maxHeartbeats 2000000 in
theorem s_T_fail (L e : Nat) (J : zJem) (d : Nat) (M : zMem) : zz_D (zm_T_fail, d + 1, 0, [some (.ref 2)], []) (zt_T L, zt_R, M, J, e) = some (.inl (none), (zt_T L, zt_R, (w_T_fail M), J, e)) := by
  unfold w_T_fail
  refine (zz_go 1 (fr' := (zm_T_fail, d + 1, 1, [some (.ref 2)], [.ref 2])) (h' := (zt_T L, zt_R, M, J, e)) (fun _ => rfl)).trans ?_
  refine zl_getI rfl (by decide) rfl rfl ?_
  refine zz_jn (X := zz_D (zm_T_fail, d + 1, 16, [some (.ref 2)], []) (zt_T L, zt_R, (bif (decide ((M 2 4) = (-1 : Int32))) then (zz_up M 2 4 (M 2 3)) else M), J, e)) (fun j1 => ?_) ?_
  · refine (zz_go 1 (fr' := (zm_T_fail, d + 1, 5, [some (.ref 2)], [.int (-1 : Int32), .int (M 2 4)])) (h' := (zt_T L, zt_R, M, J, e)) (fun _ => rfl)).trans ?_
    rcases zz_bc (decide ((M 2 4) = (-1 : Int32))) with h2 | h2
    · refine zc_neT rfl h2 ?_
      refine (zz_go 2 (fr' := (zm_T_fail, d + 1, 10, [some (.ref 2)], [.ref 2, .ref 2])) (h' := (zt_T L, zt_R, M, J, e)) (fun _ => rfl)).trans ?_
      refine zl_getI rfl (by decide) rfl rfl ?_
      refine zl_putI rfl rfl rfl rfl ?_
      simpa only [h2, zk_t, zk_f, zb_t, zb_f] using j1
    · refine zc_neF rfl h2 ?_
      simpa only [h2, zk_t, zk_f, zb_t, zb_f] using j1
  refine (zz_go 2 (fr' := (zm_T_fail, d + 1, 18, [some (.ref 2)], [.ref 2, .ref 2])) (h' := (zt_T L, zt_R, (bif (decide ((M 2 4) = (-1 : Int32))) then (zz_up M 2 4 (M 2 3)) else M), J, e)) (fun _ => rfl)).trans ?_
  refine zl_getI rfl (by decide) rfl rfl ?_
  refine zl_putI rfl rfl rfl rfl ?_
  refine (zz_end 1 (r := (.inl none, (zt_T L, zt_R, (zy_l (bif (decide ((M 2 4) = (-1 : Int32))) then (zz_up M 2 4 (M 2 3)) else M) (fun N => (zz_up N 2 3 (N 2 2)))), J, e))) (fun _ => rfl)).trans ?_
  rfl
def v_T_takeSign (M : zMem) (x0 : Int32) : Bool := (bif (decide ((M 2 2) ≤ (M 2 3))) then false else (decide ((M 3 (M 2 3).toNatClampNeg) = x0)))
def w_T_takeSign (M : zMem) (x0 : Int32) : zMem := (bif (decide ((M 2 2) ≤ (M 2 3))) then M else (bif (decide ((M 3 (M 2 3).toNatClampNeg) = x0)) then (w_T_moveTo M ((M 2 3) + (1 : Int32))) else M))
def ok_T_takeSign (M : zMem) (x0 : Int32) : Prop := ((decide ((M 2 2) ≤ (M 2 3))) = false → (zz_in (M 2 3) 400 = true ∧ ((decide ((M 3 (M 2 3).toNatClampNeg) = x0)) = true → ok_T_moveTo M ((M 2 3) + (1 : Int32)))))
set_option maxRecDepth 20000 in
set_option maxHeartbeats 2000000 in
theorem s_T_takeSign (L e : Nat) (J : zJem) (d : Nat) (M : zMem) (x0 : Int32) (k0 : ok_T_takeSign M x0) : zz_D (zm_T_takeSign, d + 2, 0, [some (.ref 2), some (.int x0)], []) (zt_T L, zt_R, M, J, e) = some (.inl (some (.int (zb (v_T_takeSign M x0)))), (zt_T L, zt_R, (w_T_takeSign M x0), J, e)) := by
  unfold ok_T_takeSign at k0
  unfold v_T_takeSign w_T_takeSign
  refine (zz_go 1 (fr' := (zm_T_takeSign, d + 2, 1, [some (.ref 2), some (.int x0)], [.ref 2])) (h' := (zt_T L, zt_R, M, J, e)) (fun _ => rfl)).trans ?_
  refine zl_getI rfl (by decide) rfl rfl ?_
  refine (zz_go 1 (fr' := (zm_T_takeSign, d + 2, 5, [some (.ref 2), some (.int x0)], [.ref 2, .int (M 2 3)])) (h' := (zt_T L, zt_R, M, J, e)) (fun _ => rfl)).trans ?_
  refine zl_getI rfl (by decide) rfl rfl ?_
  rcases zz_bc (decide ((M 2 2) ≤ (M 2 3))) with h1 | h1
  · refine zc_geT rfl h1 ?_
    refine (zz_go 1 (fr' := (zm_T_takeSign, d + 2, 25, [some (.ref 2), some (.int x0)], [.int (0 : Int32)])) (h' := (zt_T L, zt_R, M, J, e)) (fun _ => rfl)).trans ?_
    refine zl_retI rfl rfl ?_
    first | (simp only [h1, zk_t, zk_f, zb_t, zb_f]; done) | (simp only [h1, zk_t, zk_f, zb_t, zb_f]; rfl) | rfl
  · refine zc_geF rfl h1 ?_
    have k2 := k0 h1
    refine (zz_go 1 (fr' := (zm_T_takeSign, d + 2, 12, [some (.ref 2), some (.int x0)], [.ref 2])) (h' := (zt_T L, zt_R, M, J, e)) (fun _ => rfl)).trans ?_
    refine zl_getR rfl rfl rfl ?_
    refine (zz_go 1 (fr' := (zm_T_takeSign, d + 2, 16, [some (.ref 2), some (.int x0)], [.ref 2, .ref 3])) (h' := (zt_T L, zt_R, M, J, e)) (fun _ => rfl)).trans ?_
    refine zl_getI rfl (by decide) rfl rfl ?_
    obtain ⟨g3, k4⟩ := k2
    refine zl_iaload rfl rfl g3 rfl ?_
    refine (zz_go 1 (fr' := (zm_T_takeSign, d + 2, 21, [some (.ref 2), some (.int x0)], [.int x0, .int (M 3 (M 2 3).toNatClampNeg)])) (h' := (zt_T L, zt_R, M, J, e)) (fun _ => rfl)).trans ?_
    rcases zz_bc (decide ((M 3 (M 2 3).toNatClampNeg) = x0)) with h5 | h5
    · refine zc_eqT rfl h5 ?_
      have k6 := k4 h5
      refine (zz_go 2 (fr' := (zm_T_takeSign, d + 2, 28, [some (.ref 2), some (.int x0)], [.ref 2, .ref 2])) (h' := (zt_T L, zt_R, M, J, e)) (fun _ => rfl)).trans ?_
      refine zl_getI rfl (by decide) rfl rfl ?_
      refine (zz_go 2 (fr' := (zm_T_takeSign, d + 2, 33, [some (.ref 2), some (.int x0)], [.int ((M 2 3) + (1 : Int32)), .ref 2])) (h' := (zt_T L, zt_R, M, J, e)) (fun _ => rfl)).trans ?_
      have g7 : ok_T_moveTo M ((M 2 3) + (1 : Int32)) := k6
      refine zl_vt (d := d + 1) rfl rfl rfl rfl rfl rfl rfl rfl rfl rfl (s_T_moveTo L e J (d + 0) M ((M 2 3) + (1 : Int32)) g7) ?_
      show zz_D (zm_T_takeSign, d + 2, 36, [some (.ref 2), some (.int x0)], []) (zt_T L, zt_R, (w_T_moveTo M ((M 2 3) + (1 : Int32))), J, e) = _
      refine (zz_go 1 (fr' := (zm_T_takeSign, d + 2, 37, [some (.ref 2), some (.int x0)], [.int (1 : Int32)])) (h' := (zt_T L, zt_R, (w_T_moveTo M ((M 2 3) + (1 : Int32))), J, e)) (fun _ => rfl)).trans ?_
      refine zl_retI rfl rfl ?_
      first | (simp only [h1, h5, zk_t, zk_f, zb_t, zb_f]; done) | (simp only [h1, h5, zk_t, zk_f, zb_t, zb_f]; rfl) | rfl
    · refine zc_eqF rfl h5 ?_
      refine (zz_go 1 (fr' := (zm_T_takeSign, d + 2, 25, [some (.ref 2), some (.int x0)], [.int (0 : Int32)])) (h' := (zt_T L, zt_R, M, J, e)) (fun _ => rfl)).trans ?_
      refine zl_retI rfl rfl ?_
      first | (simp only [h1, h5, zk_t, zk_f, zb_t, zb_f]; done) | (simp only [h1, h5, zk_t, zk_f, zb_t, zb_f]; rfl) | rfl
def w_T_needSign (M : zMem) (x0 : Int32) : zMem := (bif (v_T_takeSign M x0) then (w_T_takeSign M x0) else (w_T_fail (w_T_takeSign M x0)))
def ok_T_needSign (M : zMem) (x0 : Int32) : Prop := ok_T_takeSign M x0
set_option maxRecDepth 20000 in
set_option maxHeartbeats 2000000 in
theorem s_T_needSign (L e : Nat) (J : zJem) (d : Nat) (M : zMem) (x0 : Int32) (k0 : ok_T_needSign M x0) : zz_D (zm_T_needSign, d + 3, 0, [some (.ref 2), some (.int x0)], []) (zt_T L, zt_R, M, J, e) = some (.inl (none), (zt_T L, zt_R, (w_T_needSign M x0), J, e)) := by
  unfold ok_T_needSign at k0
  unfold w_T_needSign
  refine (zz_go 2 (fr' := (zm_T_needSign, d + 3, 2, [some (.ref 2), some (.int x0)], [.int x0, .ref 2])) (h' := (zt_T L, zt_R, M, J, e)) (fun _ => rfl)).trans ?_
  have g1 : ok_T_takeSign M x0 := k0
  refine zl_vt (d := d + 2) rfl rfl rfl rfl rfl rfl rfl rfl rfl rfl (s_T_takeSign L e J (d + 0) M x0 g1) ?_
  show zz_D (zm_T_needSign, d + 3, 5, [some (.ref 2), some (.int x0)], [.int (zb (v_T_takeSign M x0))]) (zt_T L, zt_R, (w_T_takeSign M x0), J, e) = _
  refine zz_jn (X := zz_D (zm_T_needSign, d + 3, 12, [none, none], []) (zt_T L, zt_R, (bif (v_T_takeSign M x0) then (w_T_takeSign M x0) else (w_T_fail (w_T_takeSign M x0))), J, e)) (fun j2 => ?_) ?_
  · rcases zz_bc (v_T_takeSign M x0) with h3 | h3
    · refine zq_fT rfl h3 ?_
      refine zz_weak (L := [none, none]) ⟨Or.inr ⟨rfl, rfl⟩, Or.inr ⟨rfl, rfl⟩, trivial⟩ ?_
      simpa only [h3, zk_t, zk_f, zb_t, zb_f] using j2
    · refine zq_fF rfl h3 ?_
      refine (zz_go 1 (fr' := (zm_T_needSign, d + 3, 9, [some (.ref 2), some (.int x0)], [.ref 2])) (h' := (zt_T L, zt_R, (w_T_takeSign M x0), J, e)) (fun _ => rfl)).trans ?_
      refine zl_vt (d := d + 2) rfl rfl rfl rfl rfl rfl rfl rfl rfl rfl (s_T_fail L e J (d + 1) (w_T_takeSign M x0)) ?_
      show zz_D (zm_T_needSign, d + 3, 12, [some (.ref 2), some (.int x0)], []) (zt_T L, zt_R, (w_T_fail (w_T_takeSign M x0)), J, e) = _
      refine zz_weak (L := [none, none]) ⟨Or.inr ⟨rfl, rfl⟩, Or.inr ⟨rfl, rfl⟩, trivial⟩ ?_
      simpa only [h3, zk_t, zk_f, zb_t, zb_f] using j2
  refine (zz_end 1 (r := (.inl none, (zt_T L, zt_R, (bif (v_T_takeSign M x0) then (w_T_takeSign M x0) else (w_T_fail (w_T_takeSign M x0))), J, e))) (fun _ => rfl)).trans ?_
  rfl
def v_T_takeLine (M : zMem) (x0 : Int32) (x1 : Int32) : Bool := (bif (bif (decide (x0 = 0)) then (bif (decide ((M 2 2) ≤ (M 2 3))) then false else true) else (v_T_takeSign M (59 : Int32))) then (bif (decide (x0 < x1)) then (bif (decide (x0 = 0)) then (bif (decide ((M 2 2) ≤ (M 2 3))) then false else true) else (v_T_takeSign M (59 : Int32))) else false) else (bif (decide (((bif (decide (x0 = 0)) then M else (w_T_takeSign M (59 : Int32))) 2 2) ≤ ((bif (decide (x0 = 0)) then M else (w_T_takeSign M (59 : Int32))) 2 3))) then (bif (decide (x0 = 0)) then (bif (decide ((M 2 2) ≤ (M 2 3))) then false else true) else (v_T_takeSign M (59 : Int32))) else false))
def w_T_takeLine (M : zMem) (x0 : Int32) (x1 : Int32) : zMem := (bif (bif (decide (x0 = 0)) then (bif (decide ((M 2 2) ≤ (M 2 3))) then false else true) else (v_T_takeSign M (59 : Int32))) then (bif (decide (x0 < x1)) then (bif (decide (x0 = 0)) then M else (w_T_takeSign M (59 : Int32))) else (w_T_fail (bif (decide (x0 = 0)) then M else (w_T_takeSign M (59 : Int32))))) else (bif (decide (((bif (decide (x0 = 0)) then M else (w_T_takeSign M (59 : Int32))) 2 2) ≤ ((bif (decide (x0 = 0)) then M else (w_T_takeSign M (59 : Int32))) 2 3))) then (bif (decide (x0 = 0)) then M else (w_T_takeSign M (59 : Int32))) else (w_T_fail (bif (decide (x0 = 0)) then M else (w_T_takeSign M (59 : Int32))))))
def ok_T_takeLine (M : zMem) (x0 : Int32) (x1 : Int32) : Prop := ((decide (x0 = 0)) = false → ok_T_takeSign M (59 : Int32))
set_option maxRecDepth 20000 in
set_option maxHeartbeats 2000000 in
theorem s_T_takeLine (L e : Nat) (J : zJem) (d : Nat) (M : zMem) (x0 : Int32) (x1 : Int32) (k0 : ok_T_takeLine M x0 x1) : zz_D (zm_T_takeLine, d + 3, 0, [some (.ref 2), some (.int x0), some (.int x1), none], []) (zt_T L, zt_R, M, J, e) = some (.inl (some (.int (zb (v_T_takeLine M x0 x1)))), (zt_T L, zt_R, (w_T_takeLine M x0 x1), J, e)) := by
  unfold ok_T_takeLine at k0
  unfold v_T_takeLine w_T_takeLine
  refine zz_jn (X := zz_D (zm_T_takeLine, d + 3, 29, [some (.ref 2), some (.int x0), some (.int x1), none], [.int (zb (bif (decide (x0 = 0)) then (bif (decide ((M 2 2) ≤ (M 2 3))) then false else true) else (v_T_takeSign M (59 : Int32))))]) (zt_T L, zt_R, (bif (decide (x0 = 0)) then M else (w_T_takeSign M (59 : Int32))), J, e)) (fun j1 => ?_) ?_
  · refine (zz_go 1 (fr' := (zm_T_takeLine, d + 3, 1, [some (.ref 2), some (.int x0), some (.int x1), none], [.int x0])) (h' := (zt_T L, zt_R, M, J, e)) (fun _ => rfl)).trans ?_
    rcases zz_bc (decide (x0 = 0)) with h2 | h2
    · refine zo_neT rfl h2 ?_
      refine (zz_go 1 (fr' := (zm_T_takeLine, d + 3, 5, [some (.ref 2), some (.int x0), some (.int x1), none], [.ref 2])) (h' := (zt_T L, zt_R, M, J, e)) (fun _ => rfl)).trans ?_
      refine zl_getI rfl (by decide) rfl rfl ?_
      refine (zz_go 1 (fr' := (zm_T_takeLine, d + 3, 9, [some (.ref 2), some (.int x0), some (.int x1), none], [.ref 2, .int (M 2 3)])) (h' := (zt_T L, zt_R, M, J, e)) (fun _ => rfl)).trans ?_
      refine zl_getI rfl (by decide) rfl rfl ?_
      refine zz_jn (X := zz_D (zm_T_takeLine, d + 3, 29, [some (.ref 2), some (.int x0), some (.int x1), none], [.int (zb (bif (decide ((M 2 2) ≤ (M 2 3))) then false else true))]) (zt_T L, zt_R, M, J, e)) (fun j3 => ?_) ?_
      · rcases zz_bc (decide ((M 2 2) ≤ (M 2 3))) with h4 | h4
        · refine zc_geT rfl h4 ?_
          refine (zz_go 2 (fr' := (zm_T_takeLine, d + 3, 29, [some (.ref 2), some (.int x0), some (.int x1), none], [.int (0 : Int32)])) (h' := (zt_T L, zt_R, M, J, e)) (fun _ => rfl)).trans ?_
          simpa only [h4, zk_t, zk_f, zb_t, zb_f] using j3
        · refine zc_geF rfl h4 ?_
          refine (zz_go 2 (fr' := (zm_T_takeLine, d + 3, 29, [some (.ref 2), some (.int x0), some (.int x1), none], [.int (1 : Int32)])) (h' := (zt_T L, zt_R, M, J, e)) (fun _ => rfl)).trans ?_
          simpa only [h4, zk_t, zk_f, zb_t, zb_f] using j3
      simpa only [h2, zk_t, zk_f, zb_t, zb_f] using j1
    · refine zo_neF rfl h2 ?_
      have k5 := k0 h2
      refine (zz_go 2 (fr' := (zm_T_takeLine, d + 3, 26, [some (.ref 2), some (.int x0), some (.int x1), none], [.int (59 : Int32), .ref 2])) (h' := (zt_T L, zt_R, M, J, e)) (fun _ => rfl)).trans ?_
      have g6 : ok_T_takeSign M (59 : Int32) := k5
      refine zl_vt (d := d + 2) rfl rfl rfl rfl rfl rfl rfl rfl rfl rfl (s_T_takeSign L e J (d + 0) M (59 : Int32) g6) ?_
      show zz_D (zm_T_takeLine, d + 3, 29, [some (.ref 2), some (.int x0), some (.int x1), none], [.int (zb (v_T_takeSign M (59 : Int32)))]) (zt_T L, zt_R, (w_T_takeSign M (59 : Int32)), J, e) = _
      simpa only [h2, zk_t, zk_f, zb_t, zb_f] using j1
  refine (zz_go 2 (fr' := (zm_T_takeLine, d + 3, 31, [some (.ref 2), some (.int x0), some (.int x1), some (.int (zb (bif (decide (x0 = 0)) then (bif (decide ((M 2 2) ≤ (M 2 3))) then false else true) else (v_T_takeSign M (59 : Int32)))))], [.int (zb (bif (decide (x0 = 0)) then (bif (decide ((M 2 2) ≤ (M 2 3))) then false else true) else (v_T_takeSign M (59 : Int32))))])) (h' := (zt_T L, zt_R, (bif (decide (x0 = 0)) then M else (w_T_takeSign M (59 : Int32))), J, e)) (fun _ => rfl)).trans ?_
  rcases zz_bc (bif (decide (x0 = 0)) then (bif (decide ((M 2 2) ≤ (M 2 3))) then false else true) else (v_T_takeSign M (59 : Int32))) with h7 | h7
  · refine zq_eT rfl h7 ?_
    refine (zz_go 2 (fr' := (zm_T_takeLine, d + 3, 36, [some (.ref 2), some (.int x0), some (.int x1), some (.int (zb (bif (decide (x0 = 0)) then (bif (decide ((M 2 2) ≤ (M 2 3))) then false else true) else (v_T_takeSign M (59 : Int32)))))], [.int x1, .int x0])) (h' := (zt_T L, zt_R, (bif (decide (x0 = 0)) then M else (w_T_takeSign M (59 : Int32))), J, e)) (fun _ => rfl)).trans ?_
    rcases zz_bc (decide (x0 < x1)) with h8 | h8
    · refine zc_ltT rfl h8 ?_
      refine (zz_go 1 (fr' := (zm_T_takeLine, d + 3, 60, [some (.ref 2), some (.int x0), some (.int x1), some (.int (zb (bif (decide (x0 = 0)) then (bif (decide ((M 2 2) ≤ (M 2 3))) then false else true) else (v_T_takeSign M (59 : Int32)))))], [.int (zb (bif (decide (x0 = 0)) then (bif (decide ((M 2 2) ≤ (M 2 3))) then false else true) else (v_T_takeSign M (59 : Int32))))])) (h' := (zt_T L, zt_R, (bif (decide (x0 = 0)) then M else (w_T_takeSign M (59 : Int32))), J, e)) (fun _ => rfl)).trans ?_
      refine zl_retI rfl (zb_01 _) ?_
      first | (simp only [h7, h8, zk_t, zk_f, zb_t, zb_f]; done) | (simp only [h7, h8, zk_t, zk_f, zb_t, zb_f]; rfl) | rfl
    · refine zc_ltF rfl h8 ?_
      refine (zz_go 2 (fr' := (zm_T_takeLine, d + 3, 54, [some (.ref 2), some (.int x0), some (.int x1), some (.int (zb (bif (decide (x0 = 0)) then (bif (decide ((M 2 2) ≤ (M 2 3))) then false else true) else (v_T_takeSign M (59 : Int32)))))], [.ref 2])) (h' := (zt_T L, zt_R, (bif (decide (x0 = 0)) then M else (w_T_takeSign M (59 : Int32))), J, e)) (fun _ => rfl)).trans ?_
      refine zl_vt (d := d + 2) rfl rfl rfl rfl rfl rfl rfl rfl rfl rfl (s_T_fail L e J (d + 1) (bif (decide (x0 = 0)) then M else (w_T_takeSign M (59 : Int32)))) ?_
      show zz_D (zm_T_takeLine, d + 3, 57, [some (.ref 2), some (.int x0), some (.int x1), some (.int (zb (bif (decide (x0 = 0)) then (bif (decide ((M 2 2) ≤ (M 2 3))) then false else true) else (v_T_takeSign M (59 : Int32)))))], []) (zt_T L, zt_R, (w_T_fail (bif (decide (x0 = 0)) then M else (w_T_takeSign M (59 : Int32)))), J, e) = _
      refine (zz_go 1 (fr' := (zm_T_takeLine, d + 3, 58, [some (.ref 2), some (.int x0), some (.int x1), some (.int (zb (bif (decide (x0 = 0)) then (bif (decide ((M 2 2) ≤ (M 2 3))) then false else true) else (v_T_takeSign M (59 : Int32)))))], [.int (0 : Int32)])) (h' := (zt_T L, zt_R, (w_T_fail (bif (decide (x0 = 0)) then M else (w_T_takeSign M (59 : Int32)))), J, e)) (fun _ => rfl)).trans ?_
      refine zl_retI rfl rfl ?_
      first | (simp only [h7, h8, zk_t, zk_f, zb_t, zb_f]; done) | (simp only [h7, h8, zk_t, zk_f, zb_t, zb_f]; rfl) | rfl
  · refine zq_eF rfl h7 ?_
    refine (zz_go 1 (fr' := (zm_T_takeLine, d + 3, 43, [some (.ref 2), some (.int x0), some (.int x1), some (.int (zb (bif (decide (x0 = 0)) then (bif (decide ((M 2 2) ≤ (M 2 3))) then false else true) else (v_T_takeSign M (59 : Int32)))))], [.ref 2])) (h' := (zt_T L, zt_R, (bif (decide (x0 = 0)) then M else (w_T_takeSign M (59 : Int32))), J, e)) (fun _ => rfl)).trans ?_
    refine zl_getI rfl (by decide) rfl rfl ?_
    refine (zz_go 1 (fr' := (zm_T_takeLine, d + 3, 47, [some (.ref 2), some (.int x0), some (.int x1), some (.int (zb (bif (decide (x0 = 0)) then (bif (decide ((M 2 2) ≤ (M 2 3))) then false else true) else (v_T_takeSign M (59 : Int32)))))], [.ref 2, .int ((bif (decide (x0 = 0)) then M else (w_T_takeSign M (59 : Int32))) 2 3)])) (h' := (zt_T L, zt_R, (bif (decide (x0 = 0)) then M else (w_T_takeSign M (59 : Int32))), J, e)) (fun _ => rfl)).trans ?_
    refine zl_getI rfl (by decide) rfl rfl ?_
    rcases zz_bc (decide (((bif (decide (x0 = 0)) then M else (w_T_takeSign M (59 : Int32))) 2 2) ≤ ((bif (decide (x0 = 0)) then M else (w_T_takeSign M (59 : Int32))) 2 3))) with h9 | h9
    · refine zc_geT rfl h9 ?_
      refine (zz_go 1 (fr' := (zm_T_takeLine, d + 3, 60, [some (.ref 2), some (.int x0), some (.int x1), some (.int (zb (bif (decide (x0 = 0)) then (bif (decide ((M 2 2) ≤ (M 2 3))) then false else true) else (v_T_takeSign M (59 : Int32)))))], [.int (zb (bif (decide (x0 = 0)) then (bif (decide ((M 2 2) ≤ (M 2 3))) then false else true) else (v_T_takeSign M (59 : Int32))))])) (h' := (zt_T L, zt_R, (bif (decide (x0 = 0)) then M else (w_T_takeSign M (59 : Int32))), J, e)) (fun _ => rfl)).trans ?_
      refine zl_retI rfl (zb_01 _) ?_
      first | (simp only [h7, h9, zk_t, zk_f, zb_t, zb_f]; done) | (simp only [h7, h9, zk_t, zk_f, zb_t, zb_f]; rfl) | rfl
    · refine zc_geF rfl h9 ?_
      refine (zz_go 1 (fr' := (zm_T_takeLine, d + 3, 54, [some (.ref 2), some (.int x0), some (.int x1), some (.int (zb (bif (decide (x0 = 0)) then (bif (decide ((M 2 2) ≤ (M 2 3))) then false else true) else (v_T_takeSign M (59 : Int32)))))], [.ref 2])) (h' := (zt_T L, zt_R, (bif (decide (x0 = 0)) then M else (w_T_takeSign M (59 : Int32))), J, e)) (fun _ => rfl)).trans ?_
      refine zl_vt (d := d + 2) rfl rfl rfl rfl rfl rfl rfl rfl rfl rfl (s_T_fail L e J (d + 1) (bif (decide (x0 = 0)) then M else (w_T_takeSign M (59 : Int32)))) ?_
      show zz_D (zm_T_takeLine, d + 3, 57, [some (.ref 2), some (.int x0), some (.int x1), some (.int (zb (bif (decide (x0 = 0)) then (bif (decide ((M 2 2) ≤ (M 2 3))) then false else true) else (v_T_takeSign M (59 : Int32)))))], []) (zt_T L, zt_R, (w_T_fail (bif (decide (x0 = 0)) then M else (w_T_takeSign M (59 : Int32)))), J, e) = _
      refine (zz_go 1 (fr' := (zm_T_takeLine, d + 3, 58, [some (.ref 2), some (.int x0), some (.int x1), some (.int (zb (bif (decide (x0 = 0)) then (bif (decide ((M 2 2) ≤ (M 2 3))) then false else true) else (v_T_takeSign M (59 : Int32)))))], [.int (0 : Int32)])) (h' := (zt_T L, zt_R, (w_T_fail (bif (decide (x0 = 0)) then M else (w_T_takeSign M (59 : Int32)))), J, e)) (fun _ => rfl)).trans ?_
      refine zl_retI rfl rfl ?_
      first | (simp only [h7, h9, zk_t, zk_f, zb_t, zb_f]; done) | (simp only [h7, h9, zk_t, zk_f, zb_t, zb_f]; rfl) | rfl
def g_T_runEnd_1 (M : zMem) (x0 : Int32) (x1 : Int32) (i1 : Nat) (a1 : Int32) : Bool × (Int32) := ((bif (decide ((M 2 2) ≤ a1)) then false else (bif (decide ((M 3 (a1).toNatClampNeg) < x0)) then false else (bif (decide (x1 < (M 3 (a1).toNatClampNeg))) then false else true))), (bif (decide ((M 2 2) ≤ a1)) then a1 else (bif (decide ((M 3 (a1).toNatClampNeg) < x0)) then a1 else (bif (decide (x1 < (M 3 (a1).toNatClampNeg))) then a1 else (a1 + (1 : Int32))))))
def kb_T_runEnd_1 (M : zMem) (x0 : Int32) (x1 : Int32) (i1 : Nat) (a1 : Int32) : Prop := ((decide ((M 2 2) ≤ a1)) = false → zz_in a1 400 = true)
def v_T_runEnd (M : zMem) (x0 : Int32) (x1 : Int32) : Int32 := (zf_wh 1000 (g_T_runEnd_1 M x0 x1) 0 (M 2 3))
def ok_T_runEnd (M : zMem) (x0 : Int32) (x1 : Int32) : Prop := (zf_wk 1000 (g_T_runEnd_1 M x0 x1) (kb_T_runEnd_1 M x0 x1) 0 (M 2 3))
set_option maxRecDepth 20000 in
set_option maxHeartbeats 2000000 in
theorem s_T_runEnd (L e : Nat) (J : zJem) (d : Nat) (M : zMem) (x0 : Int32) (x1 : Int32) (k0 : ok_T_runEnd M x0 x1) : zz_D (zm_T_runEnd, d + 1, 0, [some (.ref 2), some (.int x0), some (.int x1), none], []) (zt_T L, zt_R, M, J, e) = some (.inl (some (.int (v_T_runEnd M x0 x1))), (zt_T L, zt_R, M, J, e)) := by
  unfold ok_T_runEnd at k0
  unfold v_T_runEnd
  refine (zz_go 1 (fr' := (zm_T_runEnd, d + 1, 1, [some (.ref 2), some (.int x0), some (.int x1), none], [.ref 2])) (h' := (zt_T L, zt_R, M, J, e)) (fun _ => rfl)).trans ?_
  refine zl_getI rfl (by decide) rfl rfl ?_
  refine (zz_go 1 (fr' := (zm_T_runEnd, d + 1, 5, [some (.ref 2), some (.int x0), some (.int x1), some (.int (M 2 3))], [])) (h' := (zt_T L, zt_R, M, J, e)) (fun _ => rfl)).trans ?_
  refine zf_whY (X := fun (i1 : Nat) (a1 : Int32) => zz_D (zm_T_runEnd, d + 1, 5, [some (.ref 2), some (.int x0), some (.int x1), some (.int a1)], []) (zt_T L, zt_R, M, J, e)) (Y := fun (a1 : Int32) => zz_D (zm_T_runEnd, d + 1, 39, [none, none, none, some (.int a1)], []) (zt_T L, zt_R, M, J, e)) (g := (g_T_runEnd_1 M x0 x1)) (k := (kb_T_runEnd_1 M x0 x1)) (fun i1 a1 k3 hx1 hx2 => ?_) 1000 0 (M 2 3) k0 ?_
  · show zz_D (zm_T_runEnd, d + 1, 5, [some (.ref 2), some (.int x0), some (.int x1), some (.int a1)], []) (zt_T L, zt_R, M, J, e) = _
    unfold kb_T_runEnd_1 at k3
    refine (zz_go 2 (fr' := (zm_T_runEnd, d + 1, 7, [some (.ref 2), some (.int x0), some (.int x1), some (.int a1)], [.ref 2, .int a1])) (h' := (zt_T L, zt_R, M, J, e)) (fun _ => rfl)).trans ?_
    refine zl_getI rfl (by decide) rfl rfl ?_
    rcases zz_bc (decide ((M 2 2) ≤ a1)) with h4 | h4
    · refine zc_geT rfl h4 ?_
      refine zz_weak (L := [none, none, none, some (.int a1)]) ⟨Or.inr ⟨rfl, rfl⟩, Or.inr ⟨rfl, rfl⟩, Or.inr ⟨rfl, rfl⟩, Or.inl rfl, trivial⟩ ?_
      have y1 := hx2 (by simp only [g_T_runEnd_1, h4, zk_t, zk_f, zb_t, zb_f])
      simpa only [g_T_runEnd_1, h4, zk_t, zk_f, zb_t, zb_f] using y1
    · refine zc_geF rfl h4 ?_
      have k5 := k3 h4
      refine (zz_go 1 (fr' := (zm_T_runEnd, d + 1, 14, [some (.ref 2), some (.int x0), some (.int x1), some (.int a1)], [.ref 2])) (h' := (zt_T L, zt_R, M, J, e)) (fun _ => rfl)).trans ?_
      refine zl_getR rfl rfl rfl ?_
      refine (zz_go 1 (fr' := (zm_T_runEnd, d + 1, 18, [some (.ref 2), some (.int x0), some (.int x1), some (.int a1)], [.int a1, .ref 3])) (h' := (zt_T L, zt_R, M, J, e)) (fun _ => rfl)).trans ?_
      have g6 : zz_in a1 400 = true := k5
      refine zl_iaload rfl rfl g6 rfl ?_
      refine (zz_go 1 (fr' := (zm_T_runEnd, d + 1, 20, [some (.ref 2), some (.int x0), some (.int x1), some (.int a1)], [.int x0, .int (M 3 (a1).toNatClampNeg)])) (h' := (zt_T L, zt_R, M, J, e)) (fun _ => rfl)).trans ?_
      rcases zz_bc (decide ((M 3 (a1).toNatClampNeg) < x0)) with h7 | h7
      · refine zc_ltT rfl h7 ?_
        refine zz_weak (L := [none, none, none, some (.int a1)]) ⟨Or.inr ⟨rfl, rfl⟩, Or.inr ⟨rfl, rfl⟩, Or.inr ⟨rfl, rfl⟩, Or.inl rfl, trivial⟩ ?_
        have y1 := hx2 (by simp only [g_T_runEnd_1, h4, h7, zk_t, zk_f, zb_t, zb_f])
        simpa only [g_T_runEnd_1, h4, h7, zk_t, zk_f, zb_t, zb_f] using y1
      · refine zc_ltF rfl h7 ?_
        refine (zz_go 1 (fr' := (zm_T_runEnd, d + 1, 24, [some (.ref 2), some (.int x0), some (.int x1), some (.int a1)], [.ref 2])) (h' := (zt_T L, zt_R, M, J, e)) (fun _ => rfl)).trans ?_
        refine zl_getR rfl rfl rfl ?_
        refine (zz_go 1 (fr' := (zm_T_runEnd, d + 1, 28, [some (.ref 2), some (.int x0), some (.int x1), some (.int a1)], [.int a1, .ref 3])) (h' := (zt_T L, zt_R, M, J, e)) (fun _ => rfl)).trans ?_
        refine zl_iaload rfl rfl g6 rfl ?_
        refine (zz_go 1 (fr' := (zm_T_runEnd, d + 1, 30, [some (.ref 2), some (.int x0), some (.int x1), some (.int a1)], [.int x1, .int (M 3 (a1).toNatClampNeg)])) (h' := (zt_T L, zt_R, M, J, e)) (fun _ => rfl)).trans ?_
        rcases zz_bc (decide (x1 < (M 3 (a1).toNatClampNeg))) with h8 | h8
        · refine zc_gtT rfl h8 ?_
          refine zz_weak (L := [none, none, none, some (.int a1)]) ⟨Or.inr ⟨rfl, rfl⟩, Or.inr ⟨rfl, rfl⟩, Or.inr ⟨rfl, rfl⟩, Or.inl rfl, trivial⟩ ?_
          have y1 := hx2 (by simp only [g_T_runEnd_1, h4, h7, h8, zk_t, zk_f, zb_t, zb_f])
          simpa only [g_T_runEnd_1, h4, h7, h8, zk_t, zk_f, zb_t, zb_f] using y1
        · refine zc_gtF rfl h8 ?_
          refine (zz_go 2 (fr' := (zm_T_runEnd, d + 1, 5, [some (.ref 2), some (.int x0), some (.int x1), some (.int (a1 + (1 : Int32)))], [])) (h' := (zt_T L, zt_R, M, J, e)) (fun _ => rfl)).trans ?_
          have y1 := hx1 (by simp only [g_T_runEnd_1, h4, h7, h8, zk_t, zk_f, zb_t, zb_f])
          simpa only [g_T_runEnd_1, h4, h7, h8, zk_t, zk_f, zb_t, zb_f] using y1
  show zz_D (zm_T_runEnd, d + 1, 39, [none, none, none, some (.int (zf_wh 1000 (g_T_runEnd_1 M x0 x1) 0 (M 2 3)))], []) (zt_T L, zt_R, M, J, e) = _
  refine (zz_go 1 (fr' := (zm_T_runEnd, d + 1, 40, [none, none, none, some (.int (zf_wh 1000 (g_T_runEnd_1 M x0 x1) 0 (M 2 3)))], [.int (zf_wh 1000 (g_T_runEnd_1 M x0 x1) 0 (M 2 3))])) (h' := (zt_T L, zt_R, M, J, e)) (fun _ => rfl)).trans ?_
  refine zl_retI rfl rfl ?_
  rfl
def g_T_takeWord_1 (M : zMem) (w : Nat) (i1 : Nat) (a1 : Int32 × Bool × Bool) : Bool × (Int32 × Bool × Bool) := ((bif (decide ((v_T_runEnd M (97 : Int32) (122 : Int32)) ≤ a1.1)) then false else (decide ((M 3 (a1.1).toNatClampNeg) = ((zz_S.getD w []).getD (a1.1 - (M 2 3)).toNatClampNeg 0)))), ((bif (decide ((v_T_runEnd M (97 : Int32) (122 : Int32)) ≤ a1.1)) then a1.1 else (bif (decide ((M 3 (a1.1).toNatClampNeg) = ((zz_S.getD w []).getD (a1.1 - (M 2 3)).toNatClampNeg 0))) then (a1.1 + (1 : Int32)) else a1.1)), (bif (decide ((v_T_runEnd M (97 : Int32) (122 : Int32)) ≤ a1.1)) then false else (bif (decide ((M 3 (a1.1).toNatClampNeg) = ((zz_S.getD w []).getD (a1.1 - (M 2 3)).toNatClampNeg 0))) then false else true)), (bif (decide ((v_T_runEnd M (97 : Int32) (122 : Int32)) ≤ a1.1)) then a1.2.2 else (bif (decide ((M 3 (a1.1).toNatClampNeg) = ((zz_S.getD w []).getD (a1.1 - (M 2 3)).toNatClampNeg 0))) then a1.2.2 else false))))
def kb_T_takeWord_1 (M : zMem) (w : Nat) (i1 : Nat) (a1 : Int32 × Bool × Bool) : Prop := ((decide ((v_T_runEnd M (97 : Int32) (122 : Int32)) ≤ a1.1)) = false → (zz_in a1.1 400 = true ∧ zz_in (a1.1 - (M 2 3)) (zz_S.getD w []).length = true))
def v_T_takeWord (M : zMem) (w : Nat) : Bool := (bif (decide (((v_T_runEnd M (97 : Int32) (122 : Int32)) - (M 2 3)) = (Int32.ofNat (zz_S.getD w []).length))) then (bif (zf_wh 1000 (g_T_takeWord_1 M w) 0 ((M 2 3), false, false)).2.1 then (zf_wh 1000 (g_T_takeWord_1 M w) 0 ((M 2 3), false, false)).2.2 else true) else false)
def w_T_takeWord (M : zMem) (w : Nat) : zMem := (bif (decide (((v_T_runEnd M (97 : Int32) (122 : Int32)) - (M 2 3)) = (Int32.ofNat (zz_S.getD w []).length))) then (bif (zf_wh 1000 (g_T_takeWord_1 M w) 0 ((M 2 3), false, false)).2.1 then M else (w_T_moveTo M (v_T_runEnd M (97 : Int32) (122 : Int32)))) else M)
def ok_T_takeWord (M : zMem) (w : Nat) : Prop := (ok_T_runEnd M (97 : Int32) (122 : Int32) ∧ ((decide (((v_T_runEnd M (97 : Int32) (122 : Int32)) - (M 2 3)) = (Int32.ofNat (zz_S.getD w []).length))) = true → ((zf_wk 1000 (g_T_takeWord_1 M w) (kb_T_takeWord_1 M w) 0 ((M 2 3), false, false)) ∧ ((zf_wh 1000 (g_T_takeWord_1 M w) 0 ((M 2 3), false, false)).2.1 = false → ok_T_moveTo M (v_T_runEnd M (97 : Int32) (122 : Int32))))))
set_option maxRecDepth 20000 in
set_option maxHeartbeats 2000000 in
theorem s_T_takeWord (L e : Nat) (J : zJem) (d : Nat) (M : zMem) (w : Nat) (hw : Nat.blt w zz_S.length = true) (k0 : ok_T_takeWord M w) : zz_D (zm_T_takeWord, d + 8, 0, [some (.ref 2), some (.ref (1000000 + w)), none, none], []) (zt_T L, zt_R, M, J, e) = some (.inl (some (.int (zb (v_T_takeWord M w)))), (zt_T L, zt_R, (w_T_takeWord M w), J, e)) := by
  unfold ok_T_takeWord at k0
  unfold v_T_takeWord w_T_takeWord
  refine (zz_go 3 (fr' := (zm_T_takeWord, d + 8, 5, [some (.ref 2), some (.ref (1000000 + w)), none, none], [.int (122 : Int32), .int (97 : Int32), .ref 2])) (h' := (zt_T L, zt_R, M, J, e)) (fun _ => rfl)).trans ?_
  obtain ⟨g1, k2⟩ := k0
  refine zl_vt (d := d + 7) rfl rfl rfl rfl rfl rfl rfl rfl rfl rfl (s_T_runEnd L e J (d + 6) M (97 : Int32) (122 : Int32) g1) ?_
  show zz_D (zm_T_takeWord, d + 8, 8, [some (.ref 2), some (.ref (1000000 + w)), none, none], [.int (v_T_runEnd M (97 : Int32) (122 : Int32))]) (zt_T L, zt_R, M, J, e) = _
  refine (zz_go 3 (fr' := (zm_T_takeWord, d + 8, 11, [some (.ref 2), some (.ref (1000000 + w)), some (.int (v_T_runEnd M (97 : Int32) (122 : Int32))), none], [.ref 2, .int (v_T_runEnd M (97 : Int32) (122 : Int32))])) (h' := (zt_T L, zt_R, M, J, e)) (fun _ => rfl)).trans ?_
  refine zl_getI rfl (by decide) rfl rfl ?_
  refine (zz_go 2 (fr' := (zm_T_takeWord, d + 8, 16, [some (.ref 2), some (.ref (1000000 + w)), some (.int (v_T_runEnd M (97 : Int32) (122 : Int32))), none], [.ref (1000000 + w), .int ((v_T_runEnd M (97 : Int32) (122 : Int32)) - (M 2 3))])) (h' := (zt_T L, zt_R, M, J, e)) (fun _ => rfl)).trans ?_
  refine zl_slen rfl hw rfl rfl ?_
  rcases zz_bc (decide (((v_T_runEnd M (97 : Int32) (122 : Int32)) - (M 2 3)) = (Int32.ofNat (zz_S.getD w []).length))) with h3 | h3
  · refine zc_eqT rfl h3 ?_
    have k4 := k2 h3
    refine (zz_go 1 (fr' := (zm_T_takeWord, d + 8, 25, [some (.ref 2), some (.ref (1000000 + w)), some (.int (v_T_runEnd M (97 : Int32) (122 : Int32))), none], [.ref 2])) (h' := (zt_T L, zt_R, M, J, e)) (fun _ => rfl)).trans ?_
    refine zl_getI rfl (by decide) rfl rfl ?_
    refine (zz_go 1 (fr' := (zm_T_takeWord, d + 8, 29, [some (.ref 2), some (.ref (1000000 + w)), some (.int (v_T_runEnd M (97 : Int32) (122 : Int32))), some (.int (M 2 3))], [])) (h' := (zt_T L, zt_R, M, J, e)) (fun _ => rfl)).trans ?_
    obtain ⟨k5, k6⟩ := k4
    refine zf_whY (X := fun (i1 : Nat) (a1 : Int32 × Bool × Bool) => zz_D (zm_T_takeWord, d + 8, 29, [some (.ref 2), some (.ref (1000000 + w)), some (.int (v_T_runEnd M (97 : Int32) (122 : Int32))), some (.int a1.1)], []) (zt_T L, zt_R, M, J, e)) (Y := fun (a1 : Int32 × Bool × Bool) => (bif a1.2.1 then some (.inl (some (.int (zb a1.2.2))), (zt_T L, zt_R, M, J, e)) else zz_D (zm_T_takeWord, d + 8, 61, [some (.ref 2), none, some (.int (v_T_runEnd M (97 : Int32) (122 : Int32))), none], []) (zt_T L, zt_R, M, J, e))) (g := (g_T_takeWord_1 M w)) (k := (kb_T_takeWord_1 M w)) (fun i1 a1 k9 hx7 hx8 => ?_) 1000 0 ((M 2 3), false, false) k5 ?_
    · show zz_D (zm_T_takeWord, d + 8, 29, [some (.ref 2), some (.ref (1000000 + w)), some (.int (v_T_runEnd M (97 : Int32) (122 : Int32))), some (.int a1.1)], []) (zt_T L, zt_R, M, J, e) = _
      unfold kb_T_takeWord_1 at k9
      refine (zz_go 2 (fr' := (zm_T_takeWord, d + 8, 31, [some (.ref 2), some (.ref (1000000 + w)), some (.int (v_T_runEnd M (97 : Int32) (122 : Int32))), some (.int a1.1)], [.int (v_T_runEnd M (97 : Int32) (122 : Int32)), .int a1.1])) (h' := (zt_T L, zt_R, M, J, e)) (fun _ => rfl)).trans ?_
      rcases zz_bc (decide ((v_T_runEnd M (97 : Int32) (122 : Int32)) ≤ a1.1)) with h10 | h10
      · refine zc_geT rfl h10 ?_
        refine zz_weak (L := [some (.ref 2), none, some (.int (v_T_runEnd M (97 : Int32) (122 : Int32))), none]) ⟨Or.inl rfl, Or.inr ⟨rfl, rfl⟩, Or.inl rfl, Or.inr ⟨rfl, rfl⟩, trivial⟩ ?_
        have y1 := hx8 (by simp only [g_T_takeWord_1, h10, zk_t, zk_f, zb_t, zb_f])
        simpa only [g_T_takeWord_1, h10, zk_t, zk_f, zb_t, zb_f] using y1
      · refine zc_geF rfl h10 ?_
        have k11 := k9 h10
        refine (zz_go 1 (fr' := (zm_T_takeWord, d + 8, 35, [some (.ref 2), some (.ref (1000000 + w)), some (.int (v_T_runEnd M (97 : Int32) (122 : Int32))), some (.int a1.1)], [.ref 2])) (h' := (zt_T L, zt_R, M, J, e)) (fun _ => rfl)).trans ?_
        refine zl_getR rfl rfl rfl ?_
        refine (zz_go 1 (fr' := (zm_T_takeWord, d + 8, 39, [some (.ref 2), some (.ref (1000000 + w)), some (.int (v_T_runEnd M (97 : Int32) (122 : Int32))), some (.int a1.1)], [.int a1.1, .ref 3])) (h' := (zt_T L, zt_R, M, J, e)) (fun _ => rfl)).trans ?_
        obtain ⟨g12, k13⟩ := k11
        refine zl_iaload rfl rfl g12 rfl ?_
        refine (zz_go 3 (fr' := (zm_T_takeWord, d + 8, 43, [some (.ref 2), some (.ref (1000000 + w)), some (.int (v_T_runEnd M (97 : Int32) (122 : Int32))), some (.int a1.1)], [.ref 2, .int a1.1, .ref (1000000 + w), .int (M 3 (a1.1).toNatClampNeg)])) (h' := (zt_T L, zt_R, M, J, e)) (fun _ => rfl)).trans ?_
        refine zl_getI rfl (by decide) rfl rfl ?_
        refine (zz_go 1 (fr' := (zm_T_takeWord, d + 8, 47, [some (.ref 2), some (.ref (1000000 + w)), some (.int (v_T_runEnd M (97 : Int32) (122 : Int32))), some (.int a1.1)], [.int (a1.1 - (M 2 3)), .ref (1000000 + w), .int (M 3 (a1.1).toNatClampNeg)])) (h' := (zt_T L, zt_R, M, J, e)) (fun _ => rfl)).trans ?_
        have g14 : zz_in (a1.1 - (M 2 3)) (zz_S.getD w []).length = true := k13
        refine zl_chr rfl hw g14 rfl rfl ?_
        rcases zz_bc (decide ((M 3 (a1.1).toNatClampNeg) = ((zz_S.getD w []).getD (a1.1 - (M 2 3)).toNatClampNeg 0))) with h15 | h15
        · refine zc_eqT rfl h15 ?_
          refine (zz_go 2 (fr' := (zm_T_takeWord, d + 8, 29, [some (.ref 2), some (.ref (1000000 + w)), some (.int (v_T_runEnd M (97 : Int32) (122 : Int32))), some (.int (a1.1 + (1 : Int32)))], [])) (h' := (zt_T L, zt_R, M, J, e)) (fun _ => rfl)).trans ?_
          have y1 := hx7 (by simp only [g_T_takeWord_1, h10, h15, zk_t, zk_f, zb_t, zb_f])
          simpa only [g_T_takeWord_1, h10, h15, zk_t, zk_f, zb_t, zb_f] using y1
        · refine zc_eqF rfl h15 ?_
          refine (zz_go 1 (fr' := (zm_T_takeWord, d + 8, 54, [some (.ref 2), some (.ref (1000000 + w)), some (.int (v_T_runEnd M (97 : Int32) (122 : Int32))), some (.int a1.1)], [.int (0 : Int32)])) (h' := (zt_T L, zt_R, M, J, e)) (fun _ => rfl)).trans ?_
          refine zl_retI rfl rfl ?_
          have y1 := hx8 (by simp only [g_T_takeWord_1, h10, h15, zk_t, zk_f, zb_t, zb_f])
          simpa only [g_T_takeWord_1, h10, h15, zk_t, zk_f, zb_t, zb_f] using y1
    show (bif (zf_wh 1000 (g_T_takeWord_1 M w) 0 ((M 2 3), false, false)).2.1 then some (.inl (some (.int (zb (zf_wh 1000 (g_T_takeWord_1 M w) 0 ((M 2 3), false, false)).2.2))), (zt_T L, zt_R, M, J, e)) else zz_D (zm_T_takeWord, d + 8, 61, [some (.ref 2), none, some (.int (v_T_runEnd M (97 : Int32) (122 : Int32))), none], []) (zt_T L, zt_R, M, J, e)) = _
    refine zz_ec (fun h16 => ?_) (fun h16 => ?_)
    · skip
      first | (simp only [h3, h16, zk_t, zk_f, zb_t, zb_f]; done) | (simp only [h3, h16, zk_t, zk_f, zb_t, zb_f]; rfl) | rfl
    have k17 := k6 h16
    refine (zz_go 2 (fr' := (zm_T_takeWord, d + 8, 63, [some (.ref 2), none, some (.int (v_T_runEnd M (97 : Int32) (122 : Int32))), none], [.int (v_T_runEnd M (97 : Int32) (122 : Int32)), .ref 2])) (h' := (zt_T L, zt_R, M, J, e)) (fun _ => rfl)).trans ?_
    have g18 : ok_T_moveTo M (v_T_runEnd M (97 : Int32) (122 : Int32)) := k17
    refine zl_vt (d := d + 7) rfl rfl rfl rfl rfl rfl rfl rfl rfl rfl (s_T_moveTo L e J (d + 6) M (v_T_runEnd M (97 : Int32) (122 : Int32)) g18) ?_
    show zz_D (zm_T_takeWord, d + 8, 66, [some (.ref 2), none, some (.int (v_T_runEnd M (97 : Int32) (122 : Int32))), none], []) (zt_T L, zt_R, (w_T_moveTo M (v_T_runEnd M (97 : Int32) (122 : Int32))), J, e) = _
    refine (zz_go 1 (fr' := (zm_T_takeWord, d + 8, 67, [some (.ref 2), none, some (.int (v_T_runEnd M (97 : Int32) (122 : Int32))), none], [.int (1 : Int32)])) (h' := (zt_T L, zt_R, (w_T_moveTo M (v_T_runEnd M (97 : Int32) (122 : Int32))), J, e)) (fun _ => rfl)).trans ?_
    refine zl_retI rfl rfl ?_
    first | (simp only [h3, h16, zk_t, zk_f, zb_t, zb_f]; done) | (simp only [h3, h16, zk_t, zk_f, zb_t, zb_f]; rfl) | rfl
  · refine zc_eqF rfl h3 ?_
    refine (zz_go 1 (fr' := (zm_T_takeWord, d + 8, 23, [some (.ref 2), some (.ref (1000000 + w)), some (.int (v_T_runEnd M (97 : Int32) (122 : Int32))), none], [.int (0 : Int32)])) (h' := (zt_T L, zt_R, M, J, e)) (fun _ => rfl)).trans ?_
    refine zl_retI rfl rfl ?_
    first | (simp only [h3, zk_t, zk_f, zb_t, zb_f]; done) | (simp only [h3, zk_t, zk_f, zb_t, zb_f]; rfl) | rfl
def w_T_needWord (M : zMem) (w : Nat) : zMem := (bif (v_T_takeWord M w) then (w_T_takeWord M w) else (w_T_fail (w_T_takeWord M w)))
def ok_T_needWord (M : zMem) (w : Nat) : Prop := ok_T_takeWord M w
set_option maxRecDepth 20000 in
set_option maxHeartbeats 2000000 in
theorem s_T_needWord (L e : Nat) (J : zJem) (d : Nat) (M : zMem) (w : Nat) (hw : Nat.blt w zz_S.length = true) (k0 : ok_T_needWord M w) : zz_D (zm_T_needWord, d + 9, 0, [some (.ref 2), some (.ref (1000000 + w))], []) (zt_T L, zt_R, M, J, e) = some (.inl (none), (zt_T L, zt_R, (w_T_needWord M w), J, e)) := by
  unfold ok_T_needWord at k0
  unfold w_T_needWord
  refine (zz_go 2 (fr' := (zm_T_needWord, d + 9, 2, [some (.ref 2), some (.ref (1000000 + w))], [.ref (1000000 + w), .ref 2])) (h' := (zt_T L, zt_R, M, J, e)) (fun _ => rfl)).trans ?_
  have g1 : ok_T_takeWord M w := k0
  refine zl_vt (d := d + 8) rfl rfl rfl rfl rfl rfl rfl rfl rfl rfl (s_T_takeWord L e J (d + 0) M w hw g1) ?_
  show zz_D (zm_T_needWord, d + 9, 5, [some (.ref 2), some (.ref (1000000 + w))], [.int (zb (v_T_takeWord M w))]) (zt_T L, zt_R, (w_T_takeWord M w), J, e) = _
  refine zz_jn (X := zz_D (zm_T_needWord, d + 9, 12, [none, none], []) (zt_T L, zt_R, (bif (v_T_takeWord M w) then (w_T_takeWord M w) else (w_T_fail (w_T_takeWord M w))), J, e)) (fun j2 => ?_) ?_
  · rcases zz_bc (v_T_takeWord M w) with h3 | h3
    · refine zq_fT rfl h3 ?_
      refine zz_weak (L := [none, none]) ⟨Or.inr ⟨rfl, rfl⟩, Or.inr ⟨rfl, rfl⟩, trivial⟩ ?_
      simpa only [h3, zk_t, zk_f, zb_t, zb_f] using j2
    · refine zq_fF rfl h3 ?_
      refine (zz_go 1 (fr' := (zm_T_needWord, d + 9, 9, [some (.ref 2), some (.ref (1000000 + w))], [.ref 2])) (h' := (zt_T L, zt_R, (w_T_takeWord M w), J, e)) (fun _ => rfl)).trans ?_
      refine zl_vt (d := d + 8) rfl rfl rfl rfl rfl rfl rfl rfl rfl rfl (s_T_fail L e J (d + 7) (w_T_takeWord M w)) ?_
      show zz_D (zm_T_needWord, d + 9, 12, [some (.ref 2), some (.ref (1000000 + w))], []) (zt_T L, zt_R, (w_T_fail (w_T_takeWord M w)), J, e) = _
      refine zz_weak (L := [none, none]) ⟨Or.inr ⟨rfl, rfl⟩, Or.inr ⟨rfl, rfl⟩, trivial⟩ ?_
      simpa only [h3, zk_t, zk_f, zb_t, zb_f] using j2
  refine (zz_end 1 (r := (.inl none, (zt_T L, zt_R, (bif (v_T_takeWord M w) then (w_T_takeWord M w) else (w_T_fail (w_T_takeWord M w))), J, e))) (fun _ => rfl)).trans ?_
  rfl
def v_T_atNumber (M : zMem) : Bool := (bif (decide ((v_T_runEnd M (48 : Int32) (57 : Int32)) ≤ (M 2 3))) then false else true)
def ok_T_atNumber (M : zMem) : Prop := ok_T_runEnd M (48 : Int32) (57 : Int32)
set_option maxRecDepth 20000 in
set_option maxHeartbeats 2000000 in
theorem s_T_atNumber (L e : Nat) (J : zJem) (d : Nat) (M : zMem) (k0 : ok_T_atNumber M) : zz_D (zm_T_atNumber, d + 2, 0, [some (.ref 2)], []) (zt_T L, zt_R, M, J, e) = some (.inl (some (.int (zb (v_T_atNumber M)))), (zt_T L, zt_R, M, J, e)) := by
  unfold ok_T_atNumber at k0
  unfold v_T_atNumber
  refine (zz_go 3 (fr' := (zm_T_atNumber, d + 2, 5, [some (.ref 2)], [.int (57 : Int32), .int (48 : Int32), .ref 2])) (h' := (zt_T L, zt_R, M, J, e)) (fun _ => rfl)).trans ?_
  have g1 : ok_T_runEnd M (48 : Int32) (57 : Int32) := k0
  refine zl_vt (d := d + 1) rfl rfl rfl rfl rfl rfl rfl rfl rfl rfl (s_T_runEnd L e J (d + 0) M (48 : Int32) (57 : Int32) g1) ?_
  show zz_D (zm_T_atNumber, d + 2, 8, [some (.ref 2)], [.int (v_T_runEnd M (48 : Int32) (57 : Int32))]) (zt_T L, zt_R, M, J, e) = _
  refine (zz_go 1 (fr' := (zm_T_atNumber, d + 2, 9, [some (.ref 2)], [.ref 2, .int (v_T_runEnd M (48 : Int32) (57 : Int32))])) (h' := (zt_T L, zt_R, M, J, e)) (fun _ => rfl)).trans ?_
  refine zl_getI rfl (by decide) rfl rfl ?_
  refine zz_jn (X := zz_D (zm_T_atNumber, d + 2, 20, [none], [.int (zb (bif (decide ((v_T_runEnd M (48 : Int32) (57 : Int32)) ≤ (M 2 3))) then false else true))]) (zt_T L, zt_R, M, J, e)) (fun j2 => ?_) ?_
  · rcases zz_bc (decide ((v_T_runEnd M (48 : Int32) (57 : Int32)) ≤ (M 2 3))) with h3 | h3
    · refine zc_leT rfl h3 ?_
      refine (zz_go 1 (fr' := (zm_T_atNumber, d + 2, 20, [some (.ref 2)], [.int (0 : Int32)])) (h' := (zt_T L, zt_R, M, J, e)) (fun _ => rfl)).trans ?_
      refine zz_weak (L := [none]) ⟨Or.inr ⟨rfl, rfl⟩, trivial⟩ ?_
      simpa only [h3, zk_t, zk_f, zb_t, zb_f] using j2
    · refine zc_leF rfl h3 ?_
      refine (zz_go 2 (fr' := (zm_T_atNumber, d + 2, 20, [some (.ref 2)], [.int (1 : Int32)])) (h' := (zt_T L, zt_R, M, J, e)) (fun _ => rfl)).trans ?_
      refine zz_weak (L := [none]) ⟨Or.inr ⟨rfl, rfl⟩, trivial⟩ ?_
      simpa only [h3, zk_t, zk_f, zb_t, zb_f] using j2
  refine zl_retI rfl (zb_01 _) ?_
  rfl
def g_T_takeNumber_1 (M : zMem) (x0 : Int32) (i1 : Nat) (a1 : Int32 × Int32) : Bool × (Int32 × Int32) := ((bif (decide ((v_T_runEnd M (48 : Int32) (57 : Int32)) ≤ a1.2)) then false else (bif (decide (((M 2 3) + (3 : Int32)) ≤ a1.2)) then false else true)), ((bif (decide ((v_T_runEnd M (48 : Int32) (57 : Int32)) ≤ a1.2)) then a1.1 else (bif (decide (((M 2 3) + (3 : Int32)) ≤ a1.2)) then a1.1 else (((a1.1 * (10 : Int32)) + (M 3 (a1.2).toNatClampNeg)) - (48 : Int32)))), (bif (decide ((v_T_runEnd M (48 : Int32) (57 : Int32)) ≤ a1.2)) then a1.2 else (bif (decide (((M 2 3) + (3 : Int32)) ≤ a1.2)) then a1.2 else (a1.2 + (1 : Int32))))))
def kb_T_takeNumber_1 (M : zMem) (x0 : Int32) (i1 : Nat) (a1 : Int32 × Int32) : Prop := ((decide ((v_T_runEnd M (48 : Int32) (57 : Int32)) ≤ a1.2)) = false → ((decide (((M 2 3) + (3 : Int32)) ≤ a1.2)) = false → zz_in a1.2 400 = true))
def v_T_takeNumber (M : zMem) (x0 : Int32) : Int32 := (bif (decide ((v_T_runEnd M (48 : Int32) (57 : Int32)) = (M 2 3))) then (0 : Int32) else (bif (decide ((3 : Int32) < ((v_T_runEnd M (48 : Int32) (57 : Int32)) - (M 2 3)))) then (0 : Int32) else (bif (decide ((zf_wh 1000 (g_T_takeNumber_1 M x0) 0 ((0 : Int32), (M 2 3))).1 ≤ x0)) then (zf_wh 1000 (g_T_takeNumber_1 M x0) 0 ((0 : Int32), (M 2 3))).1 else (0 : Int32))))
def w_T_takeNumber (M : zMem) (x0 : Int32) : zMem := (bif (decide ((v_T_runEnd M (48 : Int32) (57 : Int32)) = (M 2 3))) then (w_T_fail M) else (bif (decide ((3 : Int32) < ((v_T_runEnd M (48 : Int32) (57 : Int32)) - (M 2 3)))) then (w_T_fail M) else (bif (decide ((zf_wh 1000 (g_T_takeNumber_1 M x0) 0 ((0 : Int32), (M 2 3))).1 ≤ x0)) then (w_T_moveTo M (v_T_runEnd M (48 : Int32) (57 : Int32))) else (w_T_fail M))))
def ok_T_takeNumber (M : zMem) (x0 : Int32) : Prop := (ok_T_runEnd M (48 : Int32) (57 : Int32) ∧ ((zf_wk 1000 (g_T_takeNumber_1 M x0) (kb_T_takeNumber_1 M x0) 0 ((0 : Int32), (M 2 3))) ∧ ((decide ((v_T_runEnd M (48 : Int32) (57 : Int32)) = (M 2 3))) = false → ((decide ((3 : Int32) < ((v_T_runEnd M (48 : Int32) (57 : Int32)) - (M 2 3)))) = false → ((decide ((zf_wh 1000 (g_T_takeNumber_1 M x0) 0 ((0 : Int32), (M 2 3))).1 ≤ x0)) = true → ok_T_moveTo M (v_T_runEnd M (48 : Int32) (57 : Int32)))))))
set_option maxRecDepth 20000 in
set_option maxHeartbeats 2000000 in
theorem s_T_takeNumber (L e : Nat) (J : zJem) (d : Nat) (M : zMem) (x0 : Int32) (k0 : ok_T_takeNumber M x0) : zz_D (zm_T_takeNumber, d + 2, 0, [some (.ref 2), some (.int x0), none, none, none], []) (zt_T L, zt_R, M, J, e) = some (.inl (some (.int (v_T_takeNumber M x0))), (zt_T L, zt_R, (w_T_takeNumber M x0), J, e)) := by
  unfold ok_T_takeNumber at k0
  unfold v_T_takeNumber w_T_takeNumber
  refine (zz_go 3 (fr' := (zm_T_takeNumber, d + 2, 5, [some (.ref 2), some (.int x0), none, none, none], [.int (57 : Int32), .int (48 : Int32), .ref 2])) (h' := (zt_T L, zt_R, M, J, e)) (fun _ => rfl)).trans ?_
  obtain ⟨g1, k2⟩ := k0
  refine zl_vt (d := d + 1) rfl rfl rfl rfl rfl rfl rfl rfl rfl rfl (s_T_runEnd L e J (d + 0) M (48 : Int32) (57 : Int32) g1) ?_
  show zz_D (zm_T_takeNumber, d + 2, 8, [some (.ref 2), some (.int x0), none, none, none], [.int (v_T_runEnd M (48 : Int32) (57 : Int32))]) (zt_T L, zt_R, M, J, e) = _
  refine (zz_go 4 (fr' := (zm_T_takeNumber, d + 2, 12, [some (.ref 2), some (.int x0), some (.int (v_T_runEnd M (48 : Int32) (57 : Int32))), some (.int (0 : Int32)), none], [.ref 2])) (h' := (zt_T L, zt_R, M, J, e)) (fun _ => rfl)).trans ?_
  refine zl_getI rfl (by decide) rfl rfl ?_
  refine (zz_go 1 (fr' := (zm_T_takeNumber, d + 2, 17, [some (.ref 2), some (.int x0), some (.int (v_T_runEnd M (48 : Int32) (57 : Int32))), some (.int (0 : Int32)), some (.int (M 2 3))], [])) (h' := (zt_T L, zt_R, M, J, e)) (fun _ => rfl)).trans ?_
  obtain ⟨k3, k4⟩ := k2
  refine zf_whY (X := fun (i1 : Nat) (a1 : Int32 × Int32) => zz_D (zm_T_takeNumber, d + 2, 17, [some (.ref 2), some (.int x0), some (.int (v_T_runEnd M (48 : Int32) (57 : Int32))), some (.int a1.1), some (.int a1.2)], []) (zt_T L, zt_R, M, J, e)) (Y := fun (a1 : Int32 × Int32) => zz_D (zm_T_takeNumber, d + 2, 56, [some (.ref 2), some (.int x0), some (.int (v_T_runEnd M (48 : Int32) (57 : Int32))), some (.int a1.1), none], []) (zt_T L, zt_R, M, J, e)) (g := (g_T_takeNumber_1 M x0)) (k := (kb_T_takeNumber_1 M x0)) (fun i1 a1 k7 hx5 hx6 => ?_) 1000 0 ((0 : Int32), (M 2 3)) k3 ?_
  · show zz_D (zm_T_takeNumber, d + 2, 17, [some (.ref 2), some (.int x0), some (.int (v_T_runEnd M (48 : Int32) (57 : Int32))), some (.int a1.1), some (.int a1.2)], []) (zt_T L, zt_R, M, J, e) = _
    unfold kb_T_takeNumber_1 at k7
    refine (zz_go 2 (fr' := (zm_T_takeNumber, d + 2, 20, [some (.ref 2), some (.int x0), some (.int (v_T_runEnd M (48 : Int32) (57 : Int32))), some (.int a1.1), some (.int a1.2)], [.int (v_T_runEnd M (48 : Int32) (57 : Int32)), .int a1.2])) (h' := (zt_T L, zt_R, M, J, e)) (fun _ => rfl)).trans ?_
    rcases zz_bc (decide ((v_T_runEnd M (48 : Int32) (57 : Int32)) ≤ a1.2)) with h8 | h8
    · refine zc_geT rfl h8 ?_
      refine zz_weak (L := [some (.ref 2), some (.int x0), some (.int (v_T_runEnd M (48 : Int32) (57 : Int32))), some (.int a1.1), none]) ⟨Or.inl rfl, Or.inl rfl, Or.inl rfl, Or.inl rfl, Or.inr ⟨rfl, rfl⟩, trivial⟩ ?_
      have y1 := hx6 (by simp only [g_T_takeNumber_1, h8, zk_t, zk_f, zb_t, zb_f])
      simpa only [g_T_takeNumber_1, h8, zk_t, zk_f, zb_t, zb_f] using y1
    · refine zc_geF rfl h8 ?_
      have k9 := k7 h8
      refine (zz_go 2 (fr' := (zm_T_takeNumber, d + 2, 26, [some (.ref 2), some (.int x0), some (.int (v_T_runEnd M (48 : Int32) (57 : Int32))), some (.int a1.1), some (.int a1.2)], [.ref 2, .int a1.2])) (h' := (zt_T L, zt_R, M, J, e)) (fun _ => rfl)).trans ?_
      refine zl_getI rfl (by decide) rfl rfl ?_
      refine (zz_go 2 (fr' := (zm_T_takeNumber, d + 2, 31, [some (.ref 2), some (.int x0), some (.int (v_T_runEnd M (48 : Int32) (57 : Int32))), some (.int a1.1), some (.int a1.2)], [.int ((M 2 3) + (3 : Int32)), .int a1.2])) (h' := (zt_T L, zt_R, M, J, e)) (fun _ => rfl)).trans ?_
      rcases zz_bc (decide (((M 2 3) + (3 : Int32)) ≤ a1.2)) with h10 | h10
      · refine zc_geT rfl h10 ?_
        refine zz_weak (L := [some (.ref 2), some (.int x0), some (.int (v_T_runEnd M (48 : Int32) (57 : Int32))), some (.int a1.1), none]) ⟨Or.inl rfl, Or.inl rfl, Or.inl rfl, Or.inl rfl, Or.inr ⟨rfl, rfl⟩, trivial⟩ ?_
        have y1 := hx6 (by simp only [g_T_takeNumber_1, h8, h10, zk_t, zk_f, zb_t, zb_f])
        simpa only [g_T_takeNumber_1, h8, h10, zk_t, zk_f, zb_t, zb_f] using y1
      · refine zc_geF rfl h10 ?_
        have k11 := k9 h10
        refine (zz_go 4 (fr' := (zm_T_takeNumber, d + 2, 39, [some (.ref 2), some (.int x0), some (.int (v_T_runEnd M (48 : Int32) (57 : Int32))), some (.int a1.1), some (.int a1.2)], [.ref 2, .int (a1.1 * (10 : Int32))])) (h' := (zt_T L, zt_R, M, J, e)) (fun _ => rfl)).trans ?_
        refine zl_getR rfl rfl rfl ?_
        refine (zz_go 1 (fr' := (zm_T_takeNumber, d + 2, 44, [some (.ref 2), some (.int x0), some (.int (v_T_runEnd M (48 : Int32) (57 : Int32))), some (.int a1.1), some (.int a1.2)], [.int a1.2, .ref 3, .int (a1.1 * (10 : Int32))])) (h' := (zt_T L, zt_R, M, J, e)) (fun _ => rfl)).trans ?_
        have g12 : zz_in a1.2 400 = true := k11
        refine zl_iaload rfl rfl g12 rfl ?_
        refine (zz_go 6 (fr' := (zm_T_takeNumber, d + 2, 17, [some (.ref 2), some (.int x0), some (.int (v_T_runEnd M (48 : Int32) (57 : Int32))), some (.int (((a1.1 * (10 : Int32)) + (M 3 (a1.2).toNatClampNeg)) - (48 : Int32))), some (.int (a1.2 + (1 : Int32)))], [])) (h' := (zt_T L, zt_R, M, J, e)) (fun _ => rfl)).trans ?_
        have y1 := hx5 (by simp only [g_T_takeNumber_1, h8, h10, zk_t, zk_f, zb_t, zb_f])
        simpa only [g_T_takeNumber_1, h8, h10, zk_t, zk_f, zb_t, zb_f] using y1
  show zz_D (zm_T_takeNumber, d + 2, 56, [some (.ref 2), some (.int x0), some (.int (v_T_runEnd M (48 : Int32) (57 : Int32))), some (.int (zf_wh 1000 (g_T_takeNumber_1 M x0) 0 ((0 : Int32), (M 2 3))).1), none], []) (zt_T L, zt_R, M, J, e) = _
  refine (zz_go 2 (fr' := (zm_T_takeNumber, d + 2, 58, [some (.ref 2), some (.int x0), some (.int (v_T_runEnd M (48 : Int32) (57 : Int32))), some (.int (zf_wh 1000 (g_T_takeNumber_1 M x0) 0 ((0 : Int32), (M 2 3))).1), none], [.ref 2, .int (v_T_runEnd M (48 : Int32) (57 : Int32))])) (h' := (zt_T L, zt_R, M, J, e)) (fun _ => rfl)).trans ?_
  refine zl_getI rfl (by decide) rfl rfl ?_
  rcases zz_bc (decide ((v_T_runEnd M (48 : Int32) (57 : Int32)) = (M 2 3))) with h13 | h13
  · refine zc_eqT rfl h13 ?_
    refine (zz_go 1 (fr' := (zm_T_takeNumber, d + 2, 80, [some (.ref 2), some (.int x0), some (.int (v_T_runEnd M (48 : Int32) (57 : Int32))), some (.int (zf_wh 1000 (g_T_takeNumber_1 M x0) 0 ((0 : Int32), (M 2 3))).1), none], [.ref 2])) (h' := (zt_T L, zt_R, M, J, e)) (fun _ => rfl)).trans ?_
    refine zl_vt (d := d + 1) rfl rfl rfl rfl rfl rfl rfl rfl rfl rfl (s_T_fail L e J (d + 0) M) ?_
    show zz_D (zm_T_takeNumber, d + 2, 83, [some (.ref 2), some (.int x0), some (.int (v_T_runEnd M (48 : Int32) (57 : Int32))), some (.int (zf_wh 1000 (g_T_takeNumber_1 M x0) 0 ((0 : Int32), (M 2 3))).1), none], []) (zt_T L, zt_R, (w_T_fail M), J, e) = _
    refine (zz_go 1 (fr' := (zm_T_takeNumber, d + 2, 84, [some (.ref 2), some (.int x0), some (.int (v_T_runEnd M (48 : Int32) (57 : Int32))), some (.int (zf_wh 1000 (g_T_takeNumber_1 M x0) 0 ((0 : Int32), (M 2 3))).1), none], [.int (0 : Int32)])) (h' := (zt_T L, zt_R, (w_T_fail M), J, e)) (fun _ => rfl)).trans ?_
    refine zl_retI rfl rfl ?_
    first | (simp only [h13, zk_t, zk_f, zb_t, zb_f]; done) | (simp only [h13, zk_t, zk_f, zb_t, zb_f]; rfl) | rfl
  · refine zc_eqF rfl h13 ?_
    have k14 := k4 h13
    refine (zz_go 2 (fr' := (zm_T_takeNumber, d + 2, 66, [some (.ref 2), some (.int x0), some (.int (v_T_runEnd M (48 : Int32) (57 : Int32))), some (.int (zf_wh 1000 (g_T_takeNumber_1 M x0) 0 ((0 : Int32), (M 2 3))).1), none], [.ref 2, .int (v_T_runEnd M (48 : Int32) (57 : Int32))])) (h' := (zt_T L, zt_R, M, J, e)) (fun _ => rfl)).trans ?_
    refine zl_getI rfl (by decide) rfl rfl ?_
    refine (zz_go 2 (fr' := (zm_T_takeNumber, d + 2, 71, [some (.ref 2), some (.int x0), some (.int (v_T_runEnd M (48 : Int32) (57 : Int32))), some (.int (zf_wh 1000 (g_T_takeNumber_1 M x0) 0 ((0 : Int32), (M 2 3))).1), none], [.int (3 : Int32), .int ((v_T_runEnd M (48 : Int32) (57 : Int32)) - (M 2 3))])) (h' := (zt_T L, zt_R, M, J, e)) (fun _ => rfl)).trans ?_
    rcases zz_bc (decide ((3 : Int32) < ((v_T_runEnd M (48 : Int32) (57 : Int32)) - (M 2 3)))) with h15 | h15
    · refine zc_gtT rfl h15 ?_
      refine (zz_go 1 (fr' := (zm_T_takeNumber, d + 2, 80, [some (.ref 2), some (.int x0), some (.int (v_T_runEnd M (48 : Int32) (57 : Int32))), some (.int (zf_wh 1000 (g_T_takeNumber_1 M x0) 0 ((0 : Int32), (M 2 3))).1), none], [.ref 2])) (h' := (zt_T L, zt_R, M, J, e)) (fun _ => rfl)).trans ?_
      refine zl_vt (d := d + 1) rfl rfl rfl rfl rfl rfl rfl rfl rfl rfl (s_T_fail L e J (d + 0) M) ?_
      show zz_D (zm_T_takeNumber, d + 2, 83, [some (.ref 2), some (.int x0), some (.int (v_T_runEnd M (48 : Int32) (57 : Int32))), some (.int (zf_wh 1000 (g_T_takeNumber_1 M x0) 0 ((0 : Int32), (M 2 3))).1), none], []) (zt_T L, zt_R, (w_T_fail M), J, e) = _
      refine (zz_go 1 (fr' := (zm_T_takeNumber, d + 2, 84, [some (.ref 2), some (.int x0), some (.int (v_T_runEnd M (48 : Int32) (57 : Int32))), some (.int (zf_wh 1000 (g_T_takeNumber_1 M x0) 0 ((0 : Int32), (M 2 3))).1), none], [.int (0 : Int32)])) (h' := (zt_T L, zt_R, (w_T_fail M), J, e)) (fun _ => rfl)).trans ?_
      refine zl_retI rfl rfl ?_
      first | (simp only [h13, h15, zk_t, zk_f, zb_t, zb_f]; done) | (simp only [h13, h15, zk_t, zk_f, zb_t, zb_f]; rfl) | rfl
    · refine zc_gtF rfl h15 ?_
      have k16 := k14 h15
      refine (zz_go 2 (fr' := (zm_T_takeNumber, d + 2, 76, [some (.ref 2), some (.int x0), some (.int (v_T_runEnd M (48 : Int32) (57 : Int32))), some (.int (zf_wh 1000 (g_T_takeNumber_1 M x0) 0 ((0 : Int32), (M 2 3))).1), none], [.int x0, .int (zf_wh 1000 (g_T_takeNumber_1 M x0) 0 ((0 : Int32), (M 2 3))).1])) (h' := (zt_T L, zt_R, M, J, e)) (fun _ => rfl)).trans ?_
      rcases zz_bc (decide ((zf_wh 1000 (g_T_takeNumber_1 M x0) 0 ((0 : Int32), (M 2 3))).1 ≤ x0)) with h17 | h17
      · refine zc_leT rfl h17 ?_
        have k18 := k16 h17
        refine (zz_go 2 (fr' := (zm_T_takeNumber, d + 2, 87, [some (.ref 2), some (.int x0), some (.int (v_T_runEnd M (48 : Int32) (57 : Int32))), some (.int (zf_wh 1000 (g_T_takeNumber_1 M x0) 0 ((0 : Int32), (M 2 3))).1), none], [.int (v_T_runEnd M (48 : Int32) (57 : Int32)), .ref 2])) (h' := (zt_T L, zt_R, M, J, e)) (fun _ => rfl)).trans ?_
        have g19 : ok_T_moveTo M (v_T_runEnd M (48 : Int32) (57 : Int32)) := k18
        refine zl_vt (d := d + 1) rfl rfl rfl rfl rfl rfl rfl rfl rfl rfl (s_T_moveTo L e J (d + 0) M (v_T_runEnd M (48 : Int32) (57 : Int32)) g19) ?_
        show zz_D (zm_T_takeNumber, d + 2, 90, [some (.ref 2), some (.int x0), some (.int (v_T_runEnd M (48 : Int32) (57 : Int32))), some (.int (zf_wh 1000 (g_T_takeNumber_1 M x0) 0 ((0 : Int32), (M 2 3))).1), none], []) (zt_T L, zt_R, (w_T_moveTo M (v_T_runEnd M (48 : Int32) (57 : Int32))), J, e) = _
        refine (zz_go 1 (fr' := (zm_T_takeNumber, d + 2, 91, [some (.ref 2), some (.int x0), some (.int (v_T_runEnd M (48 : Int32) (57 : Int32))), some (.int (zf_wh 1000 (g_T_takeNumber_1 M x0) 0 ((0 : Int32), (M 2 3))).1), none], [.int (zf_wh 1000 (g_T_takeNumber_1 M x0) 0 ((0 : Int32), (M 2 3))).1])) (h' := (zt_T L, zt_R, (w_T_moveTo M (v_T_runEnd M (48 : Int32) (57 : Int32))), J, e)) (fun _ => rfl)).trans ?_
        refine zl_retI rfl rfl ?_
        first | (simp only [h13, h15, h17, zk_t, zk_f, zb_t, zb_f]; done) | (simp only [h13, h15, h17, zk_t, zk_f, zb_t, zb_f]; rfl) | rfl
      · refine zc_leF rfl h17 ?_
        refine (zz_go 1 (fr' := (zm_T_takeNumber, d + 2, 80, [some (.ref 2), some (.int x0), some (.int (v_T_runEnd M (48 : Int32) (57 : Int32))), some (.int (zf_wh 1000 (g_T_takeNumber_1 M x0) 0 ((0 : Int32), (M 2 3))).1), none], [.ref 2])) (h' := (zt_T L, zt_R, M, J, e)) (fun _ => rfl)).trans ?_
        refine zl_vt (d := d + 1) rfl rfl rfl rfl rfl rfl rfl rfl rfl rfl (s_T_fail L e J (d + 0) M) ?_
        show zz_D (zm_T_takeNumber, d + 2, 83, [some (.ref 2), some (.int x0), some (.int (v_T_runEnd M (48 : Int32) (57 : Int32))), some (.int (zf_wh 1000 (g_T_takeNumber_1 M x0) 0 ((0 : Int32), (M 2 3))).1), none], []) (zt_T L, zt_R, (w_T_fail M), J, e) = _
        refine (zz_go 1 (fr' := (zm_T_takeNumber, d + 2, 84, [some (.ref 2), some (.int x0), some (.int (v_T_runEnd M (48 : Int32) (57 : Int32))), some (.int (zf_wh 1000 (g_T_takeNumber_1 M x0) 0 ((0 : Int32), (M 2 3))).1), none], [.int (0 : Int32)])) (h' := (zt_T L, zt_R, (w_T_fail M), J, e)) (fun _ => rfl)).trans ?_
        refine zl_retI rfl rfl ?_
        first | (simp only [h13, h15, h17, zk_t, zk_f, zb_t, zb_f]; done) | (simp only [h13, h15, h17, zk_t, zk_f, zb_t, zb_f]; rfl) | rfl
def v_T_takeKind (M : zMem) : Int32 := (bif (decide (((v_T_runEnd M (97 : Int32) (122 : Int32)) - (M 2 3)) = (1 : Int32))) then (bif (decide ((M 3 (M 2 3).toNatClampNeg) < (105 : Int32))) then ((M 3 (M 2 3).toNatClampNeg) - (97 : Int32)) else (-1 : Int32)) else (-1 : Int32))
def w_T_takeKind (M : zMem) : zMem := (bif (decide (((v_T_runEnd M (97 : Int32) (122 : Int32)) - (M 2 3)) = (1 : Int32))) then (bif (decide ((M 3 (M 2 3).toNatClampNeg) < (105 : Int32))) then (w_T_moveTo M (v_T_runEnd M (97 : Int32) (122 : Int32))) else (w_T_fail M)) else (w_T_fail M))
def ok_T_takeKind (M : zMem) : Prop := (ok_T_runEnd M (97 : Int32) (122 : Int32) ∧ ((decide (((v_T_runEnd M (97 : Int32) (122 : Int32)) - (M 2 3)) = (1 : Int32))) = true → (zz_in (M 2 3) 400 = true ∧ ((decide ((M 3 (M 2 3).toNatClampNeg) < (105 : Int32))) = true → ok_T_moveTo M (v_T_runEnd M (97 : Int32) (122 : Int32))))))
set_option maxRecDepth 20000 in
set_option maxHeartbeats 2000000 in
theorem s_T_takeKind (L e : Nat) (J : zJem) (d : Nat) (M : zMem) (k0 : ok_T_takeKind M) : zz_D (zm_T_takeKind, d + 2, 0, [some (.ref 2), none, none], []) (zt_T L, zt_R, M, J, e) = some (.inl (some (.int (v_T_takeKind M))), (zt_T L, zt_R, (w_T_takeKind M), J, e)) := by
  unfold ok_T_takeKind at k0
  unfold v_T_takeKind w_T_takeKind
  refine (zz_go 3 (fr' := (zm_T_takeKind, d + 2, 5, [some (.ref 2), none, none], [.int (122 : Int32), .int (97 : Int32), .ref 2])) (h' := (zt_T L, zt_R, M, J, e)) (fun _ => rfl)).trans ?_
  obtain ⟨g1, k2⟩ := k0
  refine zl_vt (d := d + 1) rfl rfl rfl rfl rfl rfl rfl rfl rfl rfl (s_T_runEnd L e J (d + 0) M (97 : Int32) (122 : Int32) g1) ?_
  show zz_D (zm_T_takeKind, d + 2, 8, [some (.ref 2), none, none], [.int (v_T_runEnd M (97 : Int32) (122 : Int32))]) (zt_T L, zt_R, M, J, e) = _
  refine (zz_go 3 (fr' := (zm_T_takeKind, d + 2, 11, [some (.ref 2), some (.int (v_T_runEnd M (97 : Int32) (122 : Int32))), none], [.ref 2, .int (v_T_runEnd M (97 : Int32) (122 : Int32))])) (h' := (zt_T L, zt_R, M, J, e)) (fun _ => rfl)).trans ?_
  refine zl_getI rfl (by decide) rfl rfl ?_
  refine (zz_go 2 (fr' := (zm_T_takeKind, d + 2, 16, [some (.ref 2), some (.int (v_T_runEnd M (97 : Int32) (122 : Int32))), none], [.int (1 : Int32), .int ((v_T_runEnd M (97 : Int32) (122 : Int32)) - (M 2 3))])) (h' := (zt_T L, zt_R, M, J, e)) (fun _ => rfl)).trans ?_
  rcases zz_bc (decide (((v_T_runEnd M (97 : Int32) (122 : Int32)) - (M 2 3)) = (1 : Int32))) with h3 | h3
  · refine zc_neT rfl h3 ?_
    have k4 := k2 h3
    refine (zz_go 1 (fr' := (zm_T_takeKind, d + 2, 20, [some (.ref 2), some (.int (v_T_runEnd M (97 : Int32) (122 : Int32))), none], [.ref 2])) (h' := (zt_T L, zt_R, M, J, e)) (fun _ => rfl)).trans ?_
    refine zl_getR rfl rfl rfl ?_
    refine (zz_go 1 (fr' := (zm_T_takeKind, d + 2, 24, [some (.ref 2), some (.int (v_T_runEnd M (97 : Int32) (122 : Int32))), none], [.ref 2, .ref 3])) (h' := (zt_T L, zt_R, M, J, e)) (fun _ => rfl)).trans ?_
    refine zl_getI rfl (by decide) rfl rfl ?_
    obtain ⟨g5, k6⟩ := k4
    refine zl_iaload rfl rfl g5 rfl ?_
    refine (zz_go 1 (fr' := (zm_T_takeKind, d + 2, 30, [some (.ref 2), some (.int (v_T_runEnd M (97 : Int32) (122 : Int32))), none], [.int (105 : Int32), .int (M 3 (M 2 3).toNatClampNeg)])) (h' := (zt_T L, zt_R, M, J, e)) (fun _ => rfl)).trans ?_
    rcases zz_bc (decide ((M 3 (M 2 3).toNatClampNeg) < (105 : Int32))) with h7 | h7
    · refine zc_ltT rfl h7 ?_
      have k8 := k6 h7
      refine (zz_go 1 (fr' := (zm_T_takeKind, d + 2, 40, [some (.ref 2), some (.int (v_T_runEnd M (97 : Int32) (122 : Int32))), none], [.ref 2])) (h' := (zt_T L, zt_R, M, J, e)) (fun _ => rfl)).trans ?_
      refine zl_getR rfl rfl rfl ?_
      refine (zz_go 1 (fr' := (zm_T_takeKind, d + 2, 44, [some (.ref 2), some (.int (v_T_runEnd M (97 : Int32) (122 : Int32))), none], [.ref 2, .ref 3])) (h' := (zt_T L, zt_R, M, J, e)) (fun _ => rfl)).trans ?_
      refine zl_getI rfl (by decide) rfl rfl ?_
      refine zl_iaload rfl rfl g5 rfl ?_
      refine (zz_go 5 (fr' := (zm_T_takeKind, d + 2, 54, [some (.ref 2), some (.int (v_T_runEnd M (97 : Int32) (122 : Int32))), some (.int ((M 3 (M 2 3).toNatClampNeg) - (97 : Int32)))], [.int (v_T_runEnd M (97 : Int32) (122 : Int32)), .ref 2])) (h' := (zt_T L, zt_R, M, J, e)) (fun _ => rfl)).trans ?_
      have g9 : ok_T_moveTo M (v_T_runEnd M (97 : Int32) (122 : Int32)) := k8
      refine zl_vt (d := d + 1) rfl rfl rfl rfl rfl rfl rfl rfl rfl rfl (s_T_moveTo L e J (d + 0) M (v_T_runEnd M (97 : Int32) (122 : Int32)) g9) ?_
      show zz_D (zm_T_takeKind, d + 2, 57, [some (.ref 2), some (.int (v_T_runEnd M (97 : Int32) (122 : Int32))), some (.int ((M 3 (M 2 3).toNatClampNeg) - (97 : Int32)))], []) (zt_T L, zt_R, (w_T_moveTo M (v_T_runEnd M (97 : Int32) (122 : Int32))), J, e) = _
      refine (zz_go 1 (fr' := (zm_T_takeKind, d + 2, 58, [some (.ref 2), some (.int (v_T_runEnd M (97 : Int32) (122 : Int32))), some (.int ((M 3 (M 2 3).toNatClampNeg) - (97 : Int32)))], [.int ((M 3 (M 2 3).toNatClampNeg) - (97 : Int32))])) (h' := (zt_T L, zt_R, (w_T_moveTo M (v_T_runEnd M (97 : Int32) (122 : Int32))), J, e)) (fun _ => rfl)).trans ?_
      refine zl_retI rfl rfl ?_
      first | (simp only [h3, h7, zk_t, zk_f, zb_t, zb_f]; done) | (simp only [h3, h7, zk_t, zk_f, zb_t, zb_f]; rfl) | rfl
    · refine zc_ltF rfl h7 ?_
      refine (zz_go 1 (fr' := (zm_T_takeKind, d + 2, 34, [some (.ref 2), some (.int (v_T_runEnd M (97 : Int32) (122 : Int32))), none], [.ref 2])) (h' := (zt_T L, zt_R, M, J, e)) (fun _ => rfl)).trans ?_
      refine zl_vt (d := d + 1) rfl rfl rfl rfl rfl rfl rfl rfl rfl rfl (s_T_fail L e J (d + 0) M) ?_
      show zz_D (zm_T_takeKind, d + 2, 37, [some (.ref 2), some (.int (v_T_runEnd M (97 : Int32) (122 : Int32))), none], []) (zt_T L, zt_R, (w_T_fail M), J, e) = _
      refine (zz_go 1 (fr' := (zm_T_takeKind, d + 2, 38, [some (.ref 2), some (.int (v_T_runEnd M (97 : Int32) (122 : Int32))), none], [.int (-1 : Int32)])) (h' := (zt_T L, zt_R, (w_T_fail M), J, e)) (fun _ => rfl)).trans ?_
      refine zl_retI rfl rfl ?_
      first | (simp only [h3, h7, zk_t, zk_f, zb_t, zb_f]; done) | (simp only [h3, h7, zk_t, zk_f, zb_t, zb_f]; rfl) | rfl
  · refine zc_neF rfl h3 ?_
    refine (zz_go 1 (fr' := (zm_T_takeKind, d + 2, 34, [some (.ref 2), some (.int (v_T_runEnd M (97 : Int32) (122 : Int32))), none], [.ref 2])) (h' := (zt_T L, zt_R, M, J, e)) (fun _ => rfl)).trans ?_
    refine zl_vt (d := d + 1) rfl rfl rfl rfl rfl rfl rfl rfl rfl rfl (s_T_fail L e J (d + 0) M) ?_
    show zz_D (zm_T_takeKind, d + 2, 37, [some (.ref 2), some (.int (v_T_runEnd M (97 : Int32) (122 : Int32))), none], []) (zt_T L, zt_R, (w_T_fail M), J, e) = _
    refine (zz_go 1 (fr' := (zm_T_takeKind, d + 2, 38, [some (.ref 2), some (.int (v_T_runEnd M (97 : Int32) (122 : Int32))), none], [.int (-1 : Int32)])) (h' := (zt_T L, zt_R, (w_T_fail M), J, e)) (fun _ => rfl)).trans ?_
    refine zl_retI rfl rfl ?_
    first | (simp only [h3, zk_t, zk_f, zb_t, zb_f]; done) | (simp only [h3, zk_t, zk_f, zb_t, zb_f]; rfl) | rfl
def g_T_takeFigures_1 (M : zMem) (i1 : Nat) (a1 : Int32 × Bool × Int32) : Bool × (Int32 × Bool × Int32) := ((bif a1.2.1 then (bif (decide ((v_T_runEnd M (48 : Int32) (57 : Int32)) ≤ a1.2.2)) then false else true) else false), ((bif a1.2.1 then (bif (decide ((v_T_runEnd M (48 : Int32) (57 : Int32)) ≤ a1.2.2)) then a1.1 else (a1.1 ||| (zsl ((M 3 (a1.2.2).toNatClampNeg) - (48 : Int32)) (a1.2.2 - (M 2 3))))) else a1.1), (bif a1.2.1 then (bif (decide ((v_T_runEnd M (48 : Int32) (57 : Int32)) ≤ a1.2.2)) then a1.2.1 else (bif (decide ((49 : Int32) < (M 3 (a1.2.2).toNatClampNeg))) then false else true)) else a1.2.1), (bif a1.2.1 then (bif (decide ((v_T_runEnd M (48 : Int32) (57 : Int32)) ≤ a1.2.2)) then a1.2.2 else (a1.2.2 + (1 : Int32))) else a1.2.2)))
def kb_T_takeFigures_1 (M : zMem) (i1 : Nat) (a1 : Int32 × Bool × Int32) : Prop := (a1.2.1 = true → ((decide ((v_T_runEnd M (48 : Int32) (57 : Int32)) ≤ a1.2.2)) = false → zz_in a1.2.2 400 = true))
def v_T_takeFigures (M : zMem) : Int32 := (bif (zf_wh 1000 (g_T_takeFigures_1 M) 0 ((0 : Int32), (decide (((v_T_runEnd M (48 : Int32) (57 : Int32)) - (M 2 3)) = (4 : Int32))), (M 2 3))).2.1 then (zf_wh 1000 (g_T_takeFigures_1 M) 0 ((0 : Int32), (decide (((v_T_runEnd M (48 : Int32) (57 : Int32)) - (M 2 3)) = (4 : Int32))), (M 2 3))).1 else (0 : Int32))
def w_T_takeFigures (M : zMem) : zMem := (bif (zf_wh 1000 (g_T_takeFigures_1 M) 0 ((0 : Int32), (decide (((v_T_runEnd M (48 : Int32) (57 : Int32)) - (M 2 3)) = (4 : Int32))), (M 2 3))).2.1 then (w_T_moveTo M (v_T_runEnd M (48 : Int32) (57 : Int32))) else (w_T_fail M))
def ok_T_takeFigures (M : zMem) : Prop := (ok_T_runEnd M (48 : Int32) (57 : Int32) ∧ ((zf_wk 1000 (g_T_takeFigures_1 M) (kb_T_takeFigures_1 M) 0 ((0 : Int32), (decide (((v_T_runEnd M (48 : Int32) (57 : Int32)) - (M 2 3)) = (4 : Int32))), (M 2 3))) ∧ ((zf_wh 1000 (g_T_takeFigures_1 M) 0 ((0 : Int32), (decide (((v_T_runEnd M (48 : Int32) (57 : Int32)) - (M 2 3)) = (4 : Int32))), (M 2 3))).2.1 = true → ok_T_moveTo M (v_T_runEnd M (48 : Int32) (57 : Int32)))))
set_option maxRecDepth 20000 in
set_option maxHeartbeats 2000000 in
theorem s_T_takeFigures (L e : Nat) (J : zJem) (d : Nat) (M : zMem) (k0 : ok_T_takeFigures M) : zz_D (zm_T_takeFigures, d + 2, 0, [some (.ref 2), none, none, none, none], []) (zt_T L, zt_R, M, J, e) = some (.inl (some (.int (v_T_takeFigures M))), (zt_T L, zt_R, (w_T_takeFigures M), J, e)) := by
  unfold ok_T_takeFigures at k0
  unfold v_T_takeFigures w_T_takeFigures
  refine (zz_go 3 (fr' := (zm_T_takeFigures, d + 2, 5, [some (.ref 2), none, none, none, none], [.int (57 : Int32), .int (48 : Int32), .ref 2])) (h' := (zt_T L, zt_R, M, J, e)) (fun _ => rfl)).trans ?_
  obtain ⟨g1, k2⟩ := k0
  refine zl_vt (d := d + 1) rfl rfl rfl rfl rfl rfl rfl rfl rfl rfl (s_T_runEnd L e J (d + 0) M (48 : Int32) (57 : Int32) g1) ?_
  show zz_D (zm_T_takeFigures, d + 2, 8, [some (.ref 2), none, none, none, none], [.int (v_T_runEnd M (48 : Int32) (57 : Int32))]) (zt_T L, zt_R, M, J, e) = _
  refine (zz_go 5 (fr' := (zm_T_takeFigures, d + 2, 13, [some (.ref 2), some (.int (v_T_runEnd M (48 : Int32) (57 : Int32))), some (.int (0 : Int32)), none, none], [.ref 2, .int (v_T_runEnd M (48 : Int32) (57 : Int32))])) (h' := (zt_T L, zt_R, M, J, e)) (fun _ => rfl)).trans ?_
  refine zl_getI rfl (by decide) rfl rfl ?_
  refine zz_jn (X := zz_D (zm_T_takeFigures, d + 2, 26, [some (.ref 2), some (.int (v_T_runEnd M (48 : Int32) (57 : Int32))), some (.int (0 : Int32)), none, none], [.int (zb (decide (((v_T_runEnd M (48 : Int32) (57 : Int32)) - (M 2 3)) = (4 : Int32))))]) (zt_T L, zt_R, M, J, e)) (fun j3 => ?_) ?_
  · refine (zz_go 2 (fr' := (zm_T_takeFigures, d + 2, 18, [some (.ref 2), some (.int (v_T_runEnd M (48 : Int32) (57 : Int32))), some (.int (0 : Int32)), none, none], [.int (4 : Int32), .int ((v_T_runEnd M (48 : Int32) (57 : Int32)) - (M 2 3))])) (h' := (zt_T L, zt_R, M, J, e)) (fun _ => rfl)).trans ?_
    rcases zz_bc (decide (((v_T_runEnd M (48 : Int32) (57 : Int32)) - (M 2 3)) = (4 : Int32))) with h4 | h4
    · refine zc_neT rfl h4 ?_
      refine (zz_go 2 (fr' := (zm_T_takeFigures, d + 2, 26, [some (.ref 2), some (.int (v_T_runEnd M (48 : Int32) (57 : Int32))), some (.int (0 : Int32)), none, none], [.int (1 : Int32)])) (h' := (zt_T L, zt_R, M, J, e)) (fun _ => rfl)).trans ?_
      simpa only [h4, zk_t, zk_f, zb_t, zb_f] using j3
    · refine zc_neF rfl h4 ?_
      refine (zz_go 1 (fr' := (zm_T_takeFigures, d + 2, 26, [some (.ref 2), some (.int (v_T_runEnd M (48 : Int32) (57 : Int32))), some (.int (0 : Int32)), none, none], [.int (0 : Int32)])) (h' := (zt_T L, zt_R, M, J, e)) (fun _ => rfl)).trans ?_
      simpa only [h4, zk_t, zk_f, zb_t, zb_f] using j3
  refine (zz_go 2 (fr' := (zm_T_takeFigures, d + 2, 28, [some (.ref 2), some (.int (v_T_runEnd M (48 : Int32) (57 : Int32))), some (.int (0 : Int32)), some (.int (zb (decide (((v_T_runEnd M (48 : Int32) (57 : Int32)) - (M 2 3)) = (4 : Int32))))), none], [.ref 2])) (h' := (zt_T L, zt_R, M, J, e)) (fun _ => rfl)).trans ?_
  refine zl_getI rfl (by decide) rfl rfl ?_
  refine (zz_go 1 (fr' := (zm_T_takeFigures, d + 2, 33, [some (.ref 2), some (.int (v_T_runEnd M (48 : Int32) (57 : Int32))), some (.int (0 : Int32)), some (.int (zb (decide (((v_T_runEnd M (48 : Int32) (57 : Int32)) - (M 2 3)) = (4 : Int32))))), some (.int (M 2 3))], [])) (h' := (zt_T L, zt_R, M, J, e)) (fun _ => rfl)).trans ?_
  obtain ⟨k5, k6⟩ := k2
  refine zf_whY (X := fun (i1 : Nat) (a1 : Int32 × Bool × Int32) => zz_D (zm_T_takeFigures, d + 2, 33, [some (.ref 2), some (.int (v_T_runEnd M (48 : Int32) (57 : Int32))), some (.int a1.1), some (.int (zb a1.2.1)), some (.int a1.2.2)], []) (zt_T L, zt_R, M, J, e)) (Y := fun (a1 : Int32 × Bool × Int32) => zz_D (zm_T_takeFigures, d + 2, 88, [some (.ref 2), some (.int (v_T_runEnd M (48 : Int32) (57 : Int32))), some (.int a1.1), some (.int (zb a1.2.1)), none], []) (zt_T L, zt_R, M, J, e)) (g := (g_T_takeFigures_1 M)) (k := (kb_T_takeFigures_1 M)) (fun i1 a1 k9 hx7 hx8 => ?_) 1000 0 ((0 : Int32), (decide (((v_T_runEnd M (48 : Int32) (57 : Int32)) - (M 2 3)) = (4 : Int32))), (M 2 3)) k5 ?_
  · show zz_D (zm_T_takeFigures, d + 2, 33, [some (.ref 2), some (.int (v_T_runEnd M (48 : Int32) (57 : Int32))), some (.int a1.1), some (.int (zb a1.2.1)), some (.int a1.2.2)], []) (zt_T L, zt_R, M, J, e) = _
    unfold kb_T_takeFigures_1 at k9
    refine (zz_go 1 (fr' := (zm_T_takeFigures, d + 2, 34, [some (.ref 2), some (.int (v_T_runEnd M (48 : Int32) (57 : Int32))), some (.int a1.1), some (.int (zb a1.2.1)), some (.int a1.2.2)], [.int (zb a1.2.1)])) (h' := (zt_T L, zt_R, M, J, e)) (fun _ => rfl)).trans ?_
    rcases zz_bc a1.2.1 with h10 | h10
    · refine zq_eT rfl h10 ?_
      have k11 := k9 h10
      refine (zz_go 2 (fr' := (zm_T_takeFigures, d + 2, 40, [some (.ref 2), some (.int (v_T_runEnd M (48 : Int32) (57 : Int32))), some (.int a1.1), some (.int (zb a1.2.1)), some (.int a1.2.2)], [.int (v_T_runEnd M (48 : Int32) (57 : Int32)), .int a1.2.2])) (h' := (zt_T L, zt_R, M, J, e)) (fun _ => rfl)).trans ?_
      rcases zz_bc (decide ((v_T_runEnd M (48 : Int32) (57 : Int32)) ≤ a1.2.2)) with h12 | h12
      · refine zc_geT rfl h12 ?_
        refine zz_weak (L := [some (.ref 2), some (.int (v_T_runEnd M (48 : Int32) (57 : Int32))), some (.int a1.1), some (.int (zb a1.2.1)), none]) ⟨Or.inl rfl, Or.inl rfl, Or.inl rfl, Or.inl rfl, Or.inr ⟨rfl, rfl⟩, trivial⟩ ?_
        have y1 := hx8 (by simp only [g_T_takeFigures_1, h10, h12, zk_t, zk_f, zb_t, zb_f])
        simpa only [g_T_takeFigures_1, h10, h12, zk_t, zk_f, zb_t, zb_f] using y1
      · refine zc_geF rfl h12 ?_
        have k13 := k11 h12
        refine (zz_go 1 (fr' := (zm_T_takeFigures, d + 2, 44, [some (.ref 2), some (.int (v_T_runEnd M (48 : Int32) (57 : Int32))), some (.int a1.1), some (.int (zb a1.2.1)), some (.int a1.2.2)], [.ref 2])) (h' := (zt_T L, zt_R, M, J, e)) (fun _ => rfl)).trans ?_
        refine zl_getR rfl rfl rfl ?_
        refine (zz_go 1 (fr' := (zm_T_takeFigures, d + 2, 49, [some (.ref 2), some (.int (v_T_runEnd M (48 : Int32) (57 : Int32))), some (.int a1.1), some (.int (zb a1.2.1)), some (.int a1.2.2)], [.int a1.2.2, .ref 3])) (h' := (zt_T L, zt_R, M, J, e)) (fun _ => rfl)).trans ?_
        have g14 : zz_in a1.2.2 400 = true := k13
        refine zl_iaload rfl rfl g14 rfl ?_
        refine zz_jn (X := zz_D (zm_T_takeFigures, d + 2, 60, [some (.ref 2), some (.int (v_T_runEnd M (48 : Int32) (57 : Int32))), some (.int a1.1), none, some (.int a1.2.2)], [.int (zb (bif (decide ((49 : Int32) < (M 3 (a1.2.2).toNatClampNeg))) then false else true))]) (zt_T L, zt_R, M, J, e)) (fun j15 => ?_) ?_
        · refine (zz_go 1 (fr' := (zm_T_takeFigures, d + 2, 52, [some (.ref 2), some (.int (v_T_runEnd M (48 : Int32) (57 : Int32))), some (.int a1.1), some (.int (zb a1.2.1)), some (.int a1.2.2)], [.int (49 : Int32), .int (M 3 (a1.2.2).toNatClampNeg)])) (h' := (zt_T L, zt_R, M, J, e)) (fun _ => rfl)).trans ?_
          rcases zz_bc (decide ((49 : Int32) < (M 3 (a1.2.2).toNatClampNeg))) with h16 | h16
          · refine zc_gtT rfl h16 ?_
            refine (zz_go 1 (fr' := (zm_T_takeFigures, d + 2, 60, [some (.ref 2), some (.int (v_T_runEnd M (48 : Int32) (57 : Int32))), some (.int a1.1), some (.int (zb a1.2.1)), some (.int a1.2.2)], [.int (0 : Int32)])) (h' := (zt_T L, zt_R, M, J, e)) (fun _ => rfl)).trans ?_
            refine zz_weak (L := [some (.ref 2), some (.int (v_T_runEnd M (48 : Int32) (57 : Int32))), some (.int a1.1), none, some (.int a1.2.2)]) ⟨Or.inl rfl, Or.inl rfl, Or.inl rfl, Or.inr ⟨rfl, rfl⟩, Or.inl rfl, trivial⟩ ?_
            simpa only [h16, zk_t, zk_f, zb_t, zb_f] using j15
          · refine zc_gtF rfl h16 ?_
            refine (zz_go 2 (fr' := (zm_T_takeFigures, d + 2, 60, [some (.ref 2), some (.int (v_T_runEnd M (48 : Int32) (57 : Int32))), some (.int a1.1), some (.int (zb a1.2.1)), some (.int a1.2.2)], [.int (1 : Int32)])) (h' := (zt_T L, zt_R, M, J, e)) (fun _ => rfl)).trans ?_
            refine zz_weak (L := [some (.ref 2), some (.int (v_T_runEnd M (48 : Int32) (57 : Int32))), some (.int a1.1), none, some (.int a1.2.2)]) ⟨Or.inl rfl, Or.inl rfl, Or.inl rfl, Or.inr ⟨rfl, rfl⟩, Or.inl rfl, trivial⟩ ?_
            simpa only [h16, zk_t, zk_f, zb_t, zb_f] using j15
        refine (zz_go 3 (fr' := (zm_T_takeFigures, d + 2, 63, [some (.ref 2), some (.int (v_T_runEnd M (48 : Int32) (57 : Int32))), some (.int a1.1), some (.int (zb (bif (decide ((49 : Int32) < (M 3 (a1.2.2).toNatClampNeg))) then false else true))), some (.int a1.2.2)], [.ref 2, .int a1.1])) (h' := (zt_T L, zt_R, M, J, e)) (fun _ => rfl)).trans ?_
        refine zl_getR rfl rfl rfl ?_
        refine (zz_go 1 (fr' := (zm_T_takeFigures, d + 2, 68, [some (.ref 2), some (.int (v_T_runEnd M (48 : Int32) (57 : Int32))), some (.int a1.1), some (.int (zb (bif (decide ((49 : Int32) < (M 3 (a1.2.2).toNatClampNeg))) then false else true))), some (.int a1.2.2)], [.int a1.2.2, .ref 3, .int a1.1])) (h' := (zt_T L, zt_R, M, J, e)) (fun _ => rfl)).trans ?_
        refine zl_iaload rfl rfl g14 rfl ?_
        refine (zz_go 4 (fr' := (zm_T_takeFigures, d + 2, 75, [some (.ref 2), some (.int (v_T_runEnd M (48 : Int32) (57 : Int32))), some (.int a1.1), some (.int (zb (bif (decide ((49 : Int32) < (M 3 (a1.2.2).toNatClampNeg))) then false else true))), some (.int a1.2.2)], [.ref 2, .int a1.2.2, .int ((M 3 (a1.2.2).toNatClampNeg) - (48 : Int32)), .int a1.1])) (h' := (zt_T L, zt_R, M, J, e)) (fun _ => rfl)).trans ?_
        refine zl_getI rfl (by decide) rfl rfl ?_
        refine (zz_go 6 (fr' := (zm_T_takeFigures, d + 2, 33, [some (.ref 2), some (.int (v_T_runEnd M (48 : Int32) (57 : Int32))), some (.int (a1.1 ||| (zsl ((M 3 (a1.2.2).toNatClampNeg) - (48 : Int32)) (a1.2.2 - (M 2 3))))), some (.int (zb (bif (decide ((49 : Int32) < (M 3 (a1.2.2).toNatClampNeg))) then false else true))), some (.int (a1.2.2 + (1 : Int32)))], [])) (h' := (zt_T L, zt_R, M, J, e)) (fun _ => rfl)).trans ?_
        have y1 := hx7 (by simp only [g_T_takeFigures_1, h10, h12, zk_t, zk_f, zb_t, zb_f])
        simpa only [g_T_takeFigures_1, h10, h12, zk_t, zk_f, zb_t, zb_f] using y1
    · refine zq_eF rfl h10 ?_
      refine zz_weak (L := [some (.ref 2), some (.int (v_T_runEnd M (48 : Int32) (57 : Int32))), some (.int a1.1), some (.int (zb a1.2.1)), none]) ⟨Or.inl rfl, Or.inl rfl, Or.inl rfl, Or.inl rfl, Or.inr ⟨rfl, rfl⟩, trivial⟩ ?_
      have y1 := hx8 (by simp only [g_T_takeFigures_1, h10, zk_t, zk_f, zb_t, zb_f])
      simpa only [g_T_takeFigures_1, h10, zk_t, zk_f, zb_t, zb_f] using y1
  show zz_D (zm_T_takeFigures, d + 2, 88, [some (.ref 2), some (.int (v_T_runEnd M (48 : Int32) (57 : Int32))), some (.int (zf_wh 1000 (g_T_takeFigures_1 M) 0 ((0 : Int32), (decide (((v_T_runEnd M (48 : Int32) (57 : Int32)) - (M 2 3)) = (4 : Int32))), (M 2 3))).1), some (.int (zb (zf_wh 1000 (g_T_takeFigures_1 M) 0 ((0 : Int32), (decide (((v_T_runEnd M (48 : Int32) (57 : Int32)) - (M 2 3)) = (4 : Int32))), (M 2 3))).2.1)), none], []) (zt_T L, zt_R, M, J, e) = _
  refine (zz_go 1 (fr' := (zm_T_takeFigures, d + 2, 89, [some (.ref 2), some (.int (v_T_runEnd M (48 : Int32) (57 : Int32))), some (.int (zf_wh 1000 (g_T_takeFigures_1 M) 0 ((0 : Int32), (decide (((v_T_runEnd M (48 : Int32) (57 : Int32)) - (M 2 3)) = (4 : Int32))), (M 2 3))).1), some (.int (zb (zf_wh 1000 (g_T_takeFigures_1 M) 0 ((0 : Int32), (decide (((v_T_runEnd M (48 : Int32) (57 : Int32)) - (M 2 3)) = (4 : Int32))), (M 2 3))).2.1)), none], [.int (zb (zf_wh 1000 (g_T_takeFigures_1 M) 0 ((0 : Int32), (decide (((v_T_runEnd M (48 : Int32) (57 : Int32)) - (M 2 3)) = (4 : Int32))), (M 2 3))).2.1)])) (h' := (zt_T L, zt_R, M, J, e)) (fun _ => rfl)).trans ?_
  rcases zz_bc (zf_wh 1000 (g_T_takeFigures_1 M) 0 ((0 : Int32), (decide (((v_T_runEnd M (48 : Int32) (57 : Int32)) - (M 2 3)) = (4 : Int32))), (M 2 3))).2.1 with h17 | h17
  · refine zq_fT rfl h17 ?_
    have k18 := k6 h17
    refine (zz_go 2 (fr' := (zm_T_takeFigures, d + 2, 100, [some (.ref 2), some (.int (v_T_runEnd M (48 : Int32) (57 : Int32))), some (.int (zf_wh 1000 (g_T_takeFigures_1 M) 0 ((0 : Int32), (decide (((v_T_runEnd M (48 : Int32) (57 : Int32)) - (M 2 3)) = (4 : Int32))), (M 2 3))).1), some (.int (zb (zf_wh 1000 (g_T_takeFigures_1 M) 0 ((0 : Int32), (decide (((v_T_runEnd M (48 : Int32) (57 : Int32)) - (M 2 3)) = (4 : Int32))), (M 2 3))).2.1)), none], [.int (v_T_runEnd M (48 : Int32) (57 : Int32)), .ref 2])) (h' := (zt_T L, zt_R, M, J, e)) (fun _ => rfl)).trans ?_
    have g19 : ok_T_moveTo M (v_T_runEnd M (48 : Int32) (57 : Int32)) := k18
    refine zl_vt (d := d + 1) rfl rfl rfl rfl rfl rfl rfl rfl rfl rfl (s_T_moveTo L e J (d + 0) M (v_T_runEnd M (48 : Int32) (57 : Int32)) g19) ?_
    show zz_D (zm_T_takeFigures, d + 2, 103, [some (.ref 2), some (.int (v_T_runEnd M (48 : Int32) (57 : Int32))), some (.int (zf_wh 1000 (g_T_takeFigures_1 M) 0 ((0 : Int32), (decide (((v_T_runEnd M (48 : Int32) (57 : Int32)) - (M 2 3)) = (4 : Int32))), (M 2 3))).1), some (.int (zb (zf_wh 1000 (g_T_takeFigures_1 M) 0 ((0 : Int32), (decide (((v_T_runEnd M (48 : Int32) (57 : Int32)) - (M 2 3)) = (4 : Int32))), (M 2 3))).2.1)), none], []) (zt_T L, zt_R, (w_T_moveTo M (v_T_runEnd M (48 : Int32) (57 : Int32))), J, e) = _
    refine (zz_go 1 (fr' := (zm_T_takeFigures, d + 2, 104, [some (.ref 2), some (.int (v_T_runEnd M (48 : Int32) (57 : Int32))), some (.int (zf_wh 1000 (g_T_takeFigures_1 M) 0 ((0 : Int32), (decide (((v_T_runEnd M (48 : Int32) (57 : Int32)) - (M 2 3)) = (4 : Int32))), (M 2 3))).1), some (.int (zb (zf_wh 1000 (g_T_takeFigures_1 M) 0 ((0 : Int32), (decide (((v_T_runEnd M (48 : Int32) (57 : Int32)) - (M 2 3)) = (4 : Int32))), (M 2 3))).2.1)), none], [.int (zf_wh 1000 (g_T_takeFigures_1 M) 0 ((0 : Int32), (decide (((v_T_runEnd M (48 : Int32) (57 : Int32)) - (M 2 3)) = (4 : Int32))), (M 2 3))).1])) (h' := (zt_T L, zt_R, (w_T_moveTo M (v_T_runEnd M (48 : Int32) (57 : Int32))), J, e)) (fun _ => rfl)).trans ?_
    refine zl_retI rfl rfl ?_
    first | (simp only [h17, zk_t, zk_f, zb_t, zb_f]; done) | (simp only [h17, zk_t, zk_f, zb_t, zb_f]; rfl) | rfl
  · refine zq_fF rfl h17 ?_
    refine (zz_go 1 (fr' := (zm_T_takeFigures, d + 2, 93, [some (.ref 2), some (.int (v_T_runEnd M (48 : Int32) (57 : Int32))), some (.int (zf_wh 1000 (g_T_takeFigures_1 M) 0 ((0 : Int32), (decide (((v_T_runEnd M (48 : Int32) (57 : Int32)) - (M 2 3)) = (4 : Int32))), (M 2 3))).1), some (.int (zb (zf_wh 1000 (g_T_takeFigures_1 M) 0 ((0 : Int32), (decide (((v_T_runEnd M (48 : Int32) (57 : Int32)) - (M 2 3)) = (4 : Int32))), (M 2 3))).2.1)), none], [.ref 2])) (h' := (zt_T L, zt_R, M, J, e)) (fun _ => rfl)).trans ?_
    refine zl_vt (d := d + 1) rfl rfl rfl rfl rfl rfl rfl rfl rfl rfl (s_T_fail L e J (d + 0) M) ?_
    show zz_D (zm_T_takeFigures, d + 2, 96, [some (.ref 2), some (.int (v_T_runEnd M (48 : Int32) (57 : Int32))), some (.int (zf_wh 1000 (g_T_takeFigures_1 M) 0 ((0 : Int32), (decide (((v_T_runEnd M (48 : Int32) (57 : Int32)) - (M 2 3)) = (4 : Int32))), (M 2 3))).1), some (.int (zb (zf_wh 1000 (g_T_takeFigures_1 M) 0 ((0 : Int32), (decide (((v_T_runEnd M (48 : Int32) (57 : Int32)) - (M 2 3)) = (4 : Int32))), (M 2 3))).2.1)), none], []) (zt_T L, zt_R, (w_T_fail M), J, e) = _
    refine (zz_go 1 (fr' := (zm_T_takeFigures, d + 2, 97, [some (.ref 2), some (.int (v_T_runEnd M (48 : Int32) (57 : Int32))), some (.int (zf_wh 1000 (g_T_takeFigures_1 M) 0 ((0 : Int32), (decide (((v_T_runEnd M (48 : Int32) (57 : Int32)) - (M 2 3)) = (4 : Int32))), (M 2 3))).1), some (.int (zb (zf_wh 1000 (g_T_takeFigures_1 M) 0 ((0 : Int32), (decide (((v_T_runEnd M (48 : Int32) (57 : Int32)) - (M 2 3)) = (4 : Int32))), (M 2 3))).2.1)), none], [.int (0 : Int32)])) (h' := (zt_T L, zt_R, (w_T_fail M), J, e)) (fun _ => rfl)).trans ?_
    refine zl_retI rfl rfl ?_
    first | (simp only [h17, zk_t, zk_f, zb_t, zb_f]; done) | (simp only [h17, zk_t, zk_f, zb_t, zb_f]; rfl) | rfl
def f_U_narrowed_1 (y0 : Int64) (x1 : Int32) (x2 : Int32) (i1 : Nat) (a1 : Int64) : Int64 := (a1 ||| (y0 &&& (zll (Int64.ofNat 1) (((8 : Int32) * (Int32.ofNat i1)) + ((x2 - ((Int32.ofNat i1) * x1)) &&& (7 : Int32))))))
def v_U_narrowed (y0 : Int64) (x1 : Int32) (x2 : Int32) : Int64 := (zf_for 8 (f_U_narrowed_1 y0 x1 x2) (Int64.ofNat 0))
set_option maxRecDepth 20000 in
set_option maxHeartbeats 2000000 in
theorem s_U_narrowed (L e : Nat) (J : zJem) (d : Nat) {M : zMem} (y0 : Int64) (x1 : Int32) (x2 : Int32) : zz_D (zm_U_narrowed, d + 1, 0, [some (.long y0), none, some (.int x1), some (.int x2), none, none, none], []) (zt_T L, zt_R, M, J, e) = some (.inl (some (.long (v_U_narrowed y0 x1 x2))), (zt_T L, zt_R, M, J, e)) := by
  unfold v_U_narrowed
  refine (zz_go 4 (fr' := (zm_U_narrowed, d + 1, 6, [some (.long y0), none, some (.int x1), some (.int x2), some (.long (Int64.ofNat 0)), none, some (.int (0 : Int32))], [])) (h' := (zt_T L, zt_R, M, J, e)) (fun _ => rfl)).trans ?_
  refine zf_forD (X := fun (i1 : Nat) (a1 : Int64) => zz_D (zm_U_narrowed, d + 1, 6, [some (.long y0), none, some (.int x1), some (.int x2), some (.long a1), none, some (.int (Int32.ofNat i1))], []) (zt_T L, zt_R, M, J, e)) (f := (f_U_narrowed_1 y0 x1 x2)) (a := (Int64.ofNat 0)) 8 (fun i1 hi1 => ?_) ?_
  · intro hx1
    generalize zf_for i1 (f_U_narrowed_1 y0 x1 x2) (Int64.ofNat 0) = a1 at hx1 ⊢
    show zz_D (zm_U_narrowed, d + 1, 6, [some (.long y0), none, some (.int x1), some (.int x2), some (.long a1), none, some (.int (Int32.ofNat i1))], []) (zt_T L, zt_R, M, J, e) = _
    refine (zz_go 2 (fr' := (zm_U_narrowed, d + 1, 10, [some (.long y0), none, some (.int x1), some (.int x2), some (.long a1), none, some (.int (Int32.ofNat i1))], [.int (8 : Int32), .int (Int32.ofNat i1)])) (h' := (zt_T L, zt_R, M, J, e)) (fun _ => rfl)).trans ?_
    refine zc_geF rfl (zi_ltc (n := 8) (by omega) (by decide)) ?_
    refine (zz_go 20 (fr' := (zm_U_narrowed, d + 1, 6, [some (.long y0), none, some (.int x1), some (.int x2), some (.long (a1 ||| (y0 &&& (zll (Int64.ofNat 1) (((8 : Int32) * (Int32.ofNat i1)) + ((x2 - ((Int32.ofNat i1) * x1)) &&& (7 : Int32))))))), none, some (.int (Int32.ofNat i1 + 1))], [])) (h' := (zt_T L, zt_R, M, J, e)) (fun _ => rfl)).trans ?_
    rw [zi_succ i1]
    exact hx1
  show zz_D (zm_U_narrowed, d + 1, 6, [some (.long y0), none, some (.int x1), some (.int x2), some (.long (zf_for 8 (f_U_narrowed_1 y0 x1 x2) (Int64.ofNat 0))), none, some (.int (Int32.ofNat 8))], []) (zt_T L, zt_R, M, J, e) = _
  refine (zz_go 2 (fr' := (zm_U_narrowed, d + 1, 10, [some (.long y0), none, some (.int x1), some (.int x2), some (.long (zf_for 8 (f_U_narrowed_1 y0 x1 x2) (Int64.ofNat 0))), none, some (.int (Int32.ofNat 8))], [.int (8 : Int32), .int (Int32.ofNat 8)])) (h' := (zt_T L, zt_R, M, J, e)) (fun _ => rfl)).trans ?_
  refine zc_geT rfl (by decide) ?_
  refine zz_weak (L := [some (.long y0), none, none, none, some (.long (zf_for 8 (f_U_narrowed_1 y0 x1 x2) (Int64.ofNat 0))), none, none]) ⟨Or.inl rfl, Or.inl rfl, Or.inr ⟨rfl, rfl⟩, Or.inr ⟨rfl, rfl⟩, Or.inl rfl, Or.inl rfl, Or.inr ⟨rfl, rfl⟩, trivial⟩ ?_
  refine (zz_go 1 (fr' := (zm_U_narrowed, d + 1, 45, [some (.long y0), none, none, none, some (.long (zf_for 8 (f_U_narrowed_1 y0 x1 x2) (Int64.ofNat 0))), none, none], [.long (zf_for 8 (f_U_narrowed_1 y0 x1 x2) (Int64.ofNat 0))])) (h' := (zt_T L, zt_R, M, J, e)) (fun _ => rfl)).trans ?_
  refine (zz_end 1 (r := (.inl (some (.long (zf_for 8 (f_U_narrowed_1 y0 x1 x2) (Int64.ofNat 0)))), (zt_T L, zt_R, M, J, e))) (fun _ => rfl)).trans ?_
  rfl
def g_U_fittingRows_1 (M : zMem) (x0 : Int32) (i1 : Nat) (a1 : Int64 × Int32) : Bool × (Int64 × Int32) := ((bif (decide (x0 ≤ (a1.2 + (1 : Int32)))) then false else true), ((bif (decide (x0 ≤ (a1.2 + (1 : Int32)))) then a1.1 else (v_U_narrowed a1.1 (v_T_byteAt M a1.2) (v_T_byteAt M (a1.2 + (1 : Int32))))), (bif (decide (x0 ≤ (a1.2 + (1 : Int32)))) then a1.2 else (a1.2 + (2 : Int32)))))
def kb_U_fittingRows_1 (M : zMem) (x0 : Int32) (i1 : Nat) (a1 : Int64 × Int32) : Prop := ((decide (x0 ≤ (a1.2 + (1 : Int32)))) = false → (ok_T_byteAt M a1.2 ∧ ok_T_byteAt M (a1.2 + (1 : Int32))))
def v_U_fittingRows (M : zMem) (x0 : Int32) : Int64 := (zf_wh 1000 (g_U_fittingRows_1 M x0) 0 ((Int64.ofNat 18446744073709551615), (0 : Int32))).1
def ok_U_fittingRows (M : zMem) (x0 : Int32) : Prop := (zf_wk 1000 (g_U_fittingRows_1 M x0) (kb_U_fittingRows_1 M x0) 0 ((Int64.ofNat 18446744073709551615), (0 : Int32)))
set_option maxRecDepth 20000 in
set_option maxHeartbeats 2000000 in
theorem s_U_fittingRows (L e : Nat) (J : zJem) (d : Nat) (M : zMem) (x0 : Int32) (k0 : ok_U_fittingRows M x0) : zz_D (zm_U_fittingRows, d + 2, 0, [some (.ref 2), some (.int x0), none, none, none], []) (zt_T L, zt_R, M, J, e) = some (.inl (some (.long (v_U_fittingRows M x0))), (zt_T L, zt_R, M, J, e)) := by
  unfold ok_U_fittingRows at k0
  unfold v_U_fittingRows
  refine (zz_go 4 (fr' := (zm_U_fittingRows, d + 2, 7, [some (.ref 2), some (.int x0), some (.long (Int64.ofNat 18446744073709551615)), none, some (.int (0 : Int32))], [])) (h' := (zt_T L, zt_R, M, J, e)) (fun _ => rfl)).trans ?_
  refine zf_whY (X := fun (i1 : Nat) (a1 : Int64 × Int32) => zz_D (zm_U_fittingRows, d + 2, 7, [some (.ref 2), some (.int x0), some (.long a1.1), none, some (.int a1.2)], []) (zt_T L, zt_R, M, J, e)) (Y := fun (a1 : Int64 × Int32) => zz_D (zm_U_fittingRows, d + 2, 40, [none, none, some (.long a1.1), none, none], []) (zt_T L, zt_R, M, J, e)) (g := (g_U_fittingRows_1 M x0)) (k := (kb_U_fittingRows_1 M x0)) (fun i1 a1 k3 hx1 hx2 => ?_) 1000 0 ((Int64.ofNat 18446744073709551615), (0 : Int32)) k0 ?_
  · show zz_D (zm_U_fittingRows, d + 2, 7, [some (.ref 2), some (.int x0), some (.long a1.1), none, some (.int a1.2)], []) (zt_T L, zt_R, M, J, e) = _
    unfold kb_U_fittingRows_1 at k3
    refine (zz_go 4 (fr' := (zm_U_fittingRows, d + 2, 12, [some (.ref 2), some (.int x0), some (.long a1.1), none, some (.int a1.2)], [.int x0, .int (a1.2 + (1 : Int32))])) (h' := (zt_T L, zt_R, M, J, e)) (fun _ => rfl)).trans ?_
    rcases zz_bc (decide (x0 ≤ (a1.2 + (1 : Int32)))) with h4 | h4
    · refine zc_geT rfl h4 ?_
      refine zz_weak (L := [none, none, some (.long a1.1), none, none]) ⟨Or.inr ⟨rfl, rfl⟩, Or.inr ⟨rfl, rfl⟩, Or.inl rfl, Or.inl rfl, Or.inr ⟨rfl, rfl⟩, trivial⟩ ?_
      have y1 := hx2 (by simp only [g_U_fittingRows_1, h4, zk_t, zk_f, zb_t, zb_f])
      simpa only [g_U_fittingRows_1, h4, zk_t, zk_f, zb_t, zb_f] using y1
    · refine zc_geF rfl h4 ?_
      have k5 := k3 h4
      refine (zz_go 3 (fr' := (zm_U_fittingRows, d + 2, 19, [some (.ref 2), some (.int x0), some (.long a1.1), none, some (.int a1.2)], [.int a1.2, .ref 2, .long a1.1])) (h' := (zt_T L, zt_R, M, J, e)) (fun _ => rfl)).trans ?_
      obtain ⟨g6, k7⟩ := k5
      refine zl_vt (d := d + 1) rfl rfl rfl rfl rfl rfl rfl rfl rfl rfl (s_T_byteAt L e J (d + 0) M a1.2 g6) ?_
      show zz_D (zm_U_fittingRows, d + 2, 22, [some (.ref 2), some (.int x0), some (.long a1.1), none, some (.int a1.2)], [.int (v_T_byteAt M a1.2), .long a1.1]) (zt_T L, zt_R, M, J, e) = _
      refine (zz_go 4 (fr' := (zm_U_fittingRows, d + 2, 27, [some (.ref 2), some (.int x0), some (.long a1.1), none, some (.int a1.2)], [.int (a1.2 + (1 : Int32)), .ref 2, .int (v_T_byteAt M a1.2), .long a1.1])) (h' := (zt_T L, zt_R, M, J, e)) (fun _ => rfl)).trans ?_
      have g8 : ok_T_byteAt M (a1.2 + (1 : Int32)) := k7
      refine zl_vt (d := d + 1) rfl rfl rfl rfl rfl rfl rfl rfl rfl rfl (s_T_byteAt L e J (d + 0) M (a1.2 + (1 : Int32)) g8) ?_
      show zz_D (zm_U_fittingRows, d + 2, 30, [some (.ref 2), some (.int x0), some (.long a1.1), none, some (.int a1.2)], [.int (v_T_byteAt M (a1.2 + (1 : Int32))), .int (v_T_byteAt M a1.2), .long a1.1]) (zt_T L, zt_R, M, J, e) = _
      refine zl_st (d := d + 1) rfl rfl rfl rfl rfl rfl rfl (s_U_narrowed L e J (d + 0) a1.1 (v_T_byteAt M a1.2) (v_T_byteAt M (a1.2 + (1 : Int32)))) ?_
      show zz_D (zm_U_fittingRows, d + 2, 33, [some (.ref 2), some (.int x0), some (.long a1.1), none, some (.int a1.2)], [.long (v_U_narrowed a1.1 (v_T_byteAt M a1.2) (v_T_byteAt M (a1.2 + (1 : Int32))))]) (zt_T L, zt_R, M, J, e) = _
      refine (zz_go 3 (fr' := (zm_U_fittingRows, d + 2, 7, [some (.ref 2), some (.int x0), some (.long (v_U_narrowed a1.1 (v_T_byteAt M a1.2) (v_T_byteAt M (a1.2 + (1 : Int32))))), none, some (.int (a1.2 + (2 : Int32)))], [])) (h' := (zt_T L, zt_R, M, J, e)) (fun _ => rfl)).trans ?_
      have y1 := hx1 (by simp only [g_U_fittingRows_1, h4, zk_t, zk_f, zb_t, zb_f])
      simpa only [g_U_fittingRows_1, h4, zk_t, zk_f, zb_t, zb_f] using y1
  show zz_D (zm_U_fittingRows, d + 2, 40, [none, none, some (.long (zf_wh 1000 (g_U_fittingRows_1 M x0) 0 ((Int64.ofNat 18446744073709551615), (0 : Int32))).1), none, none], []) (zt_T L, zt_R, M, J, e) = _
  refine (zz_go 1 (fr' := (zm_U_fittingRows, d + 2, 41, [none, none, some (.long (zf_wh 1000 (g_U_fittingRows_1 M x0) 0 ((Int64.ofNat 18446744073709551615), (0 : Int32))).1), none, none], [.long (zf_wh 1000 (g_U_fittingRows_1 M x0) 0 ((Int64.ofNat 18446744073709551615), (0 : Int32))).1])) (h' := (zt_T L, zt_R, M, J, e)) (fun _ => rfl)).trans ?_
  refine (zz_end 1 (r := (.inl (some (.long (zf_wh 1000 (g_U_fittingRows_1 M x0) 0 ((Int64.ofNat 18446744073709551615), (0 : Int32))).1)), (zt_T L, zt_R, M, J, e))) (fun _ => rfl)).trans ?_
  rfl
def f_U_fittingKinds_1 (M : zMem) (i1 : Nat) (a1 : Int64) : Int64 := (v_U_narrowed a1 (Int32.ofNat i1) (M 6 i1))
def v_U_fittingKinds (M : zMem) : Int64 := (zf_for 8 (f_U_fittingKinds_1 M) (Int64.ofNat 18446744073709551615))
set_option maxRecDepth 20000 in
set_option maxHeartbeats 2000000 in
theorem s_U_fittingKinds (L e : Nat) (J : zJem) (d : Nat) (M : zMem) : zz_D (zm_U_fittingKinds, d + 2, 0, [some (.ref 4), none, none, none], []) (zt_T L, zt_R, M, J, e) = some (.inl (some (.long (v_U_fittingKinds M))), (zt_T L, zt_R, M, J, e)) := by
  unfold v_U_fittingKinds
  refine (zz_go 4 (fr' := (zm_U_fittingKinds, d + 2, 6, [some (.ref 4), some (.long (Int64.ofNat 18446744073709551615)), none, some (.int (0 : Int32))], [])) (h' := (zt_T L, zt_R, M, J, e)) (fun _ => rfl)).trans ?_
  refine zf_forD (X := fun (i1 : Nat) (a1 : Int64) => zz_D (zm_U_fittingKinds, d + 2, 6, [some (.ref 4), some (.long a1), none, some (.int (Int32.ofNat i1))], []) (zt_T L, zt_R, M, J, e)) (f := (f_U_fittingKinds_1 M)) (a := (Int64.ofNat 18446744073709551615)) 8 (fun i1 hi1 => ?_) ?_
  · intro hx1
    generalize zf_for i1 (f_U_fittingKinds_1 M) (Int64.ofNat 18446744073709551615) = a1 at hx1 ⊢
    show zz_D (zm_U_fittingKinds, d + 2, 6, [some (.ref 4), some (.long a1), none, some (.int (Int32.ofNat i1))], []) (zt_T L, zt_R, M, J, e) = _
    refine (zz_go 2 (fr' := (zm_U_fittingKinds, d + 2, 9, [some (.ref 4), some (.long a1), none, some (.int (Int32.ofNat i1))], [.int (8 : Int32), .int (Int32.ofNat i1)])) (h' := (zt_T L, zt_R, M, J, e)) (fun _ => rfl)).trans ?_
    refine zc_geF rfl (zi_ltc (n := 8) (by omega) (by decide)) ?_
    refine (zz_go 3 (fr' := (zm_U_fittingKinds, d + 2, 15, [some (.ref 4), some (.long a1), none, some (.int (Int32.ofNat i1))], [.ref 4, .int (Int32.ofNat i1), .long a1])) (h' := (zt_T L, zt_R, M, J, e)) (fun _ => rfl)).trans ?_
    refine zl_getR rfl rfl rfl ?_
    refine (zz_go 1 (fr' := (zm_U_fittingKinds, d + 2, 19, [some (.ref 4), some (.long a1), none, some (.int (Int32.ofNat i1))], [.int (Int32.ofNat i1), .ref 6, .int (Int32.ofNat i1), .long a1])) (h' := (zt_T L, zt_R, M, J, e)) (fun _ => rfl)).trans ?_
    refine zl_iaload rfl rfl (zi_in (by omega) (by decide)) (by rw [(zi_nat (by omega))] <;> exact rfl) ?_
    refine zl_st (d := d + 1) rfl rfl rfl rfl rfl rfl rfl (s_U_narrowed L e J (d + 0) a1 (Int32.ofNat i1) (M 6 i1)) ?_
    show zz_D (zm_U_fittingKinds, d + 2, 23, [some (.ref 4), some (.long a1), none, some (.int (Int32.ofNat i1))], [.long (v_U_narrowed a1 (Int32.ofNat i1) (M 6 i1))]) (zt_T L, zt_R, M, J, e) = _
    refine (zz_go 3 (fr' := (zm_U_fittingKinds, d + 2, 6, [some (.ref 4), some (.long (v_U_narrowed a1 (Int32.ofNat i1) (M 6 i1))), none, some (.int (Int32.ofNat i1 + 1))], [])) (h' := (zt_T L, zt_R, M, J, e)) (fun _ => rfl)).trans ?_
    rw [zi_succ i1]
    exact hx1
  show zz_D (zm_U_fittingKinds, d + 2, 6, [some (.ref 4), some (.long (zf_for 8 (f_U_fittingKinds_1 M) (Int64.ofNat 18446744073709551615))), none, some (.int (Int32.ofNat 8))], []) (zt_T L, zt_R, M, J, e) = _
  refine (zz_go 2 (fr' := (zm_U_fittingKinds, d + 2, 9, [some (.ref 4), some (.long (zf_for 8 (f_U_fittingKinds_1 M) (Int64.ofNat 18446744073709551615))), none, some (.int (Int32.ofNat 8))], [.int (8 : Int32), .int (Int32.ofNat 8)])) (h' := (zt_T L, zt_R, M, J, e)) (fun _ => rfl)).trans ?_
  refine zc_geT rfl (by decide) ?_
  refine zz_weak (L := [none, some (.long (zf_for 8 (f_U_fittingKinds_1 M) (Int64.ofNat 18446744073709551615))), none, none]) ⟨Or.inr ⟨rfl, rfl⟩, Or.inl rfl, Or.inl rfl, Or.inr ⟨rfl, rfl⟩, trivial⟩ ?_
  refine (zz_go 1 (fr' := (zm_U_fittingKinds, d + 2, 31, [none, some (.long (zf_for 8 (f_U_fittingKinds_1 M) (Int64.ofNat 18446744073709551615))), none, none], [.long (zf_for 8 (f_U_fittingKinds_1 M) (Int64.ofNat 18446744073709551615))])) (h' := (zt_T L, zt_R, M, J, e)) (fun _ => rfl)).trans ?_
  refine (zz_end 1 (r := (.inl (some (.long (zf_for 8 (f_U_fittingKinds_1 M) (Int64.ofNat 18446744073709551615)))), (zt_T L, zt_R, M, J, e))) (fun _ => rfl)).trans ?_
  rfl
def g_U_first_1 (y0 : Int64) (i1 : Nat) (a1 : Bool × Int32) : Bool × (Bool × Int32) := ((bif (decide ((64 : Int32) ≤ (Int32.ofNat i1))) then false else (decide ((lg_cmp ((zlu y0 (Int32.ofNat i1)) &&& (Int64.ofNat 1)) (Int64.ofNat 0)) = 0))), ((bif (decide ((64 : Int32) ≤ (Int32.ofNat i1))) then false else (bif (decide ((lg_cmp ((zlu y0 (Int32.ofNat i1)) &&& (Int64.ofNat 1)) (Int64.ofNat 0)) = 0)) then false else true)), (bif (decide ((64 : Int32) ≤ (Int32.ofNat i1))) then a1.2 else (bif (decide ((lg_cmp ((zlu y0 (Int32.ofNat i1)) &&& (Int64.ofNat 1)) (Int64.ofNat 0)) = 0)) then a1.2 else (Int32.ofNat i1)))))
def kb_U_first_1 (y0 : Int64) (i1 : Nat) (a1 : Bool × Int32) : Prop := True
def v_U_first (y0 : Int64) : Int32 := (bif (zf_wh 1000 (g_U_first_1 y0) 0 (false, 0)).1 then (zf_wh 1000 (g_U_first_1 y0) 0 (false, 0)).2 else (-1 : Int32))
def ok_U_first (y0 : Int64) : Prop := (zf_wk 1000 (g_U_first_1 y0) (kb_U_first_1 y0) 0 (false, 0))
set_option maxRecDepth 20000 in
set_option maxHeartbeats 2000000 in
theorem s_U_first (L e : Nat) (J : zJem) (d : Nat) {M : zMem} (y0 : Int64) (k0 : ok_U_first y0) : zz_D (zm_U_first, d + 1, 0, [some (.long y0), none, none], []) (zt_T L, zt_R, M, J, e) = some (.inl (some (.int (v_U_first y0))), (zt_T L, zt_R, M, J, e)) := by
  unfold ok_U_first at k0
  unfold v_U_first
  refine (zz_go 2 (fr' := (zm_U_first, d + 1, 2, [some (.long y0), none, some (.int (0 : Int32))], [])) (h' := (zt_T L, zt_R, M, J, e)) (fun _ => rfl)).trans ?_
  refine zf_whY (X := fun (i1 : Nat) (a1 : Bool × Int32) => zz_D (zm_U_first, d + 1, 2, [some (.long y0), none, some (.int (Int32.ofNat i1))], []) (zt_T L, zt_R, M, J, e)) (Y := fun (a1 : Bool × Int32) => (bif a1.1 then some (.inl (some (.int a1.2)), (zt_T L, zt_R, M, J, e)) else zz_D (zm_U_first, d + 1, 26, [some (.long y0), none, none], []) (zt_T L, zt_R, M, J, e))) (g := (g_U_first_1 y0)) (k := (kb_U_first_1 y0)) (fun i1 a1 k3 hx1 hx2 => ?_) 1000 0 (false, 0) k0 ?_
  · show zz_D (zm_U_first, d + 1, 2, [some (.long y0), none, some (.int (Int32.ofNat i1))], []) (zt_T L, zt_R, M, J, e) = _
    unfold kb_U_first_1 at k3
    refine (zz_go 2 (fr' := (zm_U_first, d + 1, 5, [some (.long y0), none, some (.int (Int32.ofNat i1))], [.int (64 : Int32), .int (Int32.ofNat i1)])) (h' := (zt_T L, zt_R, M, J, e)) (fun _ => rfl)).trans ?_
    rcases zz_bc (decide ((64 : Int32) ≤ (Int32.ofNat i1))) with h4 | h4
    · refine zc_geT rfl h4 ?_
      refine zz_weak (L := [some (.long y0), none, none]) ⟨Or.inl rfl, Or.inl rfl, Or.inr ⟨rfl, rfl⟩, trivial⟩ ?_
      have y1 := hx2 (by simp only [g_U_first_1, h4, zk_t, zk_f, zb_t, zb_f])
      simpa only [g_U_first_1, h4, zk_t, zk_f, zb_t, zb_f] using y1
    · refine zc_geF rfl h4 ?_
      refine (zz_go 7 (fr' := (zm_U_first, d + 1, 15, [some (.long y0), none, some (.int (Int32.ofNat i1))], [.int (lg_cmp ((zlu y0 (Int32.ofNat i1)) &&& (Int64.ofNat 1)) (Int64.ofNat 0))])) (h' := (zt_T L, zt_R, M, J, e)) (fun _ => rfl)).trans ?_
      rcases zz_bc (decide ((lg_cmp ((zlu y0 (Int32.ofNat i1)) &&& (Int64.ofNat 1)) (Int64.ofNat 0)) = 0)) with h5 | h5
      · refine zo_eqT rfl h5 ?_
        refine (zz_go 2 (fr' := (zm_U_first, d + 1, 2, [some (.long y0), none, some (.int (Int32.ofNat i1 + 1))], [])) (h' := (zt_T L, zt_R, M, J, e)) (fun _ => rfl)).trans ?_
        rw [zi_succ i1]
        have y1 := hx1 (by simp only [g_U_first_1, h4, h5, zk_t, zk_f, zb_t, zb_f])
        simpa only [g_U_first_1, h4, h5, zk_t, zk_f, zb_t, zb_f] using y1
      · refine zo_eqF rfl h5 ?_
        refine (zz_go 1 (fr' := (zm_U_first, d + 1, 19, [some (.long y0), none, some (.int (Int32.ofNat i1))], [.int (Int32.ofNat i1)])) (h' := (zt_T L, zt_R, M, J, e)) (fun _ => rfl)).trans ?_
        refine zl_retI rfl rfl ?_
        have y1 := hx2 (by simp only [g_U_first_1, h4, h5, zk_t, zk_f, zb_t, zb_f])
        simpa only [g_U_first_1, h4, h5, zk_t, zk_f, zb_t, zb_f] using y1
  show (bif (zf_wh 1000 (g_U_first_1 y0) 0 (false, 0)).1 then some (.inl (some (.int (zf_wh 1000 (g_U_first_1 y0) 0 (false, 0)).2)), (zt_T L, zt_R, M, J, e)) else zz_D (zm_U_first, d + 1, 26, [some (.long y0), none, none], []) (zt_T L, zt_R, M, J, e)) = _
  refine zz_ec (fun h6 => ?_) (fun h6 => ?_)
  · skip
    first | (simp only [h6, zk_t, zk_f, zb_t, zb_f]; done) | (simp only [h6, zk_t, zk_f, zb_t, zb_f]; rfl) | rfl
  refine (zz_go 1 (fr' := (zm_U_first, d + 1, 27, [some (.long y0), none, none], [.int (-1 : Int32)])) (h' := (zt_T L, zt_R, M, J, e)) (fun _ => rfl)).trans ?_
  refine zl_retI rfl rfl ?_
  first | (simp only [h6, zk_t, zk_f, zb_t, zb_f]; done) | (simp only [h6, zk_t, zk_f, zb_t, zb_f]; rfl) | rfl
def f_U_greatestPart_1 (y0 : Int64) (x1 : Int32) (i1 : Nat) (a1 : Int32) : Int32 := (v_jm_max a1 (v_jl_bitCount (v_U_narrowed y0 x1 (Int32.ofNat i1))))
def v_U_greatestPart (y0 : Int64) (x1 : Int32) : Int32 := (zf_for 8 (f_U_greatestPart_1 y0 x1) (0 : Int32))
set_option maxRecDepth 20000 in
set_option maxHeartbeats 2000000 in
theorem s_U_greatestPart (L e : Nat) (J : zJem) (d : Nat) {M : zMem} (y0 : Int64) (x1 : Int32) : zz_D (zm_U_greatestPart, d + 2, 0, [some (.long y0), none, some (.int x1), none, none], []) (zt_T L, zt_R, M, J, e) = some (.inl (some (.int (v_U_greatestPart y0 x1))), (zt_T L, zt_R, M, J, e)) := by
  unfold v_U_greatestPart
  refine (zz_go 4 (fr' := (zm_U_greatestPart, d + 2, 5, [some (.long y0), none, some (.int x1), some (.int (0 : Int32)), some (.int (0 : Int32))], [])) (h' := (zt_T L, zt_R, M, J, e)) (fun _ => rfl)).trans ?_
  refine zf_forD (X := fun (i1 : Nat) (a1 : Int32) => zz_D (zm_U_greatestPart, d + 2, 5, [some (.long y0), none, some (.int x1), some (.int a1), some (.int (Int32.ofNat i1))], []) (zt_T L, zt_R, M, J, e)) (f := (f_U_greatestPart_1 y0 x1)) (a := (0 : Int32)) 8 (fun i1 hi1 => ?_) ?_
  · intro hx1
    generalize zf_for i1 (f_U_greatestPart_1 y0 x1) (0 : Int32) = a1 at hx1 ⊢
    show zz_D (zm_U_greatestPart, d + 2, 5, [some (.long y0), none, some (.int x1), some (.int a1), some (.int (Int32.ofNat i1))], []) (zt_T L, zt_R, M, J, e) = _
    refine (zz_go 2 (fr' := (zm_U_greatestPart, d + 2, 9, [some (.long y0), none, some (.int x1), some (.int a1), some (.int (Int32.ofNat i1))], [.int (8 : Int32), .int (Int32.ofNat i1)])) (h' := (zt_T L, zt_R, M, J, e)) (fun _ => rfl)).trans ?_
    refine zc_geF rfl (zi_ltc (n := 8) (by omega) (by decide)) ?_
    refine (zz_go 4 (fr' := (zm_U_greatestPart, d + 2, 17, [some (.long y0), none, some (.int x1), some (.int a1), some (.int (Int32.ofNat i1))], [.int (Int32.ofNat i1), .int x1, .long y0, .int a1])) (h' := (zt_T L, zt_R, M, J, e)) (fun _ => rfl)).trans ?_
    refine zl_st (d := d + 1) rfl rfl rfl rfl rfl rfl rfl (s_U_narrowed L e J (d + 0) y0 x1 (Int32.ofNat i1)) ?_
    show zz_D (zm_U_greatestPart, d + 2, 20, [some (.long y0), none, some (.int x1), some (.int a1), some (.int (Int32.ofNat i1))], [.long (v_U_narrowed y0 x1 (Int32.ofNat i1)), .int a1]) (zt_T L, zt_R, M, J, e) = _
    refine zl_st (d := d + 1) rfl rfl rfl rfl rfl rfl rfl (s_jl_bitCount L e J (d + 0) (v_U_narrowed y0 x1 (Int32.ofNat i1))) ?_
    show zz_D (zm_U_greatestPart, d + 2, 23, [some (.long y0), none, some (.int x1), some (.int a1), some (.int (Int32.ofNat i1))], [.int (v_jl_bitCount (v_U_narrowed y0 x1 (Int32.ofNat i1))), .int a1]) (zt_T L, zt_R, M, J, e) = _
    refine zl_st (d := d + 1) rfl rfl rfl rfl rfl rfl rfl (s_jm_max L e J (d + 0) a1 (v_jl_bitCount (v_U_narrowed y0 x1 (Int32.ofNat i1)))) ?_
    show zz_D (zm_U_greatestPart, d + 2, 26, [some (.long y0), none, some (.int x1), some (.int a1), some (.int (Int32.ofNat i1))], [.int (v_jm_max a1 (v_jl_bitCount (v_U_narrowed y0 x1 (Int32.ofNat i1))))]) (zt_T L, zt_R, M, J, e) = _
    refine (zz_go 3 (fr' := (zm_U_greatestPart, d + 2, 5, [some (.long y0), none, some (.int x1), some (.int (v_jm_max a1 (v_jl_bitCount (v_U_narrowed y0 x1 (Int32.ofNat i1))))), some (.int (Int32.ofNat i1 + 1))], [])) (h' := (zt_T L, zt_R, M, J, e)) (fun _ => rfl)).trans ?_
    rw [zi_succ i1]
    exact hx1
  show zz_D (zm_U_greatestPart, d + 2, 5, [some (.long y0), none, some (.int x1), some (.int (zf_for 8 (f_U_greatestPart_1 y0 x1) (0 : Int32))), some (.int (Int32.ofNat 8))], []) (zt_T L, zt_R, M, J, e) = _
  refine (zz_go 2 (fr' := (zm_U_greatestPart, d + 2, 9, [some (.long y0), none, some (.int x1), some (.int (zf_for 8 (f_U_greatestPart_1 y0 x1) (0 : Int32))), some (.int (Int32.ofNat 8))], [.int (8 : Int32), .int (Int32.ofNat 8)])) (h' := (zt_T L, zt_R, M, J, e)) (fun _ => rfl)).trans ?_
  refine zc_geT rfl (by decide) ?_
  refine zz_weak (L := [some (.long y0), none, none, some (.int (zf_for 8 (f_U_greatestPart_1 y0 x1) (0 : Int32))), none]) ⟨Or.inl rfl, Or.inl rfl, Or.inr ⟨rfl, rfl⟩, Or.inl rfl, Or.inr ⟨rfl, rfl⟩, trivial⟩ ?_
  refine (zz_go 1 (fr' := (zm_U_greatestPart, d + 2, 34, [some (.long y0), none, none, some (.int (zf_for 8 (f_U_greatestPart_1 y0 x1) (0 : Int32))), none], [.int (zf_for 8 (f_U_greatestPart_1 y0 x1) (0 : Int32))])) (h' := (zt_T L, zt_R, M, J, e)) (fun _ => rfl)).trans ?_
  refine zl_retI rfl rfl ?_
  rfl
def f_U_bestQuestion_1 (y0 : Int64) (i1 : Nat) (a1 : Int32 × Int32) : Int32 × Int32 := ((bif (decide (a1.2 ≤ (v_U_greatestPart y0 (Int32.ofNat i1)))) then a1.1 else (Int32.ofNat i1)), (bif (decide (a1.2 ≤ (v_U_greatestPart y0 (Int32.ofNat i1)))) then a1.2 else (v_U_greatestPart y0 (Int32.ofNat i1))))
def v_U_bestQuestion (y0 : Int64) : Int32 := (bif (decide ((2 : Int32) ≤ (v_jl_bitCount y0))) then (zf_for 8 (f_U_bestQuestion_1 y0) ((-1 : Int32), (65 : Int32))).1 else (-1 : Int32))
set_option maxRecDepth 20000 in
set_option maxHeartbeats 2000000 in
theorem s_U_bestQuestion (L e : Nat) (J : zJem) (d : Nat) {M : zMem} (y0 : Int64) : zz_D (zm_U_bestQuestion, d + 3, 0, [some (.long y0), none, none, none, none, none], []) (zt_T L, zt_R, M, J, e) = some (.inl (some (.int (v_U_bestQuestion y0))), (zt_T L, zt_R, M, J, e)) := by
  unfold v_U_bestQuestion
  refine (zz_go 1 (fr' := (zm_U_bestQuestion, d + 3, 1, [some (.long y0), none, none, none, none, none], [.long y0])) (h' := (zt_T L, zt_R, M, J, e)) (fun _ => rfl)).trans ?_
  refine zl_st (d := d + 2) rfl rfl rfl rfl rfl rfl rfl (s_jl_bitCount L e J (d + 1) y0) ?_
  show zz_D (zm_U_bestQuestion, d + 3, 4, [some (.long y0), none, none, none, none, none], [.int (v_jl_bitCount y0)]) (zt_T L, zt_R, M, J, e) = _
  refine (zz_go 1 (fr' := (zm_U_bestQuestion, d + 3, 5, [some (.long y0), none, none, none, none, none], [.int (2 : Int32), .int (v_jl_bitCount y0)])) (h' := (zt_T L, zt_R, M, J, e)) (fun _ => rfl)).trans ?_
  rcases zz_bc (decide ((2 : Int32) ≤ (v_jl_bitCount y0))) with h1 | h1
  · refine zc_geT rfl h1 ?_
    refine (zz_go 6 (fr' := (zm_U_bestQuestion, d + 3, 18, [some (.long y0), none, some (.int (-1 : Int32)), some (.int (65 : Int32)), some (.int (0 : Int32)), none], [])) (h' := (zt_T L, zt_R, M, J, e)) (fun _ => rfl)).trans ?_
    refine zf_forD (X := fun (i1 : Nat) (a1 : Int32 × Int32) => zz_D (zm_U_bestQuestion, d + 3, 18, [some (.long y0), none, some (.int a1.1), some (.int a1.2), some (.int (Int32.ofNat i1)), none], []) (zt_T L, zt_R, M, J, e)) (f := (f_U_bestQuestion_1 y0)) (a := ((-1 : Int32), (65 : Int32))) 8 (fun i1 hi1 => ?_) ?_
    · intro hx2
      generalize zf_for i1 (f_U_bestQuestion_1 y0) ((-1 : Int32), (65 : Int32)) = a1 at hx2 ⊢
      show zz_D (zm_U_bestQuestion, d + 3, 18, [some (.long y0), none, some (.int a1.1), some (.int a1.2), some (.int (Int32.ofNat i1)), none], []) (zt_T L, zt_R, M, J, e) = _
      refine (zz_go 2 (fr' := (zm_U_bestQuestion, d + 3, 22, [some (.long y0), none, some (.int a1.1), some (.int a1.2), some (.int (Int32.ofNat i1)), none], [.int (8 : Int32), .int (Int32.ofNat i1)])) (h' := (zt_T L, zt_R, M, J, e)) (fun _ => rfl)).trans ?_
      refine zc_geF rfl (zi_ltc (n := 8) (by omega) (by decide)) ?_
      refine (zz_go 2 (fr' := (zm_U_bestQuestion, d + 3, 28, [some (.long y0), none, some (.int a1.1), some (.int a1.2), some (.int (Int32.ofNat i1)), none], [.int (Int32.ofNat i1), .long y0])) (h' := (zt_T L, zt_R, M, J, e)) (fun _ => rfl)).trans ?_
      refine zl_st (d := d + 2) rfl rfl rfl rfl rfl rfl rfl (s_U_greatestPart L e J (d + 0) y0 (Int32.ofNat i1)) ?_
      show zz_D (zm_U_bestQuestion, d + 3, 31, [some (.long y0), none, some (.int a1.1), some (.int a1.2), some (.int (Int32.ofNat i1)), none], [.int (v_U_greatestPart y0 (Int32.ofNat i1))]) (zt_T L, zt_R, M, J, e) = _
      refine zz_jn (X := zz_D (zm_U_bestQuestion, d + 3, 45, [some (.long y0), none, some (.int (bif (decide (a1.2 ≤ (v_U_greatestPart y0 (Int32.ofNat i1)))) then a1.1 else (Int32.ofNat i1))), some (.int (bif (decide (a1.2 ≤ (v_U_greatestPart y0 (Int32.ofNat i1)))) then a1.2 else (v_U_greatestPart y0 (Int32.ofNat i1)))), some (.int (Int32.ofNat i1)), none], []) (zt_T L, zt_R, M, J, e)) (fun j4 => ?_) ?_
      · refine (zz_go 3 (fr' := (zm_U_bestQuestion, d + 3, 36, [some (.long y0), none, some (.int a1.1), some (.int a1.2), some (.int (Int32.ofNat i1)), some (.int (v_U_greatestPart y0 (Int32.ofNat i1)))], [.int a1.2, .int (v_U_greatestPart y0 (Int32.ofNat i1))])) (h' := (zt_T L, zt_R, M, J, e)) (fun _ => rfl)).trans ?_
        rcases zz_bc (decide (a1.2 ≤ (v_U_greatestPart y0 (Int32.ofNat i1)))) with h5 | h5
        · refine zc_geT rfl h5 ?_
          refine zz_weak (L := [some (.long y0), none, some (.int a1.1), some (.int a1.2), some (.int (Int32.ofNat i1)), none]) ⟨Or.inl rfl, Or.inl rfl, Or.inl rfl, Or.inl rfl, Or.inl rfl, Or.inr ⟨rfl, rfl⟩, trivial⟩ ?_
          simpa only [h5, zk_t, zk_f, zb_t, zb_f] using j4
        · refine zc_geF rfl h5 ?_
          refine (zz_go 4 (fr' := (zm_U_bestQuestion, d + 3, 45, [some (.long y0), none, some (.int (Int32.ofNat i1)), some (.int (v_U_greatestPart y0 (Int32.ofNat i1))), some (.int (Int32.ofNat i1)), some (.int (v_U_greatestPart y0 (Int32.ofNat i1)))], [])) (h' := (zt_T L, zt_R, M, J, e)) (fun _ => rfl)).trans ?_
          refine zz_weak (L := [some (.long y0), none, some (.int (Int32.ofNat i1)), some (.int (v_U_greatestPart y0 (Int32.ofNat i1))), some (.int (Int32.ofNat i1)), none]) ⟨Or.inl rfl, Or.inl rfl, Or.inl rfl, Or.inl rfl, Or.inl rfl, Or.inr ⟨rfl, rfl⟩, trivial⟩ ?_
          simpa only [h5, zk_t, zk_f, zb_t, zb_f] using j4
      refine (zz_go 2 (fr' := (zm_U_bestQuestion, d + 3, 18, [some (.long y0), none, some (.int (bif (decide (a1.2 ≤ (v_U_greatestPart y0 (Int32.ofNat i1)))) then a1.1 else (Int32.ofNat i1))), some (.int (bif (decide (a1.2 ≤ (v_U_greatestPart y0 (Int32.ofNat i1)))) then a1.2 else (v_U_greatestPart y0 (Int32.ofNat i1)))), some (.int (Int32.ofNat i1 + 1)), none], [])) (h' := (zt_T L, zt_R, M, J, e)) (fun _ => rfl)).trans ?_
      rw [zi_succ i1]
      simpa only [f_U_bestQuestion_1] using hx2
    show zz_D (zm_U_bestQuestion, d + 3, 18, [some (.long y0), none, some (.int (zf_for 8 (f_U_bestQuestion_1 y0) ((-1 : Int32), (65 : Int32))).1), some (.int (zf_for 8 (f_U_bestQuestion_1 y0) ((-1 : Int32), (65 : Int32))).2), some (.int (Int32.ofNat 8)), none], []) (zt_T L, zt_R, M, J, e) = _
    refine (zz_go 2 (fr' := (zm_U_bestQuestion, d + 3, 22, [some (.long y0), none, some (.int (zf_for 8 (f_U_bestQuestion_1 y0) ((-1 : Int32), (65 : Int32))).1), some (.int (zf_for 8 (f_U_bestQuestion_1 y0) ((-1 : Int32), (65 : Int32))).2), some (.int (Int32.ofNat 8)), none], [.int (8 : Int32), .int (Int32.ofNat 8)])) (h' := (zt_T L, zt_R, M, J, e)) (fun _ => rfl)).trans ?_
    refine zc_geT rfl (by decide) ?_
    refine zz_weak (L := [some (.long y0), none, some (.int (zf_for 8 (f_U_bestQuestion_1 y0) ((-1 : Int32), (65 : Int32))).1), none, none, none]) ⟨Or.inl rfl, Or.inl rfl, Or.inl rfl, Or.inr ⟨rfl, rfl⟩, Or.inr ⟨rfl, rfl⟩, Or.inl rfl, trivial⟩ ?_
    refine (zz_go 1 (fr' := (zm_U_bestQuestion, d + 3, 52, [some (.long y0), none, some (.int (zf_for 8 (f_U_bestQuestion_1 y0) ((-1 : Int32), (65 : Int32))).1), none, none, none], [.int (zf_for 8 (f_U_bestQuestion_1 y0) ((-1 : Int32), (65 : Int32))).1])) (h' := (zt_T L, zt_R, M, J, e)) (fun _ => rfl)).trans ?_
    refine zl_retI rfl rfl ?_
    first | (simp only [h1, zk_t, zk_f, zb_t, zb_f]; done) | (simp only [h1, zk_t, zk_f, zb_t, zb_f]; rfl) | rfl
  · refine zc_geF rfl h1 ?_
    refine (zz_go 1 (fr' := (zm_U_bestQuestion, d + 3, 9, [some (.long y0), none, none, none, none, none], [.int (-1 : Int32)])) (h' := (zt_T L, zt_R, M, J, e)) (fun _ => rfl)).trans ?_
    refine zl_retI rfl rfl ?_
    first | (simp only [h1, zk_t, zk_f, zb_t, zb_f]; done) | (simp only [h1, zk_t, zk_f, zb_t, zb_f]; rfl) | rfl
def w_S_copyFrom (M : zMem) (s : Nat) (r : Nat) : zMem := (zy_l (zy_l (zy_l (zy_l (zy_l (zy_l (zy_l (zy_l (zy_l (zy_l (zy_l (zy_l (zy_l (zy_l (zy_l (zy_l (zz_row (zz_row M (s + 1) (M (r + 1))) (s + 2) ((zz_row M (s + 1) (M (r + 1))) (r + 2))) (fun N => (zz_row N (s + 3) (N (r + 3))))) (fun N => (zz_row N (s + 4) (N (r + 4))))) (fun N => (zz_row N (s + 5) (N (r + 5))))) (fun N => (zz_row N (s + 6) (N (r + 6))))) (fun N => (zz_row N (s + 7) (N (r + 7))))) (fun N => (zz_row N (s + 8) (N (r + 8))))) (fun N => (zz_row N (s + 9) (N (r + 9))))) (fun N => (zz_row N (s + 10) (N (r + 10))))) (fun N => (zz_up N s 10 (N r 10)))) (fun N => (zz_up N s 11 (N r 11)))) (fun N => (zz_up N s 12 (N r 12)))) (fun N => (zz_up N s 13 (N r 13)))) (fun N => (zz_up N s 14 (N r 14)))) (fun N => (zz_up N s 15 (N r 15)))) (fun N => (zz_up N s 16 (N r 16)))) (fun N => (zz_up N s 17 (N r 17))))
set_option maxRecDepth 20000 in
set_option maxHeartbeats 2000000 in
theorem s_S_copyFrom (L e : Nat) (J : zJem) (d : Nat) (M : zMem) (s : Nat) (r : Nat) (hs : zt_St s) (hr : zt_St r) : zz_D (zm_S_copyFrom, d + 8, 0, [some (.ref s), some (.ref r)], []) (zt_T L, zt_R, M, J, e) = some (.inl (none), (zt_T L, zt_R, (w_S_copyFrom M s r), J, e)) := by
  unfold w_S_copyFrom
  refine (zz_go 1 (fr' := (zm_S_copyFrom, d + 8, 1, [some (.ref s), some (.ref r)], [.ref r])) (h' := (zt_T L, zt_R, M, J, e)) (fun _ => rfl)).trans ?_
  refine zl_getR rfl (zt_St0 L hr) (zt_StR0 hr) ?_
  refine (zz_go 2 (fr' := (zm_S_copyFrom, d + 8, 6, [some (.ref s), some (.ref r)], [.ref s, .int (0 : Int32), .ref (r + 1)])) (h' := (zt_T L, zt_R, M, J, e)) (fun _ => rfl)).trans ?_
  refine zl_getR rfl (zt_St0 L hs) (zt_StR0 hs) ?_
  refine (zz_go 2 (fr' := (zm_S_copyFrom, d + 8, 12, [some (.ref s), some (.ref r)], [.int (8 : Int32), .int (0 : Int32), .ref (s + 1), .int (0 : Int32), .ref (r + 1)])) (h' := (zt_T L, zt_R, M, J, e)) (fun _ => rfl)).trans ?_
  refine zl_copy rfl (zt_St1 L hr) (zt_St1 L hs) rfl rfl rfl (zt_Stp hr 1) (zt_Stp hs 1) rfl ?_
  refine (zz_go 1 (fr' := (zm_S_copyFrom, d + 8, 16, [some (.ref s), some (.ref r)], [.ref r])) (h' := (zt_T L, zt_R, (zz_row M (s + 1) (M (r + 1))), J, e)) (fun _ => rfl)).trans ?_
  refine zl_getR rfl (zt_St0 L hr) (zt_StR1 hr) ?_
  refine (zz_go 2 (fr' := (zm_S_copyFrom, d + 8, 21, [some (.ref s), some (.ref r)], [.ref s, .int (0 : Int32), .ref (r + 2)])) (h' := (zt_T L, zt_R, (zz_row M (s + 1) (M (r + 1))), J, e)) (fun _ => rfl)).trans ?_
  refine zl_getR rfl (zt_St0 L hs) (zt_StR1 hs) ?_
  refine (zz_go 2 (fr' := (zm_S_copyFrom, d + 8, 27, [some (.ref s), some (.ref r)], [.int (8 : Int32), .int (0 : Int32), .ref (s + 2), .int (0 : Int32), .ref (r + 2)])) (h' := (zt_T L, zt_R, (zz_row M (s + 1) (M (r + 1))), J, e)) (fun _ => rfl)).trans ?_
  refine zl_copy rfl (zt_St2 L hr) (zt_St2 L hs) rfl rfl rfl (zt_Stp hr 2) (zt_Stp hs 2) rfl ?_
  refine (zz_go 1 (fr' := (zm_S_copyFrom, d + 8, 31, [some (.ref s), some (.ref r)], [.ref r])) (h' := (zt_T L, zt_R, (zz_row (zz_row M (s + 1) (M (r + 1))) (s + 2) ((zz_row M (s + 1) (M (r + 1))) (r + 2))), J, e)) (fun _ => rfl)).trans ?_
  refine zl_getR rfl (zt_St0 L hr) (zt_StR2 hr) ?_
  refine (zz_go 2 (fr' := (zm_S_copyFrom, d + 8, 36, [some (.ref s), some (.ref r)], [.ref s, .int (0 : Int32), .ref (r + 3)])) (h' := (zt_T L, zt_R, (zz_row (zz_row M (s + 1) (M (r + 1))) (s + 2) ((zz_row M (s + 1) (M (r + 1))) (r + 2))), J, e)) (fun _ => rfl)).trans ?_
  refine zl_getR rfl (zt_St0 L hs) (zt_StR2 hs) ?_
  refine (zz_go 2 (fr' := (zm_S_copyFrom, d + 8, 42, [some (.ref s), some (.ref r)], [.int (8 : Int32), .int (0 : Int32), .ref (s + 3), .int (0 : Int32), .ref (r + 3)])) (h' := (zt_T L, zt_R, (zz_row (zz_row M (s + 1) (M (r + 1))) (s + 2) ((zz_row M (s + 1) (M (r + 1))) (r + 2))), J, e)) (fun _ => rfl)).trans ?_
  refine zl_copy rfl (zt_St3 L hr) (zt_St3 L hs) rfl rfl rfl (zt_Stp hr 3) (zt_Stp hs 3) rfl ?_
  refine (zz_go 1 (fr' := (zm_S_copyFrom, d + 8, 46, [some (.ref s), some (.ref r)], [.ref r])) (h' := (zt_T L, zt_R, (zy_l (zz_row (zz_row M (s + 1) (M (r + 1))) (s + 2) ((zz_row M (s + 1) (M (r + 1))) (r + 2))) (fun N => (zz_row N (s + 3) (N (r + 3))))), J, e)) (fun _ => rfl)).trans ?_
  refine zl_getR rfl (zt_St0 L hr) (zt_StR3 hr) ?_
  refine (zz_go 2 (fr' := (zm_S_copyFrom, d + 8, 51, [some (.ref s), some (.ref r)], [.ref s, .int (0 : Int32), .ref (r + 4)])) (h' := (zt_T L, zt_R, (zy_l (zz_row (zz_row M (s + 1) (M (r + 1))) (s + 2) ((zz_row M (s + 1) (M (r + 1))) (r + 2))) (fun N => (zz_row N (s + 3) (N (r + 3))))), J, e)) (fun _ => rfl)).trans ?_
  refine zl_getR rfl (zt_St0 L hs) (zt_StR3 hs) ?_
  refine (zz_go 2 (fr' := (zm_S_copyFrom, d + 8, 57, [some (.ref s), some (.ref r)], [.int (6 : Int32), .int (0 : Int32), .ref (s + 4), .int (0 : Int32), .ref (r + 4)])) (h' := (zt_T L, zt_R, (zy_l (zz_row (zz_row M (s + 1) (M (r + 1))) (s + 2) ((zz_row M (s + 1) (M (r + 1))) (r + 2))) (fun N => (zz_row N (s + 3) (N (r + 3))))), J, e)) (fun _ => rfl)).trans ?_
  refine zl_copy rfl (zt_St4 L hr) (zt_St4 L hs) rfl rfl rfl (zt_Stp hr 4) (zt_Stp hs 4) rfl ?_
  refine (zz_go 1 (fr' := (zm_S_copyFrom, d + 8, 61, [some (.ref s), some (.ref r)], [.ref r])) (h' := (zt_T L, zt_R, (zy_l (zy_l (zz_row (zz_row M (s + 1) (M (r + 1))) (s + 2) ((zz_row M (s + 1) (M (r + 1))) (r + 2))) (fun N => (zz_row N (s + 3) (N (r + 3))))) (fun N => (zz_row N (s + 4) (N (r + 4))))), J, e)) (fun _ => rfl)).trans ?_
  refine zl_getR rfl (zt_St0 L hr) (zt_StR4 hr) ?_
  refine (zz_go 2 (fr' := (zm_S_copyFrom, d + 8, 66, [some (.ref s), some (.ref r)], [.ref s, .int (0 : Int32), .ref (r + 5)])) (h' := (zt_T L, zt_R, (zy_l (zy_l (zz_row (zz_row M (s + 1) (M (r + 1))) (s + 2) ((zz_row M (s + 1) (M (r + 1))) (r + 2))) (fun N => (zz_row N (s + 3) (N (r + 3))))) (fun N => (zz_row N (s + 4) (N (r + 4))))), J, e)) (fun _ => rfl)).trans ?_
  refine zl_getR rfl (zt_St0 L hs) (zt_StR4 hs) ?_
  refine (zz_go 2 (fr' := (zm_S_copyFrom, d + 8, 72, [some (.ref s), some (.ref r)], [.int (6 : Int32), .int (0 : Int32), .ref (s + 5), .int (0 : Int32), .ref (r + 5)])) (h' := (zt_T L, zt_R, (zy_l (zy_l (zz_row (zz_row M (s + 1) (M (r + 1))) (s + 2) ((zz_row M (s + 1) (M (r + 1))) (r + 2))) (fun N => (zz_row N (s + 3) (N (r + 3))))) (fun N => (zz_row N (s + 4) (N (r + 4))))), J, e)) (fun _ => rfl)).trans ?_
  refine zl_copy rfl (zt_St5 L hr) (zt_St5 L hs) rfl rfl rfl (zt_Stp hr 5) (zt_Stp hs 5) rfl ?_
  refine (zz_go 1 (fr' := (zm_S_copyFrom, d + 8, 76, [some (.ref s), some (.ref r)], [.ref r])) (h' := (zt_T L, zt_R, (zy_l (zy_l (zy_l (zz_row (zz_row M (s + 1) (M (r + 1))) (s + 2) ((zz_row M (s + 1) (M (r + 1))) (r + 2))) (fun N => (zz_row N (s + 3) (N (r + 3))))) (fun N => (zz_row N (s + 4) (N (r + 4))))) (fun N => (zz_row N (s + 5) (N (r + 5))))), J, e)) (fun _ => rfl)).trans ?_
  refine zl_getR rfl (zt_St0 L hr) (zt_StR5 hr) ?_
  refine (zz_go 2 (fr' := (zm_S_copyFrom, d + 8, 81, [some (.ref s), some (.ref r)], [.ref s, .int (0 : Int32), .ref (r + 6)])) (h' := (zt_T L, zt_R, (zy_l (zy_l (zy_l (zz_row (zz_row M (s + 1) (M (r + 1))) (s + 2) ((zz_row M (s + 1) (M (r + 1))) (r + 2))) (fun N => (zz_row N (s + 3) (N (r + 3))))) (fun N => (zz_row N (s + 4) (N (r + 4))))) (fun N => (zz_row N (s + 5) (N (r + 5))))), J, e)) (fun _ => rfl)).trans ?_
  refine zl_getR rfl (zt_St0 L hs) (zt_StR5 hs) ?_
  refine (zz_go 2 (fr' := (zm_S_copyFrom, d + 8, 87, [some (.ref s), some (.ref r)], [.int (6 : Int32), .int (0 : Int32), .ref (s + 6), .int (0 : Int32), .ref (r + 6)])) (h' := (zt_T L, zt_R, (zy_l (zy_l (zy_l (zz_row (zz_row M (s + 1) (M (r + 1))) (s + 2) ((zz_row M (s + 1) (M (r + 1))) (r + 2))) (fun N => (zz_row N (s + 3) (N (r + 3))))) (fun N => (zz_row N (s + 4) (N (r + 4))))) (fun N => (zz_row N (s + 5) (N (r + 5))))), J, e)) (fun _ => rfl)).trans ?_
  refine zl_copy rfl (zt_St6 L hr) (zt_St6 L hs) rfl rfl rfl (zt_Stp hr 6) (zt_Stp hs 6) rfl ?_
  refine (zz_go 1 (fr' := (zm_S_copyFrom, d + 8, 91, [some (.ref s), some (.ref r)], [.ref r])) (h' := (zt_T L, zt_R, (zy_l (zy_l (zy_l (zy_l (zz_row (zz_row M (s + 1) (M (r + 1))) (s + 2) ((zz_row M (s + 1) (M (r + 1))) (r + 2))) (fun N => (zz_row N (s + 3) (N (r + 3))))) (fun N => (zz_row N (s + 4) (N (r + 4))))) (fun N => (zz_row N (s + 5) (N (r + 5))))) (fun N => (zz_row N (s + 6) (N (r + 6))))), J, e)) (fun _ => rfl)).trans ?_
  refine zl_getR rfl (zt_St0 L hr) (zt_StR6 hr) ?_
  refine (zz_go 2 (fr' := (zm_S_copyFrom, d + 8, 96, [some (.ref s), some (.ref r)], [.ref s, .int (0 : Int32), .ref (r + 7)])) (h' := (zt_T L, zt_R, (zy_l (zy_l (zy_l (zy_l (zz_row (zz_row M (s + 1) (M (r + 1))) (s + 2) ((zz_row M (s + 1) (M (r + 1))) (r + 2))) (fun N => (zz_row N (s + 3) (N (r + 3))))) (fun N => (zz_row N (s + 4) (N (r + 4))))) (fun N => (zz_row N (s + 5) (N (r + 5))))) (fun N => (zz_row N (s + 6) (N (r + 6))))), J, e)) (fun _ => rfl)).trans ?_
  refine zl_getR rfl (zt_St0 L hs) (zt_StR6 hs) ?_
  refine (zz_go 2 (fr' := (zm_S_copyFrom, d + 8, 102, [some (.ref s), some (.ref r)], [.int (6 : Int32), .int (0 : Int32), .ref (s + 7), .int (0 : Int32), .ref (r + 7)])) (h' := (zt_T L, zt_R, (zy_l (zy_l (zy_l (zy_l (zz_row (zz_row M (s + 1) (M (r + 1))) (s + 2) ((zz_row M (s + 1) (M (r + 1))) (r + 2))) (fun N => (zz_row N (s + 3) (N (r + 3))))) (fun N => (zz_row N (s + 4) (N (r + 4))))) (fun N => (zz_row N (s + 5) (N (r + 5))))) (fun N => (zz_row N (s + 6) (N (r + 6))))), J, e)) (fun _ => rfl)).trans ?_
  refine zl_copy rfl (zt_St7 L hr) (zt_St7 L hs) rfl rfl rfl (zt_Stp hr 7) (zt_Stp hs 7) rfl ?_
  refine (zz_go 1 (fr' := (zm_S_copyFrom, d + 8, 106, [some (.ref s), some (.ref r)], [.ref r])) (h' := (zt_T L, zt_R, (zy_l (zy_l (zy_l (zy_l (zy_l (zz_row (zz_row M (s + 1) (M (r + 1))) (s + 2) ((zz_row M (s + 1) (M (r + 1))) (r + 2))) (fun N => (zz_row N (s + 3) (N (r + 3))))) (fun N => (zz_row N (s + 4) (N (r + 4))))) (fun N => (zz_row N (s + 5) (N (r + 5))))) (fun N => (zz_row N (s + 6) (N (r + 6))))) (fun N => (zz_row N (s + 7) (N (r + 7))))), J, e)) (fun _ => rfl)).trans ?_
  refine zl_getR rfl (zt_St0 L hr) (zt_StR7 hr) ?_
  refine (zz_go 2 (fr' := (zm_S_copyFrom, d + 8, 111, [some (.ref s), some (.ref r)], [.ref s, .int (0 : Int32), .ref (r + 8)])) (h' := (zt_T L, zt_R, (zy_l (zy_l (zy_l (zy_l (zy_l (zz_row (zz_row M (s + 1) (M (r + 1))) (s + 2) ((zz_row M (s + 1) (M (r + 1))) (r + 2))) (fun N => (zz_row N (s + 3) (N (r + 3))))) (fun N => (zz_row N (s + 4) (N (r + 4))))) (fun N => (zz_row N (s + 5) (N (r + 5))))) (fun N => (zz_row N (s + 6) (N (r + 6))))) (fun N => (zz_row N (s + 7) (N (r + 7))))), J, e)) (fun _ => rfl)).trans ?_
  refine zl_getR rfl (zt_St0 L hs) (zt_StR7 hs) ?_
  refine (zz_go 2 (fr' := (zm_S_copyFrom, d + 8, 117, [some (.ref s), some (.ref r)], [.int (6 : Int32), .int (0 : Int32), .ref (s + 8), .int (0 : Int32), .ref (r + 8)])) (h' := (zt_T L, zt_R, (zy_l (zy_l (zy_l (zy_l (zy_l (zz_row (zz_row M (s + 1) (M (r + 1))) (s + 2) ((zz_row M (s + 1) (M (r + 1))) (r + 2))) (fun N => (zz_row N (s + 3) (N (r + 3))))) (fun N => (zz_row N (s + 4) (N (r + 4))))) (fun N => (zz_row N (s + 5) (N (r + 5))))) (fun N => (zz_row N (s + 6) (N (r + 6))))) (fun N => (zz_row N (s + 7) (N (r + 7))))), J, e)) (fun _ => rfl)).trans ?_
  refine zl_copy rfl (zt_St8 L hr) (zt_St8 L hs) rfl rfl rfl (zt_Stp hr 8) (zt_Stp hs 8) rfl ?_
  refine (zz_go 1 (fr' := (zm_S_copyFrom, d + 8, 121, [some (.ref s), some (.ref r)], [.ref r])) (h' := (zt_T L, zt_R, (zy_l (zy_l (zy_l (zy_l (zy_l (zy_l (zz_row (zz_row M (s + 1) (M (r + 1))) (s + 2) ((zz_row M (s + 1) (M (r + 1))) (r + 2))) (fun N => (zz_row N (s + 3) (N (r + 3))))) (fun N => (zz_row N (s + 4) (N (r + 4))))) (fun N => (zz_row N (s + 5) (N (r + 5))))) (fun N => (zz_row N (s + 6) (N (r + 6))))) (fun N => (zz_row N (s + 7) (N (r + 7))))) (fun N => (zz_row N (s + 8) (N (r + 8))))), J, e)) (fun _ => rfl)).trans ?_
  refine zl_getR rfl (zt_St0 L hr) (zt_StR8 hr) ?_
  refine (zz_go 2 (fr' := (zm_S_copyFrom, d + 8, 126, [some (.ref s), some (.ref r)], [.ref s, .int (0 : Int32), .ref (r + 9)])) (h' := (zt_T L, zt_R, (zy_l (zy_l (zy_l (zy_l (zy_l (zy_l (zz_row (zz_row M (s + 1) (M (r + 1))) (s + 2) ((zz_row M (s + 1) (M (r + 1))) (r + 2))) (fun N => (zz_row N (s + 3) (N (r + 3))))) (fun N => (zz_row N (s + 4) (N (r + 4))))) (fun N => (zz_row N (s + 5) (N (r + 5))))) (fun N => (zz_row N (s + 6) (N (r + 6))))) (fun N => (zz_row N (s + 7) (N (r + 7))))) (fun N => (zz_row N (s + 8) (N (r + 8))))), J, e)) (fun _ => rfl)).trans ?_
  refine zl_getR rfl (zt_St0 L hs) (zt_StR8 hs) ?_
  refine (zz_go 2 (fr' := (zm_S_copyFrom, d + 8, 132, [some (.ref s), some (.ref r)], [.int (6 : Int32), .int (0 : Int32), .ref (s + 9), .int (0 : Int32), .ref (r + 9)])) (h' := (zt_T L, zt_R, (zy_l (zy_l (zy_l (zy_l (zy_l (zy_l (zz_row (zz_row M (s + 1) (M (r + 1))) (s + 2) ((zz_row M (s + 1) (M (r + 1))) (r + 2))) (fun N => (zz_row N (s + 3) (N (r + 3))))) (fun N => (zz_row N (s + 4) (N (r + 4))))) (fun N => (zz_row N (s + 5) (N (r + 5))))) (fun N => (zz_row N (s + 6) (N (r + 6))))) (fun N => (zz_row N (s + 7) (N (r + 7))))) (fun N => (zz_row N (s + 8) (N (r + 8))))), J, e)) (fun _ => rfl)).trans ?_
  refine zl_copy rfl (zt_St9 L hr) (zt_St9 L hs) rfl rfl rfl (zt_Stp hr 9) (zt_Stp hs 9) rfl ?_
  refine (zz_go 1 (fr' := (zm_S_copyFrom, d + 8, 136, [some (.ref s), some (.ref r)], [.ref r])) (h' := (zt_T L, zt_R, (zy_l (zy_l (zy_l (zy_l (zy_l (zy_l (zy_l (zz_row (zz_row M (s + 1) (M (r + 1))) (s + 2) ((zz_row M (s + 1) (M (r + 1))) (r + 2))) (fun N => (zz_row N (s + 3) (N (r + 3))))) (fun N => (zz_row N (s + 4) (N (r + 4))))) (fun N => (zz_row N (s + 5) (N (r + 5))))) (fun N => (zz_row N (s + 6) (N (r + 6))))) (fun N => (zz_row N (s + 7) (N (r + 7))))) (fun N => (zz_row N (s + 8) (N (r + 8))))) (fun N => (zz_row N (s + 9) (N (r + 9))))), J, e)) (fun _ => rfl)).trans ?_
  refine zl_getR rfl (zt_St0 L hr) (zt_StR9 hr) ?_
  refine (zz_go 2 (fr' := (zm_S_copyFrom, d + 8, 141, [some (.ref s), some (.ref r)], [.ref s, .int (0 : Int32), .ref (r + 10)])) (h' := (zt_T L, zt_R, (zy_l (zy_l (zy_l (zy_l (zy_l (zy_l (zy_l (zz_row (zz_row M (s + 1) (M (r + 1))) (s + 2) ((zz_row M (s + 1) (M (r + 1))) (r + 2))) (fun N => (zz_row N (s + 3) (N (r + 3))))) (fun N => (zz_row N (s + 4) (N (r + 4))))) (fun N => (zz_row N (s + 5) (N (r + 5))))) (fun N => (zz_row N (s + 6) (N (r + 6))))) (fun N => (zz_row N (s + 7) (N (r + 7))))) (fun N => (zz_row N (s + 8) (N (r + 8))))) (fun N => (zz_row N (s + 9) (N (r + 9))))), J, e)) (fun _ => rfl)).trans ?_
  refine zl_getR rfl (zt_St0 L hs) (zt_StR9 hs) ?_
  refine (zz_go 2 (fr' := (zm_S_copyFrom, d + 8, 147, [some (.ref s), some (.ref r)], [.int (60 : Int32), .int (0 : Int32), .ref (s + 10), .int (0 : Int32), .ref (r + 10)])) (h' := (zt_T L, zt_R, (zy_l (zy_l (zy_l (zy_l (zy_l (zy_l (zy_l (zz_row (zz_row M (s + 1) (M (r + 1))) (s + 2) ((zz_row M (s + 1) (M (r + 1))) (r + 2))) (fun N => (zz_row N (s + 3) (N (r + 3))))) (fun N => (zz_row N (s + 4) (N (r + 4))))) (fun N => (zz_row N (s + 5) (N (r + 5))))) (fun N => (zz_row N (s + 6) (N (r + 6))))) (fun N => (zz_row N (s + 7) (N (r + 7))))) (fun N => (zz_row N (s + 8) (N (r + 8))))) (fun N => (zz_row N (s + 9) (N (r + 9))))), J, e)) (fun _ => rfl)).trans ?_
  refine zl_copy rfl (zt_St10 L hr) (zt_St10 L hs) rfl rfl rfl (zt_Stp hr 10) (zt_Stp hs 10) rfl ?_
  refine (zz_go 2 (fr' := (zm_S_copyFrom, d + 8, 152, [some (.ref s), some (.ref r)], [.ref r, .ref s])) (h' := (zt_T L, zt_R, (zy_l (zy_l (zy_l (zy_l (zy_l (zy_l (zy_l (zy_l (zz_row (zz_row M (s + 1) (M (r + 1))) (s + 2) ((zz_row M (s + 1) (M (r + 1))) (r + 2))) (fun N => (zz_row N (s + 3) (N (r + 3))))) (fun N => (zz_row N (s + 4) (N (r + 4))))) (fun N => (zz_row N (s + 5) (N (r + 5))))) (fun N => (zz_row N (s + 6) (N (r + 6))))) (fun N => (zz_row N (s + 7) (N (r + 7))))) (fun N => (zz_row N (s + 8) (N (r + 8))))) (fun N => (zz_row N (s + 9) (N (r + 9))))) (fun N => (zz_row N (s + 10) (N (r + 10))))), J, e)) (fun _ => rfl)).trans ?_
  refine zl_getI rfl (by decide) (zt_St0 L hr) rfl ?_
  refine zl_putI rfl rfl (zt_St0 L hs) (zt_Stp hs 0) ?_
  refine (zz_go 2 (fr' := (zm_S_copyFrom, d + 8, 160, [some (.ref s), some (.ref r)], [.ref r, .ref s])) (h' := (zt_T L, zt_R, (zy_l (zy_l (zy_l (zy_l (zy_l (zy_l (zy_l (zy_l (zy_l (zz_row (zz_row M (s + 1) (M (r + 1))) (s + 2) ((zz_row M (s + 1) (M (r + 1))) (r + 2))) (fun N => (zz_row N (s + 3) (N (r + 3))))) (fun N => (zz_row N (s + 4) (N (r + 4))))) (fun N => (zz_row N (s + 5) (N (r + 5))))) (fun N => (zz_row N (s + 6) (N (r + 6))))) (fun N => (zz_row N (s + 7) (N (r + 7))))) (fun N => (zz_row N (s + 8) (N (r + 8))))) (fun N => (zz_row N (s + 9) (N (r + 9))))) (fun N => (zz_row N (s + 10) (N (r + 10))))) (fun N => (zz_up N s 10 (N r 10)))), J, e)) (fun _ => rfl)).trans ?_
  refine zl_getI rfl (by decide) (zt_St0 L hr) rfl ?_
  refine zl_putI rfl rfl (zt_St0 L hs) (zt_Stp hs 0) ?_
  refine (zz_go 2 (fr' := (zm_S_copyFrom, d + 8, 168, [some (.ref s), some (.ref r)], [.ref r, .ref s])) (h' := (zt_T L, zt_R, (zy_l (zy_l (zy_l (zy_l (zy_l (zy_l (zy_l (zy_l (zy_l (zy_l (zz_row (zz_row M (s + 1) (M (r + 1))) (s + 2) ((zz_row M (s + 1) (M (r + 1))) (r + 2))) (fun N => (zz_row N (s + 3) (N (r + 3))))) (fun N => (zz_row N (s + 4) (N (r + 4))))) (fun N => (zz_row N (s + 5) (N (r + 5))))) (fun N => (zz_row N (s + 6) (N (r + 6))))) (fun N => (zz_row N (s + 7) (N (r + 7))))) (fun N => (zz_row N (s + 8) (N (r + 8))))) (fun N => (zz_row N (s + 9) (N (r + 9))))) (fun N => (zz_row N (s + 10) (N (r + 10))))) (fun N => (zz_up N s 10 (N r 10)))) (fun N => (zz_up N s 11 (N r 11)))), J, e)) (fun _ => rfl)).trans ?_
  refine zl_getI rfl (by decide) (zt_St0 L hr) rfl ?_
  refine zl_putI rfl rfl (zt_St0 L hs) (zt_Stp hs 0) ?_
  refine (zz_go 2 (fr' := (zm_S_copyFrom, d + 8, 176, [some (.ref s), some (.ref r)], [.ref r, .ref s])) (h' := (zt_T L, zt_R, (zy_l (zy_l (zy_l (zy_l (zy_l (zy_l (zy_l (zy_l (zy_l (zy_l (zy_l (zz_row (zz_row M (s + 1) (M (r + 1))) (s + 2) ((zz_row M (s + 1) (M (r + 1))) (r + 2))) (fun N => (zz_row N (s + 3) (N (r + 3))))) (fun N => (zz_row N (s + 4) (N (r + 4))))) (fun N => (zz_row N (s + 5) (N (r + 5))))) (fun N => (zz_row N (s + 6) (N (r + 6))))) (fun N => (zz_row N (s + 7) (N (r + 7))))) (fun N => (zz_row N (s + 8) (N (r + 8))))) (fun N => (zz_row N (s + 9) (N (r + 9))))) (fun N => (zz_row N (s + 10) (N (r + 10))))) (fun N => (zz_up N s 10 (N r 10)))) (fun N => (zz_up N s 11 (N r 11)))) (fun N => (zz_up N s 12 (N r 12)))), J, e)) (fun _ => rfl)).trans ?_
  refine zl_getI rfl (by decide) (zt_St0 L hr) rfl ?_
  refine zl_putI rfl rfl (zt_St0 L hs) (zt_Stp hs 0) ?_
  refine (zz_go 2 (fr' := (zm_S_copyFrom, d + 8, 184, [some (.ref s), some (.ref r)], [.ref r, .ref s])) (h' := (zt_T L, zt_R, (zy_l (zy_l (zy_l (zy_l (zy_l (zy_l (zy_l (zy_l (zy_l (zy_l (zy_l (zy_l (zz_row (zz_row M (s + 1) (M (r + 1))) (s + 2) ((zz_row M (s + 1) (M (r + 1))) (r + 2))) (fun N => (zz_row N (s + 3) (N (r + 3))))) (fun N => (zz_row N (s + 4) (N (r + 4))))) (fun N => (zz_row N (s + 5) (N (r + 5))))) (fun N => (zz_row N (s + 6) (N (r + 6))))) (fun N => (zz_row N (s + 7) (N (r + 7))))) (fun N => (zz_row N (s + 8) (N (r + 8))))) (fun N => (zz_row N (s + 9) (N (r + 9))))) (fun N => (zz_row N (s + 10) (N (r + 10))))) (fun N => (zz_up N s 10 (N r 10)))) (fun N => (zz_up N s 11 (N r 11)))) (fun N => (zz_up N s 12 (N r 12)))) (fun N => (zz_up N s 13 (N r 13)))), J, e)) (fun _ => rfl)).trans ?_
  refine zl_getI rfl (by decide) (zt_St0 L hr) rfl ?_
  refine zl_putI rfl rfl (zt_St0 L hs) (zt_Stp hs 0) ?_
  refine (zz_go 2 (fr' := (zm_S_copyFrom, d + 8, 192, [some (.ref s), some (.ref r)], [.ref r, .ref s])) (h' := (zt_T L, zt_R, (zy_l (zy_l (zy_l (zy_l (zy_l (zy_l (zy_l (zy_l (zy_l (zy_l (zy_l (zy_l (zy_l (zz_row (zz_row M (s + 1) (M (r + 1))) (s + 2) ((zz_row M (s + 1) (M (r + 1))) (r + 2))) (fun N => (zz_row N (s + 3) (N (r + 3))))) (fun N => (zz_row N (s + 4) (N (r + 4))))) (fun N => (zz_row N (s + 5) (N (r + 5))))) (fun N => (zz_row N (s + 6) (N (r + 6))))) (fun N => (zz_row N (s + 7) (N (r + 7))))) (fun N => (zz_row N (s + 8) (N (r + 8))))) (fun N => (zz_row N (s + 9) (N (r + 9))))) (fun N => (zz_row N (s + 10) (N (r + 10))))) (fun N => (zz_up N s 10 (N r 10)))) (fun N => (zz_up N s 11 (N r 11)))) (fun N => (zz_up N s 12 (N r 12)))) (fun N => (zz_up N s 13 (N r 13)))) (fun N => (zz_up N s 14 (N r 14)))), J, e)) (fun _ => rfl)).trans ?_
  refine zl_getI rfl (by decide) (zt_St0 L hr) rfl ?_
  refine zl_putI rfl rfl (zt_St0 L hs) (zt_Stp hs 0) ?_
  refine (zz_go 2 (fr' := (zm_S_copyFrom, d + 8, 200, [some (.ref s), some (.ref r)], [.ref r, .ref s])) (h' := (zt_T L, zt_R, (zy_l (zy_l (zy_l (zy_l (zy_l (zy_l (zy_l (zy_l (zy_l (zy_l (zy_l (zy_l (zy_l (zy_l (zz_row (zz_row M (s + 1) (M (r + 1))) (s + 2) ((zz_row M (s + 1) (M (r + 1))) (r + 2))) (fun N => (zz_row N (s + 3) (N (r + 3))))) (fun N => (zz_row N (s + 4) (N (r + 4))))) (fun N => (zz_row N (s + 5) (N (r + 5))))) (fun N => (zz_row N (s + 6) (N (r + 6))))) (fun N => (zz_row N (s + 7) (N (r + 7))))) (fun N => (zz_row N (s + 8) (N (r + 8))))) (fun N => (zz_row N (s + 9) (N (r + 9))))) (fun N => (zz_row N (s + 10) (N (r + 10))))) (fun N => (zz_up N s 10 (N r 10)))) (fun N => (zz_up N s 11 (N r 11)))) (fun N => (zz_up N s 12 (N r 12)))) (fun N => (zz_up N s 13 (N r 13)))) (fun N => (zz_up N s 14 (N r 14)))) (fun N => (zz_up N s 15 (N r 15)))), J, e)) (fun _ => rfl)).trans ?_
  refine zl_getI rfl (by decide) (zt_St0 L hr) rfl ?_
  refine zl_putI rfl rfl (zt_St0 L hs) (zt_Stp hs 0) ?_
  refine (zz_go 2 (fr' := (zm_S_copyFrom, d + 8, 208, [some (.ref s), some (.ref r)], [.ref r, .ref s])) (h' := (zt_T L, zt_R, (zy_l (zy_l (zy_l (zy_l (zy_l (zy_l (zy_l (zy_l (zy_l (zy_l (zy_l (zy_l (zy_l (zy_l (zy_l (zz_row (zz_row M (s + 1) (M (r + 1))) (s + 2) ((zz_row M (s + 1) (M (r + 1))) (r + 2))) (fun N => (zz_row N (s + 3) (N (r + 3))))) (fun N => (zz_row N (s + 4) (N (r + 4))))) (fun N => (zz_row N (s + 5) (N (r + 5))))) (fun N => (zz_row N (s + 6) (N (r + 6))))) (fun N => (zz_row N (s + 7) (N (r + 7))))) (fun N => (zz_row N (s + 8) (N (r + 8))))) (fun N => (zz_row N (s + 9) (N (r + 9))))) (fun N => (zz_row N (s + 10) (N (r + 10))))) (fun N => (zz_up N s 10 (N r 10)))) (fun N => (zz_up N s 11 (N r 11)))) (fun N => (zz_up N s 12 (N r 12)))) (fun N => (zz_up N s 13 (N r 13)))) (fun N => (zz_up N s 14 (N r 14)))) (fun N => (zz_up N s 15 (N r 15)))) (fun N => (zz_up N s 16 (N r 16)))), J, e)) (fun _ => rfl)).trans ?_
  refine zl_getI rfl (by decide) (zt_St0 L hr) rfl ?_
  refine zl_putI rfl rfl (zt_St0 L hs) (zt_Stp hs 0) ?_
  refine (zz_end 1 (r := (.inl none, (zt_T L, zt_R, (zy_l (zy_l (zy_l (zy_l (zy_l (zy_l (zy_l (zy_l (zy_l (zy_l (zy_l (zy_l (zy_l (zy_l (zy_l (zy_l (zz_row (zz_row M (s + 1) (M (r + 1))) (s + 2) ((zz_row M (s + 1) (M (r + 1))) (r + 2))) (fun N => (zz_row N (s + 3) (N (r + 3))))) (fun N => (zz_row N (s + 4) (N (r + 4))))) (fun N => (zz_row N (s + 5) (N (r + 5))))) (fun N => (zz_row N (s + 6) (N (r + 6))))) (fun N => (zz_row N (s + 7) (N (r + 7))))) (fun N => (zz_row N (s + 8) (N (r + 8))))) (fun N => (zz_row N (s + 9) (N (r + 9))))) (fun N => (zz_row N (s + 10) (N (r + 10))))) (fun N => (zz_up N s 10 (N r 10)))) (fun N => (zz_up N s 11 (N r 11)))) (fun N => (zz_up N s 12 (N r 12)))) (fun N => (zz_up N s 13 (N r 13)))) (fun N => (zz_up N s 14 (N r 14)))) (fun N => (zz_up N s 15 (N r 15)))) (fun N => (zz_up N s 16 (N r 16)))) (fun N => (zz_up N s 17 (N r 17)))), J, e))) (fun _ => rfl)).trans ?_
  rfl
def w_S_addPerson (M : zMem) (s : Nat) (x0 : Int32) (x1 : Int32) (x2 : Int32) : zMem := (bif (decide ((M s 10) < (6 : Int32))) then (zz_up (zz_up (zz_up (zz_up (zz_up (zz_up (zz_up M (s + 4) (M s 10).toNatClampNeg x2) (s + 5) (M s 10).toNatClampNeg (0 : Int32)) (s + 6) (M s 10).toNatClampNeg x0) (s + 7) (M s 10).toNatClampNeg x1) (s + 8) (M s 10).toNatClampNeg (0 : Int32)) (s + 9) (M s 10).toNatClampNeg (0 : Int32)) s 10 ((M s 10) + (1 : Int32))) else M)
def ok_S_addPerson (M : zMem) (s : Nat) (x0 : Int32) (x1 : Int32) (x2 : Int32) : Prop := ((decide ((M s 10) < (6 : Int32))) = true → zz_in (M s 10) 6 = true)
set_option maxRecDepth 20000 in
set_option maxHeartbeats 2000000 in
theorem s_S_addPerson (L e : Nat) (J : zJem) (d : Nat) (M : zMem) (s : Nat) (x0 : Int32) (x1 : Int32) (x2 : Int32) (hs : zt_St s) (k0 : ok_S_addPerson M s x0 x1 x2) : zz_D (zm_S_addPerson, d + 1, 0, [some (.ref s), some (.int x0), some (.int x1), some (.int x2)], []) (zt_T L, zt_R, M, J, e) = some (.inl (none), (zt_T L, zt_R, (w_S_addPerson M s x0 x1 x2), J, e)) := by
  unfold ok_S_addPerson at k0
  unfold w_S_addPerson
  refine (zz_go 1 (fr' := (zm_S_addPerson, d + 1, 1, [some (.ref s), some (.int x0), some (.int x1), some (.int x2)], [.ref s])) (h' := (zt_T L, zt_R, M, J, e)) (fun _ => rfl)).trans ?_
  refine zl_getI rfl (by decide) (zt_St0 L hs) rfl ?_
  refine (zz_go 1 (fr' := (zm_S_addPerson, d + 1, 6, [some (.ref s), some (.int x0), some (.int x1), some (.int x2)], [.int (6 : Int32), .int (M s 10)])) (h' := (zt_T L, zt_R, M, J, e)) (fun _ => rfl)).trans ?_
  rcases zz_bc (decide ((M s 10) < (6 : Int32))) with h1 | h1
  · refine zc_ltT rfl h1 ?_
    have k2 := k0 h1
    refine (zz_go 1 (fr' := (zm_S_addPerson, d + 1, 11, [some (.ref s), some (.int x0), some (.int x1), some (.int x2)], [.ref s])) (h' := (zt_T L, zt_R, M, J, e)) (fun _ => rfl)).trans ?_
    refine zl_getR rfl (zt_St0 L hs) (zt_StR3 hs) ?_
    refine (zz_go 1 (fr' := (zm_S_addPerson, d + 1, 15, [some (.ref s), some (.int x0), some (.int x1), some (.int x2)], [.ref s, .ref (s + 4)])) (h' := (zt_T L, zt_R, M, J, e)) (fun _ => rfl)).trans ?_
    refine zl_getI rfl (by decide) (zt_St0 L hs) rfl ?_
    refine (zz_go 1 (fr' := (zm_S_addPerson, d + 1, 19, [some (.ref s), some (.int x0), some (.int x1), some (.int x2)], [.int x2, .int (M s 10), .ref (s + 4)])) (h' := (zt_T L, zt_R, M, J, e)) (fun _ => rfl)).trans ?_
    have g3 : zz_in (M s 10) 6 = true := k2
    refine zl_iastore rfl (zt_St4 L hs) g3 (zt_Stp hs 4) rfl ?_
    refine (zz_go 1 (fr' := (zm_S_addPerson, d + 1, 21, [some (.ref s), some (.int x0), some (.int x1), some (.int x2)], [.ref s])) (h' := (zt_T L, zt_R, (zz_up M (s + 4) (M s 10).toNatClampNeg x2), J, e)) (fun _ => rfl)).trans ?_
    refine zl_getR rfl (zt_St0 L hs) (zt_StR4 hs) ?_
    refine (zz_go 1 (fr' := (zm_S_addPerson, d + 1, 25, [some (.ref s), some (.int x0), some (.int x1), some (.int x2)], [.ref s, .ref (s + 5)])) (h' := (zt_T L, zt_R, (zz_up M (s + 4) (M s 10).toNatClampNeg x2), J, e)) (fun _ => rfl)).trans ?_
    refine zl_getI rfl (by decide) (zt_St0 L hs) ((zu_ne (zn_off s (a := 0) (b := 4) rfl)).trans rfl) ?_
    refine (zz_go 1 (fr' := (zm_S_addPerson, d + 1, 29, [some (.ref s), some (.int x0), some (.int x1), some (.int x2)], [.int (0 : Int32), .int (M s 10), .ref (s + 5)])) (h' := (zt_T L, zt_R, (zz_up M (s + 4) (M s 10).toNatClampNeg x2), J, e)) (fun _ => rfl)).trans ?_
    refine zl_iastore rfl (zt_St5 L hs) g3 (zt_Stp hs 5) rfl ?_
    refine (zz_go 1 (fr' := (zm_S_addPerson, d + 1, 31, [some (.ref s), some (.int x0), some (.int x1), some (.int x2)], [.ref s])) (h' := (zt_T L, zt_R, (zz_up (zz_up M (s + 4) (M s 10).toNatClampNeg x2) (s + 5) (M s 10).toNatClampNeg (0 : Int32)), J, e)) (fun _ => rfl)).trans ?_
    refine zl_getR rfl (zt_St0 L hs) (zt_StR5 hs) ?_
    refine (zz_go 1 (fr' := (zm_S_addPerson, d + 1, 35, [some (.ref s), some (.int x0), some (.int x1), some (.int x2)], [.ref s, .ref (s + 6)])) (h' := (zt_T L, zt_R, (zz_up (zz_up M (s + 4) (M s 10).toNatClampNeg x2) (s + 5) (M s 10).toNatClampNeg (0 : Int32)), J, e)) (fun _ => rfl)).trans ?_
    refine zl_getI rfl (by decide) (zt_St0 L hs) ((zu_ne (zn_off s (a := 0) (b := 5) rfl)).trans ((zu_ne (zn_off s (a := 0) (b := 4) rfl)).trans rfl)) ?_
    refine (zz_go 1 (fr' := (zm_S_addPerson, d + 1, 39, [some (.ref s), some (.int x0), some (.int x1), some (.int x2)], [.int x0, .int (M s 10), .ref (s + 6)])) (h' := (zt_T L, zt_R, (zz_up (zz_up M (s + 4) (M s 10).toNatClampNeg x2) (s + 5) (M s 10).toNatClampNeg (0 : Int32)), J, e)) (fun _ => rfl)).trans ?_
    refine zl_iastore rfl (zt_St6 L hs) g3 (zt_Stp hs 6) rfl ?_
    refine (zz_go 1 (fr' := (zm_S_addPerson, d + 1, 41, [some (.ref s), some (.int x0), some (.int x1), some (.int x2)], [.ref s])) (h' := (zt_T L, zt_R, (zz_up (zz_up (zz_up M (s + 4) (M s 10).toNatClampNeg x2) (s + 5) (M s 10).toNatClampNeg (0 : Int32)) (s + 6) (M s 10).toNatClampNeg x0), J, e)) (fun _ => rfl)).trans ?_
    refine zl_getR rfl (zt_St0 L hs) (zt_StR6 hs) ?_
    refine (zz_go 1 (fr' := (zm_S_addPerson, d + 1, 45, [some (.ref s), some (.int x0), some (.int x1), some (.int x2)], [.ref s, .ref (s + 7)])) (h' := (zt_T L, zt_R, (zz_up (zz_up (zz_up M (s + 4) (M s 10).toNatClampNeg x2) (s + 5) (M s 10).toNatClampNeg (0 : Int32)) (s + 6) (M s 10).toNatClampNeg x0), J, e)) (fun _ => rfl)).trans ?_
    refine zl_getI rfl (by decide) (zt_St0 L hs) ((zu_ne (zn_off s (a := 0) (b := 6) rfl)).trans ((zu_ne (zn_off s (a := 0) (b := 5) rfl)).trans ((zu_ne (zn_off s (a := 0) (b := 4) rfl)).trans rfl))) ?_
    refine (zz_go 1 (fr' := (zm_S_addPerson, d + 1, 49, [some (.ref s), some (.int x0), some (.int x1), some (.int x2)], [.int x1, .int (M s 10), .ref (s + 7)])) (h' := (zt_T L, zt_R, (zz_up (zz_up (zz_up M (s + 4) (M s 10).toNatClampNeg x2) (s + 5) (M s 10).toNatClampNeg (0 : Int32)) (s + 6) (M s 10).toNatClampNeg x0), J, e)) (fun _ => rfl)).trans ?_
    refine zl_iastore rfl (zt_St7 L hs) g3 (zt_Stp hs 7) rfl ?_
    refine (zz_go 1 (fr' := (zm_S_addPerson, d + 1, 51, [some (.ref s), some (.int x0), some (.int x1), some (.int x2)], [.ref s])) (h' := (zt_T L, zt_R, (zz_up (zz_up (zz_up (zz_up M (s + 4) (M s 10).toNatClampNeg x2) (s + 5) (M s 10).toNatClampNeg (0 : Int32)) (s + 6) (M s 10).toNatClampNeg x0) (s + 7) (M s 10).toNatClampNeg x1), J, e)) (fun _ => rfl)).trans ?_
    refine zl_getR rfl (zt_St0 L hs) (zt_StR7 hs) ?_
    refine (zz_go 1 (fr' := (zm_S_addPerson, d + 1, 55, [some (.ref s), some (.int x0), some (.int x1), some (.int x2)], [.ref s, .ref (s + 8)])) (h' := (zt_T L, zt_R, (zz_up (zz_up (zz_up (zz_up M (s + 4) (M s 10).toNatClampNeg x2) (s + 5) (M s 10).toNatClampNeg (0 : Int32)) (s + 6) (M s 10).toNatClampNeg x0) (s + 7) (M s 10).toNatClampNeg x1), J, e)) (fun _ => rfl)).trans ?_
    refine zl_getI rfl (by decide) (zt_St0 L hs) ((zu_ne (zn_off s (a := 0) (b := 7) rfl)).trans ((zu_ne (zn_off s (a := 0) (b := 6) rfl)).trans ((zu_ne (zn_off s (a := 0) (b := 5) rfl)).trans ((zu_ne (zn_off s (a := 0) (b := 4) rfl)).trans rfl)))) ?_
    refine (zz_go 1 (fr' := (zm_S_addPerson, d + 1, 59, [some (.ref s), some (.int x0), some (.int x1), some (.int x2)], [.int (0 : Int32), .int (M s 10), .ref (s + 8)])) (h' := (zt_T L, zt_R, (zz_up (zz_up (zz_up (zz_up M (s + 4) (M s 10).toNatClampNeg x2) (s + 5) (M s 10).toNatClampNeg (0 : Int32)) (s + 6) (M s 10).toNatClampNeg x0) (s + 7) (M s 10).toNatClampNeg x1), J, e)) (fun _ => rfl)).trans ?_
    refine zl_iastore rfl (zt_St8 L hs) g3 (zt_Stp hs 8) rfl ?_
    refine (zz_go 1 (fr' := (zm_S_addPerson, d + 1, 61, [some (.ref s), some (.int x0), some (.int x1), some (.int x2)], [.ref s])) (h' := (zt_T L, zt_R, (zz_up (zz_up (zz_up (zz_up (zz_up M (s + 4) (M s 10).toNatClampNeg x2) (s + 5) (M s 10).toNatClampNeg (0 : Int32)) (s + 6) (M s 10).toNatClampNeg x0) (s + 7) (M s 10).toNatClampNeg x1) (s + 8) (M s 10).toNatClampNeg (0 : Int32)), J, e)) (fun _ => rfl)).trans ?_
    refine zl_getR rfl (zt_St0 L hs) (zt_StR8 hs) ?_
    refine (zz_go 1 (fr' := (zm_S_addPerson, d + 1, 65, [some (.ref s), some (.int x0), some (.int x1), some (.int x2)], [.ref s, .ref (s + 9)])) (h' := (zt_T L, zt_R, (zz_up (zz_up (zz_up (zz_up (zz_up M (s + 4) (M s 10).toNatClampNeg x2) (s + 5) (M s 10).toNatClampNeg (0 : Int32)) (s + 6) (M s 10).toNatClampNeg x0) (s + 7) (M s 10).toNatClampNeg x1) (s + 8) (M s 10).toNatClampNeg (0 : Int32)), J, e)) (fun _ => rfl)).trans ?_
    refine zl_getI rfl (by decide) (zt_St0 L hs) ((zu_ne (zn_off s (a := 0) (b := 8) rfl)).trans ((zu_ne (zn_off s (a := 0) (b := 7) rfl)).trans ((zu_ne (zn_off s (a := 0) (b := 6) rfl)).trans ((zu_ne (zn_off s (a := 0) (b := 5) rfl)).trans ((zu_ne (zn_off s (a := 0) (b := 4) rfl)).trans rfl))))) ?_
    refine (zz_go 1 (fr' := (zm_S_addPerson, d + 1, 69, [some (.ref s), some (.int x0), some (.int x1), some (.int x2)], [.int (0 : Int32), .int (M s 10), .ref (s + 9)])) (h' := (zt_T L, zt_R, (zz_up (zz_up (zz_up (zz_up (zz_up M (s + 4) (M s 10).toNatClampNeg x2) (s + 5) (M s 10).toNatClampNeg (0 : Int32)) (s + 6) (M s 10).toNatClampNeg x0) (s + 7) (M s 10).toNatClampNeg x1) (s + 8) (M s 10).toNatClampNeg (0 : Int32)), J, e)) (fun _ => rfl)).trans ?_
    refine zl_iastore rfl (zt_St9 L hs) g3 (zt_Stp hs 9) rfl ?_
    refine (zz_go 2 (fr' := (zm_S_addPerson, d + 1, 72, [some (.ref s), some (.int x0), some (.int x1), some (.int x2)], [.ref s, .ref s])) (h' := (zt_T L, zt_R, (zz_up (zz_up (zz_up (zz_up (zz_up (zz_up M (s + 4) (M s 10).toNatClampNeg x2) (s + 5) (M s 10).toNatClampNeg (0 : Int32)) (s + 6) (M s 10).toNatClampNeg x0) (s + 7) (M s 10).toNatClampNeg x1) (s + 8) (M s 10).toNatClampNeg (0 : Int32)) (s + 9) (M s 10).toNatClampNeg (0 : Int32)), J, e)) (fun _ => rfl)).trans ?_
    refine zl_getI rfl (by decide) (zt_St0 L hs) ((zu_ne (zn_off s (a := 0) (b := 9) rfl)).trans ((zu_ne (zn_off s (a := 0) (b := 8) rfl)).trans ((zu_ne (zn_off s (a := 0) (b := 7) rfl)).trans ((zu_ne (zn_off s (a := 0) (b := 6) rfl)).trans ((zu_ne (zn_off s (a := 0) (b := 5) rfl)).trans ((zu_ne (zn_off s (a := 0) (b := 4) rfl)).trans rfl)))))) ?_
    refine (zz_go 2 (fr' := (zm_S_addPerson, d + 1, 77, [some (.ref s), some (.int x0), some (.int x1), some (.int x2)], [.int ((M s 10) + (1 : Int32)), .ref s])) (h' := (zt_T L, zt_R, (zz_up (zz_up (zz_up (zz_up (zz_up (zz_up M (s + 4) (M s 10).toNatClampNeg x2) (s + 5) (M s 10).toNatClampNeg (0 : Int32)) (s + 6) (M s 10).toNatClampNeg x0) (s + 7) (M s 10).toNatClampNeg x1) (s + 8) (M s 10).toNatClampNeg (0 : Int32)) (s + 9) (M s 10).toNatClampNeg (0 : Int32)), J, e)) (fun _ => rfl)).trans ?_
    refine zl_putI rfl rfl (zt_St0 L hs) (zt_Stp hs 0) ?_
    refine (zz_end 1 (r := (.inl none, (zt_T L, zt_R, (zz_up (zz_up (zz_up (zz_up (zz_up (zz_up (zz_up M (s + 4) (M s 10).toNatClampNeg x2) (s + 5) (M s 10).toNatClampNeg (0 : Int32)) (s + 6) (M s 10).toNatClampNeg x0) (s + 7) (M s 10).toNatClampNeg x1) (s + 8) (M s 10).toNatClampNeg (0 : Int32)) (s + 9) (M s 10).toNatClampNeg (0 : Int32)) s 10 ((M s 10) + (1 : Int32))), J, e))) (fun _ => rfl)).trans ?_
    first | (simp only [h1, zk_t, zk_f, zb_t, zb_f]; done) | (simp only [h1, zk_t, zk_f, zb_t, zb_f]; rfl) | rfl
  · refine zc_ltF rfl h1 ?_
    refine (zz_end 1 (r := (.inl none, (zt_T L, zt_R, M, J, e))) (fun _ => rfl)).trans ?_
    first | (simp only [h1, zk_t, zk_f, zb_t, zb_f]; done) | (simp only [h1, zk_t, zk_f, zb_t, zb_f]; rfl) | rfl
def v_S_isPlain (M : zMem) (s : Nat) (x0 : Int32) : Bool := (bif (decide ((M (s + 4) (x0).toNatClampNeg) < 0)) then true else (bif (decide ((M (s + 4) (x0).toNatClampNeg) < (8 : Int32))) then false else true))
def ok_S_isPlain (M : zMem) (s : Nat) (x0 : Int32) : Prop := zz_in x0 6 = true
set_option maxRecDepth 20000 in
set_option maxHeartbeats 2000000 in
theorem s_S_isPlain (L e : Nat) (J : zJem) (d : Nat) (M : zMem) (s : Nat) (x0 : Int32) (hs : zt_St s) (k0 : ok_S_isPlain M s x0) : zz_D (zm_S_isPlain, d + 1, 0, [some (.ref s), some (.int x0)], []) (zt_T L, zt_R, M, J, e) = some (.inl (some (.int (zb (v_S_isPlain M s x0)))), (zt_T L, zt_R, M, J, e)) := by
  unfold ok_S_isPlain at k0
  unfold v_S_isPlain
  refine (zz_go 1 (fr' := (zm_S_isPlain, d + 1, 1, [some (.ref s), some (.int x0)], [.ref s])) (h' := (zt_T L, zt_R, M, J, e)) (fun _ => rfl)).trans ?_
  refine zl_getR rfl (zt_St0 L hs) (zt_StR3 hs) ?_
  refine (zz_go 1 (fr' := (zm_S_isPlain, d + 1, 5, [some (.ref s), some (.int x0)], [.int x0, .ref (s + 4)])) (h' := (zt_T L, zt_R, M, J, e)) (fun _ => rfl)).trans ?_
  have g1 : zz_in x0 6 = true := k0
  refine zl_iaload rfl (zt_St4 L hs) g1 rfl ?_
  refine zz_jn (X := zz_D (zm_S_isPlain, d + 1, 25, [none, none], [.int (zb (bif (decide ((M (s + 4) (x0).toNatClampNeg) < 0)) then true else (bif (decide ((M (s + 4) (x0).toNatClampNeg) < (8 : Int32))) then false else true)))]) (zt_T L, zt_R, M, J, e)) (fun j2 => ?_) ?_
  · rcases zz_bc (decide ((M (s + 4) (x0).toNatClampNeg) < 0)) with h3 | h3
    · refine zo_ltT rfl h3 ?_
      refine (zz_go 2 (fr' := (zm_S_isPlain, d + 1, 25, [some (.ref s), some (.int x0)], [.int (1 : Int32)])) (h' := (zt_T L, zt_R, M, J, e)) (fun _ => rfl)).trans ?_
      refine zz_weak (L := [none, none]) ⟨Or.inr ⟨rfl, rfl⟩, Or.inr ⟨rfl, rfl⟩, trivial⟩ ?_
      simpa only [h3, zk_t, zk_f, zb_t, zb_f] using j2
    · refine zo_ltF rfl h3 ?_
      refine (zz_go 1 (fr' := (zm_S_isPlain, d + 1, 10, [some (.ref s), some (.int x0)], [.ref s])) (h' := (zt_T L, zt_R, M, J, e)) (fun _ => rfl)).trans ?_
      refine zl_getR rfl (zt_St0 L hs) (zt_StR3 hs) ?_
      refine (zz_go 1 (fr' := (zm_S_isPlain, d + 1, 14, [some (.ref s), some (.int x0)], [.int x0, .ref (s + 4)])) (h' := (zt_T L, zt_R, M, J, e)) (fun _ => rfl)).trans ?_
      refine zl_iaload rfl (zt_St4 L hs) g1 rfl ?_
      refine zz_jn (X := zz_D (zm_S_isPlain, d + 1, 25, [none, none], [.int (zb (bif (decide ((M (s + 4) (x0).toNatClampNeg) < (8 : Int32))) then false else true))]) (zt_T L, zt_R, M, J, e)) (fun j4 => ?_) ?_
      · refine (zz_go 1 (fr' := (zm_S_isPlain, d + 1, 17, [some (.ref s), some (.int x0)], [.int (8 : Int32), .int (M (s + 4) (x0).toNatClampNeg)])) (h' := (zt_T L, zt_R, M, J, e)) (fun _ => rfl)).trans ?_
        rcases zz_bc (decide ((M (s + 4) (x0).toNatClampNeg) < (8 : Int32))) with h5 | h5
        · refine zc_ltT rfl h5 ?_
          refine (zz_go 1 (fr' := (zm_S_isPlain, d + 1, 25, [some (.ref s), some (.int x0)], [.int (0 : Int32)])) (h' := (zt_T L, zt_R, M, J, e)) (fun _ => rfl)).trans ?_
          refine zz_weak (L := [none, none]) ⟨Or.inr ⟨rfl, rfl⟩, Or.inr ⟨rfl, rfl⟩, trivial⟩ ?_
          simpa only [h5, zk_t, zk_f, zb_t, zb_f] using j4
        · refine zc_ltF rfl h5 ?_
          refine (zz_go 2 (fr' := (zm_S_isPlain, d + 1, 25, [some (.ref s), some (.int x0)], [.int (1 : Int32)])) (h' := (zt_T L, zt_R, M, J, e)) (fun _ => rfl)).trans ?_
          refine zz_weak (L := [none, none]) ⟨Or.inr ⟨rfl, rfl⟩, Or.inr ⟨rfl, rfl⟩, trivial⟩ ?_
          simpa only [h5, zk_t, zk_f, zb_t, zb_f] using j4
      simpa only [h3, zk_t, zk_f, zb_t, zb_f] using j2
  refine zl_retI rfl (zb_01 _) ?_
  rfl
