/-! LIFTED: H_readKind H_readPerson H_readLine H_readAll J_partWord J_readPart J_readSum N_feed N_end N_shop N_fault N_needKind N_kind N_needPerson N_sureYear N_person N_needPlace N_mark N_needYears N_years -/
def f_H_readKind_1 (M : zMem) (i1 : Nat) (a1 : Int32 × zMem) : Int32 × zMem := ((a1.1 ||| (zsl (v_T_takeFigures a1.2) ((4 : Int32) * (Int32.ofNat i1)))), (w_T_takeFigures a1.2))
def kb_H_readKind_1 (M : zMem) (i1 : Nat) (a1 : Int32 × zMem) : Prop := ok_T_takeFigures a1.2
def w_H_readKind (M : zMem) : zMem := (bif (decide ((v_T_takeKind M) < 0)) then (bif (v_T_takeWord (bif (v_T_takeWord (zf_for 4 (f_H_readKind_1 M) ((0 : Int32), (w_T_needWord (w_T_takeKind M) 1))).2 2) then (w_T_takeNumber (w_T_takeWord (zf_for 4 (f_H_readKind_1 M) ((0 : Int32), (w_T_needWord (w_T_takeKind M) 1))).2 2) (7 : Int32)) else (w_T_takeWord (zf_for 4 (f_H_readKind_1 M) ((0 : Int32), (w_T_needWord (w_T_takeKind M) 1))).2 2)) 3) then (w_T_takeKind (w_T_takeWord (bif (v_T_takeWord (zf_for 4 (f_H_readKind_1 M) ((0 : Int32), (w_T_needWord (w_T_takeKind M) 1))).2 2) then (w_T_takeNumber (w_T_takeWord (zf_for 4 (f_H_readKind_1 M) ((0 : Int32), (w_T_needWord (w_T_takeKind M) 1))).2 2) (7 : Int32)) else (w_T_takeWord (zf_for 4 (f_H_readKind_1 M) ((0 : Int32), (w_T_needWord (w_T_takeKind M) 1))).2 2)) 3)) else (w_T_takeWord (bif (v_T_takeWord (zf_for 4 (f_H_readKind_1 M) ((0 : Int32), (w_T_needWord (w_T_takeKind M) 1))).2 2) then (w_T_takeNumber (w_T_takeWord (zf_for 4 (f_H_readKind_1 M) ((0 : Int32), (w_T_needWord (w_T_takeKind M) 1))).2 2) (7 : Int32)) else (w_T_takeWord (zf_for 4 (f_H_readKind_1 M) ((0 : Int32), (w_T_needWord (w_T_takeKind M) 1))).2 2)) 3)) else (bif (decide ((v_T_takeKind M) < (8 : Int32))) then (bif (decide ((bif (v_T_takeWord (bif (v_T_takeWord (zf_for 4 (f_H_readKind_1 M) ((0 : Int32), (w_T_needWord (w_T_takeKind M) 1))).2 2) then (w_T_takeNumber (w_T_takeWord (zf_for 4 (f_H_readKind_1 M) ((0 : Int32), (w_T_needWord (w_T_takeKind M) 1))).2 2) (7 : Int32)) else (w_T_takeWord (zf_for 4 (f_H_readKind_1 M) ((0 : Int32), (w_T_needWord (w_T_takeKind M) 1))).2 2)) 3) then (v_T_takeKind (w_T_takeWord (bif (v_T_takeWord (zf_for 4 (f_H_readKind_1 M) ((0 : Int32), (w_T_needWord (w_T_takeKind M) 1))).2 2) then (w_T_takeNumber (w_T_takeWord (zf_for 4 (f_H_readKind_1 M) ((0 : Int32), (w_T_needWord (w_T_takeKind M) 1))).2 2) (7 : Int32)) else (w_T_takeWord (zf_for 4 (f_H_readKind_1 M) ((0 : Int32), (w_T_needWord (w_T_takeKind M) 1))).2 2)) 3)) else (-1 : Int32)) = (-1 : Int32))) then (bif (decide ((bif (v_T_takeWord (zf_for 4 (f_H_readKind_1 M) ((0 : Int32), (w_T_needWord (w_T_takeKind M) 1))).2 2) then (v_T_takeNumber (w_T_takeWord (zf_for 4 (f_H_readKind_1 M) ((0 : Int32), (w_T_needWord (w_T_takeKind M) 1))).2 2) (7 : Int32)) else (-1 : Int32)) = (-1 : Int32))) then (zz_up (bif (v_T_takeWord (bif (v_T_takeWord (zf_for 4 (f_H_readKind_1 M) ((0 : Int32), (w_T_needWord (w_T_takeKind M) 1))).2 2) then (w_T_takeNumber (w_T_takeWord (zf_for 4 (f_H_readKind_1 M) ((0 : Int32), (w_T_needWord (w_T_takeKind M) 1))).2 2) (7 : Int32)) else (w_T_takeWord (zf_for 4 (f_H_readKind_1 M) ((0 : Int32), (w_T_needWord (w_T_takeKind M) 1))).2 2)) 3) then (w_T_takeKind (w_T_takeWord (bif (v_T_takeWord (zf_for 4 (f_H_readKind_1 M) ((0 : Int32), (w_T_needWord (w_T_takeKind M) 1))).2 2) then (w_T_takeNumber (w_T_takeWord (zf_for 4 (f_H_readKind_1 M) ((0 : Int32), (w_T_needWord (w_T_takeKind M) 1))).2 2) (7 : Int32)) else (w_T_takeWord (zf_for 4 (f_H_readKind_1 M) ((0 : Int32), (w_T_needWord (w_T_takeKind M) 1))).2 2)) 3)) else (w_T_takeWord (bif (v_T_takeWord (zf_for 4 (f_H_readKind_1 M) ((0 : Int32), (w_T_needWord (w_T_takeKind M) 1))).2 2) then (w_T_takeNumber (w_T_takeWord (zf_for 4 (f_H_readKind_1 M) ((0 : Int32), (w_T_needWord (w_T_takeKind M) 1))).2 2) (7 : Int32)) else (w_T_takeWord (zf_for 4 (f_H_readKind_1 M) ((0 : Int32), (w_T_needWord (w_T_takeKind M) 1))).2 2)) 3)) 16 (v_T_takeKind M).toNatClampNeg (zf_for 4 (f_H_readKind_1 M) ((0 : Int32), (w_T_needWord (w_T_takeKind M) 1))).1) else (zz_up (zz_up (bif (v_T_takeWord (bif (v_T_takeWord (zf_for 4 (f_H_readKind_1 M) ((0 : Int32), (w_T_needWord (w_T_takeKind M) 1))).2 2) then (w_T_takeNumber (w_T_takeWord (zf_for 4 (f_H_readKind_1 M) ((0 : Int32), (w_T_needWord (w_T_takeKind M) 1))).2 2) (7 : Int32)) else (w_T_takeWord (zf_for 4 (f_H_readKind_1 M) ((0 : Int32), (w_T_needWord (w_T_takeKind M) 1))).2 2)) 3) then (w_T_takeKind (w_T_takeWord (bif (v_T_takeWord (zf_for 4 (f_H_readKind_1 M) ((0 : Int32), (w_T_needWord (w_T_takeKind M) 1))).2 2) then (w_T_takeNumber (w_T_takeWord (zf_for 4 (f_H_readKind_1 M) ((0 : Int32), (w_T_needWord (w_T_takeKind M) 1))).2 2) (7 : Int32)) else (w_T_takeWord (zf_for 4 (f_H_readKind_1 M) ((0 : Int32), (w_T_needWord (w_T_takeKind M) 1))).2 2)) 3)) else (w_T_takeWord (bif (v_T_takeWord (zf_for 4 (f_H_readKind_1 M) ((0 : Int32), (w_T_needWord (w_T_takeKind M) 1))).2 2) then (w_T_takeNumber (w_T_takeWord (zf_for 4 (f_H_readKind_1 M) ((0 : Int32), (w_T_needWord (w_T_takeKind M) 1))).2 2) (7 : Int32)) else (w_T_takeWord (zf_for 4 (f_H_readKind_1 M) ((0 : Int32), (w_T_needWord (w_T_takeKind M) 1))).2 2)) 3)) 16 (v_T_takeKind M).toNatClampNeg (zf_for 4 (f_H_readKind_1 M) ((0 : Int32), (w_T_needWord (w_T_takeKind M) 1))).1) 17 (v_T_takeKind M).toNatClampNeg (bif (v_T_takeWord (zf_for 4 (f_H_readKind_1 M) ((0 : Int32), (w_T_needWord (w_T_takeKind M) 1))).2 2) then (v_T_takeNumber (w_T_takeWord (zf_for 4 (f_H_readKind_1 M) ((0 : Int32), (w_T_needWord (w_T_takeKind M) 1))).2 2) (7 : Int32)) else (-1 : Int32)))) else (zz_up (bif (decide ((bif (v_T_takeWord (zf_for 4 (f_H_readKind_1 M) ((0 : Int32), (w_T_needWord (w_T_takeKind M) 1))).2 2) then (v_T_takeNumber (w_T_takeWord (zf_for 4 (f_H_readKind_1 M) ((0 : Int32), (w_T_needWord (w_T_takeKind M) 1))).2 2) (7 : Int32)) else (-1 : Int32)) = (-1 : Int32))) then (zz_up (bif (v_T_takeWord (bif (v_T_takeWord (zf_for 4 (f_H_readKind_1 M) ((0 : Int32), (w_T_needWord (w_T_takeKind M) 1))).2 2) then (w_T_takeNumber (w_T_takeWord (zf_for 4 (f_H_readKind_1 M) ((0 : Int32), (w_T_needWord (w_T_takeKind M) 1))).2 2) (7 : Int32)) else (w_T_takeWord (zf_for 4 (f_H_readKind_1 M) ((0 : Int32), (w_T_needWord (w_T_takeKind M) 1))).2 2)) 3) then (w_T_takeKind (w_T_takeWord (bif (v_T_takeWord (zf_for 4 (f_H_readKind_1 M) ((0 : Int32), (w_T_needWord (w_T_takeKind M) 1))).2 2) then (w_T_takeNumber (w_T_takeWord (zf_for 4 (f_H_readKind_1 M) ((0 : Int32), (w_T_needWord (w_T_takeKind M) 1))).2 2) (7 : Int32)) else (w_T_takeWord (zf_for 4 (f_H_readKind_1 M) ((0 : Int32), (w_T_needWord (w_T_takeKind M) 1))).2 2)) 3)) else (w_T_takeWord (bif (v_T_takeWord (zf_for 4 (f_H_readKind_1 M) ((0 : Int32), (w_T_needWord (w_T_takeKind M) 1))).2 2) then (w_T_takeNumber (w_T_takeWord (zf_for 4 (f_H_readKind_1 M) ((0 : Int32), (w_T_needWord (w_T_takeKind M) 1))).2 2) (7 : Int32)) else (w_T_takeWord (zf_for 4 (f_H_readKind_1 M) ((0 : Int32), (w_T_needWord (w_T_takeKind M) 1))).2 2)) 3)) 16 (v_T_takeKind M).toNatClampNeg (zf_for 4 (f_H_readKind_1 M) ((0 : Int32), (w_T_needWord (w_T_takeKind M) 1))).1) else (zz_up (zz_up (bif (v_T_takeWord (bif (v_T_takeWord (zf_for 4 (f_H_readKind_1 M) ((0 : Int32), (w_T_needWord (w_T_takeKind M) 1))).2 2) then (w_T_takeNumber (w_T_takeWord (zf_for 4 (f_H_readKind_1 M) ((0 : Int32), (w_T_needWord (w_T_takeKind M) 1))).2 2) (7 : Int32)) else (w_T_takeWord (zf_for 4 (f_H_readKind_1 M) ((0 : Int32), (w_T_needWord (w_T_takeKind M) 1))).2 2)) 3) then (w_T_takeKind (w_T_takeWord (bif (v_T_takeWord (zf_for 4 (f_H_readKind_1 M) ((0 : Int32), (w_T_needWord (w_T_takeKind M) 1))).2 2) then (w_T_takeNumber (w_T_takeWord (zf_for 4 (f_H_readKind_1 M) ((0 : Int32), (w_T_needWord (w_T_takeKind M) 1))).2 2) (7 : Int32)) else (w_T_takeWord (zf_for 4 (f_H_readKind_1 M) ((0 : Int32), (w_T_needWord (w_T_takeKind M) 1))).2 2)) 3)) else (w_T_takeWord (bif (v_T_takeWord (zf_for 4 (f_H_readKind_1 M) ((0 : Int32), (w_T_needWord (w_T_takeKind M) 1))).2 2) then (w_T_takeNumber (w_T_takeWord (zf_for 4 (f_H_readKind_1 M) ((0 : Int32), (w_T_needWord (w_T_takeKind M) 1))).2 2) (7 : Int32)) else (w_T_takeWord (zf_for 4 (f_H_readKind_1 M) ((0 : Int32), (w_T_needWord (w_T_takeKind M) 1))).2 2)) 3)) 16 (v_T_takeKind M).toNatClampNeg (zf_for 4 (f_H_readKind_1 M) ((0 : Int32), (w_T_needWord (w_T_takeKind M) 1))).1) 17 (v_T_takeKind M).toNatClampNeg (bif (v_T_takeWord (zf_for 4 (f_H_readKind_1 M) ((0 : Int32), (w_T_needWord (w_T_takeKind M) 1))).2 2) then (v_T_takeNumber (w_T_takeWord (zf_for 4 (f_H_readKind_1 M) ((0 : Int32), (w_T_needWord (w_T_takeKind M) 1))).2 2) (7 : Int32)) else (-1 : Int32)))) 18 (v_T_takeKind M).toNatClampNeg (bif (v_T_takeWord (bif (v_T_takeWord (zf_for 4 (f_H_readKind_1 M) ((0 : Int32), (w_T_needWord (w_T_takeKind M) 1))).2 2) then (w_T_takeNumber (w_T_takeWord (zf_for 4 (f_H_readKind_1 M) ((0 : Int32), (w_T_needWord (w_T_takeKind M) 1))).2 2) (7 : Int32)) else (w_T_takeWord (zf_for 4 (f_H_readKind_1 M) ((0 : Int32), (w_T_needWord (w_T_takeKind M) 1))).2 2)) 3) then (v_T_takeKind (w_T_takeWord (bif (v_T_takeWord (zf_for 4 (f_H_readKind_1 M) ((0 : Int32), (w_T_needWord (w_T_takeKind M) 1))).2 2) then (w_T_takeNumber (w_T_takeWord (zf_for 4 (f_H_readKind_1 M) ((0 : Int32), (w_T_needWord (w_T_takeKind M) 1))).2 2) (7 : Int32)) else (w_T_takeWord (zf_for 4 (f_H_readKind_1 M) ((0 : Int32), (w_T_needWord (w_T_takeKind M) 1))).2 2)) 3)) else (-1 : Int32)))) else (bif (v_T_takeWord (bif (v_T_takeWord (zf_for 4 (f_H_readKind_1 M) ((0 : Int32), (w_T_needWord (w_T_takeKind M) 1))).2 2) then (w_T_takeNumber (w_T_takeWord (zf_for 4 (f_H_readKind_1 M) ((0 : Int32), (w_T_needWord (w_T_takeKind M) 1))).2 2) (7 : Int32)) else (w_T_takeWord (zf_for 4 (f_H_readKind_1 M) ((0 : Int32), (w_T_needWord (w_T_takeKind M) 1))).2 2)) 3) then (w_T_takeKind (w_T_takeWord (bif (v_T_takeWord (zf_for 4 (f_H_readKind_1 M) ((0 : Int32), (w_T_needWord (w_T_takeKind M) 1))).2 2) then (w_T_takeNumber (w_T_takeWord (zf_for 4 (f_H_readKind_1 M) ((0 : Int32), (w_T_needWord (w_T_takeKind M) 1))).2 2) (7 : Int32)) else (w_T_takeWord (zf_for 4 (f_H_readKind_1 M) ((0 : Int32), (w_T_needWord (w_T_takeKind M) 1))).2 2)) 3)) else (w_T_takeWord (bif (v_T_takeWord (zf_for 4 (f_H_readKind_1 M) ((0 : Int32), (w_T_needWord (w_T_takeKind M) 1))).2 2) then (w_T_takeNumber (w_T_takeWord (zf_for 4 (f_H_readKind_1 M) ((0 : Int32), (w_T_needWord (w_T_takeKind M) 1))).2 2) (7 : Int32)) else (w_T_takeWord (zf_for 4 (f_H_readKind_1 M) ((0 : Int32), (w_T_needWord (w_T_takeKind M) 1))).2 2)) 3))))
def ok_H_readKind (M : zMem) : Prop := (ok_T_takeKind M ∧ (ok_T_needWord (w_T_takeKind M) 1 ∧ ((∀ i1, i1 < 4 → kb_H_readKind_1 M i1 (zf_for i1 (f_H_readKind_1 M) ((0 : Int32), (w_T_needWord (w_T_takeKind M) 1)))) ∧ (ok_T_takeWord (zf_for 4 (f_H_readKind_1 M) ((0 : Int32), (w_T_needWord (w_T_takeKind M) 1))).2 2 ∧ (((v_T_takeWord (zf_for 4 (f_H_readKind_1 M) ((0 : Int32), (w_T_needWord (w_T_takeKind M) 1))).2 2) = true → ok_T_takeNumber (w_T_takeWord (zf_for 4 (f_H_readKind_1 M) ((0 : Int32), (w_T_needWord (w_T_takeKind M) 1))).2 2) (7 : Int32)) ∧ (ok_T_takeWord (bif (v_T_takeWord (zf_for 4 (f_H_readKind_1 M) ((0 : Int32), (w_T_needWord (w_T_takeKind M) 1))).2 2) then (w_T_takeNumber (w_T_takeWord (zf_for 4 (f_H_readKind_1 M) ((0 : Int32), (w_T_needWord (w_T_takeKind M) 1))).2 2) (7 : Int32)) else (w_T_takeWord (zf_for 4 (f_H_readKind_1 M) ((0 : Int32), (w_T_needWord (w_T_takeKind M) 1))).2 2)) 3 ∧ (((v_T_takeWord (bif (v_T_takeWord (zf_for 4 (f_H_readKind_1 M) ((0 : Int32), (w_T_needWord (w_T_takeKind M) 1))).2 2) then (w_T_takeNumber (w_T_takeWord (zf_for 4 (f_H_readKind_1 M) ((0 : Int32), (w_T_needWord (w_T_takeKind M) 1))).2 2) (7 : Int32)) else (w_T_takeWord (zf_for 4 (f_H_readKind_1 M) ((0 : Int32), (w_T_needWord (w_T_takeKind M) 1))).2 2)) 3) = true → ok_T_takeKind (w_T_takeWord (bif (v_T_takeWord (zf_for 4 (f_H_readKind_1 M) ((0 : Int32), (w_T_needWord (w_T_takeKind M) 1))).2 2) then (w_T_takeNumber (w_T_takeWord (zf_for 4 (f_H_readKind_1 M) ((0 : Int32), (w_T_needWord (w_T_takeKind M) 1))).2 2) (7 : Int32)) else (w_T_takeWord (zf_for 4 (f_H_readKind_1 M) ((0 : Int32), (w_T_needWord (w_T_takeKind M) 1))).2 2)) 3)) ∧ ((decide ((v_T_takeKind M) < 0)) = false → ((decide ((v_T_takeKind M) < (8 : Int32))) = true → zz_in (v_T_takeKind M) 8 = true)))))))))
set_option maxRecDepth 20000 in
set_option maxHeartbeats 2000000 in
theorem s_H_readKind (L e : Nat) (J : zJem) (d : Nat) (M : zMem) (k0 : ok_H_readKind M) : zz_D (zm_H_readKind, d + 10, 0, [some (.ref 2), some (.ref 15), none, none, none, none], []) (zt_T L, zt_R, M, J, e) = some (.inl (none), (zt_T L, zt_R, (w_H_readKind M), J, e)) := by
  unfold ok_H_readKind at k0
  unfold w_H_readKind
  refine (zz_go 1 (fr' := (zm_H_readKind, d + 10, 1, [some (.ref 2), some (.ref 15), none, none, none, none], [.ref 2])) (h' := (zt_T L, zt_R, M, J, e)) (fun _ => rfl)).trans ?_
  obtain ⟨g1, k2⟩ := k0
  refine zl_vt (d := d + 9) rfl rfl rfl rfl rfl rfl rfl rfl rfl rfl (s_T_takeKind L e J (d + 7) M g1) ?_
  show zz_D (zm_H_readKind, d + 10, 4, [some (.ref 2), some (.ref 15), none, none, none, none], [.int (v_T_takeKind M)]) (zt_T L, zt_R, (w_T_takeKind M), J, e) = _
  refine (zz_go 3 (fr' := (zm_H_readKind, d + 10, 8, [some (.ref 2), some (.ref 15), some (.int (v_T_takeKind M)), none, none, none], [.ref (1000000 + 1), .ref 2])) (h' := (zt_T L, zt_R, (w_T_takeKind M), J, e)) (fun _ => rfl)).trans ?_
  obtain ⟨g3, k4⟩ := k2
  refine zl_vt (d := d + 9) rfl rfl rfl rfl rfl rfl rfl rfl rfl rfl (s_T_needWord L e J (d + 0) (w_T_takeKind M) 1 rfl g3) ?_
  show zz_D (zm_H_readKind, d + 10, 11, [some (.ref 2), some (.ref 15), some (.int (v_T_takeKind M)), none, none, none], []) (zt_T L, zt_R, (w_T_needWord (w_T_takeKind M) 1), J, e) = _
  refine (zz_go 4 (fr' := (zm_H_readKind, d + 10, 16, [some (.ref 2), some (.ref 15), some (.int (v_T_takeKind M)), some (.int (0 : Int32)), some (.int (0 : Int32)), none], [])) (h' := (zt_T L, zt_R, (w_T_needWord (w_T_takeKind M) 1), J, e)) (fun _ => rfl)).trans ?_
  obtain ⟨k5, k6⟩ := k4
  refine zf_forD (X := fun (i1 : Nat) (a1 : Int32 × zMem) => zz_D (zm_H_readKind, d + 10, 16, [some (.ref 2), some (.ref 15), some (.int (v_T_takeKind M)), some (.int a1.1), some (.int (Int32.ofNat i1)), none], []) (zt_T L, zt_R, a1.2, J, e)) (f := (f_H_readKind_1 M)) (a := ((0 : Int32), (w_T_needWord (w_T_takeKind M) 1))) 4 (fun i1 hi1 => ?_) ?_
  · intro hx7
    have k8 := k5 i1 hi1
    generalize zf_for i1 (f_H_readKind_1 M) ((0 : Int32), (w_T_needWord (w_T_takeKind M) 1)) = a1 at hx7 k8 ⊢
    show zz_D (zm_H_readKind, d + 10, 16, [some (.ref 2), some (.ref 15), some (.int (v_T_takeKind M)), some (.int a1.1), some (.int (Int32.ofNat i1)), none], []) (zt_T L, zt_R, a1.2, J, e) = _
    unfold kb_H_readKind_1 at k8
    refine (zz_go 2 (fr' := (zm_H_readKind, d + 10, 19, [some (.ref 2), some (.ref 15), some (.int (v_T_takeKind M)), some (.int a1.1), some (.int (Int32.ofNat i1)), none], [.int (4 : Int32), .int (Int32.ofNat i1)])) (h' := (zt_T L, zt_R, a1.2, J, e)) (fun _ => rfl)).trans ?_
    refine zc_geF rfl (zi_ltc (n := 4) (by omega) (by decide)) ?_
    refine (zz_go 2 (fr' := (zm_H_readKind, d + 10, 24, [some (.ref 2), some (.ref 15), some (.int (v_T_takeKind M)), some (.int a1.1), some (.int (Int32.ofNat i1)), none], [.ref 2, .int a1.1])) (h' := (zt_T L, zt_R, a1.2, J, e)) (fun _ => rfl)).trans ?_
    have g9 : ok_T_takeFigures a1.2 := k8
    refine zl_vt (d := d + 9) rfl rfl rfl rfl rfl rfl rfl rfl rfl rfl (s_T_takeFigures L e J (d + 7) a1.2 g9) ?_
    show zz_D (zm_H_readKind, d + 10, 27, [some (.ref 2), some (.ref 15), some (.int (v_T_takeKind M)), some (.int a1.1), some (.int (Int32.ofNat i1)), none], [.int (v_T_takeFigures a1.2), .int a1.1]) (zt_T L, zt_R, (w_T_takeFigures a1.2), J, e) = _
    refine (zz_go 8 (fr' := (zm_H_readKind, d + 10, 16, [some (.ref 2), some (.ref 15), some (.int (v_T_takeKind M)), some (.int (a1.1 ||| (zsl (v_T_takeFigures a1.2) ((4 : Int32) * (Int32.ofNat i1))))), some (.int (Int32.ofNat i1 + 1)), none], [])) (h' := (zt_T L, zt_R, (w_T_takeFigures a1.2), J, e)) (fun _ => rfl)).trans ?_
    rw [zi_succ i1]
    exact hx7
  show zz_D (zm_H_readKind, d + 10, 16, [some (.ref 2), some (.ref 15), some (.int (v_T_takeKind M)), some (.int (zf_for 4 (f_H_readKind_1 M) ((0 : Int32), (w_T_needWord (w_T_takeKind M) 1))).1), some (.int (Int32.ofNat 4)), none], []) (zt_T L, zt_R, (zf_for 4 (f_H_readKind_1 M) ((0 : Int32), (w_T_needWord (w_T_takeKind M) 1))).2, J, e) = _
  refine (zz_go 2 (fr' := (zm_H_readKind, d + 10, 19, [some (.ref 2), some (.ref 15), some (.int (v_T_takeKind M)), some (.int (zf_for 4 (f_H_readKind_1 M) ((0 : Int32), (w_T_needWord (w_T_takeKind M) 1))).1), some (.int (Int32.ofNat 4)), none], [.int (4 : Int32), .int (Int32.ofNat 4)])) (h' := (zt_T L, zt_R, (zf_for 4 (f_H_readKind_1 M) ((0 : Int32), (w_T_needWord (w_T_takeKind M) 1))).2, J, e)) (fun _ => rfl)).trans ?_
  refine zc_geT rfl (by decide) ?_
  refine zz_weak (L := [some (.ref 2), some (.ref 15), some (.int (v_T_takeKind M)), some (.int (zf_for 4 (f_H_readKind_1 M) ((0 : Int32), (w_T_needWord (w_T_takeKind M) 1))).1), none, none]) ⟨Or.inl rfl, Or.inl rfl, Or.inl rfl, Or.inl rfl, Or.inr ⟨rfl, rfl⟩, Or.inl rfl, trivial⟩ ?_
  refine (zz_go 2 (fr' := (zm_H_readKind, d + 10, 43, [some (.ref 2), some (.ref 15), some (.int (v_T_takeKind M)), some (.int (zf_for 4 (f_H_readKind_1 M) ((0 : Int32), (w_T_needWord (w_T_takeKind M) 1))).1), none, none], [.ref (1000000 + 2), .ref 2])) (h' := (zt_T L, zt_R, (zf_for 4 (f_H_readKind_1 M) ((0 : Int32), (w_T_needWord (w_T_takeKind M) 1))).2, J, e)) (fun _ => rfl)).trans ?_
  obtain ⟨g10, k11⟩ := k6
  refine zl_vt (d := d + 9) rfl rfl rfl rfl rfl rfl rfl rfl rfl rfl (s_T_takeWord L e J (d + 1) (zf_for 4 (f_H_readKind_1 M) ((0 : Int32), (w_T_needWord (w_T_takeKind M) 1))).2 2 rfl g10) ?_
  show zz_D (zm_H_readKind, d + 10, 46, [some (.ref 2), some (.ref 15), some (.int (v_T_takeKind M)), some (.int (zf_for 4 (f_H_readKind_1 M) ((0 : Int32), (w_T_needWord (w_T_takeKind M) 1))).1), none, none], [.int (zb (v_T_takeWord (zf_for 4 (f_H_readKind_1 M) ((0 : Int32), (w_T_needWord (w_T_takeKind M) 1))).2 2))]) (zt_T L, zt_R, (w_T_takeWord (zf_for 4 (f_H_readKind_1 M) ((0 : Int32), (w_T_needWord (w_T_takeKind M) 1))).2 2), J, e) = _
  obtain ⟨k12, k13⟩ := k11
  refine zz_jn (X := zz_D (zm_H_readKind, d + 10, 59, [some (.ref 2), some (.ref 15), some (.int (v_T_takeKind M)), some (.int (zf_for 4 (f_H_readKind_1 M) ((0 : Int32), (w_T_needWord (w_T_takeKind M) 1))).1), none, none], [.int (bif (v_T_takeWord (zf_for 4 (f_H_readKind_1 M) ((0 : Int32), (w_T_needWord (w_T_takeKind M) 1))).2 2) then (v_T_takeNumber (w_T_takeWord (zf_for 4 (f_H_readKind_1 M) ((0 : Int32), (w_T_needWord (w_T_takeKind M) 1))).2 2) (7 : Int32)) else (-1 : Int32))]) (zt_T L, zt_R, (bif (v_T_takeWord (zf_for 4 (f_H_readKind_1 M) ((0 : Int32), (w_T_needWord (w_T_takeKind M) 1))).2 2) then (w_T_takeNumber (w_T_takeWord (zf_for 4 (f_H_readKind_1 M) ((0 : Int32), (w_T_needWord (w_T_takeKind M) 1))).2 2) (7 : Int32)) else (w_T_takeWord (zf_for 4 (f_H_readKind_1 M) ((0 : Int32), (w_T_needWord (w_T_takeKind M) 1))).2 2)), J, e)) (fun j14 => ?_) ?_
  · rcases zz_bc (v_T_takeWord (zf_for 4 (f_H_readKind_1 M) ((0 : Int32), (w_T_needWord (w_T_takeKind M) 1))).2 2) with h15 | h15
    · refine zq_eT rfl h15 ?_
      have k16 := k12 h15
      refine (zz_go 2 (fr' := (zm_H_readKind, d + 10, 52, [some (.ref 2), some (.ref 15), some (.int (v_T_takeKind M)), some (.int (zf_for 4 (f_H_readKind_1 M) ((0 : Int32), (w_T_needWord (w_T_takeKind M) 1))).1), none, none], [.int (7 : Int32), .ref 2])) (h' := (zt_T L, zt_R, (w_T_takeWord (zf_for 4 (f_H_readKind_1 M) ((0 : Int32), (w_T_needWord (w_T_takeKind M) 1))).2 2), J, e)) (fun _ => rfl)).trans ?_
      have g17 : ok_T_takeNumber (w_T_takeWord (zf_for 4 (f_H_readKind_1 M) ((0 : Int32), (w_T_needWord (w_T_takeKind M) 1))).2 2) (7 : Int32) := k16
      refine zl_vt (d := d + 9) rfl rfl rfl rfl rfl rfl rfl rfl rfl rfl (s_T_takeNumber L e J (d + 7) (w_T_takeWord (zf_for 4 (f_H_readKind_1 M) ((0 : Int32), (w_T_needWord (w_T_takeKind M) 1))).2 2) (7 : Int32) g17) ?_
      show zz_D (zm_H_readKind, d + 10, 55, [some (.ref 2), some (.ref 15), some (.int (v_T_takeKind M)), some (.int (zf_for 4 (f_H_readKind_1 M) ((0 : Int32), (w_T_needWord (w_T_takeKind M) 1))).1), none, none], [.int (v_T_takeNumber (w_T_takeWord (zf_for 4 (f_H_readKind_1 M) ((0 : Int32), (w_T_needWord (w_T_takeKind M) 1))).2 2) (7 : Int32))]) (zt_T L, zt_R, (w_T_takeNumber (w_T_takeWord (zf_for 4 (f_H_readKind_1 M) ((0 : Int32), (w_T_needWord (w_T_takeKind M) 1))).2 2) (7 : Int32)), J, e) = _
      refine (zz_go 1 (fr' := (zm_H_readKind, d + 10, 59, [some (.ref 2), some (.ref 15), some (.int (v_T_takeKind M)), some (.int (zf_for 4 (f_H_readKind_1 M) ((0 : Int32), (w_T_needWord (w_T_takeKind M) 1))).1), none, none], [.int (v_T_takeNumber (w_T_takeWord (zf_for 4 (f_H_readKind_1 M) ((0 : Int32), (w_T_needWord (w_T_takeKind M) 1))).2 2) (7 : Int32))])) (h' := (zt_T L, zt_R, (w_T_takeNumber (w_T_takeWord (zf_for 4 (f_H_readKind_1 M) ((0 : Int32), (w_T_needWord (w_T_takeKind M) 1))).2 2) (7 : Int32)), J, e)) (fun _ => rfl)).trans ?_
      simpa only [h15, zk_t, zk_f, zb_t, zb_f] using j14
    · refine zq_eF rfl h15 ?_
      refine (zz_go 1 (fr' := (zm_H_readKind, d + 10, 59, [some (.ref 2), some (.ref 15), some (.int (v_T_takeKind M)), some (.int (zf_for 4 (f_H_readKind_1 M) ((0 : Int32), (w_T_needWord (w_T_takeKind M) 1))).1), none, none], [.int (-1 : Int32)])) (h' := (zt_T L, zt_R, (w_T_takeWord (zf_for 4 (f_H_readKind_1 M) ((0 : Int32), (w_T_needWord (w_T_takeKind M) 1))).2 2), J, e)) (fun _ => rfl)).trans ?_
      simpa only [h15, zk_t, zk_f, zb_t, zb_f] using j14
  refine (zz_go 3 (fr' := (zm_H_readKind, d + 10, 64, [some (.ref 2), some (.ref 15), some (.int (v_T_takeKind M)), some (.int (zf_for 4 (f_H_readKind_1 M) ((0 : Int32), (w_T_needWord (w_T_takeKind M) 1))).1), some (.int (bif (v_T_takeWord (zf_for 4 (f_H_readKind_1 M) ((0 : Int32), (w_T_needWord (w_T_takeKind M) 1))).2 2) then (v_T_takeNumber (w_T_takeWord (zf_for 4 (f_H_readKind_1 M) ((0 : Int32), (w_T_needWord (w_T_takeKind M) 1))).2 2) (7 : Int32)) else (-1 : Int32))), none], [.ref (1000000 + 3), .ref 2])) (h' := (zt_T L, zt_R, (bif (v_T_takeWord (zf_for 4 (f_H_readKind_1 M) ((0 : Int32), (w_T_needWord (w_T_takeKind M) 1))).2 2) then (w_T_takeNumber (w_T_takeWord (zf_for 4 (f_H_readKind_1 M) ((0 : Int32), (w_T_needWord (w_T_takeKind M) 1))).2 2) (7 : Int32)) else (w_T_takeWord (zf_for 4 (f_H_readKind_1 M) ((0 : Int32), (w_T_needWord (w_T_takeKind M) 1))).2 2)), J, e)) (fun _ => rfl)).trans ?_
  obtain ⟨g18, k19⟩ := k13
  refine zl_vt (d := d + 9) rfl rfl rfl rfl rfl rfl rfl rfl rfl rfl (s_T_takeWord L e J (d + 1) (bif (v_T_takeWord (zf_for 4 (f_H_readKind_1 M) ((0 : Int32), (w_T_needWord (w_T_takeKind M) 1))).2 2) then (w_T_takeNumber (w_T_takeWord (zf_for 4 (f_H_readKind_1 M) ((0 : Int32), (w_T_needWord (w_T_takeKind M) 1))).2 2) (7 : Int32)) else (w_T_takeWord (zf_for 4 (f_H_readKind_1 M) ((0 : Int32), (w_T_needWord (w_T_takeKind M) 1))).2 2)) 3 rfl g18) ?_
  show zz_D (zm_H_readKind, d + 10, 67, [some (.ref 2), some (.ref 15), some (.int (v_T_takeKind M)), some (.int (zf_for 4 (f_H_readKind_1 M) ((0 : Int32), (w_T_needWord (w_T_takeKind M) 1))).1), some (.int (bif (v_T_takeWord (zf_for 4 (f_H_readKind_1 M) ((0 : Int32), (w_T_needWord (w_T_takeKind M) 1))).2 2) then (v_T_takeNumber (w_T_takeWord (zf_for 4 (f_H_readKind_1 M) ((0 : Int32), (w_T_needWord (w_T_takeKind M) 1))).2 2) (7 : Int32)) else (-1 : Int32))), none], [.int (zb (v_T_takeWord (bif (v_T_takeWord (zf_for 4 (f_H_readKind_1 M) ((0 : Int32), (w_T_needWord (w_T_takeKind M) 1))).2 2) then (w_T_takeNumber (w_T_takeWord (zf_for 4 (f_H_readKind_1 M) ((0 : Int32), (w_T_needWord (w_T_takeKind M) 1))).2 2) (7 : Int32)) else (w_T_takeWord (zf_for 4 (f_H_readKind_1 M) ((0 : Int32), (w_T_needWord (w_T_takeKind M) 1))).2 2)) 3))]) (zt_T L, zt_R, (w_T_takeWord (bif (v_T_takeWord (zf_for 4 (f_H_readKind_1 M) ((0 : Int32), (w_T_needWord (w_T_takeKind M) 1))).2 2) then (w_T_takeNumber (w_T_takeWord (zf_for 4 (f_H_readKind_1 M) ((0 : Int32), (w_T_needWord (w_T_takeKind M) 1))).2 2) (7 : Int32)) else (w_T_takeWord (zf_for 4 (f_H_readKind_1 M) ((0 : Int32), (w_T_needWord (w_T_takeKind M) 1))).2 2)) 3), J, e) = _
  obtain ⟨k20, k21⟩ := k19
  refine zz_jn (X := zz_D (zm_H_readKind, d + 10, 78, [none, some (.ref 15), some (.int (v_T_takeKind M)), some (.int (zf_for 4 (f_H_readKind_1 M) ((0 : Int32), (w_T_needWord (w_T_takeKind M) 1))).1), some (.int (bif (v_T_takeWord (zf_for 4 (f_H_readKind_1 M) ((0 : Int32), (w_T_needWord (w_T_takeKind M) 1))).2 2) then (v_T_takeNumber (w_T_takeWord (zf_for 4 (f_H_readKind_1 M) ((0 : Int32), (w_T_needWord (w_T_takeKind M) 1))).2 2) (7 : Int32)) else (-1 : Int32))), none], [.int (bif (v_T_takeWord (bif (v_T_takeWord (zf_for 4 (f_H_readKind_1 M) ((0 : Int32), (w_T_needWord (w_T_takeKind M) 1))).2 2) then (w_T_takeNumber (w_T_takeWord (zf_for 4 (f_H_readKind_1 M) ((0 : Int32), (w_T_needWord (w_T_takeKind M) 1))).2 2) (7 : Int32)) else (w_T_takeWord (zf_for 4 (f_H_readKind_1 M) ((0 : Int32), (w_T_needWord (w_T_takeKind M) 1))).2 2)) 3) then (v_T_takeKind (w_T_takeWord (bif (v_T_takeWord (zf_for 4 (f_H_readKind_1 M) ((0 : Int32), (w_T_needWord (w_T_takeKind M) 1))).2 2) then (w_T_takeNumber (w_T_takeWord (zf_for 4 (f_H_readKind_1 M) ((0 : Int32), (w_T_needWord (w_T_takeKind M) 1))).2 2) (7 : Int32)) else (w_T_takeWord (zf_for 4 (f_H_readKind_1 M) ((0 : Int32), (w_T_needWord (w_T_takeKind M) 1))).2 2)) 3)) else (-1 : Int32))]) (zt_T L, zt_R, (bif (v_T_takeWord (bif (v_T_takeWord (zf_for 4 (f_H_readKind_1 M) ((0 : Int32), (w_T_needWord (w_T_takeKind M) 1))).2 2) then (w_T_takeNumber (w_T_takeWord (zf_for 4 (f_H_readKind_1 M) ((0 : Int32), (w_T_needWord (w_T_takeKind M) 1))).2 2) (7 : Int32)) else (w_T_takeWord (zf_for 4 (f_H_readKind_1 M) ((0 : Int32), (w_T_needWord (w_T_takeKind M) 1))).2 2)) 3) then (w_T_takeKind (w_T_takeWord (bif (v_T_takeWord (zf_for 4 (f_H_readKind_1 M) ((0 : Int32), (w_T_needWord (w_T_takeKind M) 1))).2 2) then (w_T_takeNumber (w_T_takeWord (zf_for 4 (f_H_readKind_1 M) ((0 : Int32), (w_T_needWord (w_T_takeKind M) 1))).2 2) (7 : Int32)) else (w_T_takeWord (zf_for 4 (f_H_readKind_1 M) ((0 : Int32), (w_T_needWord (w_T_takeKind M) 1))).2 2)) 3)) else (w_T_takeWord (bif (v_T_takeWord (zf_for 4 (f_H_readKind_1 M) ((0 : Int32), (w_T_needWord (w_T_takeKind M) 1))).2 2) then (w_T_takeNumber (w_T_takeWord (zf_for 4 (f_H_readKind_1 M) ((0 : Int32), (w_T_needWord (w_T_takeKind M) 1))).2 2) (7 : Int32)) else (w_T_takeWord (zf_for 4 (f_H_readKind_1 M) ((0 : Int32), (w_T_needWord (w_T_takeKind M) 1))).2 2)) 3)), J, e)) (fun j22 => ?_) ?_
  · rcases zz_bc (v_T_takeWord (bif (v_T_takeWord (zf_for 4 (f_H_readKind_1 M) ((0 : Int32), (w_T_needWord (w_T_takeKind M) 1))).2 2) then (w_T_takeNumber (w_T_takeWord (zf_for 4 (f_H_readKind_1 M) ((0 : Int32), (w_T_needWord (w_T_takeKind M) 1))).2 2) (7 : Int32)) else (w_T_takeWord (zf_for 4 (f_H_readKind_1 M) ((0 : Int32), (w_T_needWord (w_T_takeKind M) 1))).2 2)) 3) with h23 | h23
    · refine zq_eT rfl h23 ?_
      have k24 := k20 h23
      refine (zz_go 1 (fr' := (zm_H_readKind, d + 10, 71, [some (.ref 2), some (.ref 15), some (.int (v_T_takeKind M)), some (.int (zf_for 4 (f_H_readKind_1 M) ((0 : Int32), (w_T_needWord (w_T_takeKind M) 1))).1), some (.int (bif (v_T_takeWord (zf_for 4 (f_H_readKind_1 M) ((0 : Int32), (w_T_needWord (w_T_takeKind M) 1))).2 2) then (v_T_takeNumber (w_T_takeWord (zf_for 4 (f_H_readKind_1 M) ((0 : Int32), (w_T_needWord (w_T_takeKind M) 1))).2 2) (7 : Int32)) else (-1 : Int32))), none], [.ref 2])) (h' := (zt_T L, zt_R, (w_T_takeWord (bif (v_T_takeWord (zf_for 4 (f_H_readKind_1 M) ((0 : Int32), (w_T_needWord (w_T_takeKind M) 1))).2 2) then (w_T_takeNumber (w_T_takeWord (zf_for 4 (f_H_readKind_1 M) ((0 : Int32), (w_T_needWord (w_T_takeKind M) 1))).2 2) (7 : Int32)) else (w_T_takeWord (zf_for 4 (f_H_readKind_1 M) ((0 : Int32), (w_T_needWord (w_T_takeKind M) 1))).2 2)) 3), J, e)) (fun _ => rfl)).trans ?_
      have g25 : ok_T_takeKind (w_T_takeWord (bif (v_T_takeWord (zf_for 4 (f_H_readKind_1 M) ((0 : Int32), (w_T_needWord (w_T_takeKind M) 1))).2 2) then (w_T_takeNumber (w_T_takeWord (zf_for 4 (f_H_readKind_1 M) ((0 : Int32), (w_T_needWord (w_T_takeKind M) 1))).2 2) (7 : Int32)) else (w_T_takeWord (zf_for 4 (f_H_readKind_1 M) ((0 : Int32), (w_T_needWord (w_T_takeKind M) 1))).2 2)) 3) := k24
      refine zl_vt (d := d + 9) rfl rfl rfl rfl rfl rfl rfl rfl rfl rfl (s_T_takeKind L e J (d + 7) (w_T_takeWord (bif (v_T_takeWord (zf_for 4 (f_H_readKind_1 M) ((0 : Int32), (w_T_needWord (w_T_takeKind M) 1))).2 2) then (w_T_takeNumber (w_T_takeWord (zf_for 4 (f_H_readKind_1 M) ((0 : Int32), (w_T_needWord (w_T_takeKind M) 1))).2 2) (7 : Int32)) else (w_T_takeWord (zf_for 4 (f_H_readKind_1 M) ((0 : Int32), (w_T_needWord (w_T_takeKind M) 1))).2 2)) 3) g25) ?_
      show zz_D (zm_H_readKind, d + 10, 74, [some (.ref 2), some (.ref 15), some (.int (v_T_takeKind M)), some (.int (zf_for 4 (f_H_readKind_1 M) ((0 : Int32), (w_T_needWord (w_T_takeKind M) 1))).1), some (.int (bif (v_T_takeWord (zf_for 4 (f_H_readKind_1 M) ((0 : Int32), (w_T_needWord (w_T_takeKind M) 1))).2 2) then (v_T_takeNumber (w_T_takeWord (zf_for 4 (f_H_readKind_1 M) ((0 : Int32), (w_T_needWord (w_T_takeKind M) 1))).2 2) (7 : Int32)) else (-1 : Int32))), none], [.int (v_T_takeKind (w_T_takeWord (bif (v_T_takeWord (zf_for 4 (f_H_readKind_1 M) ((0 : Int32), (w_T_needWord (w_T_takeKind M) 1))).2 2) then (w_T_takeNumber (w_T_takeWord (zf_for 4 (f_H_readKind_1 M) ((0 : Int32), (w_T_needWord (w_T_takeKind M) 1))).2 2) (7 : Int32)) else (w_T_takeWord (zf_for 4 (f_H_readKind_1 M) ((0 : Int32), (w_T_needWord (w_T_takeKind M) 1))).2 2)) 3))]) (zt_T L, zt_R, (w_T_takeKind (w_T_takeWord (bif (v_T_takeWord (zf_for 4 (f_H_readKind_1 M) ((0 : Int32), (w_T_needWord (w_T_takeKind M) 1))).2 2) then (w_T_takeNumber (w_T_takeWord (zf_for 4 (f_H_readKind_1 M) ((0 : Int32), (w_T_needWord (w_T_takeKind M) 1))).2 2) (7 : Int32)) else (w_T_takeWord (zf_for 4 (f_H_readKind_1 M) ((0 : Int32), (w_T_needWord (w_T_takeKind M) 1))).2 2)) 3)), J, e) = _
      refine (zz_go 1 (fr' := (zm_H_readKind, d + 10, 78, [some (.ref 2), some (.ref 15), some (.int (v_T_takeKind M)), some (.int (zf_for 4 (f_H_readKind_1 M) ((0 : Int32), (w_T_needWord (w_T_takeKind M) 1))).1), some (.int (bif (v_T_takeWord (zf_for 4 (f_H_readKind_1 M) ((0 : Int32), (w_T_needWord (w_T_takeKind M) 1))).2 2) then (v_T_takeNumber (w_T_takeWord (zf_for 4 (f_H_readKind_1 M) ((0 : Int32), (w_T_needWord (w_T_takeKind M) 1))).2 2) (7 : Int32)) else (-1 : Int32))), none], [.int (v_T_takeKind (w_T_takeWord (bif (v_T_takeWord (zf_for 4 (f_H_readKind_1 M) ((0 : Int32), (w_T_needWord (w_T_takeKind M) 1))).2 2) then (w_T_takeNumber (w_T_takeWord (zf_for 4 (f_H_readKind_1 M) ((0 : Int32), (w_T_needWord (w_T_takeKind M) 1))).2 2) (7 : Int32)) else (w_T_takeWord (zf_for 4 (f_H_readKind_1 M) ((0 : Int32), (w_T_needWord (w_T_takeKind M) 1))).2 2)) 3))])) (h' := (zt_T L, zt_R, (w_T_takeKind (w_T_takeWord (bif (v_T_takeWord (zf_for 4 (f_H_readKind_1 M) ((0 : Int32), (w_T_needWord (w_T_takeKind M) 1))).2 2) then (w_T_takeNumber (w_T_takeWord (zf_for 4 (f_H_readKind_1 M) ((0 : Int32), (w_T_needWord (w_T_takeKind M) 1))).2 2) (7 : Int32)) else (w_T_takeWord (zf_for 4 (f_H_readKind_1 M) ((0 : Int32), (w_T_needWord (w_T_takeKind M) 1))).2 2)) 3)), J, e)) (fun _ => rfl)).trans ?_
      refine zz_weak (L := [none, some (.ref 15), some (.int (v_T_takeKind M)), some (.int (zf_for 4 (f_H_readKind_1 M) ((0 : Int32), (w_T_needWord (w_T_takeKind M) 1))).1), some (.int (bif (v_T_takeWord (zf_for 4 (f_H_readKind_1 M) ((0 : Int32), (w_T_needWord (w_T_takeKind M) 1))).2 2) then (v_T_takeNumber (w_T_takeWord (zf_for 4 (f_H_readKind_1 M) ((0 : Int32), (w_T_needWord (w_T_takeKind M) 1))).2 2) (7 : Int32)) else (-1 : Int32))), none]) ⟨Or.inr ⟨rfl, rfl⟩, Or.inl rfl, Or.inl rfl, Or.inl rfl, Or.inl rfl, Or.inl rfl, trivial⟩ ?_
      simpa only [h23, zk_t, zk_f, zb_t, zb_f] using j22
    · refine zq_eF rfl h23 ?_
      refine (zz_go 1 (fr' := (zm_H_readKind, d + 10, 78, [some (.ref 2), some (.ref 15), some (.int (v_T_takeKind M)), some (.int (zf_for 4 (f_H_readKind_1 M) ((0 : Int32), (w_T_needWord (w_T_takeKind M) 1))).1), some (.int (bif (v_T_takeWord (zf_for 4 (f_H_readKind_1 M) ((0 : Int32), (w_T_needWord (w_T_takeKind M) 1))).2 2) then (v_T_takeNumber (w_T_takeWord (zf_for 4 (f_H_readKind_1 M) ((0 : Int32), (w_T_needWord (w_T_takeKind M) 1))).2 2) (7 : Int32)) else (-1 : Int32))), none], [.int (-1 : Int32)])) (h' := (zt_T L, zt_R, (w_T_takeWord (bif (v_T_takeWord (zf_for 4 (f_H_readKind_1 M) ((0 : Int32), (w_T_needWord (w_T_takeKind M) 1))).2 2) then (w_T_takeNumber (w_T_takeWord (zf_for 4 (f_H_readKind_1 M) ((0 : Int32), (w_T_needWord (w_T_takeKind M) 1))).2 2) (7 : Int32)) else (w_T_takeWord (zf_for 4 (f_H_readKind_1 M) ((0 : Int32), (w_T_needWord (w_T_takeKind M) 1))).2 2)) 3), J, e)) (fun _ => rfl)).trans ?_
      refine zz_weak (L := [none, some (.ref 15), some (.int (v_T_takeKind M)), some (.int (zf_for 4 (f_H_readKind_1 M) ((0 : Int32), (w_T_needWord (w_T_takeKind M) 1))).1), some (.int (bif (v_T_takeWord (zf_for 4 (f_H_readKind_1 M) ((0 : Int32), (w_T_needWord (w_T_takeKind M) 1))).2 2) then (v_T_takeNumber (w_T_takeWord (zf_for 4 (f_H_readKind_1 M) ((0 : Int32), (w_T_needWord (w_T_takeKind M) 1))).2 2) (7 : Int32)) else (-1 : Int32))), none]) ⟨Or.inr ⟨rfl, rfl⟩, Or.inl rfl, Or.inl rfl, Or.inl rfl, Or.inl rfl, Or.inl rfl, trivial⟩ ?_
      simpa only [h23, zk_t, zk_f, zb_t, zb_f] using j22
  refine (zz_go 2 (fr' := (zm_H_readKind, d + 10, 81, [none, some (.ref 15), some (.int (v_T_takeKind M)), some (.int (zf_for 4 (f_H_readKind_1 M) ((0 : Int32), (w_T_needWord (w_T_takeKind M) 1))).1), some (.int (bif (v_T_takeWord (zf_for 4 (f_H_readKind_1 M) ((0 : Int32), (w_T_needWord (w_T_takeKind M) 1))).2 2) then (v_T_takeNumber (w_T_takeWord (zf_for 4 (f_H_readKind_1 M) ((0 : Int32), (w_T_needWord (w_T_takeKind M) 1))).2 2) (7 : Int32)) else (-1 : Int32))), some (.int (bif (v_T_takeWord (bif (v_T_takeWord (zf_for 4 (f_H_readKind_1 M) ((0 : Int32), (w_T_needWord (w_T_takeKind M) 1))).2 2) then (w_T_takeNumber (w_T_takeWord (zf_for 4 (f_H_readKind_1 M) ((0 : Int32), (w_T_needWord (w_T_takeKind M) 1))).2 2) (7 : Int32)) else (w_T_takeWord (zf_for 4 (f_H_readKind_1 M) ((0 : Int32), (w_T_needWord (w_T_takeKind M) 1))).2 2)) 3) then (v_T_takeKind (w_T_takeWord (bif (v_T_takeWord (zf_for 4 (f_H_readKind_1 M) ((0 : Int32), (w_T_needWord (w_T_takeKind M) 1))).2 2) then (w_T_takeNumber (w_T_takeWord (zf_for 4 (f_H_readKind_1 M) ((0 : Int32), (w_T_needWord (w_T_takeKind M) 1))).2 2) (7 : Int32)) else (w_T_takeWord (zf_for 4 (f_H_readKind_1 M) ((0 : Int32), (w_T_needWord (w_T_takeKind M) 1))).2 2)) 3)) else (-1 : Int32)))], [.int (v_T_takeKind M)])) (h' := (zt_T L, zt_R, (bif (v_T_takeWord (bif (v_T_takeWord (zf_for 4 (f_H_readKind_1 M) ((0 : Int32), (w_T_needWord (w_T_takeKind M) 1))).2 2) then (w_T_takeNumber (w_T_takeWord (zf_for 4 (f_H_readKind_1 M) ((0 : Int32), (w_T_needWord (w_T_takeKind M) 1))).2 2) (7 : Int32)) else (w_T_takeWord (zf_for 4 (f_H_readKind_1 M) ((0 : Int32), (w_T_needWord (w_T_takeKind M) 1))).2 2)) 3) then (w_T_takeKind (w_T_takeWord (bif (v_T_takeWord (zf_for 4 (f_H_readKind_1 M) ((0 : Int32), (w_T_needWord (w_T_takeKind M) 1))).2 2) then (w_T_takeNumber (w_T_takeWord (zf_for 4 (f_H_readKind_1 M) ((0 : Int32), (w_T_needWord (w_T_takeKind M) 1))).2 2) (7 : Int32)) else (w_T_takeWord (zf_for 4 (f_H_readKind_1 M) ((0 : Int32), (w_T_needWord (w_T_takeKind M) 1))).2 2)) 3)) else (w_T_takeWord (bif (v_T_takeWord (zf_for 4 (f_H_readKind_1 M) ((0 : Int32), (w_T_needWord (w_T_takeKind M) 1))).2 2) then (w_T_takeNumber (w_T_takeWord (zf_for 4 (f_H_readKind_1 M) ((0 : Int32), (w_T_needWord (w_T_takeKind M) 1))).2 2) (7 : Int32)) else (w_T_takeWord (zf_for 4 (f_H_readKind_1 M) ((0 : Int32), (w_T_needWord (w_T_takeKind M) 1))).2 2)) 3)), J, e)) (fun _ => rfl)).trans ?_
  rcases zz_bc (decide ((v_T_takeKind M) < 0)) with h26 | h26
  · refine zo_ltT rfl h26 ?_
    refine (zz_end 1 (r := (.inl none, (zt_T L, zt_R, (bif (v_T_takeWord (bif (v_T_takeWord (zf_for 4 (f_H_readKind_1 M) ((0 : Int32), (w_T_needWord (w_T_takeKind M) 1))).2 2) then (w_T_takeNumber (w_T_takeWord (zf_for 4 (f_H_readKind_1 M) ((0 : Int32), (w_T_needWord (w_T_takeKind M) 1))).2 2) (7 : Int32)) else (w_T_takeWord (zf_for 4 (f_H_readKind_1 M) ((0 : Int32), (w_T_needWord (w_T_takeKind M) 1))).2 2)) 3) then (w_T_takeKind (w_T_takeWord (bif (v_T_takeWord (zf_for 4 (f_H_readKind_1 M) ((0 : Int32), (w_T_needWord (w_T_takeKind M) 1))).2 2) then (w_T_takeNumber (w_T_takeWord (zf_for 4 (f_H_readKind_1 M) ((0 : Int32), (w_T_needWord (w_T_takeKind M) 1))).2 2) (7 : Int32)) else (w_T_takeWord (zf_for 4 (f_H_readKind_1 M) ((0 : Int32), (w_T_needWord (w_T_takeKind M) 1))).2 2)) 3)) else (w_T_takeWord (bif (v_T_takeWord (zf_for 4 (f_H_readKind_1 M) ((0 : Int32), (w_T_needWord (w_T_takeKind M) 1))).2 2) then (w_T_takeNumber (w_T_takeWord (zf_for 4 (f_H_readKind_1 M) ((0 : Int32), (w_T_needWord (w_T_takeKind M) 1))).2 2) (7 : Int32)) else (w_T_takeWord (zf_for 4 (f_H_readKind_1 M) ((0 : Int32), (w_T_needWord (w_T_takeKind M) 1))).2 2)) 3)), J, e))) (fun _ => rfl)).trans ?_
    first | (simp only [h26, zk_t, zk_f, zb_t, zb_f]; done) | (simp only [h26, zk_t, zk_f, zb_t, zb_f]; rfl) | rfl
  · refine zo_ltF rfl h26 ?_
    have k27 := k21 h26
    refine (zz_go 2 (fr' := (zm_H_readKind, d + 10, 87, [none, some (.ref 15), some (.int (v_T_takeKind M)), some (.int (zf_for 4 (f_H_readKind_1 M) ((0 : Int32), (w_T_needWord (w_T_takeKind M) 1))).1), some (.int (bif (v_T_takeWord (zf_for 4 (f_H_readKind_1 M) ((0 : Int32), (w_T_needWord (w_T_takeKind M) 1))).2 2) then (v_T_takeNumber (w_T_takeWord (zf_for 4 (f_H_readKind_1 M) ((0 : Int32), (w_T_needWord (w_T_takeKind M) 1))).2 2) (7 : Int32)) else (-1 : Int32))), some (.int (bif (v_T_takeWord (bif (v_T_takeWord (zf_for 4 (f_H_readKind_1 M) ((0 : Int32), (w_T_needWord (w_T_takeKind M) 1))).2 2) then (w_T_takeNumber (w_T_takeWord (zf_for 4 (f_H_readKind_1 M) ((0 : Int32), (w_T_needWord (w_T_takeKind M) 1))).2 2) (7 : Int32)) else (w_T_takeWord (zf_for 4 (f_H_readKind_1 M) ((0 : Int32), (w_T_needWord (w_T_takeKind M) 1))).2 2)) 3) then (v_T_takeKind (w_T_takeWord (bif (v_T_takeWord (zf_for 4 (f_H_readKind_1 M) ((0 : Int32), (w_T_needWord (w_T_takeKind M) 1))).2 2) then (w_T_takeNumber (w_T_takeWord (zf_for 4 (f_H_readKind_1 M) ((0 : Int32), (w_T_needWord (w_T_takeKind M) 1))).2 2) (7 : Int32)) else (w_T_takeWord (zf_for 4 (f_H_readKind_1 M) ((0 : Int32), (w_T_needWord (w_T_takeKind M) 1))).2 2)) 3)) else (-1 : Int32)))], [.int (8 : Int32), .int (v_T_takeKind M)])) (h' := (zt_T L, zt_R, (bif (v_T_takeWord (bif (v_T_takeWord (zf_for 4 (f_H_readKind_1 M) ((0 : Int32), (w_T_needWord (w_T_takeKind M) 1))).2 2) then (w_T_takeNumber (w_T_takeWord (zf_for 4 (f_H_readKind_1 M) ((0 : Int32), (w_T_needWord (w_T_takeKind M) 1))).2 2) (7 : Int32)) else (w_T_takeWord (zf_for 4 (f_H_readKind_1 M) ((0 : Int32), (w_T_needWord (w_T_takeKind M) 1))).2 2)) 3) then (w_T_takeKind (w_T_takeWord (bif (v_T_takeWord (zf_for 4 (f_H_readKind_1 M) ((0 : Int32), (w_T_needWord (w_T_takeKind M) 1))).2 2) then (w_T_takeNumber (w_T_takeWord (zf_for 4 (f_H_readKind_1 M) ((0 : Int32), (w_T_needWord (w_T_takeKind M) 1))).2 2) (7 : Int32)) else (w_T_takeWord (zf_for 4 (f_H_readKind_1 M) ((0 : Int32), (w_T_needWord (w_T_takeKind M) 1))).2 2)) 3)) else (w_T_takeWord (bif (v_T_takeWord (zf_for 4 (f_H_readKind_1 M) ((0 : Int32), (w_T_needWord (w_T_takeKind M) 1))).2 2) then (w_T_takeNumber (w_T_takeWord (zf_for 4 (f_H_readKind_1 M) ((0 : Int32), (w_T_needWord (w_T_takeKind M) 1))).2 2) (7 : Int32)) else (w_T_takeWord (zf_for 4 (f_H_readKind_1 M) ((0 : Int32), (w_T_needWord (w_T_takeKind M) 1))).2 2)) 3)), J, e)) (fun _ => rfl)).trans ?_
    rcases zz_bc (decide ((v_T_takeKind M) < (8 : Int32))) with h28 | h28
    · refine zc_ltT rfl h28 ?_
      have k29 := k27 h28
      refine (zz_go 1 (fr' := (zm_H_readKind, d + 10, 92, [none, some (.ref 15), some (.int (v_T_takeKind M)), some (.int (zf_for 4 (f_H_readKind_1 M) ((0 : Int32), (w_T_needWord (w_T_takeKind M) 1))).1), some (.int (bif (v_T_takeWord (zf_for 4 (f_H_readKind_1 M) ((0 : Int32), (w_T_needWord (w_T_takeKind M) 1))).2 2) then (v_T_takeNumber (w_T_takeWord (zf_for 4 (f_H_readKind_1 M) ((0 : Int32), (w_T_needWord (w_T_takeKind M) 1))).2 2) (7 : Int32)) else (-1 : Int32))), some (.int (bif (v_T_takeWord (bif (v_T_takeWord (zf_for 4 (f_H_readKind_1 M) ((0 : Int32), (w_T_needWord (w_T_takeKind M) 1))).2 2) then (w_T_takeNumber (w_T_takeWord (zf_for 4 (f_H_readKind_1 M) ((0 : Int32), (w_T_needWord (w_T_takeKind M) 1))).2 2) (7 : Int32)) else (w_T_takeWord (zf_for 4 (f_H_readKind_1 M) ((0 : Int32), (w_T_needWord (w_T_takeKind M) 1))).2 2)) 3) then (v_T_takeKind (w_T_takeWord (bif (v_T_takeWord (zf_for 4 (f_H_readKind_1 M) ((0 : Int32), (w_T_needWord (w_T_takeKind M) 1))).2 2) then (w_T_takeNumber (w_T_takeWord (zf_for 4 (f_H_readKind_1 M) ((0 : Int32), (w_T_needWord (w_T_takeKind M) 1))).2 2) (7 : Int32)) else (w_T_takeWord (zf_for 4 (f_H_readKind_1 M) ((0 : Int32), (w_T_needWord (w_T_takeKind M) 1))).2 2)) 3)) else (-1 : Int32)))], [.ref 15])) (h' := (zt_T L, zt_R, (bif (v_T_takeWord (bif (v_T_takeWord (zf_for 4 (f_H_readKind_1 M) ((0 : Int32), (w_T_needWord (w_T_takeKind M) 1))).2 2) then (w_T_takeNumber (w_T_takeWord (zf_for 4 (f_H_readKind_1 M) ((0 : Int32), (w_T_needWord (w_T_takeKind M) 1))).2 2) (7 : Int32)) else (w_T_takeWord (zf_for 4 (f_H_readKind_1 M) ((0 : Int32), (w_T_needWord (w_T_takeKind M) 1))).2 2)) 3) then (w_T_takeKind (w_T_takeWord (bif (v_T_takeWord (zf_for 4 (f_H_readKind_1 M) ((0 : Int32), (w_T_needWord (w_T_takeKind M) 1))).2 2) then (w_T_takeNumber (w_T_takeWord (zf_for 4 (f_H_readKind_1 M) ((0 : Int32), (w_T_needWord (w_T_takeKind M) 1))).2 2) (7 : Int32)) else (w_T_takeWord (zf_for 4 (f_H_readKind_1 M) ((0 : Int32), (w_T_needWord (w_T_takeKind M) 1))).2 2)) 3)) else (w_T_takeWord (bif (v_T_takeWord (zf_for 4 (f_H_readKind_1 M) ((0 : Int32), (w_T_needWord (w_T_takeKind M) 1))).2 2) then (w_T_takeNumber (w_T_takeWord (zf_for 4 (f_H_readKind_1 M) ((0 : Int32), (w_T_needWord (w_T_takeKind M) 1))).2 2) (7 : Int32)) else (w_T_takeWord (zf_for 4 (f_H_readKind_1 M) ((0 : Int32), (w_T_needWord (w_T_takeKind M) 1))).2 2)) 3)), J, e)) (fun _ => rfl)).trans ?_
      refine zl_getR rfl rfl rfl ?_
      refine (zz_go 2 (fr' := (zm_H_readKind, d + 10, 97, [none, some (.ref 15), some (.int (v_T_takeKind M)), some (.int (zf_for 4 (f_H_readKind_1 M) ((0 : Int32), (w_T_needWord (w_T_takeKind M) 1))).1), some (.int (bif (v_T_takeWord (zf_for 4 (f_H_readKind_1 M) ((0 : Int32), (w_T_needWord (w_T_takeKind M) 1))).2 2) then (v_T_takeNumber (w_T_takeWord (zf_for 4 (f_H_readKind_1 M) ((0 : Int32), (w_T_needWord (w_T_takeKind M) 1))).2 2) (7 : Int32)) else (-1 : Int32))), some (.int (bif (v_T_takeWord (bif (v_T_takeWord (zf_for 4 (f_H_readKind_1 M) ((0 : Int32), (w_T_needWord (w_T_takeKind M) 1))).2 2) then (w_T_takeNumber (w_T_takeWord (zf_for 4 (f_H_readKind_1 M) ((0 : Int32), (w_T_needWord (w_T_takeKind M) 1))).2 2) (7 : Int32)) else (w_T_takeWord (zf_for 4 (f_H_readKind_1 M) ((0 : Int32), (w_T_needWord (w_T_takeKind M) 1))).2 2)) 3) then (v_T_takeKind (w_T_takeWord (bif (v_T_takeWord (zf_for 4 (f_H_readKind_1 M) ((0 : Int32), (w_T_needWord (w_T_takeKind M) 1))).2 2) then (w_T_takeNumber (w_T_takeWord (zf_for 4 (f_H_readKind_1 M) ((0 : Int32), (w_T_needWord (w_T_takeKind M) 1))).2 2) (7 : Int32)) else (w_T_takeWord (zf_for 4 (f_H_readKind_1 M) ((0 : Int32), (w_T_needWord (w_T_takeKind M) 1))).2 2)) 3)) else (-1 : Int32)))], [.int (zf_for 4 (f_H_readKind_1 M) ((0 : Int32), (w_T_needWord (w_T_takeKind M) 1))).1, .int (v_T_takeKind M), .ref 16])) (h' := (zt_T L, zt_R, (bif (v_T_takeWord (bif (v_T_takeWord (zf_for 4 (f_H_readKind_1 M) ((0 : Int32), (w_T_needWord (w_T_takeKind M) 1))).2 2) then (w_T_takeNumber (w_T_takeWord (zf_for 4 (f_H_readKind_1 M) ((0 : Int32), (w_T_needWord (w_T_takeKind M) 1))).2 2) (7 : Int32)) else (w_T_takeWord (zf_for 4 (f_H_readKind_1 M) ((0 : Int32), (w_T_needWord (w_T_takeKind M) 1))).2 2)) 3) then (w_T_takeKind (w_T_takeWord (bif (v_T_takeWord (zf_for 4 (f_H_readKind_1 M) ((0 : Int32), (w_T_needWord (w_T_takeKind M) 1))).2 2) then (w_T_takeNumber (w_T_takeWord (zf_for 4 (f_H_readKind_1 M) ((0 : Int32), (w_T_needWord (w_T_takeKind M) 1))).2 2) (7 : Int32)) else (w_T_takeWord (zf_for 4 (f_H_readKind_1 M) ((0 : Int32), (w_T_needWord (w_T_takeKind M) 1))).2 2)) 3)) else (w_T_takeWord (bif (v_T_takeWord (zf_for 4 (f_H_readKind_1 M) ((0 : Int32), (w_T_needWord (w_T_takeKind M) 1))).2 2) then (w_T_takeNumber (w_T_takeWord (zf_for 4 (f_H_readKind_1 M) ((0 : Int32), (w_T_needWord (w_T_takeKind M) 1))).2 2) (7 : Int32)) else (w_T_takeWord (zf_for 4 (f_H_readKind_1 M) ((0 : Int32), (w_T_needWord (w_T_takeKind M) 1))).2 2)) 3)), J, e)) (fun _ => rfl)).trans ?_
      have g30 : zz_in (v_T_takeKind M) 8 = true := k29
      refine zl_iastore rfl rfl g30 rfl rfl ?_
      refine zz_jn (X := zz_D (zm_H_readKind, d + 10, 112, [none, some (.ref 15), some (.int (v_T_takeKind M)), none, none, some (.int (bif (v_T_takeWord (bif (v_T_takeWord (zf_for 4 (f_H_readKind_1 M) ((0 : Int32), (w_T_needWord (w_T_takeKind M) 1))).2 2) then (w_T_takeNumber (w_T_takeWord (zf_for 4 (f_H_readKind_1 M) ((0 : Int32), (w_T_needWord (w_T_takeKind M) 1))).2 2) (7 : Int32)) else (w_T_takeWord (zf_for 4 (f_H_readKind_1 M) ((0 : Int32), (w_T_needWord (w_T_takeKind M) 1))).2 2)) 3) then (v_T_takeKind (w_T_takeWord (bif (v_T_takeWord (zf_for 4 (f_H_readKind_1 M) ((0 : Int32), (w_T_needWord (w_T_takeKind M) 1))).2 2) then (w_T_takeNumber (w_T_takeWord (zf_for 4 (f_H_readKind_1 M) ((0 : Int32), (w_T_needWord (w_T_takeKind M) 1))).2 2) (7 : Int32)) else (w_T_takeWord (zf_for 4 (f_H_readKind_1 M) ((0 : Int32), (w_T_needWord (w_T_takeKind M) 1))).2 2)) 3)) else (-1 : Int32)))], []) (zt_T L, zt_R, (bif (decide ((bif (v_T_takeWord (zf_for 4 (f_H_readKind_1 M) ((0 : Int32), (w_T_needWord (w_T_takeKind M) 1))).2 2) then (v_T_takeNumber (w_T_takeWord (zf_for 4 (f_H_readKind_1 M) ((0 : Int32), (w_T_needWord (w_T_takeKind M) 1))).2 2) (7 : Int32)) else (-1 : Int32)) = (-1 : Int32))) then (zz_up (bif (v_T_takeWord (bif (v_T_takeWord (zf_for 4 (f_H_readKind_1 M) ((0 : Int32), (w_T_needWord (w_T_takeKind M) 1))).2 2) then (w_T_takeNumber (w_T_takeWord (zf_for 4 (f_H_readKind_1 M) ((0 : Int32), (w_T_needWord (w_T_takeKind M) 1))).2 2) (7 : Int32)) else (w_T_takeWord (zf_for 4 (f_H_readKind_1 M) ((0 : Int32), (w_T_needWord (w_T_takeKind M) 1))).2 2)) 3) then (w_T_takeKind (w_T_takeWord (bif (v_T_takeWord (zf_for 4 (f_H_readKind_1 M) ((0 : Int32), (w_T_needWord (w_T_takeKind M) 1))).2 2) then (w_T_takeNumber (w_T_takeWord (zf_for 4 (f_H_readKind_1 M) ((0 : Int32), (w_T_needWord (w_T_takeKind M) 1))).2 2) (7 : Int32)) else (w_T_takeWord (zf_for 4 (f_H_readKind_1 M) ((0 : Int32), (w_T_needWord (w_T_takeKind M) 1))).2 2)) 3)) else (w_T_takeWord (bif (v_T_takeWord (zf_for 4 (f_H_readKind_1 M) ((0 : Int32), (w_T_needWord (w_T_takeKind M) 1))).2 2) then (w_T_takeNumber (w_T_takeWord (zf_for 4 (f_H_readKind_1 M) ((0 : Int32), (w_T_needWord (w_T_takeKind M) 1))).2 2) (7 : Int32)) else (w_T_takeWord (zf_for 4 (f_H_readKind_1 M) ((0 : Int32), (w_T_needWord (w_T_takeKind M) 1))).2 2)) 3)) 16 (v_T_takeKind M).toNatClampNeg (zf_for 4 (f_H_readKind_1 M) ((0 : Int32), (w_T_needWord (w_T_takeKind M) 1))).1) else (zz_up (zz_up (bif (v_T_takeWord (bif (v_T_takeWord (zf_for 4 (f_H_readKind_1 M) ((0 : Int32), (w_T_needWord (w_T_takeKind M) 1))).2 2) then (w_T_takeNumber (w_T_takeWord (zf_for 4 (f_H_readKind_1 M) ((0 : Int32), (w_T_needWord (w_T_takeKind M) 1))).2 2) (7 : Int32)) else (w_T_takeWord (zf_for 4 (f_H_readKind_1 M) ((0 : Int32), (w_T_needWord (w_T_takeKind M) 1))).2 2)) 3) then (w_T_takeKind (w_T_takeWord (bif (v_T_takeWord (zf_for 4 (f_H_readKind_1 M) ((0 : Int32), (w_T_needWord (w_T_takeKind M) 1))).2 2) then (w_T_takeNumber (w_T_takeWord (zf_for 4 (f_H_readKind_1 M) ((0 : Int32), (w_T_needWord (w_T_takeKind M) 1))).2 2) (7 : Int32)) else (w_T_takeWord (zf_for 4 (f_H_readKind_1 M) ((0 : Int32), (w_T_needWord (w_T_takeKind M) 1))).2 2)) 3)) else (w_T_takeWord (bif (v_T_takeWord (zf_for 4 (f_H_readKind_1 M) ((0 : Int32), (w_T_needWord (w_T_takeKind M) 1))).2 2) then (w_T_takeNumber (w_T_takeWord (zf_for 4 (f_H_readKind_1 M) ((0 : Int32), (w_T_needWord (w_T_takeKind M) 1))).2 2) (7 : Int32)) else (w_T_takeWord (zf_for 4 (f_H_readKind_1 M) ((0 : Int32), (w_T_needWord (w_T_takeKind M) 1))).2 2)) 3)) 16 (v_T_takeKind M).toNatClampNeg (zf_for 4 (f_H_readKind_1 M) ((0 : Int32), (w_T_needWord (w_T_takeKind M) 1))).1) 17 (v_T_takeKind M).toNatClampNeg (bif (v_T_takeWord (zf_for 4 (f_H_readKind_1 M) ((0 : Int32), (w_T_needWord (w_T_takeKind M) 1))).2 2) then (v_T_takeNumber (w_T_takeWord (zf_for 4 (f_H_readKind_1 M) ((0 : Int32), (w_T_needWord (w_T_takeKind M) 1))).2 2) (7 : Int32)) else (-1 : Int32)))), J, e)) (fun j31 => ?_) ?_
      · refine (zz_go 2 (fr' := (zm_H_readKind, d + 10, 101, [none, some (.ref 15), some (.int (v_T_takeKind M)), some (.int (zf_for 4 (f_H_readKind_1 M) ((0 : Int32), (w_T_needWord (w_T_takeKind M) 1))).1), some (.int (bif (v_T_takeWord (zf_for 4 (f_H_readKind_1 M) ((0 : Int32), (w_T_needWord (w_T_takeKind M) 1))).2 2) then (v_T_takeNumber (w_T_takeWord (zf_for 4 (f_H_readKind_1 M) ((0 : Int32), (w_T_needWord (w_T_takeKind M) 1))).2 2) (7 : Int32)) else (-1 : Int32))), some (.int (bif (v_T_takeWord (bif (v_T_takeWord (zf_for 4 (f_H_readKind_1 M) ((0 : Int32), (w_T_needWord (w_T_takeKind M) 1))).2 2) then (w_T_takeNumber (w_T_takeWord (zf_for 4 (f_H_readKind_1 M) ((0 : Int32), (w_T_needWord (w_T_takeKind M) 1))).2 2) (7 : Int32)) else (w_T_takeWord (zf_for 4 (f_H_readKind_1 M) ((0 : Int32), (w_T_needWord (w_T_takeKind M) 1))).2 2)) 3) then (v_T_takeKind (w_T_takeWord (bif (v_T_takeWord (zf_for 4 (f_H_readKind_1 M) ((0 : Int32), (w_T_needWord (w_T_takeKind M) 1))).2 2) then (w_T_takeNumber (w_T_takeWord (zf_for 4 (f_H_readKind_1 M) ((0 : Int32), (w_T_needWord (w_T_takeKind M) 1))).2 2) (7 : Int32)) else (w_T_takeWord (zf_for 4 (f_H_readKind_1 M) ((0 : Int32), (w_T_needWord (w_T_takeKind M) 1))).2 2)) 3)) else (-1 : Int32)))], [.int (-1 : Int32), .int (bif (v_T_takeWord (zf_for 4 (f_H_readKind_1 M) ((0 : Int32), (w_T_needWord (w_T_takeKind M) 1))).2 2) then (v_T_takeNumber (w_T_takeWord (zf_for 4 (f_H_readKind_1 M) ((0 : Int32), (w_T_needWord (w_T_takeKind M) 1))).2 2) (7 : Int32)) else (-1 : Int32))])) (h' := (zt_T L, zt_R, (zz_up (bif (v_T_takeWord (bif (v_T_takeWord (zf_for 4 (f_H_readKind_1 M) ((0 : Int32), (w_T_needWord (w_T_takeKind M) 1))).2 2) then (w_T_takeNumber (w_T_takeWord (zf_for 4 (f_H_readKind_1 M) ((0 : Int32), (w_T_needWord (w_T_takeKind M) 1))).2 2) (7 : Int32)) else (w_T_takeWord (zf_for 4 (f_H_readKind_1 M) ((0 : Int32), (w_T_needWord (w_T_takeKind M) 1))).2 2)) 3) then (w_T_takeKind (w_T_takeWord (bif (v_T_takeWord (zf_for 4 (f_H_readKind_1 M) ((0 : Int32), (w_T_needWord (w_T_takeKind M) 1))).2 2) then (w_T_takeNumber (w_T_takeWord (zf_for 4 (f_H_readKind_1 M) ((0 : Int32), (w_T_needWord (w_T_takeKind M) 1))).2 2) (7 : Int32)) else (w_T_takeWord (zf_for 4 (f_H_readKind_1 M) ((0 : Int32), (w_T_needWord (w_T_takeKind M) 1))).2 2)) 3)) else (w_T_takeWord (bif (v_T_takeWord (zf_for 4 (f_H_readKind_1 M) ((0 : Int32), (w_T_needWord (w_T_takeKind M) 1))).2 2) then (w_T_takeNumber (w_T_takeWord (zf_for 4 (f_H_readKind_1 M) ((0 : Int32), (w_T_needWord (w_T_takeKind M) 1))).2 2) (7 : Int32)) else (w_T_takeWord (zf_for 4 (f_H_readKind_1 M) ((0 : Int32), (w_T_needWord (w_T_takeKind M) 1))).2 2)) 3)) 16 (v_T_takeKind M).toNatClampNeg (zf_for 4 (f_H_readKind_1 M) ((0 : Int32), (w_T_needWord (w_T_takeKind M) 1))).1), J, e)) (fun _ => rfl)).trans ?_
        rcases zz_bc (decide ((bif (v_T_takeWord (zf_for 4 (f_H_readKind_1 M) ((0 : Int32), (w_T_needWord (w_T_takeKind M) 1))).2 2) then (v_T_takeNumber (w_T_takeWord (zf_for 4 (f_H_readKind_1 M) ((0 : Int32), (w_T_needWord (w_T_takeKind M) 1))).2 2) (7 : Int32)) else (-1 : Int32)) = (-1 : Int32))) with h32 | h32
        · refine zc_eqT rfl h32 ?_
          refine zz_weak (L := [none, some (.ref 15), some (.int (v_T_takeKind M)), none, none, some (.int (bif (v_T_takeWord (bif (v_T_takeWord (zf_for 4 (f_H_readKind_1 M) ((0 : Int32), (w_T_needWord (w_T_takeKind M) 1))).2 2) then (w_T_takeNumber (w_T_takeWord (zf_for 4 (f_H_readKind_1 M) ((0 : Int32), (w_T_needWord (w_T_takeKind M) 1))).2 2) (7 : Int32)) else (w_T_takeWord (zf_for 4 (f_H_readKind_1 M) ((0 : Int32), (w_T_needWord (w_T_takeKind M) 1))).2 2)) 3) then (v_T_takeKind (w_T_takeWord (bif (v_T_takeWord (zf_for 4 (f_H_readKind_1 M) ((0 : Int32), (w_T_needWord (w_T_takeKind M) 1))).2 2) then (w_T_takeNumber (w_T_takeWord (zf_for 4 (f_H_readKind_1 M) ((0 : Int32), (w_T_needWord (w_T_takeKind M) 1))).2 2) (7 : Int32)) else (w_T_takeWord (zf_for 4 (f_H_readKind_1 M) ((0 : Int32), (w_T_needWord (w_T_takeKind M) 1))).2 2)) 3)) else (-1 : Int32)))]) ⟨Or.inl rfl, Or.inl rfl, Or.inl rfl, Or.inr ⟨rfl, rfl⟩, Or.inr ⟨rfl, rfl⟩, Or.inl rfl, trivial⟩ ?_
          simpa only [h32, zk_t, zk_f, zb_t, zb_f] using j31
        · refine zc_eqF rfl h32 ?_
          refine (zz_go 1 (fr' := (zm_H_readKind, d + 10, 105, [none, some (.ref 15), some (.int (v_T_takeKind M)), some (.int (zf_for 4 (f_H_readKind_1 M) ((0 : Int32), (w_T_needWord (w_T_takeKind M) 1))).1), some (.int (bif (v_T_takeWord (zf_for 4 (f_H_readKind_1 M) ((0 : Int32), (w_T_needWord (w_T_takeKind M) 1))).2 2) then (v_T_takeNumber (w_T_takeWord (zf_for 4 (f_H_readKind_1 M) ((0 : Int32), (w_T_needWord (w_T_takeKind M) 1))).2 2) (7 : Int32)) else (-1 : Int32))), some (.int (bif (v_T_takeWord (bif (v_T_takeWord (zf_for 4 (f_H_readKind_1 M) ((0 : Int32), (w_T_needWord (w_T_takeKind M) 1))).2 2) then (w_T_takeNumber (w_T_takeWord (zf_for 4 (f_H_readKind_1 M) ((0 : Int32), (w_T_needWord (w_T_takeKind M) 1))).2 2) (7 : Int32)) else (w_T_takeWord (zf_for 4 (f_H_readKind_1 M) ((0 : Int32), (w_T_needWord (w_T_takeKind M) 1))).2 2)) 3) then (v_T_takeKind (w_T_takeWord (bif (v_T_takeWord (zf_for 4 (f_H_readKind_1 M) ((0 : Int32), (w_T_needWord (w_T_takeKind M) 1))).2 2) then (w_T_takeNumber (w_T_takeWord (zf_for 4 (f_H_readKind_1 M) ((0 : Int32), (w_T_needWord (w_T_takeKind M) 1))).2 2) (7 : Int32)) else (w_T_takeWord (zf_for 4 (f_H_readKind_1 M) ((0 : Int32), (w_T_needWord (w_T_takeKind M) 1))).2 2)) 3)) else (-1 : Int32)))], [.ref 15])) (h' := (zt_T L, zt_R, (zz_up (bif (v_T_takeWord (bif (v_T_takeWord (zf_for 4 (f_H_readKind_1 M) ((0 : Int32), (w_T_needWord (w_T_takeKind M) 1))).2 2) then (w_T_takeNumber (w_T_takeWord (zf_for 4 (f_H_readKind_1 M) ((0 : Int32), (w_T_needWord (w_T_takeKind M) 1))).2 2) (7 : Int32)) else (w_T_takeWord (zf_for 4 (f_H_readKind_1 M) ((0 : Int32), (w_T_needWord (w_T_takeKind M) 1))).2 2)) 3) then (w_T_takeKind (w_T_takeWord (bif (v_T_takeWord (zf_for 4 (f_H_readKind_1 M) ((0 : Int32), (w_T_needWord (w_T_takeKind M) 1))).2 2) then (w_T_takeNumber (w_T_takeWord (zf_for 4 (f_H_readKind_1 M) ((0 : Int32), (w_T_needWord (w_T_takeKind M) 1))).2 2) (7 : Int32)) else (w_T_takeWord (zf_for 4 (f_H_readKind_1 M) ((0 : Int32), (w_T_needWord (w_T_takeKind M) 1))).2 2)) 3)) else (w_T_takeWord (bif (v_T_takeWord (zf_for 4 (f_H_readKind_1 M) ((0 : Int32), (w_T_needWord (w_T_takeKind M) 1))).2 2) then (w_T_takeNumber (w_T_takeWord (zf_for 4 (f_H_readKind_1 M) ((0 : Int32), (w_T_needWord (w_T_takeKind M) 1))).2 2) (7 : Int32)) else (w_T_takeWord (zf_for 4 (f_H_readKind_1 M) ((0 : Int32), (w_T_needWord (w_T_takeKind M) 1))).2 2)) 3)) 16 (v_T_takeKind M).toNatClampNeg (zf_for 4 (f_H_readKind_1 M) ((0 : Int32), (w_T_needWord (w_T_takeKind M) 1))).1), J, e)) (fun _ => rfl)).trans ?_
          refine zl_getR rfl rfl rfl ?_
          refine (zz_go 2 (fr' := (zm_H_readKind, d + 10, 111, [none, some (.ref 15), some (.int (v_T_takeKind M)), some (.int (zf_for 4 (f_H_readKind_1 M) ((0 : Int32), (w_T_needWord (w_T_takeKind M) 1))).1), some (.int (bif (v_T_takeWord (zf_for 4 (f_H_readKind_1 M) ((0 : Int32), (w_T_needWord (w_T_takeKind M) 1))).2 2) then (v_T_takeNumber (w_T_takeWord (zf_for 4 (f_H_readKind_1 M) ((0 : Int32), (w_T_needWord (w_T_takeKind M) 1))).2 2) (7 : Int32)) else (-1 : Int32))), some (.int (bif (v_T_takeWord (bif (v_T_takeWord (zf_for 4 (f_H_readKind_1 M) ((0 : Int32), (w_T_needWord (w_T_takeKind M) 1))).2 2) then (w_T_takeNumber (w_T_takeWord (zf_for 4 (f_H_readKind_1 M) ((0 : Int32), (w_T_needWord (w_T_takeKind M) 1))).2 2) (7 : Int32)) else (w_T_takeWord (zf_for 4 (f_H_readKind_1 M) ((0 : Int32), (w_T_needWord (w_T_takeKind M) 1))).2 2)) 3) then (v_T_takeKind (w_T_takeWord (bif (v_T_takeWord (zf_for 4 (f_H_readKind_1 M) ((0 : Int32), (w_T_needWord (w_T_takeKind M) 1))).2 2) then (w_T_takeNumber (w_T_takeWord (zf_for 4 (f_H_readKind_1 M) ((0 : Int32), (w_T_needWord (w_T_takeKind M) 1))).2 2) (7 : Int32)) else (w_T_takeWord (zf_for 4 (f_H_readKind_1 M) ((0 : Int32), (w_T_needWord (w_T_takeKind M) 1))).2 2)) 3)) else (-1 : Int32)))], [.int (bif (v_T_takeWord (zf_for 4 (f_H_readKind_1 M) ((0 : Int32), (w_T_needWord (w_T_takeKind M) 1))).2 2) then (v_T_takeNumber (w_T_takeWord (zf_for 4 (f_H_readKind_1 M) ((0 : Int32), (w_T_needWord (w_T_takeKind M) 1))).2 2) (7 : Int32)) else (-1 : Int32)), .int (v_T_takeKind M), .ref 17])) (h' := (zt_T L, zt_R, (zz_up (bif (v_T_takeWord (bif (v_T_takeWord (zf_for 4 (f_H_readKind_1 M) ((0 : Int32), (w_T_needWord (w_T_takeKind M) 1))).2 2) then (w_T_takeNumber (w_T_takeWord (zf_for 4 (f_H_readKind_1 M) ((0 : Int32), (w_T_needWord (w_T_takeKind M) 1))).2 2) (7 : Int32)) else (w_T_takeWord (zf_for 4 (f_H_readKind_1 M) ((0 : Int32), (w_T_needWord (w_T_takeKind M) 1))).2 2)) 3) then (w_T_takeKind (w_T_takeWord (bif (v_T_takeWord (zf_for 4 (f_H_readKind_1 M) ((0 : Int32), (w_T_needWord (w_T_takeKind M) 1))).2 2) then (w_T_takeNumber (w_T_takeWord (zf_for 4 (f_H_readKind_1 M) ((0 : Int32), (w_T_needWord (w_T_takeKind M) 1))).2 2) (7 : Int32)) else (w_T_takeWord (zf_for 4 (f_H_readKind_1 M) ((0 : Int32), (w_T_needWord (w_T_takeKind M) 1))).2 2)) 3)) else (w_T_takeWord (bif (v_T_takeWord (zf_for 4 (f_H_readKind_1 M) ((0 : Int32), (w_T_needWord (w_T_takeKind M) 1))).2 2) then (w_T_takeNumber (w_T_takeWord (zf_for 4 (f_H_readKind_1 M) ((0 : Int32), (w_T_needWord (w_T_takeKind M) 1))).2 2) (7 : Int32)) else (w_T_takeWord (zf_for 4 (f_H_readKind_1 M) ((0 : Int32), (w_T_needWord (w_T_takeKind M) 1))).2 2)) 3)) 16 (v_T_takeKind M).toNatClampNeg (zf_for 4 (f_H_readKind_1 M) ((0 : Int32), (w_T_needWord (w_T_takeKind M) 1))).1), J, e)) (fun _ => rfl)).trans ?_
          refine zl_iastore rfl rfl g30 rfl rfl ?_
          refine zz_weak (L := [none, some (.ref 15), some (.int (v_T_takeKind M)), none, none, some (.int (bif (v_T_takeWord (bif (v_T_takeWord (zf_for 4 (f_H_readKind_1 M) ((0 : Int32), (w_T_needWord (w_T_takeKind M) 1))).2 2) then (w_T_takeNumber (w_T_takeWord (zf_for 4 (f_H_readKind_1 M) ((0 : Int32), (w_T_needWord (w_T_takeKind M) 1))).2 2) (7 : Int32)) else (w_T_takeWord (zf_for 4 (f_H_readKind_1 M) ((0 : Int32), (w_T_needWord (w_T_takeKind M) 1))).2 2)) 3) then (v_T_takeKind (w_T_takeWord (bif (v_T_takeWord (zf_for 4 (f_H_readKind_1 M) ((0 : Int32), (w_T_needWord (w_T_takeKind M) 1))).2 2) then (w_T_takeNumber (w_T_takeWord (zf_for 4 (f_H_readKind_1 M) ((0 : Int32), (w_T_needWord (w_T_takeKind M) 1))).2 2) (7 : Int32)) else (w_T_takeWord (zf_for 4 (f_H_readKind_1 M) ((0 : Int32), (w_T_needWord (w_T_takeKind M) 1))).2 2)) 3)) else (-1 : Int32)))]) ⟨Or.inl rfl, Or.inl rfl, Or.inl rfl, Or.inr ⟨rfl, rfl⟩, Or.inr ⟨rfl, rfl⟩, Or.inl rfl, trivial⟩ ?_
          simpa only [h32, zk_t, zk_f, zb_t, zb_f] using j31
      refine zz_jn (X := zz_D (zm_H_readKind, d + 10, 126, [none, none, none, none, none, none], []) (zt_T L, zt_R, (bif (decide ((bif (v_T_takeWord (bif (v_T_takeWord (zf_for 4 (f_H_readKind_1 M) ((0 : Int32), (w_T_needWord (w_T_takeKind M) 1))).2 2) then (w_T_takeNumber (w_T_takeWord (zf_for 4 (f_H_readKind_1 M) ((0 : Int32), (w_T_needWord (w_T_takeKind M) 1))).2 2) (7 : Int32)) else (w_T_takeWord (zf_for 4 (f_H_readKind_1 M) ((0 : Int32), (w_T_needWord (w_T_takeKind M) 1))).2 2)) 3) then (v_T_takeKind (w_T_takeWord (bif (v_T_takeWord (zf_for 4 (f_H_readKind_1 M) ((0 : Int32), (w_T_needWord (w_T_takeKind M) 1))).2 2) then (w_T_takeNumber (w_T_takeWord (zf_for 4 (f_H_readKind_1 M) ((0 : Int32), (w_T_needWord (w_T_takeKind M) 1))).2 2) (7 : Int32)) else (w_T_takeWord (zf_for 4 (f_H_readKind_1 M) ((0 : Int32), (w_T_needWord (w_T_takeKind M) 1))).2 2)) 3)) else (-1 : Int32)) = (-1 : Int32))) then (bif (decide ((bif (v_T_takeWord (zf_for 4 (f_H_readKind_1 M) ((0 : Int32), (w_T_needWord (w_T_takeKind M) 1))).2 2) then (v_T_takeNumber (w_T_takeWord (zf_for 4 (f_H_readKind_1 M) ((0 : Int32), (w_T_needWord (w_T_takeKind M) 1))).2 2) (7 : Int32)) else (-1 : Int32)) = (-1 : Int32))) then (zz_up (bif (v_T_takeWord (bif (v_T_takeWord (zf_for 4 (f_H_readKind_1 M) ((0 : Int32), (w_T_needWord (w_T_takeKind M) 1))).2 2) then (w_T_takeNumber (w_T_takeWord (zf_for 4 (f_H_readKind_1 M) ((0 : Int32), (w_T_needWord (w_T_takeKind M) 1))).2 2) (7 : Int32)) else (w_T_takeWord (zf_for 4 (f_H_readKind_1 M) ((0 : Int32), (w_T_needWord (w_T_takeKind M) 1))).2 2)) 3) then (w_T_takeKind (w_T_takeWord (bif (v_T_takeWord (zf_for 4 (f_H_readKind_1 M) ((0 : Int32), (w_T_needWord (w_T_takeKind M) 1))).2 2) then (w_T_takeNumber (w_T_takeWord (zf_for 4 (f_H_readKind_1 M) ((0 : Int32), (w_T_needWord (w_T_takeKind M) 1))).2 2) (7 : Int32)) else (w_T_takeWord (zf_for 4 (f_H_readKind_1 M) ((0 : Int32), (w_T_needWord (w_T_takeKind M) 1))).2 2)) 3)) else (w_T_takeWord (bif (v_T_takeWord (zf_for 4 (f_H_readKind_1 M) ((0 : Int32), (w_T_needWord (w_T_takeKind M) 1))).2 2) then (w_T_takeNumber (w_T_takeWord (zf_for 4 (f_H_readKind_1 M) ((0 : Int32), (w_T_needWord (w_T_takeKind M) 1))).2 2) (7 : Int32)) else (w_T_takeWord (zf_for 4 (f_H_readKind_1 M) ((0 : Int32), (w_T_needWord (w_T_takeKind M) 1))).2 2)) 3)) 16 (v_T_takeKind M).toNatClampNeg (zf_for 4 (f_H_readKind_1 M) ((0 : Int32), (w_T_needWord (w_T_takeKind M) 1))).1) else (zz_up (zz_up (bif (v_T_takeWord (bif (v_T_takeWord (zf_for 4 (f_H_readKind_1 M) ((0 : Int32), (w_T_needWord (w_T_takeKind M) 1))).2 2) then (w_T_takeNumber (w_T_takeWord (zf_for 4 (f_H_readKind_1 M) ((0 : Int32), (w_T_needWord (w_T_takeKind M) 1))).2 2) (7 : Int32)) else (w_T_takeWord (zf_for 4 (f_H_readKind_1 M) ((0 : Int32), (w_T_needWord (w_T_takeKind M) 1))).2 2)) 3) then (w_T_takeKind (w_T_takeWord (bif (v_T_takeWord (zf_for 4 (f_H_readKind_1 M) ((0 : Int32), (w_T_needWord (w_T_takeKind M) 1))).2 2) then (w_T_takeNumber (w_T_takeWord (zf_for 4 (f_H_readKind_1 M) ((0 : Int32), (w_T_needWord (w_T_takeKind M) 1))).2 2) (7 : Int32)) else (w_T_takeWord (zf_for 4 (f_H_readKind_1 M) ((0 : Int32), (w_T_needWord (w_T_takeKind M) 1))).2 2)) 3)) else (w_T_takeWord (bif (v_T_takeWord (zf_for 4 (f_H_readKind_1 M) ((0 : Int32), (w_T_needWord (w_T_takeKind M) 1))).2 2) then (w_T_takeNumber (w_T_takeWord (zf_for 4 (f_H_readKind_1 M) ((0 : Int32), (w_T_needWord (w_T_takeKind M) 1))).2 2) (7 : Int32)) else (w_T_takeWord (zf_for 4 (f_H_readKind_1 M) ((0 : Int32), (w_T_needWord (w_T_takeKind M) 1))).2 2)) 3)) 16 (v_T_takeKind M).toNatClampNeg (zf_for 4 (f_H_readKind_1 M) ((0 : Int32), (w_T_needWord (w_T_takeKind M) 1))).1) 17 (v_T_takeKind M).toNatClampNeg (bif (v_T_takeWord (zf_for 4 (f_H_readKind_1 M) ((0 : Int32), (w_T_needWord (w_T_takeKind M) 1))).2 2) then (v_T_takeNumber (w_T_takeWord (zf_for 4 (f_H_readKind_1 M) ((0 : Int32), (w_T_needWord (w_T_takeKind M) 1))).2 2) (7 : Int32)) else (-1 : Int32)))) else (zz_up (bif (decide ((bif (v_T_takeWord (zf_for 4 (f_H_readKind_1 M) ((0 : Int32), (w_T_needWord (w_T_takeKind M) 1))).2 2) then (v_T_takeNumber (w_T_takeWord (zf_for 4 (f_H_readKind_1 M) ((0 : Int32), (w_T_needWord (w_T_takeKind M) 1))).2 2) (7 : Int32)) else (-1 : Int32)) = (-1 : Int32))) then (zz_up (bif (v_T_takeWord (bif (v_T_takeWord (zf_for 4 (f_H_readKind_1 M) ((0 : Int32), (w_T_needWord (w_T_takeKind M) 1))).2 2) then (w_T_takeNumber (w_T_takeWord (zf_for 4 (f_H_readKind_1 M) ((0 : Int32), (w_T_needWord (w_T_takeKind M) 1))).2 2) (7 : Int32)) else (w_T_takeWord (zf_for 4 (f_H_readKind_1 M) ((0 : Int32), (w_T_needWord (w_T_takeKind M) 1))).2 2)) 3) then (w_T_takeKind (w_T_takeWord (bif (v_T_takeWord (zf_for 4 (f_H_readKind_1 M) ((0 : Int32), (w_T_needWord (w_T_takeKind M) 1))).2 2) then (w_T_takeNumber (w_T_takeWord (zf_for 4 (f_H_readKind_1 M) ((0 : Int32), (w_T_needWord (w_T_takeKind M) 1))).2 2) (7 : Int32)) else (w_T_takeWord (zf_for 4 (f_H_readKind_1 M) ((0 : Int32), (w_T_needWord (w_T_takeKind M) 1))).2 2)) 3)) else (w_T_takeWord (bif (v_T_takeWord (zf_for 4 (f_H_readKind_1 M) ((0 : Int32), (w_T_needWord (w_T_takeKind M) 1))).2 2) then (w_T_takeNumber (w_T_takeWord (zf_for 4 (f_H_readKind_1 M) ((0 : Int32), (w_T_needWord (w_T_takeKind M) 1))).2 2) (7 : Int32)) else (w_T_takeWord (zf_for 4 (f_H_readKind_1 M) ((0 : Int32), (w_T_needWord (w_T_takeKind M) 1))).2 2)) 3)) 16 (v_T_takeKind M).toNatClampNeg (zf_for 4 (f_H_readKind_1 M) ((0 : Int32), (w_T_needWord (w_T_takeKind M) 1))).1) else (zz_up (zz_up (bif (v_T_takeWord (bif (v_T_takeWord (zf_for 4 (f_H_readKind_1 M) ((0 : Int32), (w_T_needWord (w_T_takeKind M) 1))).2 2) then (w_T_takeNumber (w_T_takeWord (zf_for 4 (f_H_readKind_1 M) ((0 : Int32), (w_T_needWord (w_T_takeKind M) 1))).2 2) (7 : Int32)) else (w_T_takeWord (zf_for 4 (f_H_readKind_1 M) ((0 : Int32), (w_T_needWord (w_T_takeKind M) 1))).2 2)) 3) then (w_T_takeKind (w_T_takeWord (bif (v_T_takeWord (zf_for 4 (f_H_readKind_1 M) ((0 : Int32), (w_T_needWord (w_T_takeKind M) 1))).2 2) then (w_T_takeNumber (w_T_takeWord (zf_for 4 (f_H_readKind_1 M) ((0 : Int32), (w_T_needWord (w_T_takeKind M) 1))).2 2) (7 : Int32)) else (w_T_takeWord (zf_for 4 (f_H_readKind_1 M) ((0 : Int32), (w_T_needWord (w_T_takeKind M) 1))).2 2)) 3)) else (w_T_takeWord (bif (v_T_takeWord (zf_for 4 (f_H_readKind_1 M) ((0 : Int32), (w_T_needWord (w_T_takeKind M) 1))).2 2) then (w_T_takeNumber (w_T_takeWord (zf_for 4 (f_H_readKind_1 M) ((0 : Int32), (w_T_needWord (w_T_takeKind M) 1))).2 2) (7 : Int32)) else (w_T_takeWord (zf_for 4 (f_H_readKind_1 M) ((0 : Int32), (w_T_needWord (w_T_takeKind M) 1))).2 2)) 3)) 16 (v_T_takeKind M).toNatClampNeg (zf_for 4 (f_H_readKind_1 M) ((0 : Int32), (w_T_needWord (w_T_takeKind M) 1))).1) 17 (v_T_takeKind M).toNatClampNeg (bif (v_T_takeWord (zf_for 4 (f_H_readKind_1 M) ((0 : Int32), (w_T_needWord (w_T_takeKind M) 1))).2 2) then (v_T_takeNumber (w_T_takeWord (zf_for 4 (f_H_readKind_1 M) ((0 : Int32), (w_T_needWord (w_T_takeKind M) 1))).2 2) (7 : Int32)) else (-1 : Int32)))) 18 (v_T_takeKind M).toNatClampNeg (bif (v_T_takeWord (bif (v_T_takeWord (zf_for 4 (f_H_readKind_1 M) ((0 : Int32), (w_T_needWord (w_T_takeKind M) 1))).2 2) then (w_T_takeNumber (w_T_takeWord (zf_for 4 (f_H_readKind_1 M) ((0 : Int32), (w_T_needWord (w_T_takeKind M) 1))).2 2) (7 : Int32)) else (w_T_takeWord (zf_for 4 (f_H_readKind_1 M) ((0 : Int32), (w_T_needWord (w_T_takeKind M) 1))).2 2)) 3) then (v_T_takeKind (w_T_takeWord (bif (v_T_takeWord (zf_for 4 (f_H_readKind_1 M) ((0 : Int32), (w_T_needWord (w_T_takeKind M) 1))).2 2) then (w_T_takeNumber (w_T_takeWord (zf_for 4 (f_H_readKind_1 M) ((0 : Int32), (w_T_needWord (w_T_takeKind M) 1))).2 2) (7 : Int32)) else (w_T_takeWord (zf_for 4 (f_H_readKind_1 M) ((0 : Int32), (w_T_needWord (w_T_takeKind M) 1))).2 2)) 3)) else (-1 : Int32)))), J, e)) (fun j33 => ?_) ?_
      · refine (zz_go 2 (fr' := (zm_H_readKind, d + 10, 115, [none, some (.ref 15), some (.int (v_T_takeKind M)), none, none, some (.int (bif (v_T_takeWord (bif (v_T_takeWord (zf_for 4 (f_H_readKind_1 M) ((0 : Int32), (w_T_needWord (w_T_takeKind M) 1))).2 2) then (w_T_takeNumber (w_T_takeWord (zf_for 4 (f_H_readKind_1 M) ((0 : Int32), (w_T_needWord (w_T_takeKind M) 1))).2 2) (7 : Int32)) else (w_T_takeWord (zf_for 4 (f_H_readKind_1 M) ((0 : Int32), (w_T_needWord (w_T_takeKind M) 1))).2 2)) 3) then (v_T_takeKind (w_T_takeWord (bif (v_T_takeWord (zf_for 4 (f_H_readKind_1 M) ((0 : Int32), (w_T_needWord (w_T_takeKind M) 1))).2 2) then (w_T_takeNumber (w_T_takeWord (zf_for 4 (f_H_readKind_1 M) ((0 : Int32), (w_T_needWord (w_T_takeKind M) 1))).2 2) (7 : Int32)) else (w_T_takeWord (zf_for 4 (f_H_readKind_1 M) ((0 : Int32), (w_T_needWord (w_T_takeKind M) 1))).2 2)) 3)) else (-1 : Int32)))], [.int (-1 : Int32), .int (bif (v_T_takeWord (bif (v_T_takeWord (zf_for 4 (f_H_readKind_1 M) ((0 : Int32), (w_T_needWord (w_T_takeKind M) 1))).2 2) then (w_T_takeNumber (w_T_takeWord (zf_for 4 (f_H_readKind_1 M) ((0 : Int32), (w_T_needWord (w_T_takeKind M) 1))).2 2) (7 : Int32)) else (w_T_takeWord (zf_for 4 (f_H_readKind_1 M) ((0 : Int32), (w_T_needWord (w_T_takeKind M) 1))).2 2)) 3) then (v_T_takeKind (w_T_takeWord (bif (v_T_takeWord (zf_for 4 (f_H_readKind_1 M) ((0 : Int32), (w_T_needWord (w_T_takeKind M) 1))).2 2) then (w_T_takeNumber (w_T_takeWord (zf_for 4 (f_H_readKind_1 M) ((0 : Int32), (w_T_needWord (w_T_takeKind M) 1))).2 2) (7 : Int32)) else (w_T_takeWord (zf_for 4 (f_H_readKind_1 M) ((0 : Int32), (w_T_needWord (w_T_takeKind M) 1))).2 2)) 3)) else (-1 : Int32))])) (h' := (zt_T L, zt_R, (bif (decide ((bif (v_T_takeWord (zf_for 4 (f_H_readKind_1 M) ((0 : Int32), (w_T_needWord (w_T_takeKind M) 1))).2 2) then (v_T_takeNumber (w_T_takeWord (zf_for 4 (f_H_readKind_1 M) ((0 : Int32), (w_T_needWord (w_T_takeKind M) 1))).2 2) (7 : Int32)) else (-1 : Int32)) = (-1 : Int32))) then (zz_up (bif (v_T_takeWord (bif (v_T_takeWord (zf_for 4 (f_H_readKind_1 M) ((0 : Int32), (w_T_needWord (w_T_takeKind M) 1))).2 2) then (w_T_takeNumber (w_T_takeWord (zf_for 4 (f_H_readKind_1 M) ((0 : Int32), (w_T_needWord (w_T_takeKind M) 1))).2 2) (7 : Int32)) else (w_T_takeWord (zf_for 4 (f_H_readKind_1 M) ((0 : Int32), (w_T_needWord (w_T_takeKind M) 1))).2 2)) 3) then (w_T_takeKind (w_T_takeWord (bif (v_T_takeWord (zf_for 4 (f_H_readKind_1 M) ((0 : Int32), (w_T_needWord (w_T_takeKind M) 1))).2 2) then (w_T_takeNumber (w_T_takeWord (zf_for 4 (f_H_readKind_1 M) ((0 : Int32), (w_T_needWord (w_T_takeKind M) 1))).2 2) (7 : Int32)) else (w_T_takeWord (zf_for 4 (f_H_readKind_1 M) ((0 : Int32), (w_T_needWord (w_T_takeKind M) 1))).2 2)) 3)) else (w_T_takeWord (bif (v_T_takeWord (zf_for 4 (f_H_readKind_1 M) ((0 : Int32), (w_T_needWord (w_T_takeKind M) 1))).2 2) then (w_T_takeNumber (w_T_takeWord (zf_for 4 (f_H_readKind_1 M) ((0 : Int32), (w_T_needWord (w_T_takeKind M) 1))).2 2) (7 : Int32)) else (w_T_takeWord (zf_for 4 (f_H_readKind_1 M) ((0 : Int32), (w_T_needWord (w_T_takeKind M) 1))).2 2)) 3)) 16 (v_T_takeKind M).toNatClampNeg (zf_for 4 (f_H_readKind_1 M) ((0 : Int32), (w_T_needWord (w_T_takeKind M) 1))).1) else (zz_up (zz_up (bif (v_T_takeWord (bif (v_T_takeWord (zf_for 4 (f_H_readKind_1 M) ((0 : Int32), (w_T_needWord (w_T_takeKind M) 1))).2 2) then (w_T_takeNumber (w_T_takeWord (zf_for 4 (f_H_readKind_1 M) ((0 : Int32), (w_T_needWord (w_T_takeKind M) 1))).2 2) (7 : Int32)) else (w_T_takeWord (zf_for 4 (f_H_readKind_1 M) ((0 : Int32), (w_T_needWord (w_T_takeKind M) 1))).2 2)) 3) then (w_T_takeKind (w_T_takeWord (bif (v_T_takeWord (zf_for 4 (f_H_readKind_1 M) ((0 : Int32), (w_T_needWord (w_T_takeKind M) 1))).2 2) then (w_T_takeNumber (w_T_takeWord (zf_for 4 (f_H_readKind_1 M) ((0 : Int32), (w_T_needWord (w_T_takeKind M) 1))).2 2) (7 : Int32)) else (w_T_takeWord (zf_for 4 (f_H_readKind_1 M) ((0 : Int32), (w_T_needWord (w_T_takeKind M) 1))).2 2)) 3)) else (w_T_takeWord (bif (v_T_takeWord (zf_for 4 (f_H_readKind_1 M) ((0 : Int32), (w_T_needWord (w_T_takeKind M) 1))).2 2) then (w_T_takeNumber (w_T_takeWord (zf_for 4 (f_H_readKind_1 M) ((0 : Int32), (w_T_needWord (w_T_takeKind M) 1))).2 2) (7 : Int32)) else (w_T_takeWord (zf_for 4 (f_H_readKind_1 M) ((0 : Int32), (w_T_needWord (w_T_takeKind M) 1))).2 2)) 3)) 16 (v_T_takeKind M).toNatClampNeg (zf_for 4 (f_H_readKind_1 M) ((0 : Int32), (w_T_needWord (w_T_takeKind M) 1))).1) 17 (v_T_takeKind M).toNatClampNeg (bif (v_T_takeWord (zf_for 4 (f_H_readKind_1 M) ((0 : Int32), (w_T_needWord (w_T_takeKind M) 1))).2 2) then (v_T_takeNumber (w_T_takeWord (zf_for 4 (f_H_readKind_1 M) ((0 : Int32), (w_T_needWord (w_T_takeKind M) 1))).2 2) (7 : Int32)) else (-1 : Int32)))), J, e)) (fun _ => rfl)).trans ?_
        rcases zz_bc (decide ((bif (v_T_takeWord (bif (v_T_takeWord (zf_for 4 (f_H_readKind_1 M) ((0 : Int32), (w_T_needWord (w_T_takeKind M) 1))).2 2) then (w_T_takeNumber (w_T_takeWord (zf_for 4 (f_H_readKind_1 M) ((0 : Int32), (w_T_needWord (w_T_takeKind M) 1))).2 2) (7 : Int32)) else (w_T_takeWord (zf_for 4 (f_H_readKind_1 M) ((0 : Int32), (w_T_needWord (w_T_takeKind M) 1))).2 2)) 3) then (v_T_takeKind (w_T_takeWord (bif (v_T_takeWord (zf_for 4 (f_H_readKind_1 M) ((0 : Int32), (w_T_needWord (w_T_takeKind M) 1))).2 2) then (w_T_takeNumber (w_T_takeWord (zf_for 4 (f_H_readKind_1 M) ((0 : Int32), (w_T_needWord (w_T_takeKind M) 1))).2 2) (7 : Int32)) else (w_T_takeWord (zf_for 4 (f_H_readKind_1 M) ((0 : Int32), (w_T_needWord (w_T_takeKind M) 1))).2 2)) 3)) else (-1 : Int32)) = (-1 : Int32))) with h34 | h34
        · refine zc_eqT rfl h34 ?_
          refine zz_weak (L := [none, none, none, none, none, none]) ⟨Or.inl rfl, Or.inr ⟨rfl, rfl⟩, Or.inr ⟨rfl, rfl⟩, Or.inl rfl, Or.inl rfl, Or.inr ⟨rfl, rfl⟩, trivial⟩ ?_
          simpa only [h34, zk_t, zk_f, zb_t, zb_f] using j33
        · refine zc_eqF rfl h34 ?_
          refine (zz_go 1 (fr' := (zm_H_readKind, d + 10, 119, [none, some (.ref 15), some (.int (v_T_takeKind M)), none, none, some (.int (bif (v_T_takeWord (bif (v_T_takeWord (zf_for 4 (f_H_readKind_1 M) ((0 : Int32), (w_T_needWord (w_T_takeKind M) 1))).2 2) then (w_T_takeNumber (w_T_takeWord (zf_for 4 (f_H_readKind_1 M) ((0 : Int32), (w_T_needWord (w_T_takeKind M) 1))).2 2) (7 : Int32)) else (w_T_takeWord (zf_for 4 (f_H_readKind_1 M) ((0 : Int32), (w_T_needWord (w_T_takeKind M) 1))).2 2)) 3) then (v_T_takeKind (w_T_takeWord (bif (v_T_takeWord (zf_for 4 (f_H_readKind_1 M) ((0 : Int32), (w_T_needWord (w_T_takeKind M) 1))).2 2) then (w_T_takeNumber (w_T_takeWord (zf_for 4 (f_H_readKind_1 M) ((0 : Int32), (w_T_needWord (w_T_takeKind M) 1))).2 2) (7 : Int32)) else (w_T_takeWord (zf_for 4 (f_H_readKind_1 M) ((0 : Int32), (w_T_needWord (w_T_takeKind M) 1))).2 2)) 3)) else (-1 : Int32)))], [.ref 15])) (h' := (zt_T L, zt_R, (bif (decide ((bif (v_T_takeWord (zf_for 4 (f_H_readKind_1 M) ((0 : Int32), (w_T_needWord (w_T_takeKind M) 1))).2 2) then (v_T_takeNumber (w_T_takeWord (zf_for 4 (f_H_readKind_1 M) ((0 : Int32), (w_T_needWord (w_T_takeKind M) 1))).2 2) (7 : Int32)) else (-1 : Int32)) = (-1 : Int32))) then (zz_up (bif (v_T_takeWord (bif (v_T_takeWord (zf_for 4 (f_H_readKind_1 M) ((0 : Int32), (w_T_needWord (w_T_takeKind M) 1))).2 2) then (w_T_takeNumber (w_T_takeWord (zf_for 4 (f_H_readKind_1 M) ((0 : Int32), (w_T_needWord (w_T_takeKind M) 1))).2 2) (7 : Int32)) else (w_T_takeWord (zf_for 4 (f_H_readKind_1 M) ((0 : Int32), (w_T_needWord (w_T_takeKind M) 1))).2 2)) 3) then (w_T_takeKind (w_T_takeWord (bif (v_T_takeWord (zf_for 4 (f_H_readKind_1 M) ((0 : Int32), (w_T_needWord (w_T_takeKind M) 1))).2 2) then (w_T_takeNumber (w_T_takeWord (zf_for 4 (f_H_readKind_1 M) ((0 : Int32), (w_T_needWord (w_T_takeKind M) 1))).2 2) (7 : Int32)) else (w_T_takeWord (zf_for 4 (f_H_readKind_1 M) ((0 : Int32), (w_T_needWord (w_T_takeKind M) 1))).2 2)) 3)) else (w_T_takeWord (bif (v_T_takeWord (zf_for 4 (f_H_readKind_1 M) ((0 : Int32), (w_T_needWord (w_T_takeKind M) 1))).2 2) then (w_T_takeNumber (w_T_takeWord (zf_for 4 (f_H_readKind_1 M) ((0 : Int32), (w_T_needWord (w_T_takeKind M) 1))).2 2) (7 : Int32)) else (w_T_takeWord (zf_for 4 (f_H_readKind_1 M) ((0 : Int32), (w_T_needWord (w_T_takeKind M) 1))).2 2)) 3)) 16 (v_T_takeKind M).toNatClampNeg (zf_for 4 (f_H_readKind_1 M) ((0 : Int32), (w_T_needWord (w_T_takeKind M) 1))).1) else (zz_up (zz_up (bif (v_T_takeWord (bif (v_T_takeWord (zf_for 4 (f_H_readKind_1 M) ((0 : Int32), (w_T_needWord (w_T_takeKind M) 1))).2 2) then (w_T_takeNumber (w_T_takeWord (zf_for 4 (f_H_readKind_1 M) ((0 : Int32), (w_T_needWord (w_T_takeKind M) 1))).2 2) (7 : Int32)) else (w_T_takeWord (zf_for 4 (f_H_readKind_1 M) ((0 : Int32), (w_T_needWord (w_T_takeKind M) 1))).2 2)) 3) then (w_T_takeKind (w_T_takeWord (bif (v_T_takeWord (zf_for 4 (f_H_readKind_1 M) ((0 : Int32), (w_T_needWord (w_T_takeKind M) 1))).2 2) then (w_T_takeNumber (w_T_takeWord (zf_for 4 (f_H_readKind_1 M) ((0 : Int32), (w_T_needWord (w_T_takeKind M) 1))).2 2) (7 : Int32)) else (w_T_takeWord (zf_for 4 (f_H_readKind_1 M) ((0 : Int32), (w_T_needWord (w_T_takeKind M) 1))).2 2)) 3)) else (w_T_takeWord (bif (v_T_takeWord (zf_for 4 (f_H_readKind_1 M) ((0 : Int32), (w_T_needWord (w_T_takeKind M) 1))).2 2) then (w_T_takeNumber (w_T_takeWord (zf_for 4 (f_H_readKind_1 M) ((0 : Int32), (w_T_needWord (w_T_takeKind M) 1))).2 2) (7 : Int32)) else (w_T_takeWord (zf_for 4 (f_H_readKind_1 M) ((0 : Int32), (w_T_needWord (w_T_takeKind M) 1))).2 2)) 3)) 16 (v_T_takeKind M).toNatClampNeg (zf_for 4 (f_H_readKind_1 M) ((0 : Int32), (w_T_needWord (w_T_takeKind M) 1))).1) 17 (v_T_takeKind M).toNatClampNeg (bif (v_T_takeWord (zf_for 4 (f_H_readKind_1 M) ((0 : Int32), (w_T_needWord (w_T_takeKind M) 1))).2 2) then (v_T_takeNumber (w_T_takeWord (zf_for 4 (f_H_readKind_1 M) ((0 : Int32), (w_T_needWord (w_T_takeKind M) 1))).2 2) (7 : Int32)) else (-1 : Int32)))), J, e)) (fun _ => rfl)).trans ?_
          refine zl_getR rfl rfl rfl ?_
          refine (zz_go 2 (fr' := (zm_H_readKind, d + 10, 125, [none, some (.ref 15), some (.int (v_T_takeKind M)), none, none, some (.int (bif (v_T_takeWord (bif (v_T_takeWord (zf_for 4 (f_H_readKind_1 M) ((0 : Int32), (w_T_needWord (w_T_takeKind M) 1))).2 2) then (w_T_takeNumber (w_T_takeWord (zf_for 4 (f_H_readKind_1 M) ((0 : Int32), (w_T_needWord (w_T_takeKind M) 1))).2 2) (7 : Int32)) else (w_T_takeWord (zf_for 4 (f_H_readKind_1 M) ((0 : Int32), (w_T_needWord (w_T_takeKind M) 1))).2 2)) 3) then (v_T_takeKind (w_T_takeWord (bif (v_T_takeWord (zf_for 4 (f_H_readKind_1 M) ((0 : Int32), (w_T_needWord (w_T_takeKind M) 1))).2 2) then (w_T_takeNumber (w_T_takeWord (zf_for 4 (f_H_readKind_1 M) ((0 : Int32), (w_T_needWord (w_T_takeKind M) 1))).2 2) (7 : Int32)) else (w_T_takeWord (zf_for 4 (f_H_readKind_1 M) ((0 : Int32), (w_T_needWord (w_T_takeKind M) 1))).2 2)) 3)) else (-1 : Int32)))], [.int (bif (v_T_takeWord (bif (v_T_takeWord (zf_for 4 (f_H_readKind_1 M) ((0 : Int32), (w_T_needWord (w_T_takeKind M) 1))).2 2) then (w_T_takeNumber (w_T_takeWord (zf_for 4 (f_H_readKind_1 M) ((0 : Int32), (w_T_needWord (w_T_takeKind M) 1))).2 2) (7 : Int32)) else (w_T_takeWord (zf_for 4 (f_H_readKind_1 M) ((0 : Int32), (w_T_needWord (w_T_takeKind M) 1))).2 2)) 3) then (v_T_takeKind (w_T_takeWord (bif (v_T_takeWord (zf_for 4 (f_H_readKind_1 M) ((0 : Int32), (w_T_needWord (w_T_takeKind M) 1))).2 2) then (w_T_takeNumber (w_T_takeWord (zf_for 4 (f_H_readKind_1 M) ((0 : Int32), (w_T_needWord (w_T_takeKind M) 1))).2 2) (7 : Int32)) else (w_T_takeWord (zf_for 4 (f_H_readKind_1 M) ((0 : Int32), (w_T_needWord (w_T_takeKind M) 1))).2 2)) 3)) else (-1 : Int32)), .int (v_T_takeKind M), .ref 18])) (h' := (zt_T L, zt_R, (bif (decide ((bif (v_T_takeWord (zf_for 4 (f_H_readKind_1 M) ((0 : Int32), (w_T_needWord (w_T_takeKind M) 1))).2 2) then (v_T_takeNumber (w_T_takeWord (zf_for 4 (f_H_readKind_1 M) ((0 : Int32), (w_T_needWord (w_T_takeKind M) 1))).2 2) (7 : Int32)) else (-1 : Int32)) = (-1 : Int32))) then (zz_up (bif (v_T_takeWord (bif (v_T_takeWord (zf_for 4 (f_H_readKind_1 M) ((0 : Int32), (w_T_needWord (w_T_takeKind M) 1))).2 2) then (w_T_takeNumber (w_T_takeWord (zf_for 4 (f_H_readKind_1 M) ((0 : Int32), (w_T_needWord (w_T_takeKind M) 1))).2 2) (7 : Int32)) else (w_T_takeWord (zf_for 4 (f_H_readKind_1 M) ((0 : Int32), (w_T_needWord (w_T_takeKind M) 1))).2 2)) 3) then (w_T_takeKind (w_T_takeWord (bif (v_T_takeWord (zf_for 4 (f_H_readKind_1 M) ((0 : Int32), (w_T_needWord (w_T_takeKind M) 1))).2 2) then (w_T_takeNumber (w_T_takeWord (zf_for 4 (f_H_readKind_1 M) ((0 : Int32), (w_T_needWord (w_T_takeKind M) 1))).2 2) (7 : Int32)) else (w_T_takeWord (zf_for 4 (f_H_readKind_1 M) ((0 : Int32), (w_T_needWord (w_T_takeKind M) 1))).2 2)) 3)) else (w_T_takeWord (bif (v_T_takeWord (zf_for 4 (f_H_readKind_1 M) ((0 : Int32), (w_T_needWord (w_T_takeKind M) 1))).2 2) then (w_T_takeNumber (w_T_takeWord (zf_for 4 (f_H_readKind_1 M) ((0 : Int32), (w_T_needWord (w_T_takeKind M) 1))).2 2) (7 : Int32)) else (w_T_takeWord (zf_for 4 (f_H_readKind_1 M) ((0 : Int32), (w_T_needWord (w_T_takeKind M) 1))).2 2)) 3)) 16 (v_T_takeKind M).toNatClampNeg (zf_for 4 (f_H_readKind_1 M) ((0 : Int32), (w_T_needWord (w_T_takeKind M) 1))).1) else (zz_up (zz_up (bif (v_T_takeWord (bif (v_T_takeWord (zf_for 4 (f_H_readKind_1 M) ((0 : Int32), (w_T_needWord (w_T_takeKind M) 1))).2 2) then (w_T_takeNumber (w_T_takeWord (zf_for 4 (f_H_readKind_1 M) ((0 : Int32), (w_T_needWord (w_T_takeKind M) 1))).2 2) (7 : Int32)) else (w_T_takeWord (zf_for 4 (f_H_readKind_1 M) ((0 : Int32), (w_T_needWord (w_T_takeKind M) 1))).2 2)) 3) then (w_T_takeKind (w_T_takeWord (bif (v_T_takeWord (zf_for 4 (f_H_readKind_1 M) ((0 : Int32), (w_T_needWord (w_T_takeKind M) 1))).2 2) then (w_T_takeNumber (w_T_takeWord (zf_for 4 (f_H_readKind_1 M) ((0 : Int32), (w_T_needWord (w_T_takeKind M) 1))).2 2) (7 : Int32)) else (w_T_takeWord (zf_for 4 (f_H_readKind_1 M) ((0 : Int32), (w_T_needWord (w_T_takeKind M) 1))).2 2)) 3)) else (w_T_takeWord (bif (v_T_takeWord (zf_for 4 (f_H_readKind_1 M) ((0 : Int32), (w_T_needWord (w_T_takeKind M) 1))).2 2) then (w_T_takeNumber (w_T_takeWord (zf_for 4 (f_H_readKind_1 M) ((0 : Int32), (w_T_needWord (w_T_takeKind M) 1))).2 2) (7 : Int32)) else (w_T_takeWord (zf_for 4 (f_H_readKind_1 M) ((0 : Int32), (w_T_needWord (w_T_takeKind M) 1))).2 2)) 3)) 16 (v_T_takeKind M).toNatClampNeg (zf_for 4 (f_H_readKind_1 M) ((0 : Int32), (w_T_needWord (w_T_takeKind M) 1))).1) 17 (v_T_takeKind M).toNatClampNeg (bif (v_T_takeWord (zf_for 4 (f_H_readKind_1 M) ((0 : Int32), (w_T_needWord (w_T_takeKind M) 1))).2 2) then (v_T_takeNumber (w_T_takeWord (zf_for 4 (f_H_readKind_1 M) ((0 : Int32), (w_T_needWord (w_T_takeKind M) 1))).2 2) (7 : Int32)) else (-1 : Int32)))), J, e)) (fun _ => rfl)).trans ?_
          refine zl_iastore rfl rfl g30 rfl rfl ?_
          refine zz_weak (L := [none, none, none, none, none, none]) ⟨Or.inl rfl, Or.inr ⟨rfl, rfl⟩, Or.inr ⟨rfl, rfl⟩, Or.inl rfl, Or.inl rfl, Or.inr ⟨rfl, rfl⟩, trivial⟩ ?_
          simpa only [h34, zk_t, zk_f, zb_t, zb_f] using j33
      refine (zz_end 1 (r := (.inl none, (zt_T L, zt_R, (bif (decide ((bif (v_T_takeWord (bif (v_T_takeWord (zf_for 4 (f_H_readKind_1 M) ((0 : Int32), (w_T_needWord (w_T_takeKind M) 1))).2 2) then (w_T_takeNumber (w_T_takeWord (zf_for 4 (f_H_readKind_1 M) ((0 : Int32), (w_T_needWord (w_T_takeKind M) 1))).2 2) (7 : Int32)) else (w_T_takeWord (zf_for 4 (f_H_readKind_1 M) ((0 : Int32), (w_T_needWord (w_T_takeKind M) 1))).2 2)) 3) then (v_T_takeKind (w_T_takeWord (bif (v_T_takeWord (zf_for 4 (f_H_readKind_1 M) ((0 : Int32), (w_T_needWord (w_T_takeKind M) 1))).2 2) then (w_T_takeNumber (w_T_takeWord (zf_for 4 (f_H_readKind_1 M) ((0 : Int32), (w_T_needWord (w_T_takeKind M) 1))).2 2) (7 : Int32)) else (w_T_takeWord (zf_for 4 (f_H_readKind_1 M) ((0 : Int32), (w_T_needWord (w_T_takeKind M) 1))).2 2)) 3)) else (-1 : Int32)) = (-1 : Int32))) then (bif (decide ((bif (v_T_takeWord (zf_for 4 (f_H_readKind_1 M) ((0 : Int32), (w_T_needWord (w_T_takeKind M) 1))).2 2) then (v_T_takeNumber (w_T_takeWord (zf_for 4 (f_H_readKind_1 M) ((0 : Int32), (w_T_needWord (w_T_takeKind M) 1))).2 2) (7 : Int32)) else (-1 : Int32)) = (-1 : Int32))) then (zz_up (bif (v_T_takeWord (bif (v_T_takeWord (zf_for 4 (f_H_readKind_1 M) ((0 : Int32), (w_T_needWord (w_T_takeKind M) 1))).2 2) then (w_T_takeNumber (w_T_takeWord (zf_for 4 (f_H_readKind_1 M) ((0 : Int32), (w_T_needWord (w_T_takeKind M) 1))).2 2) (7 : Int32)) else (w_T_takeWord (zf_for 4 (f_H_readKind_1 M) ((0 : Int32), (w_T_needWord (w_T_takeKind M) 1))).2 2)) 3) then (w_T_takeKind (w_T_takeWord (bif (v_T_takeWord (zf_for 4 (f_H_readKind_1 M) ((0 : Int32), (w_T_needWord (w_T_takeKind M) 1))).2 2) then (w_T_takeNumber (w_T_takeWord (zf_for 4 (f_H_readKind_1 M) ((0 : Int32), (w_T_needWord (w_T_takeKind M) 1))).2 2) (7 : Int32)) else (w_T_takeWord (zf_for 4 (f_H_readKind_1 M) ((0 : Int32), (w_T_needWord (w_T_takeKind M) 1))).2 2)) 3)) else (w_T_takeWord (bif (v_T_takeWord (zf_for 4 (f_H_readKind_1 M) ((0 : Int32), (w_T_needWord (w_T_takeKind M) 1))).2 2) then (w_T_takeNumber (w_T_takeWord (zf_for 4 (f_H_readKind_1 M) ((0 : Int32), (w_T_needWord (w_T_takeKind M) 1))).2 2) (7 : Int32)) else (w_T_takeWord (zf_for 4 (f_H_readKind_1 M) ((0 : Int32), (w_T_needWord (w_T_takeKind M) 1))).2 2)) 3)) 16 (v_T_takeKind M).toNatClampNeg (zf_for 4 (f_H_readKind_1 M) ((0 : Int32), (w_T_needWord (w_T_takeKind M) 1))).1) else (zz_up (zz_up (bif (v_T_takeWord (bif (v_T_takeWord (zf_for 4 (f_H_readKind_1 M) ((0 : Int32), (w_T_needWord (w_T_takeKind M) 1))).2 2) then (w_T_takeNumber (w_T_takeWord (zf_for 4 (f_H_readKind_1 M) ((0 : Int32), (w_T_needWord (w_T_takeKind M) 1))).2 2) (7 : Int32)) else (w_T_takeWord (zf_for 4 (f_H_readKind_1 M) ((0 : Int32), (w_T_needWord (w_T_takeKind M) 1))).2 2)) 3) then (w_T_takeKind (w_T_takeWord (bif (v_T_takeWord (zf_for 4 (f_H_readKind_1 M) ((0 : Int32), (w_T_needWord (w_T_takeKind M) 1))).2 2) then (w_T_takeNumber (w_T_takeWord (zf_for 4 (f_H_readKind_1 M) ((0 : Int32), (w_T_needWord (w_T_takeKind M) 1))).2 2) (7 : Int32)) else (w_T_takeWord (zf_for 4 (f_H_readKind_1 M) ((0 : Int32), (w_T_needWord (w_T_takeKind M) 1))).2 2)) 3)) else (w_T_takeWord (bif (v_T_takeWord (zf_for 4 (f_H_readKind_1 M) ((0 : Int32), (w_T_needWord (w_T_takeKind M) 1))).2 2) then (w_T_takeNumber (w_T_takeWord (zf_for 4 (f_H_readKind_1 M) ((0 : Int32), (w_T_needWord (w_T_takeKind M) 1))).2 2) (7 : Int32)) else (w_T_takeWord (zf_for 4 (f_H_readKind_1 M) ((0 : Int32), (w_T_needWord (w_T_takeKind M) 1))).2 2)) 3)) 16 (v_T_takeKind M).toNatClampNeg (zf_for 4 (f_H_readKind_1 M) ((0 : Int32), (w_T_needWord (w_T_takeKind M) 1))).1) 17 (v_T_takeKind M).toNatClampNeg (bif (v_T_takeWord (zf_for 4 (f_H_readKind_1 M) ((0 : Int32), (w_T_needWord (w_T_takeKind M) 1))).2 2) then (v_T_takeNumber (w_T_takeWord (zf_for 4 (f_H_readKind_1 M) ((0 : Int32), (w_T_needWord (w_T_takeKind M) 1))).2 2) (7 : Int32)) else (-1 : Int32)))) else (zz_up (bif (decide ((bif (v_T_takeWord (zf_for 4 (f_H_readKind_1 M) ((0 : Int32), (w_T_needWord (w_T_takeKind M) 1))).2 2) then (v_T_takeNumber (w_T_takeWord (zf_for 4 (f_H_readKind_1 M) ((0 : Int32), (w_T_needWord (w_T_takeKind M) 1))).2 2) (7 : Int32)) else (-1 : Int32)) = (-1 : Int32))) then (zz_up (bif (v_T_takeWord (bif (v_T_takeWord (zf_for 4 (f_H_readKind_1 M) ((0 : Int32), (w_T_needWord (w_T_takeKind M) 1))).2 2) then (w_T_takeNumber (w_T_takeWord (zf_for 4 (f_H_readKind_1 M) ((0 : Int32), (w_T_needWord (w_T_takeKind M) 1))).2 2) (7 : Int32)) else (w_T_takeWord (zf_for 4 (f_H_readKind_1 M) ((0 : Int32), (w_T_needWord (w_T_takeKind M) 1))).2 2)) 3) then (w_T_takeKind (w_T_takeWord (bif (v_T_takeWord (zf_for 4 (f_H_readKind_1 M) ((0 : Int32), (w_T_needWord (w_T_takeKind M) 1))).2 2) then (w_T_takeNumber (w_T_takeWord (zf_for 4 (f_H_readKind_1 M) ((0 : Int32), (w_T_needWord (w_T_takeKind M) 1))).2 2) (7 : Int32)) else (w_T_takeWord (zf_for 4 (f_H_readKind_1 M) ((0 : Int32), (w_T_needWord (w_T_takeKind M) 1))).2 2)) 3)) else (w_T_takeWord (bif (v_T_takeWord (zf_for 4 (f_H_readKind_1 M) ((0 : Int32), (w_T_needWord (w_T_takeKind M) 1))).2 2) then (w_T_takeNumber (w_T_takeWord (zf_for 4 (f_H_readKind_1 M) ((0 : Int32), (w_T_needWord (w_T_takeKind M) 1))).2 2) (7 : Int32)) else (w_T_takeWord (zf_for 4 (f_H_readKind_1 M) ((0 : Int32), (w_T_needWord (w_T_takeKind M) 1))).2 2)) 3)) 16 (v_T_takeKind M).toNatClampNeg (zf_for 4 (f_H_readKind_1 M) ((0 : Int32), (w_T_needWord (w_T_takeKind M) 1))).1) else (zz_up (zz_up (bif (v_T_takeWord (bif (v_T_takeWord (zf_for 4 (f_H_readKind_1 M) ((0 : Int32), (w_T_needWord (w_T_takeKind M) 1))).2 2) then (w_T_takeNumber (w_T_takeWord (zf_for 4 (f_H_readKind_1 M) ((0 : Int32), (w_T_needWord (w_T_takeKind M) 1))).2 2) (7 : Int32)) else (w_T_takeWord (zf_for 4 (f_H_readKind_1 M) ((0 : Int32), (w_T_needWord (w_T_takeKind M) 1))).2 2)) 3) then (w_T_takeKind (w_T_takeWord (bif (v_T_takeWord (zf_for 4 (f_H_readKind_1 M) ((0 : Int32), (w_T_needWord (w_T_takeKind M) 1))).2 2) then (w_T_takeNumber (w_T_takeWord (zf_for 4 (f_H_readKind_1 M) ((0 : Int32), (w_T_needWord (w_T_takeKind M) 1))).2 2) (7 : Int32)) else (w_T_takeWord (zf_for 4 (f_H_readKind_1 M) ((0 : Int32), (w_T_needWord (w_T_takeKind M) 1))).2 2)) 3)) else (w_T_takeWord (bif (v_T_takeWord (zf_for 4 (f_H_readKind_1 M) ((0 : Int32), (w_T_needWord (w_T_takeKind M) 1))).2 2) then (w_T_takeNumber (w_T_takeWord (zf_for 4 (f_H_readKind_1 M) ((0 : Int32), (w_T_needWord (w_T_takeKind M) 1))).2 2) (7 : Int32)) else (w_T_takeWord (zf_for 4 (f_H_readKind_1 M) ((0 : Int32), (w_T_needWord (w_T_takeKind M) 1))).2 2)) 3)) 16 (v_T_takeKind M).toNatClampNeg (zf_for 4 (f_H_readKind_1 M) ((0 : Int32), (w_T_needWord (w_T_takeKind M) 1))).1) 17 (v_T_takeKind M).toNatClampNeg (bif (v_T_takeWord (zf_for 4 (f_H_readKind_1 M) ((0 : Int32), (w_T_needWord (w_T_takeKind M) 1))).2 2) then (v_T_takeNumber (w_T_takeWord (zf_for 4 (f_H_readKind_1 M) ((0 : Int32), (w_T_needWord (w_T_takeKind M) 1))).2 2) (7 : Int32)) else (-1 : Int32)))) 18 (v_T_takeKind M).toNatClampNeg (bif (v_T_takeWord (bif (v_T_takeWord (zf_for 4 (f_H_readKind_1 M) ((0 : Int32), (w_T_needWord (w_T_takeKind M) 1))).2 2) then (w_T_takeNumber (w_T_takeWord (zf_for 4 (f_H_readKind_1 M) ((0 : Int32), (w_T_needWord (w_T_takeKind M) 1))).2 2) (7 : Int32)) else (w_T_takeWord (zf_for 4 (f_H_readKind_1 M) ((0 : Int32), (w_T_needWord (w_T_takeKind M) 1))).2 2)) 3) then (v_T_takeKind (w_T_takeWord (bif (v_T_takeWord (zf_for 4 (f_H_readKind_1 M) ((0 : Int32), (w_T_needWord (w_T_takeKind M) 1))).2 2) then (w_T_takeNumber (w_T_takeWord (zf_for 4 (f_H_readKind_1 M) ((0 : Int32), (w_T_needWord (w_T_takeKind M) 1))).2 2) (7 : Int32)) else (w_T_takeWord (zf_for 4 (f_H_readKind_1 M) ((0 : Int32), (w_T_needWord (w_T_takeKind M) 1))).2 2)) 3)) else (-1 : Int32)))), J, e))) (fun _ => rfl)).trans ?_
      first | (simp only [h26, h28, zk_t, zk_f, zb_t, zb_f]; done) | (simp only [h26, h28, zk_t, zk_f, zb_t, zb_f]; rfl) | rfl
    · refine zc_ltF rfl h28 ?_
      refine (zz_end 1 (r := (.inl none, (zt_T L, zt_R, (bif (v_T_takeWord (bif (v_T_takeWord (zf_for 4 (f_H_readKind_1 M) ((0 : Int32), (w_T_needWord (w_T_takeKind M) 1))).2 2) then (w_T_takeNumber (w_T_takeWord (zf_for 4 (f_H_readKind_1 M) ((0 : Int32), (w_T_needWord (w_T_takeKind M) 1))).2 2) (7 : Int32)) else (w_T_takeWord (zf_for 4 (f_H_readKind_1 M) ((0 : Int32), (w_T_needWord (w_T_takeKind M) 1))).2 2)) 3) then (w_T_takeKind (w_T_takeWord (bif (v_T_takeWord (zf_for 4 (f_H_readKind_1 M) ((0 : Int32), (w_T_needWord (w_T_takeKind M) 1))).2 2) then (w_T_takeNumber (w_T_takeWord (zf_for 4 (f_H_readKind_1 M) ((0 : Int32), (w_T_needWord (w_T_takeKind M) 1))).2 2) (7 : Int32)) else (w_T_takeWord (zf_for 4 (f_H_readKind_1 M) ((0 : Int32), (w_T_needWord (w_T_takeKind M) 1))).2 2)) 3)) else (w_T_takeWord (bif (v_T_takeWord (zf_for 4 (f_H_readKind_1 M) ((0 : Int32), (w_T_needWord (w_T_takeKind M) 1))).2 2) then (w_T_takeNumber (w_T_takeWord (zf_for 4 (f_H_readKind_1 M) ((0 : Int32), (w_T_needWord (w_T_takeKind M) 1))).2 2) (7 : Int32)) else (w_T_takeWord (zf_for 4 (f_H_readKind_1 M) ((0 : Int32), (w_T_needWord (w_T_takeKind M) 1))).2 2)) 3)), J, e))) (fun _ => rfl)).trans ?_
      first | (simp only [h26, h28, zk_t, zk_f, zb_t, zb_f]; done) | (simp only [h26, h28, zk_t, zk_f, zb_t, zb_f]; rfl) | rfl
def w_H_readPerson (M : zMem) : zMem := (w_S_addPerson (bif (v_T_takeWord (w_T_takeNumber (w_T_needWord (w_T_takeNumber (w_T_needWord M 5) (99 : Int32)) 6) (9 : Int32)) 7) then (w_T_takeKind (w_T_takeWord (w_T_takeNumber (w_T_needWord (w_T_takeNumber (w_T_needWord M 5) (99 : Int32)) 6) (9 : Int32)) 7)) else (w_T_takeWord (w_T_takeNumber (w_T_needWord (w_T_takeNumber (w_T_needWord M 5) (99 : Int32)) 6) (9 : Int32)) 7)) 15 (v_T_takeNumber (w_T_needWord M 5) (99 : Int32)) (v_T_takeNumber (w_T_needWord (w_T_takeNumber (w_T_needWord M 5) (99 : Int32)) 6) (9 : Int32)) (bif (v_T_takeWord (w_T_takeNumber (w_T_needWord (w_T_takeNumber (w_T_needWord M 5) (99 : Int32)) 6) (9 : Int32)) 7) then (v_T_takeKind (w_T_takeWord (w_T_takeNumber (w_T_needWord (w_T_takeNumber (w_T_needWord M 5) (99 : Int32)) 6) (9 : Int32)) 7)) else (-1 : Int32)))
def ok_H_readPerson (M : zMem) : Prop := (ok_T_needWord M 5 ∧ (ok_T_takeNumber (w_T_needWord M 5) (99 : Int32) ∧ (ok_T_needWord (w_T_takeNumber (w_T_needWord M 5) (99 : Int32)) 6 ∧ (ok_T_takeNumber (w_T_needWord (w_T_takeNumber (w_T_needWord M 5) (99 : Int32)) 6) (9 : Int32) ∧ (ok_T_takeWord (w_T_takeNumber (w_T_needWord (w_T_takeNumber (w_T_needWord M 5) (99 : Int32)) 6) (9 : Int32)) 7 ∧ (((v_T_takeWord (w_T_takeNumber (w_T_needWord (w_T_takeNumber (w_T_needWord M 5) (99 : Int32)) 6) (9 : Int32)) 7) = true → ok_T_takeKind (w_T_takeWord (w_T_takeNumber (w_T_needWord (w_T_takeNumber (w_T_needWord M 5) (99 : Int32)) 6) (9 : Int32)) 7)) ∧ ok_S_addPerson (bif (v_T_takeWord (w_T_takeNumber (w_T_needWord (w_T_takeNumber (w_T_needWord M 5) (99 : Int32)) 6) (9 : Int32)) 7) then (w_T_takeKind (w_T_takeWord (w_T_takeNumber (w_T_needWord (w_T_takeNumber (w_T_needWord M 5) (99 : Int32)) 6) (9 : Int32)) 7)) else (w_T_takeWord (w_T_takeNumber (w_T_needWord (w_T_takeNumber (w_T_needWord M 5) (99 : Int32)) 6) (9 : Int32)) 7)) 15 (v_T_takeNumber (w_T_needWord M 5) (99 : Int32)) (v_T_takeNumber (w_T_needWord (w_T_takeNumber (w_T_needWord M 5) (99 : Int32)) 6) (9 : Int32)) (bif (v_T_takeWord (w_T_takeNumber (w_T_needWord (w_T_takeNumber (w_T_needWord M 5) (99 : Int32)) 6) (9 : Int32)) 7) then (v_T_takeKind (w_T_takeWord (w_T_takeNumber (w_T_needWord (w_T_takeNumber (w_T_needWord M 5) (99 : Int32)) 6) (9 : Int32)) 7)) else (-1 : Int32))))))))
set_option maxRecDepth 20000 in
set_option maxHeartbeats 2000000 in
theorem s_H_readPerson (L e : Nat) (J : zJem) (d : Nat) (M : zMem) (k0 : ok_H_readPerson M) : zz_D (zm_H_readPerson, d + 10, 0, [some (.ref 2), some (.ref 15), none, none, none], []) (zt_T L, zt_R, M, J, e) = some (.inl (none), (zt_T L, zt_R, (w_H_readPerson M), J, e)) := by
  unfold ok_H_readPerson at k0
  unfold w_H_readPerson
  refine (zz_go 2 (fr' := (zm_H_readPerson, d + 10, 3, [some (.ref 2), some (.ref 15), none, none, none], [.ref (1000000 + 5), .ref 2])) (h' := (zt_T L, zt_R, M, J, e)) (fun _ => rfl)).trans ?_
  obtain ⟨g1, k2⟩ := k0
  refine zl_vt (d := d + 9) rfl rfl rfl rfl rfl rfl rfl rfl rfl rfl (s_T_needWord L e J (d + 0) M 5 rfl g1) ?_
  show zz_D (zm_H_readPerson, d + 10, 6, [some (.ref 2), some (.ref 15), none, none, none], []) (zt_T L, zt_R, (w_T_needWord M 5), J, e) = _
  refine (zz_go 2 (fr' := (zm_H_readPerson, d + 10, 9, [some (.ref 2), some (.ref 15), none, none, none], [.int (99 : Int32), .ref 2])) (h' := (zt_T L, zt_R, (w_T_needWord M 5), J, e)) (fun _ => rfl)).trans ?_
  obtain ⟨g3, k4⟩ := k2
  refine zl_vt (d := d + 9) rfl rfl rfl rfl rfl rfl rfl rfl rfl rfl (s_T_takeNumber L e J (d + 7) (w_T_needWord M 5) (99 : Int32) g3) ?_
  show zz_D (zm_H_readPerson, d + 10, 12, [some (.ref 2), some (.ref 15), none, none, none], [.int (v_T_takeNumber (w_T_needWord M 5) (99 : Int32))]) (zt_T L, zt_R, (w_T_takeNumber (w_T_needWord M 5) (99 : Int32)), J, e) = _
  refine (zz_go 3 (fr' := (zm_H_readPerson, d + 10, 16, [some (.ref 2), some (.ref 15), some (.int (v_T_takeNumber (w_T_needWord M 5) (99 : Int32))), none, none], [.ref (1000000 + 6), .ref 2])) (h' := (zt_T L, zt_R, (w_T_takeNumber (w_T_needWord M 5) (99 : Int32)), J, e)) (fun _ => rfl)).trans ?_
  obtain ⟨g5, k6⟩ := k4
  refine zl_vt (d := d + 9) rfl rfl rfl rfl rfl rfl rfl rfl rfl rfl (s_T_needWord L e J (d + 0) (w_T_takeNumber (w_T_needWord M 5) (99 : Int32)) 6 rfl g5) ?_
  show zz_D (zm_H_readPerson, d + 10, 19, [some (.ref 2), some (.ref 15), some (.int (v_T_takeNumber (w_T_needWord M 5) (99 : Int32))), none, none], []) (zt_T L, zt_R, (w_T_needWord (w_T_takeNumber (w_T_needWord M 5) (99 : Int32)) 6), J, e) = _
  refine (zz_go 2 (fr' := (zm_H_readPerson, d + 10, 22, [some (.ref 2), some (.ref 15), some (.int (v_T_takeNumber (w_T_needWord M 5) (99 : Int32))), none, none], [.int (9 : Int32), .ref 2])) (h' := (zt_T L, zt_R, (w_T_needWord (w_T_takeNumber (w_T_needWord M 5) (99 : Int32)) 6), J, e)) (fun _ => rfl)).trans ?_
  obtain ⟨g7, k8⟩ := k6
  refine zl_vt (d := d + 9) rfl rfl rfl rfl rfl rfl rfl rfl rfl rfl (s_T_takeNumber L e J (d + 7) (w_T_needWord (w_T_takeNumber (w_T_needWord M 5) (99 : Int32)) 6) (9 : Int32) g7) ?_
  show zz_D (zm_H_readPerson, d + 10, 25, [some (.ref 2), some (.ref 15), some (.int (v_T_takeNumber (w_T_needWord M 5) (99 : Int32))), none, none], [.int (v_T_takeNumber (w_T_needWord (w_T_takeNumber (w_T_needWord M 5) (99 : Int32)) 6) (9 : Int32))]) (zt_T L, zt_R, (w_T_takeNumber (w_T_needWord (w_T_takeNumber (w_T_needWord M 5) (99 : Int32)) 6) (9 : Int32)), J, e) = _
  refine (zz_go 3 (fr' := (zm_H_readPerson, d + 10, 29, [some (.ref 2), some (.ref 15), some (.int (v_T_takeNumber (w_T_needWord M 5) (99 : Int32))), some (.int (v_T_takeNumber (w_T_needWord (w_T_takeNumber (w_T_needWord M 5) (99 : Int32)) 6) (9 : Int32))), none], [.ref (1000000 + 7), .ref 2])) (h' := (zt_T L, zt_R, (w_T_takeNumber (w_T_needWord (w_T_takeNumber (w_T_needWord M 5) (99 : Int32)) 6) (9 : Int32)), J, e)) (fun _ => rfl)).trans ?_
  obtain ⟨g9, k10⟩ := k8
  refine zl_vt (d := d + 9) rfl rfl rfl rfl rfl rfl rfl rfl rfl rfl (s_T_takeWord L e J (d + 1) (w_T_takeNumber (w_T_needWord (w_T_takeNumber (w_T_needWord M 5) (99 : Int32)) 6) (9 : Int32)) 7 rfl g9) ?_
  show zz_D (zm_H_readPerson, d + 10, 32, [some (.ref 2), some (.ref 15), some (.int (v_T_takeNumber (w_T_needWord M 5) (99 : Int32))), some (.int (v_T_takeNumber (w_T_needWord (w_T_takeNumber (w_T_needWord M 5) (99 : Int32)) 6) (9 : Int32))), none], [.int (zb (v_T_takeWord (w_T_takeNumber (w_T_needWord (w_T_takeNumber (w_T_needWord M 5) (99 : Int32)) 6) (9 : Int32)) 7))]) (zt_T L, zt_R, (w_T_takeWord (w_T_takeNumber (w_T_needWord (w_T_takeNumber (w_T_needWord M 5) (99 : Int32)) 6) (9 : Int32)) 7), J, e) = _
  obtain ⟨k11, k12⟩ := k10
  refine zz_jn (X := zz_D (zm_H_readPerson, d + 10, 43, [none, some (.ref 15), some (.int (v_T_takeNumber (w_T_needWord M 5) (99 : Int32))), some (.int (v_T_takeNumber (w_T_needWord (w_T_takeNumber (w_T_needWord M 5) (99 : Int32)) 6) (9 : Int32))), none], [.int (bif (v_T_takeWord (w_T_takeNumber (w_T_needWord (w_T_takeNumber (w_T_needWord M 5) (99 : Int32)) 6) (9 : Int32)) 7) then (v_T_takeKind (w_T_takeWord (w_T_takeNumber (w_T_needWord (w_T_takeNumber (w_T_needWord M 5) (99 : Int32)) 6) (9 : Int32)) 7)) else (-1 : Int32))]) (zt_T L, zt_R, (bif (v_T_takeWord (w_T_takeNumber (w_T_needWord (w_T_takeNumber (w_T_needWord M 5) (99 : Int32)) 6) (9 : Int32)) 7) then (w_T_takeKind (w_T_takeWord (w_T_takeNumber (w_T_needWord (w_T_takeNumber (w_T_needWord M 5) (99 : Int32)) 6) (9 : Int32)) 7)) else (w_T_takeWord (w_T_takeNumber (w_T_needWord (w_T_takeNumber (w_T_needWord M 5) (99 : Int32)) 6) (9 : Int32)) 7)), J, e)) (fun j13 => ?_) ?_
  · rcases zz_bc (v_T_takeWord (w_T_takeNumber (w_T_needWord (w_T_takeNumber (w_T_needWord M 5) (99 : Int32)) 6) (9 : Int32)) 7) with h14 | h14
    · refine zq_eT rfl h14 ?_
      have k15 := k11 h14
      refine (zz_go 1 (fr' := (zm_H_readPerson, d + 10, 36, [some (.ref 2), some (.ref 15), some (.int (v_T_takeNumber (w_T_needWord M 5) (99 : Int32))), some (.int (v_T_takeNumber (w_T_needWord (w_T_takeNumber (w_T_needWord M 5) (99 : Int32)) 6) (9 : Int32))), none], [.ref 2])) (h' := (zt_T L, zt_R, (w_T_takeWord (w_T_takeNumber (w_T_needWord (w_T_takeNumber (w_T_needWord M 5) (99 : Int32)) 6) (9 : Int32)) 7), J, e)) (fun _ => rfl)).trans ?_
      have g16 : ok_T_takeKind (w_T_takeWord (w_T_takeNumber (w_T_needWord (w_T_takeNumber (w_T_needWord M 5) (99 : Int32)) 6) (9 : Int32)) 7) := k15
      refine zl_vt (d := d + 9) rfl rfl rfl rfl rfl rfl rfl rfl rfl rfl (s_T_takeKind L e J (d + 7) (w_T_takeWord (w_T_takeNumber (w_T_needWord (w_T_takeNumber (w_T_needWord M 5) (99 : Int32)) 6) (9 : Int32)) 7) g16) ?_
      show zz_D (zm_H_readPerson, d + 10, 39, [some (.ref 2), some (.ref 15), some (.int (v_T_takeNumber (w_T_needWord M 5) (99 : Int32))), some (.int (v_T_takeNumber (w_T_needWord (w_T_takeNumber (w_T_needWord M 5) (99 : Int32)) 6) (9 : Int32))), none], [.int (v_T_takeKind (w_T_takeWord (w_T_takeNumber (w_T_needWord (w_T_takeNumber (w_T_needWord M 5) (99 : Int32)) 6) (9 : Int32)) 7))]) (zt_T L, zt_R, (w_T_takeKind (w_T_takeWord (w_T_takeNumber (w_T_needWord (w_T_takeNumber (w_T_needWord M 5) (99 : Int32)) 6) (9 : Int32)) 7)), J, e) = _
      refine (zz_go 1 (fr' := (zm_H_readPerson, d + 10, 43, [some (.ref 2), some (.ref 15), some (.int (v_T_takeNumber (w_T_needWord M 5) (99 : Int32))), some (.int (v_T_takeNumber (w_T_needWord (w_T_takeNumber (w_T_needWord M 5) (99 : Int32)) 6) (9 : Int32))), none], [.int (v_T_takeKind (w_T_takeWord (w_T_takeNumber (w_T_needWord (w_T_takeNumber (w_T_needWord M 5) (99 : Int32)) 6) (9 : Int32)) 7))])) (h' := (zt_T L, zt_R, (w_T_takeKind (w_T_takeWord (w_T_takeNumber (w_T_needWord (w_T_takeNumber (w_T_needWord M 5) (99 : Int32)) 6) (9 : Int32)) 7)), J, e)) (fun _ => rfl)).trans ?_
      refine zz_weak (L := [none, some (.ref 15), some (.int (v_T_takeNumber (w_T_needWord M 5) (99 : Int32))), some (.int (v_T_takeNumber (w_T_needWord (w_T_takeNumber (w_T_needWord M 5) (99 : Int32)) 6) (9 : Int32))), none]) ⟨Or.inr ⟨rfl, rfl⟩, Or.inl rfl, Or.inl rfl, Or.inl rfl, Or.inl rfl, trivial⟩ ?_
      simpa only [h14, zk_t, zk_f, zb_t, zb_f] using j13
    · refine zq_eF rfl h14 ?_
      refine (zz_go 1 (fr' := (zm_H_readPerson, d + 10, 43, [some (.ref 2), some (.ref 15), some (.int (v_T_takeNumber (w_T_needWord M 5) (99 : Int32))), some (.int (v_T_takeNumber (w_T_needWord (w_T_takeNumber (w_T_needWord M 5) (99 : Int32)) 6) (9 : Int32))), none], [.int (-1 : Int32)])) (h' := (zt_T L, zt_R, (w_T_takeWord (w_T_takeNumber (w_T_needWord (w_T_takeNumber (w_T_needWord M 5) (99 : Int32)) 6) (9 : Int32)) 7), J, e)) (fun _ => rfl)).trans ?_
      refine zz_weak (L := [none, some (.ref 15), some (.int (v_T_takeNumber (w_T_needWord M 5) (99 : Int32))), some (.int (v_T_takeNumber (w_T_needWord (w_T_takeNumber (w_T_needWord M 5) (99 : Int32)) 6) (9 : Int32))), none]) ⟨Or.inr ⟨rfl, rfl⟩, Or.inl rfl, Or.inl rfl, Or.inl rfl, Or.inl rfl, trivial⟩ ?_
      simpa only [h14, zk_t, zk_f, zb_t, zb_f] using j13
  refine (zz_go 5 (fr' := (zm_H_readPerson, d + 10, 50, [none, some (.ref 15), some (.int (v_T_takeNumber (w_T_needWord M 5) (99 : Int32))), some (.int (v_T_takeNumber (w_T_needWord (w_T_takeNumber (w_T_needWord M 5) (99 : Int32)) 6) (9 : Int32))), some (.int (bif (v_T_takeWord (w_T_takeNumber (w_T_needWord (w_T_takeNumber (w_T_needWord M 5) (99 : Int32)) 6) (9 : Int32)) 7) then (v_T_takeKind (w_T_takeWord (w_T_takeNumber (w_T_needWord (w_T_takeNumber (w_T_needWord M 5) (99 : Int32)) 6) (9 : Int32)) 7)) else (-1 : Int32)))], [.int (bif (v_T_takeWord (w_T_takeNumber (w_T_needWord (w_T_takeNumber (w_T_needWord M 5) (99 : Int32)) 6) (9 : Int32)) 7) then (v_T_takeKind (w_T_takeWord (w_T_takeNumber (w_T_needWord (w_T_takeNumber (w_T_needWord M 5) (99 : Int32)) 6) (9 : Int32)) 7)) else (-1 : Int32)), .int (v_T_takeNumber (w_T_needWord (w_T_takeNumber (w_T_needWord M 5) (99 : Int32)) 6) (9 : Int32)), .int (v_T_takeNumber (w_T_needWord M 5) (99 : Int32)), .ref 15])) (h' := (zt_T L, zt_R, (bif (v_T_takeWord (w_T_takeNumber (w_T_needWord (w_T_takeNumber (w_T_needWord M 5) (99 : Int32)) 6) (9 : Int32)) 7) then (w_T_takeKind (w_T_takeWord (w_T_takeNumber (w_T_needWord (w_T_takeNumber (w_T_needWord M 5) (99 : Int32)) 6) (9 : Int32)) 7)) else (w_T_takeWord (w_T_takeNumber (w_T_needWord (w_T_takeNumber (w_T_needWord M 5) (99 : Int32)) 6) (9 : Int32)) 7)), J, e)) (fun _ => rfl)).trans ?_
  have g17 : ok_S_addPerson (bif (v_T_takeWord (w_T_takeNumber (w_T_needWord (w_T_takeNumber (w_T_needWord M 5) (99 : Int32)) 6) (9 : Int32)) 7) then (w_T_takeKind (w_T_takeWord (w_T_takeNumber (w_T_needWord (w_T_takeNumber (w_T_needWord M 5) (99 : Int32)) 6) (9 : Int32)) 7)) else (w_T_takeWord (w_T_takeNumber (w_T_needWord (w_T_takeNumber (w_T_needWord M 5) (99 : Int32)) 6) (9 : Int32)) 7)) 15 (v_T_takeNumber (w_T_needWord M 5) (99 : Int32)) (v_T_takeNumber (w_T_needWord (w_T_takeNumber (w_T_needWord M 5) (99 : Int32)) 6) (9 : Int32)) (bif (v_T_takeWord (w_T_takeNumber (w_T_needWord (w_T_takeNumber (w_T_needWord M 5) (99 : Int32)) 6) (9 : Int32)) 7) then (v_T_takeKind (w_T_takeWord (w_T_takeNumber (w_T_needWord (w_T_takeNumber (w_T_needWord M 5) (99 : Int32)) 6) (9 : Int32)) 7)) else (-1 : Int32)) := k12
  refine zl_vt (d := d + 9) rfl rfl rfl rfl rfl rfl rfl rfl rfl rfl (s_S_addPerson L e J (d + 8) (bif (v_T_takeWord (w_T_takeNumber (w_T_needWord (w_T_takeNumber (w_T_needWord M 5) (99 : Int32)) 6) (9 : Int32)) 7) then (w_T_takeKind (w_T_takeWord (w_T_takeNumber (w_T_needWord (w_T_takeNumber (w_T_needWord M 5) (99 : Int32)) 6) (9 : Int32)) 7)) else (w_T_takeWord (w_T_takeNumber (w_T_needWord (w_T_takeNumber (w_T_needWord M 5) (99 : Int32)) 6) (9 : Int32)) 7)) 15 (v_T_takeNumber (w_T_needWord M 5) (99 : Int32)) (v_T_takeNumber (w_T_needWord (w_T_takeNumber (w_T_needWord M 5) (99 : Int32)) 6) (9 : Int32)) (bif (v_T_takeWord (w_T_takeNumber (w_T_needWord (w_T_takeNumber (w_T_needWord M 5) (99 : Int32)) 6) (9 : Int32)) 7) then (v_T_takeKind (w_T_takeWord (w_T_takeNumber (w_T_needWord (w_T_takeNumber (w_T_needWord M 5) (99 : Int32)) 6) (9 : Int32)) 7)) else (-1 : Int32)) zt_St_15 g17) ?_
  show zz_D (zm_H_readPerson, d + 10, 53, [none, some (.ref 15), some (.int (v_T_takeNumber (w_T_needWord M 5) (99 : Int32))), some (.int (v_T_takeNumber (w_T_needWord (w_T_takeNumber (w_T_needWord M 5) (99 : Int32)) 6) (9 : Int32))), some (.int (bif (v_T_takeWord (w_T_takeNumber (w_T_needWord (w_T_takeNumber (w_T_needWord M 5) (99 : Int32)) 6) (9 : Int32)) 7) then (v_T_takeKind (w_T_takeWord (w_T_takeNumber (w_T_needWord (w_T_takeNumber (w_T_needWord M 5) (99 : Int32)) 6) (9 : Int32)) 7)) else (-1 : Int32)))], []) (zt_T L, zt_R, (w_S_addPerson (bif (v_T_takeWord (w_T_takeNumber (w_T_needWord (w_T_takeNumber (w_T_needWord M 5) (99 : Int32)) 6) (9 : Int32)) 7) then (w_T_takeKind (w_T_takeWord (w_T_takeNumber (w_T_needWord (w_T_takeNumber (w_T_needWord M 5) (99 : Int32)) 6) (9 : Int32)) 7)) else (w_T_takeWord (w_T_takeNumber (w_T_needWord (w_T_takeNumber (w_T_needWord M 5) (99 : Int32)) 6) (9 : Int32)) 7)) 15 (v_T_takeNumber (w_T_needWord M 5) (99 : Int32)) (v_T_takeNumber (w_T_needWord (w_T_takeNumber (w_T_needWord M 5) (99 : Int32)) 6) (9 : Int32)) (bif (v_T_takeWord (w_T_takeNumber (w_T_needWord (w_T_takeNumber (w_T_needWord M 5) (99 : Int32)) 6) (9 : Int32)) 7) then (v_T_takeKind (w_T_takeWord (w_T_takeNumber (w_T_needWord (w_T_takeNumber (w_T_needWord M 5) (99 : Int32)) 6) (9 : Int32)) 7)) else (-1 : Int32))), J, e) = _
  refine (zz_end 1 (r := (.inl none, (zt_T L, zt_R, (w_S_addPerson (bif (v_T_takeWord (w_T_takeNumber (w_T_needWord (w_T_takeNumber (w_T_needWord M 5) (99 : Int32)) 6) (9 : Int32)) 7) then (w_T_takeKind (w_T_takeWord (w_T_takeNumber (w_T_needWord (w_T_takeNumber (w_T_needWord M 5) (99 : Int32)) 6) (9 : Int32)) 7)) else (w_T_takeWord (w_T_takeNumber (w_T_needWord (w_T_takeNumber (w_T_needWord M 5) (99 : Int32)) 6) (9 : Int32)) 7)) 15 (v_T_takeNumber (w_T_needWord M 5) (99 : Int32)) (v_T_takeNumber (w_T_needWord (w_T_takeNumber (w_T_needWord M 5) (99 : Int32)) 6) (9 : Int32)) (bif (v_T_takeWord (w_T_takeNumber (w_T_needWord (w_T_takeNumber (w_T_needWord M 5) (99 : Int32)) 6) (9 : Int32)) 7) then (v_T_takeKind (w_T_takeWord (w_T_takeNumber (w_T_needWord (w_T_takeNumber (w_T_needWord M 5) (99 : Int32)) 6) (9 : Int32)) 7)) else (-1 : Int32))), J, e))) (fun _ => rfl)).trans ?_
  rfl
def w_H_readLine (M : zMem) : zMem := (bif (v_T_takeWord M 0) then (w_H_readKind (w_T_takeWord M 0)) else (bif (decide ((6 : Int32) ≤ ((w_T_takeWord M 0) 15 10))) then (bif (v_T_takeWord (w_T_takeWord M 0) 8) then (zz_up (w_T_takeNumber (w_T_takeWord (w_T_takeWord M 0) 8) (100 : Int32)) 15 11 (v_T_takeNumber (w_T_takeWord (w_T_takeWord M 0) 8) (100 : Int32))) else (bif (v_T_takeWord (w_T_takeWord (w_T_takeWord M 0) 8) 9) then (zz_up (w_T_takeNumber (w_T_takeWord (w_T_takeWord (w_T_takeWord M 0) 8) 9) (999 : Int32)) 15 13 (v_T_takeNumber (w_T_takeWord (w_T_takeWord (w_T_takeWord M 0) 8) 9) (999 : Int32))) else (bif (v_T_takeWord (w_T_takeWord (w_T_takeWord (w_T_takeWord M 0) 8) 9) 10) then (zz_up (w_T_takeNumber (w_T_takeWord (w_T_takeWord (w_T_takeWord (w_T_takeWord M 0) 8) 9) 10) (999 : Int32)) 15 12 (v_T_takeNumber (w_T_takeWord (w_T_takeWord (w_T_takeWord (w_T_takeWord M 0) 8) 9) 10) (999 : Int32))) else (w_T_fail (w_T_takeWord (w_T_takeWord (w_T_takeWord (w_T_takeWord M 0) 8) 9) 10))))) else (bif (v_T_takeWord (w_T_takeWord M 0) 4) then (w_H_readPerson (w_T_takeWord (w_T_takeWord M 0) 4)) else (bif (v_T_takeWord (w_T_takeWord (w_T_takeWord M 0) 4) 8) then (zz_up (w_T_takeNumber (w_T_takeWord (w_T_takeWord (w_T_takeWord M 0) 4) 8) (100 : Int32)) 15 11 (v_T_takeNumber (w_T_takeWord (w_T_takeWord (w_T_takeWord M 0) 4) 8) (100 : Int32))) else (bif (v_T_takeWord (w_T_takeWord (w_T_takeWord (w_T_takeWord M 0) 4) 8) 9) then (zz_up (w_T_takeNumber (w_T_takeWord (w_T_takeWord (w_T_takeWord (w_T_takeWord M 0) 4) 8) 9) (999 : Int32)) 15 13 (v_T_takeNumber (w_T_takeWord (w_T_takeWord (w_T_takeWord (w_T_takeWord M 0) 4) 8) 9) (999 : Int32))) else (bif (v_T_takeWord (w_T_takeWord (w_T_takeWord (w_T_takeWord (w_T_takeWord M 0) 4) 8) 9) 10) then (zz_up (w_T_takeNumber (w_T_takeWord (w_T_takeWord (w_T_takeWord (w_T_takeWord (w_T_takeWord M 0) 4) 8) 9) 10) (999 : Int32)) 15 12 (v_T_takeNumber (w_T_takeWord (w_T_takeWord (w_T_takeWord (w_T_takeWord (w_T_takeWord M 0) 4) 8) 9) 10) (999 : Int32))) else (w_T_fail (w_T_takeWord (w_T_takeWord (w_T_takeWord (w_T_takeWord (w_T_takeWord M 0) 4) 8) 9) 10))))))))
def ok_H_readLine (M : zMem) : Prop := (ok_T_takeWord M 0 ∧ (((v_T_takeWord M 0) = true → ok_H_readKind (w_T_takeWord M 0)) ∧ ((v_T_takeWord M 0) = false → (((decide ((6 : Int32) ≤ ((w_T_takeWord M 0) 15 10))) = true → (ok_T_takeWord (w_T_takeWord M 0) 8 ∧ (((v_T_takeWord (w_T_takeWord M 0) 8) = true → ok_T_takeNumber (w_T_takeWord (w_T_takeWord M 0) 8) (100 : Int32)) ∧ ((v_T_takeWord (w_T_takeWord M 0) 8) = false → (ok_T_takeWord (w_T_takeWord (w_T_takeWord M 0) 8) 9 ∧ (((v_T_takeWord (w_T_takeWord (w_T_takeWord M 0) 8) 9) = true → ok_T_takeNumber (w_T_takeWord (w_T_takeWord (w_T_takeWord M 0) 8) 9) (999 : Int32)) ∧ ((v_T_takeWord (w_T_takeWord (w_T_takeWord M 0) 8) 9) = false → (ok_T_takeWord (w_T_takeWord (w_T_takeWord (w_T_takeWord M 0) 8) 9) 10 ∧ ((v_T_takeWord (w_T_takeWord (w_T_takeWord (w_T_takeWord M 0) 8) 9) 10) = true → ok_T_takeNumber (w_T_takeWord (w_T_takeWord (w_T_takeWord (w_T_takeWord M 0) 8) 9) 10) (999 : Int32)))))))))) ∧ ((decide ((6 : Int32) ≤ ((w_T_takeWord M 0) 15 10))) = false → (ok_T_takeWord (w_T_takeWord M 0) 4 ∧ (((v_T_takeWord (w_T_takeWord M 0) 4) = true → ok_H_readPerson (w_T_takeWord (w_T_takeWord M 0) 4)) ∧ ((v_T_takeWord (w_T_takeWord M 0) 4) = false → (ok_T_takeWord (w_T_takeWord (w_T_takeWord M 0) 4) 8 ∧ (((v_T_takeWord (w_T_takeWord (w_T_takeWord M 0) 4) 8) = true → ok_T_takeNumber (w_T_takeWord (w_T_takeWord (w_T_takeWord M 0) 4) 8) (100 : Int32)) ∧ ((v_T_takeWord (w_T_takeWord (w_T_takeWord M 0) 4) 8) = false → (ok_T_takeWord (w_T_takeWord (w_T_takeWord (w_T_takeWord M 0) 4) 8) 9 ∧ (((v_T_takeWord (w_T_takeWord (w_T_takeWord (w_T_takeWord M 0) 4) 8) 9) = true → ok_T_takeNumber (w_T_takeWord (w_T_takeWord (w_T_takeWord (w_T_takeWord M 0) 4) 8) 9) (999 : Int32)) ∧ ((v_T_takeWord (w_T_takeWord (w_T_takeWord (w_T_takeWord M 0) 4) 8) 9) = false → (ok_T_takeWord (w_T_takeWord (w_T_takeWord (w_T_takeWord (w_T_takeWord M 0) 4) 8) 9) 10 ∧ ((v_T_takeWord (w_T_takeWord (w_T_takeWord (w_T_takeWord (w_T_takeWord M 0) 4) 8) 9) 10) = true → ok_T_takeNumber (w_T_takeWord (w_T_takeWord (w_T_takeWord (w_T_takeWord (w_T_takeWord M 0) 4) 8) 9) 10) (999 : Int32)))))))))))))))))
set_option maxRecDepth 20000 in
set_option maxHeartbeats 2000000 in
theorem s_H_readLine (L e : Nat) (J : zJem) (d : Nat) (M : zMem) (k0 : ok_H_readLine M) : zz_D (zm_H_readLine, d + 11, 0, [some (.ref 2), some (.ref 15)], []) (zt_T L, zt_R, M, J, e) = some (.inl (none), (zt_T L, zt_R, (w_H_readLine M), J, e)) := by
  unfold ok_H_readLine at k0
  unfold w_H_readLine
  refine (zz_go 2 (fr' := (zm_H_readLine, d + 11, 3, [some (.ref 2), some (.ref 15)], [.ref (1000000 + 0), .ref 2])) (h' := (zt_T L, zt_R, M, J, e)) (fun _ => rfl)).trans ?_
  obtain ⟨g1, k2⟩ := k0
  refine zl_vt (d := d + 10) rfl rfl rfl rfl rfl rfl rfl rfl rfl rfl (s_T_takeWord L e J (d + 2) M 0 rfl g1) ?_
  show zz_D (zm_H_readLine, d + 11, 6, [some (.ref 2), some (.ref 15)], [.int (zb (v_T_takeWord M 0))]) (zt_T L, zt_R, (w_T_takeWord M 0), J, e) = _
  refine zz_jn (X := zz_D (zm_H_readLine, d + 11, 115, [none, none], []) (zt_T L, zt_R, (bif (v_T_takeWord M 0) then (w_H_readKind (w_T_takeWord M 0)) else (bif (decide ((6 : Int32) ≤ ((w_T_takeWord M 0) 15 10))) then (bif (v_T_takeWord (w_T_takeWord M 0) 8) then (zz_up (w_T_takeNumber (w_T_takeWord (w_T_takeWord M 0) 8) (100 : Int32)) 15 11 (v_T_takeNumber (w_T_takeWord (w_T_takeWord M 0) 8) (100 : Int32))) else (bif (v_T_takeWord (w_T_takeWord (w_T_takeWord M 0) 8) 9) then (zz_up (w_T_takeNumber (w_T_takeWord (w_T_takeWord (w_T_takeWord M 0) 8) 9) (999 : Int32)) 15 13 (v_T_takeNumber (w_T_takeWord (w_T_takeWord (w_T_takeWord M 0) 8) 9) (999 : Int32))) else (bif (v_T_takeWord (w_T_takeWord (w_T_takeWord (w_T_takeWord M 0) 8) 9) 10) then (zz_up (w_T_takeNumber (w_T_takeWord (w_T_takeWord (w_T_takeWord (w_T_takeWord M 0) 8) 9) 10) (999 : Int32)) 15 12 (v_T_takeNumber (w_T_takeWord (w_T_takeWord (w_T_takeWord (w_T_takeWord M 0) 8) 9) 10) (999 : Int32))) else (w_T_fail (w_T_takeWord (w_T_takeWord (w_T_takeWord (w_T_takeWord M 0) 8) 9) 10))))) else (bif (v_T_takeWord (w_T_takeWord M 0) 4) then (w_H_readPerson (w_T_takeWord (w_T_takeWord M 0) 4)) else (bif (v_T_takeWord (w_T_takeWord (w_T_takeWord M 0) 4) 8) then (zz_up (w_T_takeNumber (w_T_takeWord (w_T_takeWord (w_T_takeWord M 0) 4) 8) (100 : Int32)) 15 11 (v_T_takeNumber (w_T_takeWord (w_T_takeWord (w_T_takeWord M 0) 4) 8) (100 : Int32))) else (bif (v_T_takeWord (w_T_takeWord (w_T_takeWord (w_T_takeWord M 0) 4) 8) 9) then (zz_up (w_T_takeNumber (w_T_takeWord (w_T_takeWord (w_T_takeWord (w_T_takeWord M 0) 4) 8) 9) (999 : Int32)) 15 13 (v_T_takeNumber (w_T_takeWord (w_T_takeWord (w_T_takeWord (w_T_takeWord M 0) 4) 8) 9) (999 : Int32))) else (bif (v_T_takeWord (w_T_takeWord (w_T_takeWord (w_T_takeWord (w_T_takeWord M 0) 4) 8) 9) 10) then (zz_up (w_T_takeNumber (w_T_takeWord (w_T_takeWord (w_T_takeWord (w_T_takeWord (w_T_takeWord M 0) 4) 8) 9) 10) (999 : Int32)) 15 12 (v_T_takeNumber (w_T_takeWord (w_T_takeWord (w_T_takeWord (w_T_takeWord (w_T_takeWord M 0) 4) 8) 9) 10) (999 : Int32))) else (w_T_fail (w_T_takeWord (w_T_takeWord (w_T_takeWord (w_T_takeWord (w_T_takeWord M 0) 4) 8) 9) 10)))))))), J, e)) (fun j3 => ?_) ?_
  · obtain ⟨k5, k6⟩ := k2
    rcases zz_bc (v_T_takeWord M 0) with h4 | h4
    · refine zq_eT rfl h4 ?_
      have k7 := k5 h4
      refine (zz_go 2 (fr' := (zm_H_readLine, d + 11, 11, [some (.ref 2), some (.ref 15)], [.ref 15, .ref 2])) (h' := (zt_T L, zt_R, (w_T_takeWord M 0), J, e)) (fun _ => rfl)).trans ?_
      have g8 : ok_H_readKind (w_T_takeWord M 0) := k7
      refine zl_st (d := d + 10) rfl rfl rfl rfl rfl rfl rfl (s_H_readKind L e J (d + 0) (w_T_takeWord M 0) g8) ?_
      show zz_D (zm_H_readLine, d + 11, 14, [some (.ref 2), some (.ref 15)], []) (zt_T L, zt_R, (w_H_readKind (w_T_takeWord M 0)), J, e) = _
      refine (zz_go 1 (fr' := (zm_H_readLine, d + 11, 115, [some (.ref 2), some (.ref 15)], [])) (h' := (zt_T L, zt_R, (w_H_readKind (w_T_takeWord M 0)), J, e)) (fun _ => rfl)).trans ?_
      refine zz_weak (L := [none, none]) ⟨Or.inr ⟨rfl, rfl⟩, Or.inr ⟨rfl, rfl⟩, trivial⟩ ?_
      simpa only [h4, zk_t, zk_f, zb_t, zb_f] using j3
    · refine zq_eF rfl h4 ?_
      have k9 := k6 h4
      refine (zz_go 1 (fr' := (zm_H_readLine, d + 11, 18, [some (.ref 2), some (.ref 15)], [.ref 15])) (h' := (zt_T L, zt_R, (w_T_takeWord M 0), J, e)) (fun _ => rfl)).trans ?_
      refine zl_getI rfl (by decide) rfl rfl ?_
      refine zz_jn (X := zz_D (zm_H_readLine, d + 11, 115, [none, none], []) (zt_T L, zt_R, (bif (decide ((6 : Int32) ≤ ((w_T_takeWord M 0) 15 10))) then (bif (v_T_takeWord (w_T_takeWord M 0) 8) then (zz_up (w_T_takeNumber (w_T_takeWord (w_T_takeWord M 0) 8) (100 : Int32)) 15 11 (v_T_takeNumber (w_T_takeWord (w_T_takeWord M 0) 8) (100 : Int32))) else (bif (v_T_takeWord (w_T_takeWord (w_T_takeWord M 0) 8) 9) then (zz_up (w_T_takeNumber (w_T_takeWord (w_T_takeWord (w_T_takeWord M 0) 8) 9) (999 : Int32)) 15 13 (v_T_takeNumber (w_T_takeWord (w_T_takeWord (w_T_takeWord M 0) 8) 9) (999 : Int32))) else (bif (v_T_takeWord (w_T_takeWord (w_T_takeWord (w_T_takeWord M 0) 8) 9) 10) then (zz_up (w_T_takeNumber (w_T_takeWord (w_T_takeWord (w_T_takeWord (w_T_takeWord M 0) 8) 9) 10) (999 : Int32)) 15 12 (v_T_takeNumber (w_T_takeWord (w_T_takeWord (w_T_takeWord (w_T_takeWord M 0) 8) 9) 10) (999 : Int32))) else (w_T_fail (w_T_takeWord (w_T_takeWord (w_T_takeWord (w_T_takeWord M 0) 8) 9) 10))))) else (bif (v_T_takeWord (w_T_takeWord M 0) 4) then (w_H_readPerson (w_T_takeWord (w_T_takeWord M 0) 4)) else (bif (v_T_takeWord (w_T_takeWord (w_T_takeWord M 0) 4) 8) then (zz_up (w_T_takeNumber (w_T_takeWord (w_T_takeWord (w_T_takeWord M 0) 4) 8) (100 : Int32)) 15 11 (v_T_takeNumber (w_T_takeWord (w_T_takeWord (w_T_takeWord M 0) 4) 8) (100 : Int32))) else (bif (v_T_takeWord (w_T_takeWord (w_T_takeWord (w_T_takeWord M 0) 4) 8) 9) then (zz_up (w_T_takeNumber (w_T_takeWord (w_T_takeWord (w_T_takeWord (w_T_takeWord M 0) 4) 8) 9) (999 : Int32)) 15 13 (v_T_takeNumber (w_T_takeWord (w_T_takeWord (w_T_takeWord (w_T_takeWord M 0) 4) 8) 9) (999 : Int32))) else (bif (v_T_takeWord (w_T_takeWord (w_T_takeWord (w_T_takeWord (w_T_takeWord M 0) 4) 8) 9) 10) then (zz_up (w_T_takeNumber (w_T_takeWord (w_T_takeWord (w_T_takeWord (w_T_takeWord (w_T_takeWord M 0) 4) 8) 9) 10) (999 : Int32)) 15 12 (v_T_takeNumber (w_T_takeWord (w_T_takeWord (w_T_takeWord (w_T_takeWord (w_T_takeWord M 0) 4) 8) 9) 10) (999 : Int32))) else (w_T_fail (w_T_takeWord (w_T_takeWord (w_T_takeWord (w_T_takeWord (w_T_takeWord M 0) 4) 8) 9) 10))))))), J, e)) (fun j10 => ?_) ?_
      · obtain ⟨k12, k13⟩ := k9
        refine (zz_go 1 (fr' := (zm_H_readLine, d + 11, 23, [some (.ref 2), some (.ref 15)], [.int (6 : Int32), .int ((w_T_takeWord M 0) 15 10)])) (h' := (zt_T L, zt_R, (w_T_takeWord M 0), J, e)) (fun _ => rfl)).trans ?_
        rcases zz_bc (decide ((6 : Int32) ≤ ((w_T_takeWord M 0) 15 10))) with h11 | h11
        · refine zc_geT rfl h11 ?_
          have k14 := k12 h11
          refine (zz_go 2 (fr' := (zm_H_readLine, d + 11, 46, [some (.ref 2), some (.ref 15)], [.ref (1000000 + 8), .ref 2])) (h' := (zt_T L, zt_R, (w_T_takeWord M 0), J, e)) (fun _ => rfl)).trans ?_
          obtain ⟨g15, k16⟩ := k14
          refine zl_vt (d := d + 10) rfl rfl rfl rfl rfl rfl rfl rfl rfl rfl (s_T_takeWord L e J (d + 2) (w_T_takeWord M 0) 8 rfl g15) ?_
          show zz_D (zm_H_readLine, d + 11, 49, [some (.ref 2), some (.ref 15)], [.int (zb (v_T_takeWord (w_T_takeWord M 0) 8))]) (zt_T L, zt_R, (w_T_takeWord (w_T_takeWord M 0) 8), J, e) = _
          refine zz_jn (X := zz_D (zm_H_readLine, d + 11, 115, [none, none], []) (zt_T L, zt_R, (bif (v_T_takeWord (w_T_takeWord M 0) 8) then (zz_up (w_T_takeNumber (w_T_takeWord (w_T_takeWord M 0) 8) (100 : Int32)) 15 11 (v_T_takeNumber (w_T_takeWord (w_T_takeWord M 0) 8) (100 : Int32))) else (bif (v_T_takeWord (w_T_takeWord (w_T_takeWord M 0) 8) 9) then (zz_up (w_T_takeNumber (w_T_takeWord (w_T_takeWord (w_T_takeWord M 0) 8) 9) (999 : Int32)) 15 13 (v_T_takeNumber (w_T_takeWord (w_T_takeWord (w_T_takeWord M 0) 8) 9) (999 : Int32))) else (bif (v_T_takeWord (w_T_takeWord (w_T_takeWord (w_T_takeWord M 0) 8) 9) 10) then (zz_up (w_T_takeNumber (w_T_takeWord (w_T_takeWord (w_T_takeWord (w_T_takeWord M 0) 8) 9) 10) (999 : Int32)) 15 12 (v_T_takeNumber (w_T_takeWord (w_T_takeWord (w_T_takeWord (w_T_takeWord M 0) 8) 9) 10) (999 : Int32))) else (w_T_fail (w_T_takeWord (w_T_takeWord (w_T_takeWord (w_T_takeWord M 0) 8) 9) 10))))), J, e)) (fun j17 => ?_) ?_
          · obtain ⟨k19, k20⟩ := k16
            rcases zz_bc (v_T_takeWord (w_T_takeWord M 0) 8) with h18 | h18
            · refine zq_eT rfl h18 ?_
              have k21 := k19 h18
              refine (zz_go 3 (fr' := (zm_H_readLine, d + 11, 56, [some (.ref 2), some (.ref 15)], [.int (100 : Int32), .ref 2, .ref 15])) (h' := (zt_T L, zt_R, (w_T_takeWord (w_T_takeWord M 0) 8), J, e)) (fun _ => rfl)).trans ?_
              have g22 : ok_T_takeNumber (w_T_takeWord (w_T_takeWord M 0) 8) (100 : Int32) := k21
              refine zl_vt (d := d + 10) rfl rfl rfl rfl rfl rfl rfl rfl rfl rfl (s_T_takeNumber L e J (d + 8) (w_T_takeWord (w_T_takeWord M 0) 8) (100 : Int32) g22) ?_
              show zz_D (zm_H_readLine, d + 11, 59, [some (.ref 2), some (.ref 15)], [.int (v_T_takeNumber (w_T_takeWord (w_T_takeWord M 0) 8) (100 : Int32)), .ref 15]) (zt_T L, zt_R, (w_T_takeNumber (w_T_takeWord (w_T_takeWord M 0) 8) (100 : Int32)), J, e) = _
              refine zl_putI rfl rfl rfl rfl ?_
              refine (zz_go 1 (fr' := (zm_H_readLine, d + 11, 115, [some (.ref 2), some (.ref 15)], [])) (h' := (zt_T L, zt_R, (zz_up (w_T_takeNumber (w_T_takeWord (w_T_takeWord M 0) 8) (100 : Int32)) 15 11 (v_T_takeNumber (w_T_takeWord (w_T_takeWord M 0) 8) (100 : Int32))), J, e)) (fun _ => rfl)).trans ?_
              refine zz_weak (L := [none, none]) ⟨Or.inr ⟨rfl, rfl⟩, Or.inr ⟨rfl, rfl⟩, trivial⟩ ?_
              simpa only [h18, zk_t, zk_f, zb_t, zb_f] using j17
            · refine zq_eF rfl h18 ?_
              have k23 := k20 h18
              refine (zz_go 2 (fr' := (zm_H_readLine, d + 11, 68, [some (.ref 2), some (.ref 15)], [.ref (1000000 + 9), .ref 2])) (h' := (zt_T L, zt_R, (w_T_takeWord (w_T_takeWord M 0) 8), J, e)) (fun _ => rfl)).trans ?_
              obtain ⟨g24, k25⟩ := k23
              refine zl_vt (d := d + 10) rfl rfl rfl rfl rfl rfl rfl rfl rfl rfl (s_T_takeWord L e J (d + 2) (w_T_takeWord (w_T_takeWord M 0) 8) 9 rfl g24) ?_
              show zz_D (zm_H_readLine, d + 11, 71, [some (.ref 2), some (.ref 15)], [.int (zb (v_T_takeWord (w_T_takeWord (w_T_takeWord M 0) 8) 9))]) (zt_T L, zt_R, (w_T_takeWord (w_T_takeWord (w_T_takeWord M 0) 8) 9), J, e) = _
              refine zz_jn (X := zz_D (zm_H_readLine, d + 11, 115, [none, none], []) (zt_T L, zt_R, (bif (v_T_takeWord (w_T_takeWord (w_T_takeWord M 0) 8) 9) then (zz_up (w_T_takeNumber (w_T_takeWord (w_T_takeWord (w_T_takeWord M 0) 8) 9) (999 : Int32)) 15 13 (v_T_takeNumber (w_T_takeWord (w_T_takeWord (w_T_takeWord M 0) 8) 9) (999 : Int32))) else (bif (v_T_takeWord (w_T_takeWord (w_T_takeWord (w_T_takeWord M 0) 8) 9) 10) then (zz_up (w_T_takeNumber (w_T_takeWord (w_T_takeWord (w_T_takeWord (w_T_takeWord M 0) 8) 9) 10) (999 : Int32)) 15 12 (v_T_takeNumber (w_T_takeWord (w_T_takeWord (w_T_takeWord (w_T_takeWord M 0) 8) 9) 10) (999 : Int32))) else (w_T_fail (w_T_takeWord (w_T_takeWord (w_T_takeWord (w_T_takeWord M 0) 8) 9) 10)))), J, e)) (fun j26 => ?_) ?_
              · obtain ⟨k28, k29⟩ := k25
                rcases zz_bc (v_T_takeWord (w_T_takeWord (w_T_takeWord M 0) 8) 9) with h27 | h27
                · refine zq_eT rfl h27 ?_
                  have k30 := k28 h27
                  refine (zz_go 3 (fr' := (zm_H_readLine, d + 11, 79, [some (.ref 2), some (.ref 15)], [.int (999 : Int32), .ref 2, .ref 15])) (h' := (zt_T L, zt_R, (w_T_takeWord (w_T_takeWord (w_T_takeWord M 0) 8) 9), J, e)) (fun _ => rfl)).trans ?_
                  have g31 : ok_T_takeNumber (w_T_takeWord (w_T_takeWord (w_T_takeWord M 0) 8) 9) (999 : Int32) := k30
                  refine zl_vt (d := d + 10) rfl rfl rfl rfl rfl rfl rfl rfl rfl rfl (s_T_takeNumber L e J (d + 8) (w_T_takeWord (w_T_takeWord (w_T_takeWord M 0) 8) 9) (999 : Int32) g31) ?_
                  show zz_D (zm_H_readLine, d + 11, 82, [some (.ref 2), some (.ref 15)], [.int (v_T_takeNumber (w_T_takeWord (w_T_takeWord (w_T_takeWord M 0) 8) 9) (999 : Int32)), .ref 15]) (zt_T L, zt_R, (w_T_takeNumber (w_T_takeWord (w_T_takeWord (w_T_takeWord M 0) 8) 9) (999 : Int32)), J, e) = _
                  refine zl_putI rfl rfl rfl rfl ?_
                  refine (zz_go 1 (fr' := (zm_H_readLine, d + 11, 115, [some (.ref 2), some (.ref 15)], [])) (h' := (zt_T L, zt_R, (zz_up (w_T_takeNumber (w_T_takeWord (w_T_takeWord (w_T_takeWord M 0) 8) 9) (999 : Int32)) 15 13 (v_T_takeNumber (w_T_takeWord (w_T_takeWord (w_T_takeWord M 0) 8) 9) (999 : Int32))), J, e)) (fun _ => rfl)).trans ?_
                  refine zz_weak (L := [none, none]) ⟨Or.inr ⟨rfl, rfl⟩, Or.inr ⟨rfl, rfl⟩, trivial⟩ ?_
                  simpa only [h27, zk_t, zk_f, zb_t, zb_f] using j26
                · refine zq_eF rfl h27 ?_
                  have k32 := k29 h27
                  refine (zz_go 2 (fr' := (zm_H_readLine, d + 11, 91, [some (.ref 2), some (.ref 15)], [.ref (1000000 + 10), .ref 2])) (h' := (zt_T L, zt_R, (w_T_takeWord (w_T_takeWord (w_T_takeWord M 0) 8) 9), J, e)) (fun _ => rfl)).trans ?_
                  obtain ⟨g33, k34⟩ := k32
                  refine zl_vt (d := d + 10) rfl rfl rfl rfl rfl rfl rfl rfl rfl rfl (s_T_takeWord L e J (d + 2) (w_T_takeWord (w_T_takeWord (w_T_takeWord M 0) 8) 9) 10 rfl g33) ?_
                  show zz_D (zm_H_readLine, d + 11, 94, [some (.ref 2), some (.ref 15)], [.int (zb (v_T_takeWord (w_T_takeWord (w_T_takeWord (w_T_takeWord M 0) 8) 9) 10))]) (zt_T L, zt_R, (w_T_takeWord (w_T_takeWord (w_T_takeWord (w_T_takeWord M 0) 8) 9) 10), J, e) = _
                  refine zz_jn (X := zz_D (zm_H_readLine, d + 11, 115, [none, none], []) (zt_T L, zt_R, (bif (v_T_takeWord (w_T_takeWord (w_T_takeWord (w_T_takeWord M 0) 8) 9) 10) then (zz_up (w_T_takeNumber (w_T_takeWord (w_T_takeWord (w_T_takeWord (w_T_takeWord M 0) 8) 9) 10) (999 : Int32)) 15 12 (v_T_takeNumber (w_T_takeWord (w_T_takeWord (w_T_takeWord (w_T_takeWord M 0) 8) 9) 10) (999 : Int32))) else (w_T_fail (w_T_takeWord (w_T_takeWord (w_T_takeWord (w_T_takeWord M 0) 8) 9) 10))), J, e)) (fun j35 => ?_) ?_
                  · rcases zz_bc (v_T_takeWord (w_T_takeWord (w_T_takeWord (w_T_takeWord M 0) 8) 9) 10) with h36 | h36
                    · refine zq_eT rfl h36 ?_
                      have k37 := k34 h36
                      refine (zz_go 3 (fr' := (zm_H_readLine, d + 11, 102, [some (.ref 2), some (.ref 15)], [.int (999 : Int32), .ref 2, .ref 15])) (h' := (zt_T L, zt_R, (w_T_takeWord (w_T_takeWord (w_T_takeWord (w_T_takeWord M 0) 8) 9) 10), J, e)) (fun _ => rfl)).trans ?_
                      have g38 : ok_T_takeNumber (w_T_takeWord (w_T_takeWord (w_T_takeWord (w_T_takeWord M 0) 8) 9) 10) (999 : Int32) := k37
                      refine zl_vt (d := d + 10) rfl rfl rfl rfl rfl rfl rfl rfl rfl rfl (s_T_takeNumber L e J (d + 8) (w_T_takeWord (w_T_takeWord (w_T_takeWord (w_T_takeWord M 0) 8) 9) 10) (999 : Int32) g38) ?_
                      show zz_D (zm_H_readLine, d + 11, 105, [some (.ref 2), some (.ref 15)], [.int (v_T_takeNumber (w_T_takeWord (w_T_takeWord (w_T_takeWord (w_T_takeWord M 0) 8) 9) 10) (999 : Int32)), .ref 15]) (zt_T L, zt_R, (w_T_takeNumber (w_T_takeWord (w_T_takeWord (w_T_takeWord (w_T_takeWord M 0) 8) 9) 10) (999 : Int32)), J, e) = _
                      refine zl_putI rfl rfl rfl rfl ?_
                      refine (zz_go 1 (fr' := (zm_H_readLine, d + 11, 115, [some (.ref 2), some (.ref 15)], [])) (h' := (zt_T L, zt_R, (zz_up (w_T_takeNumber (w_T_takeWord (w_T_takeWord (w_T_takeWord (w_T_takeWord M 0) 8) 9) 10) (999 : Int32)) 15 12 (v_T_takeNumber (w_T_takeWord (w_T_takeWord (w_T_takeWord (w_T_takeWord M 0) 8) 9) 10) (999 : Int32))), J, e)) (fun _ => rfl)).trans ?_
                      refine zz_weak (L := [none, none]) ⟨Or.inr ⟨rfl, rfl⟩, Or.inr ⟨rfl, rfl⟩, trivial⟩ ?_
                      simpa only [h36, zk_t, zk_f, zb_t, zb_f] using j35
                    · refine zq_eF rfl h36 ?_
                      refine (zz_go 1 (fr' := (zm_H_readLine, d + 11, 112, [some (.ref 2), some (.ref 15)], [.ref 2])) (h' := (zt_T L, zt_R, (w_T_takeWord (w_T_takeWord (w_T_takeWord (w_T_takeWord M 0) 8) 9) 10), J, e)) (fun _ => rfl)).trans ?_
                      refine zl_vt (d := d + 10) rfl rfl rfl rfl rfl rfl rfl rfl rfl rfl (s_T_fail L e J (d + 9) (w_T_takeWord (w_T_takeWord (w_T_takeWord (w_T_takeWord M 0) 8) 9) 10)) ?_
                      show zz_D (zm_H_readLine, d + 11, 115, [some (.ref 2), some (.ref 15)], []) (zt_T L, zt_R, (w_T_fail (w_T_takeWord (w_T_takeWord (w_T_takeWord (w_T_takeWord M 0) 8) 9) 10)), J, e) = _
                      refine zz_weak (L := [none, none]) ⟨Or.inr ⟨rfl, rfl⟩, Or.inr ⟨rfl, rfl⟩, trivial⟩ ?_
                      simpa only [h36, zk_t, zk_f, zb_t, zb_f] using j35
                  simpa only [h27, zk_t, zk_f, zb_t, zb_f] using j26
              simpa only [h18, zk_t, zk_f, zb_t, zb_f] using j17
          simpa only [h11, zk_t, zk_f, zb_t, zb_f] using j10
        · refine zc_geF rfl h11 ?_
          have k39 := k13 h11
          refine (zz_go 2 (fr' := (zm_H_readLine, d + 11, 29, [some (.ref 2), some (.ref 15)], [.ref (1000000 + 4), .ref 2])) (h' := (zt_T L, zt_R, (w_T_takeWord M 0), J, e)) (fun _ => rfl)).trans ?_
          obtain ⟨g40, k41⟩ := k39
          refine zl_vt (d := d + 10) rfl rfl rfl rfl rfl rfl rfl rfl rfl rfl (s_T_takeWord L e J (d + 2) (w_T_takeWord M 0) 4 rfl g40) ?_
          show zz_D (zm_H_readLine, d + 11, 32, [some (.ref 2), some (.ref 15)], [.int (zb (v_T_takeWord (w_T_takeWord M 0) 4))]) (zt_T L, zt_R, (w_T_takeWord (w_T_takeWord M 0) 4), J, e) = _
          refine zz_jn (X := zz_D (zm_H_readLine, d + 11, 115, [none, none], []) (zt_T L, zt_R, (bif (v_T_takeWord (w_T_takeWord M 0) 4) then (w_H_readPerson (w_T_takeWord (w_T_takeWord M 0) 4)) else (bif (v_T_takeWord (w_T_takeWord (w_T_takeWord M 0) 4) 8) then (zz_up (w_T_takeNumber (w_T_takeWord (w_T_takeWord (w_T_takeWord M 0) 4) 8) (100 : Int32)) 15 11 (v_T_takeNumber (w_T_takeWord (w_T_takeWord (w_T_takeWord M 0) 4) 8) (100 : Int32))) else (bif (v_T_takeWord (w_T_takeWord (w_T_takeWord (w_T_takeWord M 0) 4) 8) 9) then (zz_up (w_T_takeNumber (w_T_takeWord (w_T_takeWord (w_T_takeWord (w_T_takeWord M 0) 4) 8) 9) (999 : Int32)) 15 13 (v_T_takeNumber (w_T_takeWord (w_T_takeWord (w_T_takeWord (w_T_takeWord M 0) 4) 8) 9) (999 : Int32))) else (bif (v_T_takeWord (w_T_takeWord (w_T_takeWord (w_T_takeWord (w_T_takeWord M 0) 4) 8) 9) 10) then (zz_up (w_T_takeNumber (w_T_takeWord (w_T_takeWord (w_T_takeWord (w_T_takeWord (w_T_takeWord M 0) 4) 8) 9) 10) (999 : Int32)) 15 12 (v_T_takeNumber (w_T_takeWord (w_T_takeWord (w_T_takeWord (w_T_takeWord (w_T_takeWord M 0) 4) 8) 9) 10) (999 : Int32))) else (w_T_fail (w_T_takeWord (w_T_takeWord (w_T_takeWord (w_T_takeWord (w_T_takeWord M 0) 4) 8) 9) 10)))))), J, e)) (fun j42 => ?_) ?_
          · obtain ⟨k44, k45⟩ := k41
            rcases zz_bc (v_T_takeWord (w_T_takeWord M 0) 4) with h43 | h43
            · refine zq_eT rfl h43 ?_
              have k46 := k44 h43
              refine (zz_go 2 (fr' := (zm_H_readLine, d + 11, 37, [some (.ref 2), some (.ref 15)], [.ref 15, .ref 2])) (h' := (zt_T L, zt_R, (w_T_takeWord (w_T_takeWord M 0) 4), J, e)) (fun _ => rfl)).trans ?_
              have g47 : ok_H_readPerson (w_T_takeWord (w_T_takeWord M 0) 4) := k46
              refine zl_st (d := d + 10) rfl rfl rfl rfl rfl rfl rfl (s_H_readPerson L e J (d + 0) (w_T_takeWord (w_T_takeWord M 0) 4) g47) ?_
              show zz_D (zm_H_readLine, d + 11, 40, [some (.ref 2), some (.ref 15)], []) (zt_T L, zt_R, (w_H_readPerson (w_T_takeWord (w_T_takeWord M 0) 4)), J, e) = _
              refine (zz_go 1 (fr' := (zm_H_readLine, d + 11, 115, [some (.ref 2), some (.ref 15)], [])) (h' := (zt_T L, zt_R, (w_H_readPerson (w_T_takeWord (w_T_takeWord M 0) 4)), J, e)) (fun _ => rfl)).trans ?_
              refine zz_weak (L := [none, none]) ⟨Or.inr ⟨rfl, rfl⟩, Or.inr ⟨rfl, rfl⟩, trivial⟩ ?_
              simpa only [h43, zk_t, zk_f, zb_t, zb_f] using j42
            · refine zq_eF rfl h43 ?_
              have k48 := k45 h43
              refine (zz_go 2 (fr' := (zm_H_readLine, d + 11, 46, [some (.ref 2), some (.ref 15)], [.ref (1000000 + 8), .ref 2])) (h' := (zt_T L, zt_R, (w_T_takeWord (w_T_takeWord M 0) 4), J, e)) (fun _ => rfl)).trans ?_
              obtain ⟨g49, k50⟩ := k48
              refine zl_vt (d := d + 10) rfl rfl rfl rfl rfl rfl rfl rfl rfl rfl (s_T_takeWord L e J (d + 2) (w_T_takeWord (w_T_takeWord M 0) 4) 8 rfl g49) ?_
              show zz_D (zm_H_readLine, d + 11, 49, [some (.ref 2), some (.ref 15)], [.int (zb (v_T_takeWord (w_T_takeWord (w_T_takeWord M 0) 4) 8))]) (zt_T L, zt_R, (w_T_takeWord (w_T_takeWord (w_T_takeWord M 0) 4) 8), J, e) = _
              refine zz_jn (X := zz_D (zm_H_readLine, d + 11, 115, [none, none], []) (zt_T L, zt_R, (bif (v_T_takeWord (w_T_takeWord (w_T_takeWord M 0) 4) 8) then (zz_up (w_T_takeNumber (w_T_takeWord (w_T_takeWord (w_T_takeWord M 0) 4) 8) (100 : Int32)) 15 11 (v_T_takeNumber (w_T_takeWord (w_T_takeWord (w_T_takeWord M 0) 4) 8) (100 : Int32))) else (bif (v_T_takeWord (w_T_takeWord (w_T_takeWord (w_T_takeWord M 0) 4) 8) 9) then (zz_up (w_T_takeNumber (w_T_takeWord (w_T_takeWord (w_T_takeWord (w_T_takeWord M 0) 4) 8) 9) (999 : Int32)) 15 13 (v_T_takeNumber (w_T_takeWord (w_T_takeWord (w_T_takeWord (w_T_takeWord M 0) 4) 8) 9) (999 : Int32))) else (bif (v_T_takeWord (w_T_takeWord (w_T_takeWord (w_T_takeWord (w_T_takeWord M 0) 4) 8) 9) 10) then (zz_up (w_T_takeNumber (w_T_takeWord (w_T_takeWord (w_T_takeWord (w_T_takeWord (w_T_takeWord M 0) 4) 8) 9) 10) (999 : Int32)) 15 12 (v_T_takeNumber (w_T_takeWord (w_T_takeWord (w_T_takeWord (w_T_takeWord (w_T_takeWord M 0) 4) 8) 9) 10) (999 : Int32))) else (w_T_fail (w_T_takeWord (w_T_takeWord (w_T_takeWord (w_T_takeWord (w_T_takeWord M 0) 4) 8) 9) 10))))), J, e)) (fun j51 => ?_) ?_
              · obtain ⟨k53, k54⟩ := k50
                rcases zz_bc (v_T_takeWord (w_T_takeWord (w_T_takeWord M 0) 4) 8) with h52 | h52
                · refine zq_eT rfl h52 ?_
                  have k55 := k53 h52
                  refine (zz_go 3 (fr' := (zm_H_readLine, d + 11, 56, [some (.ref 2), some (.ref 15)], [.int (100 : Int32), .ref 2, .ref 15])) (h' := (zt_T L, zt_R, (w_T_takeWord (w_T_takeWord (w_T_takeWord M 0) 4) 8), J, e)) (fun _ => rfl)).trans ?_
                  have g56 : ok_T_takeNumber (w_T_takeWord (w_T_takeWord (w_T_takeWord M 0) 4) 8) (100 : Int32) := k55
                  refine zl_vt (d := d + 10) rfl rfl rfl rfl rfl rfl rfl rfl rfl rfl (s_T_takeNumber L e J (d + 8) (w_T_takeWord (w_T_takeWord (w_T_takeWord M 0) 4) 8) (100 : Int32) g56) ?_
                  show zz_D (zm_H_readLine, d + 11, 59, [some (.ref 2), some (.ref 15)], [.int (v_T_takeNumber (w_T_takeWord (w_T_takeWord (w_T_takeWord M 0) 4) 8) (100 : Int32)), .ref 15]) (zt_T L, zt_R, (w_T_takeNumber (w_T_takeWord (w_T_takeWord (w_T_takeWord M 0) 4) 8) (100 : Int32)), J, e) = _
                  refine zl_putI rfl rfl rfl rfl ?_
                  refine (zz_go 1 (fr' := (zm_H_readLine, d + 11, 115, [some (.ref 2), some (.ref 15)], [])) (h' := (zt_T L, zt_R, (zz_up (w_T_takeNumber (w_T_takeWord (w_T_takeWord (w_T_takeWord M 0) 4) 8) (100 : Int32)) 15 11 (v_T_takeNumber (w_T_takeWord (w_T_takeWord (w_T_takeWord M 0) 4) 8) (100 : Int32))), J, e)) (fun _ => rfl)).trans ?_
                  refine zz_weak (L := [none, none]) ⟨Or.inr ⟨rfl, rfl⟩, Or.inr ⟨rfl, rfl⟩, trivial⟩ ?_
                  simpa only [h52, zk_t, zk_f, zb_t, zb_f] using j51
                · refine zq_eF rfl h52 ?_
                  have k57 := k54 h52
                  refine (zz_go 2 (fr' := (zm_H_readLine, d + 11, 68, [some (.ref 2), some (.ref 15)], [.ref (1000000 + 9), .ref 2])) (h' := (zt_T L, zt_R, (w_T_takeWord (w_T_takeWord (w_T_takeWord M 0) 4) 8), J, e)) (fun _ => rfl)).trans ?_
                  obtain ⟨g58, k59⟩ := k57
                  refine zl_vt (d := d + 10) rfl rfl rfl rfl rfl rfl rfl rfl rfl rfl (s_T_takeWord L e J (d + 2) (w_T_takeWord (w_T_takeWord (w_T_takeWord M 0) 4) 8) 9 rfl g58) ?_
                  show zz_D (zm_H_readLine, d + 11, 71, [some (.ref 2), some (.ref 15)], [.int (zb (v_T_takeWord (w_T_takeWord (w_T_takeWord (w_T_takeWord M 0) 4) 8) 9))]) (zt_T L, zt_R, (w_T_takeWord (w_T_takeWord (w_T_takeWord (w_T_takeWord M 0) 4) 8) 9), J, e) = _
                  refine zz_jn (X := zz_D (zm_H_readLine, d + 11, 115, [none, none], []) (zt_T L, zt_R, (bif (v_T_takeWord (w_T_takeWord (w_T_takeWord (w_T_takeWord M 0) 4) 8) 9) then (zz_up (w_T_takeNumber (w_T_takeWord (w_T_takeWord (w_T_takeWord (w_T_takeWord M 0) 4) 8) 9) (999 : Int32)) 15 13 (v_T_takeNumber (w_T_takeWord (w_T_takeWord (w_T_takeWord (w_T_takeWord M 0) 4) 8) 9) (999 : Int32))) else (bif (v_T_takeWord (w_T_takeWord (w_T_takeWord (w_T_takeWord (w_T_takeWord M 0) 4) 8) 9) 10) then (zz_up (w_T_takeNumber (w_T_takeWord (w_T_takeWord (w_T_takeWord (w_T_takeWord (w_T_takeWord M 0) 4) 8) 9) 10) (999 : Int32)) 15 12 (v_T_takeNumber (w_T_takeWord (w_T_takeWord (w_T_takeWord (w_T_takeWord (w_T_takeWord M 0) 4) 8) 9) 10) (999 : Int32))) else (w_T_fail (w_T_takeWord (w_T_takeWord (w_T_takeWord (w_T_takeWord (w_T_takeWord M 0) 4) 8) 9) 10)))), J, e)) (fun j60 => ?_) ?_
                  · obtain ⟨k62, k63⟩ := k59
                    rcases zz_bc (v_T_takeWord (w_T_takeWord (w_T_takeWord (w_T_takeWord M 0) 4) 8) 9) with h61 | h61
                    · refine zq_eT rfl h61 ?_
                      have k64 := k62 h61
                      refine (zz_go 3 (fr' := (zm_H_readLine, d + 11, 79, [some (.ref 2), some (.ref 15)], [.int (999 : Int32), .ref 2, .ref 15])) (h' := (zt_T L, zt_R, (w_T_takeWord (w_T_takeWord (w_T_takeWord (w_T_takeWord M 0) 4) 8) 9), J, e)) (fun _ => rfl)).trans ?_
                      have g65 : ok_T_takeNumber (w_T_takeWord (w_T_takeWord (w_T_takeWord (w_T_takeWord M 0) 4) 8) 9) (999 : Int32) := k64
                      refine zl_vt (d := d + 10) rfl rfl rfl rfl rfl rfl rfl rfl rfl rfl (s_T_takeNumber L e J (d + 8) (w_T_takeWord (w_T_takeWord (w_T_takeWord (w_T_takeWord M 0) 4) 8) 9) (999 : Int32) g65) ?_
                      show zz_D (zm_H_readLine, d + 11, 82, [some (.ref 2), some (.ref 15)], [.int (v_T_takeNumber (w_T_takeWord (w_T_takeWord (w_T_takeWord (w_T_takeWord M 0) 4) 8) 9) (999 : Int32)), .ref 15]) (zt_T L, zt_R, (w_T_takeNumber (w_T_takeWord (w_T_takeWord (w_T_takeWord (w_T_takeWord M 0) 4) 8) 9) (999 : Int32)), J, e) = _
                      refine zl_putI rfl rfl rfl rfl ?_
                      refine (zz_go 1 (fr' := (zm_H_readLine, d + 11, 115, [some (.ref 2), some (.ref 15)], [])) (h' := (zt_T L, zt_R, (zz_up (w_T_takeNumber (w_T_takeWord (w_T_takeWord (w_T_takeWord (w_T_takeWord M 0) 4) 8) 9) (999 : Int32)) 15 13 (v_T_takeNumber (w_T_takeWord (w_T_takeWord (w_T_takeWord (w_T_takeWord M 0) 4) 8) 9) (999 : Int32))), J, e)) (fun _ => rfl)).trans ?_
                      refine zz_weak (L := [none, none]) ⟨Or.inr ⟨rfl, rfl⟩, Or.inr ⟨rfl, rfl⟩, trivial⟩ ?_
                      simpa only [h61, zk_t, zk_f, zb_t, zb_f] using j60
                    · refine zq_eF rfl h61 ?_
                      have k66 := k63 h61
                      refine (zz_go 2 (fr' := (zm_H_readLine, d + 11, 91, [some (.ref 2), some (.ref 15)], [.ref (1000000 + 10), .ref 2])) (h' := (zt_T L, zt_R, (w_T_takeWord (w_T_takeWord (w_T_takeWord (w_T_takeWord M 0) 4) 8) 9), J, e)) (fun _ => rfl)).trans ?_
                      obtain ⟨g67, k68⟩ := k66
                      refine zl_vt (d := d + 10) rfl rfl rfl rfl rfl rfl rfl rfl rfl rfl (s_T_takeWord L e J (d + 2) (w_T_takeWord (w_T_takeWord (w_T_takeWord (w_T_takeWord M 0) 4) 8) 9) 10 rfl g67) ?_
                      show zz_D (zm_H_readLine, d + 11, 94, [some (.ref 2), some (.ref 15)], [.int (zb (v_T_takeWord (w_T_takeWord (w_T_takeWord (w_T_takeWord (w_T_takeWord M 0) 4) 8) 9) 10))]) (zt_T L, zt_R, (w_T_takeWord (w_T_takeWord (w_T_takeWord (w_T_takeWord (w_T_takeWord M 0) 4) 8) 9) 10), J, e) = _
                      refine zz_jn (X := zz_D (zm_H_readLine, d + 11, 115, [none, none], []) (zt_T L, zt_R, (bif (v_T_takeWord (w_T_takeWord (w_T_takeWord (w_T_takeWord (w_T_takeWord M 0) 4) 8) 9) 10) then (zz_up (w_T_takeNumber (w_T_takeWord (w_T_takeWord (w_T_takeWord (w_T_takeWord (w_T_takeWord M 0) 4) 8) 9) 10) (999 : Int32)) 15 12 (v_T_takeNumber (w_T_takeWord (w_T_takeWord (w_T_takeWord (w_T_takeWord (w_T_takeWord M 0) 4) 8) 9) 10) (999 : Int32))) else (w_T_fail (w_T_takeWord (w_T_takeWord (w_T_takeWord (w_T_takeWord (w_T_takeWord M 0) 4) 8) 9) 10))), J, e)) (fun j69 => ?_) ?_
                      · rcases zz_bc (v_T_takeWord (w_T_takeWord (w_T_takeWord (w_T_takeWord (w_T_takeWord M 0) 4) 8) 9) 10) with h70 | h70
                        · refine zq_eT rfl h70 ?_
                          have k71 := k68 h70
                          refine (zz_go 3 (fr' := (zm_H_readLine, d + 11, 102, [some (.ref 2), some (.ref 15)], [.int (999 : Int32), .ref 2, .ref 15])) (h' := (zt_T L, zt_R, (w_T_takeWord (w_T_takeWord (w_T_takeWord (w_T_takeWord (w_T_takeWord M 0) 4) 8) 9) 10), J, e)) (fun _ => rfl)).trans ?_
                          have g72 : ok_T_takeNumber (w_T_takeWord (w_T_takeWord (w_T_takeWord (w_T_takeWord (w_T_takeWord M 0) 4) 8) 9) 10) (999 : Int32) := k71
                          refine zl_vt (d := d + 10) rfl rfl rfl rfl rfl rfl rfl rfl rfl rfl (s_T_takeNumber L e J (d + 8) (w_T_takeWord (w_T_takeWord (w_T_takeWord (w_T_takeWord (w_T_takeWord M 0) 4) 8) 9) 10) (999 : Int32) g72) ?_
                          show zz_D (zm_H_readLine, d + 11, 105, [some (.ref 2), some (.ref 15)], [.int (v_T_takeNumber (w_T_takeWord (w_T_takeWord (w_T_takeWord (w_T_takeWord (w_T_takeWord M 0) 4) 8) 9) 10) (999 : Int32)), .ref 15]) (zt_T L, zt_R, (w_T_takeNumber (w_T_takeWord (w_T_takeWord (w_T_takeWord (w_T_takeWord (w_T_takeWord M 0) 4) 8) 9) 10) (999 : Int32)), J, e) = _
                          refine zl_putI rfl rfl rfl rfl ?_
                          refine (zz_go 1 (fr' := (zm_H_readLine, d + 11, 115, [some (.ref 2), some (.ref 15)], [])) (h' := (zt_T L, zt_R, (zz_up (w_T_takeNumber (w_T_takeWord (w_T_takeWord (w_T_takeWord (w_T_takeWord (w_T_takeWord M 0) 4) 8) 9) 10) (999 : Int32)) 15 12 (v_T_takeNumber (w_T_takeWord (w_T_takeWord (w_T_takeWord (w_T_takeWord (w_T_takeWord M 0) 4) 8) 9) 10) (999 : Int32))), J, e)) (fun _ => rfl)).trans ?_
                          refine zz_weak (L := [none, none]) ⟨Or.inr ⟨rfl, rfl⟩, Or.inr ⟨rfl, rfl⟩, trivial⟩ ?_
                          simpa only [h70, zk_t, zk_f, zb_t, zb_f] using j69
                        · refine zq_eF rfl h70 ?_
                          refine (zz_go 1 (fr' := (zm_H_readLine, d + 11, 112, [some (.ref 2), some (.ref 15)], [.ref 2])) (h' := (zt_T L, zt_R, (w_T_takeWord (w_T_takeWord (w_T_takeWord (w_T_takeWord (w_T_takeWord M 0) 4) 8) 9) 10), J, e)) (fun _ => rfl)).trans ?_
                          refine zl_vt (d := d + 10) rfl rfl rfl rfl rfl rfl rfl rfl rfl rfl (s_T_fail L e J (d + 9) (w_T_takeWord (w_T_takeWord (w_T_takeWord (w_T_takeWord (w_T_takeWord M 0) 4) 8) 9) 10)) ?_
                          show zz_D (zm_H_readLine, d + 11, 115, [some (.ref 2), some (.ref 15)], []) (zt_T L, zt_R, (w_T_fail (w_T_takeWord (w_T_takeWord (w_T_takeWord (w_T_takeWord (w_T_takeWord M 0) 4) 8) 9) 10)), J, e) = _
                          refine zz_weak (L := [none, none]) ⟨Or.inr ⟨rfl, rfl⟩, Or.inr ⟨rfl, rfl⟩, trivial⟩ ?_
                          simpa only [h70, zk_t, zk_f, zb_t, zb_f] using j69
                      simpa only [h61, zk_t, zk_f, zb_t, zb_f] using j60
                  simpa only [h52, zk_t, zk_f, zb_t, zb_f] using j51
              simpa only [h43, zk_t, zk_f, zb_t, zb_f] using j42
          simpa only [h11, zk_t, zk_f, zb_t, zb_f] using j10
      simpa only [h4, zk_t, zk_f, zb_t, zb_f] using j3
  refine (zz_end 1 (r := (.inl none, (zt_T L, zt_R, (bif (v_T_takeWord M 0) then (w_H_readKind (w_T_takeWord M 0)) else (bif (decide ((6 : Int32) ≤ ((w_T_takeWord M 0) 15 10))) then (bif (v_T_takeWord (w_T_takeWord M 0) 8) then (zz_up (w_T_takeNumber (w_T_takeWord (w_T_takeWord M 0) 8) (100 : Int32)) 15 11 (v_T_takeNumber (w_T_takeWord (w_T_takeWord M 0) 8) (100 : Int32))) else (bif (v_T_takeWord (w_T_takeWord (w_T_takeWord M 0) 8) 9) then (zz_up (w_T_takeNumber (w_T_takeWord (w_T_takeWord (w_T_takeWord M 0) 8) 9) (999 : Int32)) 15 13 (v_T_takeNumber (w_T_takeWord (w_T_takeWord (w_T_takeWord M 0) 8) 9) (999 : Int32))) else (bif (v_T_takeWord (w_T_takeWord (w_T_takeWord (w_T_takeWord M 0) 8) 9) 10) then (zz_up (w_T_takeNumber (w_T_takeWord (w_T_takeWord (w_T_takeWord (w_T_takeWord M 0) 8) 9) 10) (999 : Int32)) 15 12 (v_T_takeNumber (w_T_takeWord (w_T_takeWord (w_T_takeWord (w_T_takeWord M 0) 8) 9) 10) (999 : Int32))) else (w_T_fail (w_T_takeWord (w_T_takeWord (w_T_takeWord (w_T_takeWord M 0) 8) 9) 10))))) else (bif (v_T_takeWord (w_T_takeWord M 0) 4) then (w_H_readPerson (w_T_takeWord (w_T_takeWord M 0) 4)) else (bif (v_T_takeWord (w_T_takeWord (w_T_takeWord M 0) 4) 8) then (zz_up (w_T_takeNumber (w_T_takeWord (w_T_takeWord (w_T_takeWord M 0) 4) 8) (100 : Int32)) 15 11 (v_T_takeNumber (w_T_takeWord (w_T_takeWord (w_T_takeWord M 0) 4) 8) (100 : Int32))) else (bif (v_T_takeWord (w_T_takeWord (w_T_takeWord (w_T_takeWord M 0) 4) 8) 9) then (zz_up (w_T_takeNumber (w_T_takeWord (w_T_takeWord (w_T_takeWord (w_T_takeWord M 0) 4) 8) 9) (999 : Int32)) 15 13 (v_T_takeNumber (w_T_takeWord (w_T_takeWord (w_T_takeWord (w_T_takeWord M 0) 4) 8) 9) (999 : Int32))) else (bif (v_T_takeWord (w_T_takeWord (w_T_takeWord (w_T_takeWord (w_T_takeWord M 0) 4) 8) 9) 10) then (zz_up (w_T_takeNumber (w_T_takeWord (w_T_takeWord (w_T_takeWord (w_T_takeWord (w_T_takeWord M 0) 4) 8) 9) 10) (999 : Int32)) 15 12 (v_T_takeNumber (w_T_takeWord (w_T_takeWord (w_T_takeWord (w_T_takeWord (w_T_takeWord M 0) 4) 8) 9) 10) (999 : Int32))) else (w_T_fail (w_T_takeWord (w_T_takeWord (w_T_takeWord (w_T_takeWord (w_T_takeWord M 0) 4) 8) 9) 10)))))))), J, e))) (fun _ => rfl)).trans ?_
  rfl
def g_H_readAll_1 (M : zMem) (i1 : Nat) (a1 : zMem) : Bool × (zMem) := ((bif (decide ((14 : Int32) < (Int32.ofNat i1))) then false else (v_T_takeLine a1 (Int32.ofNat i1) (14 : Int32))), (bif (decide ((14 : Int32) < (Int32.ofNat i1))) then a1 else (bif (v_T_takeLine a1 (Int32.ofNat i1) (14 : Int32)) then (w_H_readLine (w_T_takeLine a1 (Int32.ofNat i1) (14 : Int32))) else (w_T_takeLine a1 (Int32.ofNat i1) (14 : Int32)))))
def kb_H_readAll_1 (M : zMem) (i1 : Nat) (a1 : zMem) : Prop := ((decide ((14 : Int32) < (Int32.ofNat i1))) = false → (ok_T_takeLine a1 (Int32.ofNat i1) (14 : Int32) ∧ ((v_T_takeLine a1 (Int32.ofNat i1) (14 : Int32)) = true → ok_H_readLine (w_T_takeLine a1 (Int32.ofNat i1) (14 : Int32)))))
def w_H_readAll (M : zMem) : zMem := (zf_wh 1000 (g_H_readAll_1 M) 0 M)
def ok_H_readAll (M : zMem) : Prop := (zf_wk 1000 (g_H_readAll_1 M) (kb_H_readAll_1 M) 0 M)
set_option maxRecDepth 20000 in
set_option maxHeartbeats 2000000 in
theorem s_H_readAll (L e : Nat) (J : zJem) (d : Nat) (M : zMem) (k0 : ok_H_readAll M) : zz_D (zm_H_readAll, d + 12, 0, [some (.ref 2), some (.ref 15), none], []) (zt_T L, zt_R, M, J, e) = some (.inl (none), (zt_T L, zt_R, (w_H_readAll M), J, e)) := by
  unfold ok_H_readAll at k0
  unfold w_H_readAll
  refine (zz_go 2 (fr' := (zm_H_readAll, d + 12, 2, [some (.ref 2), some (.ref 15), some (.int (0 : Int32))], [])) (h' := (zt_T L, zt_R, M, J, e)) (fun _ => rfl)).trans ?_
  refine zf_whY (X := fun (i1 : Nat) (a1 : zMem) => zz_D (zm_H_readAll, d + 12, 2, [some (.ref 2), some (.ref 15), some (.int (Int32.ofNat i1))], []) (zt_T L, zt_R, a1, J, e)) (Y := fun (a1 : zMem) => zz_D (zm_H_readAll, d + 12, 29, [none, none, none], []) (zt_T L, zt_R, a1, J, e)) (g := (g_H_readAll_1 M)) (k := (kb_H_readAll_1 M)) (fun i1 a1 k3 hx1 hx2 => ?_) 1000 0 M k0 ?_
  · show zz_D (zm_H_readAll, d + 12, 2, [some (.ref 2), some (.ref 15), some (.int (Int32.ofNat i1))], []) (zt_T L, zt_R, a1, J, e) = _
    unfold kb_H_readAll_1 at k3
    refine (zz_go 2 (fr' := (zm_H_readAll, d + 12, 5, [some (.ref 2), some (.ref 15), some (.int (Int32.ofNat i1))], [.int (14 : Int32), .int (Int32.ofNat i1)])) (h' := (zt_T L, zt_R, a1, J, e)) (fun _ => rfl)).trans ?_
    rcases zz_bc (decide ((14 : Int32) < (Int32.ofNat i1))) with h4 | h4
    · refine zc_gtT rfl h4 ?_
      refine zz_weak (L := [none, none, none]) ⟨Or.inr ⟨rfl, rfl⟩, Or.inr ⟨rfl, rfl⟩, Or.inr ⟨rfl, rfl⟩, trivial⟩ ?_
      have y1 := hx2 (by simp only [g_H_readAll_1, h4, zk_t, zk_f, zb_t, zb_f])
      simpa only [g_H_readAll_1, h4, zk_t, zk_f, zb_t, zb_f] using y1
    · refine zc_gtF rfl h4 ?_
      have k5 := k3 h4
      refine (zz_go 3 (fr' := (zm_H_readAll, d + 12, 12, [some (.ref 2), some (.ref 15), some (.int (Int32.ofNat i1))], [.int (14 : Int32), .int (Int32.ofNat i1), .ref 2])) (h' := (zt_T L, zt_R, a1, J, e)) (fun _ => rfl)).trans ?_
      obtain ⟨g6, k7⟩ := k5
      refine zl_vt (d := d + 11) rfl rfl rfl rfl rfl rfl rfl rfl rfl rfl (s_T_takeLine L e J (d + 8) a1 (Int32.ofNat i1) (14 : Int32) g6) ?_
      show zz_D (zm_H_readAll, d + 12, 15, [some (.ref 2), some (.ref 15), some (.int (Int32.ofNat i1))], [.int (zb (v_T_takeLine a1 (Int32.ofNat i1) (14 : Int32)))]) (zt_T L, zt_R, (w_T_takeLine a1 (Int32.ofNat i1) (14 : Int32)), J, e) = _
      rcases zz_bc (v_T_takeLine a1 (Int32.ofNat i1) (14 : Int32)) with h8 | h8
      · refine zq_eT rfl h8 ?_
        have k9 := k7 h8
        refine (zz_go 2 (fr' := (zm_H_readAll, d + 12, 20, [some (.ref 2), some (.ref 15), some (.int (Int32.ofNat i1))], [.ref 15, .ref 2])) (h' := (zt_T L, zt_R, (w_T_takeLine a1 (Int32.ofNat i1) (14 : Int32)), J, e)) (fun _ => rfl)).trans ?_
        have g10 : ok_H_readLine (w_T_takeLine a1 (Int32.ofNat i1) (14 : Int32)) := k9
        refine zl_st (d := d + 11) rfl rfl rfl rfl rfl rfl rfl (s_H_readLine L e J (d + 0) (w_T_takeLine a1 (Int32.ofNat i1) (14 : Int32)) g10) ?_
        show zz_D (zm_H_readAll, d + 12, 23, [some (.ref 2), some (.ref 15), some (.int (Int32.ofNat i1))], []) (zt_T L, zt_R, (w_H_readLine (w_T_takeLine a1 (Int32.ofNat i1) (14 : Int32))), J, e) = _
        refine (zz_go 2 (fr' := (zm_H_readAll, d + 12, 2, [some (.ref 2), some (.ref 15), some (.int (Int32.ofNat i1 + 1))], [])) (h' := (zt_T L, zt_R, (w_H_readLine (w_T_takeLine a1 (Int32.ofNat i1) (14 : Int32))), J, e)) (fun _ => rfl)).trans ?_
        rw [zi_succ i1]
        have y1 := hx1 (by simp only [g_H_readAll_1, h4, h8, zk_t, zk_f, zb_t, zb_f])
        simpa only [g_H_readAll_1, h4, h8, zk_t, zk_f, zb_t, zb_f] using y1
      · refine zq_eF rfl h8 ?_
        refine zz_weak (L := [none, none, none]) ⟨Or.inr ⟨rfl, rfl⟩, Or.inr ⟨rfl, rfl⟩, Or.inr ⟨rfl, rfl⟩, trivial⟩ ?_
        have y1 := hx2 (by simp only [g_H_readAll_1, h4, h8, zk_t, zk_f, zb_t, zb_f])
        simpa only [g_H_readAll_1, h4, h8, zk_t, zk_f, zb_t, zb_f] using y1
  show zz_D (zm_H_readAll, d + 12, 29, [none, none, none], []) (zt_T L, zt_R, (zf_wh 1000 (g_H_readAll_1 M) 0 M), J, e) = _
  refine (zz_end 1 (r := (.inl none, (zt_T L, zt_R, (zf_wh 1000 (g_H_readAll_1 M) 0 M), J, e))) (fun _ => rfl)).trans ?_
  rfl
def v_J_partWord (x0 : Int32) : Nat := (bif (decide (x0 = (0 : Int32))) then 20 else (bif (decide (x0 = (1 : Int32))) then 21 else (bif (decide (x0 = (2 : Int32))) then 22 else (bif (decide (x0 = (3 : Int32))) then 23 else (bif (decide (x0 = (4 : Int32))) then 24 else (bif (decide (x0 = (5 : Int32))) then 25 else (bif (decide (x0 = (6 : Int32))) then 26 else 27)))))))
set_option maxRecDepth 20000 in
set_option maxHeartbeats 2000000 in
theorem s_J_partWord (L e : Nat) (J : zJem) (d : Nat) {M : zMem} (x0 : Int32) : zz_D (zm_J_partWord, d + 1, 0, [some (.int x0)], []) (zt_T L, zt_R, M, J, e) = some (.inl (some (.ref (1000000 + (v_J_partWord x0)))), (zt_T L, zt_R, M, J, e)) := by
  unfold v_J_partWord
  refine (zz_go 1 (fr' := (zm_J_partWord, d + 1, 1, [some (.int x0)], [.int x0])) (h' := (zt_T L, zt_R, M, J, e)) (fun _ => rfl)).trans ?_
  rcases zz_bc (decide (x0 = (0 : Int32))) with h1 | h1
  · refine zl_swc (A := (zm_J_partWord, d + 1, 44, [some (.int x0)], [])) h1 (fun _ => rfl) ?_
    refine (zz_go 1 (fr' := (zm_J_partWord, d + 1, 46, [some (.int x0)], [.ref (1000000 + 20)])) (h' := (zt_T L, zt_R, M, J, e)) (fun _ => rfl)).trans ?_
    refine (zz_end 1 (r := (.inl (some (.ref (1000000 + 20))), (zt_T L, zt_R, M, J, e))) (fun _ => rfl)).trans ?_
    first | (simp only [h1, zk_t, zk_f, zb_t, zb_f]; done) | (simp only [h1, zk_t, zk_f, zb_t, zb_f]; rfl) | rfl
  · skip
    rcases zz_bc (decide (x0 = (1 : Int32))) with h2 | h2
    · refine zl_swc (A := (zm_J_partWord, d + 1, 47, [some (.int x0)], [])) h2 (fun _ => rfl) ?_
      refine (zz_go 1 (fr' := (zm_J_partWord, d + 1, 49, [some (.int x0)], [.ref (1000000 + 21)])) (h' := (zt_T L, zt_R, M, J, e)) (fun _ => rfl)).trans ?_
      refine (zz_end 1 (r := (.inl (some (.ref (1000000 + 21))), (zt_T L, zt_R, M, J, e))) (fun _ => rfl)).trans ?_
      first | (simp only [h1, h2, zk_t, zk_f, zb_t, zb_f]; done) | (simp only [h1, h2, zk_t, zk_f, zb_t, zb_f]; rfl) | rfl
    · skip
      rcases zz_bc (decide (x0 = (2 : Int32))) with h3 | h3
      · refine zl_swc (A := (zm_J_partWord, d + 1, 50, [some (.int x0)], [])) h3 (fun _ => rfl) ?_
        refine (zz_go 1 (fr' := (zm_J_partWord, d + 1, 52, [some (.int x0)], [.ref (1000000 + 22)])) (h' := (zt_T L, zt_R, M, J, e)) (fun _ => rfl)).trans ?_
        refine (zz_end 1 (r := (.inl (some (.ref (1000000 + 22))), (zt_T L, zt_R, M, J, e))) (fun _ => rfl)).trans ?_
        first | (simp only [h1, h2, h3, zk_t, zk_f, zb_t, zb_f]; done) | (simp only [h1, h2, h3, zk_t, zk_f, zb_t, zb_f]; rfl) | rfl
      · skip
        rcases zz_bc (decide (x0 = (3 : Int32))) with h4 | h4
        · refine zl_swc (A := (zm_J_partWord, d + 1, 53, [some (.int x0)], [])) h4 (fun _ => rfl) ?_
          refine (zz_go 1 (fr' := (zm_J_partWord, d + 1, 55, [some (.int x0)], [.ref (1000000 + 23)])) (h' := (zt_T L, zt_R, M, J, e)) (fun _ => rfl)).trans ?_
          refine (zz_end 1 (r := (.inl (some (.ref (1000000 + 23))), (zt_T L, zt_R, M, J, e))) (fun _ => rfl)).trans ?_
          first | (simp only [h1, h2, h3, h4, zk_t, zk_f, zb_t, zb_f]; done) | (simp only [h1, h2, h3, h4, zk_t, zk_f, zb_t, zb_f]; rfl) | rfl
        · skip
          rcases zz_bc (decide (x0 = (4 : Int32))) with h5 | h5
          · refine zl_swc (A := (zm_J_partWord, d + 1, 56, [some (.int x0)], [])) h5 (fun _ => rfl) ?_
            refine (zz_go 1 (fr' := (zm_J_partWord, d + 1, 58, [some (.int x0)], [.ref (1000000 + 24)])) (h' := (zt_T L, zt_R, M, J, e)) (fun _ => rfl)).trans ?_
            refine (zz_end 1 (r := (.inl (some (.ref (1000000 + 24))), (zt_T L, zt_R, M, J, e))) (fun _ => rfl)).trans ?_
            first | (simp only [h1, h2, h3, h4, h5, zk_t, zk_f, zb_t, zb_f]; done) | (simp only [h1, h2, h3, h4, h5, zk_t, zk_f, zb_t, zb_f]; rfl) | rfl
          · skip
            rcases zz_bc (decide (x0 = (5 : Int32))) with h6 | h6
            · refine zl_swc (A := (zm_J_partWord, d + 1, 59, [some (.int x0)], [])) h6 (fun _ => rfl) ?_
              refine (zz_go 1 (fr' := (zm_J_partWord, d + 1, 61, [some (.int x0)], [.ref (1000000 + 25)])) (h' := (zt_T L, zt_R, M, J, e)) (fun _ => rfl)).trans ?_
              refine (zz_end 1 (r := (.inl (some (.ref (1000000 + 25))), (zt_T L, zt_R, M, J, e))) (fun _ => rfl)).trans ?_
              first | (simp only [h1, h2, h3, h4, h5, h6, zk_t, zk_f, zb_t, zb_f]; done) | (simp only [h1, h2, h3, h4, h5, h6, zk_t, zk_f, zb_t, zb_f]; rfl) | rfl
            · skip
              rcases zz_bc (decide (x0 = (6 : Int32))) with h7 | h7
              · refine zl_swc (A := (zm_J_partWord, d + 1, 62, [some (.int x0)], [])) h7 (fun _ => rfl) ?_
                refine (zz_go 1 (fr' := (zm_J_partWord, d + 1, 64, [some (.int x0)], [.ref (1000000 + 26)])) (h' := (zt_T L, zt_R, M, J, e)) (fun _ => rfl)).trans ?_
                refine (zz_end 1 (r := (.inl (some (.ref (1000000 + 26))), (zt_T L, zt_R, M, J, e))) (fun _ => rfl)).trans ?_
                first | (simp only [h1, h2, h3, h4, h5, h6, h7, zk_t, zk_f, zb_t, zb_f]; done) | (simp only [h1, h2, h3, h4, h5, h6, h7, zk_t, zk_f, zb_t, zb_f]; rfl) | rfl
              · skip
                refine zl_swd rfl (by have e0 : (x0).toInt ≠ 0 := zsw_ne h1; have e1 : (x0).toInt ≠ 1 := zsw_ne h2; have e2 : (x0).toInt ≠ 2 := zsw_ne h3; have e3 : (x0).toInt ≠ 3 := zsw_ne h4; have e4 : (x0).toInt ≠ 4 := zsw_ne h5; have e5 : (x0).toInt ≠ 5 := zsw_ne h6; have e6 : (x0).toInt ≠ 6 := zsw_ne h7; simp only [Bool.or_eq_true, decide_eq_true_eq]; omega) rfl ?_
                refine (zz_go 1 (fr' := (zm_J_partWord, d + 1, 67, [some (.int x0)], [.ref (1000000 + 27)])) (h' := (zt_T L, zt_R, M, J, e)) (fun _ => rfl)).trans ?_
                refine (zz_end 1 (r := (.inl (some (.ref (1000000 + 27))), (zt_T L, zt_R, M, J, e))) (fun _ => rfl)).trans ?_
                first | (simp only [h1, h2, h3, h4, h5, h6, h7, zk_t, zk_f, zb_t, zb_f]; done) | (simp only [h1, h2, h3, h4, h5, h6, h7, zk_t, zk_f, zb_t, zb_f]; rfl) | rfl
theorem zt_pw (x : Int32) : Nat.blt (v_J_partWord x) zz_S.length = true := by
  unfold v_J_partWord
  generalize (decide (x = (0 : Int32))) = c0
  generalize (decide (x = (1 : Int32))) = c1
  generalize (decide (x = (2 : Int32))) = c2
  generalize (decide (x = (3 : Int32))) = c3
  generalize (decide (x = (4 : Int32))) = c4
  generalize (decide (x = (5 : Int32))) = c5
  generalize (decide (x = (6 : Int32))) = c6
  revert c0 c1 c2 c3 c4 c5 c6
  decide
def g_J_readPart_1 (M : zMem) (i1 : Nat) (a1 : Bool × Int32 × zMem) : Bool × (Bool × Int32 × zMem) := ((bif (decide ((8 : Int32) ≤ (Int32.ofNat i1))) then false else (bif (v_T_takeWord a1.2.2 (v_J_partWord (Int32.ofNat i1))) then false else true)), ((bif (decide ((8 : Int32) ≤ (Int32.ofNat i1))) then false else (v_T_takeWord a1.2.2 (v_J_partWord (Int32.ofNat i1)))), (bif (decide ((8 : Int32) ≤ (Int32.ofNat i1))) then a1.2.1 else (bif (v_T_takeWord a1.2.2 (v_J_partWord (Int32.ofNat i1))) then (Int32.ofNat i1) else a1.2.1)), (bif (decide ((8 : Int32) ≤ (Int32.ofNat i1))) then a1.2.2 else (w_T_takeWord a1.2.2 (v_J_partWord (Int32.ofNat i1))))))
def kb_J_readPart_1 (M : zMem) (i1 : Nat) (a1 : Bool × Int32 × zMem) : Prop := ((decide ((8 : Int32) ≤ (Int32.ofNat i1))) = false → ok_T_takeWord a1.2.2 (v_J_partWord (Int32.ofNat i1)))
def v_J_readPart (M : zMem) : Int32 := (bif (v_T_atNumber M) then ((16 : Int32) + (v_T_takeNumber M (999 : Int32))) else (bif (zf_wh 1000 (g_J_readPart_1 M) 0 (false, 0, M)).1 then (zf_wh 1000 (g_J_readPart_1 M) 0 (false, 0, M)).2.1 else (0 : Int32)))
def w_J_readPart (M : zMem) : zMem := (bif (v_T_atNumber M) then (w_T_takeNumber M (999 : Int32)) else (bif (zf_wh 1000 (g_J_readPart_1 M) 0 (false, 0, M)).1 then (zf_wh 1000 (g_J_readPart_1 M) 0 (false, 0, M)).2.2 else (w_T_fail (zf_wh 1000 (g_J_readPart_1 M) 0 (false, 0, M)).2.2)))
def ok_J_readPart (M : zMem) : Prop := (ok_T_atNumber M ∧ (((v_T_atNumber M) = true → ok_T_takeNumber M (999 : Int32)) ∧ ((v_T_atNumber M) = false → (zf_wk 1000 (g_J_readPart_1 M) (kb_J_readPart_1 M) 0 (false, 0, M)))))
set_option maxRecDepth 20000 in
set_option maxHeartbeats 2000000 in
theorem s_J_readPart (L e : Nat) (J : zJem) (d : Nat) (M : zMem) (k0 : ok_J_readPart M) : zz_D (zm_J_readPart, d + 9, 0, [some (.ref 2), none], []) (zt_T L, zt_R, M, J, e) = some (.inl (some (.int (v_J_readPart M))), (zt_T L, zt_R, (w_J_readPart M), J, e)) := by
  unfold ok_J_readPart at k0
  unfold v_J_readPart w_J_readPart
  refine (zz_go 1 (fr' := (zm_J_readPart, d + 9, 1, [some (.ref 2), none], [.ref 2])) (h' := (zt_T L, zt_R, M, J, e)) (fun _ => rfl)).trans ?_
  obtain ⟨g1, k2⟩ := k0
  refine zl_vt (d := d + 8) rfl rfl rfl rfl rfl rfl rfl rfl rfl rfl (s_T_atNumber L e J (d + 6) M g1) ?_
  show zz_D (zm_J_readPart, d + 9, 4, [some (.ref 2), none], [.int (zb (v_T_atNumber M))]) (zt_T L, zt_R, M, J, e) = _
  obtain ⟨k4, k5⟩ := k2
  rcases zz_bc (v_T_atNumber M) with h3 | h3
  · refine zq_eT rfl h3 ?_
    have k6 := k4 h3
    refine (zz_go 3 (fr' := (zm_J_readPart, d + 9, 13, [some (.ref 2), none], [.int (999 : Int32), .ref 2, .int (16 : Int32)])) (h' := (zt_T L, zt_R, M, J, e)) (fun _ => rfl)).trans ?_
    have g7 : ok_T_takeNumber M (999 : Int32) := k6
    refine zl_vt (d := d + 8) rfl rfl rfl rfl rfl rfl rfl rfl rfl rfl (s_T_takeNumber L e J (d + 6) M (999 : Int32) g7) ?_
    show zz_D (zm_J_readPart, d + 9, 16, [some (.ref 2), none], [.int (v_T_takeNumber M (999 : Int32)), .int (16 : Int32)]) (zt_T L, zt_R, (w_T_takeNumber M (999 : Int32)), J, e) = _
    refine (zz_go 1 (fr' := (zm_J_readPart, d + 9, 17, [some (.ref 2), none], [.int ((16 : Int32) + (v_T_takeNumber M (999 : Int32)))])) (h' := (zt_T L, zt_R, (w_T_takeNumber M (999 : Int32)), J, e)) (fun _ => rfl)).trans ?_
    refine zl_retI rfl rfl ?_
    first | (simp only [h3, zk_t, zk_f, zb_t, zb_f]; done) | (simp only [h3, zk_t, zk_f, zb_t, zb_f]; rfl) | rfl
  · refine zq_eF rfl h3 ?_
    have k8 := k5 h3
    refine (zz_go 2 (fr' := (zm_J_readPart, d + 9, 20, [some (.ref 2), some (.int (0 : Int32))], [])) (h' := (zt_T L, zt_R, M, J, e)) (fun _ => rfl)).trans ?_
    refine zf_whY (X := fun (i1 : Nat) (a1 : Bool × Int32 × zMem) => zz_D (zm_J_readPart, d + 9, 20, [some (.ref 2), some (.int (Int32.ofNat i1))], []) (zt_T L, zt_R, a1.2.2, J, e)) (Y := fun (a1 : Bool × Int32 × zMem) => (bif a1.1 then some (.inl (some (.int a1.2.1)), (zt_T L, zt_R, a1.2.2, J, e)) else zz_D (zm_J_readPart, d + 9, 45, [some (.ref 2), none], []) (zt_T L, zt_R, a1.2.2, J, e))) (g := (g_J_readPart_1 M)) (k := (kb_J_readPart_1 M)) (fun i1 a1 k11 hx9 hx10 => ?_) 1000 0 (false, 0, M) k8 ?_
    · show zz_D (zm_J_readPart, d + 9, 20, [some (.ref 2), some (.int (Int32.ofNat i1))], []) (zt_T L, zt_R, a1.2.2, J, e) = _
      unfold kb_J_readPart_1 at k11
      refine (zz_go 2 (fr' := (zm_J_readPart, d + 9, 23, [some (.ref 2), some (.int (Int32.ofNat i1))], [.int (8 : Int32), .int (Int32.ofNat i1)])) (h' := (zt_T L, zt_R, a1.2.2, J, e)) (fun _ => rfl)).trans ?_
      rcases zz_bc (decide ((8 : Int32) ≤ (Int32.ofNat i1))) with h12 | h12
      · refine zc_geT rfl h12 ?_
        refine zz_weak (L := [some (.ref 2), none]) ⟨Or.inl rfl, Or.inr ⟨rfl, rfl⟩, trivial⟩ ?_
        have y1 := hx10 (by simp only [g_J_readPart_1, h12, zk_t, zk_f, zb_t, zb_f])
        simpa only [g_J_readPart_1, h12, zk_t, zk_f, zb_t, zb_f] using y1
      · refine zc_geF rfl h12 ?_
        have k13 := k11 h12
        refine (zz_go 2 (fr' := (zm_J_readPart, d + 9, 28, [some (.ref 2), some (.int (Int32.ofNat i1))], [.int (Int32.ofNat i1), .ref 2])) (h' := (zt_T L, zt_R, a1.2.2, J, e)) (fun _ => rfl)).trans ?_
        refine zl_st (d := d + 8) rfl rfl rfl rfl rfl rfl rfl (s_J_partWord L e J (d + 7) (Int32.ofNat i1)) ?_
        show zz_D (zm_J_readPart, d + 9, 31, [some (.ref 2), some (.int (Int32.ofNat i1))], [.ref (1000000 + (v_J_partWord (Int32.ofNat i1))), .ref 2]) (zt_T L, zt_R, a1.2.2, J, e) = _
        have g14 : ok_T_takeWord a1.2.2 (v_J_partWord (Int32.ofNat i1)) := k13
        refine zl_vt (d := d + 8) rfl rfl rfl rfl rfl rfl rfl rfl rfl rfl (s_T_takeWord L e J (d + 0) a1.2.2 (v_J_partWord (Int32.ofNat i1)) (zt_pw _) g14) ?_
        show zz_D (zm_J_readPart, d + 9, 34, [some (.ref 2), some (.int (Int32.ofNat i1))], [.int (zb (v_T_takeWord a1.2.2 (v_J_partWord (Int32.ofNat i1))))]) (zt_T L, zt_R, (w_T_takeWord a1.2.2 (v_J_partWord (Int32.ofNat i1))), J, e) = _
        rcases zz_bc (v_T_takeWord a1.2.2 (v_J_partWord (Int32.ofNat i1))) with h15 | h15
        · refine zq_eT rfl h15 ?_
          refine (zz_go 1 (fr' := (zm_J_readPart, d + 9, 38, [some (.ref 2), some (.int (Int32.ofNat i1))], [.int (Int32.ofNat i1)])) (h' := (zt_T L, zt_R, (w_T_takeWord a1.2.2 (v_J_partWord (Int32.ofNat i1))), J, e)) (fun _ => rfl)).trans ?_
          refine zl_retI rfl rfl ?_
          have y1 := hx10 (by simp only [g_J_readPart_1, h12, h15, zk_t, zk_f, zb_t, zb_f])
          simpa only [g_J_readPart_1, h12, h15, zk_t, zk_f, zb_t, zb_f] using y1
        · refine zq_eF rfl h15 ?_
          refine (zz_go 2 (fr' := (zm_J_readPart, d + 9, 20, [some (.ref 2), some (.int (Int32.ofNat i1 + 1))], [])) (h' := (zt_T L, zt_R, (w_T_takeWord a1.2.2 (v_J_partWord (Int32.ofNat i1))), J, e)) (fun _ => rfl)).trans ?_
          rw [zi_succ i1]
          have y1 := hx9 (by simp only [g_J_readPart_1, h12, h15, zk_t, zk_f, zb_t, zb_f])
          simpa only [g_J_readPart_1, h12, h15, zk_t, zk_f, zb_t, zb_f] using y1
    show (bif (zf_wh 1000 (g_J_readPart_1 M) 0 (false, 0, M)).1 then some (.inl (some (.int (zf_wh 1000 (g_J_readPart_1 M) 0 (false, 0, M)).2.1)), (zt_T L, zt_R, (zf_wh 1000 (g_J_readPart_1 M) 0 (false, 0, M)).2.2, J, e)) else zz_D (zm_J_readPart, d + 9, 45, [some (.ref 2), none], []) (zt_T L, zt_R, (zf_wh 1000 (g_J_readPart_1 M) 0 (false, 0, M)).2.2, J, e)) = _
    refine zz_ec (fun h16 => ?_) (fun h16 => ?_)
    · skip
      first | (simp only [h3, h16, zk_t, zk_f, zb_t, zb_f]; done) | (simp only [h3, h16, zk_t, zk_f, zb_t, zb_f]; rfl) | rfl
    refine (zz_go 1 (fr' := (zm_J_readPart, d + 9, 46, [some (.ref 2), none], [.ref 2])) (h' := (zt_T L, zt_R, (zf_wh 1000 (g_J_readPart_1 M) 0 (false, 0, M)).2.2, J, e)) (fun _ => rfl)).trans ?_
    refine zl_vt (d := d + 8) rfl rfl rfl rfl rfl rfl rfl rfl rfl rfl (s_T_fail L e J (d + 7) (zf_wh 1000 (g_J_readPart_1 M) 0 (false, 0, M)).2.2) ?_
    show zz_D (zm_J_readPart, d + 9, 49, [some (.ref 2), none], []) (zt_T L, zt_R, (w_T_fail (zf_wh 1000 (g_J_readPart_1 M) 0 (false, 0, M)).2.2), J, e) = _
    refine (zz_go 1 (fr' := (zm_J_readPart, d + 9, 50, [some (.ref 2), none], [.int (0 : Int32)])) (h' := (zt_T L, zt_R, (w_T_fail (zf_wh 1000 (g_J_readPart_1 M) 0 (false, 0, M)).2.2), J, e)) (fun _ => rfl)).trans ?_
    refine zl_retI rfl rfl ?_
    first | (simp only [h3, h16, zk_t, zk_f, zb_t, zb_f]; done) | (simp only [h3, h16, zk_t, zk_f, zb_t, zb_f]; rfl) | rfl
def g_J_readSum_1 (M : zMem) (i1 : Nat) (a1 : zMem) : Bool × (zMem) := ((bif (decide ((400 : Int32) ≤ (Int32.ofNat i1))) then false else (v_T_takeSign a1 (43 : Int32))), (bif (decide ((400 : Int32) ≤ (Int32.ofNat i1))) then a1 else (bif (v_T_takeSign a1 (43 : Int32)) then (w_L_addStep (w_L_addStep (w_J_readPart (w_T_takeSign a1 (43 : Int32))) (v_J_readPart (w_T_takeSign a1 (43 : Int32)))) (10 : Int32)) else (w_T_takeSign a1 (43 : Int32)))))
def kb_J_readSum_1 (M : zMem) (i1 : Nat) (a1 : zMem) : Prop := ((decide ((400 : Int32) ≤ (Int32.ofNat i1))) = false → (ok_T_takeSign a1 (43 : Int32) ∧ ((v_T_takeSign a1 (43 : Int32)) = true → (ok_J_readPart (w_T_takeSign a1 (43 : Int32)) ∧ (ok_L_addStep (w_J_readPart (w_T_takeSign a1 (43 : Int32))) (v_J_readPart (w_T_takeSign a1 (43 : Int32))) ∧ ok_L_addStep (w_L_addStep (w_J_readPart (w_T_takeSign a1 (43 : Int32))) (v_J_readPart (w_T_takeSign a1 (43 : Int32)))) (10 : Int32))))))
def w_J_readSum (M : zMem) : zMem := (zf_wh 1000 (g_J_readSum_1 M) 0 (w_L_addStep (w_J_readPart M) (v_J_readPart M)))
def ok_J_readSum (M : zMem) : Prop := (ok_J_readPart M ∧ (ok_L_addStep (w_J_readPart M) (v_J_readPart M) ∧ (zf_wk 1000 (g_J_readSum_1 M) (kb_J_readSum_1 M) 0 (w_L_addStep (w_J_readPart M) (v_J_readPart M)))))
set_option maxRecDepth 20000 in
set_option maxHeartbeats 2000000 in
theorem s_J_readSum (L e : Nat) (J : zJem) (d : Nat) (M : zMem) (k0 : ok_J_readSum M) : zz_D (zm_J_readSum, d + 10, 0, [some (.ref 2), some (.ref 44), none], []) (zt_T L, zt_R, M, J, e) = some (.inl (none), (zt_T L, zt_R, (w_J_readSum M), J, e)) := by
  unfold ok_J_readSum at k0
  unfold w_J_readSum
  refine (zz_go 2 (fr' := (zm_J_readSum, d + 10, 2, [some (.ref 2), some (.ref 44), none], [.ref 2, .ref 44])) (h' := (zt_T L, zt_R, M, J, e)) (fun _ => rfl)).trans ?_
  obtain ⟨g1, k2⟩ := k0
  refine zl_st (d := d + 9) rfl rfl rfl rfl rfl rfl rfl (s_J_readPart L e J (d + 0) M g1) ?_
  show zz_D (zm_J_readSum, d + 10, 5, [some (.ref 2), some (.ref 44), none], [.int (v_J_readPart M), .ref 44]) (zt_T L, zt_R, (w_J_readPart M), J, e) = _
  obtain ⟨g3, k4⟩ := k2
  refine zl_vt (d := d + 9) rfl rfl rfl rfl rfl rfl rfl rfl rfl rfl (s_L_addStep L e J (d + 8) (w_J_readPart M) (v_J_readPart M) g3) ?_
  show zz_D (zm_J_readSum, d + 10, 8, [some (.ref 2), some (.ref 44), none], []) (zt_T L, zt_R, (w_L_addStep (w_J_readPart M) (v_J_readPart M)), J, e) = _
  refine (zz_go 2 (fr' := (zm_J_readSum, d + 10, 10, [some (.ref 2), some (.ref 44), some (.int (0 : Int32))], [])) (h' := (zt_T L, zt_R, (w_L_addStep (w_J_readPart M) (v_J_readPart M)), J, e)) (fun _ => rfl)).trans ?_
  refine zf_whY (X := fun (i1 : Nat) (a1 : zMem) => zz_D (zm_J_readSum, d + 10, 10, [some (.ref 2), some (.ref 44), some (.int (Int32.ofNat i1))], []) (zt_T L, zt_R, a1, J, e)) (Y := fun (a1 : zMem) => zz_D (zm_J_readSum, d + 10, 46, [none, none, none], []) (zt_T L, zt_R, a1, J, e)) (g := (g_J_readSum_1 M)) (k := (kb_J_readSum_1 M)) (fun i1 a1 k7 hx5 hx6 => ?_) 1000 0 (w_L_addStep (w_J_readPart M) (v_J_readPart M)) k4 ?_
  · show zz_D (zm_J_readSum, d + 10, 10, [some (.ref 2), some (.ref 44), some (.int (Int32.ofNat i1))], []) (zt_T L, zt_R, a1, J, e) = _
    unfold kb_J_readSum_1 at k7
    refine (zz_go 2 (fr' := (zm_J_readSum, d + 10, 14, [some (.ref 2), some (.ref 44), some (.int (Int32.ofNat i1))], [.int (400 : Int32), .int (Int32.ofNat i1)])) (h' := (zt_T L, zt_R, a1, J, e)) (fun _ => rfl)).trans ?_
    rcases zz_bc (decide ((400 : Int32) ≤ (Int32.ofNat i1))) with h8 | h8
    · refine zc_geT rfl h8 ?_
      refine zz_weak (L := [none, none, none]) ⟨Or.inr ⟨rfl, rfl⟩, Or.inr ⟨rfl, rfl⟩, Or.inr ⟨rfl, rfl⟩, trivial⟩ ?_
      have y1 := hx6 (by simp only [g_J_readSum_1, h8, zk_t, zk_f, zb_t, zb_f])
      simpa only [g_J_readSum_1, h8, zk_t, zk_f, zb_t, zb_f] using y1
    · refine zc_geF rfl h8 ?_
      have k9 := k7 h8
      refine (zz_go 2 (fr' := (zm_J_readSum, d + 10, 20, [some (.ref 2), some (.ref 44), some (.int (Int32.ofNat i1))], [.int (43 : Int32), .ref 2])) (h' := (zt_T L, zt_R, a1, J, e)) (fun _ => rfl)).trans ?_
      obtain ⟨g10, k11⟩ := k9
      refine zl_vt (d := d + 9) rfl rfl rfl rfl rfl rfl rfl rfl rfl rfl (s_T_takeSign L e J (d + 7) a1 (43 : Int32) g10) ?_
      show zz_D (zm_J_readSum, d + 10, 23, [some (.ref 2), some (.ref 44), some (.int (Int32.ofNat i1))], [.int (zb (v_T_takeSign a1 (43 : Int32)))]) (zt_T L, zt_R, (w_T_takeSign a1 (43 : Int32)), J, e) = _
      rcases zz_bc (v_T_takeSign a1 (43 : Int32)) with h12 | h12
      · refine zq_eT rfl h12 ?_
        have k13 := k11 h12
        refine (zz_go 2 (fr' := (zm_J_readSum, d + 10, 28, [some (.ref 2), some (.ref 44), some (.int (Int32.ofNat i1))], [.ref 2, .ref 44])) (h' := (zt_T L, zt_R, (w_T_takeSign a1 (43 : Int32)), J, e)) (fun _ => rfl)).trans ?_
        obtain ⟨g14, k15⟩ := k13
        refine zl_st (d := d + 9) rfl rfl rfl rfl rfl rfl rfl (s_J_readPart L e J (d + 0) (w_T_takeSign a1 (43 : Int32)) g14) ?_
        show zz_D (zm_J_readSum, d + 10, 31, [some (.ref 2), some (.ref 44), some (.int (Int32.ofNat i1))], [.int (v_J_readPart (w_T_takeSign a1 (43 : Int32))), .ref 44]) (zt_T L, zt_R, (w_J_readPart (w_T_takeSign a1 (43 : Int32))), J, e) = _
        obtain ⟨g16, k17⟩ := k15
        refine zl_vt (d := d + 9) rfl rfl rfl rfl rfl rfl rfl rfl rfl rfl (s_L_addStep L e J (d + 8) (w_J_readPart (w_T_takeSign a1 (43 : Int32))) (v_J_readPart (w_T_takeSign a1 (43 : Int32))) g16) ?_
        show zz_D (zm_J_readSum, d + 10, 34, [some (.ref 2), some (.ref 44), some (.int (Int32.ofNat i1))], []) (zt_T L, zt_R, (w_L_addStep (w_J_readPart (w_T_takeSign a1 (43 : Int32))) (v_J_readPart (w_T_takeSign a1 (43 : Int32)))), J, e) = _
        refine (zz_go 2 (fr' := (zm_J_readSum, d + 10, 37, [some (.ref 2), some (.ref 44), some (.int (Int32.ofNat i1))], [.int (10 : Int32), .ref 44])) (h' := (zt_T L, zt_R, (w_L_addStep (w_J_readPart (w_T_takeSign a1 (43 : Int32))) (v_J_readPart (w_T_takeSign a1 (43 : Int32)))), J, e)) (fun _ => rfl)).trans ?_
        have g18 : ok_L_addStep (w_L_addStep (w_J_readPart (w_T_takeSign a1 (43 : Int32))) (v_J_readPart (w_T_takeSign a1 (43 : Int32)))) (10 : Int32) := k17
        refine zl_vt (d := d + 9) rfl rfl rfl rfl rfl rfl rfl rfl rfl rfl (s_L_addStep L e J (d + 8) (w_L_addStep (w_J_readPart (w_T_takeSign a1 (43 : Int32))) (v_J_readPart (w_T_takeSign a1 (43 : Int32)))) (10 : Int32) g18) ?_
        show zz_D (zm_J_readSum, d + 10, 40, [some (.ref 2), some (.ref 44), some (.int (Int32.ofNat i1))], []) (zt_T L, zt_R, (w_L_addStep (w_L_addStep (w_J_readPart (w_T_takeSign a1 (43 : Int32))) (v_J_readPart (w_T_takeSign a1 (43 : Int32)))) (10 : Int32)), J, e) = _
        refine (zz_go 2 (fr' := (zm_J_readSum, d + 10, 10, [some (.ref 2), some (.ref 44), some (.int (Int32.ofNat i1 + 1))], [])) (h' := (zt_T L, zt_R, (w_L_addStep (w_L_addStep (w_J_readPart (w_T_takeSign a1 (43 : Int32))) (v_J_readPart (w_T_takeSign a1 (43 : Int32)))) (10 : Int32)), J, e)) (fun _ => rfl)).trans ?_
        rw [zi_succ i1]
        have y1 := hx5 (by simp only [g_J_readSum_1, h8, h12, zk_t, zk_f, zb_t, zb_f])
        simpa only [g_J_readSum_1, h8, h12, zk_t, zk_f, zb_t, zb_f] using y1
      · refine zq_eF rfl h12 ?_
        refine zz_weak (L := [none, none, none]) ⟨Or.inr ⟨rfl, rfl⟩, Or.inr ⟨rfl, rfl⟩, Or.inr ⟨rfl, rfl⟩, trivial⟩ ?_
        have y1 := hx6 (by simp only [g_J_readSum_1, h8, h12, zk_t, zk_f, zb_t, zb_f])
        simpa only [g_J_readSum_1, h8, h12, zk_t, zk_f, zb_t, zb_f] using y1
  show zz_D (zm_J_readSum, d + 10, 46, [none, none, none], []) (zt_T L, zt_R, (zf_wh 1000 (g_J_readSum_1 M) 0 (w_L_addStep (w_J_readPart M) (v_J_readPart M))), J, e) = _
  refine (zz_end 1 (r := (.inl none, (zt_T L, zt_R, (zf_wh 1000 (g_J_readSum_1 M) 0 (w_L_addStep (w_J_readPart M) (v_J_readPart M))), J, e))) (fun _ => rfl)).trans ?_
  rfl
def v_N_feed (M : zMem) (x0 : Int32) (x1 : Int32) (x2 : Int32) (x3 : Int32) (x4 : Int32) : Int32 := (bif (decide (((v_T_size M) + (20 : Int32)) ≤ (400 : Int32))) then (v_T_size (w_T_put (w_T_put (w_T_put (w_T_put (w_T_put M x0) x1) x2) x3) x4)) else (-1 : Int32))
def w_N_feed (M : zMem) (x0 : Int32) (x1 : Int32) (x2 : Int32) (x3 : Int32) (x4 : Int32) : zMem := (bif (decide (((v_T_size M) + (20 : Int32)) ≤ (400 : Int32))) then (w_T_put (w_T_put (w_T_put (w_T_put (w_T_put M x0) x1) x2) x3) x4) else M)
def ok_N_feed (M : zMem) (x0 : Int32) (x1 : Int32) (x2 : Int32) (x3 : Int32) (x4 : Int32) : Prop := ((decide (((v_T_size M) + (20 : Int32)) ≤ (400 : Int32))) = true → (ok_T_put M x0 ∧ (ok_T_put (w_T_put M x0) x1 ∧ (ok_T_put (w_T_put (w_T_put M x0) x1) x2 ∧ (ok_T_put (w_T_put (w_T_put (w_T_put M x0) x1) x2) x3 ∧ ok_T_put (w_T_put (w_T_put (w_T_put (w_T_put M x0) x1) x2) x3) x4)))))
set_option maxRecDepth 20000 in
set_option maxHeartbeats 2000000 in
theorem s_N_feed (L e : Nat) (J : zJem) (d : Nat) (M : zMem) (x0 : Int32) (x1 : Int32) (x2 : Int32) (x3 : Int32) (x4 : Int32) (k0 : ok_N_feed M x0 x1 x2 x3 x4) : zz_D (zm_N_feed, d + 2, 0, [some (.ref 1), some (.int x0), some (.int x1), some (.int x2), some (.int x3), some (.int x4)], []) (zt_T L, zt_R, M, J, e) = some (.inl (some (.int (v_N_feed M x0 x1 x2 x3 x4))), (zt_T L, zt_R, (w_N_feed M x0 x1 x2 x3 x4), J, e)) := by
  unfold ok_N_feed at k0
  unfold v_N_feed w_N_feed
  refine (zz_go 1 (fr' := (zm_N_feed, d + 2, 1, [some (.ref 1), some (.int x0), some (.int x1), some (.int x2), some (.int x3), some (.int x4)], [.ref 1])) (h' := (zt_T L, zt_R, M, J, e)) (fun _ => rfl)).trans ?_
  refine zl_getR rfl rfl rfl ?_
  refine zl_vt (d := d + 1) rfl rfl rfl rfl rfl rfl rfl rfl rfl rfl (s_T_size L e J (d + 0) M) ?_
  show zz_D (zm_N_feed, d + 2, 7, [some (.ref 1), some (.int x0), some (.int x1), some (.int x2), some (.int x3), some (.int x4)], [.int (v_T_size M)]) (zt_T L, zt_R, M, J, e) = _
  refine (zz_go 3 (fr' := (zm_N_feed, d + 2, 13, [some (.ref 1), some (.int x0), some (.int x1), some (.int x2), some (.int x3), some (.int x4)], [.int (400 : Int32), .int ((v_T_size M) + (20 : Int32))])) (h' := (zt_T L, zt_R, M, J, e)) (fun _ => rfl)).trans ?_
  rcases zz_bc (decide (((v_T_size M) + (20 : Int32)) ≤ (400 : Int32))) with h1 | h1
  · refine zc_leT rfl h1 ?_
    have k2 := k0 h1
    refine (zz_go 1 (fr' := (zm_N_feed, d + 2, 19, [some (.ref 1), some (.int x0), some (.int x1), some (.int x2), some (.int x3), some (.int x4)], [.ref 1])) (h' := (zt_T L, zt_R, M, J, e)) (fun _ => rfl)).trans ?_
    refine zl_getR rfl rfl rfl ?_
    refine (zz_go 1 (fr' := (zm_N_feed, d + 2, 23, [some (.ref 1), some (.int x0), some (.int x1), some (.int x2), some (.int x3), some (.int x4)], [.int x0, .ref 2])) (h' := (zt_T L, zt_R, M, J, e)) (fun _ => rfl)).trans ?_
    obtain ⟨g3, k4⟩ := k2
    refine zl_vt (d := d + 1) rfl rfl rfl rfl rfl rfl rfl rfl rfl rfl (s_T_put L e J (d + 0) M x0 g3) ?_
    show zz_D (zm_N_feed, d + 2, 26, [some (.ref 1), some (.int x0), some (.int x1), some (.int x2), some (.int x3), some (.int x4)], []) (zt_T L, zt_R, (w_T_put M x0), J, e) = _
    refine (zz_go 1 (fr' := (zm_N_feed, d + 2, 27, [some (.ref 1), some (.int x0), some (.int x1), some (.int x2), some (.int x3), some (.int x4)], [.ref 1])) (h' := (zt_T L, zt_R, (w_T_put M x0), J, e)) (fun _ => rfl)).trans ?_
    refine zl_getR rfl rfl rfl ?_
    refine (zz_go 1 (fr' := (zm_N_feed, d + 2, 31, [some (.ref 1), some (.int x0), some (.int x1), some (.int x2), some (.int x3), some (.int x4)], [.int x1, .ref 2])) (h' := (zt_T L, zt_R, (w_T_put M x0), J, e)) (fun _ => rfl)).trans ?_
    obtain ⟨g5, k6⟩ := k4
    refine zl_vt (d := d + 1) rfl rfl rfl rfl rfl rfl rfl rfl rfl rfl (s_T_put L e J (d + 0) (w_T_put M x0) x1 g5) ?_
    show zz_D (zm_N_feed, d + 2, 34, [some (.ref 1), some (.int x0), some (.int x1), some (.int x2), some (.int x3), some (.int x4)], []) (zt_T L, zt_R, (w_T_put (w_T_put M x0) x1), J, e) = _
    refine (zz_go 1 (fr' := (zm_N_feed, d + 2, 35, [some (.ref 1), some (.int x0), some (.int x1), some (.int x2), some (.int x3), some (.int x4)], [.ref 1])) (h' := (zt_T L, zt_R, (w_T_put (w_T_put M x0) x1), J, e)) (fun _ => rfl)).trans ?_
    refine zl_getR rfl rfl rfl ?_
    refine (zz_go 1 (fr' := (zm_N_feed, d + 2, 39, [some (.ref 1), some (.int x0), some (.int x1), some (.int x2), some (.int x3), some (.int x4)], [.int x2, .ref 2])) (h' := (zt_T L, zt_R, (w_T_put (w_T_put M x0) x1), J, e)) (fun _ => rfl)).trans ?_
    obtain ⟨g7, k8⟩ := k6
    refine zl_vt (d := d + 1) rfl rfl rfl rfl rfl rfl rfl rfl rfl rfl (s_T_put L e J (d + 0) (w_T_put (w_T_put M x0) x1) x2 g7) ?_
    show zz_D (zm_N_feed, d + 2, 42, [some (.ref 1), some (.int x0), some (.int x1), some (.int x2), some (.int x3), some (.int x4)], []) (zt_T L, zt_R, (w_T_put (w_T_put (w_T_put M x0) x1) x2), J, e) = _
    refine (zz_go 1 (fr' := (zm_N_feed, d + 2, 43, [some (.ref 1), some (.int x0), some (.int x1), some (.int x2), some (.int x3), some (.int x4)], [.ref 1])) (h' := (zt_T L, zt_R, (w_T_put (w_T_put (w_T_put M x0) x1) x2), J, e)) (fun _ => rfl)).trans ?_
    refine zl_getR rfl rfl rfl ?_
    refine (zz_go 1 (fr' := (zm_N_feed, d + 2, 48, [some (.ref 1), some (.int x0), some (.int x1), some (.int x2), some (.int x3), some (.int x4)], [.int x3, .ref 2])) (h' := (zt_T L, zt_R, (w_T_put (w_T_put (w_T_put M x0) x1) x2), J, e)) (fun _ => rfl)).trans ?_
    obtain ⟨g9, k10⟩ := k8
    refine zl_vt (d := d + 1) rfl rfl rfl rfl rfl rfl rfl rfl rfl rfl (s_T_put L e J (d + 0) (w_T_put (w_T_put (w_T_put M x0) x1) x2) x3 g9) ?_
    show zz_D (zm_N_feed, d + 2, 51, [some (.ref 1), some (.int x0), some (.int x1), some (.int x2), some (.int x3), some (.int x4)], []) (zt_T L, zt_R, (w_T_put (w_T_put (w_T_put (w_T_put M x0) x1) x2) x3), J, e) = _
    refine (zz_go 1 (fr' := (zm_N_feed, d + 2, 52, [some (.ref 1), some (.int x0), some (.int x1), some (.int x2), some (.int x3), some (.int x4)], [.ref 1])) (h' := (zt_T L, zt_R, (w_T_put (w_T_put (w_T_put (w_T_put M x0) x1) x2) x3), J, e)) (fun _ => rfl)).trans ?_
    refine zl_getR rfl rfl rfl ?_
    refine (zz_go 1 (fr' := (zm_N_feed, d + 2, 57, [some (.ref 1), some (.int x0), some (.int x1), some (.int x2), some (.int x3), some (.int x4)], [.int x4, .ref 2])) (h' := (zt_T L, zt_R, (w_T_put (w_T_put (w_T_put (w_T_put M x0) x1) x2) x3), J, e)) (fun _ => rfl)).trans ?_
    have g11 : ok_T_put (w_T_put (w_T_put (w_T_put (w_T_put M x0) x1) x2) x3) x4 := k10
    refine zl_vt (d := d + 1) rfl rfl rfl rfl rfl rfl rfl rfl rfl rfl (s_T_put L e J (d + 0) (w_T_put (w_T_put (w_T_put (w_T_put M x0) x1) x2) x3) x4 g11) ?_
    show zz_D (zm_N_feed, d + 2, 60, [some (.ref 1), some (.int x0), some (.int x1), some (.int x2), some (.int x3), some (.int x4)], []) (zt_T L, zt_R, (w_T_put (w_T_put (w_T_put (w_T_put (w_T_put M x0) x1) x2) x3) x4), J, e) = _
    refine (zz_go 1 (fr' := (zm_N_feed, d + 2, 61, [some (.ref 1), some (.int x0), some (.int x1), some (.int x2), some (.int x3), some (.int x4)], [.ref 1])) (h' := (zt_T L, zt_R, (w_T_put (w_T_put (w_T_put (w_T_put (w_T_put M x0) x1) x2) x3) x4), J, e)) (fun _ => rfl)).trans ?_
    refine zl_getR rfl rfl rfl ?_
    refine zl_vt (d := d + 1) rfl rfl rfl rfl rfl rfl rfl rfl rfl rfl (s_T_size L e J (d + 0) (w_T_put (w_T_put (w_T_put (w_T_put (w_T_put M x0) x1) x2) x3) x4)) ?_
    show zz_D (zm_N_feed, d + 2, 67, [some (.ref 1), some (.int x0), some (.int x1), some (.int x2), some (.int x3), some (.int x4)], [.int (v_T_size (w_T_put (w_T_put (w_T_put (w_T_put (w_T_put M x0) x1) x2) x3) x4))]) (zt_T L, zt_R, (w_T_put (w_T_put (w_T_put (w_T_put (w_T_put M x0) x1) x2) x3) x4), J, e) = _
    refine zl_retI rfl rfl ?_
    first | (simp only [h1, zk_t, zk_f, zb_t, zb_f]; done) | (simp only [h1, zk_t, zk_f, zb_t, zb_f]; rfl) | rfl
  · refine zc_leF rfl h1 ?_
    refine (zz_go 1 (fr' := (zm_N_feed, d + 2, 17, [some (.ref 1), some (.int x0), some (.int x1), some (.int x2), some (.int x3), some (.int x4)], [.int (-1 : Int32)])) (h' := (zt_T L, zt_R, M, J, e)) (fun _ => rfl)).trans ?_
    refine zl_retI rfl rfl ?_
    first | (simp only [h1, zk_t, zk_f, zb_t, zb_f]; done) | (simp only [h1, zk_t, zk_f, zb_t, zb_f]; rfl) | rfl
def v_N_end (M : zMem) (x0 : Int32) : Bool := (bif (decide (x0 < 0)) then false else (decide (x0 ≤ (v_T_size M))))
def w_N_end (M : zMem) (x0 : Int32) : zMem := (bif (decide (x0 < 0)) then M else (bif (decide (x0 ≤ (v_T_size M))) then (w_T_cut M x0) else M))
set_option maxRecDepth 20000 in
set_option maxHeartbeats 2000000 in
theorem s_N_end (L e : Nat) (J : zJem) (d : Nat) (M : zMem) (x0 : Int32) : zz_D (zm_N_end, d + 3, 0, [some (.ref 1), some (.int x0)], []) (zt_T L, zt_R, M, J, e) = some (.inl (some (.int (zb (v_N_end M x0)))), (zt_T L, zt_R, (w_N_end M x0), J, e)) := by
  unfold v_N_end w_N_end
  refine (zz_go 1 (fr' := (zm_N_end, d + 3, 1, [some (.ref 1), some (.int x0)], [.int x0])) (h' := (zt_T L, zt_R, M, J, e)) (fun _ => rfl)).trans ?_
  rcases zz_bc (decide (x0 < 0)) with h1 | h1
  · refine zo_ltT rfl h1 ?_
    refine (zz_go 1 (fr' := (zm_N_end, d + 3, 16, [some (.ref 1), some (.int x0)], [.int (0 : Int32)])) (h' := (zt_T L, zt_R, M, J, e)) (fun _ => rfl)).trans ?_
    refine zl_retI rfl rfl ?_
    first | (simp only [h1, zk_t, zk_f, zb_t, zb_f]; done) | (simp only [h1, zk_t, zk_f, zb_t, zb_f]; rfl) | rfl
  · refine zo_ltF rfl h1 ?_
    refine (zz_go 2 (fr' := (zm_N_end, d + 3, 6, [some (.ref 1), some (.int x0)], [.ref 1, .int x0])) (h' := (zt_T L, zt_R, M, J, e)) (fun _ => rfl)).trans ?_
    refine zl_getR rfl rfl rfl ?_
    refine zl_vt (d := d + 2) rfl rfl rfl rfl rfl rfl rfl rfl rfl rfl (s_T_size L e J (d + 1) M) ?_
    show zz_D (zm_N_end, d + 3, 12, [some (.ref 1), some (.int x0)], [.int (v_T_size M), .int x0]) (zt_T L, zt_R, M, J, e) = _
    rcases zz_bc (decide (x0 ≤ (v_T_size M))) with h2 | h2
    · refine zc_leT rfl h2 ?_
      refine (zz_go 1 (fr' := (zm_N_end, d + 3, 18, [some (.ref 1), some (.int x0)], [.ref 1])) (h' := (zt_T L, zt_R, M, J, e)) (fun _ => rfl)).trans ?_
      refine zl_getR rfl rfl rfl ?_
      refine (zz_go 1 (fr' := (zm_N_end, d + 3, 22, [some (.ref 1), some (.int x0)], [.int x0, .ref 2])) (h' := (zt_T L, zt_R, M, J, e)) (fun _ => rfl)).trans ?_
      refine zl_vt (d := d + 2) rfl rfl rfl rfl rfl rfl rfl rfl rfl rfl (s_T_cut L e J (d + 0) M x0) ?_
      show zz_D (zm_N_end, d + 3, 25, [some (.ref 1), some (.int x0)], []) (zt_T L, zt_R, (w_T_cut M x0), J, e) = _
      refine (zz_go 1 (fr' := (zm_N_end, d + 3, 26, [some (.ref 1), some (.int x0)], [.int (1 : Int32)])) (h' := (zt_T L, zt_R, (w_T_cut M x0), J, e)) (fun _ => rfl)).trans ?_
      refine zl_retI rfl rfl ?_
      first | (simp only [h1, h2, zk_t, zk_f, zb_t, zb_f]; done) | (simp only [h1, h2, zk_t, zk_f, zb_t, zb_f]; rfl) | rfl
    · refine zc_leF rfl h2 ?_
      refine (zz_go 1 (fr' := (zm_N_end, d + 3, 16, [some (.ref 1), some (.int x0)], [.int (0 : Int32)])) (h' := (zt_T L, zt_R, M, J, e)) (fun _ => rfl)).trans ?_
      refine zl_retI rfl rfl ?_
      first | (simp only [h1, h2, zk_t, zk_f, zb_t, zb_f]; done) | (simp only [h1, h2, zk_t, zk_f, zb_t, zb_f]; rfl) | rfl
def v_N_shop (M : zMem) : Int32 := (bif (decide ((v_T_wrongByte (w_H_readAll (w_S_copyFrom (w_T_open M) 15 4))) = (-1 : Int32))) then (bif (decide (((w_H_readAll (w_S_copyFrom (w_T_open M) 15 4)) 4 15) < (12 : Int32))) then ((w_A_forget (w_S_copyFrom (zz_up (zy_l (w_H_readAll (w_S_copyFrom (w_T_open M) 15 4)) (fun N => (zz_up N 1 1 (v_T_wrongByte N)))) 15 15 (((w_H_readAll (w_S_copyFrom (w_T_open M) 15 4)) 15 15) + (1 : Int32))) 4 15)) 4 15) else 0) else 0)
def w_N_shop (M : zMem) : zMem := (bif (decide ((v_T_wrongByte (w_H_readAll (w_S_copyFrom (w_T_open M) 15 4))) = (-1 : Int32))) then (bif (decide (((w_H_readAll (w_S_copyFrom (w_T_open M) 15 4)) 4 15) < (12 : Int32))) then (w_A_forget (w_S_copyFrom (zz_up (zy_l (w_H_readAll (w_S_copyFrom (w_T_open M) 15 4)) (fun N => (zz_up N 1 1 (v_T_wrongByte N)))) 15 15 (((w_H_readAll (w_S_copyFrom (w_T_open M) 15 4)) 15 15) + (1 : Int32))) 4 15)) else (zy_l (w_H_readAll (w_S_copyFrom (w_T_open M) 15 4)) (fun N => (zz_up N 1 1 (v_T_wrongByte N))))) else (zy_l (w_H_readAll (w_S_copyFrom (w_T_open M) 15 4)) (fun N => (zz_up N 1 1 (v_T_wrongByte N)))))
def t_N_shop (M : zMem) : Nat := (bif (decide ((v_T_wrongByte (w_H_readAll (w_S_copyFrom (w_T_open M) 15 4))) = (-1 : Int32))) then (bif (decide (((w_H_readAll (w_S_copyFrom (w_T_open M) 15 4)) 4 15) < (12 : Int32))) then 0 else 2) else 1)
def ok_N_shop (M : zMem) : Prop := (ok_T_open M ∧ ok_H_readAll (w_S_copyFrom (w_T_open M) 15 4))
set_option maxRecDepth 20000 in
set_option maxHeartbeats 2000000 in
theorem s_N_shop (L e : Nat) (J : zJem) (d : Nat) (M : zMem) (k0 : ok_N_shop M) : zz_D (zm_N_shop, d + 13, 0, [some (.ref 1)], []) (zt_T L, zt_R, M, J, e) = some (zx_o (t_N_shop M) (some (.int (v_N_shop M))), (zt_T L, zt_R, (w_N_shop M), J, zx_e (t_N_shop M) e)) := by
  unfold ok_N_shop at k0
  unfold v_N_shop w_N_shop t_N_shop
  refine (zz_go 1 (fr' := (zm_N_shop, d + 13, 1, [some (.ref 1)], [.ref 1])) (h' := (zt_T L, zt_R, M, J, e)) (fun _ => rfl)).trans ?_
  refine zl_getR rfl rfl rfl ?_
  obtain ⟨g1, k2⟩ := k0
  refine zl_vt (d := d + 12) rfl rfl rfl rfl rfl rfl rfl rfl rfl rfl (s_T_open L e J (d + 10) M g1) ?_
  show zz_D (zm_N_shop, d + 13, 7, [some (.ref 1)], []) (zt_T L, zt_R, (w_T_open M), J, e) = _
  refine (zz_go 1 (fr' := (zm_N_shop, d + 13, 8, [some (.ref 1)], [.ref 1])) (h' := (zt_T L, zt_R, (w_T_open M), J, e)) (fun _ => rfl)).trans ?_
  refine zl_getR rfl rfl rfl ?_
  refine (zz_go 1 (fr' := (zm_N_shop, d + 13, 12, [some (.ref 1)], [.ref 1, .ref 15])) (h' := (zt_T L, zt_R, (w_T_open M), J, e)) (fun _ => rfl)).trans ?_
  refine zl_getR rfl rfl rfl ?_
  refine zl_vt (d := d + 12) rfl rfl rfl rfl rfl rfl rfl rfl rfl rfl (s_S_copyFrom L e J (d + 4) (w_T_open M) 15 4 zt_St_15 zt_St_4) ?_
  show zz_D (zm_N_shop, d + 13, 18, [some (.ref 1)], []) (zt_T L, zt_R, (w_S_copyFrom (w_T_open M) 15 4), J, e) = _
  refine (zz_go 1 (fr' := (zm_N_shop, d + 13, 19, [some (.ref 1)], [.ref 1])) (h' := (zt_T L, zt_R, (w_S_copyFrom (w_T_open M) 15 4), J, e)) (fun _ => rfl)).trans ?_
  refine zl_getR rfl rfl rfl ?_
  refine (zz_go 1 (fr' := (zm_N_shop, d + 13, 23, [some (.ref 1)], [.ref 1, .ref 2])) (h' := (zt_T L, zt_R, (w_S_copyFrom (w_T_open M) 15 4), J, e)) (fun _ => rfl)).trans ?_
  refine zl_getR rfl rfl rfl ?_
  have g3 : ok_H_readAll (w_S_copyFrom (w_T_open M) 15 4) := k2
  refine zl_st (d := d + 12) rfl rfl rfl rfl rfl rfl rfl (s_H_readAll L e J (d + 0) (w_S_copyFrom (w_T_open M) 15 4) g3) ?_
  show zz_D (zm_N_shop, d + 13, 29, [some (.ref 1)], []) (zt_T L, zt_R, (w_H_readAll (w_S_copyFrom (w_T_open M) 15 4)), J, e) = _
  refine (zz_go 2 (fr' := (zm_N_shop, d + 13, 31, [some (.ref 1)], [.ref 1, .ref 1])) (h' := (zt_T L, zt_R, (w_H_readAll (w_S_copyFrom (w_T_open M) 15 4)), J, e)) (fun _ => rfl)).trans ?_
  refine zl_getR rfl rfl rfl ?_
  refine zl_vt (d := d + 12) rfl rfl rfl rfl rfl rfl rfl rfl rfl rfl (s_T_wrongByte L e J (d + 11) (w_H_readAll (w_S_copyFrom (w_T_open M) 15 4))) ?_
  show zz_D (zm_N_shop, d + 13, 37, [some (.ref 1)], [.int (v_T_wrongByte (w_H_readAll (w_S_copyFrom (w_T_open M) 15 4))), .ref 1]) (zt_T L, zt_R, (w_H_readAll (w_S_copyFrom (w_T_open M) 15 4)), J, e) = _
  refine zl_putI rfl rfl rfl rfl ?_
  refine (zz_go 1 (fr' := (zm_N_shop, d + 13, 41, [some (.ref 1)], [.ref 1])) (h' := (zt_T L, zt_R, (zy_l (w_H_readAll (w_S_copyFrom (w_T_open M) 15 4)) (fun N => (zz_up N 1 1 (v_T_wrongByte N)))), J, e)) (fun _ => rfl)).trans ?_
  refine zl_getI rfl (by decide) rfl zu_eq ?_
  refine (zz_go 1 (fr' := (zm_N_shop, d + 13, 45, [some (.ref 1)], [.int (-1 : Int32), .int (v_T_wrongByte (w_H_readAll (w_S_copyFrom (w_T_open M) 15 4)))])) (h' := (zt_T L, zt_R, (zy_l (w_H_readAll (w_S_copyFrom (w_T_open M) 15 4)) (fun N => (zz_up N 1 1 (v_T_wrongByte N)))), J, e)) (fun _ => rfl)).trans ?_
  rcases zz_bc (decide ((v_T_wrongByte (w_H_readAll (w_S_copyFrom (w_T_open M) 15 4))) = (-1 : Int32))) with h4 | h4
  · refine zc_eqT rfl h4 ?_
    refine (zz_go 1 (fr' := (zm_N_shop, d + 13, 59, [some (.ref 1)], [.ref 1])) (h' := (zt_T L, zt_R, (zy_l (w_H_readAll (w_S_copyFrom (w_T_open M) 15 4)) (fun N => (zz_up N 1 1 (v_T_wrongByte N)))), J, e)) (fun _ => rfl)).trans ?_
    refine zl_getR rfl rfl rfl ?_
    refine zl_getI rfl (by decide) rfl ((zu_ne (rfl)).trans rfl) ?_
    refine (zz_go 1 (fr' := (zm_N_shop, d + 13, 67, [some (.ref 1)], [.int (12 : Int32), .int ((w_H_readAll (w_S_copyFrom (w_T_open M) 15 4)) 4 15)])) (h' := (zt_T L, zt_R, (zy_l (w_H_readAll (w_S_copyFrom (w_T_open M) 15 4)) (fun N => (zz_up N 1 1 (v_T_wrongByte N)))), J, e)) (fun _ => rfl)).trans ?_
    rcases zz_bc (decide (((w_H_readAll (w_S_copyFrom (w_T_open M) 15 4)) 4 15) < (12 : Int32))) with h5 | h5
    · refine zc_ltT rfl h5 ?_
      refine (zz_go 1 (fr' := (zm_N_shop, d + 13, 81, [some (.ref 1)], [.ref 1])) (h' := (zt_T L, zt_R, (zy_l (w_H_readAll (w_S_copyFrom (w_T_open M) 15 4)) (fun N => (zz_up N 1 1 (v_T_wrongByte N)))), J, e)) (fun _ => rfl)).trans ?_
      refine zl_getR rfl rfl rfl ?_
      refine (zz_go 1 (fr' := (zm_N_shop, d + 13, 85, [some (.ref 1)], [.ref 15, .ref 15])) (h' := (zt_T L, zt_R, (zy_l (w_H_readAll (w_S_copyFrom (w_T_open M) 15 4)) (fun N => (zz_up N 1 1 (v_T_wrongByte N)))), J, e)) (fun _ => rfl)).trans ?_
      refine zl_getI rfl (by decide) rfl ((zu_ne (rfl)).trans rfl) ?_
      refine (zz_go 2 (fr' := (zm_N_shop, d + 13, 90, [some (.ref 1)], [.int (((w_H_readAll (w_S_copyFrom (w_T_open M) 15 4)) 15 15) + (1 : Int32)), .ref 15])) (h' := (zt_T L, zt_R, (zy_l (w_H_readAll (w_S_copyFrom (w_T_open M) 15 4)) (fun N => (zz_up N 1 1 (v_T_wrongByte N)))), J, e)) (fun _ => rfl)).trans ?_
      refine zl_putI rfl rfl rfl rfl ?_
      refine (zz_go 1 (fr' := (zm_N_shop, d + 13, 94, [some (.ref 1)], [.ref 1])) (h' := (zt_T L, zt_R, (zz_up (zy_l (w_H_readAll (w_S_copyFrom (w_T_open M) 15 4)) (fun N => (zz_up N 1 1 (v_T_wrongByte N)))) 15 15 (((w_H_readAll (w_S_copyFrom (w_T_open M) 15 4)) 15 15) + (1 : Int32))), J, e)) (fun _ => rfl)).trans ?_
      refine zl_getR rfl rfl rfl ?_
      refine (zz_go 1 (fr' := (zm_N_shop, d + 13, 98, [some (.ref 1)], [.ref 1, .ref 4])) (h' := (zt_T L, zt_R, (zz_up (zy_l (w_H_readAll (w_S_copyFrom (w_T_open M) 15 4)) (fun N => (zz_up N 1 1 (v_T_wrongByte N)))) 15 15 (((w_H_readAll (w_S_copyFrom (w_T_open M) 15 4)) 15 15) + (1 : Int32))), J, e)) (fun _ => rfl)).trans ?_
      refine zl_getR rfl rfl rfl ?_
      refine zl_vt (d := d + 12) rfl rfl rfl rfl rfl rfl rfl rfl rfl rfl (s_S_copyFrom L e J (d + 4) (zz_up (zy_l (w_H_readAll (w_S_copyFrom (w_T_open M) 15 4)) (fun N => (zz_up N 1 1 (v_T_wrongByte N)))) 15 15 (((w_H_readAll (w_S_copyFrom (w_T_open M) 15 4)) 15 15) + (1 : Int32))) 4 15 zt_St_4 zt_St_15) ?_
      show zz_D (zm_N_shop, d + 13, 104, [some (.ref 1)], []) (zt_T L, zt_R, (w_S_copyFrom (zz_up (zy_l (w_H_readAll (w_S_copyFrom (w_T_open M) 15 4)) (fun N => (zz_up N 1 1 (v_T_wrongByte N)))) 15 15 (((w_H_readAll (w_S_copyFrom (w_T_open M) 15 4)) 15 15) + (1 : Int32))) 4 15), J, e) = _
      refine (zz_go 1 (fr' := (zm_N_shop, d + 13, 105, [some (.ref 1)], [.ref 1])) (h' := (zt_T L, zt_R, (w_S_copyFrom (zz_up (zy_l (w_H_readAll (w_S_copyFrom (w_T_open M) 15 4)) (fun N => (zz_up N 1 1 (v_T_wrongByte N)))) 15 15 (((w_H_readAll (w_S_copyFrom (w_T_open M) 15 4)) 15 15) + (1 : Int32))) 4 15), J, e)) (fun _ => rfl)).trans ?_
      refine zl_getR rfl rfl rfl ?_
      refine zl_vt (d := d + 12) rfl rfl rfl rfl rfl rfl rfl rfl rfl rfl (s_A_forget L e J (d + 11) (w_S_copyFrom (zz_up (zy_l (w_H_readAll (w_S_copyFrom (w_T_open M) 15 4)) (fun N => (zz_up N 1 1 (v_T_wrongByte N)))) 15 15 (((w_H_readAll (w_S_copyFrom (w_T_open M) 15 4)) 15 15) + (1 : Int32))) 4 15)) ?_
      show zz_D (zm_N_shop, d + 13, 111, [some (.ref 1)], []) (zt_T L, zt_R, (w_A_forget (w_S_copyFrom (zz_up (zy_l (w_H_readAll (w_S_copyFrom (w_T_open M) 15 4)) (fun N => (zz_up N 1 1 (v_T_wrongByte N)))) 15 15 (((w_H_readAll (w_S_copyFrom (w_T_open M) 15 4)) 15 15) + (1 : Int32))) 4 15)), J, e) = _
      refine (zz_go 1 (fr' := (zm_N_shop, d + 13, 112, [some (.ref 1)], [.ref 1])) (h' := (zt_T L, zt_R, (w_A_forget (w_S_copyFrom (zz_up (zy_l (w_H_readAll (w_S_copyFrom (w_T_open M) 15 4)) (fun N => (zz_up N 1 1 (v_T_wrongByte N)))) 15 15 (((w_H_readAll (w_S_copyFrom (w_T_open M) 15 4)) 15 15) + (1 : Int32))) 4 15)), J, e)) (fun _ => rfl)).trans ?_
      refine zl_getR rfl rfl rfl ?_
      refine zl_getI rfl (by decide) rfl rfl ?_
      refine zl_retI rfl rfl ?_
      first | (simp only [h4, h5, zk_t, zk_f, zb_t, zb_f]; done) | (simp only [h4, h5, zk_t, zk_f, zb_t, zb_f]; rfl) | rfl
    · refine zc_ltF rfl h5 ?_
      refine zl_throw rfl rfl rfl ?_
      first | (simp only [h4, h5, zk_t, zk_f, zb_t, zb_f]; done) | (simp only [h4, h5, zk_t, zk_f, zb_t, zb_f]; rfl) | rfl
  · refine zc_eqF rfl h4 ?_
    refine zl_throw rfl rfl rfl ?_
    first | (simp only [h4, zk_t, zk_f, zb_t, zb_f]; done) | (simp only [h4, zk_t, zk_f, zb_t, zb_f]; rfl) | rfl
def v_N_fault (M : zMem) : Int32 := (M 1 1)
set_option maxRecDepth 20000 in
set_option maxHeartbeats 2000000 in
theorem s_N_fault (L e : Nat) (J : zJem) (d : Nat) (M : zMem) : zz_D (zm_N_fault, d + 1, 0, [some (.ref 1)], []) (zt_T L, zt_R, M, J, e) = some (.inl (some (.int (v_N_fault M))), (zt_T L, zt_R, M, J, e)) := by
  unfold v_N_fault
  refine (zz_go 1 (fr' := (zm_N_fault, d + 1, 1, [some (.ref 1)], [.ref 1])) (h' := (zt_T L, zt_R, M, J, e)) (fun _ => rfl)).trans ?_
  refine zl_getI rfl (by decide) rfl rfl ?_
  refine zl_retI rfl rfl ?_
  rfl
def t_N_needKind (x0 : Int32) : Nat := (bif (decide (x0 < 0)) then 3 else (bif (decide (x0 < (8 : Int32))) then 0 else 3))
set_option maxRecDepth 20000 in
set_option maxHeartbeats 2000000 in
theorem s_N_needKind (L e : Nat) (J : zJem) (d : Nat) {M : zMem} (x0 : Int32) : zz_D (zm_N_needKind, d + 8, 0, [some (.int x0)], []) (zt_T L, zt_R, M, J, e) = some (zx_o (t_N_needKind x0) (none), (zt_T L, zt_R, M, J, zx_e (t_N_needKind x0) e)) := by
  unfold t_N_needKind
  refine (zz_go 1 (fr' := (zm_N_needKind, d + 8, 1, [some (.int x0)], [.int x0])) (h' := (zt_T L, zt_R, M, J, e)) (fun _ => rfl)).trans ?_
  rcases zz_bc (decide (x0 < 0)) with h1 | h1
  · refine zo_ltT rfl h1 ?_
    refine zl_throw rfl rfl rfl ?_
    first | (simp only [h1, zk_t, zk_f, zb_t, zb_f]; done) | (simp only [h1, zk_t, zk_f, zb_t, zb_f]; rfl) | rfl
  · refine zo_ltF rfl h1 ?_
    refine (zz_go 2 (fr' := (zm_N_needKind, d + 8, 7, [some (.int x0)], [.int (8 : Int32), .int x0])) (h' := (zt_T L, zt_R, M, J, e)) (fun _ => rfl)).trans ?_
    rcases zz_bc (decide (x0 < (8 : Int32))) with h2 | h2
    · refine zc_ltT rfl h2 ?_
      refine (zz_end 1 (r := (.inl none, (zt_T L, zt_R, M, J, e))) (fun _ => rfl)).trans ?_
      first | (simp only [h1, h2, zk_t, zk_f, zb_t, zb_f]; done) | (simp only [h1, h2, zk_t, zk_f, zb_t, zb_f]; rfl) | rfl
    · refine zc_ltF rfl h2 ?_
      refine zl_throw rfl rfl rfl ?_
      first | (simp only [h1, h2, zk_t, zk_f, zb_t, zb_f]; done) | (simp only [h1, h2, zk_t, zk_f, zb_t, zb_f]; rfl) | rfl
def v_N_kind (M : zMem) (x0 : Int32) (x1 : Int32) : Int32 := (bif Nat.beq (t_N_needKind x0) 0 then (bif (decide (x1 = (0 : Int32))) then (M 5 (x0).toNatClampNeg) else (bif (decide (x1 = (1 : Int32))) then (M 6 (x0).toNatClampNeg) else (bif (decide (x1 = (2 : Int32))) then (M 7 (x0).toNatClampNeg) else (bif (decide (x1 = (3 : Int32))) then (v_G_fewestPlaces M x0) else (bif (decide (x1 = (4 : Int32))) then (v_S_kindsLike M 4 x0 (65535 : Int32)) else (bif (decide (x1 = (5 : Int32))) then (v_F_pieces (M 5 (x0).toNatClampNeg)) else (bif (decide (x1 = (6 : Int32))) then (v_F_largestPiece (M 5 (x0).toNatClampNeg)) else (bif (decide (x1 = (7 : Int32))) then (v_F_holes (M 5 (x0).toNatClampNeg)) else (bif (decide (x1 = (8 : Int32))) then (v_E_depth M x0) else (bif (decide (x1 = (9 : Int32))) then (v_E_allWithin M x0) else (bif (decide (x1 = (10 : Int32))) then (v_S_bearers M 4 x0) else 0))))))))))) else 0)
def w_N_kind (M : zMem) (x0 : Int32) (x1 : Int32) : zMem := (bif Nat.beq (t_N_needKind x0) 0 then (bif (decide (x1 = (0 : Int32))) then M else (bif (decide (x1 = (1 : Int32))) then M else (bif (decide (x1 = (2 : Int32))) then M else (bif (decide (x1 = (3 : Int32))) then (w_G_fewestPlaces M x0) else M)))) else M)
def t_N_kind (M : zMem) (x0 : Int32) (x1 : Int32) : Nat := (bif Nat.beq (t_N_needKind x0) 0 then (bif (decide (x1 = (0 : Int32))) then 0 else (bif (decide (x1 = (1 : Int32))) then 0 else (bif (decide (x1 = (2 : Int32))) then 0 else (bif (decide (x1 = (3 : Int32))) then 0 else (bif (decide (x1 = (4 : Int32))) then 0 else (bif (decide (x1 = (5 : Int32))) then 0 else (bif (decide (x1 = (6 : Int32))) then 0 else (bif (decide (x1 = (7 : Int32))) then 0 else (bif (decide (x1 = (8 : Int32))) then 0 else (bif (decide (x1 = (9 : Int32))) then 0 else (bif (decide (x1 = (10 : Int32))) then 0 else 4))))))))))) else (t_N_needKind x0))
def ok_N_kind (M : zMem) (x0 : Int32) (x1 : Int32) : Prop := (Nat.beq (t_N_needKind x0) 0 = true → (zz_in x0 8 = true ∧ ((decide (x1 = (0 : Int32))) = false → ((decide (x1 = (1 : Int32))) = false → ((decide (x1 = (2 : Int32))) = false → (((decide (x1 = (3 : Int32))) = true → ok_G_fewestPlaces M x0) ∧ ((decide (x1 = (3 : Int32))) = false → (((decide (x1 = (4 : Int32))) = true → ok_S_kindsLike M 4 x0 (65535 : Int32)) ∧ ((decide (x1 = (4 : Int32))) = false → (((decide (x1 = (5 : Int32))) = true → ok_F_pieces (M 5 (x0).toNatClampNeg)) ∧ ((decide (x1 = (5 : Int32))) = false → (((decide (x1 = (6 : Int32))) = true → ok_F_largestPiece (M 5 (x0).toNatClampNeg)) ∧ ((decide (x1 = (6 : Int32))) = false → ((decide (x1 = (7 : Int32))) = false → (((decide (x1 = (8 : Int32))) = true → ok_E_depth M x0) ∧ ((decide (x1 = (8 : Int32))) = false → (((decide (x1 = (9 : Int32))) = true → ok_E_allWithin M x0) ∧ ((decide (x1 = (9 : Int32))) = false → ((decide (x1 = (10 : Int32))) = true → ok_S_bearers M 4 x0)))))))))))))))))))
set_option maxRecDepth 20000 in
set_option maxHeartbeats 2000000 in
theorem s_N_kind (L e : Nat) (J : zJem) (d : Nat) (M : zMem) (x0 : Int32) (x1 : Int32) (k0 : ok_N_kind M x0 x1) : zz_D (zm_N_kind, d + 9, 0, [some (.ref 1), some (.int x0), some (.int x1), none], []) (zt_T L, zt_R, M, J, e) = some (zx_o (t_N_kind M x0 x1) (some (.int (v_N_kind M x0 x1))), (zt_T L, zt_R, (w_N_kind M x0 x1), J, zx_e (t_N_kind M x0 x1) e)) := by
  unfold ok_N_kind at k0
  unfold v_N_kind w_N_kind t_N_kind
  refine (zz_go 1 (fr' := (zm_N_kind, d + 9, 1, [some (.ref 1), some (.int x0), some (.int x1), none], [.int x0])) (h' := (zt_T L, zt_R, M, J, e)) (fun _ => rfl)).trans ?_
  refine zl_st (d := d + 8) rfl rfl rfl rfl rfl rfl rfl (s_N_needKind L e J (d + 0) x0) ?_
  refine zl_aftV rfl (fun h1 => ?_) (fun h1 => ?_)
  rotate_left 1
  · skip
    rw [zx_oe h1 (some (.int 0))]
    first | (simp only [h1, zk_t, zk_f, zb_t, zb_f]; done) | (simp only [h1, zk_t, zk_f, zb_t, zb_f]; rfl) | rfl
  have k2 := k0 h1
  show zz_D (zm_N_kind, d + 9, 4, [some (.ref 1), some (.int x0), some (.int x1), none], []) (zt_T L, zt_R, M, J, e) = _
  refine (zz_go 1 (fr' := (zm_N_kind, d + 9, 5, [some (.ref 1), some (.int x0), some (.int x1), none], [.ref 1])) (h' := (zt_T L, zt_R, M, J, e)) (fun _ => rfl)).trans ?_
  refine zl_getR rfl rfl rfl ?_
  refine zl_getR rfl rfl rfl ?_
  refine (zz_go 1 (fr' := (zm_N_kind, d + 9, 12, [some (.ref 1), some (.int x0), some (.int x1), none], [.int x0, .ref 5])) (h' := (zt_T L, zt_R, M, J, e)) (fun _ => rfl)).trans ?_
  obtain ⟨g3, k4⟩ := k2
  refine zl_iaload rfl rfl g3 rfl ?_
  refine (zz_go 2 (fr' := (zm_N_kind, d + 9, 15, [some (.ref 1), some (.int x0), some (.int x1), some (.int (M 5 (x0).toNatClampNeg))], [.int x1])) (h' := (zt_T L, zt_R, M, J, e)) (fun _ => rfl)).trans ?_
  rcases zz_bc (decide (x1 = (0 : Int32))) with h5 | h5
  · refine zl_swc (A := (zm_N_kind, d + 9, 72, [some (.ref 1), some (.int x0), some (.int x1), some (.int (M 5 (x0).toNatClampNeg))], [])) h5 (fun _ => rfl) ?_
    refine (zz_go 1 (fr' := (zm_N_kind, d + 9, 73, [some (.ref 1), some (.int x0), some (.int x1), some (.int (M 5 (x0).toNatClampNeg))], [.int (M 5 (x0).toNatClampNeg)])) (h' := (zt_T L, zt_R, M, J, e)) (fun _ => rfl)).trans ?_
    refine zl_retI rfl rfl ?_
    first | (simp only [h1, h5, zk_t, zk_f, zb_t, zb_f]; done) | (simp only [h1, h5, zk_t, zk_f, zb_t, zb_f]; rfl) | rfl
  · have k6 := k4 h5
    rcases zz_bc (decide (x1 = (1 : Int32))) with h7 | h7
    · refine zl_swc (A := (zm_N_kind, d + 9, 74, [some (.ref 1), some (.int x0), some (.int x1), some (.int (M 5 (x0).toNatClampNeg))], [])) h7 (fun _ => rfl) ?_
      refine (zz_go 1 (fr' := (zm_N_kind, d + 9, 75, [some (.ref 1), some (.int x0), some (.int x1), some (.int (M 5 (x0).toNatClampNeg))], [.ref 1])) (h' := (zt_T L, zt_R, M, J, e)) (fun _ => rfl)).trans ?_
      refine zl_getR rfl rfl rfl ?_
      refine zl_getR rfl rfl rfl ?_
      refine (zz_go 1 (fr' := (zm_N_kind, d + 9, 82, [some (.ref 1), some (.int x0), some (.int x1), some (.int (M 5 (x0).toNatClampNeg))], [.int x0, .ref 6])) (h' := (zt_T L, zt_R, M, J, e)) (fun _ => rfl)).trans ?_
      refine zl_iaload rfl rfl g3 rfl ?_
      refine zl_retI rfl rfl ?_
      first | (simp only [h1, h5, h7, zk_t, zk_f, zb_t, zb_f]; done) | (simp only [h1, h5, h7, zk_t, zk_f, zb_t, zb_f]; rfl) | rfl
    · have k8 := k6 h7
      rcases zz_bc (decide (x1 = (2 : Int32))) with h9 | h9
      · refine zl_swc (A := (zm_N_kind, d + 9, 84, [some (.ref 1), some (.int x0), some (.int x1), some (.int (M 5 (x0).toNatClampNeg))], [])) h9 (fun _ => rfl) ?_
        refine (zz_go 1 (fr' := (zm_N_kind, d + 9, 85, [some (.ref 1), some (.int x0), some (.int x1), some (.int (M 5 (x0).toNatClampNeg))], [.ref 1])) (h' := (zt_T L, zt_R, M, J, e)) (fun _ => rfl)).trans ?_
        refine zl_getR rfl rfl rfl ?_
        refine zl_getR rfl rfl rfl ?_
        refine (zz_go 1 (fr' := (zm_N_kind, d + 9, 92, [some (.ref 1), some (.int x0), some (.int x1), some (.int (M 5 (x0).toNatClampNeg))], [.int x0, .ref 7])) (h' := (zt_T L, zt_R, M, J, e)) (fun _ => rfl)).trans ?_
        refine zl_iaload rfl rfl g3 rfl ?_
        refine zl_retI rfl rfl ?_
        first | (simp only [h1, h5, h7, h9, zk_t, zk_f, zb_t, zb_f]; done) | (simp only [h1, h5, h7, h9, zk_t, zk_f, zb_t, zb_f]; rfl) | rfl
      · have k10 := k8 h9
        obtain ⟨k12, k13⟩ := k10
        rcases zz_bc (decide (x1 = (3 : Int32))) with h11 | h11
        · refine zl_swc (A := (zm_N_kind, d + 9, 94, [some (.ref 1), some (.int x0), some (.int x1), some (.int (M 5 (x0).toNatClampNeg))], [])) h11 (fun _ => rfl) ?_
          have k14 := k12 h11
          refine (zz_go 1 (fr' := (zm_N_kind, d + 9, 95, [some (.ref 1), some (.int x0), some (.int x1), some (.int (M 5 (x0).toNatClampNeg))], [.ref 1])) (h' := (zt_T L, zt_R, M, J, e)) (fun _ => rfl)).trans ?_
          refine zl_getR rfl rfl rfl ?_
          refine (zz_go 1 (fr' := (zm_N_kind, d + 9, 99, [some (.ref 1), some (.int x0), some (.int x1), some (.int (M 5 (x0).toNatClampNeg))], [.ref 1, .ref 192])) (h' := (zt_T L, zt_R, M, J, e)) (fun _ => rfl)).trans ?_
          refine zl_getR rfl rfl rfl ?_
          refine (zz_go 1 (fr' := (zm_N_kind, d + 9, 103, [some (.ref 1), some (.int x0), some (.int x1), some (.int (M 5 (x0).toNatClampNeg))], [.int x0, .ref 4, .ref 192])) (h' := (zt_T L, zt_R, M, J, e)) (fun _ => rfl)).trans ?_
          have g15 : ok_G_fewestPlaces M x0 := k14
          refine zl_vt (d := d + 8) rfl rfl rfl rfl rfl rfl rfl rfl rfl rfl (s_G_fewestPlaces L e J (d + 6) M x0 g15) ?_
          show zz_D (zm_N_kind, d + 9, 106, [some (.ref 1), some (.int x0), some (.int x1), some (.int (M 5 (x0).toNatClampNeg))], [.int (v_G_fewestPlaces M x0)]) (zt_T L, zt_R, (w_G_fewestPlaces M x0), J, e) = _
          refine zl_retI rfl rfl ?_
          first | (simp only [h1, h5, h7, h9, h11, zk_t, zk_f, zb_t, zb_f]; done) | (simp only [h1, h5, h7, h9, h11, zk_t, zk_f, zb_t, zb_f]; rfl) | rfl
        · have k16 := k13 h11
          obtain ⟨k18, k19⟩ := k16
          rcases zz_bc (decide (x1 = (4 : Int32))) with h17 | h17
          · refine zl_swc (A := (zm_N_kind, d + 9, 107, [some (.ref 1), some (.int x0), some (.int x1), some (.int (M 5 (x0).toNatClampNeg))], [])) h17 (fun _ => rfl) ?_
            have k20 := k18 h17
            refine (zz_go 1 (fr' := (zm_N_kind, d + 9, 108, [some (.ref 1), some (.int x0), some (.int x1), some (.int (M 5 (x0).toNatClampNeg))], [.ref 1])) (h' := (zt_T L, zt_R, M, J, e)) (fun _ => rfl)).trans ?_
            refine zl_getR rfl rfl rfl ?_
            refine (zz_go 2 (fr' := (zm_N_kind, d + 9, 114, [some (.ref 1), some (.int x0), some (.int x1), some (.int (M 5 (x0).toNatClampNeg))], [.int (65535 : Int32), .int x0, .ref 4])) (h' := (zt_T L, zt_R, M, J, e)) (fun _ => rfl)).trans ?_
            have g21 : ok_S_kindsLike M 4 x0 (65535 : Int32) := k20
            refine zl_vt (d := d + 8) rfl rfl rfl rfl rfl rfl rfl rfl rfl rfl (s_S_kindsLike L e J (d + 7) M 4 x0 (65535 : Int32) zt_St_4 g21) ?_
            show zz_D (zm_N_kind, d + 9, 117, [some (.ref 1), some (.int x0), some (.int x1), some (.int (M 5 (x0).toNatClampNeg))], [.int (v_S_kindsLike M 4 x0 (65535 : Int32))]) (zt_T L, zt_R, M, J, e) = _
            refine zl_retI rfl rfl ?_
            first | (simp only [h1, h5, h7, h9, h11, h17, zk_t, zk_f, zb_t, zb_f]; done) | (simp only [h1, h5, h7, h9, h11, h17, zk_t, zk_f, zb_t, zb_f]; rfl) | rfl
          · have k22 := k19 h17
            obtain ⟨k24, k25⟩ := k22
            rcases zz_bc (decide (x1 = (5 : Int32))) with h23 | h23
            · refine zl_swc (A := (zm_N_kind, d + 9, 118, [some (.ref 1), some (.int x0), some (.int x1), some (.int (M 5 (x0).toNatClampNeg))], [])) h23 (fun _ => rfl) ?_
              have k26 := k24 h23
              refine (zz_go 1 (fr' := (zm_N_kind, d + 9, 119, [some (.ref 1), some (.int x0), some (.int x1), some (.int (M 5 (x0).toNatClampNeg))], [.int (M 5 (x0).toNatClampNeg)])) (h' := (zt_T L, zt_R, M, J, e)) (fun _ => rfl)).trans ?_
              have g27 : ok_F_pieces (M 5 (x0).toNatClampNeg) := k26
              refine zl_st (d := d + 8) rfl rfl rfl rfl rfl rfl rfl (s_F_pieces L e J (d + 5) (M 5 (x0).toNatClampNeg) g27) ?_
              show zz_D (zm_N_kind, d + 9, 122, [some (.ref 1), some (.int x0), some (.int x1), some (.int (M 5 (x0).toNatClampNeg))], [.int (v_F_pieces (M 5 (x0).toNatClampNeg))]) (zt_T L, zt_R, M, J, e) = _
              refine zl_retI rfl rfl ?_
              first | (simp only [h1, h5, h7, h9, h11, h17, h23, zk_t, zk_f, zb_t, zb_f]; done) | (simp only [h1, h5, h7, h9, h11, h17, h23, zk_t, zk_f, zb_t, zb_f]; rfl) | rfl
            · have k28 := k25 h23
              obtain ⟨k30, k31⟩ := k28
              rcases zz_bc (decide (x1 = (6 : Int32))) with h29 | h29
              · refine zl_swc (A := (zm_N_kind, d + 9, 123, [some (.ref 1), some (.int x0), some (.int x1), some (.int (M 5 (x0).toNatClampNeg))], [])) h29 (fun _ => rfl) ?_
                have k32 := k30 h29
                refine (zz_go 1 (fr' := (zm_N_kind, d + 9, 124, [some (.ref 1), some (.int x0), some (.int x1), some (.int (M 5 (x0).toNatClampNeg))], [.int (M 5 (x0).toNatClampNeg)])) (h' := (zt_T L, zt_R, M, J, e)) (fun _ => rfl)).trans ?_
                have g33 : ok_F_largestPiece (M 5 (x0).toNatClampNeg) := k32
                refine zl_st (d := d + 8) rfl rfl rfl rfl rfl rfl rfl (s_F_largestPiece L e J (d + 5) (M 5 (x0).toNatClampNeg) g33) ?_
                show zz_D (zm_N_kind, d + 9, 127, [some (.ref 1), some (.int x0), some (.int x1), some (.int (M 5 (x0).toNatClampNeg))], [.int (v_F_largestPiece (M 5 (x0).toNatClampNeg))]) (zt_T L, zt_R, M, J, e) = _
                refine zl_retI rfl rfl ?_
                first | (simp only [h1, h5, h7, h9, h11, h17, h23, h29, zk_t, zk_f, zb_t, zb_f]; done) | (simp only [h1, h5, h7, h9, h11, h17, h23, h29, zk_t, zk_f, zb_t, zb_f]; rfl) | rfl
              · have k34 := k31 h29
                rcases zz_bc (decide (x1 = (7 : Int32))) with h35 | h35
                · refine zl_swc (A := (zm_N_kind, d + 9, 128, [some (.ref 1), some (.int x0), some (.int x1), some (.int (M 5 (x0).toNatClampNeg))], [])) h35 (fun _ => rfl) ?_
                  refine (zz_go 1 (fr' := (zm_N_kind, d + 9, 129, [some (.ref 1), some (.int x0), some (.int x1), some (.int (M 5 (x0).toNatClampNeg))], [.int (M 5 (x0).toNatClampNeg)])) (h' := (zt_T L, zt_R, M, J, e)) (fun _ => rfl)).trans ?_
                  refine zl_st (d := d + 8) rfl rfl rfl rfl rfl rfl rfl (s_F_holes L e J (d + 5) (M 5 (x0).toNatClampNeg)) ?_
                  show zz_D (zm_N_kind, d + 9, 132, [some (.ref 1), some (.int x0), some (.int x1), some (.int (M 5 (x0).toNatClampNeg))], [.int (v_F_holes (M 5 (x0).toNatClampNeg))]) (zt_T L, zt_R, M, J, e) = _
                  refine zl_retI rfl rfl ?_
                  first | (simp only [h1, h5, h7, h9, h11, h17, h23, h29, h35, zk_t, zk_f, zb_t, zb_f]; done) | (simp only [h1, h5, h7, h9, h11, h17, h23, h29, h35, zk_t, zk_f, zb_t, zb_f]; rfl) | rfl
                · have k36 := k34 h35
                  obtain ⟨k38, k39⟩ := k36
                  rcases zz_bc (decide (x1 = (8 : Int32))) with h37 | h37
                  · refine zl_swc (A := (zm_N_kind, d + 9, 133, [some (.ref 1), some (.int x0), some (.int x1), some (.int (M 5 (x0).toNatClampNeg))], [])) h37 (fun _ => rfl) ?_
                    have k40 := k38 h37
                    refine (zz_go 1 (fr' := (zm_N_kind, d + 9, 134, [some (.ref 1), some (.int x0), some (.int x1), some (.int (M 5 (x0).toNatClampNeg))], [.ref 1])) (h' := (zt_T L, zt_R, M, J, e)) (fun _ => rfl)).trans ?_
                    refine zl_getR rfl rfl rfl ?_
                    refine (zz_go 1 (fr' := (zm_N_kind, d + 9, 138, [some (.ref 1), some (.int x0), some (.int x1), some (.int (M 5 (x0).toNatClampNeg))], [.int x0, .ref 4])) (h' := (zt_T L, zt_R, M, J, e)) (fun _ => rfl)).trans ?_
                    have g41 : ok_E_depth M x0 := k40
                    refine zl_st (d := d + 8) rfl rfl rfl rfl rfl rfl rfl (s_E_depth L e J (d + 7) M x0 g41) ?_
                    show zz_D (zm_N_kind, d + 9, 141, [some (.ref 1), some (.int x0), some (.int x1), some (.int (M 5 (x0).toNatClampNeg))], [.int (v_E_depth M x0)]) (zt_T L, zt_R, M, J, e) = _
                    refine zl_retI rfl rfl ?_
                    first | (simp only [h1, h5, h7, h9, h11, h17, h23, h29, h35, h37, zk_t, zk_f, zb_t, zb_f]; done) | (simp only [h1, h5, h7, h9, h11, h17, h23, h29, h35, h37, zk_t, zk_f, zb_t, zb_f]; rfl) | rfl
                  · have k42 := k39 h37
                    obtain ⟨k44, k45⟩ := k42
                    rcases zz_bc (decide (x1 = (9 : Int32))) with h43 | h43
                    · refine zl_swc (A := (zm_N_kind, d + 9, 142, [some (.ref 1), some (.int x0), some (.int x1), some (.int (M 5 (x0).toNatClampNeg))], [])) h43 (fun _ => rfl) ?_
                      have k46 := k44 h43
                      refine (zz_go 1 (fr' := (zm_N_kind, d + 9, 143, [some (.ref 1), some (.int x0), some (.int x1), some (.int (M 5 (x0).toNatClampNeg))], [.ref 1])) (h' := (zt_T L, zt_R, M, J, e)) (fun _ => rfl)).trans ?_
                      refine zl_getR rfl rfl rfl ?_
                      refine (zz_go 1 (fr' := (zm_N_kind, d + 9, 147, [some (.ref 1), some (.int x0), some (.int x1), some (.int (M 5 (x0).toNatClampNeg))], [.int x0, .ref 4])) (h' := (zt_T L, zt_R, M, J, e)) (fun _ => rfl)).trans ?_
                      have g47 : ok_E_allWithin M x0 := k46
                      refine zl_st (d := d + 8) rfl rfl rfl rfl rfl rfl rfl (s_E_allWithin L e J (d + 7) M x0 g47) ?_
                      show zz_D (zm_N_kind, d + 9, 150, [some (.ref 1), some (.int x0), some (.int x1), some (.int (M 5 (x0).toNatClampNeg))], [.int (v_E_allWithin M x0)]) (zt_T L, zt_R, M, J, e) = _
                      refine zl_retI rfl rfl ?_
                      first | (simp only [h1, h5, h7, h9, h11, h17, h23, h29, h35, h37, h43, zk_t, zk_f, zb_t, zb_f]; done) | (simp only [h1, h5, h7, h9, h11, h17, h23, h29, h35, h37, h43, zk_t, zk_f, zb_t, zb_f]; rfl) | rfl
                    · have k48 := k45 h43
                      rcases zz_bc (decide (x1 = (10 : Int32))) with h49 | h49
                      · refine zl_swc (A := (zm_N_kind, d + 9, 151, [some (.ref 1), some (.int x0), some (.int x1), some (.int (M 5 (x0).toNatClampNeg))], [])) h49 (fun _ => rfl) ?_
                        have k50 := k48 h49
                        refine (zz_go 1 (fr' := (zm_N_kind, d + 9, 152, [some (.ref 1), some (.int x0), some (.int x1), some (.int (M 5 (x0).toNatClampNeg))], [.ref 1])) (h' := (zt_T L, zt_R, M, J, e)) (fun _ => rfl)).trans ?_
                        refine zl_getR rfl rfl rfl ?_
                        refine (zz_go 1 (fr' := (zm_N_kind, d + 9, 156, [some (.ref 1), some (.int x0), some (.int x1), some (.int (M 5 (x0).toNatClampNeg))], [.int x0, .ref 4])) (h' := (zt_T L, zt_R, M, J, e)) (fun _ => rfl)).trans ?_
                        have g51 : ok_S_bearers M 4 x0 := k50
                        refine zl_vt (d := d + 8) rfl rfl rfl rfl rfl rfl rfl rfl rfl rfl (s_S_bearers L e J (d + 7) M 4 x0 zt_St_4 g51) ?_
                        show zz_D (zm_N_kind, d + 9, 159, [some (.ref 1), some (.int x0), some (.int x1), some (.int (M 5 (x0).toNatClampNeg))], [.int (v_S_bearers M 4 x0)]) (zt_T L, zt_R, M, J, e) = _
                        refine zl_retI rfl rfl ?_
                        first | (simp only [h1, h5, h7, h9, h11, h17, h23, h29, h35, h37, h43, h49, zk_t, zk_f, zb_t, zb_f]; done) | (simp only [h1, h5, h7, h9, h11, h17, h23, h29, h35, h37, h43, h49, zk_t, zk_f, zb_t, zb_f]; rfl) | rfl
                      · skip
                        refine zl_swd rfl (by have e0 : (x1).toInt ≠ 0 := zsw_ne h5; have e1 : (x1).toInt ≠ 1 := zsw_ne h7; have e2 : (x1).toInt ≠ 2 := zsw_ne h9; have e3 : (x1).toInt ≠ 3 := zsw_ne h11; have e4 : (x1).toInt ≠ 4 := zsw_ne h17; have e5 : (x1).toInt ≠ 5 := zsw_ne h23; have e6 : (x1).toInt ≠ 6 := zsw_ne h29; have e7 : (x1).toInt ≠ 7 := zsw_ne h35; have e8 : (x1).toInt ≠ 8 := zsw_ne h37; have e9 : (x1).toInt ≠ 9 := zsw_ne h43; have e10 : (x1).toInt ≠ 10 := zsw_ne h49; simp only [Bool.or_eq_true, decide_eq_true_eq]; omega) rfl ?_
                        refine zl_throw rfl rfl rfl ?_
                        first | (simp only [h1, h5, h7, h9, h11, h17, h23, h29, h35, h37, h43, h49, zk_t, zk_f, zb_t, zb_f]; done) | (simp only [h1, h5, h7, h9, h11, h17, h23, h29, h35, h37, h43, h49, zk_t, zk_f, zb_t, zb_f]; rfl) | rfl
def t_N_needPerson (M : zMem) (x0 : Int32) : Nat := (bif (decide (x0 < 0)) then 3 else (bif (decide (x0 < (M 4 10))) then 0 else 3))
set_option maxRecDepth 20000 in
set_option maxHeartbeats 2000000 in
theorem s_N_needPerson (L e : Nat) (J : zJem) (d : Nat) (M : zMem) (x0 : Int32) : zz_D (zm_N_needPerson, d + 8, 0, [some (.ref 1), some (.int x0)], []) (zt_T L, zt_R, M, J, e) = some (zx_o (t_N_needPerson M x0) (none), (zt_T L, zt_R, M, J, zx_e (t_N_needPerson M x0) e)) := by
  unfold t_N_needPerson
  refine (zz_go 1 (fr' := (zm_N_needPerson, d + 8, 1, [some (.ref 1), some (.int x0)], [.int x0])) (h' := (zt_T L, zt_R, M, J, e)) (fun _ => rfl)).trans ?_
  rcases zz_bc (decide (x0 < 0)) with h1 | h1
  · refine zo_ltT rfl h1 ?_
    refine zl_throw rfl rfl rfl ?_
    first | (simp only [h1, zk_t, zk_f, zb_t, zb_f]; done) | (simp only [h1, zk_t, zk_f, zb_t, zb_f]; rfl) | rfl
  · refine zo_ltF rfl h1 ?_
    refine (zz_go 2 (fr' := (zm_N_needPerson, d + 8, 6, [some (.ref 1), some (.int x0)], [.ref 1, .int x0])) (h' := (zt_T L, zt_R, M, J, e)) (fun _ => rfl)).trans ?_
    refine zl_getR rfl rfl rfl ?_
    refine zl_getI rfl (by decide) rfl rfl ?_
    rcases zz_bc (decide (x0 < (M 4 10))) with h2 | h2
    · refine zc_ltT rfl h2 ?_
      refine (zz_end 1 (r := (.inl none, (zt_T L, zt_R, M, J, e))) (fun _ => rfl)).trans ?_
      first | (simp only [h1, h2, zk_t, zk_f, zb_t, zb_f]; done) | (simp only [h1, h2, zk_t, zk_f, zb_t, zb_f]; rfl) | rfl
    · refine zc_ltF rfl h2 ?_
      refine zl_throw rfl rfl rfl ?_
      first | (simp only [h1, h2, zk_t, zk_f, zb_t, zb_f]; done) | (simp only [h1, h2, zk_t, zk_f, zb_t, zb_f]; rfl) | rfl
def g_N_sureYear_1 (M : zMem) (x0 : Int32) (i1 : Nat) (a1 : Bool × Int32 × zMem) : Bool × (Bool × Int32 × zMem) := ((bif (decide ((60 : Int32) < (Int32.ofNat i1))) then false else (bif (v_S_hasDoneItsDeed a1.2.2 15 x0) then false else true)), ((bif (decide ((60 : Int32) < (Int32.ofNat i1))) then false else (v_S_hasDoneItsDeed a1.2.2 15 x0)), (bif (decide ((60 : Int32) < (Int32.ofNat i1))) then a1.2.1 else (bif (v_S_hasDoneItsDeed a1.2.2 15 x0) then (Int32.ofNat i1) else a1.2.1)), (bif (decide ((60 : Int32) < (Int32.ofNat i1))) then a1.2.2 else (bif (v_S_hasDoneItsDeed a1.2.2 15 x0) then a1.2.2 else (w_S_passYearAhead a1.2.2 15)))))
def kb_N_sureYear_1 (M : zMem) (x0 : Int32) (i1 : Nat) (a1 : Bool × Int32 × zMem) : Prop := ((decide ((60 : Int32) < (Int32.ofNat i1))) = false → (ok_S_hasDoneItsDeed a1.2.2 15 x0 ∧ ((v_S_hasDoneItsDeed a1.2.2 15 x0) = false → ok_S_passYearAhead a1.2.2 15)))
def v_N_sureYear (M : zMem) (x0 : Int32) : Int32 := (bif (v_S_isPlain M 4 x0) then (-1 : Int32) else (bif (zf_wh 1000 (g_N_sureYear_1 M x0) 0 (false, 0, (w_S_copyFrom M 15 4))).1 then (zf_wh 1000 (g_N_sureYear_1 M x0) 0 (false, 0, (w_S_copyFrom M 15 4))).2.1 else (-1 : Int32)))
def w_N_sureYear (M : zMem) (x0 : Int32) : zMem := (bif (v_S_isPlain M 4 x0) then M else (zf_wh 1000 (g_N_sureYear_1 M x0) 0 (false, 0, (w_S_copyFrom M 15 4))).2.2)
def ok_N_sureYear (M : zMem) (x0 : Int32) : Prop := (ok_S_isPlain M 4 x0 ∧ ((v_S_isPlain M 4 x0) = false → (zf_wk 1000 (g_N_sureYear_1 M x0) (kb_N_sureYear_1 M x0) 0 (false, 0, (w_S_copyFrom M 15 4)))))
set_option maxRecDepth 20000 in
set_option maxHeartbeats 2000000 in
theorem s_N_sureYear (L e : Nat) (J : zJem) (d : Nat) (M : zMem) (x0 : Int32) (k0 : ok_N_sureYear M x0) : zz_D (zm_N_sureYear, d + 9, 0, [some (.ref 1), some (.int x0), none], []) (zt_T L, zt_R, M, J, e) = some (.inl (some (.int (v_N_sureYear M x0))), (zt_T L, zt_R, (w_N_sureYear M x0), J, e)) := by
  unfold ok_N_sureYear at k0
  unfold v_N_sureYear w_N_sureYear
  refine (zz_go 1 (fr' := (zm_N_sureYear, d + 9, 1, [some (.ref 1), some (.int x0), none], [.ref 1])) (h' := (zt_T L, zt_R, M, J, e)) (fun _ => rfl)).trans ?_
  refine zl_getR rfl rfl rfl ?_
  refine (zz_go 1 (fr' := (zm_N_sureYear, d + 9, 5, [some (.ref 1), some (.int x0), none], [.int x0, .ref 4])) (h' := (zt_T L, zt_R, M, J, e)) (fun _ => rfl)).trans ?_
  obtain ⟨g1, k2⟩ := k0
  refine zl_vt (d := d + 8) rfl rfl rfl rfl rfl rfl rfl rfl rfl rfl (s_S_isPlain L e J (d + 7) M 4 x0 zt_St_4 g1) ?_
  show zz_D (zm_N_sureYear, d + 9, 8, [some (.ref 1), some (.int x0), none], [.int (zb (v_S_isPlain M 4 x0))]) (zt_T L, zt_R, M, J, e) = _
  rcases zz_bc (v_S_isPlain M 4 x0) with h3 | h3
  · refine zq_eT rfl h3 ?_
    refine (zz_go 1 (fr' := (zm_N_sureYear, d + 9, 12, [some (.ref 1), some (.int x0), none], [.int (-1 : Int32)])) (h' := (zt_T L, zt_R, M, J, e)) (fun _ => rfl)).trans ?_
    refine zl_retI rfl rfl ?_
    first | (simp only [h3, zk_t, zk_f, zb_t, zb_f]; done) | (simp only [h3, zk_t, zk_f, zb_t, zb_f]; rfl) | rfl
  · refine zq_eF rfl h3 ?_
    have k4 := k2 h3
    refine (zz_go 1 (fr' := (zm_N_sureYear, d + 9, 14, [some (.ref 1), some (.int x0), none], [.ref 1])) (h' := (zt_T L, zt_R, M, J, e)) (fun _ => rfl)).trans ?_
    refine zl_getR rfl rfl rfl ?_
    refine (zz_go 1 (fr' := (zm_N_sureYear, d + 9, 18, [some (.ref 1), some (.int x0), none], [.ref 1, .ref 15])) (h' := (zt_T L, zt_R, M, J, e)) (fun _ => rfl)).trans ?_
    refine zl_getR rfl rfl rfl ?_
    refine zl_vt (d := d + 8) rfl rfl rfl rfl rfl rfl rfl rfl rfl rfl (s_S_copyFrom L e J (d + 0) M 15 4 zt_St_15 zt_St_4) ?_
    show zz_D (zm_N_sureYear, d + 9, 24, [some (.ref 1), some (.int x0), none], []) (zt_T L, zt_R, (w_S_copyFrom M 15 4), J, e) = _
    refine (zz_go 2 (fr' := (zm_N_sureYear, d + 9, 26, [some (.ref 1), some (.int x0), some (.int (0 : Int32))], [])) (h' := (zt_T L, zt_R, (w_S_copyFrom M 15 4), J, e)) (fun _ => rfl)).trans ?_
    refine zf_whY (X := fun (i1 : Nat) (a1 : Bool × Int32 × zMem) => zz_D (zm_N_sureYear, d + 9, 26, [some (.ref 1), some (.int x0), some (.int (Int32.ofNat i1))], []) (zt_T L, zt_R, a1.2.2, J, e)) (Y := fun (a1 : Bool × Int32 × zMem) => (bif a1.1 then some (.inl (some (.int a1.2.1)), (zt_T L, zt_R, a1.2.2, J, e)) else zz_D (zm_N_sureYear, d + 9, 62, [none, none, none], []) (zt_T L, zt_R, a1.2.2, J, e))) (g := (g_N_sureYear_1 M x0)) (k := (kb_N_sureYear_1 M x0)) (fun i1 a1 k7 hx5 hx6 => ?_) 1000 0 (false, 0, (w_S_copyFrom M 15 4)) k4 ?_
    · show zz_D (zm_N_sureYear, d + 9, 26, [some (.ref 1), some (.int x0), some (.int (Int32.ofNat i1))], []) (zt_T L, zt_R, a1.2.2, J, e) = _
      unfold kb_N_sureYear_1 at k7
      refine (zz_go 2 (fr' := (zm_N_sureYear, d + 9, 29, [some (.ref 1), some (.int x0), some (.int (Int32.ofNat i1))], [.int (60 : Int32), .int (Int32.ofNat i1)])) (h' := (zt_T L, zt_R, a1.2.2, J, e)) (fun _ => rfl)).trans ?_
      rcases zz_bc (decide ((60 : Int32) < (Int32.ofNat i1))) with h8 | h8
      · refine zc_gtT rfl h8 ?_
        refine zz_weak (L := [none, none, none]) ⟨Or.inr ⟨rfl, rfl⟩, Or.inr ⟨rfl, rfl⟩, Or.inr ⟨rfl, rfl⟩, trivial⟩ ?_
        have y1 := hx6 (by simp only [g_N_sureYear_1, h8, zk_t, zk_f, zb_t, zb_f])
        simpa only [g_N_sureYear_1, h8, zk_t, zk_f, zb_t, zb_f] using y1
      · refine zc_gtF rfl h8 ?_
        have k9 := k7 h8
        refine (zz_go 1 (fr' := (zm_N_sureYear, d + 9, 33, [some (.ref 1), some (.int x0), some (.int (Int32.ofNat i1))], [.ref 1])) (h' := (zt_T L, zt_R, a1.2.2, J, e)) (fun _ => rfl)).trans ?_
        refine zl_getR rfl rfl rfl ?_
        refine (zz_go 1 (fr' := (zm_N_sureYear, d + 9, 37, [some (.ref 1), some (.int x0), some (.int (Int32.ofNat i1))], [.int x0, .ref 15])) (h' := (zt_T L, zt_R, a1.2.2, J, e)) (fun _ => rfl)).trans ?_
        obtain ⟨g10, k11⟩ := k9
        refine zl_vt (d := d + 8) rfl rfl rfl rfl rfl rfl rfl rfl rfl rfl (s_S_hasDoneItsDeed L e J (d + 5) a1.2.2 15 x0 zt_St_15 g10) ?_
        show zz_D (zm_N_sureYear, d + 9, 40, [some (.ref 1), some (.int x0), some (.int (Int32.ofNat i1))], [.int (zb (v_S_hasDoneItsDeed a1.2.2 15 x0))]) (zt_T L, zt_R, a1.2.2, J, e) = _
        rcases zz_bc (v_S_hasDoneItsDeed a1.2.2 15 x0) with h12 | h12
        · refine zq_eT rfl h12 ?_
          refine (zz_go 1 (fr' := (zm_N_sureYear, d + 9, 44, [some (.ref 1), some (.int x0), some (.int (Int32.ofNat i1))], [.int (Int32.ofNat i1)])) (h' := (zt_T L, zt_R, a1.2.2, J, e)) (fun _ => rfl)).trans ?_
          refine zl_retI rfl rfl ?_
          have y1 := hx6 (by simp only [g_N_sureYear_1, h8, h12, zk_t, zk_f, zb_t, zb_f])
          simpa only [g_N_sureYear_1, h8, h12, zk_t, zk_f, zb_t, zb_f] using y1
        · refine zq_eF rfl h12 ?_
          have k13 := k11 h12
          refine (zz_go 1 (fr' := (zm_N_sureYear, d + 9, 46, [some (.ref 1), some (.int x0), some (.int (Int32.ofNat i1))], [.ref 1])) (h' := (zt_T L, zt_R, a1.2.2, J, e)) (fun _ => rfl)).trans ?_
          refine zl_getR rfl rfl rfl ?_
          refine (zz_go 1 (fr' := (zm_N_sureYear, d + 9, 50, [some (.ref 1), some (.int x0), some (.int (Int32.ofNat i1))], [.ref 1, .ref 15])) (h' := (zt_T L, zt_R, a1.2.2, J, e)) (fun _ => rfl)).trans ?_
          refine zl_getR rfl rfl rfl ?_
          have g14 : ok_S_passYearAhead a1.2.2 15 := k13
          refine zl_vt (d := d + 8) rfl rfl rfl rfl rfl rfl rfl rfl rfl rfl (s_S_passYearAhead L e J (d + 2) a1.2.2 15 zt_St_15 g14) ?_
          show zz_D (zm_N_sureYear, d + 9, 56, [some (.ref 1), some (.int x0), some (.int (Int32.ofNat i1))], []) (zt_T L, zt_R, (w_S_passYearAhead a1.2.2 15), J, e) = _
          refine (zz_go 2 (fr' := (zm_N_sureYear, d + 9, 26, [some (.ref 1), some (.int x0), some (.int (Int32.ofNat i1 + 1))], [])) (h' := (zt_T L, zt_R, (w_S_passYearAhead a1.2.2 15), J, e)) (fun _ => rfl)).trans ?_
          rw [zi_succ i1]
          have y1 := hx5 (by simp only [g_N_sureYear_1, h8, h12, zk_t, zk_f, zb_t, zb_f])
          simpa only [g_N_sureYear_1, h8, h12, zk_t, zk_f, zb_t, zb_f] using y1
    show (bif (zf_wh 1000 (g_N_sureYear_1 M x0) 0 (false, 0, (w_S_copyFrom M 15 4))).1 then some (.inl (some (.int (zf_wh 1000 (g_N_sureYear_1 M x0) 0 (false, 0, (w_S_copyFrom M 15 4))).2.1)), (zt_T L, zt_R, (zf_wh 1000 (g_N_sureYear_1 M x0) 0 (false, 0, (w_S_copyFrom M 15 4))).2.2, J, e)) else zz_D (zm_N_sureYear, d + 9, 62, [none, none, none], []) (zt_T L, zt_R, (zf_wh 1000 (g_N_sureYear_1 M x0) 0 (false, 0, (w_S_copyFrom M 15 4))).2.2, J, e)) = _
    refine zz_ec (fun h15 => ?_) (fun h15 => ?_)
    · skip
      first | (simp only [h3, h15, zk_t, zk_f, zb_t, zb_f]; done) | (simp only [h3, h15, zk_t, zk_f, zb_t, zb_f]; rfl) | rfl
    refine (zz_go 1 (fr' := (zm_N_sureYear, d + 9, 63, [none, none, none], [.int (-1 : Int32)])) (h' := (zt_T L, zt_R, (zf_wh 1000 (g_N_sureYear_1 M x0) 0 (false, 0, (w_S_copyFrom M 15 4))).2.2, J, e)) (fun _ => rfl)).trans ?_
    refine zl_retI rfl rfl ?_
    first | (simp only [h3, h15, zk_t, zk_f, zb_t, zb_f]; done) | (simp only [h3, h15, zk_t, zk_f, zb_t, zb_f]; rfl) | rfl
def v_N_person (M : zMem) (x0 : Int32) (x1 : Int32) : Int32 := (bif Nat.beq (t_N_needPerson M x0) 0 then (bif (decide (x1 = (0 : Int32))) then (M 8 (x0).toNatClampNeg) else (bif (decide (x1 = (1 : Int32))) then (M 9 (x0).toNatClampNeg) else (bif (decide (x1 = (2 : Int32))) then (M 10 (x0).toNatClampNeg) else (bif (decide (x1 = (3 : Int32))) then (M 11 (x0).toNatClampNeg) else (bif (decide (x1 = (4 : Int32))) then (M 12 (x0).toNatClampNeg) else (bif (decide (x1 = (5 : Int32))) then (M 13 (x0).toNatClampNeg) else (bif (decide (x1 = (6 : Int32))) then (v_L_comes M 4 x0) else (bif (decide (x1 = (7 : Int32))) then (v_S_fits M 4 x0) else (bif (decide (x1 = (8 : Int32))) then (v_S_thumb M 4 x0) else (bif (decide (x1 = (9 : Int32))) then (v_N_sureYear M x0) else (bif (decide (x1 = (10 : Int32))) then (v_S_fates M 4 x0) else (bif (decide (x1 = (11 : Int32))) then (v_S_share M 4 x0) else 0)))))))))))) else 0)
def w_N_person (M : zMem) (x0 : Int32) (x1 : Int32) : zMem := (bif Nat.beq (t_N_needPerson M x0) 0 then (bif (decide (x1 = (0 : Int32))) then M else (bif (decide (x1 = (1 : Int32))) then M else (bif (decide (x1 = (2 : Int32))) then M else (bif (decide (x1 = (3 : Int32))) then M else (bif (decide (x1 = (4 : Int32))) then M else (bif (decide (x1 = (5 : Int32))) then M else (bif (decide (x1 = (6 : Int32))) then (w_L_comes M 4 x0) else (bif (decide (x1 = (7 : Int32))) then M else (bif (decide (x1 = (8 : Int32))) then M else (bif (decide (x1 = (9 : Int32))) then (w_N_sureYear M x0) else M)))))))))) else M)
def t_N_person (M : zMem) (x0 : Int32) (x1 : Int32) : Nat := (bif Nat.beq (t_N_needPerson M x0) 0 then (bif (decide (x1 = (0 : Int32))) then 0 else (bif (decide (x1 = (1 : Int32))) then 0 else (bif (decide (x1 = (2 : Int32))) then 0 else (bif (decide (x1 = (3 : Int32))) then 0 else (bif (decide (x1 = (4 : Int32))) then 0 else (bif (decide (x1 = (5 : Int32))) then 0 else (bif (decide (x1 = (6 : Int32))) then 0 else (bif (decide (x1 = (7 : Int32))) then 0 else (bif (decide (x1 = (8 : Int32))) then 0 else (bif (decide (x1 = (9 : Int32))) then 0 else (bif (decide (x1 = (10 : Int32))) then 0 else (bif (decide (x1 = (11 : Int32))) then 0 else 4)))))))))))) else (t_N_needPerson M x0))
def ok_N_person (M : zMem) (x0 : Int32) (x1 : Int32) : Prop := (Nat.beq (t_N_needPerson M x0) 0 = true → (((decide (x1 = (0 : Int32))) = true → zz_in x0 6 = true) ∧ ((decide (x1 = (0 : Int32))) = false → (((decide (x1 = (1 : Int32))) = true → zz_in x0 6 = true) ∧ ((decide (x1 = (1 : Int32))) = false → (((decide (x1 = (2 : Int32))) = true → zz_in x0 6 = true) ∧ ((decide (x1 = (2 : Int32))) = false → (((decide (x1 = (3 : Int32))) = true → zz_in x0 6 = true) ∧ ((decide (x1 = (3 : Int32))) = false → (((decide (x1 = (4 : Int32))) = true → zz_in x0 6 = true) ∧ ((decide (x1 = (4 : Int32))) = false → (((decide (x1 = (5 : Int32))) = true → zz_in x0 6 = true) ∧ ((decide (x1 = (5 : Int32))) = false → (((decide (x1 = (6 : Int32))) = true → ok_L_comes M 4 x0) ∧ ((decide (x1 = (6 : Int32))) = false → (((decide (x1 = (7 : Int32))) = true → ok_S_fits M 4 x0) ∧ ((decide (x1 = (7 : Int32))) = false → (((decide (x1 = (8 : Int32))) = true → ok_S_thumb M 4 x0) ∧ ((decide (x1 = (8 : Int32))) = false → (((decide (x1 = (9 : Int32))) = true → ok_N_sureYear M x0) ∧ ((decide (x1 = (9 : Int32))) = false → (((decide (x1 = (10 : Int32))) = true → ok_S_fates M 4 x0) ∧ ((decide (x1 = (10 : Int32))) = false → ((decide (x1 = (11 : Int32))) = true → ok_S_share M 4 x0))))))))))))))))))))))))
set_option maxRecDepth 20000 in
set_option maxHeartbeats 2000000 in
theorem s_N_person (L e : Nat) (J : zJem) (d : Nat) (M : zMem) (x0 : Int32) (x1 : Int32) (k0 : ok_N_person M x0 x1) : zz_D (zm_N_person, d + 10, 0, [some (.ref 1), some (.int x0), some (.int x1)], []) (zt_T L, zt_R, M, J, e) = some (zx_o (t_N_person M x0 x1) (some (.int (v_N_person M x0 x1))), (zt_T L, zt_R, (w_N_person M x0 x1), J, zx_e (t_N_person M x0 x1) e)) := by
  unfold ok_N_person at k0
  unfold v_N_person w_N_person t_N_person
  refine (zz_go 2 (fr' := (zm_N_person, d + 10, 2, [some (.ref 1), some (.int x0), some (.int x1)], [.int x0, .ref 1])) (h' := (zt_T L, zt_R, M, J, e)) (fun _ => rfl)).trans ?_
  refine zl_vt (d := d + 9) rfl rfl rfl rfl rfl rfl rfl rfl rfl rfl (s_N_needPerson L e J (d + 1) M x0) ?_
  refine zl_aftV rfl (fun h1 => ?_) (fun h1 => ?_)
  rotate_left 1
  · skip
    rw [zx_oe h1 (some (.int 0))]
    first | (simp only [h1, zk_t, zk_f, zb_t, zb_f]; done) | (simp only [h1, zk_t, zk_f, zb_t, zb_f]; rfl) | rfl
  have k2 := k0 h1
  show zz_D (zm_N_person, d + 10, 5, [some (.ref 1), some (.int x0), some (.int x1)], []) (zt_T L, zt_R, M, J, e) = _
  refine (zz_go 1 (fr' := (zm_N_person, d + 10, 6, [some (.ref 1), some (.int x0), some (.int x1)], [.int x1])) (h' := (zt_T L, zt_R, M, J, e)) (fun _ => rfl)).trans ?_
  obtain ⟨k4, k5⟩ := k2
  rcases zz_bc (decide (x1 = (0 : Int32))) with h3 | h3
  · refine zl_swc (A := (zm_N_person, d + 10, 68, [some (.ref 1), some (.int x0), some (.int x1)], [])) h3 (fun _ => rfl) ?_
    have k6 := k4 h3
    refine (zz_go 1 (fr' := (zm_N_person, d + 10, 69, [some (.ref 1), some (.int x0), some (.int x1)], [.ref 1])) (h' := (zt_T L, zt_R, M, J, e)) (fun _ => rfl)).trans ?_
    refine zl_getR rfl rfl rfl ?_
    refine zl_getR rfl rfl rfl ?_
    refine (zz_go 1 (fr' := (zm_N_person, d + 10, 76, [some (.ref 1), some (.int x0), some (.int x1)], [.int x0, .ref 8])) (h' := (zt_T L, zt_R, M, J, e)) (fun _ => rfl)).trans ?_
    have g7 : zz_in x0 6 = true := k6
    refine zl_iaload rfl rfl g7 rfl ?_
    refine zl_retI rfl rfl ?_
    first | (simp only [h1, h3, zk_t, zk_f, zb_t, zb_f]; done) | (simp only [h1, h3, zk_t, zk_f, zb_t, zb_f]; rfl) | rfl
  · have k8 := k5 h3
    obtain ⟨k10, k11⟩ := k8
    rcases zz_bc (decide (x1 = (1 : Int32))) with h9 | h9
    · refine zl_swc (A := (zm_N_person, d + 10, 78, [some (.ref 1), some (.int x0), some (.int x1)], [])) h9 (fun _ => rfl) ?_
      have k12 := k10 h9
      refine (zz_go 1 (fr' := (zm_N_person, d + 10, 79, [some (.ref 1), some (.int x0), some (.int x1)], [.ref 1])) (h' := (zt_T L, zt_R, M, J, e)) (fun _ => rfl)).trans ?_
      refine zl_getR rfl rfl rfl ?_
      refine zl_getR rfl rfl rfl ?_
      refine (zz_go 1 (fr' := (zm_N_person, d + 10, 86, [some (.ref 1), some (.int x0), some (.int x1)], [.int x0, .ref 9])) (h' := (zt_T L, zt_R, M, J, e)) (fun _ => rfl)).trans ?_
      have g13 : zz_in x0 6 = true := k12
      refine zl_iaload rfl rfl g13 rfl ?_
      refine zl_retI rfl rfl ?_
      first | (simp only [h1, h3, h9, zk_t, zk_f, zb_t, zb_f]; done) | (simp only [h1, h3, h9, zk_t, zk_f, zb_t, zb_f]; rfl) | rfl
    · have k14 := k11 h9
      obtain ⟨k16, k17⟩ := k14
      rcases zz_bc (decide (x1 = (2 : Int32))) with h15 | h15
      · refine zl_swc (A := (zm_N_person, d + 10, 88, [some (.ref 1), some (.int x0), some (.int x1)], [])) h15 (fun _ => rfl) ?_
        have k18 := k16 h15
        refine (zz_go 1 (fr' := (zm_N_person, d + 10, 89, [some (.ref 1), some (.int x0), some (.int x1)], [.ref 1])) (h' := (zt_T L, zt_R, M, J, e)) (fun _ => rfl)).trans ?_
        refine zl_getR rfl rfl rfl ?_
        refine zl_getR rfl rfl rfl ?_
        refine (zz_go 1 (fr' := (zm_N_person, d + 10, 96, [some (.ref 1), some (.int x0), some (.int x1)], [.int x0, .ref 10])) (h' := (zt_T L, zt_R, M, J, e)) (fun _ => rfl)).trans ?_
        have g19 : zz_in x0 6 = true := k18
        refine zl_iaload rfl rfl g19 rfl ?_
        refine zl_retI rfl rfl ?_
        first | (simp only [h1, h3, h9, h15, zk_t, zk_f, zb_t, zb_f]; done) | (simp only [h1, h3, h9, h15, zk_t, zk_f, zb_t, zb_f]; rfl) | rfl
      · have k20 := k17 h15
        obtain ⟨k22, k23⟩ := k20
        rcases zz_bc (decide (x1 = (3 : Int32))) with h21 | h21
        · refine zl_swc (A := (zm_N_person, d + 10, 98, [some (.ref 1), some (.int x0), some (.int x1)], [])) h21 (fun _ => rfl) ?_
          have k24 := k22 h21
          refine (zz_go 1 (fr' := (zm_N_person, d + 10, 99, [some (.ref 1), some (.int x0), some (.int x1)], [.ref 1])) (h' := (zt_T L, zt_R, M, J, e)) (fun _ => rfl)).trans ?_
          refine zl_getR rfl rfl rfl ?_
          refine zl_getR rfl rfl rfl ?_
          refine (zz_go 1 (fr' := (zm_N_person, d + 10, 106, [some (.ref 1), some (.int x0), some (.int x1)], [.int x0, .ref 11])) (h' := (zt_T L, zt_R, M, J, e)) (fun _ => rfl)).trans ?_
          have g25 : zz_in x0 6 = true := k24
          refine zl_iaload rfl rfl g25 rfl ?_
          refine zl_retI rfl rfl ?_
          first | (simp only [h1, h3, h9, h15, h21, zk_t, zk_f, zb_t, zb_f]; done) | (simp only [h1, h3, h9, h15, h21, zk_t, zk_f, zb_t, zb_f]; rfl) | rfl
        · have k26 := k23 h21
          obtain ⟨k28, k29⟩ := k26
          rcases zz_bc (decide (x1 = (4 : Int32))) with h27 | h27
          · refine zl_swc (A := (zm_N_person, d + 10, 108, [some (.ref 1), some (.int x0), some (.int x1)], [])) h27 (fun _ => rfl) ?_
            have k30 := k28 h27
            refine (zz_go 1 (fr' := (zm_N_person, d + 10, 109, [some (.ref 1), some (.int x0), some (.int x1)], [.ref 1])) (h' := (zt_T L, zt_R, M, J, e)) (fun _ => rfl)).trans ?_
            refine zl_getR rfl rfl rfl ?_
            refine zl_getR rfl rfl rfl ?_
            refine (zz_go 1 (fr' := (zm_N_person, d + 10, 116, [some (.ref 1), some (.int x0), some (.int x1)], [.int x0, .ref 12])) (h' := (zt_T L, zt_R, M, J, e)) (fun _ => rfl)).trans ?_
            have g31 : zz_in x0 6 = true := k30
            refine zl_iaload rfl rfl g31 rfl ?_
            refine zl_retI rfl rfl ?_
            first | (simp only [h1, h3, h9, h15, h21, h27, zk_t, zk_f, zb_t, zb_f]; done) | (simp only [h1, h3, h9, h15, h21, h27, zk_t, zk_f, zb_t, zb_f]; rfl) | rfl
          · have k32 := k29 h27
            obtain ⟨k34, k35⟩ := k32
            rcases zz_bc (decide (x1 = (5 : Int32))) with h33 | h33
            · refine zl_swc (A := (zm_N_person, d + 10, 118, [some (.ref 1), some (.int x0), some (.int x1)], [])) h33 (fun _ => rfl) ?_
              have k36 := k34 h33
              refine (zz_go 1 (fr' := (zm_N_person, d + 10, 119, [some (.ref 1), some (.int x0), some (.int x1)], [.ref 1])) (h' := (zt_T L, zt_R, M, J, e)) (fun _ => rfl)).trans ?_
              refine zl_getR rfl rfl rfl ?_
              refine zl_getR rfl rfl rfl ?_
              refine (zz_go 1 (fr' := (zm_N_person, d + 10, 126, [some (.ref 1), some (.int x0), some (.int x1)], [.int x0, .ref 13])) (h' := (zt_T L, zt_R, M, J, e)) (fun _ => rfl)).trans ?_
              have g37 : zz_in x0 6 = true := k36
              refine zl_iaload rfl rfl g37 rfl ?_
              refine zl_retI rfl rfl ?_
              first | (simp only [h1, h3, h9, h15, h21, h27, h33, zk_t, zk_f, zb_t, zb_f]; done) | (simp only [h1, h3, h9, h15, h21, h27, h33, zk_t, zk_f, zb_t, zb_f]; rfl) | rfl
            · have k38 := k35 h33
              obtain ⟨k40, k41⟩ := k38
              rcases zz_bc (decide (x1 = (6 : Int32))) with h39 | h39
              · refine zl_swc (A := (zm_N_person, d + 10, 128, [some (.ref 1), some (.int x0), some (.int x1)], [])) h39 (fun _ => rfl) ?_
                have k42 := k40 h39
                refine (zz_go 1 (fr' := (zm_N_person, d + 10, 129, [some (.ref 1), some (.int x0), some (.int x1)], [.ref 1])) (h' := (zt_T L, zt_R, M, J, e)) (fun _ => rfl)).trans ?_
                refine zl_getR rfl rfl rfl ?_
                refine (zz_go 1 (fr' := (zm_N_person, d + 10, 133, [some (.ref 1), some (.int x0), some (.int x1)], [.ref 1, .ref 37])) (h' := (zt_T L, zt_R, M, J, e)) (fun _ => rfl)).trans ?_
                refine zl_getR rfl rfl rfl ?_
                refine (zz_go 1 (fr' := (zm_N_person, d + 10, 137, [some (.ref 1), some (.int x0), some (.int x1)], [.int x0, .ref 4, .ref 37])) (h' := (zt_T L, zt_R, M, J, e)) (fun _ => rfl)).trans ?_
                have g43 : ok_L_comes M 4 x0 := k42
                refine zl_vt (d := d + 9) rfl rfl rfl rfl rfl rfl rfl rfl rfl rfl (s_L_comes L e J (d + 4) M 4 x0 zt_St_4 g43) ?_
                show zz_D (zm_N_person, d + 10, 140, [some (.ref 1), some (.int x0), some (.int x1)], [.int (v_L_comes M 4 x0)]) (zt_T L, zt_R, (w_L_comes M 4 x0), J, e) = _
                refine zl_retI rfl rfl ?_
                first | (simp only [h1, h3, h9, h15, h21, h27, h33, h39, zk_t, zk_f, zb_t, zb_f]; done) | (simp only [h1, h3, h9, h15, h21, h27, h33, h39, zk_t, zk_f, zb_t, zb_f]; rfl) | rfl
              · have k44 := k41 h39
                obtain ⟨k46, k47⟩ := k44
                rcases zz_bc (decide (x1 = (7 : Int32))) with h45 | h45
                · refine zl_swc (A := (zm_N_person, d + 10, 141, [some (.ref 1), some (.int x0), some (.int x1)], [])) h45 (fun _ => rfl) ?_
                  have k48 := k46 h45
                  refine (zz_go 1 (fr' := (zm_N_person, d + 10, 142, [some (.ref 1), some (.int x0), some (.int x1)], [.ref 1])) (h' := (zt_T L, zt_R, M, J, e)) (fun _ => rfl)).trans ?_
                  refine zl_getR rfl rfl rfl ?_
                  refine (zz_go 1 (fr' := (zm_N_person, d + 10, 146, [some (.ref 1), some (.int x0), some (.int x1)], [.int x0, .ref 4])) (h' := (zt_T L, zt_R, M, J, e)) (fun _ => rfl)).trans ?_
                  have g49 : ok_S_fits M 4 x0 := k48
                  refine zl_vt (d := d + 9) rfl rfl rfl rfl rfl rfl rfl rfl rfl rfl (s_S_fits L e J (d + 7) M 4 x0 zt_St_4 g49) ?_
                  show zz_D (zm_N_person, d + 10, 149, [some (.ref 1), some (.int x0), some (.int x1)], [.int (v_S_fits M 4 x0)]) (zt_T L, zt_R, M, J, e) = _
                  refine zl_retI rfl rfl ?_
                  first | (simp only [h1, h3, h9, h15, h21, h27, h33, h39, h45, zk_t, zk_f, zb_t, zb_f]; done) | (simp only [h1, h3, h9, h15, h21, h27, h33, h39, h45, zk_t, zk_f, zb_t, zb_f]; rfl) | rfl
                · have k50 := k47 h45
                  obtain ⟨k52, k53⟩ := k50
                  rcases zz_bc (decide (x1 = (8 : Int32))) with h51 | h51
                  · refine zl_swc (A := (zm_N_person, d + 10, 150, [some (.ref 1), some (.int x0), some (.int x1)], [])) h51 (fun _ => rfl) ?_
                    have k54 := k52 h51
                    refine (zz_go 1 (fr' := (zm_N_person, d + 10, 151, [some (.ref 1), some (.int x0), some (.int x1)], [.ref 1])) (h' := (zt_T L, zt_R, M, J, e)) (fun _ => rfl)).trans ?_
                    refine zl_getR rfl rfl rfl ?_
                    refine (zz_go 1 (fr' := (zm_N_person, d + 10, 155, [some (.ref 1), some (.int x0), some (.int x1)], [.int x0, .ref 4])) (h' := (zt_T L, zt_R, M, J, e)) (fun _ => rfl)).trans ?_
                    have g55 : ok_S_thumb M 4 x0 := k54
                    refine zl_vt (d := d + 9) rfl rfl rfl rfl rfl rfl rfl rfl rfl rfl (s_S_thumb L e J (d + 6) M 4 x0 zt_St_4 g55) ?_
                    show zz_D (zm_N_person, d + 10, 158, [some (.ref 1), some (.int x0), some (.int x1)], [.int (v_S_thumb M 4 x0)]) (zt_T L, zt_R, M, J, e) = _
                    refine zl_retI rfl rfl ?_
                    first | (simp only [h1, h3, h9, h15, h21, h27, h33, h39, h45, h51, zk_t, zk_f, zb_t, zb_f]; done) | (simp only [h1, h3, h9, h15, h21, h27, h33, h39, h45, h51, zk_t, zk_f, zb_t, zb_f]; rfl) | rfl
                  · have k56 := k53 h51
                    obtain ⟨k58, k59⟩ := k56
                    rcases zz_bc (decide (x1 = (9 : Int32))) with h57 | h57
                    · refine zl_swc (A := (zm_N_person, d + 10, 159, [some (.ref 1), some (.int x0), some (.int x1)], [])) h57 (fun _ => rfl) ?_
                      have k60 := k58 h57
                      refine (zz_go 2 (fr' := (zm_N_person, d + 10, 161, [some (.ref 1), some (.int x0), some (.int x1)], [.int x0, .ref 1])) (h' := (zt_T L, zt_R, M, J, e)) (fun _ => rfl)).trans ?_
                      have g61 : ok_N_sureYear M x0 := k60
                      refine zl_vt (d := d + 9) rfl rfl rfl rfl rfl rfl rfl rfl rfl rfl (s_N_sureYear L e J (d + 0) M x0 g61) ?_
                      show zz_D (zm_N_person, d + 10, 164, [some (.ref 1), some (.int x0), some (.int x1)], [.int (v_N_sureYear M x0)]) (zt_T L, zt_R, (w_N_sureYear M x0), J, e) = _
                      refine zl_retI rfl rfl ?_
                      first | (simp only [h1, h3, h9, h15, h21, h27, h33, h39, h45, h51, h57, zk_t, zk_f, zb_t, zb_f]; done) | (simp only [h1, h3, h9, h15, h21, h27, h33, h39, h45, h51, h57, zk_t, zk_f, zb_t, zb_f]; rfl) | rfl
                    · have k62 := k59 h57
                      obtain ⟨k64, k65⟩ := k62
                      rcases zz_bc (decide (x1 = (10 : Int32))) with h63 | h63
                      · refine zl_swc (A := (zm_N_person, d + 10, 165, [some (.ref 1), some (.int x0), some (.int x1)], [])) h63 (fun _ => rfl) ?_
                        have k66 := k64 h63
                        refine (zz_go 1 (fr' := (zm_N_person, d + 10, 166, [some (.ref 1), some (.int x0), some (.int x1)], [.ref 1])) (h' := (zt_T L, zt_R, M, J, e)) (fun _ => rfl)).trans ?_
                        refine zl_getR rfl rfl rfl ?_
                        refine (zz_go 1 (fr' := (zm_N_person, d + 10, 170, [some (.ref 1), some (.int x0), some (.int x1)], [.int x0, .ref 4])) (h' := (zt_T L, zt_R, M, J, e)) (fun _ => rfl)).trans ?_
                        have g67 : ok_S_fates M 4 x0 := k66
                        refine zl_vt (d := d + 9) rfl rfl rfl rfl rfl rfl rfl rfl rfl rfl (s_S_fates L e J (d + 6) M 4 x0 zt_St_4 g67) ?_
                        show zz_D (zm_N_person, d + 10, 173, [some (.ref 1), some (.int x0), some (.int x1)], [.int (v_S_fates M 4 x0)]) (zt_T L, zt_R, M, J, e) = _
                        refine zl_retI rfl rfl ?_
                        first | (simp only [h1, h3, h9, h15, h21, h27, h33, h39, h45, h51, h57, h63, zk_t, zk_f, zb_t, zb_f]; done) | (simp only [h1, h3, h9, h15, h21, h27, h33, h39, h45, h51, h57, h63, zk_t, zk_f, zb_t, zb_f]; rfl) | rfl
                      · have k68 := k65 h63
                        rcases zz_bc (decide (x1 = (11 : Int32))) with h69 | h69
                        · refine zl_swc (A := (zm_N_person, d + 10, 174, [some (.ref 1), some (.int x0), some (.int x1)], [])) h69 (fun _ => rfl) ?_
                          have k70 := k68 h69
                          refine (zz_go 1 (fr' := (zm_N_person, d + 10, 175, [some (.ref 1), some (.int x0), some (.int x1)], [.ref 1])) (h' := (zt_T L, zt_R, M, J, e)) (fun _ => rfl)).trans ?_
                          refine zl_getR rfl rfl rfl ?_
                          refine (zz_go 1 (fr' := (zm_N_person, d + 10, 179, [some (.ref 1), some (.int x0), some (.int x1)], [.int x0, .ref 4])) (h' := (zt_T L, zt_R, M, J, e)) (fun _ => rfl)).trans ?_
                          have g71 : ok_S_share M 4 x0 := k70
                          refine zl_vt (d := d + 9) rfl rfl rfl rfl rfl rfl rfl rfl rfl rfl (s_S_share L e J (d + 7) M 4 x0 zt_St_4 g71) ?_
                          show zz_D (zm_N_person, d + 10, 182, [some (.ref 1), some (.int x0), some (.int x1)], [.int (v_S_share M 4 x0)]) (zt_T L, zt_R, M, J, e) = _
                          refine zl_retI rfl rfl ?_
                          first | (simp only [h1, h3, h9, h15, h21, h27, h33, h39, h45, h51, h57, h63, h69, zk_t, zk_f, zb_t, zb_f]; done) | (simp only [h1, h3, h9, h15, h21, h27, h33, h39, h45, h51, h57, h63, h69, zk_t, zk_f, zb_t, zb_f]; rfl) | rfl
                        · skip
                          refine zl_swd rfl (by have e0 : (x1).toInt ≠ 0 := zsw_ne h3; have e1 : (x1).toInt ≠ 1 := zsw_ne h9; have e2 : (x1).toInt ≠ 2 := zsw_ne h15; have e3 : (x1).toInt ≠ 3 := zsw_ne h21; have e4 : (x1).toInt ≠ 4 := zsw_ne h27; have e5 : (x1).toInt ≠ 5 := zsw_ne h33; have e6 : (x1).toInt ≠ 6 := zsw_ne h39; have e7 : (x1).toInt ≠ 7 := zsw_ne h45; have e8 : (x1).toInt ≠ 8 := zsw_ne h51; have e9 : (x1).toInt ≠ 9 := zsw_ne h57; have e10 : (x1).toInt ≠ 10 := zsw_ne h63; have e11 : (x1).toInt ≠ 11 := zsw_ne h69; simp only [Bool.or_eq_true, decide_eq_true_eq]; omega) rfl ?_
                          refine zl_throw rfl rfl rfl ?_
                          first | (simp only [h1, h3, h9, h15, h21, h27, h33, h39, h45, h51, h57, h63, h69, zk_t, zk_f, zb_t, zb_f]; done) | (simp only [h1, h3, h9, h15, h21, h27, h33, h39, h45, h51, h57, h63, h69, zk_t, zk_f, zb_t, zb_f]; rfl) | rfl
def t_N_needPlace (x0 : Int32) : Nat := (bif (decide (x0 < 0)) then 3 else (bif (decide (x0 < (16 : Int32))) then 0 else 3))
set_option maxRecDepth 20000 in
set_option maxHeartbeats 2000000 in
theorem s_N_needPlace (L e : Nat) (J : zJem) (d : Nat) {M : zMem} (x0 : Int32) : zz_D (zm_N_needPlace, d + 8, 0, [some (.int x0)], []) (zt_T L, zt_R, M, J, e) = some (zx_o (t_N_needPlace x0) (none), (zt_T L, zt_R, M, J, zx_e (t_N_needPlace x0) e)) := by
  unfold t_N_needPlace
  refine (zz_go 1 (fr' := (zm_N_needPlace, d + 8, 1, [some (.int x0)], [.int x0])) (h' := (zt_T L, zt_R, M, J, e)) (fun _ => rfl)).trans ?_
  rcases zz_bc (decide (x0 < 0)) with h1 | h1
  · refine zo_ltT rfl h1 ?_
    refine zl_throw rfl rfl rfl ?_
    first | (simp only [h1, zk_t, zk_f, zb_t, zb_f]; done) | (simp only [h1, zk_t, zk_f, zb_t, zb_f]; rfl) | rfl
  · refine zo_ltF rfl h1 ?_
    refine (zz_go 2 (fr' := (zm_N_needPlace, d + 8, 7, [some (.int x0)], [.int (16 : Int32), .int x0])) (h' := (zt_T L, zt_R, M, J, e)) (fun _ => rfl)).trans ?_
    rcases zz_bc (decide (x0 < (16 : Int32))) with h2 | h2
    · refine zc_ltT rfl h2 ?_
      refine (zz_end 1 (r := (.inl none, (zt_T L, zt_R, M, J, e))) (fun _ => rfl)).trans ?_
      first | (simp only [h1, h2, zk_t, zk_f, zb_t, zb_f]; done) | (simp only [h1, h2, zk_t, zk_f, zb_t, zb_f]; rfl) | rfl
    · refine zc_ltF rfl h2 ?_
      refine zl_throw rfl rfl rfl ?_
      first | (simp only [h1, h2, zk_t, zk_f, zb_t, zb_f]; done) | (simp only [h1, h2, zk_t, zk_f, zb_t, zb_f]; rfl) | rfl
def v_N_mark (M : zMem) (x0 : Int32) (x1 : Int32) : Bool := (bif Nat.beq (t_N_needPerson M x0) 0 then (bif Nat.beq (t_N_needPlace x1) 0 then (bif (decide ((((M 9 (x0).toNatClampNeg) &&& (v_S_marksOf M 4 x0)) &&& (zsl (1 : Int32) x1)) = 0)) then false else true) else false) else false)
def t_N_mark (M : zMem) (x0 : Int32) (x1 : Int32) : Nat := (bif Nat.beq (t_N_needPerson M x0) 0 then (bif Nat.beq (t_N_needPlace x1) 0 then 0 else (t_N_needPlace x1)) else (t_N_needPerson M x0))
def ok_N_mark (M : zMem) (x0 : Int32) (x1 : Int32) : Prop := (Nat.beq (t_N_needPerson M x0) 0 = true → (Nat.beq (t_N_needPlace x1) 0 = true → (zz_in x0 6 = true ∧ ok_S_marksOf M 4 x0)))
set_option maxRecDepth 20000 in
set_option maxHeartbeats 2000000 in
theorem s_N_mark (L e : Nat) (J : zJem) (d : Nat) (M : zMem) (x0 : Int32) (x1 : Int32) (k0 : ok_N_mark M x0 x1) : zz_D (zm_N_mark, d + 9, 0, [some (.ref 1), some (.int x0), some (.int x1)], []) (zt_T L, zt_R, M, J, e) = some (zx_o (t_N_mark M x0 x1) (some (.int (zb (v_N_mark M x0 x1)))), (zt_T L, zt_R, M, J, zx_e (t_N_mark M x0 x1) e)) := by
  unfold ok_N_mark at k0
  unfold v_N_mark t_N_mark
  refine (zz_go 2 (fr' := (zm_N_mark, d + 9, 2, [some (.ref 1), some (.int x0), some (.int x1)], [.int x0, .ref 1])) (h' := (zt_T L, zt_R, M, J, e)) (fun _ => rfl)).trans ?_
  refine zl_vt (d := d + 8) rfl rfl rfl rfl rfl rfl rfl rfl rfl rfl (s_N_needPerson L e J (d + 0) M x0) ?_
  refine zl_aftV rfl (fun h1 => ?_) (fun h1 => ?_)
  rotate_left 1
  · skip
    rw [zx_oe h1 (some (.int (zb false)))]
    first | (simp only [h1, zk_t, zk_f, zb_t, zb_f]; done) | (simp only [h1, zk_t, zk_f, zb_t, zb_f]; rfl) | rfl
  have k2 := k0 h1
  show zz_D (zm_N_mark, d + 9, 5, [some (.ref 1), some (.int x0), some (.int x1)], []) (zt_T L, zt_R, M, J, e) = _
  refine (zz_go 1 (fr' := (zm_N_mark, d + 9, 6, [some (.ref 1), some (.int x0), some (.int x1)], [.int x1])) (h' := (zt_T L, zt_R, M, J, e)) (fun _ => rfl)).trans ?_
  refine zl_st (d := d + 8) rfl rfl rfl rfl rfl rfl rfl (s_N_needPlace L e J (d + 0) x1) ?_
  refine zl_aftV rfl (fun h3 => ?_) (fun h3 => ?_)
  rotate_left 1
  · skip
    rw [zx_oe h3 (some (.int (zb false)))]
    first | (simp only [h1, h3, zk_t, zk_f, zb_t, zb_f]; done) | (simp only [h1, h3, zk_t, zk_f, zb_t, zb_f]; rfl) | rfl
  have k4 := k2 h3
  show zz_D (zm_N_mark, d + 9, 9, [some (.ref 1), some (.int x0), some (.int x1)], []) (zt_T L, zt_R, M, J, e) = _
  refine (zz_go 1 (fr' := (zm_N_mark, d + 9, 10, [some (.ref 1), some (.int x0), some (.int x1)], [.ref 1])) (h' := (zt_T L, zt_R, M, J, e)) (fun _ => rfl)).trans ?_
  refine zl_getR rfl rfl rfl ?_
  refine zl_getR rfl rfl rfl ?_
  refine (zz_go 1 (fr' := (zm_N_mark, d + 9, 17, [some (.ref 1), some (.int x0), some (.int x1)], [.int x0, .ref 9])) (h' := (zt_T L, zt_R, M, J, e)) (fun _ => rfl)).trans ?_
  obtain ⟨g5, k6⟩ := k4
  refine zl_iaload rfl rfl g5 rfl ?_
  refine (zz_go 1 (fr' := (zm_N_mark, d + 9, 19, [some (.ref 1), some (.int x0), some (.int x1)], [.ref 1, .int (M 9 (x0).toNatClampNeg)])) (h' := (zt_T L, zt_R, M, J, e)) (fun _ => rfl)).trans ?_
  refine zl_getR rfl rfl rfl ?_
  refine (zz_go 1 (fr' := (zm_N_mark, d + 9, 23, [some (.ref 1), some (.int x0), some (.int x1)], [.int x0, .ref 4, .int (M 9 (x0).toNatClampNeg)])) (h' := (zt_T L, zt_R, M, J, e)) (fun _ => rfl)).trans ?_
  have g7 : ok_S_marksOf M 4 x0 := k6
  refine zl_vt (d := d + 8) rfl rfl rfl rfl rfl rfl rfl rfl rfl rfl (s_S_marksOf L e J (d + 6) M 4 x0 zt_St_4 g7) ?_
  show zz_D (zm_N_mark, d + 9, 26, [some (.ref 1), some (.int x0), some (.int x1)], [.int (v_S_marksOf M 4 x0), .int (M 9 (x0).toNatClampNeg)]) (zt_T L, zt_R, M, J, e) = _
  refine zz_jn (X := zz_D (zm_N_mark, d + 9, 39, [none, none, none], [.int (zb (bif (decide ((((M 9 (x0).toNatClampNeg) &&& (v_S_marksOf M 4 x0)) &&& (zsl (1 : Int32) x1)) = 0)) then false else true))]) (zt_T L, zt_R, M, J, e)) (fun j8 => ?_) ?_
  · refine (zz_go 5 (fr' := (zm_N_mark, d + 9, 31, [some (.ref 1), some (.int x0), some (.int x1)], [.int (((M 9 (x0).toNatClampNeg) &&& (v_S_marksOf M 4 x0)) &&& (zsl (1 : Int32) x1))])) (h' := (zt_T L, zt_R, M, J, e)) (fun _ => rfl)).trans ?_
    rcases zz_bc (decide ((((M 9 (x0).toNatClampNeg) &&& (v_S_marksOf M 4 x0)) &&& (zsl (1 : Int32) x1)) = 0)) with h9 | h9
    · refine zo_eqT rfl h9 ?_
      refine (zz_go 1 (fr' := (zm_N_mark, d + 9, 39, [some (.ref 1), some (.int x0), some (.int x1)], [.int (0 : Int32)])) (h' := (zt_T L, zt_R, M, J, e)) (fun _ => rfl)).trans ?_
      refine zz_weak (L := [none, none, none]) ⟨Or.inr ⟨rfl, rfl⟩, Or.inr ⟨rfl, rfl⟩, Or.inr ⟨rfl, rfl⟩, trivial⟩ ?_
      simpa only [h9, zk_t, zk_f, zb_t, zb_f] using j8
    · refine zo_eqF rfl h9 ?_
      refine (zz_go 2 (fr' := (zm_N_mark, d + 9, 39, [some (.ref 1), some (.int x0), some (.int x1)], [.int (1 : Int32)])) (h' := (zt_T L, zt_R, M, J, e)) (fun _ => rfl)).trans ?_
      refine zz_weak (L := [none, none, none]) ⟨Or.inr ⟨rfl, rfl⟩, Or.inr ⟨rfl, rfl⟩, Or.inr ⟨rfl, rfl⟩, trivial⟩ ?_
      simpa only [h9, zk_t, zk_f, zb_t, zb_f] using j8
  refine zl_retI rfl (zb_01 _) ?_
  first | (simp only [h1, h3, zk_t, zk_f, zb_t, zb_f]; done) | (simp only [h1, h3, zk_t, zk_f, zb_t, zb_f]; rfl) | rfl
def t_N_needYears (x0 : Int32) (x1 : Int32) : Nat := (bif (decide (x0 < 0)) then 1 else (bif (decide (x0 ≤ x1)) then 0 else 1))
set_option maxRecDepth 20000 in
set_option maxHeartbeats 2000000 in
theorem s_N_needYears (L e : Nat) (J : zJem) (d : Nat) {M : zMem} (x0 : Int32) (x1 : Int32) : zz_D (zm_N_needYears, d + 8, 0, [some (.int x0), some (.int x1)], []) (zt_T L, zt_R, M, J, e) = some (zx_o (t_N_needYears x0 x1) (none), (zt_T L, zt_R, M, J, zx_e (t_N_needYears x0 x1) e)) := by
  unfold t_N_needYears
  refine (zz_go 1 (fr' := (zm_N_needYears, d + 8, 1, [some (.int x0), some (.int x1)], [.int x0])) (h' := (zt_T L, zt_R, M, J, e)) (fun _ => rfl)).trans ?_
  rcases zz_bc (decide (x0 < 0)) with h1 | h1
  · refine zo_ltT rfl h1 ?_
    refine zl_throw rfl rfl rfl ?_
    first | (simp only [h1, zk_t, zk_f, zb_t, zb_f]; done) | (simp only [h1, zk_t, zk_f, zb_t, zb_f]; rfl) | rfl
  · refine zo_ltF rfl h1 ?_
    refine (zz_go 2 (fr' := (zm_N_needYears, d + 8, 6, [some (.int x0), some (.int x1)], [.int x1, .int x0])) (h' := (zt_T L, zt_R, M, J, e)) (fun _ => rfl)).trans ?_
    rcases zz_bc (decide (x0 ≤ x1)) with h2 | h2
    · refine zc_leT rfl h2 ?_
      refine (zz_end 1 (r := (.inl none, (zt_T L, zt_R, M, J, e))) (fun _ => rfl)).trans ?_
      first | (simp only [h1, h2, zk_t, zk_f, zb_t, zb_f]; done) | (simp only [h1, h2, zk_t, zk_f, zb_t, zb_f]; rfl) | rfl
    · refine zc_leF rfl h2 ?_
      refine zl_throw rfl rfl rfl ?_
      first | (simp only [h1, h2, zk_t, zk_f, zb_t, zb_f]; done) | (simp only [h1, h2, zk_t, zk_f, zb_t, zb_f]; rfl) | rfl
def f_N_years_1 (M : zMem) (x0 : Int32) (i1 : Nat) (a1 : Int32 × zMem) : Int32 × zMem := ((a1.1 + (v_S_passYear a1.2 4)), (w_S_passYear a1.2 4))
def kb_N_years_1 (M : zMem) (x0 : Int32) (i1 : Nat) (a1 : Int32 × zMem) : Prop := ok_S_passYear a1.2 4
def v_N_years (M : zMem) (x0 : Int32) : Int32 := (bif (decide ((1 : Int32) ≤ x0)) then (bif Nat.beq (t_N_needYears x0 (60 : Int32)) 0 then (zf_for x0.toNatClampNeg (f_N_years_1 M x0) ((0 : Int32), (w_A_remember M))).1 else 0) else 0)
def w_N_years (M : zMem) (x0 : Int32) : zMem := (bif (decide ((1 : Int32) ≤ x0)) then (bif Nat.beq (t_N_needYears x0 (60 : Int32)) 0 then (zf_for x0.toNatClampNeg (f_N_years_1 M x0) ((0 : Int32), (w_A_remember M))).2 else M) else M)
def t_N_years (M : zMem) (x0 : Int32) : Nat := (bif (decide ((1 : Int32) ≤ x0)) then (bif Nat.beq (t_N_needYears x0 (60 : Int32)) 0 then 0 else (t_N_needYears x0 (60 : Int32))) else 1)
def ok_N_years (M : zMem) (x0 : Int32) : Prop := ((decide ((1 : Int32) ≤ x0)) = true → (Nat.beq (t_N_needYears x0 (60 : Int32)) 0 = true → (ok_A_remember M ∧ (∀ i1, i1 < x0.toNatClampNeg → kb_N_years_1 M x0 i1 (zf_for i1 (f_N_years_1 M x0) ((0 : Int32), (w_A_remember M)))))))
set_option maxRecDepth 20000 in
set_option maxHeartbeats 2000000 in
theorem s_N_years (L e : Nat) (J : zJem) (d : Nat) (M : zMem) (x0 : Int32) (k0 : ok_N_years M x0) : zz_D (zm_N_years, d + 10, 0, [some (.ref 1), some (.int x0), none, none], []) (zt_T L, zt_R, M, J, e) = some (zx_o (t_N_years M x0) (some (.int (v_N_years M x0))), (zt_T L, zt_R, (w_N_years M x0), J, zx_e (t_N_years M x0) e)) := by
  unfold ok_N_years at k0
  unfold v_N_years w_N_years t_N_years
  refine (zz_go 2 (fr' := (zm_N_years, d + 10, 2, [some (.ref 1), some (.int x0), none, none], [.int (1 : Int32), .int x0])) (h' := (zt_T L, zt_R, M, J, e)) (fun _ => rfl)).trans ?_
  rcases zz_bc (decide ((1 : Int32) ≤ x0)) with h1 | h1
  · refine zc_geT rfl h1 ?_
    have k2 := k0 h1
    refine (zz_go 2 (fr' := (zm_N_years, d + 10, 18, [some (.ref 1), some (.int x0), none, none], [.int (60 : Int32), .int x0])) (h' := (zt_T L, zt_R, M, J, e)) (fun _ => rfl)).trans ?_
    refine zl_st (d := d + 9) rfl rfl rfl rfl rfl rfl rfl (s_N_needYears L e J (d + 1) x0 (60 : Int32)) ?_
    refine zl_aftV rfl (fun h3 => ?_) (fun h3 => ?_)
    rotate_left 1
    · skip
      rw [zx_oe h3 (some (.int 0))]
      first | (simp only [h1, h3, zk_t, zk_f, zb_t, zb_f]; done) | (simp only [h1, h3, zk_t, zk_f, zb_t, zb_f]; rfl) | rfl
    have k4 := k2 h3
    show zz_D (zm_N_years, d + 10, 21, [some (.ref 1), some (.int x0), none, none], []) (zt_T L, zt_R, M, J, e) = _
    refine (zz_go 1 (fr' := (zm_N_years, d + 10, 22, [some (.ref 1), some (.int x0), none, none], [.ref 1])) (h' := (zt_T L, zt_R, M, J, e)) (fun _ => rfl)).trans ?_
    refine zl_getR rfl rfl rfl ?_
    refine (zz_go 1 (fr' := (zm_N_years, d + 10, 26, [some (.ref 1), some (.int x0), none, none], [.ref 1, .ref 58])) (h' := (zt_T L, zt_R, M, J, e)) (fun _ => rfl)).trans ?_
    refine zl_getR rfl rfl rfl ?_
    obtain ⟨g5, k6⟩ := k4
    refine zl_vt (d := d + 9) rfl rfl rfl rfl rfl rfl rfl rfl rfl rfl (s_A_remember L e J (d + 0) M g5) ?_
    show zz_D (zm_N_years, d + 10, 32, [some (.ref 1), some (.int x0), none, none], []) (zt_T L, zt_R, (w_A_remember M), J, e) = _
    refine (zz_go 4 (fr' := (zm_N_years, d + 10, 36, [some (.ref 1), some (.int x0), some (.int (0 : Int32)), some (.int (0 : Int32))], [])) (h' := (zt_T L, zt_R, (w_A_remember M), J, e)) (fun _ => rfl)).trans ?_
    refine zf_forD (X := fun (i1 : Nat) (a1 : Int32 × zMem) => zz_D (zm_N_years, d + 10, 36, [some (.ref 1), some (.int x0), some (.int a1.1), some (.int (Int32.ofNat i1))], []) (zt_T L, zt_R, a1.2, J, e)) (f := (f_N_years_1 M x0)) (a := ((0 : Int32), (w_A_remember M))) x0.toNatClampNeg (fun i1 hi1 => ?_) ?_
    · intro hx7
      have k8 := k6 i1 hi1
      generalize zf_for i1 (f_N_years_1 M x0) ((0 : Int32), (w_A_remember M)) = a1 at hx7 k8 ⊢
      show zz_D (zm_N_years, d + 10, 36, [some (.ref 1), some (.int x0), some (.int a1.1), some (.int (Int32.ofNat i1))], []) (zt_T L, zt_R, a1.2, J, e) = _
      unfold kb_N_years_1 at k8
      refine (zz_go 2 (fr' := (zm_N_years, d + 10, 38, [some (.ref 1), some (.int x0), some (.int a1.1), some (.int (Int32.ofNat i1))], [.int x0, .int (Int32.ofNat i1)])) (h' := (zt_T L, zt_R, a1.2, J, e)) (fun _ => rfl)).trans ?_
      refine zc_geF rfl (zi_lt hi1) ?_
      refine (zz_go 2 (fr' := (zm_N_years, d + 10, 43, [some (.ref 1), some (.int x0), some (.int a1.1), some (.int (Int32.ofNat i1))], [.ref 1, .int a1.1])) (h' := (zt_T L, zt_R, a1.2, J, e)) (fun _ => rfl)).trans ?_
      refine zl_getR rfl rfl rfl ?_
      refine (zz_go 1 (fr' := (zm_N_years, d + 10, 47, [some (.ref 1), some (.int x0), some (.int a1.1), some (.int (Int32.ofNat i1))], [.ref 1, .ref 4, .int a1.1])) (h' := (zt_T L, zt_R, a1.2, J, e)) (fun _ => rfl)).trans ?_
      refine zl_getR rfl rfl rfl ?_
      have g9 : ok_S_passYear a1.2 4 := k8
      refine zl_vt (d := d + 9) rfl rfl rfl rfl rfl rfl rfl rfl rfl rfl (s_S_passYear L e J (d + 3) a1.2 4 zt_St_4 g9) ?_
      show zz_D (zm_N_years, d + 10, 53, [some (.ref 1), some (.int x0), some (.int a1.1), some (.int (Int32.ofNat i1))], [.int (v_S_passYear a1.2 4), .int a1.1]) (zt_T L, zt_R, (w_S_passYear a1.2 4), J, e) = _
      refine (zz_go 4 (fr' := (zm_N_years, d + 10, 36, [some (.ref 1), some (.int x0), some (.int (a1.1 + (v_S_passYear a1.2 4))), some (.int (Int32.ofNat i1 + 1))], [])) (h' := (zt_T L, zt_R, (w_S_passYear a1.2 4), J, e)) (fun _ => rfl)).trans ?_
      rw [zi_succ i1]
      exact hx7
    show zz_D (zm_N_years, d + 10, 36, [some (.ref 1), some (.int x0), some (.int (zf_for x0.toNatClampNeg (f_N_years_1 M x0) ((0 : Int32), (w_A_remember M))).1), some (.int (Int32.ofNat x0.toNatClampNeg))], []) (zt_T L, zt_R, (zf_for x0.toNatClampNeg (f_N_years_1 M x0) ((0 : Int32), (w_A_remember M))).2, J, e) = _
    refine (zz_go 2 (fr' := (zm_N_years, d + 10, 38, [some (.ref 1), some (.int x0), some (.int (zf_for x0.toNatClampNeg (f_N_years_1 M x0) ((0 : Int32), (w_A_remember M))).1), some (.int (Int32.ofNat x0.toNatClampNeg))], [.int x0, .int (Int32.ofNat x0.toNatClampNeg)])) (h' := (zt_T L, zt_R, (zf_for x0.toNatClampNeg (f_N_years_1 M x0) ((0 : Int32), (w_A_remember M))).2, J, e)) (fun _ => rfl)).trans ?_
    refine zc_geT rfl (zi_ge _) ?_
    refine zz_weak (L := [none, none, some (.int (zf_for x0.toNatClampNeg (f_N_years_1 M x0) ((0 : Int32), (w_A_remember M))).1), none]) ⟨Or.inr ⟨rfl, rfl⟩, Or.inr ⟨rfl, rfl⟩, Or.inl rfl, Or.inr ⟨rfl, rfl⟩, trivial⟩ ?_
    refine (zz_go 1 (fr' := (zm_N_years, d + 10, 62, [none, none, some (.int (zf_for x0.toNatClampNeg (f_N_years_1 M x0) ((0 : Int32), (w_A_remember M))).1), none], [.int (zf_for x0.toNatClampNeg (f_N_years_1 M x0) ((0 : Int32), (w_A_remember M))).1])) (h' := (zt_T L, zt_R, (zf_for x0.toNatClampNeg (f_N_years_1 M x0) ((0 : Int32), (w_A_remember M))).2, J, e)) (fun _ => rfl)).trans ?_
    refine zl_retI rfl rfl ?_
    first | (simp only [h1, h3, zk_t, zk_f, zb_t, zb_f]; done) | (simp only [h1, h3, zk_t, zk_f, zb_t, zb_f]; rfl) | rfl
  · refine zc_geF rfl h1 ?_
    refine zl_throw rfl rfl rfl ?_
    first | (simp only [h1, zk_t, zk_f, zb_t, zb_f]; done) | (simp only [h1, zk_t, zk_f, zb_t, zb_f]; rfl) | rfl
