/-! LIFTED: N_rub N_ink N_wash N_needDeed N_told N_hold N_does N_luck N_fill N_blank N_reach N_turned N_shifts N_ring N_deepest N_needRows N_rules N_ask N_now N_crew N_needBerths N_berths N_inks N_old N_clash N_pairs N_kin N_rests N_odds N_plain N_found N_soFar N_eldest N_famous N_twins N_tellers N_ahead N_tryYears N_trial N_span -/
def v_N_rub (M : zMem) (x0 : Int32) (x1 : Int32) : Bool := (bif Nat.beq (t_N_needPerson M x0) 0 then (bif Nat.beq (t_N_needPlace x1) 0 then (bif (decide (((M 9 (x0).toNatClampNeg) &&& (zsl (1 : Int32) x1)) = 0)) then (bif (decide (((v_S_marksOf (w_S_addRow (zz_up (w_A_remember M) 9 (x0).toNatClampNeg (((w_A_remember M) 9 (x0).toNatClampNeg) ||| (zsl (1 : Int32) x1))) 4 x0 (1 : Int32) x1) 4 x0) &&& (zsl (1 : Int32) x1)) = 0)) then false else true) else false) else false) else false)
def w_N_rub (M : zMem) (x0 : Int32) (x1 : Int32) : zMem := (bif Nat.beq (t_N_needPerson M x0) 0 then (bif Nat.beq (t_N_needPlace x1) 0 then (bif (decide (((M 9 (x0).toNatClampNeg) &&& (zsl (1 : Int32) x1)) = 0)) then (w_S_addRow (zz_up (w_A_remember M) 9 (x0).toNatClampNeg (((w_A_remember M) 9 (x0).toNatClampNeg) ||| (zsl (1 : Int32) x1))) 4 x0 (1 : Int32) x1) else M) else M) else M)
def t_N_rub (M : zMem) (x0 : Int32) (x1 : Int32) : Nat := (bif Nat.beq (t_N_needPerson M x0) 0 then (bif Nat.beq (t_N_needPlace x1) 0 then (bif (decide (((M 9 (x0).toNatClampNeg) &&& (zsl (1 : Int32) x1)) = 0)) then 0 else 5) else (t_N_needPlace x1)) else (t_N_needPerson M x0))
def ok_N_rub (M : zMem) (x0 : Int32) (x1 : Int32) : Prop := (Nat.beq (t_N_needPerson M x0) 0 = true → (Nat.beq (t_N_needPlace x1) 0 = true → (zz_in x0 6 = true ∧ ((decide (((M 9 (x0).toNatClampNeg) &&& (zsl (1 : Int32) x1)) = 0)) = true → (ok_A_remember M ∧ (ok_S_addRow (zz_up (w_A_remember M) 9 (x0).toNatClampNeg (((w_A_remember M) 9 (x0).toNatClampNeg) ||| (zsl (1 : Int32) x1))) 4 x0 (1 : Int32) x1 ∧ ok_S_marksOf (w_S_addRow (zz_up (w_A_remember M) 9 (x0).toNatClampNeg (((w_A_remember M) 9 (x0).toNatClampNeg) ||| (zsl (1 : Int32) x1))) 4 x0 (1 : Int32) x1) 4 x0))))))
set_option maxRecDepth 20000 in
set_option maxHeartbeats 2000000 in
theorem s_N_rub (L e : Nat) (J : zJem) (d : Nat) (M : zMem) (x0 : Int32) (x1 : Int32) (k0 : ok_N_rub M x0 x1) : zz_D (zm_N_rub, d + 10, 0, [some (.ref 1), some (.int x0), some (.int x1), none], []) (zt_T L, zt_R, M, J, e) = some (zx_o (t_N_rub M x0 x1) (some (.int (zb (v_N_rub M x0 x1)))), (zt_T L, zt_R, (w_N_rub M x0 x1), J, zx_e (t_N_rub M x0 x1) e)) := by
  unfold ok_N_rub at k0
  unfold v_N_rub w_N_rub t_N_rub
  refine (zz_go 2 (fr' := (zm_N_rub, d + 10, 2, [some (.ref 1), some (.int x0), some (.int x1), none], [.int x0, .ref 1])) (h' := (zt_T L, zt_R, M, J, e)) (fun _ => rfl)).trans ?_
  refine zl_vt (d := d + 9) rfl rfl rfl rfl rfl rfl rfl rfl rfl rfl (s_N_needPerson L e J (d + 1) M x0) ?_
  refine zl_aftV rfl (fun h1 => ?_) (fun h1 => ?_)
  rotate_left 1
  · skip
    rw [zx_oe h1 (some (.int (zb false)))]
    first | (simp only [h1, zk_t, zk_f, zb_t, zb_f]; done) | (simp only [h1, zk_t, zk_f, zb_t, zb_f]; rfl) | rfl
  have k2 := k0 h1
  show zz_D (zm_N_rub, d + 10, 5, [some (.ref 1), some (.int x0), some (.int x1), none], []) (zt_T L, zt_R, M, J, e) = _
  refine (zz_go 1 (fr' := (zm_N_rub, d + 10, 6, [some (.ref 1), some (.int x0), some (.int x1), none], [.int x1])) (h' := (zt_T L, zt_R, M, J, e)) (fun _ => rfl)).trans ?_
  refine zl_st (d := d + 9) rfl rfl rfl rfl rfl rfl rfl (s_N_needPlace L e J (d + 1) x1) ?_
  refine zl_aftV rfl (fun h3 => ?_) (fun h3 => ?_)
  rotate_left 1
  · skip
    rw [zx_oe h3 (some (.int (zb false)))]
    first | (simp only [h1, h3, zk_t, zk_f, zb_t, zb_f]; done) | (simp only [h1, h3, zk_t, zk_f, zb_t, zb_f]; rfl) | rfl
  have k4 := k2 h3
  show zz_D (zm_N_rub, d + 10, 9, [some (.ref 1), some (.int x0), some (.int x1), none], []) (zt_T L, zt_R, M, J, e) = _
  refine (zz_go 5 (fr' := (zm_N_rub, d + 10, 14, [some (.ref 1), some (.int x0), some (.int x1), some (.int (zsl (1 : Int32) x1))], [.ref 1])) (h' := (zt_T L, zt_R, M, J, e)) (fun _ => rfl)).trans ?_
  refine zl_getR rfl rfl rfl ?_
  refine zl_getR rfl rfl rfl ?_
  refine (zz_go 1 (fr' := (zm_N_rub, d + 10, 21, [some (.ref 1), some (.int x0), some (.int x1), some (.int (zsl (1 : Int32) x1))], [.int x0, .ref 9])) (h' := (zt_T L, zt_R, M, J, e)) (fun _ => rfl)).trans ?_
  obtain ⟨g5, k6⟩ := k4
  refine zl_iaload rfl rfl g5 rfl ?_
  refine (zz_go 2 (fr' := (zm_N_rub, d + 10, 24, [some (.ref 1), some (.int x0), some (.int x1), some (.int (zsl (1 : Int32) x1))], [.int ((M 9 (x0).toNatClampNeg) &&& (zsl (1 : Int32) x1))])) (h' := (zt_T L, zt_R, M, J, e)) (fun _ => rfl)).trans ?_
  rcases zz_bc (decide (((M 9 (x0).toNatClampNeg) &&& (zsl (1 : Int32) x1)) = 0)) with h7 | h7
  · refine zo_eqT rfl h7 ?_
    have k8 := k6 h7
    refine (zz_go 1 (fr' := (zm_N_rub, d + 10, 38, [some (.ref 1), some (.int x0), some (.int x1), some (.int (zsl (1 : Int32) x1))], [.ref 1])) (h' := (zt_T L, zt_R, M, J, e)) (fun _ => rfl)).trans ?_
    refine zl_getR rfl rfl rfl ?_
    refine (zz_go 1 (fr' := (zm_N_rub, d + 10, 42, [some (.ref 1), some (.int x0), some (.int x1), some (.int (zsl (1 : Int32) x1))], [.ref 1, .ref 58])) (h' := (zt_T L, zt_R, M, J, e)) (fun _ => rfl)).trans ?_
    refine zl_getR rfl rfl rfl ?_
    obtain ⟨g9, k10⟩ := k8
    refine zl_vt (d := d + 9) rfl rfl rfl rfl rfl rfl rfl rfl rfl rfl (s_A_remember L e J (d + 0) M g9) ?_
    show zz_D (zm_N_rub, d + 10, 48, [some (.ref 1), some (.int x0), some (.int x1), some (.int (zsl (1 : Int32) x1))], []) (zt_T L, zt_R, (w_A_remember M), J, e) = _
    refine (zz_go 1 (fr' := (zm_N_rub, d + 10, 49, [some (.ref 1), some (.int x0), some (.int x1), some (.int (zsl (1 : Int32) x1))], [.ref 1])) (h' := (zt_T L, zt_R, (w_A_remember M), J, e)) (fun _ => rfl)).trans ?_
    refine zl_getR rfl rfl rfl ?_
    refine zl_getR rfl rfl rfl ?_
    refine (zz_go 2 (fr' := (zm_N_rub, d + 10, 57, [some (.ref 1), some (.int x0), some (.int x1), some (.int (zsl (1 : Int32) x1))], [.int x0, .ref 9, .int x0, .ref 9])) (h' := (zt_T L, zt_R, (w_A_remember M), J, e)) (fun _ => rfl)).trans ?_
    refine zl_iaload rfl rfl g5 rfl ?_
    refine (zz_go 2 (fr' := (zm_N_rub, d + 10, 60, [some (.ref 1), some (.int x0), some (.int x1), some (.int (zsl (1 : Int32) x1))], [.int (((w_A_remember M) 9 (x0).toNatClampNeg) ||| (zsl (1 : Int32) x1)), .int x0, .ref 9])) (h' := (zt_T L, zt_R, (w_A_remember M), J, e)) (fun _ => rfl)).trans ?_
    refine zl_iastore rfl rfl g5 rfl rfl ?_
    refine (zz_go 1 (fr' := (zm_N_rub, d + 10, 62, [some (.ref 1), some (.int x0), some (.int x1), some (.int (zsl (1 : Int32) x1))], [.ref 1])) (h' := (zt_T L, zt_R, (zz_up (w_A_remember M) 9 (x0).toNatClampNeg (((w_A_remember M) 9 (x0).toNatClampNeg) ||| (zsl (1 : Int32) x1))), J, e)) (fun _ => rfl)).trans ?_
    refine zl_getR rfl rfl rfl ?_
    refine (zz_go 3 (fr' := (zm_N_rub, d + 10, 68, [some (.ref 1), some (.int x0), some (.int x1), some (.int (zsl (1 : Int32) x1))], [.int x1, .int (1 : Int32), .int x0, .ref 4])) (h' := (zt_T L, zt_R, (zz_up (w_A_remember M) 9 (x0).toNatClampNeg (((w_A_remember M) 9 (x0).toNatClampNeg) ||| (zsl (1 : Int32) x1))), J, e)) (fun _ => rfl)).trans ?_
    obtain ⟨g11, k12⟩ := k10
    refine zl_vt (d := d + 9) rfl rfl rfl rfl rfl rfl rfl rfl rfl rfl (s_S_addRow L e J (d + 7) (zz_up (w_A_remember M) 9 (x0).toNatClampNeg (((w_A_remember M) 9 (x0).toNatClampNeg) ||| (zsl (1 : Int32) x1))) 4 x0 (1 : Int32) x1 zt_St_4 g11) ?_
    show zz_D (zm_N_rub, d + 10, 71, [some (.ref 1), some (.int x0), some (.int x1), some (.int (zsl (1 : Int32) x1))], []) (zt_T L, zt_R, (w_S_addRow (zz_up (w_A_remember M) 9 (x0).toNatClampNeg (((w_A_remember M) 9 (x0).toNatClampNeg) ||| (zsl (1 : Int32) x1))) 4 x0 (1 : Int32) x1), J, e) = _
    refine (zz_go 1 (fr' := (zm_N_rub, d + 10, 72, [some (.ref 1), some (.int x0), some (.int x1), some (.int (zsl (1 : Int32) x1))], [.ref 1])) (h' := (zt_T L, zt_R, (w_S_addRow (zz_up (w_A_remember M) 9 (x0).toNatClampNeg (((w_A_remember M) 9 (x0).toNatClampNeg) ||| (zsl (1 : Int32) x1))) 4 x0 (1 : Int32) x1), J, e)) (fun _ => rfl)).trans ?_
    refine zl_getR rfl rfl rfl ?_
    refine (zz_go 1 (fr' := (zm_N_rub, d + 10, 76, [some (.ref 1), some (.int x0), some (.int x1), some (.int (zsl (1 : Int32) x1))], [.int x0, .ref 4])) (h' := (zt_T L, zt_R, (w_S_addRow (zz_up (w_A_remember M) 9 (x0).toNatClampNeg (((w_A_remember M) 9 (x0).toNatClampNeg) ||| (zsl (1 : Int32) x1))) 4 x0 (1 : Int32) x1), J, e)) (fun _ => rfl)).trans ?_
    have g13 : ok_S_marksOf (w_S_addRow (zz_up (w_A_remember M) 9 (x0).toNatClampNeg (((w_A_remember M) 9 (x0).toNatClampNeg) ||| (zsl (1 : Int32) x1))) 4 x0 (1 : Int32) x1) 4 x0 := k12
    refine zl_vt (d := d + 9) rfl rfl rfl rfl rfl rfl rfl rfl rfl rfl (s_S_marksOf L e J (d + 7) (w_S_addRow (zz_up (w_A_remember M) 9 (x0).toNatClampNeg (((w_A_remember M) 9 (x0).toNatClampNeg) ||| (zsl (1 : Int32) x1))) 4 x0 (1 : Int32) x1) 4 x0 zt_St_4 g13) ?_
    show zz_D (zm_N_rub, d + 10, 79, [some (.ref 1), some (.int x0), some (.int x1), some (.int (zsl (1 : Int32) x1))], [.int (v_S_marksOf (w_S_addRow (zz_up (w_A_remember M) 9 (x0).toNatClampNeg (((w_A_remember M) 9 (x0).toNatClampNeg) ||| (zsl (1 : Int32) x1))) 4 x0 (1 : Int32) x1) 4 x0)]) (zt_T L, zt_R, (w_S_addRow (zz_up (w_A_remember M) 9 (x0).toNatClampNeg (((w_A_remember M) 9 (x0).toNatClampNeg) ||| (zsl (1 : Int32) x1))) 4 x0 (1 : Int32) x1), J, e) = _
    refine zz_jn (X := zz_D (zm_N_rub, d + 10, 89, [none, none, none, none], [.int (zb (bif (decide (((v_S_marksOf (w_S_addRow (zz_up (w_A_remember M) 9 (x0).toNatClampNeg (((w_A_remember M) 9 (x0).toNatClampNeg) ||| (zsl (1 : Int32) x1))) 4 x0 (1 : Int32) x1) 4 x0) &&& (zsl (1 : Int32) x1)) = 0)) then false else true))]) (zt_T L, zt_R, (w_S_addRow (zz_up (w_A_remember M) 9 (x0).toNatClampNeg (((w_A_remember M) 9 (x0).toNatClampNeg) ||| (zsl (1 : Int32) x1))) 4 x0 (1 : Int32) x1), J, e)) (fun j14 => ?_) ?_
    · refine (zz_go 2 (fr' := (zm_N_rub, d + 10, 81, [some (.ref 1), some (.int x0), some (.int x1), some (.int (zsl (1 : Int32) x1))], [.int ((v_S_marksOf (w_S_addRow (zz_up (w_A_remember M) 9 (x0).toNatClampNeg (((w_A_remember M) 9 (x0).toNatClampNeg) ||| (zsl (1 : Int32) x1))) 4 x0 (1 : Int32) x1) 4 x0) &&& (zsl (1 : Int32) x1))])) (h' := (zt_T L, zt_R, (w_S_addRow (zz_up (w_A_remember M) 9 (x0).toNatClampNeg (((w_A_remember M) 9 (x0).toNatClampNeg) ||| (zsl (1 : Int32) x1))) 4 x0 (1 : Int32) x1), J, e)) (fun _ => rfl)).trans ?_
      rcases zz_bc (decide (((v_S_marksOf (w_S_addRow (zz_up (w_A_remember M) 9 (x0).toNatClampNeg (((w_A_remember M) 9 (x0).toNatClampNeg) ||| (zsl (1 : Int32) x1))) 4 x0 (1 : Int32) x1) 4 x0) &&& (zsl (1 : Int32) x1)) = 0)) with h15 | h15
      · refine zo_eqT rfl h15 ?_
        refine (zz_go 1 (fr' := (zm_N_rub, d + 10, 89, [some (.ref 1), some (.int x0), some (.int x1), some (.int (zsl (1 : Int32) x1))], [.int (0 : Int32)])) (h' := (zt_T L, zt_R, (w_S_addRow (zz_up (w_A_remember M) 9 (x0).toNatClampNeg (((w_A_remember M) 9 (x0).toNatClampNeg) ||| (zsl (1 : Int32) x1))) 4 x0 (1 : Int32) x1), J, e)) (fun _ => rfl)).trans ?_
        refine zz_weak (L := [none, none, none, none]) ⟨Or.inr ⟨rfl, rfl⟩, Or.inr ⟨rfl, rfl⟩, Or.inr ⟨rfl, rfl⟩, Or.inr ⟨rfl, rfl⟩, trivial⟩ ?_
        simpa only [h15, zk_t, zk_f, zb_t, zb_f] using j14
      · refine zo_eqF rfl h15 ?_
        refine (zz_go 2 (fr' := (zm_N_rub, d + 10, 89, [some (.ref 1), some (.int x0), some (.int x1), some (.int (zsl (1 : Int32) x1))], [.int (1 : Int32)])) (h' := (zt_T L, zt_R, (w_S_addRow (zz_up (w_A_remember M) 9 (x0).toNatClampNeg (((w_A_remember M) 9 (x0).toNatClampNeg) ||| (zsl (1 : Int32) x1))) 4 x0 (1 : Int32) x1), J, e)) (fun _ => rfl)).trans ?_
        refine zz_weak (L := [none, none, none, none]) ⟨Or.inr ⟨rfl, rfl⟩, Or.inr ⟨rfl, rfl⟩, Or.inr ⟨rfl, rfl⟩, Or.inr ⟨rfl, rfl⟩, trivial⟩ ?_
        simpa only [h15, zk_t, zk_f, zb_t, zb_f] using j14
    refine zl_retI rfl (zb_01 _) ?_
    first | (simp only [h1, h3, h7, zk_t, zk_f, zb_t, zb_f]; done) | (simp only [h1, h3, h7, zk_t, zk_f, zb_t, zb_f]; rfl) | rfl
  · refine zo_eqF rfl h7 ?_
    refine zl_throw rfl rfl rfl ?_
    first | (simp only [h1, h3, h7, zk_t, zk_f, zb_t, zb_f]; done) | (simp only [h1, h3, h7, zk_t, zk_f, zb_t, zb_f]; rfl) | rfl
def v_N_ink (M : zMem) (x0 : Int32) (x1 : Int32) : Int32 := (bif Nat.beq (t_N_needPerson M x0) 0 then (bif Nat.beq (t_N_needKind x1) 0 then (bif (v_S_isPlain M 4 x0) then (bif (decide ((10 : Int32) ≤ (M 4 13))) then ((w_S_addRow (zz_up (zz_up (w_A_remember M) 8 (x0).toNatClampNeg x1) 4 13 (((w_A_remember M) 4 13) - (10 : Int32))) 4 x0 (3 : Int32) x1) 4 13) else 0) else 0) else 0) else 0)
def w_N_ink (M : zMem) (x0 : Int32) (x1 : Int32) : zMem := (bif Nat.beq (t_N_needPerson M x0) 0 then (bif Nat.beq (t_N_needKind x1) 0 then (bif (v_S_isPlain M 4 x0) then (bif (decide ((10 : Int32) ≤ (M 4 13))) then (w_S_addRow (zz_up (zz_up (w_A_remember M) 8 (x0).toNatClampNeg x1) 4 13 (((w_A_remember M) 4 13) - (10 : Int32))) 4 x0 (3 : Int32) x1) else M) else M) else M) else M)
def t_N_ink (M : zMem) (x0 : Int32) (x1 : Int32) : Nat := (bif Nat.beq (t_N_needPerson M x0) 0 then (bif Nat.beq (t_N_needKind x1) 0 then (bif (v_S_isPlain M 4 x0) then (bif (decide ((10 : Int32) ≤ (M 4 13))) then 0 else 5) else 5) else (t_N_needKind x1)) else (t_N_needPerson M x0))
def ok_N_ink (M : zMem) (x0 : Int32) (x1 : Int32) : Prop := (Nat.beq (t_N_needPerson M x0) 0 = true → (Nat.beq (t_N_needKind x1) 0 = true → (ok_S_isPlain M 4 x0 ∧ ((v_S_isPlain M 4 x0) = true → ((decide ((10 : Int32) ≤ (M 4 13))) = true → (ok_A_remember M ∧ (zz_in x0 6 = true ∧ ok_S_addRow (zz_up (zz_up (w_A_remember M) 8 (x0).toNatClampNeg x1) 4 13 (((w_A_remember M) 4 13) - (10 : Int32))) 4 x0 (3 : Int32) x1)))))))
set_option maxRecDepth 20000 in
set_option maxHeartbeats 2000000 in
theorem s_N_ink (L e : Nat) (J : zJem) (d : Nat) (M : zMem) (x0 : Int32) (x1 : Int32) (k0 : ok_N_ink M x0 x1) : zz_D (zm_N_ink, d + 10, 0, [some (.ref 1), some (.int x0), some (.int x1)], []) (zt_T L, zt_R, M, J, e) = some (zx_o (t_N_ink M x0 x1) (some (.int (v_N_ink M x0 x1))), (zt_T L, zt_R, (w_N_ink M x0 x1), J, zx_e (t_N_ink M x0 x1) e)) := by
  unfold ok_N_ink at k0
  unfold v_N_ink w_N_ink t_N_ink
  refine (zz_go 2 (fr' := (zm_N_ink, d + 10, 2, [some (.ref 1), some (.int x0), some (.int x1)], [.int x0, .ref 1])) (h' := (zt_T L, zt_R, M, J, e)) (fun _ => rfl)).trans ?_
  refine zl_vt (d := d + 9) rfl rfl rfl rfl rfl rfl rfl rfl rfl rfl (s_N_needPerson L e J (d + 1) M x0) ?_
  refine zl_aftV rfl (fun h1 => ?_) (fun h1 => ?_)
  rotate_left 1
  · skip
    rw [zx_oe h1 (some (.int 0))]
    first | (simp only [h1, zk_t, zk_f, zb_t, zb_f]; done) | (simp only [h1, zk_t, zk_f, zb_t, zb_f]; rfl) | rfl
  have k2 := k0 h1
  show zz_D (zm_N_ink, d + 10, 5, [some (.ref 1), some (.int x0), some (.int x1)], []) (zt_T L, zt_R, M, J, e) = _
  refine (zz_go 1 (fr' := (zm_N_ink, d + 10, 6, [some (.ref 1), some (.int x0), some (.int x1)], [.int x1])) (h' := (zt_T L, zt_R, M, J, e)) (fun _ => rfl)).trans ?_
  refine zl_st (d := d + 9) rfl rfl rfl rfl rfl rfl rfl (s_N_needKind L e J (d + 1) x1) ?_
  refine zl_aftV rfl (fun h3 => ?_) (fun h3 => ?_)
  rotate_left 1
  · skip
    rw [zx_oe h3 (some (.int 0))]
    first | (simp only [h1, h3, zk_t, zk_f, zb_t, zb_f]; done) | (simp only [h1, h3, zk_t, zk_f, zb_t, zb_f]; rfl) | rfl
  have k4 := k2 h3
  show zz_D (zm_N_ink, d + 10, 9, [some (.ref 1), some (.int x0), some (.int x1)], []) (zt_T L, zt_R, M, J, e) = _
  refine (zz_go 1 (fr' := (zm_N_ink, d + 10, 10, [some (.ref 1), some (.int x0), some (.int x1)], [.ref 1])) (h' := (zt_T L, zt_R, M, J, e)) (fun _ => rfl)).trans ?_
  refine zl_getR rfl rfl rfl ?_
  refine (zz_go 1 (fr' := (zm_N_ink, d + 10, 14, [some (.ref 1), some (.int x0), some (.int x1)], [.int x0, .ref 4])) (h' := (zt_T L, zt_R, M, J, e)) (fun _ => rfl)).trans ?_
  obtain ⟨g5, k6⟩ := k4
  refine zl_vt (d := d + 9) rfl rfl rfl rfl rfl rfl rfl rfl rfl rfl (s_S_isPlain L e J (d + 8) M 4 x0 zt_St_4 g5) ?_
  show zz_D (zm_N_ink, d + 10, 17, [some (.ref 1), some (.int x0), some (.int x1)], [.int (zb (v_S_isPlain M 4 x0))]) (zt_T L, zt_R, M, J, e) = _
  rcases zz_bc (v_S_isPlain M 4 x0) with h7 | h7
  · refine zq_eT rfl h7 ?_
    have k8 := k6 h7
    refine (zz_go 1 (fr' := (zm_N_ink, d + 10, 21, [some (.ref 1), some (.int x0), some (.int x1)], [.ref 1])) (h' := (zt_T L, zt_R, M, J, e)) (fun _ => rfl)).trans ?_
    refine zl_getR rfl rfl rfl ?_
    refine zl_getI rfl (by decide) rfl rfl ?_
    refine (zz_go 1 (fr' := (zm_N_ink, d + 10, 29, [some (.ref 1), some (.int x0), some (.int x1)], [.int (10 : Int32), .int (M 4 13)])) (h' := (zt_T L, zt_R, M, J, e)) (fun _ => rfl)).trans ?_
    rcases zz_bc (decide ((10 : Int32) ≤ (M 4 13))) with h9 | h9
    · refine zc_geT rfl h9 ?_
      have k10 := k8 h9
      refine (zz_go 1 (fr' := (zm_N_ink, d + 10, 43, [some (.ref 1), some (.int x0), some (.int x1)], [.ref 1])) (h' := (zt_T L, zt_R, M, J, e)) (fun _ => rfl)).trans ?_
      refine zl_getR rfl rfl rfl ?_
      refine (zz_go 1 (fr' := (zm_N_ink, d + 10, 47, [some (.ref 1), some (.int x0), some (.int x1)], [.ref 1, .ref 58])) (h' := (zt_T L, zt_R, M, J, e)) (fun _ => rfl)).trans ?_
      refine zl_getR rfl rfl rfl ?_
      obtain ⟨g11, k12⟩ := k10
      refine zl_vt (d := d + 9) rfl rfl rfl rfl rfl rfl rfl rfl rfl rfl (s_A_remember L e J (d + 0) M g11) ?_
      show zz_D (zm_N_ink, d + 10, 53, [some (.ref 1), some (.int x0), some (.int x1)], []) (zt_T L, zt_R, (w_A_remember M), J, e) = _
      refine (zz_go 1 (fr' := (zm_N_ink, d + 10, 54, [some (.ref 1), some (.int x0), some (.int x1)], [.ref 1])) (h' := (zt_T L, zt_R, (w_A_remember M), J, e)) (fun _ => rfl)).trans ?_
      refine zl_getR rfl rfl rfl ?_
      refine zl_getR rfl rfl rfl ?_
      refine (zz_go 2 (fr' := (zm_N_ink, d + 10, 62, [some (.ref 1), some (.int x0), some (.int x1)], [.int x1, .int x0, .ref 8])) (h' := (zt_T L, zt_R, (w_A_remember M), J, e)) (fun _ => rfl)).trans ?_
      obtain ⟨g13, k14⟩ := k12
      refine zl_iastore rfl rfl g13 rfl rfl ?_
      refine (zz_go 1 (fr' := (zm_N_ink, d + 10, 64, [some (.ref 1), some (.int x0), some (.int x1)], [.ref 1])) (h' := (zt_T L, zt_R, (zz_up (w_A_remember M) 8 (x0).toNatClampNeg x1), J, e)) (fun _ => rfl)).trans ?_
      refine zl_getR rfl rfl rfl ?_
      refine (zz_go 1 (fr' := (zm_N_ink, d + 10, 68, [some (.ref 1), some (.int x0), some (.int x1)], [.ref 4, .ref 4])) (h' := (zt_T L, zt_R, (zz_up (w_A_remember M) 8 (x0).toNatClampNeg x1), J, e)) (fun _ => rfl)).trans ?_
      refine zl_getI rfl (by decide) rfl ((zu_ne (rfl)).trans rfl) ?_
      refine (zz_go 2 (fr' := (zm_N_ink, d + 10, 74, [some (.ref 1), some (.int x0), some (.int x1)], [.int (((w_A_remember M) 4 13) - (10 : Int32)), .ref 4])) (h' := (zt_T L, zt_R, (zz_up (w_A_remember M) 8 (x0).toNatClampNeg x1), J, e)) (fun _ => rfl)).trans ?_
      refine zl_putI rfl rfl rfl rfl ?_
      refine (zz_go 1 (fr' := (zm_N_ink, d + 10, 78, [some (.ref 1), some (.int x0), some (.int x1)], [.ref 1])) (h' := (zt_T L, zt_R, (zz_up (zz_up (w_A_remember M) 8 (x0).toNatClampNeg x1) 4 13 (((w_A_remember M) 4 13) - (10 : Int32))), J, e)) (fun _ => rfl)).trans ?_
      refine zl_getR rfl rfl rfl ?_
      refine (zz_go 3 (fr' := (zm_N_ink, d + 10, 84, [some (.ref 1), some (.int x0), some (.int x1)], [.int x1, .int (3 : Int32), .int x0, .ref 4])) (h' := (zt_T L, zt_R, (zz_up (zz_up (w_A_remember M) 8 (x0).toNatClampNeg x1) 4 13 (((w_A_remember M) 4 13) - (10 : Int32))), J, e)) (fun _ => rfl)).trans ?_
      have g15 : ok_S_addRow (zz_up (zz_up (w_A_remember M) 8 (x0).toNatClampNeg x1) 4 13 (((w_A_remember M) 4 13) - (10 : Int32))) 4 x0 (3 : Int32) x1 := k14
      refine zl_vt (d := d + 9) rfl rfl rfl rfl rfl rfl rfl rfl rfl rfl (s_S_addRow L e J (d + 7) (zz_up (zz_up (w_A_remember M) 8 (x0).toNatClampNeg x1) 4 13 (((w_A_remember M) 4 13) - (10 : Int32))) 4 x0 (3 : Int32) x1 zt_St_4 g15) ?_
      show zz_D (zm_N_ink, d + 10, 87, [some (.ref 1), some (.int x0), some (.int x1)], []) (zt_T L, zt_R, (w_S_addRow (zz_up (zz_up (w_A_remember M) 8 (x0).toNatClampNeg x1) 4 13 (((w_A_remember M) 4 13) - (10 : Int32))) 4 x0 (3 : Int32) x1), J, e) = _
      refine (zz_go 1 (fr' := (zm_N_ink, d + 10, 88, [some (.ref 1), some (.int x0), some (.int x1)], [.ref 1])) (h' := (zt_T L, zt_R, (w_S_addRow (zz_up (zz_up (w_A_remember M) 8 (x0).toNatClampNeg x1) 4 13 (((w_A_remember M) 4 13) - (10 : Int32))) 4 x0 (3 : Int32) x1), J, e)) (fun _ => rfl)).trans ?_
      refine zl_getR rfl rfl rfl ?_
      refine zl_getI rfl (by decide) rfl rfl ?_
      refine zl_retI rfl rfl ?_
      first | (simp only [h1, h3, h7, h9, zk_t, zk_f, zb_t, zb_f]; done) | (simp only [h1, h3, h7, h9, zk_t, zk_f, zb_t, zb_f]; rfl) | rfl
    · refine zc_geF rfl h9 ?_
      refine zl_throw rfl rfl rfl ?_
      first | (simp only [h1, h3, h7, h9, zk_t, zk_f, zb_t, zb_f]; done) | (simp only [h1, h3, h7, h9, zk_t, zk_f, zb_t, zb_f]; rfl) | rfl
  · refine zq_eF rfl h7 ?_
    refine zl_throw rfl rfl rfl ?_
    first | (simp only [h1, h3, h7, zk_t, zk_f, zb_t, zb_f]; done) | (simp only [h1, h3, h7, zk_t, zk_f, zb_t, zb_f]; rfl) | rfl
def v_N_wash (M : zMem) (x0 : Int32) : Int32 := (bif Nat.beq (t_N_needPerson M x0) 0 then ((w_A_remember M) 9 (x0).toNatClampNeg) else 0)
def w_N_wash (M : zMem) (x0 : Int32) : zMem := (bif Nat.beq (t_N_needPerson M x0) 0 then (zz_up (w_A_remember M) 9 (x0).toNatClampNeg (0 : Int32)) else M)
def t_N_wash (M : zMem) (x0 : Int32) : Nat := (bif Nat.beq (t_N_needPerson M x0) 0 then 0 else (t_N_needPerson M x0))
def ok_N_wash (M : zMem) (x0 : Int32) : Prop := (Nat.beq (t_N_needPerson M x0) 0 = true → (ok_A_remember M ∧ zz_in x0 6 = true))
set_option maxRecDepth 20000 in
set_option maxHeartbeats 2000000 in
theorem s_N_wash (L e : Nat) (J : zJem) (d : Nat) (M : zMem) (x0 : Int32) (k0 : ok_N_wash M x0) : zz_D (zm_N_wash, d + 10, 0, [some (.ref 1), some (.int x0), none], []) (zt_T L, zt_R, M, J, e) = some (zx_o (t_N_wash M x0) (some (.int (v_N_wash M x0))), (zt_T L, zt_R, (w_N_wash M x0), J, zx_e (t_N_wash M x0) e)) := by
  unfold ok_N_wash at k0
  unfold v_N_wash w_N_wash t_N_wash
  refine (zz_go 2 (fr' := (zm_N_wash, d + 10, 2, [some (.ref 1), some (.int x0), none], [.int x0, .ref 1])) (h' := (zt_T L, zt_R, M, J, e)) (fun _ => rfl)).trans ?_
  refine zl_vt (d := d + 9) rfl rfl rfl rfl rfl rfl rfl rfl rfl rfl (s_N_needPerson L e J (d + 1) M x0) ?_
  refine zl_aftV rfl (fun h1 => ?_) (fun h1 => ?_)
  rotate_left 1
  · skip
    rw [zx_oe h1 (some (.int 0))]
    first | (simp only [h1, zk_t, zk_f, zb_t, zb_f]; done) | (simp only [h1, zk_t, zk_f, zb_t, zb_f]; rfl) | rfl
  have k2 := k0 h1
  show zz_D (zm_N_wash, d + 10, 5, [some (.ref 1), some (.int x0), none], []) (zt_T L, zt_R, M, J, e) = _
  refine (zz_go 1 (fr' := (zm_N_wash, d + 10, 6, [some (.ref 1), some (.int x0), none], [.ref 1])) (h' := (zt_T L, zt_R, M, J, e)) (fun _ => rfl)).trans ?_
  refine zl_getR rfl rfl rfl ?_
  refine (zz_go 1 (fr' := (zm_N_wash, d + 10, 10, [some (.ref 1), some (.int x0), none], [.ref 1, .ref 58])) (h' := (zt_T L, zt_R, M, J, e)) (fun _ => rfl)).trans ?_
  refine zl_getR rfl rfl rfl ?_
  obtain ⟨g3, k4⟩ := k2
  refine zl_vt (d := d + 9) rfl rfl rfl rfl rfl rfl rfl rfl rfl rfl (s_A_remember L e J (d + 0) M g3) ?_
  show zz_D (zm_N_wash, d + 10, 16, [some (.ref 1), some (.int x0), none], []) (zt_T L, zt_R, (w_A_remember M), J, e) = _
  refine (zz_go 1 (fr' := (zm_N_wash, d + 10, 17, [some (.ref 1), some (.int x0), none], [.ref 1])) (h' := (zt_T L, zt_R, (w_A_remember M), J, e)) (fun _ => rfl)).trans ?_
  refine zl_getR rfl rfl rfl ?_
  refine zl_getR rfl rfl rfl ?_
  refine (zz_go 1 (fr' := (zm_N_wash, d + 10, 24, [some (.ref 1), some (.int x0), none], [.int x0, .ref 9])) (h' := (zt_T L, zt_R, (w_A_remember M), J, e)) (fun _ => rfl)).trans ?_
  have g5 : zz_in x0 6 = true := k4
  refine zl_iaload rfl rfl g5 rfl ?_
  refine (zz_go 2 (fr' := (zm_N_wash, d + 10, 27, [some (.ref 1), some (.int x0), some (.int ((w_A_remember M) 9 (x0).toNatClampNeg))], [.ref 1])) (h' := (zt_T L, zt_R, (w_A_remember M), J, e)) (fun _ => rfl)).trans ?_
  refine zl_getR rfl rfl rfl ?_
  refine zl_getR rfl rfl rfl ?_
  refine (zz_go 2 (fr' := (zm_N_wash, d + 10, 35, [some (.ref 1), some (.int x0), some (.int ((w_A_remember M) 9 (x0).toNatClampNeg))], [.int (0 : Int32), .int x0, .ref 9])) (h' := (zt_T L, zt_R, (w_A_remember M), J, e)) (fun _ => rfl)).trans ?_
  refine zl_iastore rfl rfl g5 rfl rfl ?_
  refine (zz_go 1 (fr' := (zm_N_wash, d + 10, 37, [some (.ref 1), some (.int x0), some (.int ((w_A_remember M) 9 (x0).toNatClampNeg))], [.int ((w_A_remember M) 9 (x0).toNatClampNeg)])) (h' := (zt_T L, zt_R, (zz_up (w_A_remember M) 9 (x0).toNatClampNeg (0 : Int32)), J, e)) (fun _ => rfl)).trans ?_
  refine zl_retI rfl rfl ?_
  first | (simp only [h1, zk_t, zk_f, zb_t, zb_f]; done) | (simp only [h1, zk_t, zk_f, zb_t, zb_f]; rfl) | rfl
def t_N_needDeed (x0 : Int32) : Nat := (bif (decide (x0 < 0)) then 3 else (bif (decide (x0 < (8 : Int32))) then 0 else 3))
set_option maxRecDepth 20000 in
set_option maxHeartbeats 2000000 in
theorem s_N_needDeed (L e : Nat) (J : zJem) (d : Nat) {M : zMem} (x0 : Int32) : zz_D (zm_N_needDeed, d + 8, 0, [some (.int x0)], []) (zt_T L, zt_R, M, J, e) = some (zx_o (t_N_needDeed x0) (none), (zt_T L, zt_R, M, J, zx_e (t_N_needDeed x0) e)) := by
  unfold t_N_needDeed
  refine (zz_go 1 (fr' := (zm_N_needDeed, d + 8, 1, [some (.int x0)], [.int x0])) (h' := (zt_T L, zt_R, M, J, e)) (fun _ => rfl)).trans ?_
  rcases zz_bc (decide (x0 < 0)) with h1 | h1
  · refine zo_ltT rfl h1 ?_
    refine zl_throw rfl rfl rfl ?_
    first | (simp only [h1, zk_t, zk_f, zb_t, zb_f]; done) | (simp only [h1, zk_t, zk_f, zb_t, zb_f]; rfl) | rfl
  · refine zo_ltF rfl h1 ?_
    refine (zz_go 2 (fr' := (zm_N_needDeed, d + 8, 7, [some (.int x0)], [.int (8 : Int32), .int x0])) (h' := (zt_T L, zt_R, M, J, e)) (fun _ => rfl)).trans ?_
    rcases zz_bc (decide (x0 < (8 : Int32))) with h2 | h2
    · refine zc_ltT rfl h2 ?_
      refine (zz_end 1 (r := (.inl none, (zt_T L, zt_R, M, J, e))) (fun _ => rfl)).trans ?_
      first | (simp only [h1, h2, zk_t, zk_f, zb_t, zb_f]; done) | (simp only [h1, h2, zk_t, zk_f, zb_t, zb_f]; rfl) | rfl
    · refine zc_ltF rfl h2 ?_
      refine zl_throw rfl rfl rfl ?_
      first | (simp only [h1, h2, zk_t, zk_f, zb_t, zb_f]; done) | (simp only [h1, h2, zk_t, zk_f, zb_t, zb_f]; rfl) | rfl
def v_N_told (M : zMem) (x0 : Int32) (x1 : Int32) : Int32 := (bif Nat.beq (t_N_needKind x0) 0 then (bif Nat.beq (t_N_needDeed x1) 0 then ((w_A_remember M) 6 (x0).toNatClampNeg) else 0) else 0)
def w_N_told (M : zMem) (x0 : Int32) (x1 : Int32) : zMem := (bif Nat.beq (t_N_needKind x0) 0 then (bif Nat.beq (t_N_needDeed x1) 0 then (zz_up (w_A_remember M) 6 (x0).toNatClampNeg x1) else M) else M)
def t_N_told (M : zMem) (x0 : Int32) (x1 : Int32) : Nat := (bif Nat.beq (t_N_needKind x0) 0 then (bif Nat.beq (t_N_needDeed x1) 0 then 0 else (t_N_needDeed x1)) else (t_N_needKind x0))
def ok_N_told (M : zMem) (x0 : Int32) (x1 : Int32) : Prop := (Nat.beq (t_N_needKind x0) 0 = true → (Nat.beq (t_N_needDeed x1) 0 = true → (ok_A_remember M ∧ zz_in x0 8 = true)))
set_option maxRecDepth 20000 in
set_option maxHeartbeats 2000000 in
theorem s_N_told (L e : Nat) (J : zJem) (d : Nat) (M : zMem) (x0 : Int32) (x1 : Int32) (k0 : ok_N_told M x0 x1) : zz_D (zm_N_told, d + 10, 0, [some (.ref 1), some (.int x0), some (.int x1), none], []) (zt_T L, zt_R, M, J, e) = some (zx_o (t_N_told M x0 x1) (some (.int (v_N_told M x0 x1))), (zt_T L, zt_R, (w_N_told M x0 x1), J, zx_e (t_N_told M x0 x1) e)) := by
  unfold ok_N_told at k0
  unfold v_N_told w_N_told t_N_told
  refine (zz_go 1 (fr' := (zm_N_told, d + 10, 1, [some (.ref 1), some (.int x0), some (.int x1), none], [.int x0])) (h' := (zt_T L, zt_R, M, J, e)) (fun _ => rfl)).trans ?_
  refine zl_st (d := d + 9) rfl rfl rfl rfl rfl rfl rfl (s_N_needKind L e J (d + 1) x0) ?_
  refine zl_aftV rfl (fun h1 => ?_) (fun h1 => ?_)
  rotate_left 1
  · skip
    rw [zx_oe h1 (some (.int 0))]
    first | (simp only [h1, zk_t, zk_f, zb_t, zb_f]; done) | (simp only [h1, zk_t, zk_f, zb_t, zb_f]; rfl) | rfl
  have k2 := k0 h1
  show zz_D (zm_N_told, d + 10, 4, [some (.ref 1), some (.int x0), some (.int x1), none], []) (zt_T L, zt_R, M, J, e) = _
  refine (zz_go 1 (fr' := (zm_N_told, d + 10, 5, [some (.ref 1), some (.int x0), some (.int x1), none], [.int x1])) (h' := (zt_T L, zt_R, M, J, e)) (fun _ => rfl)).trans ?_
  refine zl_st (d := d + 9) rfl rfl rfl rfl rfl rfl rfl (s_N_needDeed L e J (d + 1) x1) ?_
  refine zl_aftV rfl (fun h3 => ?_) (fun h3 => ?_)
  rotate_left 1
  · skip
    rw [zx_oe h3 (some (.int 0))]
    first | (simp only [h1, h3, zk_t, zk_f, zb_t, zb_f]; done) | (simp only [h1, h3, zk_t, zk_f, zb_t, zb_f]; rfl) | rfl
  have k4 := k2 h3
  show zz_D (zm_N_told, d + 10, 8, [some (.ref 1), some (.int x0), some (.int x1), none], []) (zt_T L, zt_R, M, J, e) = _
  refine (zz_go 1 (fr' := (zm_N_told, d + 10, 9, [some (.ref 1), some (.int x0), some (.int x1), none], [.ref 1])) (h' := (zt_T L, zt_R, M, J, e)) (fun _ => rfl)).trans ?_
  refine zl_getR rfl rfl rfl ?_
  refine (zz_go 1 (fr' := (zm_N_told, d + 10, 13, [some (.ref 1), some (.int x0), some (.int x1), none], [.ref 1, .ref 58])) (h' := (zt_T L, zt_R, M, J, e)) (fun _ => rfl)).trans ?_
  refine zl_getR rfl rfl rfl ?_
  obtain ⟨g5, k6⟩ := k4
  refine zl_vt (d := d + 9) rfl rfl rfl rfl rfl rfl rfl rfl rfl rfl (s_A_remember L e J (d + 0) M g5) ?_
  show zz_D (zm_N_told, d + 10, 19, [some (.ref 1), some (.int x0), some (.int x1), none], []) (zt_T L, zt_R, (w_A_remember M), J, e) = _
  refine (zz_go 1 (fr' := (zm_N_told, d + 10, 20, [some (.ref 1), some (.int x0), some (.int x1), none], [.ref 1])) (h' := (zt_T L, zt_R, (w_A_remember M), J, e)) (fun _ => rfl)).trans ?_
  refine zl_getR rfl rfl rfl ?_
  refine zl_getR rfl rfl rfl ?_
  refine (zz_go 1 (fr' := (zm_N_told, d + 10, 27, [some (.ref 1), some (.int x0), some (.int x1), none], [.int x0, .ref 6])) (h' := (zt_T L, zt_R, (w_A_remember M), J, e)) (fun _ => rfl)).trans ?_
  have g7 : zz_in x0 8 = true := k6
  refine zl_iaload rfl rfl g7 rfl ?_
  refine (zz_go 2 (fr' := (zm_N_told, d + 10, 30, [some (.ref 1), some (.int x0), some (.int x1), some (.int ((w_A_remember M) 6 (x0).toNatClampNeg))], [.ref 1])) (h' := (zt_T L, zt_R, (w_A_remember M), J, e)) (fun _ => rfl)).trans ?_
  refine zl_getR rfl rfl rfl ?_
  refine zl_getR rfl rfl rfl ?_
  refine (zz_go 2 (fr' := (zm_N_told, d + 10, 38, [some (.ref 1), some (.int x0), some (.int x1), some (.int ((w_A_remember M) 6 (x0).toNatClampNeg))], [.int x1, .int x0, .ref 6])) (h' := (zt_T L, zt_R, (w_A_remember M), J, e)) (fun _ => rfl)).trans ?_
  refine zl_iastore rfl rfl g7 rfl rfl ?_
  refine (zz_go 1 (fr' := (zm_N_told, d + 10, 40, [some (.ref 1), some (.int x0), some (.int x1), some (.int ((w_A_remember M) 6 (x0).toNatClampNeg))], [.int ((w_A_remember M) 6 (x0).toNatClampNeg)])) (h' := (zt_T L, zt_R, (zz_up (w_A_remember M) 6 (x0).toNatClampNeg x1), J, e)) (fun _ => rfl)).trans ?_
  refine zl_retI rfl rfl ?_
  first | (simp only [h1, h3, zk_t, zk_f, zb_t, zb_f]; done) | (simp only [h1, h3, zk_t, zk_f, zb_t, zb_f]; rfl) | rfl
def v_N_hold (M : zMem) (x0 : Int32) (x1 : Int32) : Int32 := (bif Nat.beq (t_N_needKind x0) 0 then (bif (decide (x1 = (-1 : Int32))) then ((w_A_remember M) 7 (x0).toNatClampNeg) else (bif Nat.beq (t_N_needKind x1) 0 then ((w_A_remember M) 7 (x0).toNatClampNeg) else 0)) else 0)
def w_N_hold (M : zMem) (x0 : Int32) (x1 : Int32) : zMem := (bif Nat.beq (t_N_needKind x0) 0 then (bif (decide (x1 = (-1 : Int32))) then (zz_up (w_A_remember M) 7 (x0).toNatClampNeg x1) else (bif Nat.beq (t_N_needKind x1) 0 then (zz_up (w_A_remember M) 7 (x0).toNatClampNeg x1) else M)) else M)
def t_N_hold (M : zMem) (x0 : Int32) (x1 : Int32) : Nat := (bif Nat.beq (t_N_needKind x0) 0 then (bif (decide (x1 = (-1 : Int32))) then 0 else (bif Nat.beq (t_N_needKind x1) 0 then 0 else (t_N_needKind x1))) else (t_N_needKind x0))
def ok_N_hold (M : zMem) (x0 : Int32) (x1 : Int32) : Prop := (Nat.beq (t_N_needKind x0) 0 = true → (((decide (x1 = (-1 : Int32))) = true → (ok_A_remember M ∧ zz_in x0 8 = true)) ∧ ((decide (x1 = (-1 : Int32))) = false → (Nat.beq (t_N_needKind x1) 0 = true → (ok_A_remember M ∧ zz_in x0 8 = true)))))
set_option maxRecDepth 20000 in
set_option maxHeartbeats 2000000 in
theorem s_N_hold (L e : Nat) (J : zJem) (d : Nat) (M : zMem) (x0 : Int32) (x1 : Int32) (k0 : ok_N_hold M x0 x1) : zz_D (zm_N_hold, d + 10, 0, [some (.ref 1), some (.int x0), some (.int x1), none], []) (zt_T L, zt_R, M, J, e) = some (zx_o (t_N_hold M x0 x1) (some (.int (v_N_hold M x0 x1))), (zt_T L, zt_R, (w_N_hold M x0 x1), J, zx_e (t_N_hold M x0 x1) e)) := by
  unfold ok_N_hold at k0
  unfold v_N_hold w_N_hold t_N_hold
  refine (zz_go 1 (fr' := (zm_N_hold, d + 10, 1, [some (.ref 1), some (.int x0), some (.int x1), none], [.int x0])) (h' := (zt_T L, zt_R, M, J, e)) (fun _ => rfl)).trans ?_
  refine zl_st (d := d + 9) rfl rfl rfl rfl rfl rfl rfl (s_N_needKind L e J (d + 1) x0) ?_
  refine zl_aftV rfl (fun h1 => ?_) (fun h1 => ?_)
  rotate_left 1
  · skip
    rw [zx_oe h1 (some (.int 0))]
    first | (simp only [h1, zk_t, zk_f, zb_t, zb_f]; done) | (simp only [h1, zk_t, zk_f, zb_t, zb_f]; rfl) | rfl
  have k2 := k0 h1
  show zz_D (zm_N_hold, d + 10, 4, [some (.ref 1), some (.int x0), some (.int x1), none], []) (zt_T L, zt_R, M, J, e) = _
  obtain ⟨k4, k5⟩ := k2
  refine (zz_go 2 (fr' := (zm_N_hold, d + 10, 6, [some (.ref 1), some (.int x0), some (.int x1), none], [.int (-1 : Int32), .int x1])) (h' := (zt_T L, zt_R, M, J, e)) (fun _ => rfl)).trans ?_
  rcases zz_bc (decide (x1 = (-1 : Int32))) with h3 | h3
  · refine zc_eqT rfl h3 ?_
    have k6 := k4 h3
    refine (zz_go 1 (fr' := (zm_N_hold, d + 10, 14, [some (.ref 1), some (.int x0), some (.int x1), none], [.ref 1])) (h' := (zt_T L, zt_R, M, J, e)) (fun _ => rfl)).trans ?_
    refine zl_getR rfl rfl rfl ?_
    refine (zz_go 1 (fr' := (zm_N_hold, d + 10, 18, [some (.ref 1), some (.int x0), some (.int x1), none], [.ref 1, .ref 58])) (h' := (zt_T L, zt_R, M, J, e)) (fun _ => rfl)).trans ?_
    refine zl_getR rfl rfl rfl ?_
    obtain ⟨g7, k8⟩ := k6
    refine zl_vt (d := d + 9) rfl rfl rfl rfl rfl rfl rfl rfl rfl rfl (s_A_remember L e J (d + 0) M g7) ?_
    show zz_D (zm_N_hold, d + 10, 24, [some (.ref 1), some (.int x0), some (.int x1), none], []) (zt_T L, zt_R, (w_A_remember M), J, e) = _
    refine (zz_go 1 (fr' := (zm_N_hold, d + 10, 25, [some (.ref 1), some (.int x0), some (.int x1), none], [.ref 1])) (h' := (zt_T L, zt_R, (w_A_remember M), J, e)) (fun _ => rfl)).trans ?_
    refine zl_getR rfl rfl rfl ?_
    refine zl_getR rfl rfl rfl ?_
    refine (zz_go 1 (fr' := (zm_N_hold, d + 10, 32, [some (.ref 1), some (.int x0), some (.int x1), none], [.int x0, .ref 7])) (h' := (zt_T L, zt_R, (w_A_remember M), J, e)) (fun _ => rfl)).trans ?_
    have g9 : zz_in x0 8 = true := k8
    refine zl_iaload rfl rfl g9 rfl ?_
    refine (zz_go 2 (fr' := (zm_N_hold, d + 10, 35, [some (.ref 1), some (.int x0), some (.int x1), some (.int ((w_A_remember M) 7 (x0).toNatClampNeg))], [.ref 1])) (h' := (zt_T L, zt_R, (w_A_remember M), J, e)) (fun _ => rfl)).trans ?_
    refine zl_getR rfl rfl rfl ?_
    refine zl_getR rfl rfl rfl ?_
    refine (zz_go 2 (fr' := (zm_N_hold, d + 10, 43, [some (.ref 1), some (.int x0), some (.int x1), some (.int ((w_A_remember M) 7 (x0).toNatClampNeg))], [.int x1, .int x0, .ref 7])) (h' := (zt_T L, zt_R, (w_A_remember M), J, e)) (fun _ => rfl)).trans ?_
    refine zl_iastore rfl rfl g9 rfl rfl ?_
    refine (zz_go 1 (fr' := (zm_N_hold, d + 10, 45, [some (.ref 1), some (.int x0), some (.int x1), some (.int ((w_A_remember M) 7 (x0).toNatClampNeg))], [.int ((w_A_remember M) 7 (x0).toNatClampNeg)])) (h' := (zt_T L, zt_R, (zz_up (w_A_remember M) 7 (x0).toNatClampNeg x1), J, e)) (fun _ => rfl)).trans ?_
    refine zl_retI rfl rfl ?_
    first | (simp only [h1, h3, zk_t, zk_f, zb_t, zb_f]; done) | (simp only [h1, h3, zk_t, zk_f, zb_t, zb_f]; rfl) | rfl
  · refine zc_eqF rfl h3 ?_
    have k10 := k5 h3
    refine (zz_go 1 (fr' := (zm_N_hold, d + 10, 10, [some (.ref 1), some (.int x0), some (.int x1), none], [.int x1])) (h' := (zt_T L, zt_R, M, J, e)) (fun _ => rfl)).trans ?_
    refine zl_st (d := d + 9) rfl rfl rfl rfl rfl rfl rfl (s_N_needKind L e J (d + 1) x1) ?_
    refine zl_aftV rfl (fun h11 => ?_) (fun h11 => ?_)
    rotate_left 1
    · skip
      rw [zx_oe h11 (some (.int 0))]
      first | (simp only [h1, h3, h11, zk_t, zk_f, zb_t, zb_f]; done) | (simp only [h1, h3, h11, zk_t, zk_f, zb_t, zb_f]; rfl) | rfl
    have k12 := k10 h11
    show zz_D (zm_N_hold, d + 10, 13, [some (.ref 1), some (.int x0), some (.int x1), none], []) (zt_T L, zt_R, M, J, e) = _
    refine (zz_go 1 (fr' := (zm_N_hold, d + 10, 14, [some (.ref 1), some (.int x0), some (.int x1), none], [.ref 1])) (h' := (zt_T L, zt_R, M, J, e)) (fun _ => rfl)).trans ?_
    refine zl_getR rfl rfl rfl ?_
    refine (zz_go 1 (fr' := (zm_N_hold, d + 10, 18, [some (.ref 1), some (.int x0), some (.int x1), none], [.ref 1, .ref 58])) (h' := (zt_T L, zt_R, M, J, e)) (fun _ => rfl)).trans ?_
    refine zl_getR rfl rfl rfl ?_
    obtain ⟨g13, k14⟩ := k12
    refine zl_vt (d := d + 9) rfl rfl rfl rfl rfl rfl rfl rfl rfl rfl (s_A_remember L e J (d + 0) M g13) ?_
    show zz_D (zm_N_hold, d + 10, 24, [some (.ref 1), some (.int x0), some (.int x1), none], []) (zt_T L, zt_R, (w_A_remember M), J, e) = _
    refine (zz_go 1 (fr' := (zm_N_hold, d + 10, 25, [some (.ref 1), some (.int x0), some (.int x1), none], [.ref 1])) (h' := (zt_T L, zt_R, (w_A_remember M), J, e)) (fun _ => rfl)).trans ?_
    refine zl_getR rfl rfl rfl ?_
    refine zl_getR rfl rfl rfl ?_
    refine (zz_go 1 (fr' := (zm_N_hold, d + 10, 32, [some (.ref 1), some (.int x0), some (.int x1), none], [.int x0, .ref 7])) (h' := (zt_T L, zt_R, (w_A_remember M), J, e)) (fun _ => rfl)).trans ?_
    have g15 : zz_in x0 8 = true := k14
    refine zl_iaload rfl rfl g15 rfl ?_
    refine (zz_go 2 (fr' := (zm_N_hold, d + 10, 35, [some (.ref 1), some (.int x0), some (.int x1), some (.int ((w_A_remember M) 7 (x0).toNatClampNeg))], [.ref 1])) (h' := (zt_T L, zt_R, (w_A_remember M), J, e)) (fun _ => rfl)).trans ?_
    refine zl_getR rfl rfl rfl ?_
    refine zl_getR rfl rfl rfl ?_
    refine (zz_go 2 (fr' := (zm_N_hold, d + 10, 43, [some (.ref 1), some (.int x0), some (.int x1), some (.int ((w_A_remember M) 7 (x0).toNatClampNeg))], [.int x1, .int x0, .ref 7])) (h' := (zt_T L, zt_R, (w_A_remember M), J, e)) (fun _ => rfl)).trans ?_
    refine zl_iastore rfl rfl g15 rfl rfl ?_
    refine (zz_go 1 (fr' := (zm_N_hold, d + 10, 45, [some (.ref 1), some (.int x0), some (.int x1), some (.int ((w_A_remember M) 7 (x0).toNatClampNeg))], [.int ((w_A_remember M) 7 (x0).toNatClampNeg)])) (h' := (zt_T L, zt_R, (zz_up (w_A_remember M) 7 (x0).toNatClampNeg x1), J, e)) (fun _ => rfl)).trans ?_
    refine zl_retI rfl rfl ?_
    first | (simp only [h1, h3, h11, zk_t, zk_f, zb_t, zb_f]; done) | (simp only [h1, h3, h11, zk_t, zk_f, zb_t, zb_f]; rfl) | rfl
def v_N_does (M : zMem) (x0 : Int32) (x1 : Int32) : Int32 := (bif Nat.beq (t_N_needPerson M x0) 0 then (bif Nat.beq (t_N_needDeed x1) 0 then (bif (decide (((M 12 (x0).toNatClampNeg) &&& (zsl (1 : Int32) x1)) = 0)) then (((w_A_remember M) 12 (x0).toNatClampNeg) ||| (zsl (1 : Int32) x1)) else 0) else 0) else 0)
def w_N_does (M : zMem) (x0 : Int32) (x1 : Int32) : zMem := (bif Nat.beq (t_N_needPerson M x0) 0 then (bif Nat.beq (t_N_needDeed x1) 0 then (bif (decide (((M 12 (x0).toNatClampNeg) &&& (zsl (1 : Int32) x1)) = 0)) then (zz_up (w_A_remember M) 12 (x0).toNatClampNeg (((w_A_remember M) 12 (x0).toNatClampNeg) ||| (zsl (1 : Int32) x1))) else M) else M) else M)
def t_N_does (M : zMem) (x0 : Int32) (x1 : Int32) : Nat := (bif Nat.beq (t_N_needPerson M x0) 0 then (bif Nat.beq (t_N_needDeed x1) 0 then (bif (decide (((M 12 (x0).toNatClampNeg) &&& (zsl (1 : Int32) x1)) = 0)) then 0 else 5) else (t_N_needDeed x1)) else (t_N_needPerson M x0))
def ok_N_does (M : zMem) (x0 : Int32) (x1 : Int32) : Prop := (Nat.beq (t_N_needPerson M x0) 0 = true → (Nat.beq (t_N_needDeed x1) 0 = true → (zz_in x0 6 = true ∧ ((decide (((M 12 (x0).toNatClampNeg) &&& (zsl (1 : Int32) x1)) = 0)) = true → ok_A_remember M))))
set_option maxRecDepth 20000 in
set_option maxHeartbeats 2000000 in
theorem s_N_does (L e : Nat) (J : zJem) (d : Nat) (M : zMem) (x0 : Int32) (x1 : Int32) (k0 : ok_N_does M x0 x1) : zz_D (zm_N_does, d + 10, 0, [some (.ref 1), some (.int x0), some (.int x1), none], []) (zt_T L, zt_R, M, J, e) = some (zx_o (t_N_does M x0 x1) (some (.int (v_N_does M x0 x1))), (zt_T L, zt_R, (w_N_does M x0 x1), J, zx_e (t_N_does M x0 x1) e)) := by
  unfold ok_N_does at k0
  unfold v_N_does w_N_does t_N_does
  refine (zz_go 2 (fr' := (zm_N_does, d + 10, 2, [some (.ref 1), some (.int x0), some (.int x1), none], [.int x0, .ref 1])) (h' := (zt_T L, zt_R, M, J, e)) (fun _ => rfl)).trans ?_
  refine zl_vt (d := d + 9) rfl rfl rfl rfl rfl rfl rfl rfl rfl rfl (s_N_needPerson L e J (d + 1) M x0) ?_
  refine zl_aftV rfl (fun h1 => ?_) (fun h1 => ?_)
  rotate_left 1
  · skip
    rw [zx_oe h1 (some (.int 0))]
    first | (simp only [h1, zk_t, zk_f, zb_t, zb_f]; done) | (simp only [h1, zk_t, zk_f, zb_t, zb_f]; rfl) | rfl
  have k2 := k0 h1
  show zz_D (zm_N_does, d + 10, 5, [some (.ref 1), some (.int x0), some (.int x1), none], []) (zt_T L, zt_R, M, J, e) = _
  refine (zz_go 1 (fr' := (zm_N_does, d + 10, 6, [some (.ref 1), some (.int x0), some (.int x1), none], [.int x1])) (h' := (zt_T L, zt_R, M, J, e)) (fun _ => rfl)).trans ?_
  refine zl_st (d := d + 9) rfl rfl rfl rfl rfl rfl rfl (s_N_needDeed L e J (d + 1) x1) ?_
  refine zl_aftV rfl (fun h3 => ?_) (fun h3 => ?_)
  rotate_left 1
  · skip
    rw [zx_oe h3 (some (.int 0))]
    first | (simp only [h1, h3, zk_t, zk_f, zb_t, zb_f]; done) | (simp only [h1, h3, zk_t, zk_f, zb_t, zb_f]; rfl) | rfl
  have k4 := k2 h3
  show zz_D (zm_N_does, d + 10, 9, [some (.ref 1), some (.int x0), some (.int x1), none], []) (zt_T L, zt_R, M, J, e) = _
  refine (zz_go 5 (fr' := (zm_N_does, d + 10, 14, [some (.ref 1), some (.int x0), some (.int x1), some (.int (zsl (1 : Int32) x1))], [.ref 1])) (h' := (zt_T L, zt_R, M, J, e)) (fun _ => rfl)).trans ?_
  refine zl_getR rfl rfl rfl ?_
  refine zl_getR rfl rfl rfl ?_
  refine (zz_go 1 (fr' := (zm_N_does, d + 10, 21, [some (.ref 1), some (.int x0), some (.int x1), some (.int (zsl (1 : Int32) x1))], [.int x0, .ref 12])) (h' := (zt_T L, zt_R, M, J, e)) (fun _ => rfl)).trans ?_
  obtain ⟨g5, k6⟩ := k4
  refine zl_iaload rfl rfl g5 rfl ?_
  refine (zz_go 2 (fr' := (zm_N_does, d + 10, 24, [some (.ref 1), some (.int x0), some (.int x1), some (.int (zsl (1 : Int32) x1))], [.int ((M 12 (x0).toNatClampNeg) &&& (zsl (1 : Int32) x1))])) (h' := (zt_T L, zt_R, M, J, e)) (fun _ => rfl)).trans ?_
  rcases zz_bc (decide (((M 12 (x0).toNatClampNeg) &&& (zsl (1 : Int32) x1)) = 0)) with h7 | h7
  · refine zo_eqT rfl h7 ?_
    have k8 := k6 h7
    refine (zz_go 1 (fr' := (zm_N_does, d + 10, 38, [some (.ref 1), some (.int x0), some (.int x1), some (.int (zsl (1 : Int32) x1))], [.ref 1])) (h' := (zt_T L, zt_R, M, J, e)) (fun _ => rfl)).trans ?_
    refine zl_getR rfl rfl rfl ?_
    refine (zz_go 1 (fr' := (zm_N_does, d + 10, 42, [some (.ref 1), some (.int x0), some (.int x1), some (.int (zsl (1 : Int32) x1))], [.ref 1, .ref 58])) (h' := (zt_T L, zt_R, M, J, e)) (fun _ => rfl)).trans ?_
    refine zl_getR rfl rfl rfl ?_
    have g9 : ok_A_remember M := k8
    refine zl_vt (d := d + 9) rfl rfl rfl rfl rfl rfl rfl rfl rfl rfl (s_A_remember L e J (d + 0) M g9) ?_
    show zz_D (zm_N_does, d + 10, 48, [some (.ref 1), some (.int x0), some (.int x1), some (.int (zsl (1 : Int32) x1))], []) (zt_T L, zt_R, (w_A_remember M), J, e) = _
    refine (zz_go 1 (fr' := (zm_N_does, d + 10, 49, [some (.ref 1), some (.int x0), some (.int x1), some (.int (zsl (1 : Int32) x1))], [.ref 1])) (h' := (zt_T L, zt_R, (w_A_remember M), J, e)) (fun _ => rfl)).trans ?_
    refine zl_getR rfl rfl rfl ?_
    refine zl_getR rfl rfl rfl ?_
    refine (zz_go 2 (fr' := (zm_N_does, d + 10, 57, [some (.ref 1), some (.int x0), some (.int x1), some (.int (zsl (1 : Int32) x1))], [.int x0, .ref 12, .int x0, .ref 12])) (h' := (zt_T L, zt_R, (w_A_remember M), J, e)) (fun _ => rfl)).trans ?_
    refine zl_iaload rfl rfl g5 rfl ?_
    refine (zz_go 2 (fr' := (zm_N_does, d + 10, 60, [some (.ref 1), some (.int x0), some (.int x1), some (.int (zsl (1 : Int32) x1))], [.int (((w_A_remember M) 12 (x0).toNatClampNeg) ||| (zsl (1 : Int32) x1)), .int x0, .ref 12])) (h' := (zt_T L, zt_R, (w_A_remember M), J, e)) (fun _ => rfl)).trans ?_
    refine zl_iastore rfl rfl g5 rfl rfl ?_
    refine (zz_go 1 (fr' := (zm_N_does, d + 10, 62, [some (.ref 1), some (.int x0), some (.int x1), some (.int (zsl (1 : Int32) x1))], [.ref 1])) (h' := (zt_T L, zt_R, (zz_up (w_A_remember M) 12 (x0).toNatClampNeg (((w_A_remember M) 12 (x0).toNatClampNeg) ||| (zsl (1 : Int32) x1))), J, e)) (fun _ => rfl)).trans ?_
    refine zl_getR rfl rfl rfl ?_
    refine zl_getR rfl rfl rfl ?_
    refine (zz_go 1 (fr' := (zm_N_does, d + 10, 69, [some (.ref 1), some (.int x0), some (.int x1), some (.int (zsl (1 : Int32) x1))], [.int x0, .ref 12])) (h' := (zt_T L, zt_R, (zz_up (w_A_remember M) 12 (x0).toNatClampNeg (((w_A_remember M) 12 (x0).toNatClampNeg) ||| (zsl (1 : Int32) x1))), J, e)) (fun _ => rfl)).trans ?_
    refine zl_iaload rfl rfl g5 zu_eq ?_
    refine zl_retI rfl rfl ?_
    first | (simp only [h1, h3, h7, zk_t, zk_f, zb_t, zb_f]; done) | (simp only [h1, h3, h7, zk_t, zk_f, zb_t, zb_f]; rfl) | rfl
  · refine zo_eqF rfl h7 ?_
    refine zl_throw rfl rfl rfl ?_
    first | (simp only [h1, h3, h7, zk_t, zk_f, zb_t, zb_f]; done) | (simp only [h1, h3, h7, zk_t, zk_f, zb_t, zb_f]; rfl) | rfl
def v_N_luck (M : zMem) (x0 : Int32) (x1 : Int32) : Int32 := (bif Nat.beq (t_N_needPerson M x0) 0 then (bif (decide (x1 < 0)) then 0 else (bif (decide (x1 ≤ (9 : Int32))) then ((w_A_remember M) 11 (x0).toNatClampNeg) else 0)) else 0)
def w_N_luck (M : zMem) (x0 : Int32) (x1 : Int32) : zMem := (bif Nat.beq (t_N_needPerson M x0) 0 then (bif (decide (x1 < 0)) then M else (bif (decide (x1 ≤ (9 : Int32))) then (zz_up (w_A_remember M) 11 (x0).toNatClampNeg x1) else M)) else M)
def t_N_luck (M : zMem) (x0 : Int32) (x1 : Int32) : Nat := (bif Nat.beq (t_N_needPerson M x0) 0 then (bif (decide (x1 < 0)) then 1 else (bif (decide (x1 ≤ (9 : Int32))) then 0 else 1)) else (t_N_needPerson M x0))
def ok_N_luck (M : zMem) (x0 : Int32) (x1 : Int32) : Prop := (Nat.beq (t_N_needPerson M x0) 0 = true → ((decide (x1 < 0)) = false → ((decide (x1 ≤ (9 : Int32))) = true → (ok_A_remember M ∧ zz_in x0 6 = true))))
set_option maxRecDepth 20000 in
set_option maxHeartbeats 2000000 in
theorem s_N_luck (L e : Nat) (J : zJem) (d : Nat) (M : zMem) (x0 : Int32) (x1 : Int32) (k0 : ok_N_luck M x0 x1) : zz_D (zm_N_luck, d + 10, 0, [some (.ref 1), some (.int x0), some (.int x1), none], []) (zt_T L, zt_R, M, J, e) = some (zx_o (t_N_luck M x0 x1) (some (.int (v_N_luck M x0 x1))), (zt_T L, zt_R, (w_N_luck M x0 x1), J, zx_e (t_N_luck M x0 x1) e)) := by
  unfold ok_N_luck at k0
  unfold v_N_luck w_N_luck t_N_luck
  refine (zz_go 2 (fr' := (zm_N_luck, d + 10, 2, [some (.ref 1), some (.int x0), some (.int x1), none], [.int x0, .ref 1])) (h' := (zt_T L, zt_R, M, J, e)) (fun _ => rfl)).trans ?_
  refine zl_vt (d := d + 9) rfl rfl rfl rfl rfl rfl rfl rfl rfl rfl (s_N_needPerson L e J (d + 1) M x0) ?_
  refine zl_aftV rfl (fun h1 => ?_) (fun h1 => ?_)
  rotate_left 1
  · skip
    rw [zx_oe h1 (some (.int 0))]
    first | (simp only [h1, zk_t, zk_f, zb_t, zb_f]; done) | (simp only [h1, zk_t, zk_f, zb_t, zb_f]; rfl) | rfl
  have k2 := k0 h1
  show zz_D (zm_N_luck, d + 10, 5, [some (.ref 1), some (.int x0), some (.int x1), none], []) (zt_T L, zt_R, M, J, e) = _
  refine (zz_go 1 (fr' := (zm_N_luck, d + 10, 6, [some (.ref 1), some (.int x0), some (.int x1), none], [.int x1])) (h' := (zt_T L, zt_R, M, J, e)) (fun _ => rfl)).trans ?_
  rcases zz_bc (decide (x1 < 0)) with h3 | h3
  · refine zo_ltT rfl h3 ?_
    refine zl_throw rfl rfl rfl ?_
    first | (simp only [h1, h3, zk_t, zk_f, zb_t, zb_f]; done) | (simp only [h1, h3, zk_t, zk_f, zb_t, zb_f]; rfl) | rfl
  · refine zo_ltF rfl h3 ?_
    have k4 := k2 h3
    refine (zz_go 2 (fr' := (zm_N_luck, d + 10, 12, [some (.ref 1), some (.int x0), some (.int x1), none], [.int (9 : Int32), .int x1])) (h' := (zt_T L, zt_R, M, J, e)) (fun _ => rfl)).trans ?_
    rcases zz_bc (decide (x1 ≤ (9 : Int32))) with h5 | h5
    · refine zc_leT rfl h5 ?_
      have k6 := k4 h5
      refine (zz_go 1 (fr' := (zm_N_luck, d + 10, 26, [some (.ref 1), some (.int x0), some (.int x1), none], [.ref 1])) (h' := (zt_T L, zt_R, M, J, e)) (fun _ => rfl)).trans ?_
      refine zl_getR rfl rfl rfl ?_
      refine (zz_go 1 (fr' := (zm_N_luck, d + 10, 30, [some (.ref 1), some (.int x0), some (.int x1), none], [.ref 1, .ref 58])) (h' := (zt_T L, zt_R, M, J, e)) (fun _ => rfl)).trans ?_
      refine zl_getR rfl rfl rfl ?_
      obtain ⟨g7, k8⟩ := k6
      refine zl_vt (d := d + 9) rfl rfl rfl rfl rfl rfl rfl rfl rfl rfl (s_A_remember L e J (d + 0) M g7) ?_
      show zz_D (zm_N_luck, d + 10, 36, [some (.ref 1), some (.int x0), some (.int x1), none], []) (zt_T L, zt_R, (w_A_remember M), J, e) = _
      refine (zz_go 1 (fr' := (zm_N_luck, d + 10, 37, [some (.ref 1), some (.int x0), some (.int x1), none], [.ref 1])) (h' := (zt_T L, zt_R, (w_A_remember M), J, e)) (fun _ => rfl)).trans ?_
      refine zl_getR rfl rfl rfl ?_
      refine zl_getR rfl rfl rfl ?_
      refine (zz_go 1 (fr' := (zm_N_luck, d + 10, 44, [some (.ref 1), some (.int x0), some (.int x1), none], [.int x0, .ref 11])) (h' := (zt_T L, zt_R, (w_A_remember M), J, e)) (fun _ => rfl)).trans ?_
      have g9 : zz_in x0 6 = true := k8
      refine zl_iaload rfl rfl g9 rfl ?_
      refine (zz_go 2 (fr' := (zm_N_luck, d + 10, 47, [some (.ref 1), some (.int x0), some (.int x1), some (.int ((w_A_remember M) 11 (x0).toNatClampNeg))], [.ref 1])) (h' := (zt_T L, zt_R, (w_A_remember M), J, e)) (fun _ => rfl)).trans ?_
      refine zl_getR rfl rfl rfl ?_
      refine zl_getR rfl rfl rfl ?_
      refine (zz_go 2 (fr' := (zm_N_luck, d + 10, 55, [some (.ref 1), some (.int x0), some (.int x1), some (.int ((w_A_remember M) 11 (x0).toNatClampNeg))], [.int x1, .int x0, .ref 11])) (h' := (zt_T L, zt_R, (w_A_remember M), J, e)) (fun _ => rfl)).trans ?_
      refine zl_iastore rfl rfl g9 rfl rfl ?_
      refine (zz_go 1 (fr' := (zm_N_luck, d + 10, 57, [some (.ref 1), some (.int x0), some (.int x1), some (.int ((w_A_remember M) 11 (x0).toNatClampNeg))], [.int ((w_A_remember M) 11 (x0).toNatClampNeg)])) (h' := (zt_T L, zt_R, (zz_up (w_A_remember M) 11 (x0).toNatClampNeg x1), J, e)) (fun _ => rfl)).trans ?_
      refine zl_retI rfl rfl ?_
      first | (simp only [h1, h3, h5, zk_t, zk_f, zb_t, zb_f]; done) | (simp only [h1, h3, h5, zk_t, zk_f, zb_t, zb_f]; rfl) | rfl
    · refine zc_leF rfl h5 ?_
      refine zl_throw rfl rfl rfl ?_
      first | (simp only [h1, h3, h5, zk_t, zk_f, zb_t, zb_f]; done) | (simp only [h1, h3, h5, zk_t, zk_f, zb_t, zb_f]; rfl) | rfl
def v_N_fill (M : zMem) (x0 : Int32) : Int32 := (bif (decide (x0 < (1 : Int32))) then 0 else (bif (decide (x0 ≤ (999 : Int32))) then (v_jm_min (((w_A_remember M) 4 13) + x0) (9999 : Int32)) else 0))
def w_N_fill (M : zMem) (x0 : Int32) : zMem := (bif (decide (x0 < (1 : Int32))) then M else (bif (decide (x0 ≤ (999 : Int32))) then (zz_up (w_A_remember M) 4 13 (v_jm_min (((w_A_remember M) 4 13) + x0) (9999 : Int32))) else M))
def t_N_fill (M : zMem) (x0 : Int32) : Nat := (bif (decide (x0 < (1 : Int32))) then 1 else (bif (decide (x0 ≤ (999 : Int32))) then 0 else 1))
def ok_N_fill (M : zMem) (x0 : Int32) : Prop := ((decide (x0 < (1 : Int32))) = false → ((decide (x0 ≤ (999 : Int32))) = true → ok_A_remember M))
set_option maxRecDepth 20000 in
set_option maxHeartbeats 2000000 in
theorem s_N_fill (L e : Nat) (J : zJem) (d : Nat) (M : zMem) (x0 : Int32) (k0 : ok_N_fill M x0) : zz_D (zm_N_fill, d + 10, 0, [some (.ref 1), some (.int x0)], []) (zt_T L, zt_R, M, J, e) = some (zx_o (t_N_fill M x0) (some (.int (v_N_fill M x0))), (zt_T L, zt_R, (w_N_fill M x0), J, zx_e (t_N_fill M x0) e)) := by
  unfold ok_N_fill at k0
  unfold v_N_fill w_N_fill t_N_fill
  refine (zz_go 2 (fr' := (zm_N_fill, d + 10, 2, [some (.ref 1), some (.int x0)], [.int (1 : Int32), .int x0])) (h' := (zt_T L, zt_R, M, J, e)) (fun _ => rfl)).trans ?_
  rcases zz_bc (decide (x0 < (1 : Int32))) with h1 | h1
  · refine zc_ltT rfl h1 ?_
    refine zl_throw rfl rfl rfl ?_
    first | (simp only [h1, zk_t, zk_f, zb_t, zb_f]; done) | (simp only [h1, zk_t, zk_f, zb_t, zb_f]; rfl) | rfl
  · refine zc_ltF rfl h1 ?_
    have k2 := k0 h1
    refine (zz_go 2 (fr' := (zm_N_fill, d + 10, 9, [some (.ref 1), some (.int x0)], [.int (999 : Int32), .int x0])) (h' := (zt_T L, zt_R, M, J, e)) (fun _ => rfl)).trans ?_
    rcases zz_bc (decide (x0 ≤ (999 : Int32))) with h3 | h3
    · refine zc_leT rfl h3 ?_
      have k4 := k2 h3
      refine (zz_go 1 (fr' := (zm_N_fill, d + 10, 23, [some (.ref 1), some (.int x0)], [.ref 1])) (h' := (zt_T L, zt_R, M, J, e)) (fun _ => rfl)).trans ?_
      refine zl_getR rfl rfl rfl ?_
      refine (zz_go 1 (fr' := (zm_N_fill, d + 10, 27, [some (.ref 1), some (.int x0)], [.ref 1, .ref 58])) (h' := (zt_T L, zt_R, M, J, e)) (fun _ => rfl)).trans ?_
      refine zl_getR rfl rfl rfl ?_
      have g5 : ok_A_remember M := k4
      refine zl_vt (d := d + 9) rfl rfl rfl rfl rfl rfl rfl rfl rfl rfl (s_A_remember L e J (d + 0) M g5) ?_
      show zz_D (zm_N_fill, d + 10, 33, [some (.ref 1), some (.int x0)], []) (zt_T L, zt_R, (w_A_remember M), J, e) = _
      refine (zz_go 1 (fr' := (zm_N_fill, d + 10, 34, [some (.ref 1), some (.int x0)], [.ref 1])) (h' := (zt_T L, zt_R, (w_A_remember M), J, e)) (fun _ => rfl)).trans ?_
      refine zl_getR rfl rfl rfl ?_
      refine (zz_go 1 (fr' := (zm_N_fill, d + 10, 38, [some (.ref 1), some (.int x0)], [.ref 1, .ref 4])) (h' := (zt_T L, zt_R, (w_A_remember M), J, e)) (fun _ => rfl)).trans ?_
      refine zl_getR rfl rfl rfl ?_
      refine zl_getI rfl (by decide) rfl rfl ?_
      refine (zz_go 3 (fr' := (zm_N_fill, d + 10, 49, [some (.ref 1), some (.int x0)], [.int (9999 : Int32), .int (((w_A_remember M) 4 13) + x0), .ref 4])) (h' := (zt_T L, zt_R, (w_A_remember M), J, e)) (fun _ => rfl)).trans ?_
      refine zl_st (d := d + 9) rfl rfl rfl rfl rfl rfl rfl (s_jm_min L e J (d + 8) (((w_A_remember M) 4 13) + x0) (9999 : Int32)) ?_
      show zz_D (zm_N_fill, d + 10, 52, [some (.ref 1), some (.int x0)], [.int (v_jm_min (((w_A_remember M) 4 13) + x0) (9999 : Int32)), .ref 4]) (zt_T L, zt_R, (w_A_remember M), J, e) = _
      refine zl_putI rfl rfl rfl rfl ?_
      refine (zz_go 1 (fr' := (zm_N_fill, d + 10, 56, [some (.ref 1), some (.int x0)], [.ref 1])) (h' := (zt_T L, zt_R, (zz_up (w_A_remember M) 4 13 (v_jm_min (((w_A_remember M) 4 13) + x0) (9999 : Int32))), J, e)) (fun _ => rfl)).trans ?_
      refine zl_getR rfl rfl rfl ?_
      refine zl_getI rfl (by decide) rfl zu_eq ?_
      refine zl_retI rfl rfl ?_
      first | (simp only [h1, h3, zk_t, zk_f, zb_t, zb_f]; done) | (simp only [h1, h3, zk_t, zk_f, zb_t, zb_f]; rfl) | rfl
    · refine zc_leF rfl h3 ?_
      refine zl_throw rfl rfl rfl ?_
      first | (simp only [h1, h3, zk_t, zk_f, zb_t, zb_f]; done) | (simp only [h1, h3, zk_t, zk_f, zb_t, zb_f]; rfl) | rfl
def v_N_blank (M : zMem) (x0 : Int32) : Bool := (bif Nat.beq (t_N_needPerson M x0) 0 then (decide (((M 9 (x0).toNatClampNeg) &&& (v_S_marksOf M 4 x0)) = 0)) else false)
def t_N_blank (M : zMem) (x0 : Int32) : Nat := (bif Nat.beq (t_N_needPerson M x0) 0 then 0 else (t_N_needPerson M x0))
def ok_N_blank (M : zMem) (x0 : Int32) : Prop := (Nat.beq (t_N_needPerson M x0) 0 = true → (zz_in x0 6 = true ∧ ok_S_marksOf M 4 x0))
set_option maxRecDepth 20000 in
set_option maxHeartbeats 2000000 in
theorem s_N_blank (L e : Nat) (J : zJem) (d : Nat) (M : zMem) (x0 : Int32) (k0 : ok_N_blank M x0) : zz_D (zm_N_blank, d + 9, 0, [some (.ref 1), some (.int x0)], []) (zt_T L, zt_R, M, J, e) = some (zx_o (t_N_blank M x0) (some (.int (zb (v_N_blank M x0)))), (zt_T L, zt_R, M, J, zx_e (t_N_blank M x0) e)) := by
  unfold ok_N_blank at k0
  unfold v_N_blank t_N_blank
  refine (zz_go 2 (fr' := (zm_N_blank, d + 9, 2, [some (.ref 1), some (.int x0)], [.int x0, .ref 1])) (h' := (zt_T L, zt_R, M, J, e)) (fun _ => rfl)).trans ?_
  refine zl_vt (d := d + 8) rfl rfl rfl rfl rfl rfl rfl rfl rfl rfl (s_N_needPerson L e J (d + 0) M x0) ?_
  refine zl_aftV rfl (fun h1 => ?_) (fun h1 => ?_)
  rotate_left 1
  · skip
    rw [zx_oe h1 (some (.int (zb false)))]
    first | (simp only [h1, zk_t, zk_f, zb_t, zb_f]; done) | (simp only [h1, zk_t, zk_f, zb_t, zb_f]; rfl) | rfl
  have k2 := k0 h1
  show zz_D (zm_N_blank, d + 9, 5, [some (.ref 1), some (.int x0)], []) (zt_T L, zt_R, M, J, e) = _
  refine (zz_go 1 (fr' := (zm_N_blank, d + 9, 6, [some (.ref 1), some (.int x0)], [.ref 1])) (h' := (zt_T L, zt_R, M, J, e)) (fun _ => rfl)).trans ?_
  refine zl_getR rfl rfl rfl ?_
  refine zl_getR rfl rfl rfl ?_
  refine (zz_go 1 (fr' := (zm_N_blank, d + 9, 13, [some (.ref 1), some (.int x0)], [.int x0, .ref 9])) (h' := (zt_T L, zt_R, M, J, e)) (fun _ => rfl)).trans ?_
  obtain ⟨g3, k4⟩ := k2
  refine zl_iaload rfl rfl g3 rfl ?_
  refine (zz_go 1 (fr' := (zm_N_blank, d + 9, 15, [some (.ref 1), some (.int x0)], [.ref 1, .int (M 9 (x0).toNatClampNeg)])) (h' := (zt_T L, zt_R, M, J, e)) (fun _ => rfl)).trans ?_
  refine zl_getR rfl rfl rfl ?_
  refine (zz_go 1 (fr' := (zm_N_blank, d + 9, 19, [some (.ref 1), some (.int x0)], [.int x0, .ref 4, .int (M 9 (x0).toNatClampNeg)])) (h' := (zt_T L, zt_R, M, J, e)) (fun _ => rfl)).trans ?_
  have g5 : ok_S_marksOf M 4 x0 := k4
  refine zl_vt (d := d + 8) rfl rfl rfl rfl rfl rfl rfl rfl rfl rfl (s_S_marksOf L e J (d + 6) M 4 x0 zt_St_4 g5) ?_
  show zz_D (zm_N_blank, d + 9, 22, [some (.ref 1), some (.int x0)], [.int (v_S_marksOf M 4 x0), .int (M 9 (x0).toNatClampNeg)]) (zt_T L, zt_R, M, J, e) = _
  refine zz_jn (X := zz_D (zm_N_blank, d + 9, 31, [none, none], [.int (zb (decide (((M 9 (x0).toNatClampNeg) &&& (v_S_marksOf M 4 x0)) = 0)))]) (zt_T L, zt_R, M, J, e)) (fun j6 => ?_) ?_
  · refine (zz_go 1 (fr' := (zm_N_blank, d + 9, 23, [some (.ref 1), some (.int x0)], [.int ((M 9 (x0).toNatClampNeg) &&& (v_S_marksOf M 4 x0))])) (h' := (zt_T L, zt_R, M, J, e)) (fun _ => rfl)).trans ?_
    rcases zz_bc (decide (((M 9 (x0).toNatClampNeg) &&& (v_S_marksOf M 4 x0)) = 0)) with h7 | h7
    · refine zo_neT rfl h7 ?_
      refine (zz_go 2 (fr' := (zm_N_blank, d + 9, 31, [some (.ref 1), some (.int x0)], [.int (1 : Int32)])) (h' := (zt_T L, zt_R, M, J, e)) (fun _ => rfl)).trans ?_
      refine zz_weak (L := [none, none]) ⟨Or.inr ⟨rfl, rfl⟩, Or.inr ⟨rfl, rfl⟩, trivial⟩ ?_
      simpa only [h7, zk_t, zk_f, zb_t, zb_f] using j6
    · refine zo_neF rfl h7 ?_
      refine (zz_go 1 (fr' := (zm_N_blank, d + 9, 31, [some (.ref 1), some (.int x0)], [.int (0 : Int32)])) (h' := (zt_T L, zt_R, M, J, e)) (fun _ => rfl)).trans ?_
      refine zz_weak (L := [none, none]) ⟨Or.inr ⟨rfl, rfl⟩, Or.inr ⟨rfl, rfl⟩, trivial⟩ ?_
      simpa only [h7, zk_t, zk_f, zb_t, zb_f] using j6
  refine zl_retI rfl (zb_01 _) ?_
  first | (simp only [h1, zk_t, zk_f, zb_t, zb_f]; done) | (simp only [h1, zk_t, zk_f, zb_t, zb_f]; rfl) | rfl
def v_N_reach (M : zMem) (x0 : Int32) (x1 : Int32) (x2 : Int32) : Int32 := (bif Nat.beq (t_N_needKind x0) 0 then (bif Nat.beq (t_N_needPlace x1) 0 then (bif Nat.beq (t_N_needPlace x2) 0 then (v_F_steps (M 5 (x0).toNatClampNeg) x1 x2) else 0) else 0) else 0)
def t_N_reach (M : zMem) (x0 : Int32) (x1 : Int32) (x2 : Int32) : Nat := (bif Nat.beq (t_N_needKind x0) 0 then (bif Nat.beq (t_N_needPlace x1) 0 then (bif Nat.beq (t_N_needPlace x2) 0 then 0 else (t_N_needPlace x2)) else (t_N_needPlace x1)) else (t_N_needKind x0))
def ok_N_reach (M : zMem) (x0 : Int32) (x1 : Int32) (x2 : Int32) : Prop := (Nat.beq (t_N_needKind x0) 0 = true → (Nat.beq (t_N_needPlace x1) 0 = true → (Nat.beq (t_N_needPlace x2) 0 = true → (zz_in x0 8 = true ∧ ok_F_steps (M 5 (x0).toNatClampNeg) x1 x2))))
set_option maxRecDepth 20000 in
set_option maxHeartbeats 2000000 in
theorem s_N_reach (L e : Nat) (J : zJem) (d : Nat) (M : zMem) (x0 : Int32) (x1 : Int32) (x2 : Int32) (k0 : ok_N_reach M x0 x1 x2) : zz_D (zm_N_reach, d + 9, 0, [some (.ref 1), some (.int x0), some (.int x1), some (.int x2)], []) (zt_T L, zt_R, M, J, e) = some (zx_o (t_N_reach M x0 x1 x2) (some (.int (v_N_reach M x0 x1 x2))), (zt_T L, zt_R, M, J, zx_e (t_N_reach M x0 x1 x2) e)) := by
  unfold ok_N_reach at k0
  unfold v_N_reach t_N_reach
  refine (zz_go 1 (fr' := (zm_N_reach, d + 9, 1, [some (.ref 1), some (.int x0), some (.int x1), some (.int x2)], [.int x0])) (h' := (zt_T L, zt_R, M, J, e)) (fun _ => rfl)).trans ?_
  refine zl_st (d := d + 8) rfl rfl rfl rfl rfl rfl rfl (s_N_needKind L e J (d + 0) x0) ?_
  refine zl_aftV rfl (fun h1 => ?_) (fun h1 => ?_)
  rotate_left 1
  · skip
    rw [zx_oe h1 (some (.int 0))]
    first | (simp only [h1, zk_t, zk_f, zb_t, zb_f]; done) | (simp only [h1, zk_t, zk_f, zb_t, zb_f]; rfl) | rfl
  have k2 := k0 h1
  show zz_D (zm_N_reach, d + 9, 4, [some (.ref 1), some (.int x0), some (.int x1), some (.int x2)], []) (zt_T L, zt_R, M, J, e) = _
  refine (zz_go 1 (fr' := (zm_N_reach, d + 9, 5, [some (.ref 1), some (.int x0), some (.int x1), some (.int x2)], [.int x1])) (h' := (zt_T L, zt_R, M, J, e)) (fun _ => rfl)).trans ?_
  refine zl_st (d := d + 8) rfl rfl rfl rfl rfl rfl rfl (s_N_needPlace L e J (d + 0) x1) ?_
  refine zl_aftV rfl (fun h3 => ?_) (fun h3 => ?_)
  rotate_left 1
  · skip
    rw [zx_oe h3 (some (.int 0))]
    first | (simp only [h1, h3, zk_t, zk_f, zb_t, zb_f]; done) | (simp only [h1, h3, zk_t, zk_f, zb_t, zb_f]; rfl) | rfl
  have k4 := k2 h3
  show zz_D (zm_N_reach, d + 9, 8, [some (.ref 1), some (.int x0), some (.int x1), some (.int x2)], []) (zt_T L, zt_R, M, J, e) = _
  refine (zz_go 1 (fr' := (zm_N_reach, d + 9, 9, [some (.ref 1), some (.int x0), some (.int x1), some (.int x2)], [.int x2])) (h' := (zt_T L, zt_R, M, J, e)) (fun _ => rfl)).trans ?_
  refine zl_st (d := d + 8) rfl rfl rfl rfl rfl rfl rfl (s_N_needPlace L e J (d + 0) x2) ?_
  refine zl_aftV rfl (fun h5 => ?_) (fun h5 => ?_)
  rotate_left 1
  · skip
    rw [zx_oe h5 (some (.int 0))]
    first | (simp only [h1, h3, h5, zk_t, zk_f, zb_t, zb_f]; done) | (simp only [h1, h3, h5, zk_t, zk_f, zb_t, zb_f]; rfl) | rfl
  have k6 := k4 h5
  show zz_D (zm_N_reach, d + 9, 12, [some (.ref 1), some (.int x0), some (.int x1), some (.int x2)], []) (zt_T L, zt_R, M, J, e) = _
  refine (zz_go 1 (fr' := (zm_N_reach, d + 9, 13, [some (.ref 1), some (.int x0), some (.int x1), some (.int x2)], [.ref 1])) (h' := (zt_T L, zt_R, M, J, e)) (fun _ => rfl)).trans ?_
  refine zl_getR rfl rfl rfl ?_
  refine zl_getR rfl rfl rfl ?_
  refine (zz_go 1 (fr' := (zm_N_reach, d + 9, 20, [some (.ref 1), some (.int x0), some (.int x1), some (.int x2)], [.int x0, .ref 5])) (h' := (zt_T L, zt_R, M, J, e)) (fun _ => rfl)).trans ?_
  obtain ⟨g7, k8⟩ := k6
  refine zl_iaload rfl rfl g7 rfl ?_
  refine (zz_go 2 (fr' := (zm_N_reach, d + 9, 23, [some (.ref 1), some (.int x0), some (.int x1), some (.int x2)], [.int x2, .int x1, .int (M 5 (x0).toNatClampNeg)])) (h' := (zt_T L, zt_R, M, J, e)) (fun _ => rfl)).trans ?_
  have g9 : ok_F_steps (M 5 (x0).toNatClampNeg) x1 x2 := k8
  refine zl_st (d := d + 8) rfl rfl rfl rfl rfl rfl rfl (s_F_steps L e J (d + 6) (M 5 (x0).toNatClampNeg) x1 x2 g9) ?_
  show zz_D (zm_N_reach, d + 9, 26, [some (.ref 1), some (.int x0), some (.int x1), some (.int x2)], [.int (v_F_steps (M 5 (x0).toNatClampNeg) x1 x2)]) (zt_T L, zt_R, M, J, e) = _
  refine zl_retI rfl rfl ?_
  first | (simp only [h1, h3, h5, zk_t, zk_f, zb_t, zb_f]; done) | (simp only [h1, h3, h5, zk_t, zk_f, zb_t, zb_f]; rfl) | rfl
def v_N_turned (M : zMem) (x0 : Int32) (x1 : Int32) : Int32 := (bif Nat.beq (t_N_needKind x0) 0 then (bif Nat.beq (t_N_needKind x1) 0 then (v_F_quarterTurns (M 5 (x0).toNatClampNeg) (M 5 (x1).toNatClampNeg)) else 0) else 0)
def t_N_turned (M : zMem) (x0 : Int32) (x1 : Int32) : Nat := (bif Nat.beq (t_N_needKind x0) 0 then (bif Nat.beq (t_N_needKind x1) 0 then 0 else (t_N_needKind x1)) else (t_N_needKind x0))
def ok_N_turned (M : zMem) (x0 : Int32) (x1 : Int32) : Prop := (Nat.beq (t_N_needKind x0) 0 = true → (Nat.beq (t_N_needKind x1) 0 = true → (zz_in x0 8 = true ∧ (zz_in x1 8 = true ∧ ok_F_quarterTurns (M 5 (x0).toNatClampNeg) (M 5 (x1).toNatClampNeg)))))
set_option maxRecDepth 20000 in
set_option maxHeartbeats 2000000 in
theorem s_N_turned (L e : Nat) (J : zJem) (d : Nat) (M : zMem) (x0 : Int32) (x1 : Int32) (k0 : ok_N_turned M x0 x1) : zz_D (zm_N_turned, d + 9, 0, [some (.ref 1), some (.int x0), some (.int x1)], []) (zt_T L, zt_R, M, J, e) = some (zx_o (t_N_turned M x0 x1) (some (.int (v_N_turned M x0 x1))), (zt_T L, zt_R, M, J, zx_e (t_N_turned M x0 x1) e)) := by
  unfold ok_N_turned at k0
  unfold v_N_turned t_N_turned
  refine (zz_go 1 (fr' := (zm_N_turned, d + 9, 1, [some (.ref 1), some (.int x0), some (.int x1)], [.int x0])) (h' := (zt_T L, zt_R, M, J, e)) (fun _ => rfl)).trans ?_
  refine zl_st (d := d + 8) rfl rfl rfl rfl rfl rfl rfl (s_N_needKind L e J (d + 0) x0) ?_
  refine zl_aftV rfl (fun h1 => ?_) (fun h1 => ?_)
  rotate_left 1
  · skip
    rw [zx_oe h1 (some (.int 0))]
    first | (simp only [h1, zk_t, zk_f, zb_t, zb_f]; done) | (simp only [h1, zk_t, zk_f, zb_t, zb_f]; rfl) | rfl
  have k2 := k0 h1
  show zz_D (zm_N_turned, d + 9, 4, [some (.ref 1), some (.int x0), some (.int x1)], []) (zt_T L, zt_R, M, J, e) = _
  refine (zz_go 1 (fr' := (zm_N_turned, d + 9, 5, [some (.ref 1), some (.int x0), some (.int x1)], [.int x1])) (h' := (zt_T L, zt_R, M, J, e)) (fun _ => rfl)).trans ?_
  refine zl_st (d := d + 8) rfl rfl rfl rfl rfl rfl rfl (s_N_needKind L e J (d + 0) x1) ?_
  refine zl_aftV rfl (fun h3 => ?_) (fun h3 => ?_)
  rotate_left 1
  · skip
    rw [zx_oe h3 (some (.int 0))]
    first | (simp only [h1, h3, zk_t, zk_f, zb_t, zb_f]; done) | (simp only [h1, h3, zk_t, zk_f, zb_t, zb_f]; rfl) | rfl
  have k4 := k2 h3
  show zz_D (zm_N_turned, d + 9, 8, [some (.ref 1), some (.int x0), some (.int x1)], []) (zt_T L, zt_R, M, J, e) = _
  refine (zz_go 1 (fr' := (zm_N_turned, d + 9, 9, [some (.ref 1), some (.int x0), some (.int x1)], [.ref 1])) (h' := (zt_T L, zt_R, M, J, e)) (fun _ => rfl)).trans ?_
  refine zl_getR rfl rfl rfl ?_
  refine zl_getR rfl rfl rfl ?_
  refine (zz_go 1 (fr' := (zm_N_turned, d + 9, 16, [some (.ref 1), some (.int x0), some (.int x1)], [.int x0, .ref 5])) (h' := (zt_T L, zt_R, M, J, e)) (fun _ => rfl)).trans ?_
  obtain ⟨g5, k6⟩ := k4
  refine zl_iaload rfl rfl g5 rfl ?_
  refine (zz_go 1 (fr' := (zm_N_turned, d + 9, 18, [some (.ref 1), some (.int x0), some (.int x1)], [.ref 1, .int (M 5 (x0).toNatClampNeg)])) (h' := (zt_T L, zt_R, M, J, e)) (fun _ => rfl)).trans ?_
  refine zl_getR rfl rfl rfl ?_
  refine zl_getR rfl rfl rfl ?_
  refine (zz_go 1 (fr' := (zm_N_turned, d + 9, 25, [some (.ref 1), some (.int x0), some (.int x1)], [.int x1, .ref 5, .int (M 5 (x0).toNatClampNeg)])) (h' := (zt_T L, zt_R, M, J, e)) (fun _ => rfl)).trans ?_
  obtain ⟨g7, k8⟩ := k6
  refine zl_iaload rfl rfl g7 rfl ?_
  have g9 : ok_F_quarterTurns (M 5 (x0).toNatClampNeg) (M 5 (x1).toNatClampNeg) := k8
  refine zl_st (d := d + 8) rfl rfl rfl rfl rfl rfl rfl (s_F_quarterTurns L e J (d + 6) (M 5 (x0).toNatClampNeg) (M 5 (x1).toNatClampNeg) g9) ?_
  show zz_D (zm_N_turned, d + 9, 29, [some (.ref 1), some (.int x0), some (.int x1)], [.int (v_F_quarterTurns (M 5 (x0).toNatClampNeg) (M 5 (x1).toNatClampNeg))]) (zt_T L, zt_R, M, J, e) = _
  refine zl_retI rfl rfl ?_
  first | (simp only [h1, h3, zk_t, zk_f, zb_t, zb_f]; done) | (simp only [h1, h3, zk_t, zk_f, zb_t, zb_f]; rfl) | rfl
def v_N_shifts (M : zMem) (x0 : Int32) (x1 : Int32) (b2 : Bool) : Int32 := (bif Nat.beq (t_N_needKind x0) 0 then (bif Nat.beq (t_N_needKind x1) 0 then (bif b2 then (v_F_lyingOn (M 5 (x0).toNatClampNeg) (M 5 (x1).toNatClampNeg) (v_F_bestShift (M 5 (x0).toNatClampNeg) (M 5 (x1).toNatClampNeg))) else (v_F_bestShift (M 5 (x0).toNatClampNeg) (M 5 (x1).toNatClampNeg))) else 0) else 0)
def t_N_shifts (M : zMem) (x0 : Int32) (x1 : Int32) (b2 : Bool) : Nat := (bif Nat.beq (t_N_needKind x0) 0 then (bif Nat.beq (t_N_needKind x1) 0 then 0 else (t_N_needKind x1)) else (t_N_needKind x0))
def ok_N_shifts (M : zMem) (x0 : Int32) (x1 : Int32) (b2 : Bool) : Prop := (Nat.beq (t_N_needKind x0) 0 = true → (Nat.beq (t_N_needKind x1) 0 = true → (zz_in x0 8 = true ∧ zz_in x1 8 = true)))
set_option maxRecDepth 20000 in
set_option maxHeartbeats 2000000 in
theorem s_N_shifts (L e : Nat) (J : zJem) (d : Nat) (M : zMem) (x0 : Int32) (x1 : Int32) (b2 : Bool) (k0 : ok_N_shifts M x0 x1 b2) : zz_D (zm_N_shifts, d + 9, 0, [some (.ref 1), some (.int x0), some (.int x1), some (.int (zb b2)), none], []) (zt_T L, zt_R, M, J, e) = some (zx_o (t_N_shifts M x0 x1 b2) (some (.int (v_N_shifts M x0 x1 b2))), (zt_T L, zt_R, M, J, zx_e (t_N_shifts M x0 x1 b2) e)) := by
  unfold ok_N_shifts at k0
  unfold v_N_shifts t_N_shifts
  refine (zz_go 1 (fr' := (zm_N_shifts, d + 9, 1, [some (.ref 1), some (.int x0), some (.int x1), some (.int (zb b2)), none], [.int x0])) (h' := (zt_T L, zt_R, M, J, e)) (fun _ => rfl)).trans ?_
  refine zl_st (d := d + 8) rfl rfl rfl rfl rfl rfl rfl (s_N_needKind L e J (d + 0) x0) ?_
  refine zl_aftV rfl (fun h1 => ?_) (fun h1 => ?_)
  rotate_left 1
  · skip
    rw [zx_oe h1 (some (.int 0))]
    first | (simp only [h1, zk_t, zk_f, zb_t, zb_f]; done) | (simp only [h1, zk_t, zk_f, zb_t, zb_f]; rfl) | rfl
  have k2 := k0 h1
  show zz_D (zm_N_shifts, d + 9, 4, [some (.ref 1), some (.int x0), some (.int x1), some (.int (zb b2)), none], []) (zt_T L, zt_R, M, J, e) = _
  refine (zz_go 1 (fr' := (zm_N_shifts, d + 9, 5, [some (.ref 1), some (.int x0), some (.int x1), some (.int (zb b2)), none], [.int x1])) (h' := (zt_T L, zt_R, M, J, e)) (fun _ => rfl)).trans ?_
  refine zl_st (d := d + 8) rfl rfl rfl rfl rfl rfl rfl (s_N_needKind L e J (d + 0) x1) ?_
  refine zl_aftV rfl (fun h3 => ?_) (fun h3 => ?_)
  rotate_left 1
  · skip
    rw [zx_oe h3 (some (.int 0))]
    first | (simp only [h1, h3, zk_t, zk_f, zb_t, zb_f]; done) | (simp only [h1, h3, zk_t, zk_f, zb_t, zb_f]; rfl) | rfl
  have k4 := k2 h3
  show zz_D (zm_N_shifts, d + 9, 8, [some (.ref 1), some (.int x0), some (.int x1), some (.int (zb b2)), none], []) (zt_T L, zt_R, M, J, e) = _
  refine (zz_go 1 (fr' := (zm_N_shifts, d + 9, 9, [some (.ref 1), some (.int x0), some (.int x1), some (.int (zb b2)), none], [.ref 1])) (h' := (zt_T L, zt_R, M, J, e)) (fun _ => rfl)).trans ?_
  refine zl_getR rfl rfl rfl ?_
  refine zl_getR rfl rfl rfl ?_
  refine (zz_go 1 (fr' := (zm_N_shifts, d + 9, 16, [some (.ref 1), some (.int x0), some (.int x1), some (.int (zb b2)), none], [.int x0, .ref 5])) (h' := (zt_T L, zt_R, M, J, e)) (fun _ => rfl)).trans ?_
  obtain ⟨g5, k6⟩ := k4
  refine zl_iaload rfl rfl g5 rfl ?_
  refine (zz_go 1 (fr' := (zm_N_shifts, d + 9, 18, [some (.ref 1), some (.int x0), some (.int x1), some (.int (zb b2)), none], [.ref 1, .int (M 5 (x0).toNatClampNeg)])) (h' := (zt_T L, zt_R, M, J, e)) (fun _ => rfl)).trans ?_
  refine zl_getR rfl rfl rfl ?_
  refine zl_getR rfl rfl rfl ?_
  refine (zz_go 1 (fr' := (zm_N_shifts, d + 9, 25, [some (.ref 1), some (.int x0), some (.int x1), some (.int (zb b2)), none], [.int x1, .ref 5, .int (M 5 (x0).toNatClampNeg)])) (h' := (zt_T L, zt_R, M, J, e)) (fun _ => rfl)).trans ?_
  have g7 : zz_in x1 8 = true := k6
  refine zl_iaload rfl rfl g7 rfl ?_
  refine zl_st (d := d + 8) rfl rfl rfl rfl rfl rfl rfl (s_F_bestShift L e J (d + 5) (M 5 (x0).toNatClampNeg) (M 5 (x1).toNatClampNeg)) ?_
  show zz_D (zm_N_shifts, d + 9, 29, [some (.ref 1), some (.int x0), some (.int x1), some (.int (zb b2)), none], [.int (v_F_bestShift (M 5 (x0).toNatClampNeg) (M 5 (x1).toNatClampNeg))]) (zt_T L, zt_R, M, J, e) = _
  refine zz_jn (X := zz_D (zm_N_shifts, d + 9, 63, [none, none, none, none, none], [.int (bif b2 then (v_F_lyingOn (M 5 (x0).toNatClampNeg) (M 5 (x1).toNatClampNeg) (v_F_bestShift (M 5 (x0).toNatClampNeg) (M 5 (x1).toNatClampNeg))) else (v_F_bestShift (M 5 (x0).toNatClampNeg) (M 5 (x1).toNatClampNeg)))]) (zt_T L, zt_R, M, J, e)) (fun j8 => ?_) ?_
  · refine (zz_go 2 (fr' := (zm_N_shifts, d + 9, 32, [some (.ref 1), some (.int x0), some (.int x1), some (.int (zb b2)), some (.int (v_F_bestShift (M 5 (x0).toNatClampNeg) (M 5 (x1).toNatClampNeg)))], [.int (zb b2)])) (h' := (zt_T L, zt_R, M, J, e)) (fun _ => rfl)).trans ?_
    rcases zz_bc b2 with h9 | h9
    · refine zq_eT rfl h9 ?_
      refine (zz_go 1 (fr' := (zm_N_shifts, d + 9, 36, [some (.ref 1), some (.int x0), some (.int x1), some (.int (zb b2)), some (.int (v_F_bestShift (M 5 (x0).toNatClampNeg) (M 5 (x1).toNatClampNeg)))], [.ref 1])) (h' := (zt_T L, zt_R, M, J, e)) (fun _ => rfl)).trans ?_
      refine zl_getR rfl rfl rfl ?_
      refine zl_getR rfl rfl rfl ?_
      refine (zz_go 1 (fr' := (zm_N_shifts, d + 9, 43, [some (.ref 1), some (.int x0), some (.int x1), some (.int (zb b2)), some (.int (v_F_bestShift (M 5 (x0).toNatClampNeg) (M 5 (x1).toNatClampNeg)))], [.int x0, .ref 5])) (h' := (zt_T L, zt_R, M, J, e)) (fun _ => rfl)).trans ?_
      refine zl_iaload rfl rfl g5 rfl ?_
      refine (zz_go 1 (fr' := (zm_N_shifts, d + 9, 45, [some (.ref 1), some (.int x0), some (.int x1), some (.int (zb b2)), some (.int (v_F_bestShift (M 5 (x0).toNatClampNeg) (M 5 (x1).toNatClampNeg)))], [.ref 1, .int (M 5 (x0).toNatClampNeg)])) (h' := (zt_T L, zt_R, M, J, e)) (fun _ => rfl)).trans ?_
      refine zl_getR rfl rfl rfl ?_
      refine zl_getR rfl rfl rfl ?_
      refine (zz_go 1 (fr' := (zm_N_shifts, d + 9, 52, [some (.ref 1), some (.int x0), some (.int x1), some (.int (zb b2)), some (.int (v_F_bestShift (M 5 (x0).toNatClampNeg) (M 5 (x1).toNatClampNeg)))], [.int x1, .ref 5, .int (M 5 (x0).toNatClampNeg)])) (h' := (zt_T L, zt_R, M, J, e)) (fun _ => rfl)).trans ?_
      refine zl_iaload rfl rfl g7 rfl ?_
      refine (zz_go 1 (fr' := (zm_N_shifts, d + 9, 55, [some (.ref 1), some (.int x0), some (.int x1), some (.int (zb b2)), some (.int (v_F_bestShift (M 5 (x0).toNatClampNeg) (M 5 (x1).toNatClampNeg)))], [.int (v_F_bestShift (M 5 (x0).toNatClampNeg) (M 5 (x1).toNatClampNeg)), .int (M 5 (x1).toNatClampNeg), .int (M 5 (x0).toNatClampNeg)])) (h' := (zt_T L, zt_R, M, J, e)) (fun _ => rfl)).trans ?_
      refine zl_st (d := d + 8) rfl rfl rfl rfl rfl rfl rfl (s_F_lyingOn L e J (d + 6) (M 5 (x0).toNatClampNeg) (M 5 (x1).toNatClampNeg) (v_F_bestShift (M 5 (x0).toNatClampNeg) (M 5 (x1).toNatClampNeg))) ?_
      show zz_D (zm_N_shifts, d + 9, 58, [some (.ref 1), some (.int x0), some (.int x1), some (.int (zb b2)), some (.int (v_F_bestShift (M 5 (x0).toNatClampNeg) (M 5 (x1).toNatClampNeg)))], [.int (v_F_lyingOn (M 5 (x0).toNatClampNeg) (M 5 (x1).toNatClampNeg) (v_F_bestShift (M 5 (x0).toNatClampNeg) (M 5 (x1).toNatClampNeg)))]) (zt_T L, zt_R, M, J, e) = _
      refine (zz_go 1 (fr' := (zm_N_shifts, d + 9, 63, [some (.ref 1), some (.int x0), some (.int x1), some (.int (zb b2)), some (.int (v_F_bestShift (M 5 (x0).toNatClampNeg) (M 5 (x1).toNatClampNeg)))], [.int (v_F_lyingOn (M 5 (x0).toNatClampNeg) (M 5 (x1).toNatClampNeg) (v_F_bestShift (M 5 (x0).toNatClampNeg) (M 5 (x1).toNatClampNeg)))])) (h' := (zt_T L, zt_R, M, J, e)) (fun _ => rfl)).trans ?_
      refine zz_weak (L := [none, none, none, none, none]) ⟨Or.inr ⟨rfl, rfl⟩, Or.inr ⟨rfl, rfl⟩, Or.inr ⟨rfl, rfl⟩, Or.inr ⟨rfl, rfl⟩, Or.inr ⟨rfl, rfl⟩, trivial⟩ ?_
      simpa only [h9, zk_t, zk_f, zb_t, zb_f] using j8
    · refine zq_eF rfl h9 ?_
      refine (zz_go 1 (fr' := (zm_N_shifts, d + 9, 63, [some (.ref 1), some (.int x0), some (.int x1), some (.int (zb b2)), some (.int (v_F_bestShift (M 5 (x0).toNatClampNeg) (M 5 (x1).toNatClampNeg)))], [.int (v_F_bestShift (M 5 (x0).toNatClampNeg) (M 5 (x1).toNatClampNeg))])) (h' := (zt_T L, zt_R, M, J, e)) (fun _ => rfl)).trans ?_
      refine zz_weak (L := [none, none, none, none, none]) ⟨Or.inr ⟨rfl, rfl⟩, Or.inr ⟨rfl, rfl⟩, Or.inr ⟨rfl, rfl⟩, Or.inr ⟨rfl, rfl⟩, Or.inr ⟨rfl, rfl⟩, trivial⟩ ?_
      simpa only [h9, zk_t, zk_f, zb_t, zb_f] using j8
  refine zl_retI rfl rfl ?_
  first | (simp only [h1, h3, zk_t, zk_f, zb_t, zb_f]; done) | (simp only [h1, h3, zk_t, zk_f, zb_t, zb_f]; rfl) | rfl
def v_N_ring (M : zMem) (x0 : Int32) : Bool := (bif Nat.beq (t_N_needKind x0) 0 then (v_E_comesBack M x0) else false)
def t_N_ring (M : zMem) (x0 : Int32) : Nat := (bif Nat.beq (t_N_needKind x0) 0 then 0 else (t_N_needKind x0))
def ok_N_ring (M : zMem) (x0 : Int32) : Prop := (Nat.beq (t_N_needKind x0) 0 = true → ok_E_comesBack M x0)
set_option maxRecDepth 20000 in
set_option maxHeartbeats 2000000 in
theorem s_N_ring (L e : Nat) (J : zJem) (d : Nat) (M : zMem) (x0 : Int32) (k0 : ok_N_ring M x0) : zz_D (zm_N_ring, d + 9, 0, [some (.ref 1), some (.int x0)], []) (zt_T L, zt_R, M, J, e) = some (zx_o (t_N_ring M x0) (some (.int (zb (v_N_ring M x0)))), (zt_T L, zt_R, M, J, zx_e (t_N_ring M x0) e)) := by
  unfold ok_N_ring at k0
  unfold v_N_ring t_N_ring
  refine (zz_go 1 (fr' := (zm_N_ring, d + 9, 1, [some (.ref 1), some (.int x0)], [.int x0])) (h' := (zt_T L, zt_R, M, J, e)) (fun _ => rfl)).trans ?_
  refine zl_st (d := d + 8) rfl rfl rfl rfl rfl rfl rfl (s_N_needKind L e J (d + 0) x0) ?_
  refine zl_aftV rfl (fun h1 => ?_) (fun h1 => ?_)
  rotate_left 1
  · skip
    rw [zx_oe h1 (some (.int (zb false)))]
    first | (simp only [h1, zk_t, zk_f, zb_t, zb_f]; done) | (simp only [h1, zk_t, zk_f, zb_t, zb_f]; rfl) | rfl
  have k2 := k0 h1
  show zz_D (zm_N_ring, d + 9, 4, [some (.ref 1), some (.int x0)], []) (zt_T L, zt_R, M, J, e) = _
  refine (zz_go 1 (fr' := (zm_N_ring, d + 9, 5, [some (.ref 1), some (.int x0)], [.ref 1])) (h' := (zt_T L, zt_R, M, J, e)) (fun _ => rfl)).trans ?_
  refine zl_getR rfl rfl rfl ?_
  refine (zz_go 1 (fr' := (zm_N_ring, d + 9, 9, [some (.ref 1), some (.int x0)], [.int x0, .ref 4])) (h' := (zt_T L, zt_R, M, J, e)) (fun _ => rfl)).trans ?_
  have g3 : ok_E_comesBack M x0 := k2
  refine zl_st (d := d + 8) rfl rfl rfl rfl rfl rfl rfl (s_E_comesBack L e J (d + 6) M x0 g3) ?_
  show zz_D (zm_N_ring, d + 9, 12, [some (.ref 1), some (.int x0)], [.int (zb (v_E_comesBack M x0))]) (zt_T L, zt_R, M, J, e) = _
  refine zl_retI rfl (zb_01 _) ?_
  first | (simp only [h1, zk_t, zk_f, zb_t, zb_f]; done) | (simp only [h1, zk_t, zk_f, zb_t, zb_f]; rfl) | rfl
def v_N_deepest (M : zMem) : Int32 := (v_E_deepestKind M)
def ok_N_deepest (M : zMem) : Prop := ok_E_deepestKind M
set_option maxRecDepth 20000 in
set_option maxHeartbeats 2000000 in
theorem s_N_deepest (L e : Nat) (J : zJem) (d : Nat) (M : zMem) (k0 : ok_N_deepest M) : zz_D (zm_N_deepest, d + 3, 0, [some (.ref 1)], []) (zt_T L, zt_R, M, J, e) = some (.inl (some (.int (v_N_deepest M))), (zt_T L, zt_R, M, J, e)) := by
  unfold ok_N_deepest at k0
  unfold v_N_deepest
  refine (zz_go 1 (fr' := (zm_N_deepest, d + 3, 1, [some (.ref 1)], [.ref 1])) (h' := (zt_T L, zt_R, M, J, e)) (fun _ => rfl)).trans ?_
  refine zl_getR rfl rfl rfl ?_
  have g1 : ok_E_deepestKind M := k0
  refine zl_st (d := d + 2) rfl rfl rfl rfl rfl rfl rfl (s_E_deepestKind L e J (d + 0) M g1) ?_
  show zz_D (zm_N_deepest, d + 3, 7, [some (.ref 1)], [.int (v_E_deepestKind M)]) (zt_T L, zt_R, M, J, e) = _
  refine zl_retI rfl rfl ?_
  rfl
def g_N_needRows_1 (M : zMem) (x0 : Int32) (x1 : Int32) (x2 : Int32) (i1 : Nat) (a1 : Int32 × Bool) : Bool × (Int32 × Bool) := ((bif (decide (x0 ≤ (a1.1 + (1 : Int32)))) then false else (bif (decide (x1 ≤ (v_T_byteAt M a1.1))) then false else (decide ((v_T_byteAt M (a1.1 + (1 : Int32))) < x2)))), ((bif (decide (x0 ≤ (a1.1 + (1 : Int32)))) then a1.1 else (bif (decide (x1 ≤ (v_T_byteAt M a1.1))) then a1.1 else (bif (decide ((v_T_byteAt M (a1.1 + (1 : Int32))) < x2)) then (a1.1 + (2 : Int32)) else a1.1))), (bif (decide (x0 ≤ (a1.1 + (1 : Int32)))) then false else (bif (decide (x1 ≤ (v_T_byteAt M a1.1))) then true else (bif (decide ((v_T_byteAt M (a1.1 + (1 : Int32))) < x2)) then false else true)))))
def kb_N_needRows_1 (M : zMem) (x0 : Int32) (x1 : Int32) (x2 : Int32) (i1 : Nat) (a1 : Int32 × Bool) : Prop := ((decide (x0 ≤ (a1.1 + (1 : Int32)))) = false → (ok_T_byteAt M a1.1 ∧ ((decide (x1 ≤ (v_T_byteAt M a1.1))) = false → ok_T_byteAt M (a1.1 + (1 : Int32)))))
def t_N_needRows (M : zMem) (x0 : Int32) (x1 : Int32) (x2 : Int32) : Nat := (bif (decide ((40 : Int32) < x0)) then 1 else (bif (decide ((zrm x0 (2 : Int32)) = 0)) then (bif (zf_wh 1000 (g_N_needRows_1 M x0 x1 x2) 0 ((0 : Int32), false)).2 then 1 else 0) else 1))
def ok_N_needRows (M : zMem) (x0 : Int32) (x1 : Int32) (x2 : Int32) : Prop := ((decide ((40 : Int32) < x0)) = false → ((decide ((zrm x0 (2 : Int32)) = 0)) = true → (zf_wk 1000 (g_N_needRows_1 M x0 x1 x2) (kb_N_needRows_1 M x0 x1 x2) 0 ((0 : Int32), false))))
set_option maxRecDepth 20000 in
set_option maxHeartbeats 2000000 in
theorem s_N_needRows (L e : Nat) (J : zJem) (d : Nat) (M : zMem) (x0 : Int32) (x1 : Int32) (x2 : Int32) (k0 : ok_N_needRows M x0 x1 x2) : zz_D (zm_N_needRows, d + 8, 0, [some (.ref 1), some (.int x0), some (.int x1), some (.int x2), none], []) (zt_T L, zt_R, M, J, e) = some (zx_o (t_N_needRows M x0 x1 x2) (none), (zt_T L, zt_R, M, J, zx_e (t_N_needRows M x0 x1 x2) e)) := by
  unfold ok_N_needRows at k0
  unfold t_N_needRows
  refine (zz_go 2 (fr' := (zm_N_needRows, d + 8, 3, [some (.ref 1), some (.int x0), some (.int x1), some (.int x2), none], [.int (40 : Int32), .int x0])) (h' := (zt_T L, zt_R, M, J, e)) (fun _ => rfl)).trans ?_
  rcases zz_bc (decide ((40 : Int32) < x0)) with h1 | h1
  · refine zc_gtT rfl h1 ?_
    refine zl_throw rfl rfl rfl ?_
    first | (simp only [h1, zk_t, zk_f, zb_t, zb_f]; done) | (simp only [h1, zk_t, zk_f, zb_t, zb_f]; rfl) | rfl
  · refine zc_gtF rfl h1 ?_
    have k2 := k0 h1
    refine (zz_go 2 (fr' := (zm_N_needRows, d + 8, 8, [some (.ref 1), some (.int x0), some (.int x1), some (.int x2), none], [.int (2 : Int32), .int x0])) (h' := (zt_T L, zt_R, M, J, e)) (fun _ => rfl)).trans ?_
    refine zl_rem rfl (by decide) ?_
    rcases zz_bc (decide ((zrm x0 (2 : Int32)) = 0)) with h3 | h3
    · refine zo_eqT rfl h3 ?_
      have k4 := k2 h3
      refine (zz_go 2 (fr' := (zm_N_needRows, d + 8, 26, [some (.ref 1), some (.int x0), some (.int x1), some (.int x2), some (.int (0 : Int32))], [])) (h' := (zt_T L, zt_R, M, J, e)) (fun _ => rfl)).trans ?_
      refine zf_whY (X := fun (i1 : Nat) (a1 : Int32 × Bool) => zz_D (zm_N_needRows, d + 8, 26, [some (.ref 1), some (.int x0), some (.int x1), some (.int x2), some (.int a1.1)], []) (zt_T L, zt_R, M, J, e)) (Y := fun (a1 : Int32 × Bool) => (bif a1.2 then some (.inr 0, (zt_T L, zt_R, M, J, (e + 1))) else zz_D (zm_N_needRows, d + 8, 79, [none, none, none, none, none], []) (zt_T L, zt_R, M, J, e))) (g := (g_N_needRows_1 M x0 x1 x2)) (k := (kb_N_needRows_1 M x0 x1 x2)) (fun i1 a1 k7 hx5 hx6 => ?_) 1000 0 ((0 : Int32), false) k4 ?_
      · show zz_D (zm_N_needRows, d + 8, 26, [some (.ref 1), some (.int x0), some (.int x1), some (.int x2), some (.int a1.1)], []) (zt_T L, zt_R, M, J, e) = _
        unfold kb_N_needRows_1 at k7
        refine (zz_go 4 (fr' := (zm_N_needRows, d + 8, 31, [some (.ref 1), some (.int x0), some (.int x1), some (.int x2), some (.int a1.1)], [.int x0, .int (a1.1 + (1 : Int32))])) (h' := (zt_T L, zt_R, M, J, e)) (fun _ => rfl)).trans ?_
        rcases zz_bc (decide (x0 ≤ (a1.1 + (1 : Int32)))) with h8 | h8
        · refine zc_geT rfl h8 ?_
          refine zz_weak (L := [none, none, none, none, none]) ⟨Or.inr ⟨rfl, rfl⟩, Or.inr ⟨rfl, rfl⟩, Or.inr ⟨rfl, rfl⟩, Or.inr ⟨rfl, rfl⟩, Or.inr ⟨rfl, rfl⟩, trivial⟩ ?_
          have y1 := hx6 (by simp only [g_N_needRows_1, h8, zk_t, zk_f, zb_t, zb_f])
          simpa only [g_N_needRows_1, h8, zk_t, zk_f, zb_t, zb_f] using y1
        · refine zc_geF rfl h8 ?_
          have k9 := k7 h8
          refine (zz_go 1 (fr' := (zm_N_needRows, d + 8, 35, [some (.ref 1), some (.int x0), some (.int x1), some (.int x2), some (.int a1.1)], [.ref 1])) (h' := (zt_T L, zt_R, M, J, e)) (fun _ => rfl)).trans ?_
          refine zl_getR rfl rfl rfl ?_
          refine (zz_go 1 (fr' := (zm_N_needRows, d + 8, 40, [some (.ref 1), some (.int x0), some (.int x1), some (.int x2), some (.int a1.1)], [.int a1.1, .ref 2])) (h' := (zt_T L, zt_R, M, J, e)) (fun _ => rfl)).trans ?_
          obtain ⟨g10, k11⟩ := k9
          refine zl_vt (d := d + 7) rfl rfl rfl rfl rfl rfl rfl rfl rfl rfl (s_T_byteAt L e J (d + 6) M a1.1 g10) ?_
          show zz_D (zm_N_needRows, d + 8, 43, [some (.ref 1), some (.int x0), some (.int x1), some (.int x2), some (.int a1.1)], [.int (v_T_byteAt M a1.1)]) (zt_T L, zt_R, M, J, e) = _
          refine (zz_go 1 (fr' := (zm_N_needRows, d + 8, 44, [some (.ref 1), some (.int x0), some (.int x1), some (.int x2), some (.int a1.1)], [.int x1, .int (v_T_byteAt M a1.1)])) (h' := (zt_T L, zt_R, M, J, e)) (fun _ => rfl)).trans ?_
          rcases zz_bc (decide (x1 ≤ (v_T_byteAt M a1.1))) with h12 | h12
          · refine zc_geT rfl h12 ?_
            refine zl_throw rfl rfl rfl ?_
            have y1 := hx6 (by simp only [g_N_needRows_1, h8, h12, zk_t, zk_f, zb_t, zb_f])
            simpa only [g_N_needRows_1, h8, h12, zk_t, zk_f, zb_t, zb_f] using y1
          · refine zc_geF rfl h12 ?_
            have k13 := k11 h12
            refine (zz_go 1 (fr' := (zm_N_needRows, d + 8, 48, [some (.ref 1), some (.int x0), some (.int x1), some (.int x2), some (.int a1.1)], [.ref 1])) (h' := (zt_T L, zt_R, M, J, e)) (fun _ => rfl)).trans ?_
            refine zl_getR rfl rfl rfl ?_
            refine (zz_go 3 (fr' := (zm_N_needRows, d + 8, 55, [some (.ref 1), some (.int x0), some (.int x1), some (.int x2), some (.int a1.1)], [.int (a1.1 + (1 : Int32)), .ref 2])) (h' := (zt_T L, zt_R, M, J, e)) (fun _ => rfl)).trans ?_
            have g14 : ok_T_byteAt M (a1.1 + (1 : Int32)) := k13
            refine zl_vt (d := d + 7) rfl rfl rfl rfl rfl rfl rfl rfl rfl rfl (s_T_byteAt L e J (d + 6) M (a1.1 + (1 : Int32)) g14) ?_
            show zz_D (zm_N_needRows, d + 8, 58, [some (.ref 1), some (.int x0), some (.int x1), some (.int x2), some (.int a1.1)], [.int (v_T_byteAt M (a1.1 + (1 : Int32)))]) (zt_T L, zt_R, M, J, e) = _
            refine (zz_go 1 (fr' := (zm_N_needRows, d + 8, 59, [some (.ref 1), some (.int x0), some (.int x1), some (.int x2), some (.int a1.1)], [.int x2, .int (v_T_byteAt M (a1.1 + (1 : Int32)))])) (h' := (zt_T L, zt_R, M, J, e)) (fun _ => rfl)).trans ?_
            rcases zz_bc (decide ((v_T_byteAt M (a1.1 + (1 : Int32))) < x2)) with h15 | h15
            · refine zc_ltT rfl h15 ?_
              refine (zz_go 2 (fr' := (zm_N_needRows, d + 8, 26, [some (.ref 1), some (.int x0), some (.int x1), some (.int x2), some (.int (a1.1 + (2 : Int32)))], [])) (h' := (zt_T L, zt_R, M, J, e)) (fun _ => rfl)).trans ?_
              have y1 := hx5 (by simp only [g_N_needRows_1, h8, h12, h15, zk_t, zk_f, zb_t, zb_f])
              simpa only [g_N_needRows_1, h8, h12, h15, zk_t, zk_f, zb_t, zb_f] using y1
            · refine zc_ltF rfl h15 ?_
              refine zl_throw rfl rfl rfl ?_
              have y1 := hx6 (by simp only [g_N_needRows_1, h8, h12, h15, zk_t, zk_f, zb_t, zb_f])
              simpa only [g_N_needRows_1, h8, h12, h15, zk_t, zk_f, zb_t, zb_f] using y1
      show (bif (zf_wh 1000 (g_N_needRows_1 M x0 x1 x2) 0 ((0 : Int32), false)).2 then some (.inr 0, (zt_T L, zt_R, M, J, (e + 1))) else zz_D (zm_N_needRows, d + 8, 79, [none, none, none, none, none], []) (zt_T L, zt_R, M, J, e)) = _
      refine zz_ec (fun h16 => ?_) (fun h16 => ?_)
      · skip
        first | (simp only [h1, h3, h16, zk_t, zk_f, zb_t, zb_f]; done) | (simp only [h1, h3, h16, zk_t, zk_f, zb_t, zb_f]; rfl) | rfl
      refine (zz_end 1 (r := (.inl none, (zt_T L, zt_R, M, J, e))) (fun _ => rfl)).trans ?_
      first | (simp only [h1, h3, h16, zk_t, zk_f, zb_t, zb_f]; done) | (simp only [h1, h3, h16, zk_t, zk_f, zb_t, zb_f]; rfl) | rfl
    · refine zo_eqF rfl h3 ?_
      refine zl_throw rfl rfl rfl ?_
      first | (simp only [h1, h3, zk_t, zk_f, zb_t, zb_f]; done) | (simp only [h1, h3, zk_t, zk_f, zb_t, zb_f]; rfl) | rfl
def v_N_rules (M : zMem) (b0 : Bool) : Int32 := (bif Nat.beq (t_N_needRows (w_T_useUp M) (v_T_useUp M) (8 : Int32) (8 : Int32)) 0 then (bif b0 then (v_U_first (v_U_fittingRows (w_T_useUp M) (v_T_useUp M))) else (v_jl_bitCount (v_U_fittingRows (w_T_useUp M) (v_T_useUp M)))) else 0)
def w_N_rules (M : zMem) (b0 : Bool) : zMem := (w_T_useUp M)
def t_N_rules (M : zMem) (b0 : Bool) : Nat := (bif Nat.beq (t_N_needRows (w_T_useUp M) (v_T_useUp M) (8 : Int32) (8 : Int32)) 0 then 0 else (t_N_needRows (w_T_useUp M) (v_T_useUp M) (8 : Int32) (8 : Int32)))
def ok_N_rules (M : zMem) (b0 : Bool) : Prop := (ok_N_needRows (w_T_useUp M) (v_T_useUp M) (8 : Int32) (8 : Int32) ∧ (Nat.beq (t_N_needRows (w_T_useUp M) (v_T_useUp M) (8 : Int32) (8 : Int32)) 0 = true → (ok_U_fittingRows (w_T_useUp M) (v_T_useUp M) ∧ (b0 = true → ok_U_first (v_U_fittingRows (w_T_useUp M) (v_T_useUp M))))))
set_option maxRecDepth 20000 in
set_option maxHeartbeats 2000000 in
theorem s_N_rules (L e : Nat) (J : zJem) (d : Nat) (M : zMem) (b0 : Bool) (k0 : ok_N_rules M b0) : zz_D (zm_N_rules, d + 9, 0, [some (.ref 1), some (.int (zb b0)), none, none, none], []) (zt_T L, zt_R, M, J, e) = some (zx_o (t_N_rules M b0) (some (.int (v_N_rules M b0))), (zt_T L, zt_R, (w_N_rules M b0), J, zx_e (t_N_rules M b0) e)) := by
  unfold ok_N_rules at k0
  unfold v_N_rules w_N_rules t_N_rules
  refine (zz_go 1 (fr' := (zm_N_rules, d + 9, 1, [some (.ref 1), some (.int (zb b0)), none, none, none], [.ref 1])) (h' := (zt_T L, zt_R, M, J, e)) (fun _ => rfl)).trans ?_
  refine zl_getR rfl rfl rfl ?_
  refine zl_vt (d := d + 8) rfl rfl rfl rfl rfl rfl rfl rfl rfl rfl (s_T_useUp L e J (d + 7) M) ?_
  show zz_D (zm_N_rules, d + 9, 7, [some (.ref 1), some (.int (zb b0)), none, none, none], [.int (v_T_useUp M)]) (zt_T L, zt_R, (w_T_useUp M), J, e) = _
  refine (zz_go 5 (fr' := (zm_N_rules, d + 9, 14, [some (.ref 1), some (.int (zb b0)), some (.int (v_T_useUp M)), none, none], [.int (8 : Int32), .int (8 : Int32), .int (v_T_useUp M), .ref 1])) (h' := (zt_T L, zt_R, (w_T_useUp M), J, e)) (fun _ => rfl)).trans ?_
  obtain ⟨g1, k2⟩ := k0
  refine zl_vt (d := d + 8) rfl rfl rfl rfl rfl rfl rfl rfl rfl rfl (s_N_needRows L e J (d + 0) (w_T_useUp M) (v_T_useUp M) (8 : Int32) (8 : Int32) g1) ?_
  refine zl_aftV rfl (fun h3 => ?_) (fun h3 => ?_)
  rotate_left 1
  · skip
    rw [zx_oe h3 (some (.int 0))]
    first | (simp only [h3, zk_t, zk_f, zb_t, zb_f]; done) | (simp only [h3, zk_t, zk_f, zb_t, zb_f]; rfl) | rfl
  have k4 := k2 h3
  show zz_D (zm_N_rules, d + 9, 17, [some (.ref 1), some (.int (zb b0)), some (.int (v_T_useUp M)), none, none], []) (zt_T L, zt_R, (w_T_useUp M), J, e) = _
  refine (zz_go 1 (fr' := (zm_N_rules, d + 9, 18, [some (.ref 1), some (.int (zb b0)), some (.int (v_T_useUp M)), none, none], [.ref 1])) (h' := (zt_T L, zt_R, (w_T_useUp M), J, e)) (fun _ => rfl)).trans ?_
  refine zl_getR rfl rfl rfl ?_
  refine (zz_go 1 (fr' := (zm_N_rules, d + 9, 22, [some (.ref 1), some (.int (zb b0)), some (.int (v_T_useUp M)), none, none], [.int (v_T_useUp M), .ref 2])) (h' := (zt_T L, zt_R, (w_T_useUp M), J, e)) (fun _ => rfl)).trans ?_
  obtain ⟨g5, k6⟩ := k4
  refine zl_st (d := d + 8) rfl rfl rfl rfl rfl rfl rfl (s_U_fittingRows L e J (d + 6) (w_T_useUp M) (v_T_useUp M) g5) ?_
  show zz_D (zm_N_rules, d + 9, 25, [some (.ref 1), some (.int (zb b0)), some (.int (v_T_useUp M)), none, none], [.long (v_U_fittingRows (w_T_useUp M) (v_T_useUp M))]) (zt_T L, zt_R, (w_T_useUp M), J, e) = _
  refine zz_jn (X := zz_D (zm_N_rules, d + 9, 41, [none, none, none, some (.long (v_U_fittingRows (w_T_useUp M) (v_T_useUp M))), none], [.int (bif b0 then (v_U_first (v_U_fittingRows (w_T_useUp M) (v_T_useUp M))) else (v_jl_bitCount (v_U_fittingRows (w_T_useUp M) (v_T_useUp M))))]) (zt_T L, zt_R, (w_T_useUp M), J, e)) (fun j7 => ?_) ?_
  · refine (zz_go 2 (fr' := (zm_N_rules, d + 9, 27, [some (.ref 1), some (.int (zb b0)), some (.int (v_T_useUp M)), some (.long (v_U_fittingRows (w_T_useUp M) (v_T_useUp M))), none], [.int (zb b0)])) (h' := (zt_T L, zt_R, (w_T_useUp M), J, e)) (fun _ => rfl)).trans ?_
    rcases zz_bc b0 with h8 | h8
    · refine zq_eT rfl h8 ?_
      have k9 := k6 h8
      refine (zz_go 1 (fr' := (zm_N_rules, d + 9, 31, [some (.ref 1), some (.int (zb b0)), some (.int (v_T_useUp M)), some (.long (v_U_fittingRows (w_T_useUp M) (v_T_useUp M))), none], [.long (v_U_fittingRows (w_T_useUp M) (v_T_useUp M))])) (h' := (zt_T L, zt_R, (w_T_useUp M), J, e)) (fun _ => rfl)).trans ?_
      have g10 : ok_U_first (v_U_fittingRows (w_T_useUp M) (v_T_useUp M)) := k9
      refine zl_st (d := d + 8) rfl rfl rfl rfl rfl rfl rfl (s_U_first L e J (d + 7) (v_U_fittingRows (w_T_useUp M) (v_T_useUp M)) g10) ?_
      show zz_D (zm_N_rules, d + 9, 34, [some (.ref 1), some (.int (zb b0)), some (.int (v_T_useUp M)), some (.long (v_U_fittingRows (w_T_useUp M) (v_T_useUp M))), none], [.int (v_U_first (v_U_fittingRows (w_T_useUp M) (v_T_useUp M)))]) (zt_T L, zt_R, (w_T_useUp M), J, e) = _
      refine (zz_go 1 (fr' := (zm_N_rules, d + 9, 41, [some (.ref 1), some (.int (zb b0)), some (.int (v_T_useUp M)), some (.long (v_U_fittingRows (w_T_useUp M) (v_T_useUp M))), none], [.int (v_U_first (v_U_fittingRows (w_T_useUp M) (v_T_useUp M)))])) (h' := (zt_T L, zt_R, (w_T_useUp M), J, e)) (fun _ => rfl)).trans ?_
      refine zz_weak (L := [none, none, none, some (.long (v_U_fittingRows (w_T_useUp M) (v_T_useUp M))), none]) ⟨Or.inr ⟨rfl, rfl⟩, Or.inr ⟨rfl, rfl⟩, Or.inr ⟨rfl, rfl⟩, Or.inl rfl, Or.inl rfl, trivial⟩ ?_
      simpa only [h8, zk_t, zk_f, zb_t, zb_f] using j7
    · refine zq_eF rfl h8 ?_
      refine (zz_go 1 (fr' := (zm_N_rules, d + 9, 38, [some (.ref 1), some (.int (zb b0)), some (.int (v_T_useUp M)), some (.long (v_U_fittingRows (w_T_useUp M) (v_T_useUp M))), none], [.long (v_U_fittingRows (w_T_useUp M) (v_T_useUp M))])) (h' := (zt_T L, zt_R, (w_T_useUp M), J, e)) (fun _ => rfl)).trans ?_
      refine zl_st (d := d + 8) rfl rfl rfl rfl rfl rfl rfl (s_jl_bitCount L e J (d + 7) (v_U_fittingRows (w_T_useUp M) (v_T_useUp M))) ?_
      show zz_D (zm_N_rules, d + 9, 41, [some (.ref 1), some (.int (zb b0)), some (.int (v_T_useUp M)), some (.long (v_U_fittingRows (w_T_useUp M) (v_T_useUp M))), none], [.int (v_jl_bitCount (v_U_fittingRows (w_T_useUp M) (v_T_useUp M)))]) (zt_T L, zt_R, (w_T_useUp M), J, e) = _
      refine zz_weak (L := [none, none, none, some (.long (v_U_fittingRows (w_T_useUp M) (v_T_useUp M))), none]) ⟨Or.inr ⟨rfl, rfl⟩, Or.inr ⟨rfl, rfl⟩, Or.inr ⟨rfl, rfl⟩, Or.inl rfl, Or.inl rfl, trivial⟩ ?_
      simpa only [h8, zk_t, zk_f, zb_t, zb_f] using j7
  refine zl_retI rfl rfl ?_
  first | (simp only [h3, zk_t, zk_f, zb_t, zb_f]; done) | (simp only [h3, zk_t, zk_f, zb_t, zb_f]; rfl) | rfl
def v_N_ask (M : zMem) : Int32 := (bif Nat.beq (t_N_needRows (w_T_useUp M) (v_T_useUp M) (8 : Int32) (8 : Int32)) 0 then (v_U_bestQuestion (v_U_fittingRows (w_T_useUp M) (v_T_useUp M))) else 0)
def w_N_ask (M : zMem) : zMem := (w_T_useUp M)
def t_N_ask (M : zMem) : Nat := (bif Nat.beq (t_N_needRows (w_T_useUp M) (v_T_useUp M) (8 : Int32) (8 : Int32)) 0 then 0 else (t_N_needRows (w_T_useUp M) (v_T_useUp M) (8 : Int32) (8 : Int32)))
def ok_N_ask (M : zMem) : Prop := (ok_N_needRows (w_T_useUp M) (v_T_useUp M) (8 : Int32) (8 : Int32) ∧ (Nat.beq (t_N_needRows (w_T_useUp M) (v_T_useUp M) (8 : Int32) (8 : Int32)) 0 = true → ok_U_fittingRows (w_T_useUp M) (v_T_useUp M)))
set_option maxRecDepth 20000 in
set_option maxHeartbeats 2000000 in
theorem s_N_ask (L e : Nat) (J : zJem) (d : Nat) (M : zMem) (k0 : ok_N_ask M) : zz_D (zm_N_ask, d + 9, 0, [some (.ref 1), none], []) (zt_T L, zt_R, M, J, e) = some (zx_o (t_N_ask M) (some (.int (v_N_ask M))), (zt_T L, zt_R, (w_N_ask M), J, zx_e (t_N_ask M) e)) := by
  unfold ok_N_ask at k0
  unfold v_N_ask w_N_ask t_N_ask
  refine (zz_go 1 (fr' := (zm_N_ask, d + 9, 1, [some (.ref 1), none], [.ref 1])) (h' := (zt_T L, zt_R, M, J, e)) (fun _ => rfl)).trans ?_
  refine zl_getR rfl rfl rfl ?_
  refine zl_vt (d := d + 8) rfl rfl rfl rfl rfl rfl rfl rfl rfl rfl (s_T_useUp L e J (d + 7) M) ?_
  show zz_D (zm_N_ask, d + 9, 7, [some (.ref 1), none], [.int (v_T_useUp M)]) (zt_T L, zt_R, (w_T_useUp M), J, e) = _
  refine (zz_go 5 (fr' := (zm_N_ask, d + 9, 14, [some (.ref 1), some (.int (v_T_useUp M))], [.int (8 : Int32), .int (8 : Int32), .int (v_T_useUp M), .ref 1])) (h' := (zt_T L, zt_R, (w_T_useUp M), J, e)) (fun _ => rfl)).trans ?_
  obtain ⟨g1, k2⟩ := k0
  refine zl_vt (d := d + 8) rfl rfl rfl rfl rfl rfl rfl rfl rfl rfl (s_N_needRows L e J (d + 0) (w_T_useUp M) (v_T_useUp M) (8 : Int32) (8 : Int32) g1) ?_
  refine zl_aftV rfl (fun h3 => ?_) (fun h3 => ?_)
  rotate_left 1
  · skip
    rw [zx_oe h3 (some (.int 0))]
    first | (simp only [h3, zk_t, zk_f, zb_t, zb_f]; done) | (simp only [h3, zk_t, zk_f, zb_t, zb_f]; rfl) | rfl
  have k4 := k2 h3
  show zz_D (zm_N_ask, d + 9, 17, [some (.ref 1), some (.int (v_T_useUp M))], []) (zt_T L, zt_R, (w_T_useUp M), J, e) = _
  refine (zz_go 1 (fr' := (zm_N_ask, d + 9, 18, [some (.ref 1), some (.int (v_T_useUp M))], [.ref 1])) (h' := (zt_T L, zt_R, (w_T_useUp M), J, e)) (fun _ => rfl)).trans ?_
  refine zl_getR rfl rfl rfl ?_
  refine (zz_go 1 (fr' := (zm_N_ask, d + 9, 22, [some (.ref 1), some (.int (v_T_useUp M))], [.int (v_T_useUp M), .ref 2])) (h' := (zt_T L, zt_R, (w_T_useUp M), J, e)) (fun _ => rfl)).trans ?_
  have g5 : ok_U_fittingRows (w_T_useUp M) (v_T_useUp M) := k4
  refine zl_st (d := d + 8) rfl rfl rfl rfl rfl rfl rfl (s_U_fittingRows L e J (d + 6) (w_T_useUp M) (v_T_useUp M) g5) ?_
  show zz_D (zm_N_ask, d + 9, 25, [some (.ref 1), some (.int (v_T_useUp M))], [.long (v_U_fittingRows (w_T_useUp M) (v_T_useUp M))]) (zt_T L, zt_R, (w_T_useUp M), J, e) = _
  refine zl_st (d := d + 8) rfl rfl rfl rfl rfl rfl rfl (s_U_bestQuestion L e J (d + 5) (v_U_fittingRows (w_T_useUp M) (v_T_useUp M))) ?_
  show zz_D (zm_N_ask, d + 9, 28, [some (.ref 1), some (.int (v_T_useUp M))], [.int (v_U_bestQuestion (v_U_fittingRows (w_T_useUp M) (v_T_useUp M)))]) (zt_T L, zt_R, (w_T_useUp M), J, e) = _
  refine zl_retI rfl rfl ?_
  first | (simp only [h3, zk_t, zk_f, zb_t, zb_f]; done) | (simp only [h3, zk_t, zk_f, zb_t, zb_f]; rfl) | rfl
def v_N_now (M : zMem) : Int32 := (v_U_first (v_U_fittingKinds M))
def ok_N_now (M : zMem) : Prop := ok_U_first (v_U_fittingKinds M)
set_option maxRecDepth 20000 in
set_option maxHeartbeats 2000000 in
theorem s_N_now (L e : Nat) (J : zJem) (d : Nat) (M : zMem) (k0 : ok_N_now M) : zz_D (zm_N_now, d + 3, 0, [some (.ref 1)], []) (zt_T L, zt_R, M, J, e) = some (.inl (some (.int (v_N_now M))), (zt_T L, zt_R, M, J, e)) := by
  unfold ok_N_now at k0
  unfold v_N_now
  refine (zz_go 1 (fr' := (zm_N_now, d + 3, 1, [some (.ref 1)], [.ref 1])) (h' := (zt_T L, zt_R, M, J, e)) (fun _ => rfl)).trans ?_
  refine zl_getR rfl rfl rfl ?_
  refine zl_st (d := d + 2) rfl rfl rfl rfl rfl rfl rfl (s_U_fittingKinds L e J (d + 0) M) ?_
  show zz_D (zm_N_now, d + 3, 7, [some (.ref 1)], [.long (v_U_fittingKinds M)]) (zt_T L, zt_R, M, J, e) = _
  have g1 : ok_U_first (v_U_fittingKinds M) := k0
  refine zl_st (d := d + 2) rfl rfl rfl rfl rfl rfl rfl (s_U_first L e J (d + 1) (v_U_fittingKinds M) g1) ?_
  show zz_D (zm_N_now, d + 3, 10, [some (.ref 1)], [.int (v_U_first (v_U_fittingKinds M))]) (zt_T L, zt_R, M, J, e) = _
  refine zl_retI rfl rfl ?_
  rfl
def v_N_crew (M : zMem) (x0 : Int32) : Int32 := (v_G_fewestTellers M (x0 &&& (255 : Int32)))
def ok_N_crew (M : zMem) (x0 : Int32) : Prop := ok_G_fewestTellers M (x0 &&& (255 : Int32))
set_option maxRecDepth 20000 in
set_option maxHeartbeats 2000000 in
theorem s_N_crew (L e : Nat) (J : zJem) (d : Nat) (M : zMem) (x0 : Int32) (k0 : ok_N_crew M x0) : zz_D (zm_N_crew, d + 5, 0, [some (.ref 1), some (.int x0)], []) (zt_T L, zt_R, M, J, e) = some (.inl (some (.int (v_N_crew M x0))), (zt_T L, zt_R, M, J, e)) := by
  unfold ok_N_crew at k0
  unfold v_N_crew
  refine (zz_go 1 (fr' := (zm_N_crew, d + 5, 1, [some (.ref 1), some (.int x0)], [.ref 1])) (h' := (zt_T L, zt_R, M, J, e)) (fun _ => rfl)).trans ?_
  refine zl_getR rfl rfl rfl ?_
  refine (zz_go 1 (fr' := (zm_N_crew, d + 5, 5, [some (.ref 1), some (.int x0)], [.ref 1, .ref 192])) (h' := (zt_T L, zt_R, M, J, e)) (fun _ => rfl)).trans ?_
  refine zl_getR rfl rfl rfl ?_
  refine (zz_go 3 (fr' := (zm_N_crew, d + 5, 13, [some (.ref 1), some (.int x0)], [.int (x0 &&& (255 : Int32)), .ref 4, .ref 192])) (h' := (zt_T L, zt_R, M, J, e)) (fun _ => rfl)).trans ?_
  have g1 : ok_G_fewestTellers M (x0 &&& (255 : Int32)) := k0
  refine zl_vt (d := d + 4) rfl rfl rfl rfl rfl rfl rfl rfl rfl rfl (s_G_fewestTellers L e J (d + 0) M (x0 &&& (255 : Int32)) g1) ?_
  show zz_D (zm_N_crew, d + 5, 16, [some (.ref 1), some (.int x0)], [.int (v_G_fewestTellers M (x0 &&& (255 : Int32)))]) (zt_T L, zt_R, M, J, e) = _
  refine zl_retI rfl rfl ?_
  rfl
def g_N_needBerths_1 (M : zMem) (x0 : Int32) (i1 : Nat) (a1 : Bool) : Bool × (Bool) := ((bif (decide (x0 ≤ (Int32.ofNat i1))) then false else (decide ((v_T_byteAt M (Int32.ofNat i1)) < (8 : Int32)))), (bif (decide (x0 ≤ (Int32.ofNat i1))) then false else (bif (decide ((v_T_byteAt M (Int32.ofNat i1)) < (8 : Int32))) then false else true)))
def kb_N_needBerths_1 (M : zMem) (x0 : Int32) (i1 : Nat) (a1 : Bool) : Prop := ((decide (x0 ≤ (Int32.ofNat i1))) = false → ok_T_byteAt M (Int32.ofNat i1))
def t_N_needBerths (M : zMem) (x0 : Int32) : Nat := (bif (decide (x0 ≤ (6 : Int32))) then (bif (zf_wh 1000 (g_N_needBerths_1 M x0) 0 false) then 1 else 0) else 1)
def ok_N_needBerths (M : zMem) (x0 : Int32) : Prop := ((decide (x0 ≤ (6 : Int32))) = true → (zf_wk 1000 (g_N_needBerths_1 M x0) (kb_N_needBerths_1 M x0) 0 false))
set_option maxRecDepth 20000 in
set_option maxHeartbeats 2000000 in
theorem s_N_needBerths (L e : Nat) (J : zJem) (d : Nat) (M : zMem) (x0 : Int32) (k0 : ok_N_needBerths M x0) : zz_D (zm_N_needBerths, d + 8, 0, [some (.ref 1), some (.int x0), none], []) (zt_T L, zt_R, M, J, e) = some (zx_o (t_N_needBerths M x0) (none), (zt_T L, zt_R, M, J, zx_e (t_N_needBerths M x0) e)) := by
  unfold ok_N_needBerths at k0
  unfold t_N_needBerths
  refine (zz_go 2 (fr' := (zm_N_needBerths, d + 8, 3, [some (.ref 1), some (.int x0), none], [.int (6 : Int32), .int x0])) (h' := (zt_T L, zt_R, M, J, e)) (fun _ => rfl)).trans ?_
  rcases zz_bc (decide (x0 ≤ (6 : Int32))) with h1 | h1
  · refine zc_leT rfl h1 ?_
    have k2 := k0 h1
    refine (zz_go 2 (fr' := (zm_N_needBerths, d + 8, 19, [some (.ref 1), some (.int x0), some (.int (0 : Int32))], [])) (h' := (zt_T L, zt_R, M, J, e)) (fun _ => rfl)).trans ?_
    refine zf_whY (X := fun (i1 : Nat) (a1 : Bool) => zz_D (zm_N_needBerths, d + 8, 19, [some (.ref 1), some (.int x0), some (.int (Int32.ofNat i1))], []) (zt_T L, zt_R, M, J, e)) (Y := fun (a1 : Bool) => (bif a1 then some (.inr 0, (zt_T L, zt_R, M, J, (e + 1))) else zz_D (zm_N_needBerths, d + 8, 54, [none, none, none], []) (zt_T L, zt_R, M, J, e))) (g := (g_N_needBerths_1 M x0)) (k := (kb_N_needBerths_1 M x0)) (fun i1 a1 k5 hx3 hx4 => ?_) 1000 0 false k2 ?_
    · show zz_D (zm_N_needBerths, d + 8, 19, [some (.ref 1), some (.int x0), some (.int (Int32.ofNat i1))], []) (zt_T L, zt_R, M, J, e) = _
      unfold kb_N_needBerths_1 at k5
      refine (zz_go 2 (fr' := (zm_N_needBerths, d + 8, 21, [some (.ref 1), some (.int x0), some (.int (Int32.ofNat i1))], [.int x0, .int (Int32.ofNat i1)])) (h' := (zt_T L, zt_R, M, J, e)) (fun _ => rfl)).trans ?_
      rcases zz_bc (decide (x0 ≤ (Int32.ofNat i1))) with h6 | h6
      · refine zc_geT rfl h6 ?_
        refine zz_weak (L := [none, none, none]) ⟨Or.inr ⟨rfl, rfl⟩, Or.inr ⟨rfl, rfl⟩, Or.inr ⟨rfl, rfl⟩, trivial⟩ ?_
        have y1 := hx4 (by simp only [g_N_needBerths_1, h6, zk_t, zk_f, zb_t, zb_f])
        simpa only [g_N_needBerths_1, h6, zk_t, zk_f, zb_t, zb_f] using y1
      · refine zc_geF rfl h6 ?_
        have k7 := k5 h6
        refine (zz_go 1 (fr' := (zm_N_needBerths, d + 8, 25, [some (.ref 1), some (.int x0), some (.int (Int32.ofNat i1))], [.ref 1])) (h' := (zt_T L, zt_R, M, J, e)) (fun _ => rfl)).trans ?_
        refine zl_getR rfl rfl rfl ?_
        refine (zz_go 1 (fr' := (zm_N_needBerths, d + 8, 29, [some (.ref 1), some (.int x0), some (.int (Int32.ofNat i1))], [.int (Int32.ofNat i1), .ref 2])) (h' := (zt_T L, zt_R, M, J, e)) (fun _ => rfl)).trans ?_
        have g8 : ok_T_byteAt M (Int32.ofNat i1) := k7
        refine zl_vt (d := d + 7) rfl rfl rfl rfl rfl rfl rfl rfl rfl rfl (s_T_byteAt L e J (d + 6) M (Int32.ofNat i1) g8) ?_
        show zz_D (zm_N_needBerths, d + 8, 32, [some (.ref 1), some (.int x0), some (.int (Int32.ofNat i1))], [.int (v_T_byteAt M (Int32.ofNat i1))]) (zt_T L, zt_R, M, J, e) = _
        refine (zz_go 1 (fr' := (zm_N_needBerths, d + 8, 34, [some (.ref 1), some (.int x0), some (.int (Int32.ofNat i1))], [.int (8 : Int32), .int (v_T_byteAt M (Int32.ofNat i1))])) (h' := (zt_T L, zt_R, M, J, e)) (fun _ => rfl)).trans ?_
        rcases zz_bc (decide ((v_T_byteAt M (Int32.ofNat i1)) < (8 : Int32))) with h9 | h9
        · refine zc_ltT rfl h9 ?_
          refine (zz_go 2 (fr' := (zm_N_needBerths, d + 8, 19, [some (.ref 1), some (.int x0), some (.int (Int32.ofNat i1 + 1))], [])) (h' := (zt_T L, zt_R, M, J, e)) (fun _ => rfl)).trans ?_
          rw [zi_succ i1]
          have y1 := hx3 (by simp only [g_N_needBerths_1, h6, h9, zk_t, zk_f, zb_t, zb_f])
          simpa only [g_N_needBerths_1, h6, h9, zk_t, zk_f, zb_t, zb_f] using y1
        · refine zc_ltF rfl h9 ?_
          refine zl_throw rfl rfl rfl ?_
          have y1 := hx4 (by simp only [g_N_needBerths_1, h6, h9, zk_t, zk_f, zb_t, zb_f])
          simpa only [g_N_needBerths_1, h6, h9, zk_t, zk_f, zb_t, zb_f] using y1
    show (bif (zf_wh 1000 (g_N_needBerths_1 M x0) 0 false) then some (.inr 0, (zt_T L, zt_R, M, J, (e + 1))) else zz_D (zm_N_needBerths, d + 8, 54, [none, none, none], []) (zt_T L, zt_R, M, J, e)) = _
    refine zz_ec (fun h10 => ?_) (fun h10 => ?_)
    · skip
      first | (simp only [h1, h10, zk_t, zk_f, zb_t, zb_f]; done) | (simp only [h1, h10, zk_t, zk_f, zb_t, zb_f]; rfl) | rfl
    refine (zz_end 1 (r := (.inl none, (zt_T L, zt_R, M, J, e))) (fun _ => rfl)).trans ?_
    first | (simp only [h1, h10, zk_t, zk_f, zb_t, zb_f]; done) | (simp only [h1, h10, zk_t, zk_f, zb_t, zb_f]; rfl) | rfl
  · refine zc_leF rfl h1 ?_
    refine zl_throw rfl rfl rfl ?_
    first | (simp only [h1, zk_t, zk_f, zb_t, zb_f]; done) | (simp only [h1, zk_t, zk_f, zb_t, zb_f]; rfl) | rfl
def v_N_berths (M : zMem) (x0 : Int32) : Int32 := (bif Nat.beq (t_N_needBerths (w_T_useUp M) (v_T_useUp M)) 0 then (bif (decide (x0 = (-1 : Int32))) then (v_G_berthsFilled (w_G_fillBerths (w_T_useUp M) (v_T_useUp M))) else (v_G_berthPerson (w_G_fillBerths (w_T_useUp M) (v_T_useUp M)) (v_T_useUp M) x0)) else 0)
def w_N_berths (M : zMem) (x0 : Int32) : zMem := (bif Nat.beq (t_N_needBerths (w_T_useUp M) (v_T_useUp M)) 0 then (w_G_fillBerths (w_T_useUp M) (v_T_useUp M)) else (w_T_useUp M))
def t_N_berths (M : zMem) (x0 : Int32) : Nat := (bif Nat.beq (t_N_needBerths (w_T_useUp M) (v_T_useUp M)) 0 then 0 else (t_N_needBerths (w_T_useUp M) (v_T_useUp M)))
def ok_N_berths (M : zMem) (x0 : Int32) : Prop := (ok_N_needBerths (w_T_useUp M) (v_T_useUp M) ∧ (Nat.beq (t_N_needBerths (w_T_useUp M) (v_T_useUp M)) 0 = true → (ok_G_fillBerths (w_T_useUp M) (v_T_useUp M) ∧ ((decide (x0 = (-1 : Int32))) = false → ok_G_berthPerson (w_G_fillBerths (w_T_useUp M) (v_T_useUp M)) (v_T_useUp M) x0))))
set_option maxRecDepth 20000 in
set_option maxHeartbeats 2000000 in
theorem s_N_berths (L e : Nat) (J : zJem) (d : Nat) (M : zMem) (x0 : Int32) (k0 : ok_N_berths M x0) : zz_D (zm_N_berths, d + 9, 0, [some (.ref 1), some (.int x0), none], []) (zt_T L, zt_R, M, J, e) = some (zx_o (t_N_berths M x0) (some (.int (v_N_berths M x0))), (zt_T L, zt_R, (w_N_berths M x0), J, zx_e (t_N_berths M x0) e)) := by
  unfold ok_N_berths at k0
  unfold v_N_berths w_N_berths t_N_berths
  refine (zz_go 1 (fr' := (zm_N_berths, d + 9, 1, [some (.ref 1), some (.int x0), none], [.ref 1])) (h' := (zt_T L, zt_R, M, J, e)) (fun _ => rfl)).trans ?_
  refine zl_getR rfl rfl rfl ?_
  refine zl_vt (d := d + 8) rfl rfl rfl rfl rfl rfl rfl rfl rfl rfl (s_T_useUp L e J (d + 7) M) ?_
  show zz_D (zm_N_berths, d + 9, 7, [some (.ref 1), some (.int x0), none], [.int (v_T_useUp M)]) (zt_T L, zt_R, (w_T_useUp M), J, e) = _
  refine (zz_go 3 (fr' := (zm_N_berths, d + 9, 10, [some (.ref 1), some (.int x0), some (.int (v_T_useUp M))], [.int (v_T_useUp M), .ref 1])) (h' := (zt_T L, zt_R, (w_T_useUp M), J, e)) (fun _ => rfl)).trans ?_
  obtain ⟨g1, k2⟩ := k0
  refine zl_vt (d := d + 8) rfl rfl rfl rfl rfl rfl rfl rfl rfl rfl (s_N_needBerths L e J (d + 0) (w_T_useUp M) (v_T_useUp M) g1) ?_
  refine zl_aftV rfl (fun h3 => ?_) (fun h3 => ?_)
  rotate_left 1
  · skip
    rw [zx_oe h3 (some (.int 0))]
    first | (simp only [h3, zk_t, zk_f, zb_t, zb_f]; done) | (simp only [h3, zk_t, zk_f, zb_t, zb_f]; rfl) | rfl
  have k4 := k2 h3
  show zz_D (zm_N_berths, d + 9, 13, [some (.ref 1), some (.int x0), some (.int (v_T_useUp M))], []) (zt_T L, zt_R, (w_T_useUp M), J, e) = _
  refine (zz_go 1 (fr' := (zm_N_berths, d + 9, 14, [some (.ref 1), some (.int x0), some (.int (v_T_useUp M))], [.ref 1])) (h' := (zt_T L, zt_R, (w_T_useUp M), J, e)) (fun _ => rfl)).trans ?_
  refine zl_getR rfl rfl rfl ?_
  refine (zz_go 1 (fr' := (zm_N_berths, d + 9, 18, [some (.ref 1), some (.int x0), some (.int (v_T_useUp M))], [.ref 1, .ref 192])) (h' := (zt_T L, zt_R, (w_T_useUp M), J, e)) (fun _ => rfl)).trans ?_
  refine zl_getR rfl rfl rfl ?_
  refine (zz_go 1 (fr' := (zm_N_berths, d + 9, 22, [some (.ref 1), some (.int x0), some (.int (v_T_useUp M))], [.ref 1, .ref 4, .ref 192])) (h' := (zt_T L, zt_R, (w_T_useUp M), J, e)) (fun _ => rfl)).trans ?_
  refine zl_getR rfl rfl rfl ?_
  refine (zz_go 1 (fr' := (zm_N_berths, d + 9, 26, [some (.ref 1), some (.int x0), some (.int (v_T_useUp M))], [.int (v_T_useUp M), .ref 2, .ref 4, .ref 192])) (h' := (zt_T L, zt_R, (w_T_useUp M), J, e)) (fun _ => rfl)).trans ?_
  obtain ⟨g5, k6⟩ := k4
  refine zl_vt (d := d + 8) rfl rfl rfl rfl rfl rfl rfl rfl rfl rfl (s_G_fillBerths L e J (d + 3) (w_T_useUp M) (v_T_useUp M) g5) ?_
  show zz_D (zm_N_berths, d + 9, 29, [some (.ref 1), some (.int x0), some (.int (v_T_useUp M))], []) (zt_T L, zt_R, (w_G_fillBerths (w_T_useUp M) (v_T_useUp M)), J, e) = _
  refine zz_jn (X := zz_D (zm_N_berths, d + 9, 61, [none, none, none], [.int (bif (decide (x0 = (-1 : Int32))) then (v_G_berthsFilled (w_G_fillBerths (w_T_useUp M) (v_T_useUp M))) else (v_G_berthPerson (w_G_fillBerths (w_T_useUp M) (v_T_useUp M)) (v_T_useUp M) x0))]) (zt_T L, zt_R, (w_G_fillBerths (w_T_useUp M) (v_T_useUp M)), J, e)) (fun j7 => ?_) ?_
  · refine (zz_go 2 (fr' := (zm_N_berths, d + 9, 31, [some (.ref 1), some (.int x0), some (.int (v_T_useUp M))], [.int (-1 : Int32), .int x0])) (h' := (zt_T L, zt_R, (w_G_fillBerths (w_T_useUp M) (v_T_useUp M)), J, e)) (fun _ => rfl)).trans ?_
    rcases zz_bc (decide (x0 = (-1 : Int32))) with h8 | h8
    · refine zc_neT rfl h8 ?_
      refine (zz_go 1 (fr' := (zm_N_berths, d + 9, 35, [some (.ref 1), some (.int x0), some (.int (v_T_useUp M))], [.ref 1])) (h' := (zt_T L, zt_R, (w_G_fillBerths (w_T_useUp M) (v_T_useUp M)), J, e)) (fun _ => rfl)).trans ?_
      refine zl_getR rfl rfl rfl ?_
      refine zl_vt (d := d + 8) rfl rfl rfl rfl rfl rfl rfl rfl rfl rfl (s_G_berthsFilled L e J (d + 7) (w_G_fillBerths (w_T_useUp M) (v_T_useUp M))) ?_
      show zz_D (zm_N_berths, d + 9, 41, [some (.ref 1), some (.int x0), some (.int (v_T_useUp M))], [.int (v_G_berthsFilled (w_G_fillBerths (w_T_useUp M) (v_T_useUp M)))]) (zt_T L, zt_R, (w_G_fillBerths (w_T_useUp M) (v_T_useUp M)), J, e) = _
      refine (zz_go 1 (fr' := (zm_N_berths, d + 9, 61, [some (.ref 1), some (.int x0), some (.int (v_T_useUp M))], [.int (v_G_berthsFilled (w_G_fillBerths (w_T_useUp M) (v_T_useUp M)))])) (h' := (zt_T L, zt_R, (w_G_fillBerths (w_T_useUp M) (v_T_useUp M)), J, e)) (fun _ => rfl)).trans ?_
      refine zz_weak (L := [none, none, none]) ⟨Or.inr ⟨rfl, rfl⟩, Or.inr ⟨rfl, rfl⟩, Or.inr ⟨rfl, rfl⟩, trivial⟩ ?_
      simpa only [h8, zk_t, zk_f, zb_t, zb_f] using j7
    · refine zc_neF rfl h8 ?_
      have k9 := k6 h8
      refine (zz_go 1 (fr' := (zm_N_berths, d + 9, 45, [some (.ref 1), some (.int x0), some (.int (v_T_useUp M))], [.ref 1])) (h' := (zt_T L, zt_R, (w_G_fillBerths (w_T_useUp M) (v_T_useUp M)), J, e)) (fun _ => rfl)).trans ?_
      refine zl_getR rfl rfl rfl ?_
      refine (zz_go 1 (fr' := (zm_N_berths, d + 9, 49, [some (.ref 1), some (.int x0), some (.int (v_T_useUp M))], [.ref 1, .ref 192])) (h' := (zt_T L, zt_R, (w_G_fillBerths (w_T_useUp M) (v_T_useUp M)), J, e)) (fun _ => rfl)).trans ?_
      refine zl_getR rfl rfl rfl ?_
      refine (zz_go 1 (fr' := (zm_N_berths, d + 9, 53, [some (.ref 1), some (.int x0), some (.int (v_T_useUp M))], [.ref 1, .ref 4, .ref 192])) (h' := (zt_T L, zt_R, (w_G_fillBerths (w_T_useUp M) (v_T_useUp M)), J, e)) (fun _ => rfl)).trans ?_
      refine zl_getR rfl rfl rfl ?_
      refine (zz_go 2 (fr' := (zm_N_berths, d + 9, 58, [some (.ref 1), some (.int x0), some (.int (v_T_useUp M))], [.int x0, .int (v_T_useUp M), .ref 2, .ref 4, .ref 192])) (h' := (zt_T L, zt_R, (w_G_fillBerths (w_T_useUp M) (v_T_useUp M)), J, e)) (fun _ => rfl)).trans ?_
      have g10 : ok_G_berthPerson (w_G_fillBerths (w_T_useUp M) (v_T_useUp M)) (v_T_useUp M) x0 := k9
      refine zl_vt (d := d + 8) rfl rfl rfl rfl rfl rfl rfl rfl rfl rfl (s_G_berthPerson L e J (d + 2) (w_G_fillBerths (w_T_useUp M) (v_T_useUp M)) (v_T_useUp M) x0 g10) ?_
      show zz_D (zm_N_berths, d + 9, 61, [some (.ref 1), some (.int x0), some (.int (v_T_useUp M))], [.int (v_G_berthPerson (w_G_fillBerths (w_T_useUp M) (v_T_useUp M)) (v_T_useUp M) x0)]) (zt_T L, zt_R, (w_G_fillBerths (w_T_useUp M) (v_T_useUp M)), J, e) = _
      refine zz_weak (L := [none, none, none]) ⟨Or.inr ⟨rfl, rfl⟩, Or.inr ⟨rfl, rfl⟩, Or.inr ⟨rfl, rfl⟩, trivial⟩ ?_
      simpa only [h8, zk_t, zk_f, zb_t, zb_f] using j7
  refine zl_retI rfl rfl ?_
  first | (simp only [h3, zk_t, zk_f, zb_t, zb_f]; done) | (simp only [h3, zk_t, zk_f, zb_t, zb_f]; rfl) | rfl
def v_N_inks (M : zMem) (x0 : Int32) : Int32 := (bif (decide ((((x0 &&& (255 : Int32)) &&& ((v_S_toldByGroup M 4 (v_S_everybody M 4)) ^^^ (-1 : Int32))) &&& ((v_S_deedsOfKinds M 4 (255 : Int32)) ^^^ (-1 : Int32))) = 0)) then (bif (decide ((v_ji_bitCount (v_S_plainOnes M 4)) < (v_ji_bitCount ((x0 &&& (255 : Int32)) &&& ((v_S_toldByGroup M 4 (v_S_everybody M 4)) ^^^ (-1 : Int32)))))) then (-1 : Int32) else (v_ji_bitCount ((x0 &&& (255 : Int32)) &&& ((v_S_toldByGroup M 4 (v_S_everybody M 4)) ^^^ (-1 : Int32))))) else (-1 : Int32))
def ok_N_inks (M : zMem) (x0 : Int32) : Prop := (ok_S_toldByGroup M 4 (v_S_everybody M 4) ∧ ((decide ((((x0 &&& (255 : Int32)) &&& ((v_S_toldByGroup M 4 (v_S_everybody M 4)) ^^^ (-1 : Int32))) &&& ((v_S_deedsOfKinds M 4 (255 : Int32)) ^^^ (-1 : Int32))) = 0)) = true → ok_S_plainOnes M 4))
set_option maxRecDepth 20000 in
set_option maxHeartbeats 2000000 in
theorem s_N_inks (L e : Nat) (J : zJem) (d : Nat) (M : zMem) (x0 : Int32) (k0 : ok_N_inks M x0) : zz_D (zm_N_inks, d + 4, 0, [some (.ref 1), some (.int x0), none, none], []) (zt_T L, zt_R, M, J, e) = some (.inl (some (.int (v_N_inks M x0))), (zt_T L, zt_R, M, J, e)) := by
  unfold ok_N_inks at k0
  unfold v_N_inks
  refine (zz_go 4 (fr' := (zm_N_inks, d + 4, 6, [some (.ref 1), some (.int x0), none, none], [.ref 1, .int (x0 &&& (255 : Int32))])) (h' := (zt_T L, zt_R, M, J, e)) (fun _ => rfl)).trans ?_
  refine zl_getR rfl rfl rfl ?_
  refine (zz_go 1 (fr' := (zm_N_inks, d + 4, 10, [some (.ref 1), some (.int x0), none, none], [.ref 1, .ref 4, .int (x0 &&& (255 : Int32))])) (h' := (zt_T L, zt_R, M, J, e)) (fun _ => rfl)).trans ?_
  refine zl_getR rfl rfl rfl ?_
  refine zl_vt (d := d + 3) rfl rfl rfl rfl rfl rfl rfl rfl rfl rfl (s_S_everybody L e J (d + 2) M 4 zt_St_4) ?_
  show zz_D (zm_N_inks, d + 4, 16, [some (.ref 1), some (.int x0), none, none], [.int (v_S_everybody M 4), .ref 4, .int (x0 &&& (255 : Int32))]) (zt_T L, zt_R, M, J, e) = _
  obtain ⟨g1, k2⟩ := k0
  refine zl_vt (d := d + 3) rfl rfl rfl rfl rfl rfl rfl rfl rfl rfl (s_S_toldByGroup L e J (d + 0) M 4 (v_S_everybody M 4) zt_St_4 g1) ?_
  show zz_D (zm_N_inks, d + 4, 19, [some (.ref 1), some (.int x0), none, none], [.int (v_S_toldByGroup M 4 (v_S_everybody M 4)), .int (x0 &&& (255 : Int32))]) (zt_T L, zt_R, M, J, e) = _
  refine (zz_go 6 (fr' := (zm_N_inks, d + 4, 25, [some (.ref 1), some (.int x0), some (.int ((x0 &&& (255 : Int32)) &&& ((v_S_toldByGroup M 4 (v_S_everybody M 4)) ^^^ (-1 : Int32)))), none], [.ref 1, .int ((x0 &&& (255 : Int32)) &&& ((v_S_toldByGroup M 4 (v_S_everybody M 4)) ^^^ (-1 : Int32)))])) (h' := (zt_T L, zt_R, M, J, e)) (fun _ => rfl)).trans ?_
  refine zl_getR rfl rfl rfl ?_
  refine (zz_go 1 (fr' := (zm_N_inks, d + 4, 31, [some (.ref 1), some (.int x0), some (.int ((x0 &&& (255 : Int32)) &&& ((v_S_toldByGroup M 4 (v_S_everybody M 4)) ^^^ (-1 : Int32)))), none], [.int (255 : Int32), .ref 4, .int ((x0 &&& (255 : Int32)) &&& ((v_S_toldByGroup M 4 (v_S_everybody M 4)) ^^^ (-1 : Int32)))])) (h' := (zt_T L, zt_R, M, J, e)) (fun _ => rfl)).trans ?_
  refine zl_vt (d := d + 3) rfl rfl rfl rfl rfl rfl rfl rfl rfl rfl (s_S_deedsOfKinds L e J (d + 2) M 4 (255 : Int32) zt_St_4) ?_
  show zz_D (zm_N_inks, d + 4, 34, [some (.ref 1), some (.int x0), some (.int ((x0 &&& (255 : Int32)) &&& ((v_S_toldByGroup M 4 (v_S_everybody M 4)) ^^^ (-1 : Int32)))), none], [.int (v_S_deedsOfKinds M 4 (255 : Int32)), .int ((x0 &&& (255 : Int32)) &&& ((v_S_toldByGroup M 4 (v_S_everybody M 4)) ^^^ (-1 : Int32)))]) (zt_T L, zt_R, M, J, e) = _
  refine (zz_go 3 (fr' := (zm_N_inks, d + 4, 37, [some (.ref 1), some (.int x0), some (.int ((x0 &&& (255 : Int32)) &&& ((v_S_toldByGroup M 4 (v_S_everybody M 4)) ^^^ (-1 : Int32)))), none], [.int (((x0 &&& (255 : Int32)) &&& ((v_S_toldByGroup M 4 (v_S_everybody M 4)) ^^^ (-1 : Int32))) &&& ((v_S_deedsOfKinds M 4 (255 : Int32)) ^^^ (-1 : Int32)))])) (h' := (zt_T L, zt_R, M, J, e)) (fun _ => rfl)).trans ?_
  rcases zz_bc (decide ((((x0 &&& (255 : Int32)) &&& ((v_S_toldByGroup M 4 (v_S_everybody M 4)) ^^^ (-1 : Int32))) &&& ((v_S_deedsOfKinds M 4 (255 : Int32)) ^^^ (-1 : Int32))) = 0)) with h3 | h3
  · refine zo_eqT rfl h3 ?_
    have k4 := k2 h3
    refine (zz_go 1 (fr' := (zm_N_inks, d + 4, 43, [some (.ref 1), some (.int x0), some (.int ((x0 &&& (255 : Int32)) &&& ((v_S_toldByGroup M 4 (v_S_everybody M 4)) ^^^ (-1 : Int32)))), none], [.int ((x0 &&& (255 : Int32)) &&& ((v_S_toldByGroup M 4 (v_S_everybody M 4)) ^^^ (-1 : Int32)))])) (h' := (zt_T L, zt_R, M, J, e)) (fun _ => rfl)).trans ?_
    refine zl_st (d := d + 3) rfl rfl rfl rfl rfl rfl rfl (s_ji_bitCount L e J (d + 2) ((x0 &&& (255 : Int32)) &&& ((v_S_toldByGroup M 4 (v_S_everybody M 4)) ^^^ (-1 : Int32)))) ?_
    show zz_D (zm_N_inks, d + 4, 46, [some (.ref 1), some (.int x0), some (.int ((x0 &&& (255 : Int32)) &&& ((v_S_toldByGroup M 4 (v_S_everybody M 4)) ^^^ (-1 : Int32)))), none], [.int (v_ji_bitCount ((x0 &&& (255 : Int32)) &&& ((v_S_toldByGroup M 4 (v_S_everybody M 4)) ^^^ (-1 : Int32))))]) (zt_T L, zt_R, M, J, e) = _
    refine (zz_go 3 (fr' := (zm_N_inks, d + 4, 49, [some (.ref 1), some (.int x0), some (.int ((x0 &&& (255 : Int32)) &&& ((v_S_toldByGroup M 4 (v_S_everybody M 4)) ^^^ (-1 : Int32)))), some (.int (v_ji_bitCount ((x0 &&& (255 : Int32)) &&& ((v_S_toldByGroup M 4 (v_S_everybody M 4)) ^^^ (-1 : Int32)))))], [.ref 1, .int (v_ji_bitCount ((x0 &&& (255 : Int32)) &&& ((v_S_toldByGroup M 4 (v_S_everybody M 4)) ^^^ (-1 : Int32))))])) (h' := (zt_T L, zt_R, M, J, e)) (fun _ => rfl)).trans ?_
    refine zl_getR rfl rfl rfl ?_
    have g5 : ok_S_plainOnes M 4 := k4
    refine zl_vt (d := d + 3) rfl rfl rfl rfl rfl rfl rfl rfl rfl rfl (s_S_plainOnes L e J (d + 1) M 4 zt_St_4 g5) ?_
    show zz_D (zm_N_inks, d + 4, 55, [some (.ref 1), some (.int x0), some (.int ((x0 &&& (255 : Int32)) &&& ((v_S_toldByGroup M 4 (v_S_everybody M 4)) ^^^ (-1 : Int32)))), some (.int (v_ji_bitCount ((x0 &&& (255 : Int32)) &&& ((v_S_toldByGroup M 4 (v_S_everybody M 4)) ^^^ (-1 : Int32)))))], [.int (v_S_plainOnes M 4), .int (v_ji_bitCount ((x0 &&& (255 : Int32)) &&& ((v_S_toldByGroup M 4 (v_S_everybody M 4)) ^^^ (-1 : Int32))))]) (zt_T L, zt_R, M, J, e) = _
    refine zl_st (d := d + 3) rfl rfl rfl rfl rfl rfl rfl (s_ji_bitCount L e J (d + 2) (v_S_plainOnes M 4)) ?_
    show zz_D (zm_N_inks, d + 4, 58, [some (.ref 1), some (.int x0), some (.int ((x0 &&& (255 : Int32)) &&& ((v_S_toldByGroup M 4 (v_S_everybody M 4)) ^^^ (-1 : Int32)))), some (.int (v_ji_bitCount ((x0 &&& (255 : Int32)) &&& ((v_S_toldByGroup M 4 (v_S_everybody M 4)) ^^^ (-1 : Int32)))))], [.int (v_ji_bitCount (v_S_plainOnes M 4)), .int (v_ji_bitCount ((x0 &&& (255 : Int32)) &&& ((v_S_toldByGroup M 4 (v_S_everybody M 4)) ^^^ (-1 : Int32))))]) (zt_T L, zt_R, M, J, e) = _
    refine zz_jn (X := zz_D (zm_N_inks, d + 4, 66, [none, none, none, none], [.int (bif (decide ((v_ji_bitCount (v_S_plainOnes M 4)) < (v_ji_bitCount ((x0 &&& (255 : Int32)) &&& ((v_S_toldByGroup M 4 (v_S_everybody M 4)) ^^^ (-1 : Int32)))))) then (-1 : Int32) else (v_ji_bitCount ((x0 &&& (255 : Int32)) &&& ((v_S_toldByGroup M 4 (v_S_everybody M 4)) ^^^ (-1 : Int32)))))]) (zt_T L, zt_R, M, J, e)) (fun j6 => ?_) ?_
    · rcases zz_bc (decide ((v_ji_bitCount (v_S_plainOnes M 4)) < (v_ji_bitCount ((x0 &&& (255 : Int32)) &&& ((v_S_toldByGroup M 4 (v_S_everybody M 4)) ^^^ (-1 : Int32)))))) with h7 | h7
      · refine zc_gtT rfl h7 ?_
        refine (zz_go 1 (fr' := (zm_N_inks, d + 4, 66, [some (.ref 1), some (.int x0), some (.int ((x0 &&& (255 : Int32)) &&& ((v_S_toldByGroup M 4 (v_S_everybody M 4)) ^^^ (-1 : Int32)))), some (.int (v_ji_bitCount ((x0 &&& (255 : Int32)) &&& ((v_S_toldByGroup M 4 (v_S_everybody M 4)) ^^^ (-1 : Int32)))))], [.int (-1 : Int32)])) (h' := (zt_T L, zt_R, M, J, e)) (fun _ => rfl)).trans ?_
        refine zz_weak (L := [none, none, none, none]) ⟨Or.inr ⟨rfl, rfl⟩, Or.inr ⟨rfl, rfl⟩, Or.inr ⟨rfl, rfl⟩, Or.inr ⟨rfl, rfl⟩, trivial⟩ ?_
        simpa only [h7, zk_t, zk_f, zb_t, zb_f] using j6
      · refine zc_gtF rfl h7 ?_
        refine (zz_go 2 (fr' := (zm_N_inks, d + 4, 66, [some (.ref 1), some (.int x0), some (.int ((x0 &&& (255 : Int32)) &&& ((v_S_toldByGroup M 4 (v_S_everybody M 4)) ^^^ (-1 : Int32)))), some (.int (v_ji_bitCount ((x0 &&& (255 : Int32)) &&& ((v_S_toldByGroup M 4 (v_S_everybody M 4)) ^^^ (-1 : Int32)))))], [.int (v_ji_bitCount ((x0 &&& (255 : Int32)) &&& ((v_S_toldByGroup M 4 (v_S_everybody M 4)) ^^^ (-1 : Int32))))])) (h' := (zt_T L, zt_R, M, J, e)) (fun _ => rfl)).trans ?_
        refine zz_weak (L := [none, none, none, none]) ⟨Or.inr ⟨rfl, rfl⟩, Or.inr ⟨rfl, rfl⟩, Or.inr ⟨rfl, rfl⟩, Or.inr ⟨rfl, rfl⟩, trivial⟩ ?_
        simpa only [h7, zk_t, zk_f, zb_t, zb_f] using j6
    refine zl_retI rfl rfl ?_
    first | (simp only [h3, zk_t, zk_f, zb_t, zb_f]; done) | (simp only [h3, zk_t, zk_f, zb_t, zb_f]; rfl) | rfl
  · refine zo_eqF rfl h3 ?_
    refine (zz_go 1 (fr' := (zm_N_inks, d + 4, 41, [some (.ref 1), some (.int x0), some (.int ((x0 &&& (255 : Int32)) &&& ((v_S_toldByGroup M 4 (v_S_everybody M 4)) ^^^ (-1 : Int32)))), none], [.int (-1 : Int32)])) (h' := (zt_T L, zt_R, M, J, e)) (fun _ => rfl)).trans ?_
    refine zl_retI rfl rfl ?_
    first | (simp only [h3, zk_t, zk_f, zb_t, zb_f]; done) | (simp only [h3, zk_t, zk_f, zb_t, zb_f]; rfl) | rfl
def f_N_old_1 (M : zMem) (x0 : Int32) (i1 : Nat) (a1 : Int32) : Int32 := (v_jm_max a1 (x0 - (M 10 i1)))
def kb_N_old_1 (M : zMem) (x0 : Int32) (i1 : Nat) (a1 : Int32) : Prop := zz_in (Int32.ofNat i1) 6 = true
def v_N_old (M : zMem) (x0 : Int32) : Int32 := (bif (decide (x0 < 0)) then 0 else (bif (decide (x0 ≤ (99 : Int32))) then (bif (decide ((60 : Int32) < (zf_for (M 4 10).toNatClampNeg (f_N_old_1 M x0) (0 : Int32)))) then (-1 : Int32) else (zf_for (M 4 10).toNatClampNeg (f_N_old_1 M x0) (0 : Int32))) else 0))
def t_N_old (M : zMem) (x0 : Int32) : Nat := (bif (decide (x0 < 0)) then 1 else (bif (decide (x0 ≤ (99 : Int32))) then 0 else 1))
def ok_N_old (M : zMem) (x0 : Int32) : Prop := ((decide (x0 < 0)) = false → ((decide (x0 ≤ (99 : Int32))) = true → (∀ i1, i1 < (M 4 10).toNatClampNeg → kb_N_old_1 M x0 i1 (zf_for i1 (f_N_old_1 M x0) (0 : Int32)))))
set_option maxRecDepth 20000 in
set_option maxHeartbeats 2000000 in
theorem s_N_old (L e : Nat) (J : zJem) (d : Nat) (M : zMem) (x0 : Int32) (k0 : ok_N_old M x0) : zz_D (zm_N_old, d + 8, 0, [some (.ref 1), some (.int x0), none, none], []) (zt_T L, zt_R, M, J, e) = some (zx_o (t_N_old M x0) (some (.int (v_N_old M x0))), (zt_T L, zt_R, M, J, zx_e (t_N_old M x0) e)) := by
  unfold ok_N_old at k0
  unfold v_N_old t_N_old
  refine (zz_go 1 (fr' := (zm_N_old, d + 8, 1, [some (.ref 1), some (.int x0), none, none], [.int x0])) (h' := (zt_T L, zt_R, M, J, e)) (fun _ => rfl)).trans ?_
  rcases zz_bc (decide (x0 < 0)) with h1 | h1
  · refine zo_ltT rfl h1 ?_
    refine zl_throw rfl rfl rfl ?_
    first | (simp only [h1, zk_t, zk_f, zb_t, zb_f]; done) | (simp only [h1, zk_t, zk_f, zb_t, zb_f]; rfl) | rfl
  · refine zo_ltF rfl h1 ?_
    have k2 := k0 h1
    refine (zz_go 2 (fr' := (zm_N_old, d + 8, 7, [some (.ref 1), some (.int x0), none, none], [.int (99 : Int32), .int x0])) (h' := (zt_T L, zt_R, M, J, e)) (fun _ => rfl)).trans ?_
    rcases zz_bc (decide (x0 ≤ (99 : Int32))) with h3 | h3
    · refine zc_leT rfl h3 ?_
      have k4 := k2 h3
      refine (zz_go 4 (fr' := (zm_N_old, d + 8, 25, [some (.ref 1), some (.int x0), some (.int (0 : Int32)), some (.int (0 : Int32))], [])) (h' := (zt_T L, zt_R, M, J, e)) (fun _ => rfl)).trans ?_
      refine zf_forD (X := fun (i1 : Nat) (a1 : Int32) => zz_D (zm_N_old, d + 8, 25, [some (.ref 1), some (.int x0), some (.int a1), some (.int (Int32.ofNat i1))], []) (zt_T L, zt_R, M, J, e)) (f := (f_N_old_1 M x0)) (a := (0 : Int32)) (M 4 10).toNatClampNeg (fun i1 hi1 => ?_) ?_
      · intro hx5
        have k6 := k4 i1 hi1
        generalize zf_for i1 (f_N_old_1 M x0) (0 : Int32) = a1 at hx5 k6 ⊢
        show zz_D (zm_N_old, d + 8, 25, [some (.ref 1), some (.int x0), some (.int a1), some (.int (Int32.ofNat i1))], []) (zt_T L, zt_R, M, J, e) = _
        unfold kb_N_old_1 at k6
        refine (zz_go 2 (fr' := (zm_N_old, d + 8, 27, [some (.ref 1), some (.int x0), some (.int a1), some (.int (Int32.ofNat i1))], [.ref 1, .int (Int32.ofNat i1)])) (h' := (zt_T L, zt_R, M, J, e)) (fun _ => rfl)).trans ?_
        refine zl_getR rfl rfl rfl ?_
        refine zl_getI rfl (by decide) rfl rfl ?_
        refine zc_geF rfl (zi_lt hi1) ?_
        refine (zz_go 3 (fr' := (zm_N_old, d + 8, 39, [some (.ref 1), some (.int x0), some (.int a1), some (.int (Int32.ofNat i1))], [.ref 1, .int x0, .int a1])) (h' := (zt_T L, zt_R, M, J, e)) (fun _ => rfl)).trans ?_
        refine zl_getR rfl rfl rfl ?_
        refine zl_getR rfl rfl rfl ?_
        refine (zz_go 1 (fr' := (zm_N_old, d + 8, 46, [some (.ref 1), some (.int x0), some (.int a1), some (.int (Int32.ofNat i1))], [.int (Int32.ofNat i1), .ref 10, .int x0, .int a1])) (h' := (zt_T L, zt_R, M, J, e)) (fun _ => rfl)).trans ?_
        have g7 : zz_in (Int32.ofNat i1) 6 = true := k6
        refine zl_iaload rfl rfl g7 (by rw [(zi_nat (by have := zi_tn (M 4 10); omega))] <;> exact rfl) ?_
        refine (zz_go 1 (fr' := (zm_N_old, d + 8, 48, [some (.ref 1), some (.int x0), some (.int a1), some (.int (Int32.ofNat i1))], [.int (x0 - (M 10 i1)), .int a1])) (h' := (zt_T L, zt_R, M, J, e)) (fun _ => rfl)).trans ?_
        refine zl_st (d := d + 7) rfl rfl rfl rfl rfl rfl rfl (s_jm_max L e J (d + 6) a1 (x0 - (M 10 i1))) ?_
        show zz_D (zm_N_old, d + 8, 51, [some (.ref 1), some (.int x0), some (.int a1), some (.int (Int32.ofNat i1))], [.int (v_jm_max a1 (x0 - (M 10 i1)))]) (zt_T L, zt_R, M, J, e) = _
        refine (zz_go 3 (fr' := (zm_N_old, d + 8, 25, [some (.ref 1), some (.int x0), some (.int (v_jm_max a1 (x0 - (M 10 i1)))), some (.int (Int32.ofNat i1 + 1))], [])) (h' := (zt_T L, zt_R, M, J, e)) (fun _ => rfl)).trans ?_
        rw [zi_succ i1]
        exact hx5
      show zz_D (zm_N_old, d + 8, 25, [some (.ref 1), some (.int x0), some (.int (zf_for (M 4 10).toNatClampNeg (f_N_old_1 M x0) (0 : Int32))), some (.int (Int32.ofNat (M 4 10).toNatClampNeg))], []) (zt_T L, zt_R, M, J, e) = _
      refine (zz_go 2 (fr' := (zm_N_old, d + 8, 27, [some (.ref 1), some (.int x0), some (.int (zf_for (M 4 10).toNatClampNeg (f_N_old_1 M x0) (0 : Int32))), some (.int (Int32.ofNat (M 4 10).toNatClampNeg))], [.ref 1, .int (Int32.ofNat (M 4 10).toNatClampNeg)])) (h' := (zt_T L, zt_R, M, J, e)) (fun _ => rfl)).trans ?_
      refine zl_getR rfl rfl rfl ?_
      refine zl_getI rfl (by decide) rfl rfl ?_
      refine zc_geT rfl (zi_ge _) ?_
      refine zz_weak (L := [none, none, some (.int (zf_for (M 4 10).toNatClampNeg (f_N_old_1 M x0) (0 : Int32))), none]) ⟨Or.inr ⟨rfl, rfl⟩, Or.inr ⟨rfl, rfl⟩, Or.inl rfl, Or.inr ⟨rfl, rfl⟩, trivial⟩ ?_
      refine zz_jn (X := zz_D (zm_N_old, d + 8, 69, [none, none, none, none], [.int (bif (decide ((60 : Int32) < (zf_for (M 4 10).toNatClampNeg (f_N_old_1 M x0) (0 : Int32)))) then (-1 : Int32) else (zf_for (M 4 10).toNatClampNeg (f_N_old_1 M x0) (0 : Int32)))]) (zt_T L, zt_R, M, J, e)) (fun j8 => ?_) ?_
      · refine (zz_go 2 (fr' := (zm_N_old, d + 8, 61, [none, none, some (.int (zf_for (M 4 10).toNatClampNeg (f_N_old_1 M x0) (0 : Int32))), none], [.int (60 : Int32), .int (zf_for (M 4 10).toNatClampNeg (f_N_old_1 M x0) (0 : Int32))])) (h' := (zt_T L, zt_R, M, J, e)) (fun _ => rfl)).trans ?_
        rcases zz_bc (decide ((60 : Int32) < (zf_for (M 4 10).toNatClampNeg (f_N_old_1 M x0) (0 : Int32)))) with h9 | h9
        · refine zc_gtT rfl h9 ?_
          refine (zz_go 1 (fr' := (zm_N_old, d + 8, 69, [none, none, some (.int (zf_for (M 4 10).toNatClampNeg (f_N_old_1 M x0) (0 : Int32))), none], [.int (-1 : Int32)])) (h' := (zt_T L, zt_R, M, J, e)) (fun _ => rfl)).trans ?_
          refine zz_weak (L := [none, none, none, none]) ⟨Or.inl rfl, Or.inl rfl, Or.inr ⟨rfl, rfl⟩, Or.inl rfl, trivial⟩ ?_
          simpa only [h9, zk_t, zk_f, zb_t, zb_f] using j8
        · refine zc_gtF rfl h9 ?_
          refine (zz_go 2 (fr' := (zm_N_old, d + 8, 69, [none, none, some (.int (zf_for (M 4 10).toNatClampNeg (f_N_old_1 M x0) (0 : Int32))), none], [.int (zf_for (M 4 10).toNatClampNeg (f_N_old_1 M x0) (0 : Int32))])) (h' := (zt_T L, zt_R, M, J, e)) (fun _ => rfl)).trans ?_
          refine zz_weak (L := [none, none, none, none]) ⟨Or.inl rfl, Or.inl rfl, Or.inr ⟨rfl, rfl⟩, Or.inl rfl, trivial⟩ ?_
          simpa only [h9, zk_t, zk_f, zb_t, zb_f] using j8
      refine zl_retI rfl rfl ?_
      first | (simp only [h1, h3, zk_t, zk_f, zb_t, zb_f]; done) | (simp only [h1, h3, zk_t, zk_f, zb_t, zb_f]; rfl) | rfl
    · refine zc_leF rfl h3 ?_
      refine zl_throw rfl rfl rfl ?_
      first | (simp only [h1, h3, zk_t, zk_f, zb_t, zb_f]; done) | (simp only [h1, h3, zk_t, zk_f, zb_t, zb_f]; rfl) | rfl
def g_N_clash_1 (M : zMem) (i1 : Nat) (a1 : Int32 × Int32) : Bool × (Int32 × Int32) := ((bif (decide ((v_T_useUp M) ≤ (a1.2 + (1 : Int32)))) then false else true), ((bif (decide ((v_T_useUp M) ≤ (a1.2 + (1 : Int32)))) then a1.1 else (bif (decide ((zb (v_S_hasDoneItsDeed (w_T_useUp M) 4 (v_T_byteAt (w_T_useUp M) a1.2))) = (zb (decide ((v_T_byteAt (w_T_useUp M) (a1.2 + (1 : Int32))) = (1 : Int32)))))) then a1.1 else (a1.1 ||| (zsl (1 : Int32) (v_T_byteAt (w_T_useUp M) a1.2))))), (bif (decide ((v_T_useUp M) ≤ (a1.2 + (1 : Int32)))) then a1.2 else (a1.2 + (2 : Int32)))))
def kb_N_clash_1 (M : zMem) (i1 : Nat) (a1 : Int32 × Int32) : Prop := ((decide ((v_T_useUp M) ≤ (a1.2 + (1 : Int32)))) = false → (ok_T_byteAt (w_T_useUp M) a1.2 ∧ (ok_S_hasDoneItsDeed (w_T_useUp M) 4 (v_T_byteAt (w_T_useUp M) a1.2) ∧ ok_T_byteAt (w_T_useUp M) (a1.2 + (1 : Int32)))))
def v_N_clash (M : zMem) : Int32 := (bif Nat.beq (t_N_needRows (w_T_useUp M) (v_T_useUp M) ((w_T_useUp M) 4 10) (2 : Int32)) 0 then (zf_wh 1000 (g_N_clash_1 M) 0 ((0 : Int32), (0 : Int32))).1 else 0)
def w_N_clash (M : zMem) : zMem := (w_T_useUp M)
def t_N_clash (M : zMem) : Nat := (bif Nat.beq (t_N_needRows (w_T_useUp M) (v_T_useUp M) ((w_T_useUp M) 4 10) (2 : Int32)) 0 then 0 else (t_N_needRows (w_T_useUp M) (v_T_useUp M) ((w_T_useUp M) 4 10) (2 : Int32)))
def ok_N_clash (M : zMem) : Prop := (ok_N_needRows (w_T_useUp M) (v_T_useUp M) ((w_T_useUp M) 4 10) (2 : Int32) ∧ (Nat.beq (t_N_needRows (w_T_useUp M) (v_T_useUp M) ((w_T_useUp M) 4 10) (2 : Int32)) 0 = true → (zf_wk 1000 (g_N_clash_1 M) (kb_N_clash_1 M) 0 ((0 : Int32), (0 : Int32)))))
set_option maxRecDepth 20000 in
set_option maxHeartbeats 2000000 in
theorem s_N_clash (L e : Nat) (J : zJem) (d : Nat) (M : zMem) (k0 : ok_N_clash M) : zz_D (zm_N_clash, d + 9, 0, [some (.ref 1), none, none, none, none], []) (zt_T L, zt_R, M, J, e) = some (zx_o (t_N_clash M) (some (.int (v_N_clash M))), (zt_T L, zt_R, (w_N_clash M), J, zx_e (t_N_clash M) e)) := by
  unfold ok_N_clash at k0
  unfold v_N_clash w_N_clash t_N_clash
  refine (zz_go 1 (fr' := (zm_N_clash, d + 9, 1, [some (.ref 1), none, none, none, none], [.ref 1])) (h' := (zt_T L, zt_R, M, J, e)) (fun _ => rfl)).trans ?_
  refine zl_getR rfl rfl rfl ?_
  refine zl_vt (d := d + 8) rfl rfl rfl rfl rfl rfl rfl rfl rfl rfl (s_T_useUp L e J (d + 7) M) ?_
  show zz_D (zm_N_clash, d + 9, 7, [some (.ref 1), none, none, none, none], [.int (v_T_useUp M)]) (zt_T L, zt_R, (w_T_useUp M), J, e) = _
  refine (zz_go 4 (fr' := (zm_N_clash, d + 9, 11, [some (.ref 1), some (.int (v_T_useUp M)), none, none, none], [.ref 1, .int (v_T_useUp M), .ref 1])) (h' := (zt_T L, zt_R, (w_T_useUp M), J, e)) (fun _ => rfl)).trans ?_
  refine zl_getR rfl rfl rfl ?_
  refine zl_getI rfl (by decide) rfl rfl ?_
  refine (zz_go 1 (fr' := (zm_N_clash, d + 9, 18, [some (.ref 1), some (.int (v_T_useUp M)), none, none, none], [.int (2 : Int32), .int ((w_T_useUp M) 4 10), .int (v_T_useUp M), .ref 1])) (h' := (zt_T L, zt_R, (w_T_useUp M), J, e)) (fun _ => rfl)).trans ?_
  obtain ⟨g1, k2⟩ := k0
  refine zl_vt (d := d + 8) rfl rfl rfl rfl rfl rfl rfl rfl rfl rfl (s_N_needRows L e J (d + 0) (w_T_useUp M) (v_T_useUp M) ((w_T_useUp M) 4 10) (2 : Int32) g1) ?_
  refine zl_aftV rfl (fun h3 => ?_) (fun h3 => ?_)
  rotate_left 1
  · skip
    rw [zx_oe h3 (some (.int 0))]
    first | (simp only [h3, zk_t, zk_f, zb_t, zb_f]; done) | (simp only [h3, zk_t, zk_f, zb_t, zb_f]; rfl) | rfl
  have k4 := k2 h3
  show zz_D (zm_N_clash, d + 9, 21, [some (.ref 1), some (.int (v_T_useUp M)), none, none, none], []) (zt_T L, zt_R, (w_T_useUp M), J, e) = _
  refine (zz_go 4 (fr' := (zm_N_clash, d + 9, 25, [some (.ref 1), some (.int (v_T_useUp M)), some (.int (0 : Int32)), some (.int (0 : Int32)), none], [])) (h' := (zt_T L, zt_R, (w_T_useUp M), J, e)) (fun _ => rfl)).trans ?_
  refine zf_whY (X := fun (i1 : Nat) (a1 : Int32 × Int32) => zz_D (zm_N_clash, d + 9, 25, [some (.ref 1), some (.int (v_T_useUp M)), some (.int a1.1), some (.int a1.2), none], []) (zt_T L, zt_R, (w_T_useUp M), J, e)) (Y := fun (a1 : Int32 × Int32) => zz_D (zm_N_clash, d + 9, 86, [none, none, some (.int a1.1), none, none], []) (zt_T L, zt_R, (w_T_useUp M), J, e)) (g := (g_N_clash_1 M)) (k := (kb_N_clash_1 M)) (fun i1 a1 k7 hx5 hx6 => ?_) 1000 0 ((0 : Int32), (0 : Int32)) k4 ?_
  · show zz_D (zm_N_clash, d + 9, 25, [some (.ref 1), some (.int (v_T_useUp M)), some (.int a1.1), some (.int a1.2), none], []) (zt_T L, zt_R, (w_T_useUp M), J, e) = _
    unfold kb_N_clash_1 at k7
    refine (zz_go 4 (fr' := (zm_N_clash, d + 9, 29, [some (.ref 1), some (.int (v_T_useUp M)), some (.int a1.1), some (.int a1.2), none], [.int (v_T_useUp M), .int (a1.2 + (1 : Int32))])) (h' := (zt_T L, zt_R, (w_T_useUp M), J, e)) (fun _ => rfl)).trans ?_
    rcases zz_bc (decide ((v_T_useUp M) ≤ (a1.2 + (1 : Int32)))) with h8 | h8
    · refine zc_geT rfl h8 ?_
      refine zz_weak (L := [none, none, some (.int a1.1), none, none]) ⟨Or.inr ⟨rfl, rfl⟩, Or.inr ⟨rfl, rfl⟩, Or.inl rfl, Or.inr ⟨rfl, rfl⟩, Or.inl rfl, trivial⟩ ?_
      have y1 := hx6 (by simp only [g_N_clash_1, h8, zk_t, zk_f, zb_t, zb_f])
      simpa only [g_N_clash_1, h8, zk_t, zk_f, zb_t, zb_f] using y1
    · refine zc_geF rfl h8 ?_
      have k9 := k7 h8
      refine (zz_go 1 (fr' := (zm_N_clash, d + 9, 33, [some (.ref 1), some (.int (v_T_useUp M)), some (.int a1.1), some (.int a1.2), none], [.ref 1])) (h' := (zt_T L, zt_R, (w_T_useUp M), J, e)) (fun _ => rfl)).trans ?_
      refine zl_getR rfl rfl rfl ?_
      refine (zz_go 1 (fr' := (zm_N_clash, d + 9, 37, [some (.ref 1), some (.int (v_T_useUp M)), some (.int a1.1), some (.int a1.2), none], [.int a1.2, .ref 2])) (h' := (zt_T L, zt_R, (w_T_useUp M), J, e)) (fun _ => rfl)).trans ?_
      obtain ⟨g10, k11⟩ := k9
      refine zl_vt (d := d + 8) rfl rfl rfl rfl rfl rfl rfl rfl rfl rfl (s_T_byteAt L e J (d + 7) (w_T_useUp M) a1.2 g10) ?_
      show zz_D (zm_N_clash, d + 9, 40, [some (.ref 1), some (.int (v_T_useUp M)), some (.int a1.1), some (.int a1.2), none], [.int (v_T_byteAt (w_T_useUp M) a1.2)]) (zt_T L, zt_R, (w_T_useUp M), J, e) = _
      refine (zz_go 2 (fr' := (zm_N_clash, d + 9, 43, [some (.ref 1), some (.int (v_T_useUp M)), some (.int a1.1), some (.int a1.2), some (.int (v_T_byteAt (w_T_useUp M) a1.2))], [.ref 1])) (h' := (zt_T L, zt_R, (w_T_useUp M), J, e)) (fun _ => rfl)).trans ?_
      refine zl_getR rfl rfl rfl ?_
      refine (zz_go 1 (fr' := (zm_N_clash, d + 9, 48, [some (.ref 1), some (.int (v_T_useUp M)), some (.int a1.1), some (.int a1.2), some (.int (v_T_byteAt (w_T_useUp M) a1.2))], [.int (v_T_byteAt (w_T_useUp M) a1.2), .ref 4])) (h' := (zt_T L, zt_R, (w_T_useUp M), J, e)) (fun _ => rfl)).trans ?_
      obtain ⟨g12, k13⟩ := k11
      refine zl_vt (d := d + 8) rfl rfl rfl rfl rfl rfl rfl rfl rfl rfl (s_S_hasDoneItsDeed L e J (d + 5) (w_T_useUp M) 4 (v_T_byteAt (w_T_useUp M) a1.2) zt_St_4 g12) ?_
      show zz_D (zm_N_clash, d + 9, 51, [some (.ref 1), some (.int (v_T_useUp M)), some (.int a1.1), some (.int a1.2), some (.int (v_T_byteAt (w_T_useUp M) a1.2))], [.int (zb (v_S_hasDoneItsDeed (w_T_useUp M) 4 (v_T_byteAt (w_T_useUp M) a1.2)))]) (zt_T L, zt_R, (w_T_useUp M), J, e) = _
      refine (zz_go 1 (fr' := (zm_N_clash, d + 9, 52, [some (.ref 1), some (.int (v_T_useUp M)), some (.int a1.1), some (.int a1.2), some (.int (v_T_byteAt (w_T_useUp M) a1.2))], [.ref 1, .int (zb (v_S_hasDoneItsDeed (w_T_useUp M) 4 (v_T_byteAt (w_T_useUp M) a1.2)))])) (h' := (zt_T L, zt_R, (w_T_useUp M), J, e)) (fun _ => rfl)).trans ?_
      refine zl_getR rfl rfl rfl ?_
      refine (zz_go 3 (fr' := (zm_N_clash, d + 9, 58, [some (.ref 1), some (.int (v_T_useUp M)), some (.int a1.1), some (.int a1.2), some (.int (v_T_byteAt (w_T_useUp M) a1.2))], [.int (a1.2 + (1 : Int32)), .ref 2, .int (zb (v_S_hasDoneItsDeed (w_T_useUp M) 4 (v_T_byteAt (w_T_useUp M) a1.2)))])) (h' := (zt_T L, zt_R, (w_T_useUp M), J, e)) (fun _ => rfl)).trans ?_
      have g14 : ok_T_byteAt (w_T_useUp M) (a1.2 + (1 : Int32)) := k13
      refine zl_vt (d := d + 8) rfl rfl rfl rfl rfl rfl rfl rfl rfl rfl (s_T_byteAt L e J (d + 7) (w_T_useUp M) (a1.2 + (1 : Int32)) g14) ?_
      show zz_D (zm_N_clash, d + 9, 61, [some (.ref 1), some (.int (v_T_useUp M)), some (.int a1.1), some (.int a1.2), some (.int (v_T_byteAt (w_T_useUp M) a1.2))], [.int (v_T_byteAt (w_T_useUp M) (a1.2 + (1 : Int32))), .int (zb (v_S_hasDoneItsDeed (w_T_useUp M) 4 (v_T_byteAt (w_T_useUp M) a1.2)))]) (zt_T L, zt_R, (w_T_useUp M), J, e) = _
      refine zz_jn (X := zz_D (zm_N_clash, d + 9, 70, [some (.ref 1), some (.int (v_T_useUp M)), some (.int a1.1), some (.int a1.2), some (.int (v_T_byteAt (w_T_useUp M) a1.2))], [.int (zb (decide ((v_T_byteAt (w_T_useUp M) (a1.2 + (1 : Int32))) = (1 : Int32)))), .int (zb (v_S_hasDoneItsDeed (w_T_useUp M) 4 (v_T_byteAt (w_T_useUp M) a1.2)))]) (zt_T L, zt_R, (w_T_useUp M), J, e)) (fun j15 => ?_) ?_
      · refine (zz_go 1 (fr' := (zm_N_clash, d + 9, 62, [some (.ref 1), some (.int (v_T_useUp M)), some (.int a1.1), some (.int a1.2), some (.int (v_T_byteAt (w_T_useUp M) a1.2))], [.int (1 : Int32), .int (v_T_byteAt (w_T_useUp M) (a1.2 + (1 : Int32))), .int (zb (v_S_hasDoneItsDeed (w_T_useUp M) 4 (v_T_byteAt (w_T_useUp M) a1.2)))])) (h' := (zt_T L, zt_R, (w_T_useUp M), J, e)) (fun _ => rfl)).trans ?_
        rcases zz_bc (decide ((v_T_byteAt (w_T_useUp M) (a1.2 + (1 : Int32))) = (1 : Int32))) with h16 | h16
        · refine zc_neT rfl h16 ?_
          refine (zz_go 2 (fr' := (zm_N_clash, d + 9, 70, [some (.ref 1), some (.int (v_T_useUp M)), some (.int a1.1), some (.int a1.2), some (.int (v_T_byteAt (w_T_useUp M) a1.2))], [.int (1 : Int32), .int (zb (v_S_hasDoneItsDeed (w_T_useUp M) 4 (v_T_byteAt (w_T_useUp M) a1.2)))])) (h' := (zt_T L, zt_R, (w_T_useUp M), J, e)) (fun _ => rfl)).trans ?_
          simpa only [h16, zk_t, zk_f, zb_t, zb_f] using j15
        · refine zc_neF rfl h16 ?_
          refine (zz_go 1 (fr' := (zm_N_clash, d + 9, 70, [some (.ref 1), some (.int (v_T_useUp M)), some (.int a1.1), some (.int a1.2), some (.int (v_T_byteAt (w_T_useUp M) a1.2))], [.int (0 : Int32), .int (zb (v_S_hasDoneItsDeed (w_T_useUp M) 4 (v_T_byteAt (w_T_useUp M) a1.2)))])) (h' := (zt_T L, zt_R, (w_T_useUp M), J, e)) (fun _ => rfl)).trans ?_
          simpa only [h16, zk_t, zk_f, zb_t, zb_f] using j15
      refine zz_jn (X := zz_D (zm_N_clash, d + 9, 80, [some (.ref 1), some (.int (v_T_useUp M)), some (.int (bif (decide ((zb (v_S_hasDoneItsDeed (w_T_useUp M) 4 (v_T_byteAt (w_T_useUp M) a1.2))) = (zb (decide ((v_T_byteAt (w_T_useUp M) (a1.2 + (1 : Int32))) = (1 : Int32)))))) then a1.1 else (a1.1 ||| (zsl (1 : Int32) (v_T_byteAt (w_T_useUp M) a1.2))))), some (.int a1.2), none], []) (zt_T L, zt_R, (w_T_useUp M), J, e)) (fun j17 => ?_) ?_
      · rcases zz_bc (decide ((zb (v_S_hasDoneItsDeed (w_T_useUp M) 4 (v_T_byteAt (w_T_useUp M) a1.2))) = (zb (decide ((v_T_byteAt (w_T_useUp M) (a1.2 + (1 : Int32))) = (1 : Int32)))))) with h18 | h18
        · refine zc_eqT rfl h18 ?_
          refine zz_weak (L := [some (.ref 1), some (.int (v_T_useUp M)), some (.int a1.1), some (.int a1.2), none]) ⟨Or.inl rfl, Or.inl rfl, Or.inl rfl, Or.inl rfl, Or.inr ⟨rfl, rfl⟩, trivial⟩ ?_
          simpa only [h18, zk_t, zk_f, zb_t, zb_f] using j17
        · refine zc_eqF rfl h18 ?_
          refine (zz_go 6 (fr' := (zm_N_clash, d + 9, 80, [some (.ref 1), some (.int (v_T_useUp M)), some (.int (a1.1 ||| (zsl (1 : Int32) (v_T_byteAt (w_T_useUp M) a1.2)))), some (.int a1.2), some (.int (v_T_byteAt (w_T_useUp M) a1.2))], [])) (h' := (zt_T L, zt_R, (w_T_useUp M), J, e)) (fun _ => rfl)).trans ?_
          refine zz_weak (L := [some (.ref 1), some (.int (v_T_useUp M)), some (.int (a1.1 ||| (zsl (1 : Int32) (v_T_byteAt (w_T_useUp M) a1.2)))), some (.int a1.2), none]) ⟨Or.inl rfl, Or.inl rfl, Or.inl rfl, Or.inl rfl, Or.inr ⟨rfl, rfl⟩, trivial⟩ ?_
          simpa only [h18, zk_t, zk_f, zb_t, zb_f] using j17
      refine (zz_go 2 (fr' := (zm_N_clash, d + 9, 25, [some (.ref 1), some (.int (v_T_useUp M)), some (.int (bif (decide ((zb (v_S_hasDoneItsDeed (w_T_useUp M) 4 (v_T_byteAt (w_T_useUp M) a1.2))) = (zb (decide ((v_T_byteAt (w_T_useUp M) (a1.2 + (1 : Int32))) = (1 : Int32)))))) then a1.1 else (a1.1 ||| (zsl (1 : Int32) (v_T_byteAt (w_T_useUp M) a1.2))))), some (.int (a1.2 + (2 : Int32))), none], [])) (h' := (zt_T L, zt_R, (w_T_useUp M), J, e)) (fun _ => rfl)).trans ?_
      have y1 := hx5 (by simp only [g_N_clash_1, h8, zk_t, zk_f, zb_t, zb_f])
      simpa only [g_N_clash_1, h8, zk_t, zk_f, zb_t, zb_f] using y1
  show zz_D (zm_N_clash, d + 9, 86, [none, none, some (.int (zf_wh 1000 (g_N_clash_1 M) 0 ((0 : Int32), (0 : Int32))).1), none, none], []) (zt_T L, zt_R, (w_T_useUp M), J, e) = _
  refine (zz_go 1 (fr' := (zm_N_clash, d + 9, 87, [none, none, some (.int (zf_wh 1000 (g_N_clash_1 M) 0 ((0 : Int32), (0 : Int32))).1), none, none], [.int (zf_wh 1000 (g_N_clash_1 M) 0 ((0 : Int32), (0 : Int32))).1])) (h' := (zt_T L, zt_R, (w_T_useUp M), J, e)) (fun _ => rfl)).trans ?_
  refine zl_retI rfl rfl ?_
  first | (simp only [h3, zk_t, zk_f, zb_t, zb_f]; done) | (simp only [h3, zk_t, zk_f, zb_t, zb_f]; rfl) | rfl
def v_N_pairs (M : zMem) (x0 : Int32) : Int32 := (bif (decide (x0 = (-1 : Int32))) then (bif (decide (x0 = (-1 : Int32))) then (v_G_pairedDeeds (w_G_pairPeople M)) else (v_G_partner (w_G_pairPeople M) x0)) else (bif Nat.beq (t_N_needPerson M x0) 0 then (bif (decide (x0 = (-1 : Int32))) then (v_G_pairedDeeds (w_G_pairPeople M)) else (v_G_partner (w_G_pairPeople M) x0)) else 0))
def w_N_pairs (M : zMem) (x0 : Int32) : zMem := (bif (decide (x0 = (-1 : Int32))) then (w_G_pairPeople M) else (bif Nat.beq (t_N_needPerson M x0) 0 then (w_G_pairPeople M) else M))
def t_N_pairs (M : zMem) (x0 : Int32) : Nat := (bif (decide (x0 = (-1 : Int32))) then 0 else (bif Nat.beq (t_N_needPerson M x0) 0 then 0 else (t_N_needPerson M x0)))
def ok_N_pairs (M : zMem) (x0 : Int32) : Prop := (((decide (x0 = (-1 : Int32))) = true → (ok_G_pairPeople M ∧ ((decide (x0 = (-1 : Int32))) = false → ok_G_partner (w_G_pairPeople M) x0))) ∧ ((decide (x0 = (-1 : Int32))) = false → (Nat.beq (t_N_needPerson M x0) 0 = true → (ok_G_pairPeople M ∧ ((decide (x0 = (-1 : Int32))) = false → ok_G_partner (w_G_pairPeople M) x0)))))
set_option maxRecDepth 20000 in
set_option maxHeartbeats 2000000 in
theorem s_N_pairs (L e : Nat) (J : zJem) (d : Nat) (M : zMem) (x0 : Int32) (k0 : ok_N_pairs M x0) : zz_D (zm_N_pairs, d + 9, 0, [some (.ref 1), some (.int x0)], []) (zt_T L, zt_R, M, J, e) = some (zx_o (t_N_pairs M x0) (some (.int (v_N_pairs M x0))), (zt_T L, zt_R, (w_N_pairs M x0), J, zx_e (t_N_pairs M x0) e)) := by
  unfold ok_N_pairs at k0
  unfold v_N_pairs w_N_pairs t_N_pairs
  obtain ⟨k2, k3⟩ := k0
  refine (zz_go 2 (fr' := (zm_N_pairs, d + 9, 2, [some (.ref 1), some (.int x0)], [.int (-1 : Int32), .int x0])) (h' := (zt_T L, zt_R, M, J, e)) (fun _ => rfl)).trans ?_
  rcases zz_bc (decide (x0 = (-1 : Int32))) with h1 | h1
  · refine zc_eqT rfl h1 ?_
    have k4 := k2 h1
    refine (zz_go 1 (fr' := (zm_N_pairs, d + 9, 11, [some (.ref 1), some (.int x0)], [.ref 1])) (h' := (zt_T L, zt_R, M, J, e)) (fun _ => rfl)).trans ?_
    refine zl_getR rfl rfl rfl ?_
    refine (zz_go 1 (fr' := (zm_N_pairs, d + 9, 15, [some (.ref 1), some (.int x0)], [.ref 1, .ref 192])) (h' := (zt_T L, zt_R, M, J, e)) (fun _ => rfl)).trans ?_
    refine zl_getR rfl rfl rfl ?_
    obtain ⟨g5, k6⟩ := k4
    refine zl_vt (d := d + 8) rfl rfl rfl rfl rfl rfl rfl rfl rfl rfl (s_G_pairPeople L e J (d + 3) M g5) ?_
    show zz_D (zm_N_pairs, d + 9, 21, [some (.ref 1), some (.int x0)], []) (zt_T L, zt_R, (w_G_pairPeople M), J, e) = _
    refine zz_jn (X := zz_D (zm_N_pairs, d + 9, 48, [none, none], [.int (bif (decide (x0 = (-1 : Int32))) then (v_G_pairedDeeds (w_G_pairPeople M)) else (v_G_partner (w_G_pairPeople M) x0))]) (zt_T L, zt_R, (w_G_pairPeople M), J, e)) (fun j7 => ?_) ?_
    · refine (zz_go 2 (fr' := (zm_N_pairs, d + 9, 23, [some (.ref 1), some (.int x0)], [.int (-1 : Int32), .int x0])) (h' := (zt_T L, zt_R, (w_G_pairPeople M), J, e)) (fun _ => rfl)).trans ?_
      rcases zz_bc (decide (x0 = (-1 : Int32))) with h8 | h8
      · refine zc_neT rfl h8 ?_
        refine (zz_go 1 (fr' := (zm_N_pairs, d + 9, 27, [some (.ref 1), some (.int x0)], [.ref 1])) (h' := (zt_T L, zt_R, (w_G_pairPeople M), J, e)) (fun _ => rfl)).trans ?_
        refine zl_getR rfl rfl rfl ?_
        refine zl_vt (d := d + 8) rfl rfl rfl rfl rfl rfl rfl rfl rfl rfl (s_G_pairedDeeds L e J (d + 7) (w_G_pairPeople M)) ?_
        show zz_D (zm_N_pairs, d + 9, 33, [some (.ref 1), some (.int x0)], [.int (v_G_pairedDeeds (w_G_pairPeople M))]) (zt_T L, zt_R, (w_G_pairPeople M), J, e) = _
        refine (zz_go 1 (fr' := (zm_N_pairs, d + 9, 48, [some (.ref 1), some (.int x0)], [.int (v_G_pairedDeeds (w_G_pairPeople M))])) (h' := (zt_T L, zt_R, (w_G_pairPeople M), J, e)) (fun _ => rfl)).trans ?_
        refine zz_weak (L := [none, none]) ⟨Or.inr ⟨rfl, rfl⟩, Or.inr ⟨rfl, rfl⟩, trivial⟩ ?_
        simpa only [h8, zk_t, zk_f, zb_t, zb_f] using j7
      · refine zc_neF rfl h8 ?_
        have k9 := k6 h8
        refine (zz_go 1 (fr' := (zm_N_pairs, d + 9, 37, [some (.ref 1), some (.int x0)], [.ref 1])) (h' := (zt_T L, zt_R, (w_G_pairPeople M), J, e)) (fun _ => rfl)).trans ?_
        refine zl_getR rfl rfl rfl ?_
        refine (zz_go 1 (fr' := (zm_N_pairs, d + 9, 41, [some (.ref 1), some (.int x0)], [.ref 1, .ref 192])) (h' := (zt_T L, zt_R, (w_G_pairPeople M), J, e)) (fun _ => rfl)).trans ?_
        refine zl_getR rfl rfl rfl ?_
        refine (zz_go 1 (fr' := (zm_N_pairs, d + 9, 45, [some (.ref 1), some (.int x0)], [.int x0, .ref 4, .ref 192])) (h' := (zt_T L, zt_R, (w_G_pairPeople M), J, e)) (fun _ => rfl)).trans ?_
        have g10 : ok_G_partner (w_G_pairPeople M) x0 := k9
        refine zl_vt (d := d + 8) rfl rfl rfl rfl rfl rfl rfl rfl rfl rfl (s_G_partner L e J (d + 2) (w_G_pairPeople M) x0 g10) ?_
        show zz_D (zm_N_pairs, d + 9, 48, [some (.ref 1), some (.int x0)], [.int (v_G_partner (w_G_pairPeople M) x0)]) (zt_T L, zt_R, (w_G_pairPeople M), J, e) = _
        refine zz_weak (L := [none, none]) ⟨Or.inr ⟨rfl, rfl⟩, Or.inr ⟨rfl, rfl⟩, trivial⟩ ?_
        simpa only [h8, zk_t, zk_f, zb_t, zb_f] using j7
    refine zl_retI rfl rfl ?_
    first | (simp only [h1, zk_t, zk_f, zb_t, zb_f]; done) | (simp only [h1, zk_t, zk_f, zb_t, zb_f]; rfl) | rfl
  · refine zc_eqF rfl h1 ?_
    have k11 := k3 h1
    refine (zz_go 2 (fr' := (zm_N_pairs, d + 9, 7, [some (.ref 1), some (.int x0)], [.int x0, .ref 1])) (h' := (zt_T L, zt_R, M, J, e)) (fun _ => rfl)).trans ?_
    refine zl_vt (d := d + 8) rfl rfl rfl rfl rfl rfl rfl rfl rfl rfl (s_N_needPerson L e J (d + 0) M x0) ?_
    refine zl_aftV rfl (fun h12 => ?_) (fun h12 => ?_)
    rotate_left 1
    · skip
      rw [zx_oe h12 (some (.int 0))]
      first | (simp only [h1, h12, zk_t, zk_f, zb_t, zb_f]; done) | (simp only [h1, h12, zk_t, zk_f, zb_t, zb_f]; rfl) | rfl
    have k13 := k11 h12
    show zz_D (zm_N_pairs, d + 9, 10, [some (.ref 1), some (.int x0)], []) (zt_T L, zt_R, M, J, e) = _
    refine (zz_go 1 (fr' := (zm_N_pairs, d + 9, 11, [some (.ref 1), some (.int x0)], [.ref 1])) (h' := (zt_T L, zt_R, M, J, e)) (fun _ => rfl)).trans ?_
    refine zl_getR rfl rfl rfl ?_
    refine (zz_go 1 (fr' := (zm_N_pairs, d + 9, 15, [some (.ref 1), some (.int x0)], [.ref 1, .ref 192])) (h' := (zt_T L, zt_R, M, J, e)) (fun _ => rfl)).trans ?_
    refine zl_getR rfl rfl rfl ?_
    obtain ⟨g14, k15⟩ := k13
    refine zl_vt (d := d + 8) rfl rfl rfl rfl rfl rfl rfl rfl rfl rfl (s_G_pairPeople L e J (d + 3) M g14) ?_
    show zz_D (zm_N_pairs, d + 9, 21, [some (.ref 1), some (.int x0)], []) (zt_T L, zt_R, (w_G_pairPeople M), J, e) = _
    refine zz_jn (X := zz_D (zm_N_pairs, d + 9, 48, [none, none], [.int (bif (decide (x0 = (-1 : Int32))) then (v_G_pairedDeeds (w_G_pairPeople M)) else (v_G_partner (w_G_pairPeople M) x0))]) (zt_T L, zt_R, (w_G_pairPeople M), J, e)) (fun j16 => ?_) ?_
    · refine (zz_go 2 (fr' := (zm_N_pairs, d + 9, 23, [some (.ref 1), some (.int x0)], [.int (-1 : Int32), .int x0])) (h' := (zt_T L, zt_R, (w_G_pairPeople M), J, e)) (fun _ => rfl)).trans ?_
      rcases zz_bc (decide (x0 = (-1 : Int32))) with h17 | h17
      · refine zc_neT rfl h17 ?_
        refine (zz_go 1 (fr' := (zm_N_pairs, d + 9, 27, [some (.ref 1), some (.int x0)], [.ref 1])) (h' := (zt_T L, zt_R, (w_G_pairPeople M), J, e)) (fun _ => rfl)).trans ?_
        refine zl_getR rfl rfl rfl ?_
        refine zl_vt (d := d + 8) rfl rfl rfl rfl rfl rfl rfl rfl rfl rfl (s_G_pairedDeeds L e J (d + 7) (w_G_pairPeople M)) ?_
        show zz_D (zm_N_pairs, d + 9, 33, [some (.ref 1), some (.int x0)], [.int (v_G_pairedDeeds (w_G_pairPeople M))]) (zt_T L, zt_R, (w_G_pairPeople M), J, e) = _
        refine (zz_go 1 (fr' := (zm_N_pairs, d + 9, 48, [some (.ref 1), some (.int x0)], [.int (v_G_pairedDeeds (w_G_pairPeople M))])) (h' := (zt_T L, zt_R, (w_G_pairPeople M), J, e)) (fun _ => rfl)).trans ?_
        refine zz_weak (L := [none, none]) ⟨Or.inr ⟨rfl, rfl⟩, Or.inr ⟨rfl, rfl⟩, trivial⟩ ?_
        simpa only [h17, zk_t, zk_f, zb_t, zb_f] using j16
      · refine zc_neF rfl h17 ?_
        have k18 := k15 h17
        refine (zz_go 1 (fr' := (zm_N_pairs, d + 9, 37, [some (.ref 1), some (.int x0)], [.ref 1])) (h' := (zt_T L, zt_R, (w_G_pairPeople M), J, e)) (fun _ => rfl)).trans ?_
        refine zl_getR rfl rfl rfl ?_
        refine (zz_go 1 (fr' := (zm_N_pairs, d + 9, 41, [some (.ref 1), some (.int x0)], [.ref 1, .ref 192])) (h' := (zt_T L, zt_R, (w_G_pairPeople M), J, e)) (fun _ => rfl)).trans ?_
        refine zl_getR rfl rfl rfl ?_
        refine (zz_go 1 (fr' := (zm_N_pairs, d + 9, 45, [some (.ref 1), some (.int x0)], [.int x0, .ref 4, .ref 192])) (h' := (zt_T L, zt_R, (w_G_pairPeople M), J, e)) (fun _ => rfl)).trans ?_
        have g19 : ok_G_partner (w_G_pairPeople M) x0 := k18
        refine zl_vt (d := d + 8) rfl rfl rfl rfl rfl rfl rfl rfl rfl rfl (s_G_partner L e J (d + 2) (w_G_pairPeople M) x0 g19) ?_
        show zz_D (zm_N_pairs, d + 9, 48, [some (.ref 1), some (.int x0)], [.int (v_G_partner (w_G_pairPeople M) x0)]) (zt_T L, zt_R, (w_G_pairPeople M), J, e) = _
        refine zz_weak (L := [none, none]) ⟨Or.inr ⟨rfl, rfl⟩, Or.inr ⟨rfl, rfl⟩, trivial⟩ ?_
        simpa only [h17, zk_t, zk_f, zb_t, zb_f] using j16
    refine zl_retI rfl rfl ?_
    first | (simp only [h1, h12, zk_t, zk_f, zb_t, zb_f]; done) | (simp only [h1, h12, zk_t, zk_f, zb_t, zb_f]; rfl) | rfl
def v_N_kin (M : zMem) (x0 : Int32) (x1 : Int32) : Int32 := (bif Nat.beq (t_N_needPerson M x0) 0 then (bif Nat.beq (t_N_needPerson M x1) 0 then (bif (decide (x0 = x1)) then 0 else (v_ji_bitCount ((v_S_marksOf M 4 x0) &&& (v_S_marksOf M 4 x1)))) else 0) else 0)
def t_N_kin (M : zMem) (x0 : Int32) (x1 : Int32) : Nat := (bif Nat.beq (t_N_needPerson M x0) 0 then (bif Nat.beq (t_N_needPerson M x1) 0 then (bif (decide (x0 = x1)) then 1 else 0) else (t_N_needPerson M x1)) else (t_N_needPerson M x0))
def ok_N_kin (M : zMem) (x0 : Int32) (x1 : Int32) : Prop := (Nat.beq (t_N_needPerson M x0) 0 = true → (Nat.beq (t_N_needPerson M x1) 0 = true → ((decide (x0 = x1)) = false → (ok_S_marksOf M 4 x0 ∧ ok_S_marksOf M 4 x1))))
set_option maxRecDepth 20000 in
set_option maxHeartbeats 2000000 in
theorem s_N_kin (L e : Nat) (J : zJem) (d : Nat) (M : zMem) (x0 : Int32) (x1 : Int32) (k0 : ok_N_kin M x0 x1) : zz_D (zm_N_kin, d + 9, 0, [some (.ref 1), some (.int x0), some (.int x1)], []) (zt_T L, zt_R, M, J, e) = some (zx_o (t_N_kin M x0 x1) (some (.int (v_N_kin M x0 x1))), (zt_T L, zt_R, M, J, zx_e (t_N_kin M x0 x1) e)) := by
  unfold ok_N_kin at k0
  unfold v_N_kin t_N_kin
  refine (zz_go 2 (fr' := (zm_N_kin, d + 9, 2, [some (.ref 1), some (.int x0), some (.int x1)], [.int x0, .ref 1])) (h' := (zt_T L, zt_R, M, J, e)) (fun _ => rfl)).trans ?_
  refine zl_vt (d := d + 8) rfl rfl rfl rfl rfl rfl rfl rfl rfl rfl (s_N_needPerson L e J (d + 0) M x0) ?_
  refine zl_aftV rfl (fun h1 => ?_) (fun h1 => ?_)
  rotate_left 1
  · skip
    rw [zx_oe h1 (some (.int 0))]
    first | (simp only [h1, zk_t, zk_f, zb_t, zb_f]; done) | (simp only [h1, zk_t, zk_f, zb_t, zb_f]; rfl) | rfl
  have k2 := k0 h1
  show zz_D (zm_N_kin, d + 9, 5, [some (.ref 1), some (.int x0), some (.int x1)], []) (zt_T L, zt_R, M, J, e) = _
  refine (zz_go 2 (fr' := (zm_N_kin, d + 9, 7, [some (.ref 1), some (.int x0), some (.int x1)], [.int x1, .ref 1])) (h' := (zt_T L, zt_R, M, J, e)) (fun _ => rfl)).trans ?_
  refine zl_vt (d := d + 8) rfl rfl rfl rfl rfl rfl rfl rfl rfl rfl (s_N_needPerson L e J (d + 0) M x1) ?_
  refine zl_aftV rfl (fun h3 => ?_) (fun h3 => ?_)
  rotate_left 1
  · skip
    rw [zx_oe h3 (some (.int 0))]
    first | (simp only [h1, h3, zk_t, zk_f, zb_t, zb_f]; done) | (simp only [h1, h3, zk_t, zk_f, zb_t, zb_f]; rfl) | rfl
  have k4 := k2 h3
  show zz_D (zm_N_kin, d + 9, 10, [some (.ref 1), some (.int x0), some (.int x1)], []) (zt_T L, zt_R, M, J, e) = _
  refine (zz_go 2 (fr' := (zm_N_kin, d + 9, 12, [some (.ref 1), some (.int x0), some (.int x1)], [.int x1, .int x0])) (h' := (zt_T L, zt_R, M, J, e)) (fun _ => rfl)).trans ?_
  rcases zz_bc (decide (x0 = x1)) with h5 | h5
  · refine zc_neT rfl h5 ?_
    refine zl_throw rfl rfl rfl ?_
    first | (simp only [h1, h3, h5, zk_t, zk_f, zb_t, zb_f]; done) | (simp only [h1, h3, h5, zk_t, zk_f, zb_t, zb_f]; rfl) | rfl
  · refine zc_neF rfl h5 ?_
    have k6 := k4 h5
    refine (zz_go 1 (fr' := (zm_N_kin, d + 9, 27, [some (.ref 1), some (.int x0), some (.int x1)], [.ref 1])) (h' := (zt_T L, zt_R, M, J, e)) (fun _ => rfl)).trans ?_
    refine zl_getR rfl rfl rfl ?_
    refine (zz_go 1 (fr' := (zm_N_kin, d + 9, 31, [some (.ref 1), some (.int x0), some (.int x1)], [.int x0, .ref 4])) (h' := (zt_T L, zt_R, M, J, e)) (fun _ => rfl)).trans ?_
    obtain ⟨g7, k8⟩ := k6
    refine zl_vt (d := d + 8) rfl rfl rfl rfl rfl rfl rfl rfl rfl rfl (s_S_marksOf L e J (d + 6) M 4 x0 zt_St_4 g7) ?_
    show zz_D (zm_N_kin, d + 9, 34, [some (.ref 1), some (.int x0), some (.int x1)], [.int (v_S_marksOf M 4 x0)]) (zt_T L, zt_R, M, J, e) = _
    refine (zz_go 1 (fr' := (zm_N_kin, d + 9, 35, [some (.ref 1), some (.int x0), some (.int x1)], [.ref 1, .int (v_S_marksOf M 4 x0)])) (h' := (zt_T L, zt_R, M, J, e)) (fun _ => rfl)).trans ?_
    refine zl_getR rfl rfl rfl ?_
    refine (zz_go 1 (fr' := (zm_N_kin, d + 9, 39, [some (.ref 1), some (.int x0), some (.int x1)], [.int x1, .ref 4, .int (v_S_marksOf M 4 x0)])) (h' := (zt_T L, zt_R, M, J, e)) (fun _ => rfl)).trans ?_
    have g9 : ok_S_marksOf M 4 x1 := k8
    refine zl_vt (d := d + 8) rfl rfl rfl rfl rfl rfl rfl rfl rfl rfl (s_S_marksOf L e J (d + 6) M 4 x1 zt_St_4 g9) ?_
    show zz_D (zm_N_kin, d + 9, 42, [some (.ref 1), some (.int x0), some (.int x1)], [.int (v_S_marksOf M 4 x1), .int (v_S_marksOf M 4 x0)]) (zt_T L, zt_R, M, J, e) = _
    refine (zz_go 1 (fr' := (zm_N_kin, d + 9, 43, [some (.ref 1), some (.int x0), some (.int x1)], [.int ((v_S_marksOf M 4 x0) &&& (v_S_marksOf M 4 x1))])) (h' := (zt_T L, zt_R, M, J, e)) (fun _ => rfl)).trans ?_
    refine zl_st (d := d + 8) rfl rfl rfl rfl rfl rfl rfl (s_ji_bitCount L e J (d + 7) ((v_S_marksOf M 4 x0) &&& (v_S_marksOf M 4 x1))) ?_
    show zz_D (zm_N_kin, d + 9, 46, [some (.ref 1), some (.int x0), some (.int x1)], [.int (v_ji_bitCount ((v_S_marksOf M 4 x0) &&& (v_S_marksOf M 4 x1)))]) (zt_T L, zt_R, M, J, e) = _
    refine zl_retI rfl rfl ?_
    first | (simp only [h1, h3, h5, zk_t, zk_f, zb_t, zb_f]; done) | (simp only [h1, h3, h5, zk_t, zk_f, zb_t, zb_f]; rfl) | rfl
def f_N_rests_1 (M : zMem) (x0 : Int32) (i1 : Nat) (a1 : Int32) : Int32 := (bif (bif (decide ((v_S_dockerGain M 4 x0 (Int32.ofNat i1)) < (v_S_dockerGain M 4 x0 ((Int32.ofNat i1) ^^^ (2 : Int32))))) then false else (bif (decide ((v_S_needleGain M 4 x0 (Int32.ofNat i1)) < (v_S_needleGain M 4 x0 ((Int32.ofNat i1) ^^^ (1 : Int32))))) then false else true)) then (a1 ||| (zsl (1 : Int32) (Int32.ofNat i1))) else a1)
def kb_N_rests_1 (M : zMem) (x0 : Int32) (i1 : Nat) (a1 : Int32) : Prop := (ok_S_dockerGain M 4 x0 (Int32.ofNat i1) ∧ (ok_S_dockerGain M 4 x0 ((Int32.ofNat i1) ^^^ (2 : Int32)) ∧ ((decide ((v_S_dockerGain M 4 x0 (Int32.ofNat i1)) < (v_S_dockerGain M 4 x0 ((Int32.ofNat i1) ^^^ (2 : Int32))))) = false → (ok_S_needleGain M 4 x0 (Int32.ofNat i1) ∧ ok_S_needleGain M 4 x0 ((Int32.ofNat i1) ^^^ (1 : Int32))))))
def v_N_rests (M : zMem) (x0 : Int32) : Int32 := (bif Nat.beq (t_N_needPerson M x0) 0 then (zf_for 4 (f_N_rests_1 M x0) (0 : Int32)) else 0)
def t_N_rests (M : zMem) (x0 : Int32) : Nat := (bif Nat.beq (t_N_needPerson M x0) 0 then 0 else (t_N_needPerson M x0))
def ok_N_rests (M : zMem) (x0 : Int32) : Prop := (Nat.beq (t_N_needPerson M x0) 0 = true → (∀ i1, i1 < 4 → kb_N_rests_1 M x0 i1 (zf_for i1 (f_N_rests_1 M x0) (0 : Int32))))
set_option maxRecDepth 20000 in
set_option maxHeartbeats 2000000 in
theorem s_N_rests (L e : Nat) (J : zJem) (d : Nat) (M : zMem) (x0 : Int32) (k0 : ok_N_rests M x0) : zz_D (zm_N_rests, d + 9, 0, [some (.ref 1), some (.int x0), none, none, none], []) (zt_T L, zt_R, M, J, e) = some (zx_o (t_N_rests M x0) (some (.int (v_N_rests M x0))), (zt_T L, zt_R, M, J, zx_e (t_N_rests M x0) e)) := by
  unfold ok_N_rests at k0
  unfold v_N_rests t_N_rests
  refine (zz_go 2 (fr' := (zm_N_rests, d + 9, 2, [some (.ref 1), some (.int x0), none, none, none], [.int x0, .ref 1])) (h' := (zt_T L, zt_R, M, J, e)) (fun _ => rfl)).trans ?_
  refine zl_vt (d := d + 8) rfl rfl rfl rfl rfl rfl rfl rfl rfl rfl (s_N_needPerson L e J (d + 0) M x0) ?_
  refine zl_aftV rfl (fun h1 => ?_) (fun h1 => ?_)
  rotate_left 1
  · skip
    rw [zx_oe h1 (some (.int 0))]
    first | (simp only [h1, zk_t, zk_f, zb_t, zb_f]; done) | (simp only [h1, zk_t, zk_f, zb_t, zb_f]; rfl) | rfl
  have k2 := k0 h1
  show zz_D (zm_N_rests, d + 9, 5, [some (.ref 1), some (.int x0), none, none, none], []) (zt_T L, zt_R, M, J, e) = _
  refine (zz_go 4 (fr' := (zm_N_rests, d + 9, 9, [some (.ref 1), some (.int x0), some (.int (0 : Int32)), some (.int (0 : Int32)), none], [])) (h' := (zt_T L, zt_R, M, J, e)) (fun _ => rfl)).trans ?_
  refine zf_forD (X := fun (i1 : Nat) (a1 : Int32) => zz_D (zm_N_rests, d + 9, 9, [some (.ref 1), some (.int x0), some (.int a1), some (.int (Int32.ofNat i1)), none], []) (zt_T L, zt_R, M, J, e)) (f := (f_N_rests_1 M x0)) (a := (0 : Int32)) 4 (fun i1 hi1 => ?_) ?_
  · intro hx3
    have k4 := k2 i1 hi1
    generalize zf_for i1 (f_N_rests_1 M x0) (0 : Int32) = a1 at hx3 k4 ⊢
    show zz_D (zm_N_rests, d + 9, 9, [some (.ref 1), some (.int x0), some (.int a1), some (.int (Int32.ofNat i1)), none], []) (zt_T L, zt_R, M, J, e) = _
    unfold kb_N_rests_1 at k4
    refine (zz_go 2 (fr' := (zm_N_rests, d + 9, 11, [some (.ref 1), some (.int x0), some (.int a1), some (.int (Int32.ofNat i1)), none], [.int (4 : Int32), .int (Int32.ofNat i1)])) (h' := (zt_T L, zt_R, M, J, e)) (fun _ => rfl)).trans ?_
    refine zc_geF rfl (zi_ltc (n := 4) (by omega) (by decide)) ?_
    refine (zz_go 1 (fr' := (zm_N_rests, d + 9, 15, [some (.ref 1), some (.int x0), some (.int a1), some (.int (Int32.ofNat i1)), none], [.ref 1])) (h' := (zt_T L, zt_R, M, J, e)) (fun _ => rfl)).trans ?_
    refine zl_getR rfl rfl rfl ?_
    refine (zz_go 2 (fr' := (zm_N_rests, d + 9, 20, [some (.ref 1), some (.int x0), some (.int a1), some (.int (Int32.ofNat i1)), none], [.int (Int32.ofNat i1), .int x0, .ref 4])) (h' := (zt_T L, zt_R, M, J, e)) (fun _ => rfl)).trans ?_
    obtain ⟨g5, k6⟩ := k4
    refine zl_vt (d := d + 8) rfl rfl rfl rfl rfl rfl rfl rfl rfl rfl (s_S_dockerGain L e J (d + 7) M 4 x0 (Int32.ofNat i1) zt_St_4 g5) ?_
    show zz_D (zm_N_rests, d + 9, 23, [some (.ref 1), some (.int x0), some (.int a1), some (.int (Int32.ofNat i1)), none], [.int (v_S_dockerGain M 4 x0 (Int32.ofNat i1))]) (zt_T L, zt_R, M, J, e) = _
    refine (zz_go 1 (fr' := (zm_N_rests, d + 9, 24, [some (.ref 1), some (.int x0), some (.int a1), some (.int (Int32.ofNat i1)), none], [.ref 1, .int (v_S_dockerGain M 4 x0 (Int32.ofNat i1))])) (h' := (zt_T L, zt_R, M, J, e)) (fun _ => rfl)).trans ?_
    refine zl_getR rfl rfl rfl ?_
    refine (zz_go 4 (fr' := (zm_N_rests, d + 9, 31, [some (.ref 1), some (.int x0), some (.int a1), some (.int (Int32.ofNat i1)), none], [.int ((Int32.ofNat i1) ^^^ (2 : Int32)), .int x0, .ref 4, .int (v_S_dockerGain M 4 x0 (Int32.ofNat i1))])) (h' := (zt_T L, zt_R, M, J, e)) (fun _ => rfl)).trans ?_
    obtain ⟨g7, k8⟩ := k6
    refine zl_vt (d := d + 8) rfl rfl rfl rfl rfl rfl rfl rfl rfl rfl (s_S_dockerGain L e J (d + 7) M 4 x0 ((Int32.ofNat i1) ^^^ (2 : Int32)) zt_St_4 g7) ?_
    show zz_D (zm_N_rests, d + 9, 34, [some (.ref 1), some (.int x0), some (.int a1), some (.int (Int32.ofNat i1)), none], [.int (v_S_dockerGain M 4 x0 ((Int32.ofNat i1) ^^^ (2 : Int32))), .int (v_S_dockerGain M 4 x0 (Int32.ofNat i1))]) (zt_T L, zt_R, M, J, e) = _
    refine zz_jn (X := zz_D (zm_N_rests, d + 9, 65, [some (.ref 1), some (.int x0), some (.int a1), some (.int (Int32.ofNat i1)), none], [.int (zb (bif (decide ((v_S_dockerGain M 4 x0 (Int32.ofNat i1)) < (v_S_dockerGain M 4 x0 ((Int32.ofNat i1) ^^^ (2 : Int32))))) then false else (bif (decide ((v_S_needleGain M 4 x0 (Int32.ofNat i1)) < (v_S_needleGain M 4 x0 ((Int32.ofNat i1) ^^^ (1 : Int32))))) then false else true)))]) (zt_T L, zt_R, M, J, e)) (fun j9 => ?_) ?_
    · rcases zz_bc (decide ((v_S_dockerGain M 4 x0 (Int32.ofNat i1)) < (v_S_dockerGain M 4 x0 ((Int32.ofNat i1) ^^^ (2 : Int32))))) with h10 | h10
      · refine zc_ltT rfl h10 ?_
        refine (zz_go 1 (fr' := (zm_N_rests, d + 9, 65, [some (.ref 1), some (.int x0), some (.int a1), some (.int (Int32.ofNat i1)), none], [.int (0 : Int32)])) (h' := (zt_T L, zt_R, M, J, e)) (fun _ => rfl)).trans ?_
        simpa only [h10, zk_t, zk_f, zb_t, zb_f] using j9
      · refine zc_ltF rfl h10 ?_
        have k11 := k8 h10
        refine (zz_go 1 (fr' := (zm_N_rests, d + 9, 38, [some (.ref 1), some (.int x0), some (.int a1), some (.int (Int32.ofNat i1)), none], [.ref 1])) (h' := (zt_T L, zt_R, M, J, e)) (fun _ => rfl)).trans ?_
        refine zl_getR rfl rfl rfl ?_
        refine (zz_go 2 (fr' := (zm_N_rests, d + 9, 43, [some (.ref 1), some (.int x0), some (.int a1), some (.int (Int32.ofNat i1)), none], [.int (Int32.ofNat i1), .int x0, .ref 4])) (h' := (zt_T L, zt_R, M, J, e)) (fun _ => rfl)).trans ?_
        obtain ⟨g12, k13⟩ := k11
        refine zl_vt (d := d + 8) rfl rfl rfl rfl rfl rfl rfl rfl rfl rfl (s_S_needleGain L e J (d + 7) M 4 x0 (Int32.ofNat i1) zt_St_4 g12) ?_
        show zz_D (zm_N_rests, d + 9, 46, [some (.ref 1), some (.int x0), some (.int a1), some (.int (Int32.ofNat i1)), none], [.int (v_S_needleGain M 4 x0 (Int32.ofNat i1))]) (zt_T L, zt_R, M, J, e) = _
        refine (zz_go 1 (fr' := (zm_N_rests, d + 9, 47, [some (.ref 1), some (.int x0), some (.int a1), some (.int (Int32.ofNat i1)), none], [.ref 1, .int (v_S_needleGain M 4 x0 (Int32.ofNat i1))])) (h' := (zt_T L, zt_R, M, J, e)) (fun _ => rfl)).trans ?_
        refine zl_getR rfl rfl rfl ?_
        refine (zz_go 4 (fr' := (zm_N_rests, d + 9, 54, [some (.ref 1), some (.int x0), some (.int a1), some (.int (Int32.ofNat i1)), none], [.int ((Int32.ofNat i1) ^^^ (1 : Int32)), .int x0, .ref 4, .int (v_S_needleGain M 4 x0 (Int32.ofNat i1))])) (h' := (zt_T L, zt_R, M, J, e)) (fun _ => rfl)).trans ?_
        have g14 : ok_S_needleGain M 4 x0 ((Int32.ofNat i1) ^^^ (1 : Int32)) := k13
        refine zl_vt (d := d + 8) rfl rfl rfl rfl rfl rfl rfl rfl rfl rfl (s_S_needleGain L e J (d + 7) M 4 x0 ((Int32.ofNat i1) ^^^ (1 : Int32)) zt_St_4 g14) ?_
        show zz_D (zm_N_rests, d + 9, 57, [some (.ref 1), some (.int x0), some (.int a1), some (.int (Int32.ofNat i1)), none], [.int (v_S_needleGain M 4 x0 ((Int32.ofNat i1) ^^^ (1 : Int32))), .int (v_S_needleGain M 4 x0 (Int32.ofNat i1))]) (zt_T L, zt_R, M, J, e) = _
        refine zz_jn (X := zz_D (zm_N_rests, d + 9, 65, [some (.ref 1), some (.int x0), some (.int a1), some (.int (Int32.ofNat i1)), none], [.int (zb (bif (decide ((v_S_needleGain M 4 x0 (Int32.ofNat i1)) < (v_S_needleGain M 4 x0 ((Int32.ofNat i1) ^^^ (1 : Int32))))) then false else true))]) (zt_T L, zt_R, M, J, e)) (fun j15 => ?_) ?_
        · rcases zz_bc (decide ((v_S_needleGain M 4 x0 (Int32.ofNat i1)) < (v_S_needleGain M 4 x0 ((Int32.ofNat i1) ^^^ (1 : Int32))))) with h16 | h16
          · refine zc_ltT rfl h16 ?_
            refine (zz_go 1 (fr' := (zm_N_rests, d + 9, 65, [some (.ref 1), some (.int x0), some (.int a1), some (.int (Int32.ofNat i1)), none], [.int (0 : Int32)])) (h' := (zt_T L, zt_R, M, J, e)) (fun _ => rfl)).trans ?_
            simpa only [h16, zk_t, zk_f, zb_t, zb_f] using j15
          · refine zc_ltF rfl h16 ?_
            refine (zz_go 2 (fr' := (zm_N_rests, d + 9, 65, [some (.ref 1), some (.int x0), some (.int a1), some (.int (Int32.ofNat i1)), none], [.int (1 : Int32)])) (h' := (zt_T L, zt_R, M, J, e)) (fun _ => rfl)).trans ?_
            simpa only [h16, zk_t, zk_f, zb_t, zb_f] using j15
        simpa only [h10, zk_t, zk_f, zb_t, zb_f] using j9
    refine zz_jn (X := zz_D (zm_N_rests, d + 9, 78, [some (.ref 1), some (.int x0), some (.int (bif (bif (decide ((v_S_dockerGain M 4 x0 (Int32.ofNat i1)) < (v_S_dockerGain M 4 x0 ((Int32.ofNat i1) ^^^ (2 : Int32))))) then false else (bif (decide ((v_S_needleGain M 4 x0 (Int32.ofNat i1)) < (v_S_needleGain M 4 x0 ((Int32.ofNat i1) ^^^ (1 : Int32))))) then false else true)) then (a1 ||| (zsl (1 : Int32) (Int32.ofNat i1))) else a1)), some (.int (Int32.ofNat i1)), none], []) (zt_T L, zt_R, M, J, e)) (fun j17 => ?_) ?_
    · refine (zz_go 2 (fr' := (zm_N_rests, d + 9, 69, [some (.ref 1), some (.int x0), some (.int a1), some (.int (Int32.ofNat i1)), some (.int (zb (bif (decide ((v_S_dockerGain M 4 x0 (Int32.ofNat i1)) < (v_S_dockerGain M 4 x0 ((Int32.ofNat i1) ^^^ (2 : Int32))))) then false else (bif (decide ((v_S_needleGain M 4 x0 (Int32.ofNat i1)) < (v_S_needleGain M 4 x0 ((Int32.ofNat i1) ^^^ (1 : Int32))))) then false else true))))], [.int (zb (bif (decide ((v_S_dockerGain M 4 x0 (Int32.ofNat i1)) < (v_S_dockerGain M 4 x0 ((Int32.ofNat i1) ^^^ (2 : Int32))))) then false else (bif (decide ((v_S_needleGain M 4 x0 (Int32.ofNat i1)) < (v_S_needleGain M 4 x0 ((Int32.ofNat i1) ^^^ (1 : Int32))))) then false else true)))])) (h' := (zt_T L, zt_R, M, J, e)) (fun _ => rfl)).trans ?_
      rcases zz_bc (bif (decide ((v_S_dockerGain M 4 x0 (Int32.ofNat i1)) < (v_S_dockerGain M 4 x0 ((Int32.ofNat i1) ^^^ (2 : Int32))))) then false else (bif (decide ((v_S_needleGain M 4 x0 (Int32.ofNat i1)) < (v_S_needleGain M 4 x0 ((Int32.ofNat i1) ^^^ (1 : Int32))))) then false else true)) with h18 | h18
      · refine zq_eT rfl h18 ?_
        refine (zz_go 6 (fr' := (zm_N_rests, d + 9, 78, [some (.ref 1), some (.int x0), some (.int (a1 ||| (zsl (1 : Int32) (Int32.ofNat i1)))), some (.int (Int32.ofNat i1)), some (.int (zb (bif (decide ((v_S_dockerGain M 4 x0 (Int32.ofNat i1)) < (v_S_dockerGain M 4 x0 ((Int32.ofNat i1) ^^^ (2 : Int32))))) then false else (bif (decide ((v_S_needleGain M 4 x0 (Int32.ofNat i1)) < (v_S_needleGain M 4 x0 ((Int32.ofNat i1) ^^^ (1 : Int32))))) then false else true))))], [])) (h' := (zt_T L, zt_R, M, J, e)) (fun _ => rfl)).trans ?_
        refine zz_weak (L := [some (.ref 1), some (.int x0), some (.int (a1 ||| (zsl (1 : Int32) (Int32.ofNat i1)))), some (.int (Int32.ofNat i1)), none]) ⟨Or.inl rfl, Or.inl rfl, Or.inl rfl, Or.inl rfl, Or.inr ⟨rfl, rfl⟩, trivial⟩ ?_
        simpa only [h18, zk_t, zk_f, zb_t, zb_f] using j17
      · refine zq_eF rfl h18 ?_
        refine zz_weak (L := [some (.ref 1), some (.int x0), some (.int a1), some (.int (Int32.ofNat i1)), none]) ⟨Or.inl rfl, Or.inl rfl, Or.inl rfl, Or.inl rfl, Or.inr ⟨rfl, rfl⟩, trivial⟩ ?_
        simpa only [h18, zk_t, zk_f, zb_t, zb_f] using j17
    refine (zz_go 2 (fr' := (zm_N_rests, d + 9, 9, [some (.ref 1), some (.int x0), some (.int (bif (bif (decide ((v_S_dockerGain M 4 x0 (Int32.ofNat i1)) < (v_S_dockerGain M 4 x0 ((Int32.ofNat i1) ^^^ (2 : Int32))))) then false else (bif (decide ((v_S_needleGain M 4 x0 (Int32.ofNat i1)) < (v_S_needleGain M 4 x0 ((Int32.ofNat i1) ^^^ (1 : Int32))))) then false else true)) then (a1 ||| (zsl (1 : Int32) (Int32.ofNat i1))) else a1)), some (.int (Int32.ofNat i1 + 1)), none], [])) (h' := (zt_T L, zt_R, M, J, e)) (fun _ => rfl)).trans ?_
    rw [zi_succ i1]
    simpa only [f_N_rests_1] using hx3
  show zz_D (zm_N_rests, d + 9, 9, [some (.ref 1), some (.int x0), some (.int (zf_for 4 (f_N_rests_1 M x0) (0 : Int32))), some (.int (Int32.ofNat 4)), none], []) (zt_T L, zt_R, M, J, e) = _
  refine (zz_go 2 (fr' := (zm_N_rests, d + 9, 11, [some (.ref 1), some (.int x0), some (.int (zf_for 4 (f_N_rests_1 M x0) (0 : Int32))), some (.int (Int32.ofNat 4)), none], [.int (4 : Int32), .int (Int32.ofNat 4)])) (h' := (zt_T L, zt_R, M, J, e)) (fun _ => rfl)).trans ?_
  refine zc_geT rfl (by decide) ?_
  refine zz_weak (L := [none, none, some (.int (zf_for 4 (f_N_rests_1 M x0) (0 : Int32))), none, none]) ⟨Or.inr ⟨rfl, rfl⟩, Or.inr ⟨rfl, rfl⟩, Or.inl rfl, Or.inr ⟨rfl, rfl⟩, Or.inl rfl, trivial⟩ ?_
  refine (zz_go 1 (fr' := (zm_N_rests, d + 9, 85, [none, none, some (.int (zf_for 4 (f_N_rests_1 M x0) (0 : Int32))), none, none], [.int (zf_for 4 (f_N_rests_1 M x0) (0 : Int32))])) (h' := (zt_T L, zt_R, M, J, e)) (fun _ => rfl)).trans ?_
  refine zl_retI rfl rfl ?_
  first | (simp only [h1, zk_t, zk_f, zb_t, zb_f]; done) | (simp only [h1, zk_t, zk_f, zb_t, zb_f]; rfl) | rfl
def f_N_odds_1 (M : zMem) (x0 : Int32) (x1 : Int32) (i1 : Nat) (a1 : Int32) : Int32 := ((a1 * ((100 : Int32) - (v_L_comes M 4 x0))) / (100 : Int32))
def v_N_odds (M : zMem) (x0 : Int32) (x1 : Int32) : Int32 := (bif Nat.beq (t_N_needPerson M x0) 0 then (bif Nat.beq (t_N_needYears x1 (4 : Int32)) 0 then (bif (v_S_awaitsDeed M 4 x0) then (zf_for x1.toNatClampNeg (f_N_odds_1 M x0 x1) (10000 : Int32)) else (10000 : Int32)) else 0) else 0)
def w_N_odds (M : zMem) (x0 : Int32) (x1 : Int32) : zMem := (bif Nat.beq (t_N_needPerson M x0) 0 then (bif Nat.beq (t_N_needYears x1 (4 : Int32)) 0 then (bif (v_S_awaitsDeed M 4 x0) then (w_L_comes M 4 x0) else M) else M) else M)
def t_N_odds (M : zMem) (x0 : Int32) (x1 : Int32) : Nat := (bif Nat.beq (t_N_needPerson M x0) 0 then (bif Nat.beq (t_N_needYears x1 (4 : Int32)) 0 then 0 else (t_N_needYears x1 (4 : Int32))) else (t_N_needPerson M x0))
def ok_N_odds (M : zMem) (x0 : Int32) (x1 : Int32) : Prop := (Nat.beq (t_N_needPerson M x0) 0 = true → (Nat.beq (t_N_needYears x1 (4 : Int32)) 0 = true → (ok_S_awaitsDeed M 4 x0 ∧ ((v_S_awaitsDeed M 4 x0) = true → ok_L_comes M 4 x0))))
set_option maxRecDepth 20000 in
set_option maxHeartbeats 2000000 in
theorem s_N_odds (L e : Nat) (J : zJem) (d : Nat) (M : zMem) (x0 : Int32) (x1 : Int32) (k0 : ok_N_odds M x0 x1) : zz_D (zm_N_odds, d + 9, 0, [some (.ref 1), some (.int x0), some (.int x1), none, none, none], []) (zt_T L, zt_R, M, J, e) = some (zx_o (t_N_odds M x0 x1) (some (.int (v_N_odds M x0 x1))), (zt_T L, zt_R, (w_N_odds M x0 x1), J, zx_e (t_N_odds M x0 x1) e)) := by
  unfold ok_N_odds at k0
  unfold v_N_odds w_N_odds t_N_odds
  refine (zz_go 2 (fr' := (zm_N_odds, d + 9, 2, [some (.ref 1), some (.int x0), some (.int x1), none, none, none], [.int x0, .ref 1])) (h' := (zt_T L, zt_R, M, J, e)) (fun _ => rfl)).trans ?_
  refine zl_vt (d := d + 8) rfl rfl rfl rfl rfl rfl rfl rfl rfl rfl (s_N_needPerson L e J (d + 0) M x0) ?_
  refine zl_aftV rfl (fun h1 => ?_) (fun h1 => ?_)
  rotate_left 1
  · skip
    rw [zx_oe h1 (some (.int 0))]
    first | (simp only [h1, zk_t, zk_f, zb_t, zb_f]; done) | (simp only [h1, zk_t, zk_f, zb_t, zb_f]; rfl) | rfl
  have k2 := k0 h1
  show zz_D (zm_N_odds, d + 9, 5, [some (.ref 1), some (.int x0), some (.int x1), none, none, none], []) (zt_T L, zt_R, M, J, e) = _
  refine (zz_go 2 (fr' := (zm_N_odds, d + 9, 7, [some (.ref 1), some (.int x0), some (.int x1), none, none, none], [.int (4 : Int32), .int x1])) (h' := (zt_T L, zt_R, M, J, e)) (fun _ => rfl)).trans ?_
  refine zl_st (d := d + 8) rfl rfl rfl rfl rfl rfl rfl (s_N_needYears L e J (d + 0) x1 (4 : Int32)) ?_
  refine zl_aftV rfl (fun h3 => ?_) (fun h3 => ?_)
  rotate_left 1
  · skip
    rw [zx_oe h3 (some (.int 0))]
    first | (simp only [h1, h3, zk_t, zk_f, zb_t, zb_f]; done) | (simp only [h1, h3, zk_t, zk_f, zb_t, zb_f]; rfl) | rfl
  have k4 := k2 h3
  show zz_D (zm_N_odds, d + 9, 10, [some (.ref 1), some (.int x0), some (.int x1), none, none, none], []) (zt_T L, zt_R, M, J, e) = _
  refine (zz_go 3 (fr' := (zm_N_odds, d + 9, 15, [some (.ref 1), some (.int x0), some (.int x1), some (.int (10000 : Int32)), none, none], [.ref 1])) (h' := (zt_T L, zt_R, M, J, e)) (fun _ => rfl)).trans ?_
  refine zl_getR rfl rfl rfl ?_
  refine (zz_go 1 (fr' := (zm_N_odds, d + 9, 19, [some (.ref 1), some (.int x0), some (.int x1), some (.int (10000 : Int32)), none, none], [.int x0, .ref 4])) (h' := (zt_T L, zt_R, M, J, e)) (fun _ => rfl)).trans ?_
  obtain ⟨g5, k6⟩ := k4
  refine zl_vt (d := d + 8) rfl rfl rfl rfl rfl rfl rfl rfl rfl rfl (s_S_awaitsDeed L e J (d + 4) M 4 x0 zt_St_4 g5) ?_
  show zz_D (zm_N_odds, d + 9, 22, [some (.ref 1), some (.int x0), some (.int x1), some (.int (10000 : Int32)), none, none], [.int (zb (v_S_awaitsDeed M 4 x0))]) (zt_T L, zt_R, M, J, e) = _
  rcases zz_bc (v_S_awaitsDeed M 4 x0) with h7 | h7
  · refine zq_fT rfl h7 ?_
    have k8 := k6 h7
    refine (zz_go 2 (fr' := (zm_N_odds, d + 9, 30, [some (.ref 1), some (.int x0), some (.int x1), some (.int (10000 : Int32)), none, none], [.ref 1, .int (100 : Int32)])) (h' := (zt_T L, zt_R, M, J, e)) (fun _ => rfl)).trans ?_
    refine zl_getR rfl rfl rfl ?_
    refine (zz_go 1 (fr' := (zm_N_odds, d + 9, 34, [some (.ref 1), some (.int x0), some (.int x1), some (.int (10000 : Int32)), none, none], [.ref 1, .ref 37, .int (100 : Int32)])) (h' := (zt_T L, zt_R, M, J, e)) (fun _ => rfl)).trans ?_
    refine zl_getR rfl rfl rfl ?_
    refine (zz_go 1 (fr' := (zm_N_odds, d + 9, 38, [some (.ref 1), some (.int x0), some (.int x1), some (.int (10000 : Int32)), none, none], [.int x0, .ref 4, .ref 37, .int (100 : Int32)])) (h' := (zt_T L, zt_R, M, J, e)) (fun _ => rfl)).trans ?_
    have g9 : ok_L_comes M 4 x0 := k8
    refine zl_vt (d := d + 8) rfl rfl rfl rfl rfl rfl rfl rfl rfl rfl (s_L_comes L e J (d + 3) M 4 x0 zt_St_4 g9) ?_
    show zz_D (zm_N_odds, d + 9, 41, [some (.ref 1), some (.int x0), some (.int x1), some (.int (10000 : Int32)), none, none], [.int (v_L_comes M 4 x0), .int (100 : Int32)]) (zt_T L, zt_R, (w_L_comes M 4 x0), J, e) = _
    refine (zz_go 4 (fr' := (zm_N_odds, d + 9, 47, [some (.ref 1), some (.int x0), some (.int x1), some (.int (10000 : Int32)), some (.int ((100 : Int32) - (v_L_comes M 4 x0))), some (.int (0 : Int32))], [])) (h' := (zt_T L, zt_R, (w_L_comes M 4 x0), J, e)) (fun _ => rfl)).trans ?_
    refine zz_weak (L := [none, none, some (.int x1), some (.int (10000 : Int32)), some (.int ((100 : Int32) - (v_L_comes M 4 x0))), some (.int (0 : Int32))]) ⟨Or.inr ⟨rfl, rfl⟩, Or.inr ⟨rfl, rfl⟩, Or.inl rfl, Or.inl rfl, Or.inl rfl, Or.inl rfl, trivial⟩ ?_
    refine zf_forD (X := fun (i1 : Nat) (a1 : Int32) => zz_D (zm_N_odds, d + 9, 47, [none, none, some (.int x1), some (.int a1), some (.int ((100 : Int32) - (v_L_comes M 4 x0))), some (.int (Int32.ofNat i1))], []) (zt_T L, zt_R, (w_L_comes M 4 x0), J, e)) (f := (f_N_odds_1 M x0 x1)) (a := (10000 : Int32)) x1.toNatClampNeg (fun i1 hi1 => ?_) ?_
    · intro hx10
      generalize zf_for i1 (f_N_odds_1 M x0 x1) (10000 : Int32) = a1 at hx10 ⊢
      show zz_D (zm_N_odds, d + 9, 47, [none, none, some (.int x1), some (.int a1), some (.int ((100 : Int32) - (v_L_comes M 4 x0))), some (.int (Int32.ofNat i1))], []) (zt_T L, zt_R, (w_L_comes M 4 x0), J, e) = _
      refine (zz_go 2 (fr' := (zm_N_odds, d + 9, 50, [none, none, some (.int x1), some (.int a1), some (.int ((100 : Int32) - (v_L_comes M 4 x0))), some (.int (Int32.ofNat i1))], [.int x1, .int (Int32.ofNat i1)])) (h' := (zt_T L, zt_R, (w_L_comes M 4 x0), J, e)) (fun _ => rfl)).trans ?_
      refine zc_geF rfl (zi_lt hi1) ?_
      refine (zz_go 4 (fr' := (zm_N_odds, d + 9, 59, [none, none, some (.int x1), some (.int a1), some (.int ((100 : Int32) - (v_L_comes M 4 x0))), some (.int (Int32.ofNat i1))], [.int (100 : Int32), .int (a1 * ((100 : Int32) - (v_L_comes M 4 x0)))])) (h' := (zt_T L, zt_R, (w_L_comes M 4 x0), J, e)) (fun _ => rfl)).trans ?_
      refine zl_div rfl (by decide) ?_
      refine (zz_go 3 (fr' := (zm_N_odds, d + 9, 47, [none, none, some (.int x1), some (.int ((a1 * ((100 : Int32) - (v_L_comes M 4 x0))) / (100 : Int32))), some (.int ((100 : Int32) - (v_L_comes M 4 x0))), some (.int (Int32.ofNat i1 + 1))], [])) (h' := (zt_T L, zt_R, (w_L_comes M 4 x0), J, e)) (fun _ => rfl)).trans ?_
      rw [zi_succ i1]
      exact hx10
    show zz_D (zm_N_odds, d + 9, 47, [none, none, some (.int x1), some (.int (zf_for x1.toNatClampNeg (f_N_odds_1 M x0 x1) (10000 : Int32))), some (.int ((100 : Int32) - (v_L_comes M 4 x0))), some (.int (Int32.ofNat x1.toNatClampNeg))], []) (zt_T L, zt_R, (w_L_comes M 4 x0), J, e) = _
    refine (zz_go 2 (fr' := (zm_N_odds, d + 9, 50, [none, none, some (.int x1), some (.int (zf_for x1.toNatClampNeg (f_N_odds_1 M x0 x1) (10000 : Int32))), some (.int ((100 : Int32) - (v_L_comes M 4 x0))), some (.int (Int32.ofNat x1.toNatClampNeg))], [.int x1, .int (Int32.ofNat x1.toNatClampNeg)])) (h' := (zt_T L, zt_R, (w_L_comes M 4 x0), J, e)) (fun _ => rfl)).trans ?_
    refine zc_geT rfl (zi_ge _) ?_
    refine zz_weak (L := [none, none, none, some (.int (zf_for x1.toNatClampNeg (f_N_odds_1 M x0 x1) (10000 : Int32))), none, none]) ⟨Or.inl rfl, Or.inl rfl, Or.inr ⟨rfl, rfl⟩, Or.inl rfl, Or.inr ⟨rfl, rfl⟩, Or.inr ⟨rfl, rfl⟩, trivial⟩ ?_
    refine (zz_go 1 (fr' := (zm_N_odds, d + 9, 68, [none, none, none, some (.int (zf_for x1.toNatClampNeg (f_N_odds_1 M x0 x1) (10000 : Int32))), none, none], [.int (zf_for x1.toNatClampNeg (f_N_odds_1 M x0 x1) (10000 : Int32))])) (h' := (zt_T L, zt_R, (w_L_comes M 4 x0), J, e)) (fun _ => rfl)).trans ?_
    refine zl_retI rfl rfl ?_
    first | (simp only [h1, h3, h7, zk_t, zk_f, zb_t, zb_f]; done) | (simp only [h1, h3, h7, zk_t, zk_f, zb_t, zb_f]; rfl) | rfl
  · refine zq_fF rfl h7 ?_
    refine (zz_go 1 (fr' := (zm_N_odds, d + 9, 26, [some (.ref 1), some (.int x0), some (.int x1), some (.int (10000 : Int32)), none, none], [.int (10000 : Int32)])) (h' := (zt_T L, zt_R, M, J, e)) (fun _ => rfl)).trans ?_
    refine zl_retI rfl rfl ?_
    first | (simp only [h1, h3, h7, zk_t, zk_f, zb_t, zb_f]; done) | (simp only [h1, h3, h7, zk_t, zk_f, zb_t, zb_f]; rfl) | rfl
def v_N_plain (M : zMem) : Int32 := (v_S_plainOnes M 4)
def ok_N_plain (M : zMem) : Prop := ok_S_plainOnes M 4
set_option maxRecDepth 20000 in
set_option maxHeartbeats 2000000 in
theorem s_N_plain (L e : Nat) (J : zJem) (d : Nat) (M : zMem) (k0 : ok_N_plain M) : zz_D (zm_N_plain, d + 3, 0, [some (.ref 1)], []) (zt_T L, zt_R, M, J, e) = some (.inl (some (.int (v_N_plain M))), (zt_T L, zt_R, M, J, e)) := by
  unfold ok_N_plain at k0
  unfold v_N_plain
  refine (zz_go 1 (fr' := (zm_N_plain, d + 3, 1, [some (.ref 1)], [.ref 1])) (h' := (zt_T L, zt_R, M, J, e)) (fun _ => rfl)).trans ?_
  refine zl_getR rfl rfl rfl ?_
  have g1 : ok_S_plainOnes M 4 := k0
  refine zl_vt (d := d + 2) rfl rfl rfl rfl rfl rfl rfl rfl rfl rfl (s_S_plainOnes L e J (d + 0) M 4 zt_St_4 g1) ?_
  show zz_D (zm_N_plain, d + 3, 7, [some (.ref 1)], [.int (v_S_plainOnes M 4)]) (zt_T L, zt_R, M, J, e) = _
  refine zl_retI rfl rfl ?_
  rfl
def f_N_found_1 (M : zMem) (i1 : Nat) (a1 : Int32) : Int32 := (bif (v_S_isPlain M 4 (Int32.ofNat i1)) then a1 else (bif (v_S_isFound M 4 (Int32.ofNat i1)) then (a1 ||| (zsl (1 : Int32) (Int32.ofNat i1))) else a1))
def kb_N_found_1 (M : zMem) (i1 : Nat) (a1 : Int32) : Prop := (ok_S_isPlain M 4 (Int32.ofNat i1) ∧ ((v_S_isPlain M 4 (Int32.ofNat i1)) = false → ok_S_isFound M 4 (Int32.ofNat i1)))
def v_N_found (M : zMem) : Int32 := (zf_for (M 4 10).toNatClampNeg (f_N_found_1 M) (0 : Int32))
def ok_N_found (M : zMem) : Prop := (∀ i1, i1 < (M 4 10).toNatClampNeg → kb_N_found_1 M i1 (zf_for i1 (f_N_found_1 M) (0 : Int32)))
set_option maxRecDepth 20000 in
set_option maxHeartbeats 2000000 in
theorem s_N_found (L e : Nat) (J : zJem) (d : Nat) (M : zMem) (k0 : ok_N_found M) : zz_D (zm_N_found, d + 4, 0, [some (.ref 1), none, none], []) (zt_T L, zt_R, M, J, e) = some (.inl (some (.int (v_N_found M))), (zt_T L, zt_R, M, J, e)) := by
  unfold ok_N_found at k0
  unfold v_N_found
  refine (zz_go 4 (fr' := (zm_N_found, d + 4, 4, [some (.ref 1), some (.int (0 : Int32)), some (.int (0 : Int32))], [])) (h' := (zt_T L, zt_R, M, J, e)) (fun _ => rfl)).trans ?_
  refine zf_forD (X := fun (i1 : Nat) (a1 : Int32) => zz_D (zm_N_found, d + 4, 4, [some (.ref 1), some (.int a1), some (.int (Int32.ofNat i1))], []) (zt_T L, zt_R, M, J, e)) (f := (f_N_found_1 M)) (a := (0 : Int32)) (M 4 10).toNatClampNeg (fun i1 hi1 => ?_) ?_
  · intro hx1
    have k2 := k0 i1 hi1
    generalize zf_for i1 (f_N_found_1 M) (0 : Int32) = a1 at hx1 k2 ⊢
    show zz_D (zm_N_found, d + 4, 4, [some (.ref 1), some (.int a1), some (.int (Int32.ofNat i1))], []) (zt_T L, zt_R, M, J, e) = _
    unfold kb_N_found_1 at k2
    refine (zz_go 2 (fr' := (zm_N_found, d + 4, 6, [some (.ref 1), some (.int a1), some (.int (Int32.ofNat i1))], [.ref 1, .int (Int32.ofNat i1)])) (h' := (zt_T L, zt_R, M, J, e)) (fun _ => rfl)).trans ?_
    refine zl_getR rfl rfl rfl ?_
    refine zl_getI rfl (by decide) rfl rfl ?_
    refine zc_geF rfl (zi_lt hi1) ?_
    refine (zz_go 1 (fr' := (zm_N_found, d + 4, 16, [some (.ref 1), some (.int a1), some (.int (Int32.ofNat i1))], [.ref 1])) (h' := (zt_T L, zt_R, M, J, e)) (fun _ => rfl)).trans ?_
    refine zl_getR rfl rfl rfl ?_
    refine (zz_go 1 (fr' := (zm_N_found, d + 4, 20, [some (.ref 1), some (.int a1), some (.int (Int32.ofNat i1))], [.int (Int32.ofNat i1), .ref 4])) (h' := (zt_T L, zt_R, M, J, e)) (fun _ => rfl)).trans ?_
    obtain ⟨g3, k4⟩ := k2
    refine zl_vt (d := d + 3) rfl rfl rfl rfl rfl rfl rfl rfl rfl rfl (s_S_isPlain L e J (d + 2) M 4 (Int32.ofNat i1) zt_St_4 g3) ?_
    show zz_D (zm_N_found, d + 4, 23, [some (.ref 1), some (.int a1), some (.int (Int32.ofNat i1))], [.int (zb (v_S_isPlain M 4 (Int32.ofNat i1)))]) (zt_T L, zt_R, M, J, e) = _
    refine zz_jn (X := zz_D (zm_N_found, d + 4, 43, [some (.ref 1), some (.int (bif (v_S_isPlain M 4 (Int32.ofNat i1)) then a1 else (bif (v_S_isFound M 4 (Int32.ofNat i1)) then (a1 ||| (zsl (1 : Int32) (Int32.ofNat i1))) else a1))), some (.int (Int32.ofNat i1))], []) (zt_T L, zt_R, M, J, e)) (fun j5 => ?_) ?_
    · rcases zz_bc (v_S_isPlain M 4 (Int32.ofNat i1)) with h6 | h6
      · refine zq_fT rfl h6 ?_
        simpa only [h6, zk_t, zk_f, zb_t, zb_f] using j5
      · refine zq_fF rfl h6 ?_
        have k7 := k4 h6
        refine (zz_go 1 (fr' := (zm_N_found, d + 4, 27, [some (.ref 1), some (.int a1), some (.int (Int32.ofNat i1))], [.ref 1])) (h' := (zt_T L, zt_R, M, J, e)) (fun _ => rfl)).trans ?_
        refine zl_getR rfl rfl rfl ?_
        refine (zz_go 1 (fr' := (zm_N_found, d + 4, 31, [some (.ref 1), some (.int a1), some (.int (Int32.ofNat i1))], [.int (Int32.ofNat i1), .ref 4])) (h' := (zt_T L, zt_R, M, J, e)) (fun _ => rfl)).trans ?_
        have g8 : ok_S_isFound M 4 (Int32.ofNat i1) := k7
        refine zl_vt (d := d + 3) rfl rfl rfl rfl rfl rfl rfl rfl rfl rfl (s_S_isFound L e J (d + 0) M 4 (Int32.ofNat i1) zt_St_4 g8) ?_
        show zz_D (zm_N_found, d + 4, 34, [some (.ref 1), some (.int a1), some (.int (Int32.ofNat i1))], [.int (zb (v_S_isFound M 4 (Int32.ofNat i1)))]) (zt_T L, zt_R, M, J, e) = _
        refine zz_jn (X := zz_D (zm_N_found, d + 4, 43, [some (.ref 1), some (.int (bif (v_S_isFound M 4 (Int32.ofNat i1)) then (a1 ||| (zsl (1 : Int32) (Int32.ofNat i1))) else a1)), some (.int (Int32.ofNat i1))], []) (zt_T L, zt_R, M, J, e)) (fun j9 => ?_) ?_
        · rcases zz_bc (v_S_isFound M 4 (Int32.ofNat i1)) with h10 | h10
          · refine zq_eT rfl h10 ?_
            refine (zz_go 6 (fr' := (zm_N_found, d + 4, 43, [some (.ref 1), some (.int (a1 ||| (zsl (1 : Int32) (Int32.ofNat i1)))), some (.int (Int32.ofNat i1))], [])) (h' := (zt_T L, zt_R, M, J, e)) (fun _ => rfl)).trans ?_
            simpa only [h10, zk_t, zk_f, zb_t, zb_f] using j9
          · refine zq_eF rfl h10 ?_
            simpa only [h10, zk_t, zk_f, zb_t, zb_f] using j9
        simpa only [h6, zk_t, zk_f, zb_t, zb_f] using j5
    refine (zz_go 2 (fr' := (zm_N_found, d + 4, 4, [some (.ref 1), some (.int (bif (v_S_isPlain M 4 (Int32.ofNat i1)) then a1 else (bif (v_S_isFound M 4 (Int32.ofNat i1)) then (a1 ||| (zsl (1 : Int32) (Int32.ofNat i1))) else a1))), some (.int (Int32.ofNat i1 + 1))], [])) (h' := (zt_T L, zt_R, M, J, e)) (fun _ => rfl)).trans ?_
    rw [zi_succ i1]
    simpa only [f_N_found_1] using hx1
  show zz_D (zm_N_found, d + 4, 4, [some (.ref 1), some (.int (zf_for (M 4 10).toNatClampNeg (f_N_found_1 M) (0 : Int32))), some (.int (Int32.ofNat (M 4 10).toNatClampNeg))], []) (zt_T L, zt_R, M, J, e) = _
  refine (zz_go 2 (fr' := (zm_N_found, d + 4, 6, [some (.ref 1), some (.int (zf_for (M 4 10).toNatClampNeg (f_N_found_1 M) (0 : Int32))), some (.int (Int32.ofNat (M 4 10).toNatClampNeg))], [.ref 1, .int (Int32.ofNat (M 4 10).toNatClampNeg)])) (h' := (zt_T L, zt_R, M, J, e)) (fun _ => rfl)).trans ?_
  refine zl_getR rfl rfl rfl ?_
  refine zl_getI rfl (by decide) rfl rfl ?_
  refine zc_geT rfl (zi_ge _) ?_
  refine zz_weak (L := [none, some (.int (zf_for (M 4 10).toNatClampNeg (f_N_found_1 M) (0 : Int32))), none]) ⟨Or.inr ⟨rfl, rfl⟩, Or.inl rfl, Or.inr ⟨rfl, rfl⟩, trivial⟩ ?_
  refine (zz_go 1 (fr' := (zm_N_found, d + 4, 50, [none, some (.int (zf_for (M 4 10).toNatClampNeg (f_N_found_1 M) (0 : Int32))), none], [.int (zf_for (M 4 10).toNatClampNeg (f_N_found_1 M) (0 : Int32))])) (h' := (zt_T L, zt_R, M, J, e)) (fun _ => rfl)).trans ?_
  refine zl_retI rfl rfl ?_
  rfl
def f_N_soFar_1 (M : zMem) (i1 : Nat) (a1 : Int32) : Int32 := (a1 ||| (M 12 i1))
def kb_N_soFar_1 (M : zMem) (i1 : Nat) (a1 : Int32) : Prop := zz_in (Int32.ofNat i1) 6 = true
def v_N_soFar (M : zMem) : Int32 := (zf_for (M 4 10).toNatClampNeg (f_N_soFar_1 M) (0 : Int32))
def ok_N_soFar (M : zMem) : Prop := (∀ i1, i1 < (M 4 10).toNatClampNeg → kb_N_soFar_1 M i1 (zf_for i1 (f_N_soFar_1 M) (0 : Int32)))
set_option maxRecDepth 20000 in
set_option maxHeartbeats 2000000 in
theorem s_N_soFar (L e : Nat) (J : zJem) (d : Nat) (M : zMem) (k0 : ok_N_soFar M) : zz_D (zm_N_soFar, d + 1, 0, [some (.ref 1), none, none], []) (zt_T L, zt_R, M, J, e) = some (.inl (some (.int (v_N_soFar M))), (zt_T L, zt_R, M, J, e)) := by
  unfold ok_N_soFar at k0
  unfold v_N_soFar
  refine (zz_go 4 (fr' := (zm_N_soFar, d + 1, 4, [some (.ref 1), some (.int (0 : Int32)), some (.int (0 : Int32))], [])) (h' := (zt_T L, zt_R, M, J, e)) (fun _ => rfl)).trans ?_
  refine zf_forD (X := fun (i1 : Nat) (a1 : Int32) => zz_D (zm_N_soFar, d + 1, 4, [some (.ref 1), some (.int a1), some (.int (Int32.ofNat i1))], []) (zt_T L, zt_R, M, J, e)) (f := (f_N_soFar_1 M)) (a := (0 : Int32)) (M 4 10).toNatClampNeg (fun i1 hi1 => ?_) ?_
  · intro hx1
    have k2 := k0 i1 hi1
    generalize zf_for i1 (f_N_soFar_1 M) (0 : Int32) = a1 at hx1 k2 ⊢
    show zz_D (zm_N_soFar, d + 1, 4, [some (.ref 1), some (.int a1), some (.int (Int32.ofNat i1))], []) (zt_T L, zt_R, M, J, e) = _
    unfold kb_N_soFar_1 at k2
    refine (zz_go 2 (fr' := (zm_N_soFar, d + 1, 6, [some (.ref 1), some (.int a1), some (.int (Int32.ofNat i1))], [.ref 1, .int (Int32.ofNat i1)])) (h' := (zt_T L, zt_R, M, J, e)) (fun _ => rfl)).trans ?_
    refine zl_getR rfl rfl rfl ?_
    refine zl_getI rfl (by decide) rfl rfl ?_
    refine zc_geF rfl (zi_lt hi1) ?_
    refine (zz_go 2 (fr' := (zm_N_soFar, d + 1, 17, [some (.ref 1), some (.int a1), some (.int (Int32.ofNat i1))], [.ref 1, .int a1])) (h' := (zt_T L, zt_R, M, J, e)) (fun _ => rfl)).trans ?_
    refine zl_getR rfl rfl rfl ?_
    refine zl_getR rfl rfl rfl ?_
    refine (zz_go 1 (fr' := (zm_N_soFar, d + 1, 24, [some (.ref 1), some (.int a1), some (.int (Int32.ofNat i1))], [.int (Int32.ofNat i1), .ref 12, .int a1])) (h' := (zt_T L, zt_R, M, J, e)) (fun _ => rfl)).trans ?_
    have g3 : zz_in (Int32.ofNat i1) 6 = true := k2
    refine zl_iaload rfl rfl g3 (by rw [(zi_nat (by have := zi_tn (M 4 10); omega))] <;> exact rfl) ?_
    refine (zz_go 4 (fr' := (zm_N_soFar, d + 1, 4, [some (.ref 1), some (.int (a1 ||| (M 12 i1))), some (.int (Int32.ofNat i1 + 1))], [])) (h' := (zt_T L, zt_R, M, J, e)) (fun _ => rfl)).trans ?_
    rw [zi_succ i1]
    exact hx1
  show zz_D (zm_N_soFar, d + 1, 4, [some (.ref 1), some (.int (zf_for (M 4 10).toNatClampNeg (f_N_soFar_1 M) (0 : Int32))), some (.int (Int32.ofNat (M 4 10).toNatClampNeg))], []) (zt_T L, zt_R, M, J, e) = _
  refine (zz_go 2 (fr' := (zm_N_soFar, d + 1, 6, [some (.ref 1), some (.int (zf_for (M 4 10).toNatClampNeg (f_N_soFar_1 M) (0 : Int32))), some (.int (Int32.ofNat (M 4 10).toNatClampNeg))], [.ref 1, .int (Int32.ofNat (M 4 10).toNatClampNeg)])) (h' := (zt_T L, zt_R, M, J, e)) (fun _ => rfl)).trans ?_
  refine zl_getR rfl rfl rfl ?_
  refine zl_getI rfl (by decide) rfl rfl ?_
  refine zc_geT rfl (zi_ge _) ?_
  refine zz_weak (L := [none, some (.int (zf_for (M 4 10).toNatClampNeg (f_N_soFar_1 M) (0 : Int32))), none]) ⟨Or.inr ⟨rfl, rfl⟩, Or.inl rfl, Or.inr ⟨rfl, rfl⟩, trivial⟩ ?_
  refine (zz_go 1 (fr' := (zm_N_soFar, d + 1, 34, [none, some (.int (zf_for (M 4 10).toNatClampNeg (f_N_soFar_1 M) (0 : Int32))), none], [.int (zf_for (M 4 10).toNatClampNeg (f_N_soFar_1 M) (0 : Int32))])) (h' := (zt_T L, zt_R, M, J, e)) (fun _ => rfl)).trans ?_
  refine zl_retI rfl rfl ?_
  rfl
def f_N_eldest_1 (M : zMem) (i1 : Nat) (a1 : Int32) : Int32 := (bif (decide (a1 = (-1 : Int32))) then (Int32.ofNat i1) else (bif (decide ((M 10 i1) ≤ (M 10 (a1).toNatClampNeg))) then a1 else (Int32.ofNat i1)))
def kb_N_eldest_1 (M : zMem) (i1 : Nat) (a1 : Int32) : Prop := ((decide (a1 = (-1 : Int32))) = false → (zz_in (Int32.ofNat i1) 6 = true ∧ zz_in a1 6 = true))
def v_N_eldest (M : zMem) : Int32 := (zf_for (M 4 10).toNatClampNeg (f_N_eldest_1 M) (-1 : Int32))
def ok_N_eldest (M : zMem) : Prop := (∀ i1, i1 < (M 4 10).toNatClampNeg → kb_N_eldest_1 M i1 (zf_for i1 (f_N_eldest_1 M) (-1 : Int32)))
set_option maxRecDepth 20000 in
set_option maxHeartbeats 2000000 in
theorem s_N_eldest (L e : Nat) (J : zJem) (d : Nat) (M : zMem) (k0 : ok_N_eldest M) : zz_D (zm_N_eldest, d + 1, 0, [some (.ref 1), none, none], []) (zt_T L, zt_R, M, J, e) = some (.inl (some (.int (v_N_eldest M))), (zt_T L, zt_R, M, J, e)) := by
  unfold ok_N_eldest at k0
  unfold v_N_eldest
  refine (zz_go 4 (fr' := (zm_N_eldest, d + 1, 4, [some (.ref 1), some (.int (-1 : Int32)), some (.int (0 : Int32))], [])) (h' := (zt_T L, zt_R, M, J, e)) (fun _ => rfl)).trans ?_
  refine zf_forD (X := fun (i1 : Nat) (a1 : Int32) => zz_D (zm_N_eldest, d + 1, 4, [some (.ref 1), some (.int a1), some (.int (Int32.ofNat i1))], []) (zt_T L, zt_R, M, J, e)) (f := (f_N_eldest_1 M)) (a := (-1 : Int32)) (M 4 10).toNatClampNeg (fun i1 hi1 => ?_) ?_
  · intro hx1
    have k2 := k0 i1 hi1
    generalize zf_for i1 (f_N_eldest_1 M) (-1 : Int32) = a1 at hx1 k2 ⊢
    show zz_D (zm_N_eldest, d + 1, 4, [some (.ref 1), some (.int a1), some (.int (Int32.ofNat i1))], []) (zt_T L, zt_R, M, J, e) = _
    unfold kb_N_eldest_1 at k2
    refine (zz_go 2 (fr' := (zm_N_eldest, d + 1, 6, [some (.ref 1), some (.int a1), some (.int (Int32.ofNat i1))], [.ref 1, .int (Int32.ofNat i1)])) (h' := (zt_T L, zt_R, M, J, e)) (fun _ => rfl)).trans ?_
    refine zl_getR rfl rfl rfl ?_
    refine zl_getI rfl (by decide) rfl rfl ?_
    refine zc_geF rfl (zi_lt hi1) ?_
    refine zz_jn (X := zz_D (zm_N_eldest, d + 1, 43, [some (.ref 1), some (.int (bif (decide (a1 = (-1 : Int32))) then (Int32.ofNat i1) else (bif (decide ((M 10 i1) ≤ (M 10 (a1).toNatClampNeg))) then a1 else (Int32.ofNat i1)))), some (.int (Int32.ofNat i1))], []) (zt_T L, zt_R, M, J, e)) (fun j3 => ?_) ?_
    · refine (zz_go 2 (fr' := (zm_N_eldest, d + 1, 17, [some (.ref 1), some (.int a1), some (.int (Int32.ofNat i1))], [.int (-1 : Int32), .int a1])) (h' := (zt_T L, zt_R, M, J, e)) (fun _ => rfl)).trans ?_
      rcases zz_bc (decide (a1 = (-1 : Int32))) with h4 | h4
      · refine zc_eqT rfl h4 ?_
        refine (zz_go 2 (fr' := (zm_N_eldest, d + 1, 43, [some (.ref 1), some (.int (Int32.ofNat i1)), some (.int (Int32.ofNat i1))], [])) (h' := (zt_T L, zt_R, M, J, e)) (fun _ => rfl)).trans ?_
        simpa only [h4, zk_t, zk_f, zb_t, zb_f] using j3
      · refine zc_eqF rfl h4 ?_
        have k5 := k2 h4
        refine (zz_go 1 (fr' := (zm_N_eldest, d + 1, 21, [some (.ref 1), some (.int a1), some (.int (Int32.ofNat i1))], [.ref 1])) (h' := (zt_T L, zt_R, M, J, e)) (fun _ => rfl)).trans ?_
        refine zl_getR rfl rfl rfl ?_
        refine zl_getR rfl rfl rfl ?_
        refine (zz_go 1 (fr' := (zm_N_eldest, d + 1, 28, [some (.ref 1), some (.int a1), some (.int (Int32.ofNat i1))], [.int (Int32.ofNat i1), .ref 10])) (h' := (zt_T L, zt_R, M, J, e)) (fun _ => rfl)).trans ?_
        obtain ⟨g6, k7⟩ := k5
        refine zl_iaload rfl rfl g6 (by rw [(zi_nat (by have := zi_tn (M 4 10); omega))] <;> exact rfl) ?_
        refine (zz_go 1 (fr' := (zm_N_eldest, d + 1, 30, [some (.ref 1), some (.int a1), some (.int (Int32.ofNat i1))], [.ref 1, .int (M 10 i1)])) (h' := (zt_T L, zt_R, M, J, e)) (fun _ => rfl)).trans ?_
        refine zl_getR rfl rfl rfl ?_
        refine zl_getR rfl rfl rfl ?_
        refine (zz_go 1 (fr' := (zm_N_eldest, d + 1, 37, [some (.ref 1), some (.int a1), some (.int (Int32.ofNat i1))], [.int a1, .ref 10, .int (M 10 i1)])) (h' := (zt_T L, zt_R, M, J, e)) (fun _ => rfl)).trans ?_
        have g8 : zz_in a1 6 = true := k7
        refine zl_iaload rfl rfl g8 rfl ?_
        refine zz_jn (X := zz_D (zm_N_eldest, d + 1, 43, [some (.ref 1), some (.int (bif (decide ((M 10 i1) ≤ (M 10 (a1).toNatClampNeg))) then a1 else (Int32.ofNat i1))), some (.int (Int32.ofNat i1))], []) (zt_T L, zt_R, M, J, e)) (fun j9 => ?_) ?_
        · rcases zz_bc (decide ((M 10 i1) ≤ (M 10 (a1).toNatClampNeg))) with h10 | h10
          · refine zc_leT rfl h10 ?_
            simpa only [h10, zk_t, zk_f, zb_t, zb_f] using j9
          · refine zc_leF rfl h10 ?_
            refine (zz_go 2 (fr' := (zm_N_eldest, d + 1, 43, [some (.ref 1), some (.int (Int32.ofNat i1)), some (.int (Int32.ofNat i1))], [])) (h' := (zt_T L, zt_R, M, J, e)) (fun _ => rfl)).trans ?_
            simpa only [h10, zk_t, zk_f, zb_t, zb_f] using j9
        simpa only [h4, zk_t, zk_f, zb_t, zb_f] using j3
    refine (zz_go 2 (fr' := (zm_N_eldest, d + 1, 4, [some (.ref 1), some (.int (bif (decide (a1 = (-1 : Int32))) then (Int32.ofNat i1) else (bif (decide ((M 10 i1) ≤ (M 10 (a1).toNatClampNeg))) then a1 else (Int32.ofNat i1)))), some (.int (Int32.ofNat i1 + 1))], [])) (h' := (zt_T L, zt_R, M, J, e)) (fun _ => rfl)).trans ?_
    rw [zi_succ i1]
    simpa only [f_N_eldest_1] using hx1
  show zz_D (zm_N_eldest, d + 1, 4, [some (.ref 1), some (.int (zf_for (M 4 10).toNatClampNeg (f_N_eldest_1 M) (-1 : Int32))), some (.int (Int32.ofNat (M 4 10).toNatClampNeg))], []) (zt_T L, zt_R, M, J, e) = _
  refine (zz_go 2 (fr' := (zm_N_eldest, d + 1, 6, [some (.ref 1), some (.int (zf_for (M 4 10).toNatClampNeg (f_N_eldest_1 M) (-1 : Int32))), some (.int (Int32.ofNat (M 4 10).toNatClampNeg))], [.ref 1, .int (Int32.ofNat (M 4 10).toNatClampNeg)])) (h' := (zt_T L, zt_R, M, J, e)) (fun _ => rfl)).trans ?_
  refine zl_getR rfl rfl rfl ?_
  refine zl_getI rfl (by decide) rfl rfl ?_
  refine zc_geT rfl (zi_ge _) ?_
  refine zz_weak (L := [none, some (.int (zf_for (M 4 10).toNatClampNeg (f_N_eldest_1 M) (-1 : Int32))), none]) ⟨Or.inr ⟨rfl, rfl⟩, Or.inl rfl, Or.inr ⟨rfl, rfl⟩, trivial⟩ ?_
  refine (zz_go 1 (fr' := (zm_N_eldest, d + 1, 50, [none, some (.int (zf_for (M 4 10).toNatClampNeg (f_N_eldest_1 M) (-1 : Int32))), none], [.int (zf_for (M 4 10).toNatClampNeg (f_N_eldest_1 M) (-1 : Int32))])) (h' := (zt_T L, zt_R, M, J, e)) (fun _ => rfl)).trans ?_
  refine zl_retI rfl rfl ?_
  rfl
def f_N_famous_1 (M : zMem) (i1 : Nat) (a1 : Int32 × Int32) : Int32 × Int32 := ((bif (decide ((M 13 i1) ≤ a1.2)) then a1.1 else (Int32.ofNat i1)), (bif (decide ((M 13 i1) ≤ a1.2)) then a1.2 else (M 13 i1)))
def kb_N_famous_1 (M : zMem) (i1 : Nat) (a1 : Int32 × Int32) : Prop := zz_in (Int32.ofNat i1) 6 = true
def v_N_famous (M : zMem) : Int32 := (zf_for (M 4 10).toNatClampNeg (f_N_famous_1 M) ((-1 : Int32), (0 : Int32))).1
def ok_N_famous (M : zMem) : Prop := (∀ i1, i1 < (M 4 10).toNatClampNeg → kb_N_famous_1 M i1 (zf_for i1 (f_N_famous_1 M) ((-1 : Int32), (0 : Int32))))
set_option maxRecDepth 20000 in
set_option maxHeartbeats 2000000 in
theorem s_N_famous (L e : Nat) (J : zJem) (d : Nat) (M : zMem) (k0 : ok_N_famous M) : zz_D (zm_N_famous, d + 1, 0, [some (.ref 1), none, none, none], []) (zt_T L, zt_R, M, J, e) = some (.inl (some (.int (v_N_famous M))), (zt_T L, zt_R, M, J, e)) := by
  unfold ok_N_famous at k0
  unfold v_N_famous
  refine (zz_go 6 (fr' := (zm_N_famous, d + 1, 6, [some (.ref 1), some (.int (-1 : Int32)), some (.int (0 : Int32)), some (.int (0 : Int32))], [])) (h' := (zt_T L, zt_R, M, J, e)) (fun _ => rfl)).trans ?_
  refine zf_forD (X := fun (i1 : Nat) (a1 : Int32 × Int32) => zz_D (zm_N_famous, d + 1, 6, [some (.ref 1), some (.int a1.1), some (.int a1.2), some (.int (Int32.ofNat i1))], []) (zt_T L, zt_R, M, J, e)) (f := (f_N_famous_1 M)) (a := ((-1 : Int32), (0 : Int32))) (M 4 10).toNatClampNeg (fun i1 hi1 => ?_) ?_
  · intro hx1
    have k2 := k0 i1 hi1
    generalize zf_for i1 (f_N_famous_1 M) ((-1 : Int32), (0 : Int32)) = a1 at hx1 k2 ⊢
    show zz_D (zm_N_famous, d + 1, 6, [some (.ref 1), some (.int a1.1), some (.int a1.2), some (.int (Int32.ofNat i1))], []) (zt_T L, zt_R, M, J, e) = _
    unfold kb_N_famous_1 at k2
    refine (zz_go 2 (fr' := (zm_N_famous, d + 1, 8, [some (.ref 1), some (.int a1.1), some (.int a1.2), some (.int (Int32.ofNat i1))], [.ref 1, .int (Int32.ofNat i1)])) (h' := (zt_T L, zt_R, M, J, e)) (fun _ => rfl)).trans ?_
    refine zl_getR rfl rfl rfl ?_
    refine zl_getI rfl (by decide) rfl rfl ?_
    refine zc_geF rfl (zi_lt hi1) ?_
    refine (zz_go 1 (fr' := (zm_N_famous, d + 1, 18, [some (.ref 1), some (.int a1.1), some (.int a1.2), some (.int (Int32.ofNat i1))], [.ref 1])) (h' := (zt_T L, zt_R, M, J, e)) (fun _ => rfl)).trans ?_
    refine zl_getR rfl rfl rfl ?_
    refine zl_getR rfl rfl rfl ?_
    refine (zz_go 1 (fr' := (zm_N_famous, d + 1, 25, [some (.ref 1), some (.int a1.1), some (.int a1.2), some (.int (Int32.ofNat i1))], [.int (Int32.ofNat i1), .ref 13])) (h' := (zt_T L, zt_R, M, J, e)) (fun _ => rfl)).trans ?_
    have g3 : zz_in (Int32.ofNat i1) 6 = true := k2
    refine zl_iaload rfl rfl g3 (by rw [(zi_nat (by have := zi_tn (M 4 10); omega))] <;> exact rfl) ?_
    refine zz_jn (X := zz_D (zm_N_famous, d + 1, 42, [some (.ref 1), some (.int (bif (decide ((M 13 i1) ≤ a1.2)) then a1.1 else (Int32.ofNat i1))), some (.int (bif (decide ((M 13 i1) ≤ a1.2)) then a1.2 else (M 13 i1))), some (.int (Int32.ofNat i1))], []) (zt_T L, zt_R, M, J, e)) (fun j4 => ?_) ?_
    · refine (zz_go 1 (fr' := (zm_N_famous, d + 1, 27, [some (.ref 1), some (.int a1.1), some (.int a1.2), some (.int (Int32.ofNat i1))], [.int a1.2, .int (M 13 i1)])) (h' := (zt_T L, zt_R, M, J, e)) (fun _ => rfl)).trans ?_
      rcases zz_bc (decide ((M 13 i1) ≤ a1.2)) with h5 | h5
      · refine zc_leT rfl h5 ?_
        simpa only [h5, zk_t, zk_f, zb_t, zb_f] using j4
      · refine zc_leF rfl h5 ?_
        refine (zz_go 3 (fr' := (zm_N_famous, d + 1, 33, [some (.ref 1), some (.int (Int32.ofNat i1)), some (.int a1.2), some (.int (Int32.ofNat i1))], [.ref 1])) (h' := (zt_T L, zt_R, M, J, e)) (fun _ => rfl)).trans ?_
        refine zl_getR rfl rfl rfl ?_
        refine zl_getR rfl rfl rfl ?_
        refine (zz_go 1 (fr' := (zm_N_famous, d + 1, 40, [some (.ref 1), some (.int (Int32.ofNat i1)), some (.int a1.2), some (.int (Int32.ofNat i1))], [.int (Int32.ofNat i1), .ref 13])) (h' := (zt_T L, zt_R, M, J, e)) (fun _ => rfl)).trans ?_
        refine zl_iaload rfl rfl g3 (by rw [(zi_nat (by have := zi_tn (M 4 10); omega))] <;> exact rfl) ?_
        refine (zz_go 1 (fr' := (zm_N_famous, d + 1, 42, [some (.ref 1), some (.int (Int32.ofNat i1)), some (.int (M 13 i1)), some (.int (Int32.ofNat i1))], [])) (h' := (zt_T L, zt_R, M, J, e)) (fun _ => rfl)).trans ?_
        simpa only [h5, zk_t, zk_f, zb_t, zb_f] using j4
    refine (zz_go 2 (fr' := (zm_N_famous, d + 1, 6, [some (.ref 1), some (.int (bif (decide ((M 13 i1) ≤ a1.2)) then a1.1 else (Int32.ofNat i1))), some (.int (bif (decide ((M 13 i1) ≤ a1.2)) then a1.2 else (M 13 i1))), some (.int (Int32.ofNat i1 + 1))], [])) (h' := (zt_T L, zt_R, M, J, e)) (fun _ => rfl)).trans ?_
    rw [zi_succ i1]
    simpa only [f_N_famous_1] using hx1
  show zz_D (zm_N_famous, d + 1, 6, [some (.ref 1), some (.int (zf_for (M 4 10).toNatClampNeg (f_N_famous_1 M) ((-1 : Int32), (0 : Int32))).1), some (.int (zf_for (M 4 10).toNatClampNeg (f_N_famous_1 M) ((-1 : Int32), (0 : Int32))).2), some (.int (Int32.ofNat (M 4 10).toNatClampNeg))], []) (zt_T L, zt_R, M, J, e) = _
  refine (zz_go 2 (fr' := (zm_N_famous, d + 1, 8, [some (.ref 1), some (.int (zf_for (M 4 10).toNatClampNeg (f_N_famous_1 M) ((-1 : Int32), (0 : Int32))).1), some (.int (zf_for (M 4 10).toNatClampNeg (f_N_famous_1 M) ((-1 : Int32), (0 : Int32))).2), some (.int (Int32.ofNat (M 4 10).toNatClampNeg))], [.ref 1, .int (Int32.ofNat (M 4 10).toNatClampNeg)])) (h' := (zt_T L, zt_R, M, J, e)) (fun _ => rfl)).trans ?_
  refine zl_getR rfl rfl rfl ?_
  refine zl_getI rfl (by decide) rfl rfl ?_
  refine zc_geT rfl (zi_ge _) ?_
  refine zz_weak (L := [none, some (.int (zf_for (M 4 10).toNatClampNeg (f_N_famous_1 M) ((-1 : Int32), (0 : Int32))).1), none, none]) ⟨Or.inr ⟨rfl, rfl⟩, Or.inl rfl, Or.inr ⟨rfl, rfl⟩, Or.inr ⟨rfl, rfl⟩, trivial⟩ ?_
  refine (zz_go 1 (fr' := (zm_N_famous, d + 1, 49, [none, some (.int (zf_for (M 4 10).toNatClampNeg (f_N_famous_1 M) ((-1 : Int32), (0 : Int32))).1), none, none], [.int (zf_for (M 4 10).toNatClampNeg (f_N_famous_1 M) ((-1 : Int32), (0 : Int32))).1])) (h' := (zt_T L, zt_R, M, J, e)) (fun _ => rfl)).trans ?_
  refine zl_retI rfl rfl ?_
  rfl
def f_N_twins_2 (M : zMem) (i1 : Nat) (a1 : Int32) (i2 : Nat) (a2 : Int32) : Int32 := (bif (decide ((M 8 i1) = (M 8 i2))) then (a2 + (1 : Int32)) else a2)
def kb_N_twins_2 (M : zMem) (i1 : Nat) (a1 : Int32) (i2 : Nat) (a2 : Int32) : Prop := (zz_in (Int32.ofNat i1) 6 = true ∧ zz_in (Int32.ofNat i2) 6 = true)
def f_N_twins_1 (M : zMem) (i1 : Nat) (a1 : Int32) : Int32 := (zf_for (Int32.ofNat i1).toNatClampNeg (f_N_twins_2 M i1 a1) a1)
def kb_N_twins_1 (M : zMem) (i1 : Nat) (a1 : Int32) : Prop := (∀ i2, i2 < (Int32.ofNat i1).toNatClampNeg → kb_N_twins_2 M i1 a1 i2 (zf_for i2 (f_N_twins_2 M i1 a1) a1))
def v_N_twins (M : zMem) : Int32 := (zf_for (M 4 10).toNatClampNeg (f_N_twins_1 M) (0 : Int32))
def ok_N_twins (M : zMem) : Prop := (∀ i1, i1 < (M 4 10).toNatClampNeg → kb_N_twins_1 M i1 (zf_for i1 (f_N_twins_1 M) (0 : Int32)))
set_option maxRecDepth 20000 in
set_option maxHeartbeats 2000000 in
theorem s_N_twins (L e : Nat) (J : zJem) (d : Nat) (M : zMem) (k0 : ok_N_twins M) : zz_D (zm_N_twins, d + 1, 0, [some (.ref 1), none, none, none], []) (zt_T L, zt_R, M, J, e) = some (.inl (some (.int (v_N_twins M))), (zt_T L, zt_R, M, J, e)) := by
  unfold ok_N_twins at k0
  unfold v_N_twins
  refine (zz_go 4 (fr' := (zm_N_twins, d + 1, 4, [some (.ref 1), some (.int (0 : Int32)), some (.int (0 : Int32)), none], [])) (h' := (zt_T L, zt_R, M, J, e)) (fun _ => rfl)).trans ?_
  refine zf_forD (X := fun (i1 : Nat) (a1 : Int32) => zz_D (zm_N_twins, d + 1, 4, [some (.ref 1), some (.int a1), some (.int (Int32.ofNat i1)), none], []) (zt_T L, zt_R, M, J, e)) (f := (f_N_twins_1 M)) (a := (0 : Int32)) (M 4 10).toNatClampNeg (fun i1 hi1 => ?_) ?_
  · intro hx1
    have k2 := k0 i1 hi1
    generalize zf_for i1 (f_N_twins_1 M) (0 : Int32) = a1 at hx1 k2 ⊢
    show zz_D (zm_N_twins, d + 1, 4, [some (.ref 1), some (.int a1), some (.int (Int32.ofNat i1)), none], []) (zt_T L, zt_R, M, J, e) = _
    unfold kb_N_twins_1 at k2
    refine (zz_go 2 (fr' := (zm_N_twins, d + 1, 6, [some (.ref 1), some (.int a1), some (.int (Int32.ofNat i1)), none], [.ref 1, .int (Int32.ofNat i1)])) (h' := (zt_T L, zt_R, M, J, e)) (fun _ => rfl)).trans ?_
    refine zl_getR rfl rfl rfl ?_
    refine zl_getI rfl (by decide) rfl rfl ?_
    refine zc_geF rfl (zi_lt hi1) ?_
    refine (zz_go 2 (fr' := (zm_N_twins, d + 1, 17, [some (.ref 1), some (.int a1), some (.int (Int32.ofNat i1)), some (.int (0 : Int32))], [])) (h' := (zt_T L, zt_R, M, J, e)) (fun _ => rfl)).trans ?_
    refine zf_forD (X := fun (i2 : Nat) (a2 : Int32) => zz_D (zm_N_twins, d + 1, 17, [some (.ref 1), some (.int a2), some (.int (Int32.ofNat i1)), some (.int (Int32.ofNat i2))], []) (zt_T L, zt_R, M, J, e)) (f := (f_N_twins_2 M i1 a1)) (a := a1) (Int32.ofNat i1).toNatClampNeg (fun i2 hi2 => ?_) ?_
    · intro hx3
      have k4 := k2 i2 hi2
      generalize zf_for i2 (f_N_twins_2 M i1 a1) a1 = a2 at hx3 k4 ⊢
      show zz_D (zm_N_twins, d + 1, 17, [some (.ref 1), some (.int a2), some (.int (Int32.ofNat i1)), some (.int (Int32.ofNat i2))], []) (zt_T L, zt_R, M, J, e) = _
      unfold kb_N_twins_2 at k4
      refine (zz_go 2 (fr' := (zm_N_twins, d + 1, 19, [some (.ref 1), some (.int a2), some (.int (Int32.ofNat i1)), some (.int (Int32.ofNat i2))], [.int (Int32.ofNat i1), .int (Int32.ofNat i2)])) (h' := (zt_T L, zt_R, M, J, e)) (fun _ => rfl)).trans ?_
      refine zc_geF rfl (zi_lt hi2) ?_
      refine (zz_go 1 (fr' := (zm_N_twins, d + 1, 23, [some (.ref 1), some (.int a2), some (.int (Int32.ofNat i1)), some (.int (Int32.ofNat i2))], [.ref 1])) (h' := (zt_T L, zt_R, M, J, e)) (fun _ => rfl)).trans ?_
      refine zl_getR rfl rfl rfl ?_
      refine zl_getR rfl rfl rfl ?_
      refine (zz_go 1 (fr' := (zm_N_twins, d + 1, 30, [some (.ref 1), some (.int a2), some (.int (Int32.ofNat i1)), some (.int (Int32.ofNat i2))], [.int (Int32.ofNat i1), .ref 8])) (h' := (zt_T L, zt_R, M, J, e)) (fun _ => rfl)).trans ?_
      obtain ⟨g5, k6⟩ := k4
      refine zl_iaload rfl rfl g5 (by rw [(zi_nat (by have := zi_tn (M 4 10); omega))] <;> exact rfl) ?_
      refine (zz_go 1 (fr' := (zm_N_twins, d + 1, 32, [some (.ref 1), some (.int a2), some (.int (Int32.ofNat i1)), some (.int (Int32.ofNat i2))], [.ref 1, .int (M 8 i1)])) (h' := (zt_T L, zt_R, M, J, e)) (fun _ => rfl)).trans ?_
      refine zl_getR rfl rfl rfl ?_
      refine zl_getR rfl rfl rfl ?_
      refine (zz_go 1 (fr' := (zm_N_twins, d + 1, 39, [some (.ref 1), some (.int a2), some (.int (Int32.ofNat i1)), some (.int (Int32.ofNat i2))], [.int (Int32.ofNat i2), .ref 8, .int (M 8 i1)])) (h' := (zt_T L, zt_R, M, J, e)) (fun _ => rfl)).trans ?_
      have g7 : zz_in (Int32.ofNat i2) 6 = true := k6
      refine zl_iaload rfl rfl g7 (by rw [(zi_nat (by have := zi_tn (Int32.ofNat i1); omega))] <;> exact rfl) ?_
      refine zz_jn (X := zz_D (zm_N_twins, d + 1, 46, [some (.ref 1), some (.int (bif (decide ((M 8 i1) = (M 8 i2))) then (a2 + (1 : Int32)) else a2)), some (.int (Int32.ofNat i1)), some (.int (Int32.ofNat i2))], []) (zt_T L, zt_R, M, J, e)) (fun j8 => ?_) ?_
      · rcases zz_bc (decide ((M 8 i1) = (M 8 i2))) with h9 | h9
        · refine zc_neT rfl h9 ?_
          refine (zz_go 1 (fr' := (zm_N_twins, d + 1, 46, [some (.ref 1), some (.int (a2 + (1 : Int32))), some (.int (Int32.ofNat i1)), some (.int (Int32.ofNat i2))], [])) (h' := (zt_T L, zt_R, M, J, e)) (fun _ => rfl)).trans ?_
          simpa only [h9, zk_t, zk_f, zb_t, zb_f] using j8
        · refine zc_neF rfl h9 ?_
          simpa only [h9, zk_t, zk_f, zb_t, zb_f] using j8
      refine (zz_go 2 (fr' := (zm_N_twins, d + 1, 17, [some (.ref 1), some (.int (bif (decide ((M 8 i1) = (M 8 i2))) then (a2 + (1 : Int32)) else a2)), some (.int (Int32.ofNat i1)), some (.int (Int32.ofNat i2 + 1))], [])) (h' := (zt_T L, zt_R, M, J, e)) (fun _ => rfl)).trans ?_
      rw [zi_succ i2]
      simpa only [f_N_twins_2] using hx3
    show zz_D (zm_N_twins, d + 1, 17, [some (.ref 1), some (.int (zf_for (Int32.ofNat i1).toNatClampNeg (f_N_twins_2 M i1 a1) a1)), some (.int (Int32.ofNat i1)), some (.int (Int32.ofNat (Int32.ofNat i1).toNatClampNeg))], []) (zt_T L, zt_R, M, J, e) = _
    refine (zz_go 2 (fr' := (zm_N_twins, d + 1, 19, [some (.ref 1), some (.int (zf_for (Int32.ofNat i1).toNatClampNeg (f_N_twins_2 M i1 a1) a1)), some (.int (Int32.ofNat i1)), some (.int (Int32.ofNat (Int32.ofNat i1).toNatClampNeg))], [.int (Int32.ofNat i1), .int (Int32.ofNat (Int32.ofNat i1).toNatClampNeg)])) (h' := (zt_T L, zt_R, M, J, e)) (fun _ => rfl)).trans ?_
    refine zc_geT rfl (zi_ge _) ?_
    refine zz_weak (L := [some (.ref 1), some (.int (zf_for (Int32.ofNat i1).toNatClampNeg (f_N_twins_2 M i1 a1) a1)), some (.int (Int32.ofNat i1)), none]) ⟨Or.inl rfl, Or.inl rfl, Or.inl rfl, Or.inr ⟨rfl, rfl⟩, trivial⟩ ?_
    refine (zz_go 2 (fr' := (zm_N_twins, d + 1, 4, [some (.ref 1), some (.int (zf_for (Int32.ofNat i1).toNatClampNeg (f_N_twins_2 M i1 a1) a1)), some (.int (Int32.ofNat i1 + 1)), none], [])) (h' := (zt_T L, zt_R, M, J, e)) (fun _ => rfl)).trans ?_
    rw [zi_succ i1]
    exact hx1
  show zz_D (zm_N_twins, d + 1, 4, [some (.ref 1), some (.int (zf_for (M 4 10).toNatClampNeg (f_N_twins_1 M) (0 : Int32))), some (.int (Int32.ofNat (M 4 10).toNatClampNeg)), none], []) (zt_T L, zt_R, M, J, e) = _
  refine (zz_go 2 (fr' := (zm_N_twins, d + 1, 6, [some (.ref 1), some (.int (zf_for (M 4 10).toNatClampNeg (f_N_twins_1 M) (0 : Int32))), some (.int (Int32.ofNat (M 4 10).toNatClampNeg)), none], [.ref 1, .int (Int32.ofNat (M 4 10).toNatClampNeg)])) (h' := (zt_T L, zt_R, M, J, e)) (fun _ => rfl)).trans ?_
  refine zl_getR rfl rfl rfl ?_
  refine zl_getI rfl (by decide) rfl rfl ?_
  refine zc_geT rfl (zi_ge _) ?_
  refine zz_weak (L := [none, some (.int (zf_for (M 4 10).toNatClampNeg (f_N_twins_1 M) (0 : Int32))), none, none]) ⟨Or.inr ⟨rfl, rfl⟩, Or.inl rfl, Or.inr ⟨rfl, rfl⟩, Or.inl rfl, trivial⟩ ?_
  refine (zz_go 1 (fr' := (zm_N_twins, d + 1, 59, [none, some (.int (zf_for (M 4 10).toNatClampNeg (f_N_twins_1 M) (0 : Int32))), none, none], [.int (zf_for (M 4 10).toNatClampNeg (f_N_twins_1 M) (0 : Int32))])) (h' := (zt_T L, zt_R, M, J, e)) (fun _ => rfl)).trans ?_
  refine zl_retI rfl rfl ?_
  rfl
def f_N_tellers_1 (M : zMem) (x0 : Int32) (i1 : Nat) (a1 : Int32) : Int32 := (bif (decide ((M 6 i1) = x0)) then (a1 ||| (zsl (1 : Int32) (Int32.ofNat i1))) else a1)
def v_N_tellers (M : zMem) (x0 : Int32) : Int32 := (bif Nat.beq (t_N_needDeed x0) 0 then (zf_for 8 (f_N_tellers_1 M x0) (0 : Int32)) else 0)
def t_N_tellers (M : zMem) (x0 : Int32) : Nat := (bif Nat.beq (t_N_needDeed x0) 0 then 0 else (t_N_needDeed x0))
set_option maxRecDepth 20000 in
set_option maxHeartbeats 2000000 in
theorem s_N_tellers (L e : Nat) (J : zJem) (d : Nat) (M : zMem) (x0 : Int32) : zz_D (zm_N_tellers, d + 9, 0, [some (.ref 1), some (.int x0), none, none], []) (zt_T L, zt_R, M, J, e) = some (zx_o (t_N_tellers M x0) (some (.int (v_N_tellers M x0))), (zt_T L, zt_R, M, J, zx_e (t_N_tellers M x0) e)) := by
  unfold v_N_tellers t_N_tellers
  refine (zz_go 1 (fr' := (zm_N_tellers, d + 9, 1, [some (.ref 1), some (.int x0), none, none], [.int x0])) (h' := (zt_T L, zt_R, M, J, e)) (fun _ => rfl)).trans ?_
  refine zl_st (d := d + 8) rfl rfl rfl rfl rfl rfl rfl (s_N_needDeed L e J (d + 0) x0) ?_
  refine zl_aftV rfl (fun h1 => ?_) (fun h1 => ?_)
  rotate_left 1
  · skip
    rw [zx_oe h1 (some (.int 0))]
    first | (simp only [h1, zk_t, zk_f, zb_t, zb_f]; done) | (simp only [h1, zk_t, zk_f, zb_t, zb_f]; rfl) | rfl
  show zz_D (zm_N_tellers, d + 9, 4, [some (.ref 1), some (.int x0), none, none], []) (zt_T L, zt_R, M, J, e) = _
  refine (zz_go 4 (fr' := (zm_N_tellers, d + 9, 8, [some (.ref 1), some (.int x0), some (.int (0 : Int32)), some (.int (0 : Int32))], [])) (h' := (zt_T L, zt_R, M, J, e)) (fun _ => rfl)).trans ?_
  refine zf_forD (X := fun (i1 : Nat) (a1 : Int32) => zz_D (zm_N_tellers, d + 9, 8, [some (.ref 1), some (.int x0), some (.int a1), some (.int (Int32.ofNat i1))], []) (zt_T L, zt_R, M, J, e)) (f := (f_N_tellers_1 M x0)) (a := (0 : Int32)) 8 (fun i1 hi1 => ?_) ?_
  · intro hx2
    generalize zf_for i1 (f_N_tellers_1 M x0) (0 : Int32) = a1 at hx2 ⊢
    show zz_D (zm_N_tellers, d + 9, 8, [some (.ref 1), some (.int x0), some (.int a1), some (.int (Int32.ofNat i1))], []) (zt_T L, zt_R, M, J, e) = _
    refine (zz_go 2 (fr' := (zm_N_tellers, d + 9, 11, [some (.ref 1), some (.int x0), some (.int a1), some (.int (Int32.ofNat i1))], [.int (8 : Int32), .int (Int32.ofNat i1)])) (h' := (zt_T L, zt_R, M, J, e)) (fun _ => rfl)).trans ?_
    refine zc_geF rfl (zi_ltc (n := 8) (by omega) (by decide)) ?_
    refine (zz_go 1 (fr' := (zm_N_tellers, d + 9, 15, [some (.ref 1), some (.int x0), some (.int a1), some (.int (Int32.ofNat i1))], [.ref 1])) (h' := (zt_T L, zt_R, M, J, e)) (fun _ => rfl)).trans ?_
    refine zl_getR rfl rfl rfl ?_
    refine zl_getR rfl rfl rfl ?_
    refine (zz_go 1 (fr' := (zm_N_tellers, d + 9, 22, [some (.ref 1), some (.int x0), some (.int a1), some (.int (Int32.ofNat i1))], [.int (Int32.ofNat i1), .ref 6])) (h' := (zt_T L, zt_R, M, J, e)) (fun _ => rfl)).trans ?_
    refine zl_iaload rfl rfl (zi_in (by omega) (by decide)) (by rw [(zi_nat (by omega))] <;> exact rfl) ?_
    refine zz_jn (X := zz_D (zm_N_tellers, d + 9, 33, [some (.ref 1), some (.int x0), some (.int (bif (decide ((M 6 i1) = x0)) then (a1 ||| (zsl (1 : Int32) (Int32.ofNat i1))) else a1)), some (.int (Int32.ofNat i1))], []) (zt_T L, zt_R, M, J, e)) (fun j4 => ?_) ?_
    · refine (zz_go 1 (fr' := (zm_N_tellers, d + 9, 24, [some (.ref 1), some (.int x0), some (.int a1), some (.int (Int32.ofNat i1))], [.int x0, .int (M 6 i1)])) (h' := (zt_T L, zt_R, M, J, e)) (fun _ => rfl)).trans ?_
      rcases zz_bc (decide ((M 6 i1) = x0)) with h5 | h5
      · refine zc_neT rfl h5 ?_
        refine (zz_go 6 (fr' := (zm_N_tellers, d + 9, 33, [some (.ref 1), some (.int x0), some (.int (a1 ||| (zsl (1 : Int32) (Int32.ofNat i1)))), some (.int (Int32.ofNat i1))], [])) (h' := (zt_T L, zt_R, M, J, e)) (fun _ => rfl)).trans ?_
        simpa only [h5, zk_t, zk_f, zb_t, zb_f] using j4
      · refine zc_neF rfl h5 ?_
        simpa only [h5, zk_t, zk_f, zb_t, zb_f] using j4
    refine (zz_go 2 (fr' := (zm_N_tellers, d + 9, 8, [some (.ref 1), some (.int x0), some (.int (bif (decide ((M 6 i1) = x0)) then (a1 ||| (zsl (1 : Int32) (Int32.ofNat i1))) else a1)), some (.int (Int32.ofNat i1 + 1))], [])) (h' := (zt_T L, zt_R, M, J, e)) (fun _ => rfl)).trans ?_
    rw [zi_succ i1]
    simpa only [f_N_tellers_1] using hx2
  show zz_D (zm_N_tellers, d + 9, 8, [some (.ref 1), some (.int x0), some (.int (zf_for 8 (f_N_tellers_1 M x0) (0 : Int32))), some (.int (Int32.ofNat 8))], []) (zt_T L, zt_R, M, J, e) = _
  refine (zz_go 2 (fr' := (zm_N_tellers, d + 9, 11, [some (.ref 1), some (.int x0), some (.int (zf_for 8 (f_N_tellers_1 M x0) (0 : Int32))), some (.int (Int32.ofNat 8))], [.int (8 : Int32), .int (Int32.ofNat 8)])) (h' := (zt_T L, zt_R, M, J, e)) (fun _ => rfl)).trans ?_
  refine zc_geT rfl (by decide) ?_
  refine zz_weak (L := [none, none, some (.int (zf_for 8 (f_N_tellers_1 M x0) (0 : Int32))), none]) ⟨Or.inr ⟨rfl, rfl⟩, Or.inr ⟨rfl, rfl⟩, Or.inl rfl, Or.inr ⟨rfl, rfl⟩, trivial⟩ ?_
  refine (zz_go 1 (fr' := (zm_N_tellers, d + 9, 40, [none, none, some (.int (zf_for 8 (f_N_tellers_1 M x0) (0 : Int32))), none], [.int (zf_for 8 (f_N_tellers_1 M x0) (0 : Int32))])) (h' := (zt_T L, zt_R, M, J, e)) (fun _ => rfl)).trans ?_
  refine zl_retI rfl rfl ?_
  first | (simp only [h1, zk_t, zk_f, zb_t, zb_f]; done) | (simp only [h1, zk_t, zk_f, zb_t, zb_f]; rfl) | rfl
def f_N_ahead_1 (M : zMem) (x0 : Int32) (x1 : Int32) (x2 : Int32) (i1 : Nat) (a1 : zMem) : zMem := (w_S_passYearAhead a1 15)
def kb_N_ahead_1 (M : zMem) (x0 : Int32) (x1 : Int32) (x2 : Int32) (i1 : Nat) (a1 : zMem) : Prop := ok_S_passYearAhead a1 15
def f_N_ahead_2 (M : zMem) (x0 : Int32) (x1 : Int32) (x2 : Int32) (i2 : Nat) (a2 : zMem) : zMem := (w_S_passYearAhead a2 15)
def kb_N_ahead_2 (M : zMem) (x0 : Int32) (x1 : Int32) (x2 : Int32) (i2 : Nat) (a2 : zMem) : Prop := ok_S_passYearAhead a2 15
def v_N_ahead (M : zMem) (x0 : Int32) (x1 : Int32) (x2 : Int32) : Int32 := (bif Nat.beq (t_N_needPerson M x0) 0 then (bif Nat.beq (t_N_needYears x1 (60 : Int32)) 0 then (bif (decide (x2 = 0)) then (bif (decide (x2 = 0)) then ((zf_for x1.toNatClampNeg (f_N_ahead_1 M x0 x1 x2) (w_S_copyFrom M 15 4)) 21 (x0).toNatClampNeg) else ((zf_for x1.toNatClampNeg (f_N_ahead_1 M x0 x1 x2) (w_S_copyFrom M 15 4)) 23 (x0).toNatClampNeg)) else (bif (decide (x2 = (1 : Int32))) then (bif (decide (x2 = 0)) then ((zf_for x1.toNatClampNeg (f_N_ahead_2 M x0 x1 x2) (w_S_copyFrom M 15 4)) 21 (x0).toNatClampNeg) else ((zf_for x1.toNatClampNeg (f_N_ahead_2 M x0 x1 x2) (w_S_copyFrom M 15 4)) 23 (x0).toNatClampNeg)) else 0)) else 0) else 0)
def w_N_ahead (M : zMem) (x0 : Int32) (x1 : Int32) (x2 : Int32) : zMem := (bif Nat.beq (t_N_needPerson M x0) 0 then (bif Nat.beq (t_N_needYears x1 (60 : Int32)) 0 then (bif (decide (x2 = 0)) then (zf_for x1.toNatClampNeg (f_N_ahead_1 M x0 x1 x2) (w_S_copyFrom M 15 4)) else (bif (decide (x2 = (1 : Int32))) then (zf_for x1.toNatClampNeg (f_N_ahead_2 M x0 x1 x2) (w_S_copyFrom M 15 4)) else M)) else M) else M)
def t_N_ahead (M : zMem) (x0 : Int32) (x1 : Int32) (x2 : Int32) : Nat := (bif Nat.beq (t_N_needPerson M x0) 0 then (bif Nat.beq (t_N_needYears x1 (60 : Int32)) 0 then (bif (decide (x2 = 0)) then 0 else (bif (decide (x2 = (1 : Int32))) then 0 else 4)) else (t_N_needYears x1 (60 : Int32))) else (t_N_needPerson M x0))
def ok_N_ahead (M : zMem) (x0 : Int32) (x1 : Int32) (x2 : Int32) : Prop := (Nat.beq (t_N_needPerson M x0) 0 = true → (Nat.beq (t_N_needYears x1 (60 : Int32)) 0 = true → (((decide (x2 = 0)) = true → ((∀ i1, i1 < x1.toNatClampNeg → kb_N_ahead_1 M x0 x1 x2 i1 (zf_for i1 (f_N_ahead_1 M x0 x1 x2) (w_S_copyFrom M 15 4))) ∧ (((decide (x2 = 0)) = true → zz_in x0 6 = true) ∧ ((decide (x2 = 0)) = false → zz_in x0 6 = true)))) ∧ ((decide (x2 = 0)) = false → ((decide (x2 = (1 : Int32))) = true → ((∀ i2, i2 < x1.toNatClampNeg → kb_N_ahead_2 M x0 x1 x2 i2 (zf_for i2 (f_N_ahead_2 M x0 x1 x2) (w_S_copyFrom M 15 4))) ∧ (((decide (x2 = 0)) = true → zz_in x0 6 = true) ∧ ((decide (x2 = 0)) = false → zz_in x0 6 = true))))))))
set_option maxRecDepth 20000 in
set_option maxHeartbeats 2000000 in
theorem s_N_ahead (L e : Nat) (J : zJem) (d : Nat) (M : zMem) (x0 : Int32) (x1 : Int32) (x2 : Int32) (k0 : ok_N_ahead M x0 x1 x2) : zz_D (zm_N_ahead, d + 9, 0, [some (.ref 1), some (.int x0), some (.int x1), some (.int x2), none], []) (zt_T L, zt_R, M, J, e) = some (zx_o (t_N_ahead M x0 x1 x2) (some (.int (v_N_ahead M x0 x1 x2))), (zt_T L, zt_R, (w_N_ahead M x0 x1 x2), J, zx_e (t_N_ahead M x0 x1 x2) e)) := by
  unfold ok_N_ahead at k0
  unfold v_N_ahead w_N_ahead t_N_ahead
  refine (zz_go 2 (fr' := (zm_N_ahead, d + 9, 2, [some (.ref 1), some (.int x0), some (.int x1), some (.int x2), none], [.int x0, .ref 1])) (h' := (zt_T L, zt_R, M, J, e)) (fun _ => rfl)).trans ?_
  refine zl_vt (d := d + 8) rfl rfl rfl rfl rfl rfl rfl rfl rfl rfl (s_N_needPerson L e J (d + 0) M x0) ?_
  refine zl_aftV rfl (fun h1 => ?_) (fun h1 => ?_)
  rotate_left 1
  · skip
    rw [zx_oe h1 (some (.int 0))]
    first | (simp only [h1, zk_t, zk_f, zb_t, zb_f]; done) | (simp only [h1, zk_t, zk_f, zb_t, zb_f]; rfl) | rfl
  have k2 := k0 h1
  show zz_D (zm_N_ahead, d + 9, 5, [some (.ref 1), some (.int x0), some (.int x1), some (.int x2), none], []) (zt_T L, zt_R, M, J, e) = _
  refine (zz_go 2 (fr' := (zm_N_ahead, d + 9, 8, [some (.ref 1), some (.int x0), some (.int x1), some (.int x2), none], [.int (60 : Int32), .int x1])) (h' := (zt_T L, zt_R, M, J, e)) (fun _ => rfl)).trans ?_
  refine zl_st (d := d + 8) rfl rfl rfl rfl rfl rfl rfl (s_N_needYears L e J (d + 0) x1 (60 : Int32)) ?_
  refine zl_aftV rfl (fun h3 => ?_) (fun h3 => ?_)
  rotate_left 1
  · skip
    rw [zx_oe h3 (some (.int 0))]
    first | (simp only [h1, h3, zk_t, zk_f, zb_t, zb_f]; done) | (simp only [h1, h3, zk_t, zk_f, zb_t, zb_f]; rfl) | rfl
  have k4 := k2 h3
  show zz_D (zm_N_ahead, d + 9, 11, [some (.ref 1), some (.int x0), some (.int x1), some (.int x2), none], []) (zt_T L, zt_R, M, J, e) = _
  obtain ⟨k6, k7⟩ := k4
  refine (zz_go 1 (fr' := (zm_N_ahead, d + 9, 12, [some (.ref 1), some (.int x0), some (.int x1), some (.int x2), none], [.int x2])) (h' := (zt_T L, zt_R, M, J, e)) (fun _ => rfl)).trans ?_
  rcases zz_bc (decide (x2 = 0)) with h5 | h5
  · refine zo_eqT rfl h5 ?_
    have k8 := k6 h5
    refine (zz_go 1 (fr' := (zm_N_ahead, d + 9, 31, [some (.ref 1), some (.int x0), some (.int x1), some (.int x2), none], [.ref 1])) (h' := (zt_T L, zt_R, M, J, e)) (fun _ => rfl)).trans ?_
    refine zl_getR rfl rfl rfl ?_
    refine (zz_go 1 (fr' := (zm_N_ahead, d + 9, 35, [some (.ref 1), some (.int x0), some (.int x1), some (.int x2), none], [.ref 1, .ref 15])) (h' := (zt_T L, zt_R, M, J, e)) (fun _ => rfl)).trans ?_
    refine zl_getR rfl rfl rfl ?_
    refine zl_vt (d := d + 8) rfl rfl rfl rfl rfl rfl rfl rfl rfl rfl (s_S_copyFrom L e J (d + 0) M 15 4 zt_St_15 zt_St_4) ?_
    show zz_D (zm_N_ahead, d + 9, 41, [some (.ref 1), some (.int x0), some (.int x1), some (.int x2), none], []) (zt_T L, zt_R, (w_S_copyFrom M 15 4), J, e) = _
    refine (zz_go 2 (fr' := (zm_N_ahead, d + 9, 44, [some (.ref 1), some (.int x0), some (.int x1), some (.int x2), some (.int (0 : Int32))], [])) (h' := (zt_T L, zt_R, (w_S_copyFrom M 15 4), J, e)) (fun _ => rfl)).trans ?_
    obtain ⟨k9, k10⟩ := k8
    refine zf_forD (X := fun (i1 : Nat) (a1 : zMem) => zz_D (zm_N_ahead, d + 9, 44, [some (.ref 1), some (.int x0), some (.int x1), some (.int x2), some (.int (Int32.ofNat i1))], []) (zt_T L, zt_R, a1, J, e)) (f := (f_N_ahead_1 M x0 x1 x2)) (a := (w_S_copyFrom M 15 4)) x1.toNatClampNeg (fun i1 hi1 => ?_) ?_
    · intro hx11
      have k12 := k9 i1 hi1
      generalize zf_for i1 (f_N_ahead_1 M x0 x1 x2) (w_S_copyFrom M 15 4) = a1 at hx11 k12 ⊢
      show zz_D (zm_N_ahead, d + 9, 44, [some (.ref 1), some (.int x0), some (.int x1), some (.int x2), some (.int (Int32.ofNat i1))], []) (zt_T L, zt_R, a1, J, e) = _
      unfold kb_N_ahead_1 at k12
      refine (zz_go 2 (fr' := (zm_N_ahead, d + 9, 47, [some (.ref 1), some (.int x0), some (.int x1), some (.int x2), some (.int (Int32.ofNat i1))], [.int x1, .int (Int32.ofNat i1)])) (h' := (zt_T L, zt_R, a1, J, e)) (fun _ => rfl)).trans ?_
      refine zc_geF rfl (zi_lt hi1) ?_
      refine (zz_go 1 (fr' := (zm_N_ahead, d + 9, 51, [some (.ref 1), some (.int x0), some (.int x1), some (.int x2), some (.int (Int32.ofNat i1))], [.ref 1])) (h' := (zt_T L, zt_R, a1, J, e)) (fun _ => rfl)).trans ?_
      refine zl_getR rfl rfl rfl ?_
      refine (zz_go 1 (fr' := (zm_N_ahead, d + 9, 55, [some (.ref 1), some (.int x0), some (.int x1), some (.int x2), some (.int (Int32.ofNat i1))], [.ref 1, .ref 15])) (h' := (zt_T L, zt_R, a1, J, e)) (fun _ => rfl)).trans ?_
      refine zl_getR rfl rfl rfl ?_
      have g13 : ok_S_passYearAhead a1 15 := k12
      refine zl_vt (d := d + 8) rfl rfl rfl rfl rfl rfl rfl rfl rfl rfl (s_S_passYearAhead L e J (d + 2) a1 15 zt_St_15 g13) ?_
      show zz_D (zm_N_ahead, d + 9, 61, [some (.ref 1), some (.int x0), some (.int x1), some (.int x2), some (.int (Int32.ofNat i1))], []) (zt_T L, zt_R, (w_S_passYearAhead a1 15), J, e) = _
      refine (zz_go 2 (fr' := (zm_N_ahead, d + 9, 44, [some (.ref 1), some (.int x0), some (.int x1), some (.int x2), some (.int (Int32.ofNat i1 + 1))], [])) (h' := (zt_T L, zt_R, (w_S_passYearAhead a1 15), J, e)) (fun _ => rfl)).trans ?_
      rw [zi_succ i1]
      exact hx11
    show zz_D (zm_N_ahead, d + 9, 44, [some (.ref 1), some (.int x0), some (.int x1), some (.int x2), some (.int (Int32.ofNat x1.toNatClampNeg))], []) (zt_T L, zt_R, (zf_for x1.toNatClampNeg (f_N_ahead_1 M x0 x1 x2) (w_S_copyFrom M 15 4)), J, e) = _
    refine (zz_go 2 (fr' := (zm_N_ahead, d + 9, 47, [some (.ref 1), some (.int x0), some (.int x1), some (.int x2), some (.int (Int32.ofNat x1.toNatClampNeg))], [.int x1, .int (Int32.ofNat x1.toNatClampNeg)])) (h' := (zt_T L, zt_R, (zf_for x1.toNatClampNeg (f_N_ahead_1 M x0 x1 x2) (w_S_copyFrom M 15 4)), J, e)) (fun _ => rfl)).trans ?_
    refine zc_geT rfl (zi_ge _) ?_
    refine zz_weak (L := [some (.ref 1), some (.int x0), none, some (.int x2), none]) ⟨Or.inl rfl, Or.inl rfl, Or.inr ⟨rfl, rfl⟩, Or.inl rfl, Or.inr ⟨rfl, rfl⟩, trivial⟩ ?_
    refine zz_jn (X := zz_D (zm_N_ahead, d + 9, 92, [none, none, none, none, none], [.int (bif (decide (x2 = 0)) then ((zf_for x1.toNatClampNeg (f_N_ahead_1 M x0 x1 x2) (w_S_copyFrom M 15 4)) 21 (x0).toNatClampNeg) else ((zf_for x1.toNatClampNeg (f_N_ahead_1 M x0 x1 x2) (w_S_copyFrom M 15 4)) 23 (x0).toNatClampNeg))]) (zt_T L, zt_R, (zf_for x1.toNatClampNeg (f_N_ahead_1 M x0 x1 x2) (w_S_copyFrom M 15 4)), J, e)) (fun j14 => ?_) ?_
    · obtain ⟨k16, k17⟩ := k10
      refine (zz_go 1 (fr' := (zm_N_ahead, d + 9, 68, [some (.ref 1), some (.int x0), none, some (.int x2), none], [.int x2])) (h' := (zt_T L, zt_R, (zf_for x1.toNatClampNeg (f_N_ahead_1 M x0 x1 x2) (w_S_copyFrom M 15 4)), J, e)) (fun _ => rfl)).trans ?_
      rcases zz_bc (decide (x2 = 0)) with h15 | h15
      · refine zo_neT rfl h15 ?_
        have k18 := k16 h15
        refine (zz_go 1 (fr' := (zm_N_ahead, d + 9, 72, [some (.ref 1), some (.int x0), none, some (.int x2), none], [.ref 1])) (h' := (zt_T L, zt_R, (zf_for x1.toNatClampNeg (f_N_ahead_1 M x0 x1 x2) (w_S_copyFrom M 15 4)), J, e)) (fun _ => rfl)).trans ?_
        refine zl_getR rfl rfl rfl ?_
        refine zl_getR rfl rfl rfl ?_
        refine (zz_go 1 (fr' := (zm_N_ahead, d + 9, 79, [some (.ref 1), some (.int x0), none, some (.int x2), none], [.int x0, .ref 21])) (h' := (zt_T L, zt_R, (zf_for x1.toNatClampNeg (f_N_ahead_1 M x0 x1 x2) (w_S_copyFrom M 15 4)), J, e)) (fun _ => rfl)).trans ?_
        have g19 : zz_in x0 6 = true := k18
        refine zl_iaload rfl rfl g19 rfl ?_
        refine (zz_go 1 (fr' := (zm_N_ahead, d + 9, 92, [some (.ref 1), some (.int x0), none, some (.int x2), none], [.int ((zf_for x1.toNatClampNeg (f_N_ahead_1 M x0 x1 x2) (w_S_copyFrom M 15 4)) 21 (x0).toNatClampNeg)])) (h' := (zt_T L, zt_R, (zf_for x1.toNatClampNeg (f_N_ahead_1 M x0 x1 x2) (w_S_copyFrom M 15 4)), J, e)) (fun _ => rfl)).trans ?_
        refine zz_weak (L := [none, none, none, none, none]) ⟨Or.inr ⟨rfl, rfl⟩, Or.inr ⟨rfl, rfl⟩, Or.inl rfl, Or.inr ⟨rfl, rfl⟩, Or.inl rfl, trivial⟩ ?_
        simpa only [h15, zk_t, zk_f, zb_t, zb_f] using j14
      · refine zo_neF rfl h15 ?_
        have k20 := k17 h15
        refine (zz_go 1 (fr' := (zm_N_ahead, d + 9, 84, [some (.ref 1), some (.int x0), none, some (.int x2), none], [.ref 1])) (h' := (zt_T L, zt_R, (zf_for x1.toNatClampNeg (f_N_ahead_1 M x0 x1 x2) (w_S_copyFrom M 15 4)), J, e)) (fun _ => rfl)).trans ?_
        refine zl_getR rfl rfl rfl ?_
        refine zl_getR rfl rfl rfl ?_
        refine (zz_go 1 (fr' := (zm_N_ahead, d + 9, 91, [some (.ref 1), some (.int x0), none, some (.int x2), none], [.int x0, .ref 23])) (h' := (zt_T L, zt_R, (zf_for x1.toNatClampNeg (f_N_ahead_1 M x0 x1 x2) (w_S_copyFrom M 15 4)), J, e)) (fun _ => rfl)).trans ?_
        have g21 : zz_in x0 6 = true := k20
        refine zl_iaload rfl rfl g21 rfl ?_
        refine zz_weak (L := [none, none, none, none, none]) ⟨Or.inr ⟨rfl, rfl⟩, Or.inr ⟨rfl, rfl⟩, Or.inl rfl, Or.inr ⟨rfl, rfl⟩, Or.inl rfl, trivial⟩ ?_
        simpa only [h15, zk_t, zk_f, zb_t, zb_f] using j14
    refine zl_retI rfl rfl ?_
    first | (simp only [h1, h3, h5, zk_t, zk_f, zb_t, zb_f]; done) | (simp only [h1, h3, h5, zk_t, zk_f, zb_t, zb_f]; rfl) | rfl
  · refine zo_eqF rfl h5 ?_
    have k22 := k7 h5
    refine (zz_go 2 (fr' := (zm_N_ahead, d + 9, 17, [some (.ref 1), some (.int x0), some (.int x1), some (.int x2), none], [.int (1 : Int32), .int x2])) (h' := (zt_T L, zt_R, M, J, e)) (fun _ => rfl)).trans ?_
    rcases zz_bc (decide (x2 = (1 : Int32))) with h23 | h23
    · refine zc_eqT rfl h23 ?_
      have k24 := k22 h23
      refine (zz_go 1 (fr' := (zm_N_ahead, d + 9, 31, [some (.ref 1), some (.int x0), some (.int x1), some (.int x2), none], [.ref 1])) (h' := (zt_T L, zt_R, M, J, e)) (fun _ => rfl)).trans ?_
      refine zl_getR rfl rfl rfl ?_
      refine (zz_go 1 (fr' := (zm_N_ahead, d + 9, 35, [some (.ref 1), some (.int x0), some (.int x1), some (.int x2), none], [.ref 1, .ref 15])) (h' := (zt_T L, zt_R, M, J, e)) (fun _ => rfl)).trans ?_
      refine zl_getR rfl rfl rfl ?_
      refine zl_vt (d := d + 8) rfl rfl rfl rfl rfl rfl rfl rfl rfl rfl (s_S_copyFrom L e J (d + 0) M 15 4 zt_St_15 zt_St_4) ?_
      show zz_D (zm_N_ahead, d + 9, 41, [some (.ref 1), some (.int x0), some (.int x1), some (.int x2), none], []) (zt_T L, zt_R, (w_S_copyFrom M 15 4), J, e) = _
      refine (zz_go 2 (fr' := (zm_N_ahead, d + 9, 44, [some (.ref 1), some (.int x0), some (.int x1), some (.int x2), some (.int (0 : Int32))], [])) (h' := (zt_T L, zt_R, (w_S_copyFrom M 15 4), J, e)) (fun _ => rfl)).trans ?_
      obtain ⟨k25, k26⟩ := k24
      refine zf_forD (X := fun (i2 : Nat) (a2 : zMem) => zz_D (zm_N_ahead, d + 9, 44, [some (.ref 1), some (.int x0), some (.int x1), some (.int x2), some (.int (Int32.ofNat i2))], []) (zt_T L, zt_R, a2, J, e)) (f := (f_N_ahead_2 M x0 x1 x2)) (a := (w_S_copyFrom M 15 4)) x1.toNatClampNeg (fun i2 hi2 => ?_) ?_
      · intro hx27
        have k28 := k25 i2 hi2
        generalize zf_for i2 (f_N_ahead_2 M x0 x1 x2) (w_S_copyFrom M 15 4) = a2 at hx27 k28 ⊢
        show zz_D (zm_N_ahead, d + 9, 44, [some (.ref 1), some (.int x0), some (.int x1), some (.int x2), some (.int (Int32.ofNat i2))], []) (zt_T L, zt_R, a2, J, e) = _
        unfold kb_N_ahead_2 at k28
        refine (zz_go 2 (fr' := (zm_N_ahead, d + 9, 47, [some (.ref 1), some (.int x0), some (.int x1), some (.int x2), some (.int (Int32.ofNat i2))], [.int x1, .int (Int32.ofNat i2)])) (h' := (zt_T L, zt_R, a2, J, e)) (fun _ => rfl)).trans ?_
        refine zc_geF rfl (zi_lt hi2) ?_
        refine (zz_go 1 (fr' := (zm_N_ahead, d + 9, 51, [some (.ref 1), some (.int x0), some (.int x1), some (.int x2), some (.int (Int32.ofNat i2))], [.ref 1])) (h' := (zt_T L, zt_R, a2, J, e)) (fun _ => rfl)).trans ?_
        refine zl_getR rfl rfl rfl ?_
        refine (zz_go 1 (fr' := (zm_N_ahead, d + 9, 55, [some (.ref 1), some (.int x0), some (.int x1), some (.int x2), some (.int (Int32.ofNat i2))], [.ref 1, .ref 15])) (h' := (zt_T L, zt_R, a2, J, e)) (fun _ => rfl)).trans ?_
        refine zl_getR rfl rfl rfl ?_
        have g29 : ok_S_passYearAhead a2 15 := k28
        refine zl_vt (d := d + 8) rfl rfl rfl rfl rfl rfl rfl rfl rfl rfl (s_S_passYearAhead L e J (d + 2) a2 15 zt_St_15 g29) ?_
        show zz_D (zm_N_ahead, d + 9, 61, [some (.ref 1), some (.int x0), some (.int x1), some (.int x2), some (.int (Int32.ofNat i2))], []) (zt_T L, zt_R, (w_S_passYearAhead a2 15), J, e) = _
        refine (zz_go 2 (fr' := (zm_N_ahead, d + 9, 44, [some (.ref 1), some (.int x0), some (.int x1), some (.int x2), some (.int (Int32.ofNat i2 + 1))], [])) (h' := (zt_T L, zt_R, (w_S_passYearAhead a2 15), J, e)) (fun _ => rfl)).trans ?_
        rw [zi_succ i2]
        exact hx27
      show zz_D (zm_N_ahead, d + 9, 44, [some (.ref 1), some (.int x0), some (.int x1), some (.int x2), some (.int (Int32.ofNat x1.toNatClampNeg))], []) (zt_T L, zt_R, (zf_for x1.toNatClampNeg (f_N_ahead_2 M x0 x1 x2) (w_S_copyFrom M 15 4)), J, e) = _
      refine (zz_go 2 (fr' := (zm_N_ahead, d + 9, 47, [some (.ref 1), some (.int x0), some (.int x1), some (.int x2), some (.int (Int32.ofNat x1.toNatClampNeg))], [.int x1, .int (Int32.ofNat x1.toNatClampNeg)])) (h' := (zt_T L, zt_R, (zf_for x1.toNatClampNeg (f_N_ahead_2 M x0 x1 x2) (w_S_copyFrom M 15 4)), J, e)) (fun _ => rfl)).trans ?_
      refine zc_geT rfl (zi_ge _) ?_
      refine zz_weak (L := [some (.ref 1), some (.int x0), none, some (.int x2), none]) ⟨Or.inl rfl, Or.inl rfl, Or.inr ⟨rfl, rfl⟩, Or.inl rfl, Or.inr ⟨rfl, rfl⟩, trivial⟩ ?_
      refine zz_jn (X := zz_D (zm_N_ahead, d + 9, 92, [none, none, none, none, none], [.int (bif (decide (x2 = 0)) then ((zf_for x1.toNatClampNeg (f_N_ahead_2 M x0 x1 x2) (w_S_copyFrom M 15 4)) 21 (x0).toNatClampNeg) else ((zf_for x1.toNatClampNeg (f_N_ahead_2 M x0 x1 x2) (w_S_copyFrom M 15 4)) 23 (x0).toNatClampNeg))]) (zt_T L, zt_R, (zf_for x1.toNatClampNeg (f_N_ahead_2 M x0 x1 x2) (w_S_copyFrom M 15 4)), J, e)) (fun j30 => ?_) ?_
      · obtain ⟨k32, k33⟩ := k26
        refine (zz_go 1 (fr' := (zm_N_ahead, d + 9, 68, [some (.ref 1), some (.int x0), none, some (.int x2), none], [.int x2])) (h' := (zt_T L, zt_R, (zf_for x1.toNatClampNeg (f_N_ahead_2 M x0 x1 x2) (w_S_copyFrom M 15 4)), J, e)) (fun _ => rfl)).trans ?_
        rcases zz_bc (decide (x2 = 0)) with h31 | h31
        · refine zo_neT rfl h31 ?_
          have k34 := k32 h31
          refine (zz_go 1 (fr' := (zm_N_ahead, d + 9, 72, [some (.ref 1), some (.int x0), none, some (.int x2), none], [.ref 1])) (h' := (zt_T L, zt_R, (zf_for x1.toNatClampNeg (f_N_ahead_2 M x0 x1 x2) (w_S_copyFrom M 15 4)), J, e)) (fun _ => rfl)).trans ?_
          refine zl_getR rfl rfl rfl ?_
          refine zl_getR rfl rfl rfl ?_
          refine (zz_go 1 (fr' := (zm_N_ahead, d + 9, 79, [some (.ref 1), some (.int x0), none, some (.int x2), none], [.int x0, .ref 21])) (h' := (zt_T L, zt_R, (zf_for x1.toNatClampNeg (f_N_ahead_2 M x0 x1 x2) (w_S_copyFrom M 15 4)), J, e)) (fun _ => rfl)).trans ?_
          have g35 : zz_in x0 6 = true := k34
          refine zl_iaload rfl rfl g35 rfl ?_
          refine (zz_go 1 (fr' := (zm_N_ahead, d + 9, 92, [some (.ref 1), some (.int x0), none, some (.int x2), none], [.int ((zf_for x1.toNatClampNeg (f_N_ahead_2 M x0 x1 x2) (w_S_copyFrom M 15 4)) 21 (x0).toNatClampNeg)])) (h' := (zt_T L, zt_R, (zf_for x1.toNatClampNeg (f_N_ahead_2 M x0 x1 x2) (w_S_copyFrom M 15 4)), J, e)) (fun _ => rfl)).trans ?_
          refine zz_weak (L := [none, none, none, none, none]) ⟨Or.inr ⟨rfl, rfl⟩, Or.inr ⟨rfl, rfl⟩, Or.inl rfl, Or.inr ⟨rfl, rfl⟩, Or.inl rfl, trivial⟩ ?_
          simpa only [h31, zk_t, zk_f, zb_t, zb_f] using j30
        · refine zo_neF rfl h31 ?_
          have k36 := k33 h31
          refine (zz_go 1 (fr' := (zm_N_ahead, d + 9, 84, [some (.ref 1), some (.int x0), none, some (.int x2), none], [.ref 1])) (h' := (zt_T L, zt_R, (zf_for x1.toNatClampNeg (f_N_ahead_2 M x0 x1 x2) (w_S_copyFrom M 15 4)), J, e)) (fun _ => rfl)).trans ?_
          refine zl_getR rfl rfl rfl ?_
          refine zl_getR rfl rfl rfl ?_
          refine (zz_go 1 (fr' := (zm_N_ahead, d + 9, 91, [some (.ref 1), some (.int x0), none, some (.int x2), none], [.int x0, .ref 23])) (h' := (zt_T L, zt_R, (zf_for x1.toNatClampNeg (f_N_ahead_2 M x0 x1 x2) (w_S_copyFrom M 15 4)), J, e)) (fun _ => rfl)).trans ?_
          have g37 : zz_in x0 6 = true := k36
          refine zl_iaload rfl rfl g37 rfl ?_
          refine zz_weak (L := [none, none, none, none, none]) ⟨Or.inr ⟨rfl, rfl⟩, Or.inr ⟨rfl, rfl⟩, Or.inl rfl, Or.inr ⟨rfl, rfl⟩, Or.inl rfl, trivial⟩ ?_
          simpa only [h31, zk_t, zk_f, zb_t, zb_f] using j30
      refine zl_retI rfl rfl ?_
      first | (simp only [h1, h3, h5, h23, zk_t, zk_f, zb_t, zb_f]; done) | (simp only [h1, h3, h5, h23, zk_t, zk_f, zb_t, zb_f]; rfl) | rfl
    · refine zc_eqF rfl h23 ?_
      refine zl_throw rfl rfl rfl ?_
      first | (simp only [h1, h3, h5, h23, zk_t, zk_f, zb_t, zb_f]; done) | (simp only [h1, h3, h5, h23, zk_t, zk_f, zb_t, zb_f]; rfl) | rfl
def f_N_tryYears_1 (M : zMem) (x0 : Int32) (x1 : Int32) (i1 : Nat) (a1 : zMem) : zMem := (w_S_passYear a1 15)
def kb_N_tryYears_1 (M : zMem) (x0 : Int32) (x1 : Int32) (i1 : Nat) (a1 : zMem) : Prop := ok_S_passYear a1 15
def w_N_tryYears (M : zMem) (x0 : Int32) (x1 : Int32) : zMem := (zf_for x0.toNatClampNeg (f_N_tryYears_1 M x0 x1) (zz_up (w_S_copyFrom M 15 4) 15 14 x1))
def ok_N_tryYears (M : zMem) (x0 : Int32) (x1 : Int32) : Prop := (∀ i1, i1 < x0.toNatClampNeg → kb_N_tryYears_1 M x0 x1 i1 (zf_for i1 (f_N_tryYears_1 M x0 x1) (zz_up (w_S_copyFrom M 15 4) 15 14 x1)))
set_option maxRecDepth 20000 in
set_option maxHeartbeats 2000000 in
theorem s_N_tryYears (L e : Nat) (J : zJem) (d : Nat) (M : zMem) (x0 : Int32) (x1 : Int32) (k0 : ok_N_tryYears M x0 x1) : zz_D (zm_N_tryYears, d + 9, 0, [some (.ref 1), some (.int x0), some (.int x1), none], []) (zt_T L, zt_R, M, J, e) = some (.inl (none), (zt_T L, zt_R, (w_N_tryYears M x0 x1), J, e)) := by
  unfold ok_N_tryYears at k0
  unfold w_N_tryYears
  refine (zz_go 1 (fr' := (zm_N_tryYears, d + 9, 1, [some (.ref 1), some (.int x0), some (.int x1), none], [.ref 1])) (h' := (zt_T L, zt_R, M, J, e)) (fun _ => rfl)).trans ?_
  refine zl_getR rfl rfl rfl ?_
  refine (zz_go 1 (fr' := (zm_N_tryYears, d + 9, 5, [some (.ref 1), some (.int x0), some (.int x1), none], [.ref 1, .ref 15])) (h' := (zt_T L, zt_R, M, J, e)) (fun _ => rfl)).trans ?_
  refine zl_getR rfl rfl rfl ?_
  refine zl_vt (d := d + 8) rfl rfl rfl rfl rfl rfl rfl rfl rfl rfl (s_S_copyFrom L e J (d + 0) M 15 4 zt_St_15 zt_St_4) ?_
  show zz_D (zm_N_tryYears, d + 9, 11, [some (.ref 1), some (.int x0), some (.int x1), none], []) (zt_T L, zt_R, (w_S_copyFrom M 15 4), J, e) = _
  refine (zz_go 1 (fr' := (zm_N_tryYears, d + 9, 12, [some (.ref 1), some (.int x0), some (.int x1), none], [.ref 1])) (h' := (zt_T L, zt_R, (w_S_copyFrom M 15 4), J, e)) (fun _ => rfl)).trans ?_
  refine zl_getR rfl rfl rfl ?_
  refine (zz_go 1 (fr' := (zm_N_tryYears, d + 9, 16, [some (.ref 1), some (.int x0), some (.int x1), none], [.int x1, .ref 15])) (h' := (zt_T L, zt_R, (w_S_copyFrom M 15 4), J, e)) (fun _ => rfl)).trans ?_
  refine zl_putI rfl rfl rfl rfl ?_
  refine (zz_go 2 (fr' := (zm_N_tryYears, d + 9, 21, [some (.ref 1), some (.int x0), some (.int x1), some (.int (0 : Int32))], [])) (h' := (zt_T L, zt_R, (zz_up (w_S_copyFrom M 15 4) 15 14 x1), J, e)) (fun _ => rfl)).trans ?_
  refine zz_weak (L := [some (.ref 1), some (.int x0), none, some (.int (0 : Int32))]) ⟨Or.inl rfl, Or.inl rfl, Or.inr ⟨rfl, rfl⟩, Or.inl rfl, trivial⟩ ?_
  refine zf_forD (X := fun (i1 : Nat) (a1 : zMem) => zz_D (zm_N_tryYears, d + 9, 21, [some (.ref 1), some (.int x0), none, some (.int (Int32.ofNat i1))], []) (zt_T L, zt_R, a1, J, e)) (f := (f_N_tryYears_1 M x0 x1)) (a := (zz_up (w_S_copyFrom M 15 4) 15 14 x1)) x0.toNatClampNeg (fun i1 hi1 => ?_) ?_
  · intro hx1
    have k2 := k0 i1 hi1
    generalize zf_for i1 (f_N_tryYears_1 M x0 x1) (zz_up (w_S_copyFrom M 15 4) 15 14 x1) = a1 at hx1 k2 ⊢
    show zz_D (zm_N_tryYears, d + 9, 21, [some (.ref 1), some (.int x0), none, some (.int (Int32.ofNat i1))], []) (zt_T L, zt_R, a1, J, e) = _
    unfold kb_N_tryYears_1 at k2
    refine (zz_go 2 (fr' := (zm_N_tryYears, d + 9, 23, [some (.ref 1), some (.int x0), none, some (.int (Int32.ofNat i1))], [.int x0, .int (Int32.ofNat i1)])) (h' := (zt_T L, zt_R, a1, J, e)) (fun _ => rfl)).trans ?_
    refine zc_geF rfl (zi_lt hi1) ?_
    refine (zz_go 1 (fr' := (zm_N_tryYears, d + 9, 27, [some (.ref 1), some (.int x0), none, some (.int (Int32.ofNat i1))], [.ref 1])) (h' := (zt_T L, zt_R, a1, J, e)) (fun _ => rfl)).trans ?_
    refine zl_getR rfl rfl rfl ?_
    refine (zz_go 1 (fr' := (zm_N_tryYears, d + 9, 31, [some (.ref 1), some (.int x0), none, some (.int (Int32.ofNat i1))], [.ref 1, .ref 15])) (h' := (zt_T L, zt_R, a1, J, e)) (fun _ => rfl)).trans ?_
    refine zl_getR rfl rfl rfl ?_
    have g3 : ok_S_passYear a1 15 := k2
    refine zl_vt (d := d + 8) rfl rfl rfl rfl rfl rfl rfl rfl rfl rfl (s_S_passYear L e J (d + 2) a1 15 zt_St_15 g3) ?_
    show zz_D (zm_N_tryYears, d + 9, 37, [some (.ref 1), some (.int x0), none, some (.int (Int32.ofNat i1))], [.int (v_S_passYear a1 15)]) (zt_T L, zt_R, (w_S_passYear a1 15), J, e) = _
    refine (zz_go 3 (fr' := (zm_N_tryYears, d + 9, 21, [some (.ref 1), some (.int x0), none, some (.int (Int32.ofNat i1 + 1))], [])) (h' := (zt_T L, zt_R, (w_S_passYear a1 15), J, e)) (fun _ => rfl)).trans ?_
    rw [zi_succ i1]
    exact hx1
  show zz_D (zm_N_tryYears, d + 9, 21, [some (.ref 1), some (.int x0), none, some (.int (Int32.ofNat x0.toNatClampNeg))], []) (zt_T L, zt_R, (zf_for x0.toNatClampNeg (f_N_tryYears_1 M x0 x1) (zz_up (w_S_copyFrom M 15 4) 15 14 x1)), J, e) = _
  refine (zz_go 2 (fr' := (zm_N_tryYears, d + 9, 23, [some (.ref 1), some (.int x0), none, some (.int (Int32.ofNat x0.toNatClampNeg))], [.int x0, .int (Int32.ofNat x0.toNatClampNeg)])) (h' := (zt_T L, zt_R, (zf_for x0.toNatClampNeg (f_N_tryYears_1 M x0 x1) (zz_up (w_S_copyFrom M 15 4) 15 14 x1)), J, e)) (fun _ => rfl)).trans ?_
  refine zc_geT rfl (zi_ge _) ?_
  refine zz_weak (L := [none, none, none, none]) ⟨Or.inr ⟨rfl, rfl⟩, Or.inr ⟨rfl, rfl⟩, Or.inl rfl, Or.inr ⟨rfl, rfl⟩, trivial⟩ ?_
  refine (zz_end 1 (r := (.inl none, (zt_T L, zt_R, (zf_for x0.toNatClampNeg (f_N_tryYears_1 M x0 x1) (zz_up (w_S_copyFrom M 15 4) 15 14 x1)), J, e))) (fun _ => rfl)).trans ?_
  rfl
def v_N_trial (M : zMem) (x0 : Int32) (b1 : Bool) : Int32 := (bif Nat.beq (t_N_needYears x0 (60 : Int32)) 0 then (bif b1 then (v_S_fameOfAll (w_N_tryYears M x0 (M 4 14)) 15) else (v_S_deedsOfAll (w_N_tryYears M x0 (M 4 14)) 15)) else 0)
def w_N_trial (M : zMem) (x0 : Int32) (b1 : Bool) : zMem := (bif Nat.beq (t_N_needYears x0 (60 : Int32)) 0 then (w_N_tryYears M x0 (M 4 14)) else M)
def t_N_trial (M : zMem) (x0 : Int32) (b1 : Bool) : Nat := (bif Nat.beq (t_N_needYears x0 (60 : Int32)) 0 then 0 else (t_N_needYears x0 (60 : Int32)))
def ok_N_trial (M : zMem) (x0 : Int32) (b1 : Bool) : Prop := (Nat.beq (t_N_needYears x0 (60 : Int32)) 0 = true → (ok_N_tryYears M x0 (M 4 14) ∧ ((b1 = true → ok_S_fameOfAll (w_N_tryYears M x0 (M 4 14)) 15) ∧ (b1 = false → ok_S_deedsOfAll (w_N_tryYears M x0 (M 4 14)) 15))))
set_option maxRecDepth 20000 in
set_option maxHeartbeats 2000000 in
theorem s_N_trial (L e : Nat) (J : zJem) (d : Nat) (M : zMem) (x0 : Int32) (b1 : Bool) (k0 : ok_N_trial M x0 b1) : zz_D (zm_N_trial, d + 10, 0, [some (.ref 1), some (.int x0), some (.int (zb b1))], []) (zt_T L, zt_R, M, J, e) = some (zx_o (t_N_trial M x0 b1) (some (.int (v_N_trial M x0 b1))), (zt_T L, zt_R, (w_N_trial M x0 b1), J, zx_e (t_N_trial M x0 b1) e)) := by
  unfold ok_N_trial at k0
  unfold v_N_trial w_N_trial t_N_trial
  refine (zz_go 2 (fr' := (zm_N_trial, d + 10, 3, [some (.ref 1), some (.int x0), some (.int (zb b1))], [.int (60 : Int32), .int x0])) (h' := (zt_T L, zt_R, M, J, e)) (fun _ => rfl)).trans ?_
  refine zl_st (d := d + 9) rfl rfl rfl rfl rfl rfl rfl (s_N_needYears L e J (d + 1) x0 (60 : Int32)) ?_
  refine zl_aftV rfl (fun h1 => ?_) (fun h1 => ?_)
  rotate_left 1
  · skip
    rw [zx_oe h1 (some (.int 0))]
    first | (simp only [h1, zk_t, zk_f, zb_t, zb_f]; done) | (simp only [h1, zk_t, zk_f, zb_t, zb_f]; rfl) | rfl
  have k2 := k0 h1
  show zz_D (zm_N_trial, d + 10, 6, [some (.ref 1), some (.int x0), some (.int (zb b1))], []) (zt_T L, zt_R, M, J, e) = _
  refine (zz_go 3 (fr' := (zm_N_trial, d + 10, 9, [some (.ref 1), some (.int x0), some (.int (zb b1))], [.ref 1, .int x0, .ref 1])) (h' := (zt_T L, zt_R, M, J, e)) (fun _ => rfl)).trans ?_
  refine zl_getR rfl rfl rfl ?_
  refine zl_getI rfl (by decide) rfl rfl ?_
  obtain ⟨g3, k4⟩ := k2
  refine zl_vt (d := d + 9) rfl rfl rfl rfl rfl rfl rfl rfl rfl rfl (s_N_tryYears L e J (d + 0) M x0 (M 4 14) g3) ?_
  show zz_D (zm_N_trial, d + 10, 18, [some (.ref 1), some (.int x0), some (.int (zb b1))], []) (zt_T L, zt_R, (w_N_tryYears M x0 (M 4 14)), J, e) = _
  refine zz_jn (X := zz_D (zm_N_trial, d + 10, 39, [none, none, none], [.int (bif b1 then (v_S_fameOfAll (w_N_tryYears M x0 (M 4 14)) 15) else (v_S_deedsOfAll (w_N_tryYears M x0 (M 4 14)) 15))]) (zt_T L, zt_R, (w_N_tryYears M x0 (M 4 14)), J, e)) (fun j5 => ?_) ?_
  · obtain ⟨k7, k8⟩ := k4
    refine (zz_go 1 (fr' := (zm_N_trial, d + 10, 19, [some (.ref 1), some (.int x0), some (.int (zb b1))], [.int (zb b1)])) (h' := (zt_T L, zt_R, (w_N_tryYears M x0 (M 4 14)), J, e)) (fun _ => rfl)).trans ?_
    rcases zz_bc b1 with h6 | h6
    · refine zq_eT rfl h6 ?_
      have k9 := k7 h6
      refine (zz_go 1 (fr' := (zm_N_trial, d + 10, 23, [some (.ref 1), some (.int x0), some (.int (zb b1))], [.ref 1])) (h' := (zt_T L, zt_R, (w_N_tryYears M x0 (M 4 14)), J, e)) (fun _ => rfl)).trans ?_
      refine zl_getR rfl rfl rfl ?_
      have g10 : ok_S_fameOfAll (w_N_tryYears M x0 (M 4 14)) 15 := k9
      refine zl_vt (d := d + 9) rfl rfl rfl rfl rfl rfl rfl rfl rfl rfl (s_S_fameOfAll L e J (d + 8) (w_N_tryYears M x0 (M 4 14)) 15 zt_St_15 g10) ?_
      show zz_D (zm_N_trial, d + 10, 29, [some (.ref 1), some (.int x0), some (.int (zb b1))], [.int (v_S_fameOfAll (w_N_tryYears M x0 (M 4 14)) 15)]) (zt_T L, zt_R, (w_N_tryYears M x0 (M 4 14)), J, e) = _
      refine (zz_go 1 (fr' := (zm_N_trial, d + 10, 39, [some (.ref 1), some (.int x0), some (.int (zb b1))], [.int (v_S_fameOfAll (w_N_tryYears M x0 (M 4 14)) 15)])) (h' := (zt_T L, zt_R, (w_N_tryYears M x0 (M 4 14)), J, e)) (fun _ => rfl)).trans ?_
      refine zz_weak (L := [none, none, none]) ⟨Or.inr ⟨rfl, rfl⟩, Or.inr ⟨rfl, rfl⟩, Or.inr ⟨rfl, rfl⟩, trivial⟩ ?_
      simpa only [h6, zk_t, zk_f, zb_t, zb_f] using j5
    · refine zq_eF rfl h6 ?_
      have k11 := k8 h6
      refine (zz_go 1 (fr' := (zm_N_trial, d + 10, 33, [some (.ref 1), some (.int x0), some (.int (zb b1))], [.ref 1])) (h' := (zt_T L, zt_R, (w_N_tryYears M x0 (M 4 14)), J, e)) (fun _ => rfl)).trans ?_
      refine zl_getR rfl rfl rfl ?_
      have g12 : ok_S_deedsOfAll (w_N_tryYears M x0 (M 4 14)) 15 := k11
      refine zl_vt (d := d + 9) rfl rfl rfl rfl rfl rfl rfl rfl rfl rfl (s_S_deedsOfAll L e J (d + 6) (w_N_tryYears M x0 (M 4 14)) 15 zt_St_15 g12) ?_
      show zz_D (zm_N_trial, d + 10, 39, [some (.ref 1), some (.int x0), some (.int (zb b1))], [.int (v_S_deedsOfAll (w_N_tryYears M x0 (M 4 14)) 15)]) (zt_T L, zt_R, (w_N_tryYears M x0 (M 4 14)), J, e) = _
      refine zz_weak (L := [none, none, none]) ⟨Or.inr ⟨rfl, rfl⟩, Or.inr ⟨rfl, rfl⟩, Or.inr ⟨rfl, rfl⟩, trivial⟩ ?_
      simpa only [h6, zk_t, zk_f, zb_t, zb_f] using j5
  refine zl_retI rfl rfl ?_
  first | (simp only [h1, zk_t, zk_f, zb_t, zb_f]; done) | (simp only [h1, zk_t, zk_f, zb_t, zb_f]; rfl) | rfl
def f_N_span_1 (M : zMem) (x0 : Int32) (b1 : Bool) (i1 : Nat) (a1 : Int32 × zMem) : Int32 × zMem := ((bif (decide (a1.1 = (-1 : Int32))) then (v_S_deedsOfAll (w_N_tryYears a1.2 x0 (Int32.ofNat (i1 + 1))) 15) else (bif b1 then (bif (decide ((v_S_deedsOfAll (w_N_tryYears a1.2 x0 (Int32.ofNat (i1 + 1))) 15) ≤ a1.1)) then a1.1 else (v_S_deedsOfAll (w_N_tryYears a1.2 x0 (Int32.ofNat (i1 + 1))) 15)) else (bif (decide (a1.1 ≤ (v_S_deedsOfAll (w_N_tryYears a1.2 x0 (Int32.ofNat (i1 + 1))) 15))) then a1.1 else (v_S_deedsOfAll (w_N_tryYears a1.2 x0 (Int32.ofNat (i1 + 1))) 15)))), (w_N_tryYears a1.2 x0 (Int32.ofNat (i1 + 1))))
def kb_N_span_1 (M : zMem) (x0 : Int32) (b1 : Bool) (i1 : Nat) (a1 : Int32 × zMem) : Prop := (ok_N_tryYears a1.2 x0 (Int32.ofNat (i1 + 1)) ∧ ok_S_deedsOfAll (w_N_tryYears a1.2 x0 (Int32.ofNat (i1 + 1))) 15)
def v_N_span (M : zMem) (x0 : Int32) (b1 : Bool) : Int32 := (bif Nat.beq (t_N_needYears x0 (60 : Int32)) 0 then (zf_for 6 (f_N_span_1 M x0 b1) ((-1 : Int32), M)).1 else 0)
def w_N_span (M : zMem) (x0 : Int32) (b1 : Bool) : zMem := (bif Nat.beq (t_N_needYears x0 (60 : Int32)) 0 then (zf_for 6 (f_N_span_1 M x0 b1) ((-1 : Int32), M)).2 else M)
def t_N_span (M : zMem) (x0 : Int32) (b1 : Bool) : Nat := (bif Nat.beq (t_N_needYears x0 (60 : Int32)) 0 then 0 else (t_N_needYears x0 (60 : Int32)))
def ok_N_span (M : zMem) (x0 : Int32) (b1 : Bool) : Prop := (Nat.beq (t_N_needYears x0 (60 : Int32)) 0 = true → (∀ i1, i1 < 6 → kb_N_span_1 M x0 b1 i1 (zf_for i1 (f_N_span_1 M x0 b1) ((-1 : Int32), M))))
set_option maxRecDepth 20000 in
set_option maxHeartbeats 2000000 in
theorem s_N_span (L e : Nat) (J : zJem) (d : Nat) (M : zMem) (x0 : Int32) (b1 : Bool) (k0 : ok_N_span M x0 b1) : zz_D (zm_N_span, d + 10, 0, [some (.ref 1), some (.int x0), some (.int (zb b1)), none, none, none], []) (zt_T L, zt_R, M, J, e) = some (zx_o (t_N_span M x0 b1) (some (.int (v_N_span M x0 b1))), (zt_T L, zt_R, (w_N_span M x0 b1), J, zx_e (t_N_span M x0 b1) e)) := by
  unfold ok_N_span at k0
  unfold v_N_span w_N_span t_N_span
  refine (zz_go 2 (fr' := (zm_N_span, d + 10, 3, [some (.ref 1), some (.int x0), some (.int (zb b1)), none, none, none], [.int (60 : Int32), .int x0])) (h' := (zt_T L, zt_R, M, J, e)) (fun _ => rfl)).trans ?_
  refine zl_st (d := d + 9) rfl rfl rfl rfl rfl rfl rfl (s_N_needYears L e J (d + 1) x0 (60 : Int32)) ?_
  refine zl_aftV rfl (fun h1 => ?_) (fun h1 => ?_)
  rotate_left 1
  · skip
    rw [zx_oe h1 (some (.int 0))]
    first | (simp only [h1, zk_t, zk_f, zb_t, zb_f]; done) | (simp only [h1, zk_t, zk_f, zb_t, zb_f]; rfl) | rfl
  have k2 := k0 h1
  show zz_D (zm_N_span, d + 10, 6, [some (.ref 1), some (.int x0), some (.int (zb b1)), none, none, none], []) (zt_T L, zt_R, M, J, e) = _
  refine (zz_go 4 (fr' := (zm_N_span, d + 10, 11, [some (.ref 1), some (.int x0), some (.int (zb b1)), some (.int (-1 : Int32)), some (.int (1 : Int32)), none], [])) (h' := (zt_T L, zt_R, M, J, e)) (fun _ => rfl)).trans ?_
  refine zf_forD (X := fun (i1 : Nat) (a1 : Int32 × zMem) => zz_D (zm_N_span, d + 10, 11, [some (.ref 1), some (.int x0), some (.int (zb b1)), some (.int a1.1), some (.int (Int32.ofNat (i1 + 1))), none], []) (zt_T L, zt_R, a1.2, J, e)) (f := (f_N_span_1 M x0 b1)) (a := ((-1 : Int32), M)) 6 (fun i1 hi1 => ?_) ?_
  · intro hx3
    have k4 := k2 i1 hi1
    generalize zf_for i1 (f_N_span_1 M x0 b1) ((-1 : Int32), M) = a1 at hx3 k4 ⊢
    show zz_D (zm_N_span, d + 10, 11, [some (.ref 1), some (.int x0), some (.int (zb b1)), some (.int a1.1), some (.int (Int32.ofNat (i1 + 1))), none], []) (zt_T L, zt_R, a1.2, J, e) = _
    unfold kb_N_span_1 at k4
    refine (zz_go 2 (fr' := (zm_N_span, d + 10, 15, [some (.ref 1), some (.int x0), some (.int (zb b1)), some (.int a1.1), some (.int (Int32.ofNat (i1 + 1))), none], [.int (6 : Int32), .int (Int32.ofNat (i1 + 1))])) (h' := (zt_T L, zt_R, a1.2, J, e)) (fun _ => rfl)).trans ?_
    refine zc_gtF rfl (zi_gtc (n := 6) (by omega) (by decide) (by decide)) ?_
    refine (zz_go 3 (fr' := (zm_N_span, d + 10, 22, [some (.ref 1), some (.int x0), some (.int (zb b1)), some (.int a1.1), some (.int (Int32.ofNat (i1 + 1))), none], [.int (Int32.ofNat (i1 + 1)), .int x0, .ref 1])) (h' := (zt_T L, zt_R, a1.2, J, e)) (fun _ => rfl)).trans ?_
    obtain ⟨g5, k6⟩ := k4
    refine zl_vt (d := d + 9) rfl rfl rfl rfl rfl rfl rfl rfl rfl rfl (s_N_tryYears L e J (d + 0) a1.2 x0 (Int32.ofNat (i1 + 1)) g5) ?_
    show zz_D (zm_N_span, d + 10, 25, [some (.ref 1), some (.int x0), some (.int (zb b1)), some (.int a1.1), some (.int (Int32.ofNat (i1 + 1))), none], []) (zt_T L, zt_R, (w_N_tryYears a1.2 x0 (Int32.ofNat (i1 + 1))), J, e) = _
    refine (zz_go 1 (fr' := (zm_N_span, d + 10, 26, [some (.ref 1), some (.int x0), some (.int (zb b1)), some (.int a1.1), some (.int (Int32.ofNat (i1 + 1))), none], [.ref 1])) (h' := (zt_T L, zt_R, (w_N_tryYears a1.2 x0 (Int32.ofNat (i1 + 1))), J, e)) (fun _ => rfl)).trans ?_
    refine zl_getR rfl rfl rfl ?_
    have g7 : ok_S_deedsOfAll (w_N_tryYears a1.2 x0 (Int32.ofNat (i1 + 1))) 15 := k6
    refine zl_vt (d := d + 9) rfl rfl rfl rfl rfl rfl rfl rfl rfl rfl (s_S_deedsOfAll L e J (d + 6) (w_N_tryYears a1.2 x0 (Int32.ofNat (i1 + 1))) 15 zt_St_15 g7) ?_
    show zz_D (zm_N_span, d + 10, 32, [some (.ref 1), some (.int x0), some (.int (zb b1)), some (.int a1.1), some (.int (Int32.ofNat (i1 + 1))), none], [.int (v_S_deedsOfAll (w_N_tryYears a1.2 x0 (Int32.ofNat (i1 + 1))) 15)]) (zt_T L, zt_R, (w_N_tryYears a1.2 x0 (Int32.ofNat (i1 + 1))), J, e) = _
    refine zz_jn (X := zz_D (zm_N_span, d + 10, 61, [some (.ref 1), some (.int x0), some (.int (zb b1)), some (.int (bif (decide (a1.1 = (-1 : Int32))) then (v_S_deedsOfAll (w_N_tryYears a1.2 x0 (Int32.ofNat (i1 + 1))) 15) else (bif b1 then (bif (decide ((v_S_deedsOfAll (w_N_tryYears a1.2 x0 (Int32.ofNat (i1 + 1))) 15) ≤ a1.1)) then a1.1 else (v_S_deedsOfAll (w_N_tryYears a1.2 x0 (Int32.ofNat (i1 + 1))) 15)) else (bif (decide (a1.1 ≤ (v_S_deedsOfAll (w_N_tryYears a1.2 x0 (Int32.ofNat (i1 + 1))) 15))) then a1.1 else (v_S_deedsOfAll (w_N_tryYears a1.2 x0 (Int32.ofNat (i1 + 1))) 15))))), some (.int (Int32.ofNat (i1 + 1))), none], []) (zt_T L, zt_R, (w_N_tryYears a1.2 x0 (Int32.ofNat (i1 + 1))), J, e)) (fun j8 => ?_) ?_
    · refine (zz_go 3 (fr' := (zm_N_span, d + 10, 36, [some (.ref 1), some (.int x0), some (.int (zb b1)), some (.int a1.1), some (.int (Int32.ofNat (i1 + 1))), some (.int (v_S_deedsOfAll (w_N_tryYears a1.2 x0 (Int32.ofNat (i1 + 1))) 15))], [.int (-1 : Int32), .int a1.1])) (h' := (zt_T L, zt_R, (w_N_tryYears a1.2 x0 (Int32.ofNat (i1 + 1))), J, e)) (fun _ => rfl)).trans ?_
      rcases zz_bc (decide (a1.1 = (-1 : Int32))) with h9 | h9
      · refine zc_eqT rfl h9 ?_
        refine (zz_go 2 (fr' := (zm_N_span, d + 10, 61, [some (.ref 1), some (.int x0), some (.int (zb b1)), some (.int (v_S_deedsOfAll (w_N_tryYears a1.2 x0 (Int32.ofNat (i1 + 1))) 15)), some (.int (Int32.ofNat (i1 + 1))), some (.int (v_S_deedsOfAll (w_N_tryYears a1.2 x0 (Int32.ofNat (i1 + 1))) 15))], [])) (h' := (zt_T L, zt_R, (w_N_tryYears a1.2 x0 (Int32.ofNat (i1 + 1))), J, e)) (fun _ => rfl)).trans ?_
        refine zz_weak (L := [some (.ref 1), some (.int x0), some (.int (zb b1)), some (.int (v_S_deedsOfAll (w_N_tryYears a1.2 x0 (Int32.ofNat (i1 + 1))) 15)), some (.int (Int32.ofNat (i1 + 1))), none]) ⟨Or.inl rfl, Or.inl rfl, Or.inl rfl, Or.inl rfl, Or.inl rfl, Or.inr ⟨rfl, rfl⟩, trivial⟩ ?_
        simpa only [h9, zk_t, zk_f, zb_t, zb_f] using j8
      · refine zc_eqF rfl h9 ?_
        refine zz_jn (X := zz_D (zm_N_span, d + 10, 61, [some (.ref 1), some (.int x0), some (.int (zb b1)), some (.int (bif b1 then (bif (decide ((v_S_deedsOfAll (w_N_tryYears a1.2 x0 (Int32.ofNat (i1 + 1))) 15) ≤ a1.1)) then a1.1 else (v_S_deedsOfAll (w_N_tryYears a1.2 x0 (Int32.ofNat (i1 + 1))) 15)) else (bif (decide (a1.1 ≤ (v_S_deedsOfAll (w_N_tryYears a1.2 x0 (Int32.ofNat (i1 + 1))) 15))) then a1.1 else (v_S_deedsOfAll (w_N_tryYears a1.2 x0 (Int32.ofNat (i1 + 1))) 15)))), some (.int (Int32.ofNat (i1 + 1))), none], []) (zt_T L, zt_R, (w_N_tryYears a1.2 x0 (Int32.ofNat (i1 + 1))), J, e)) (fun j10 => ?_) ?_
        · refine (zz_go 1 (fr' := (zm_N_span, d + 10, 40, [some (.ref 1), some (.int x0), some (.int (zb b1)), some (.int a1.1), some (.int (Int32.ofNat (i1 + 1))), some (.int (v_S_deedsOfAll (w_N_tryYears a1.2 x0 (Int32.ofNat (i1 + 1))) 15))], [.int (zb b1)])) (h' := (zt_T L, zt_R, (w_N_tryYears a1.2 x0 (Int32.ofNat (i1 + 1))), J, e)) (fun _ => rfl)).trans ?_
          rcases zz_bc b1 with h11 | h11
          · refine zq_eT rfl h11 ?_
            refine zz_jn (X := zz_D (zm_N_span, d + 10, 61, [some (.ref 1), some (.int x0), some (.int (zb b1)), some (.int (bif (decide ((v_S_deedsOfAll (w_N_tryYears a1.2 x0 (Int32.ofNat (i1 + 1))) 15) ≤ a1.1)) then a1.1 else (v_S_deedsOfAll (w_N_tryYears a1.2 x0 (Int32.ofNat (i1 + 1))) 15))), some (.int (Int32.ofNat (i1 + 1))), none], []) (zt_T L, zt_R, (w_N_tryYears a1.2 x0 (Int32.ofNat (i1 + 1))), J, e)) (fun j12 => ?_) ?_
            · refine (zz_go 2 (fr' := (zm_N_span, d + 10, 46, [some (.ref 1), some (.int x0), some (.int (zb b1)), some (.int a1.1), some (.int (Int32.ofNat (i1 + 1))), some (.int (v_S_deedsOfAll (w_N_tryYears a1.2 x0 (Int32.ofNat (i1 + 1))) 15))], [.int a1.1, .int (v_S_deedsOfAll (w_N_tryYears a1.2 x0 (Int32.ofNat (i1 + 1))) 15)])) (h' := (zt_T L, zt_R, (w_N_tryYears a1.2 x0 (Int32.ofNat (i1 + 1))), J, e)) (fun _ => rfl)).trans ?_
              rcases zz_bc (decide ((v_S_deedsOfAll (w_N_tryYears a1.2 x0 (Int32.ofNat (i1 + 1))) 15) ≤ a1.1)) with h13 | h13
              · refine zc_leT rfl h13 ?_
                refine zz_weak (L := [some (.ref 1), some (.int x0), some (.int (zb b1)), some (.int a1.1), some (.int (Int32.ofNat (i1 + 1))), none]) ⟨Or.inl rfl, Or.inl rfl, Or.inl rfl, Or.inl rfl, Or.inl rfl, Or.inr ⟨rfl, rfl⟩, trivial⟩ ?_
                simpa only [h13, zk_t, zk_f, zb_t, zb_f] using j12
              · refine zc_leF rfl h13 ?_
                refine (zz_go 3 (fr' := (zm_N_span, d + 10, 61, [some (.ref 1), some (.int x0), some (.int (zb b1)), some (.int (v_S_deedsOfAll (w_N_tryYears a1.2 x0 (Int32.ofNat (i1 + 1))) 15)), some (.int (Int32.ofNat (i1 + 1))), some (.int (v_S_deedsOfAll (w_N_tryYears a1.2 x0 (Int32.ofNat (i1 + 1))) 15))], [])) (h' := (zt_T L, zt_R, (w_N_tryYears a1.2 x0 (Int32.ofNat (i1 + 1))), J, e)) (fun _ => rfl)).trans ?_
                refine zz_weak (L := [some (.ref 1), some (.int x0), some (.int (zb b1)), some (.int (v_S_deedsOfAll (w_N_tryYears a1.2 x0 (Int32.ofNat (i1 + 1))) 15)), some (.int (Int32.ofNat (i1 + 1))), none]) ⟨Or.inl rfl, Or.inl rfl, Or.inl rfl, Or.inl rfl, Or.inl rfl, Or.inr ⟨rfl, rfl⟩, trivial⟩ ?_
                simpa only [h13, zk_t, zk_f, zb_t, zb_f] using j12
            simpa only [h11, zk_t, zk_f, zb_t, zb_f] using j10
          · refine zq_eF rfl h11 ?_
            refine zz_jn (X := zz_D (zm_N_span, d + 10, 61, [some (.ref 1), some (.int x0), some (.int (zb b1)), some (.int (bif (decide (a1.1 ≤ (v_S_deedsOfAll (w_N_tryYears a1.2 x0 (Int32.ofNat (i1 + 1))) 15))) then a1.1 else (v_S_deedsOfAll (w_N_tryYears a1.2 x0 (Int32.ofNat (i1 + 1))) 15))), some (.int (Int32.ofNat (i1 + 1))), none], []) (zt_T L, zt_R, (w_N_tryYears a1.2 x0 (Int32.ofNat (i1 + 1))), J, e)) (fun j14 => ?_) ?_
            · refine (zz_go 2 (fr' := (zm_N_span, d + 10, 55, [some (.ref 1), some (.int x0), some (.int (zb b1)), some (.int a1.1), some (.int (Int32.ofNat (i1 + 1))), some (.int (v_S_deedsOfAll (w_N_tryYears a1.2 x0 (Int32.ofNat (i1 + 1))) 15))], [.int a1.1, .int (v_S_deedsOfAll (w_N_tryYears a1.2 x0 (Int32.ofNat (i1 + 1))) 15)])) (h' := (zt_T L, zt_R, (w_N_tryYears a1.2 x0 (Int32.ofNat (i1 + 1))), J, e)) (fun _ => rfl)).trans ?_
              rcases zz_bc (decide (a1.1 ≤ (v_S_deedsOfAll (w_N_tryYears a1.2 x0 (Int32.ofNat (i1 + 1))) 15))) with h15 | h15
              · refine zc_geT rfl h15 ?_
                refine zz_weak (L := [some (.ref 1), some (.int x0), some (.int (zb b1)), some (.int a1.1), some (.int (Int32.ofNat (i1 + 1))), none]) ⟨Or.inl rfl, Or.inl rfl, Or.inl rfl, Or.inl rfl, Or.inl rfl, Or.inr ⟨rfl, rfl⟩, trivial⟩ ?_
                simpa only [h15, zk_t, zk_f, zb_t, zb_f] using j14
              · refine zc_geF rfl h15 ?_
                refine (zz_go 2 (fr' := (zm_N_span, d + 10, 61, [some (.ref 1), some (.int x0), some (.int (zb b1)), some (.int (v_S_deedsOfAll (w_N_tryYears a1.2 x0 (Int32.ofNat (i1 + 1))) 15)), some (.int (Int32.ofNat (i1 + 1))), some (.int (v_S_deedsOfAll (w_N_tryYears a1.2 x0 (Int32.ofNat (i1 + 1))) 15))], [])) (h' := (zt_T L, zt_R, (w_N_tryYears a1.2 x0 (Int32.ofNat (i1 + 1))), J, e)) (fun _ => rfl)).trans ?_
                refine zz_weak (L := [some (.ref 1), some (.int x0), some (.int (zb b1)), some (.int (v_S_deedsOfAll (w_N_tryYears a1.2 x0 (Int32.ofNat (i1 + 1))) 15)), some (.int (Int32.ofNat (i1 + 1))), none]) ⟨Or.inl rfl, Or.inl rfl, Or.inl rfl, Or.inl rfl, Or.inl rfl, Or.inr ⟨rfl, rfl⟩, trivial⟩ ?_
                simpa only [h15, zk_t, zk_f, zb_t, zb_f] using j14
            simpa only [h11, zk_t, zk_f, zb_t, zb_f] using j10
        simpa only [h9, zk_t, zk_f, zb_t, zb_f] using j8
    refine (zz_go 2 (fr' := (zm_N_span, d + 10, 11, [some (.ref 1), some (.int x0), some (.int (zb b1)), some (.int (bif (decide (a1.1 = (-1 : Int32))) then (v_S_deedsOfAll (w_N_tryYears a1.2 x0 (Int32.ofNat (i1 + 1))) 15) else (bif b1 then (bif (decide ((v_S_deedsOfAll (w_N_tryYears a1.2 x0 (Int32.ofNat (i1 + 1))) 15) ≤ a1.1)) then a1.1 else (v_S_deedsOfAll (w_N_tryYears a1.2 x0 (Int32.ofNat (i1 + 1))) 15)) else (bif (decide (a1.1 ≤ (v_S_deedsOfAll (w_N_tryYears a1.2 x0 (Int32.ofNat (i1 + 1))) 15))) then a1.1 else (v_S_deedsOfAll (w_N_tryYears a1.2 x0 (Int32.ofNat (i1 + 1))) 15))))), some (.int (Int32.ofNat (i1 + 1) + 1)), none], [])) (h' := (zt_T L, zt_R, (w_N_tryYears a1.2 x0 (Int32.ofNat (i1 + 1))), J, e)) (fun _ => rfl)).trans ?_
    rw [zi_succ (i1 + 1)]
    simpa only [f_N_span_1] using hx3
  show zz_D (zm_N_span, d + 10, 11, [some (.ref 1), some (.int x0), some (.int (zb b1)), some (.int (zf_for 6 (f_N_span_1 M x0 b1) ((-1 : Int32), M)).1), some (.int (Int32.ofNat (6 + 1))), none], []) (zt_T L, zt_R, (zf_for 6 (f_N_span_1 M x0 b1) ((-1 : Int32), M)).2, J, e) = _
  refine (zz_go 2 (fr' := (zm_N_span, d + 10, 15, [some (.ref 1), some (.int x0), some (.int (zb b1)), some (.int (zf_for 6 (f_N_span_1 M x0 b1) ((-1 : Int32), M)).1), some (.int (Int32.ofNat (6 + 1))), none], [.int (6 : Int32), .int (Int32.ofNat (6 + 1))])) (h' := (zt_T L, zt_R, (zf_for 6 (f_N_span_1 M x0 b1) ((-1 : Int32), M)).2, J, e)) (fun _ => rfl)).trans ?_
  refine zc_gtT rfl (by decide) ?_
  refine zz_weak (L := [none, none, none, some (.int (zf_for 6 (f_N_span_1 M x0 b1) ((-1 : Int32), M)).1), none, none]) ⟨Or.inr ⟨rfl, rfl⟩, Or.inr ⟨rfl, rfl⟩, Or.inr ⟨rfl, rfl⟩, Or.inl rfl, Or.inr ⟨rfl, rfl⟩, Or.inl rfl, trivial⟩ ?_
  refine (zz_go 1 (fr' := (zm_N_span, d + 10, 68, [none, none, none, some (.int (zf_for 6 (f_N_span_1 M x0 b1) ((-1 : Int32), M)).1), none, none], [.int (zf_for 6 (f_N_span_1 M x0 b1) ((-1 : Int32), M)).1])) (h' := (zt_T L, zt_R, (zf_for 6 (f_N_span_1 M x0 b1) ((-1 : Int32), M)).2, J, e)) (fun _ => rfl)).trans ?_
  refine zl_retI rfl rfl ?_
  first | (simp only [h1, zk_t, zk_f, zb_t, zb_f]; done) | (simp only [h1, zk_t, zk_f, zb_t, zb_f]; rfl) | rfl
