/-! LIFTED: N_led N_log N_seed N_undo N_image N_back N_count D_thrown D_isIn D_lesser D_greater D_isOf D_bits D_ofKind D_of D_lays D_isOne D_isKind D_isPlain D_deedOf D_marksOf D_feed D_end D_letter D_skip D_isSign D_has D_wrong D_here D_figures D_after D_kindLetter D_fourMarks D_expects -/
def g_N_led_1 (M : zMem) (x0 : Int32) (b1 : Bool) (i1 : Nat) (a1 : Int32 × Int32 × Int32) : Bool × (Int32 × Int32 × Int32) := ((bif (decide (a1.2.2 < 0)) then false else true), ((bif (decide (a1.2.2 < 0)) then a1.1 else (bif (decide ((v_S_rowPart M 4 a1.2.2 (1 : Int32)) = x0)) then (a1.1 + (1 : Int32)) else a1.1)), (bif (decide (a1.2.2 < 0)) then a1.2.1 else (bif (decide ((v_S_rowPart M 4 a1.2.2 (1 : Int32)) = x0)) then (v_S_rowPart M 4 a1.2.2 (0 : Int32)) else a1.2.1)), (bif (decide (a1.2.2 < 0)) then a1.2.2 else (a1.2.2 + (-1 : Int32)))))
def kb_N_led_1 (M : zMem) (x0 : Int32) (b1 : Bool) (i1 : Nat) (a1 : Int32 × Int32 × Int32) : Prop := ((decide (a1.2.2 < 0)) = false → (ok_S_rowPart M 4 a1.2.2 (1 : Int32) ∧ ((decide ((v_S_rowPart M 4 a1.2.2 (1 : Int32)) = x0)) = true → ok_S_rowPart M 4 a1.2.2 (0 : Int32))))
def v_N_led (M : zMem) (x0 : Int32) (b1 : Bool) : Int32 := (bif Nat.beq (t_N_needPerson M x0) 0 then (bif b1 then (zf_wh 1000 (g_N_led_1 M x0 b1) 0 ((0 : Int32), (-1 : Int32), ((M 4 16) - (1 : Int32)))).2.1 else (zf_wh 1000 (g_N_led_1 M x0 b1) 0 ((0 : Int32), (-1 : Int32), ((M 4 16) - (1 : Int32)))).1) else 0)
def t_N_led (M : zMem) (x0 : Int32) (b1 : Bool) : Nat := (bif Nat.beq (t_N_needPerson M x0) 0 then 0 else (t_N_needPerson M x0))
def ok_N_led (M : zMem) (x0 : Int32) (b1 : Bool) : Prop := (Nat.beq (t_N_needPerson M x0) 0 = true → (zf_wk 1000 (g_N_led_1 M x0 b1) (kb_N_led_1 M x0 b1) 0 ((0 : Int32), (-1 : Int32), ((M 4 16) - (1 : Int32)))))
set_option maxRecDepth 20000 in
set_option maxHeartbeats 2000000 in
theorem s_N_led (L e : Nat) (J : zJem) (d : Nat) (M : zMem) (x0 : Int32) (b1 : Bool) (k0 : ok_N_led M x0 b1) : zz_D (zm_N_led, d + 9, 0, [some (.ref 1), some (.int x0), some (.int (zb b1)), none, none, none], []) (zt_T L, zt_R, M, J, e) = some (zx_o (t_N_led M x0 b1) (some (.int (v_N_led M x0 b1))), (zt_T L, zt_R, M, J, zx_e (t_N_led M x0 b1) e)) := by
  unfold ok_N_led at k0
  unfold v_N_led t_N_led
  refine (zz_go 2 (fr' := (zm_N_led, d + 9, 2, [some (.ref 1), some (.int x0), some (.int (zb b1)), none, none, none], [.int x0, .ref 1])) (h' := (zt_T L, zt_R, M, J, e)) (fun _ => rfl)).trans ?_
  refine zl_vt (d := d + 8) rfl rfl rfl rfl rfl rfl rfl rfl rfl rfl (s_N_needPerson L e J (d + 0) M x0) ?_
  refine zl_aftV rfl (fun h1 => ?_) (fun h1 => ?_)
  rotate_left 1
  · skip
    rw [zx_oe h1 (some (.int 0))]
    first | (simp only [h1, zk_t, zk_f, zb_t, zb_f]; done) | (simp only [h1, zk_t, zk_f, zb_t, zb_f]; rfl) | rfl
  have k2 := k0 h1
  show zz_D (zm_N_led, d + 9, 5, [some (.ref 1), some (.int x0), some (.int (zb b1)), none, none, none], []) (zt_T L, zt_R, M, J, e) = _
  refine (zz_go 5 (fr' := (zm_N_led, d + 9, 11, [some (.ref 1), some (.int x0), some (.int (zb b1)), some (.int (0 : Int32)), some (.int (-1 : Int32)), none], [.ref 1])) (h' := (zt_T L, zt_R, M, J, e)) (fun _ => rfl)).trans ?_
  refine zl_getR rfl rfl rfl ?_
  refine zl_getI rfl (by decide) rfl rfl ?_
  refine (zz_go 3 (fr' := (zm_N_led, d + 9, 21, [some (.ref 1), some (.int x0), some (.int (zb b1)), some (.int (0 : Int32)), some (.int (-1 : Int32)), some (.int ((M 4 16) - (1 : Int32)))], [])) (h' := (zt_T L, zt_R, M, J, e)) (fun _ => rfl)).trans ?_
  refine zf_whY (X := fun (i1 : Nat) (a1 : Int32 × Int32 × Int32) => zz_D (zm_N_led, d + 9, 21, [some (.ref 1), some (.int x0), some (.int (zb b1)), some (.int a1.1), some (.int a1.2.1), some (.int a1.2.2)], []) (zt_T L, zt_R, M, J, e)) (Y := fun (a1 : Int32 × Int32 × Int32) => zz_D (zm_N_led, d + 9, 61, [none, none, some (.int (zb b1)), some (.int a1.1), some (.int a1.2.1), none], []) (zt_T L, zt_R, M, J, e)) (g := (g_N_led_1 M x0 b1)) (k := (kb_N_led_1 M x0 b1)) (fun i1 a1 k5 hx3 hx4 => ?_) 1000 0 ((0 : Int32), (-1 : Int32), ((M 4 16) - (1 : Int32))) k2 ?_
  · show zz_D (zm_N_led, d + 9, 21, [some (.ref 1), some (.int x0), some (.int (zb b1)), some (.int a1.1), some (.int a1.2.1), some (.int a1.2.2)], []) (zt_T L, zt_R, M, J, e) = _
    unfold kb_N_led_1 at k5
    refine (zz_go 1 (fr' := (zm_N_led, d + 9, 23, [some (.ref 1), some (.int x0), some (.int (zb b1)), some (.int a1.1), some (.int a1.2.1), some (.int a1.2.2)], [.int a1.2.2])) (h' := (zt_T L, zt_R, M, J, e)) (fun _ => rfl)).trans ?_
    rcases zz_bc (decide (a1.2.2 < 0)) with h6 | h6
    · refine zo_ltT rfl h6 ?_
      refine zz_weak (L := [none, none, some (.int (zb b1)), some (.int a1.1), some (.int a1.2.1), none]) ⟨Or.inr ⟨rfl, rfl⟩, Or.inr ⟨rfl, rfl⟩, Or.inl rfl, Or.inl rfl, Or.inl rfl, Or.inr ⟨rfl, rfl⟩, trivial⟩ ?_
      have y1 := hx4 (by simp only [g_N_led_1, h6, zk_t, zk_f, zb_t, zb_f])
      simpa only [g_N_led_1, h6, zk_t, zk_f, zb_t, zb_f] using y1
    · refine zo_ltF rfl h6 ?_
      have k7 := k5 h6
      refine (zz_go 1 (fr' := (zm_N_led, d + 9, 27, [some (.ref 1), some (.int x0), some (.int (zb b1)), some (.int a1.1), some (.int a1.2.1), some (.int a1.2.2)], [.ref 1])) (h' := (zt_T L, zt_R, M, J, e)) (fun _ => rfl)).trans ?_
      refine zl_getR rfl rfl rfl ?_
      refine (zz_go 2 (fr' := (zm_N_led, d + 9, 33, [some (.ref 1), some (.int x0), some (.int (zb b1)), some (.int a1.1), some (.int a1.2.1), some (.int a1.2.2)], [.int (1 : Int32), .int a1.2.2, .ref 4])) (h' := (zt_T L, zt_R, M, J, e)) (fun _ => rfl)).trans ?_
      obtain ⟨g8, k9⟩ := k7
      refine zl_vt (d := d + 8) rfl rfl rfl rfl rfl rfl rfl rfl rfl rfl (s_S_rowPart L e J (d + 7) M 4 a1.2.2 (1 : Int32) zt_St_4 g8) ?_
      show zz_D (zm_N_led, d + 9, 36, [some (.ref 1), some (.int x0), some (.int (zb b1)), some (.int a1.1), some (.int a1.2.1), some (.int a1.2.2)], [.int (v_S_rowPart M 4 a1.2.2 (1 : Int32))]) (zt_T L, zt_R, M, J, e) = _
      refine zz_jn (X := zz_D (zm_N_led, d + 9, 55, [some (.ref 1), some (.int x0), some (.int (zb b1)), some (.int (bif (decide ((v_S_rowPart M 4 a1.2.2 (1 : Int32)) = x0)) then (a1.1 + (1 : Int32)) else a1.1)), some (.int (bif (decide ((v_S_rowPart M 4 a1.2.2 (1 : Int32)) = x0)) then (v_S_rowPart M 4 a1.2.2 (0 : Int32)) else a1.2.1)), some (.int a1.2.2)], []) (zt_T L, zt_R, M, J, e)) (fun j10 => ?_) ?_
      · refine (zz_go 1 (fr' := (zm_N_led, d + 9, 37, [some (.ref 1), some (.int x0), some (.int (zb b1)), some (.int a1.1), some (.int a1.2.1), some (.int a1.2.2)], [.int x0, .int (v_S_rowPart M 4 a1.2.2 (1 : Int32))])) (h' := (zt_T L, zt_R, M, J, e)) (fun _ => rfl)).trans ?_
        rcases zz_bc (decide ((v_S_rowPart M 4 a1.2.2 (1 : Int32)) = x0)) with h11 | h11
        · refine zc_neT rfl h11 ?_
          have k12 := k9 h11
          refine (zz_go 2 (fr' := (zm_N_led, d + 9, 44, [some (.ref 1), some (.int x0), some (.int (zb b1)), some (.int (a1.1 + (1 : Int32))), some (.int a1.2.1), some (.int a1.2.2)], [.ref 1])) (h' := (zt_T L, zt_R, M, J, e)) (fun _ => rfl)).trans ?_
          refine zl_getR rfl rfl rfl ?_
          refine (zz_go 2 (fr' := (zm_N_led, d + 9, 50, [some (.ref 1), some (.int x0), some (.int (zb b1)), some (.int (a1.1 + (1 : Int32))), some (.int a1.2.1), some (.int a1.2.2)], [.int (0 : Int32), .int a1.2.2, .ref 4])) (h' := (zt_T L, zt_R, M, J, e)) (fun _ => rfl)).trans ?_
          have g13 : ok_S_rowPart M 4 a1.2.2 (0 : Int32) := k12
          refine zl_vt (d := d + 8) rfl rfl rfl rfl rfl rfl rfl rfl rfl rfl (s_S_rowPart L e J (d + 7) M 4 a1.2.2 (0 : Int32) zt_St_4 g13) ?_
          show zz_D (zm_N_led, d + 9, 53, [some (.ref 1), some (.int x0), some (.int (zb b1)), some (.int (a1.1 + (1 : Int32))), some (.int a1.2.1), some (.int a1.2.2)], [.int (v_S_rowPart M 4 a1.2.2 (0 : Int32))]) (zt_T L, zt_R, M, J, e) = _
          refine (zz_go 1 (fr' := (zm_N_led, d + 9, 55, [some (.ref 1), some (.int x0), some (.int (zb b1)), some (.int (a1.1 + (1 : Int32))), some (.int (v_S_rowPart M 4 a1.2.2 (0 : Int32))), some (.int a1.2.2)], [])) (h' := (zt_T L, zt_R, M, J, e)) (fun _ => rfl)).trans ?_
          simpa only [h11, zk_t, zk_f, zb_t, zb_f] using j10
        · refine zc_neF rfl h11 ?_
          simpa only [h11, zk_t, zk_f, zb_t, zb_f] using j10
      refine (zz_go 2 (fr' := (zm_N_led, d + 9, 21, [some (.ref 1), some (.int x0), some (.int (zb b1)), some (.int (bif (decide ((v_S_rowPart M 4 a1.2.2 (1 : Int32)) = x0)) then (a1.1 + (1 : Int32)) else a1.1)), some (.int (bif (decide ((v_S_rowPart M 4 a1.2.2 (1 : Int32)) = x0)) then (v_S_rowPart M 4 a1.2.2 (0 : Int32)) else a1.2.1)), some (.int (a1.2.2 + (-1 : Int32)))], [])) (h' := (zt_T L, zt_R, M, J, e)) (fun _ => rfl)).trans ?_
      have y1 := hx3 (by simp only [g_N_led_1, h6, zk_t, zk_f, zb_t, zb_f])
      simpa only [g_N_led_1, h6, zk_t, zk_f, zb_t, zb_f] using y1
  show zz_D (zm_N_led, d + 9, 61, [none, none, some (.int (zb b1)), some (.int (zf_wh 1000 (g_N_led_1 M x0 b1) 0 ((0 : Int32), (-1 : Int32), ((M 4 16) - (1 : Int32)))).1), some (.int (zf_wh 1000 (g_N_led_1 M x0 b1) 0 ((0 : Int32), (-1 : Int32), ((M 4 16) - (1 : Int32)))).2.1), none], []) (zt_T L, zt_R, M, J, e) = _
  refine zz_jn (X := zz_D (zm_N_led, d + 9, 71, [none, none, none, none, none, none], [.int (bif b1 then (zf_wh 1000 (g_N_led_1 M x0 b1) 0 ((0 : Int32), (-1 : Int32), ((M 4 16) - (1 : Int32)))).2.1 else (zf_wh 1000 (g_N_led_1 M x0 b1) 0 ((0 : Int32), (-1 : Int32), ((M 4 16) - (1 : Int32)))).1)]) (zt_T L, zt_R, M, J, e)) (fun j14 => ?_) ?_
  · refine (zz_go 1 (fr' := (zm_N_led, d + 9, 62, [none, none, some (.int (zb b1)), some (.int (zf_wh 1000 (g_N_led_1 M x0 b1) 0 ((0 : Int32), (-1 : Int32), ((M 4 16) - (1 : Int32)))).1), some (.int (zf_wh 1000 (g_N_led_1 M x0 b1) 0 ((0 : Int32), (-1 : Int32), ((M 4 16) - (1 : Int32)))).2.1), none], [.int (zb b1)])) (h' := (zt_T L, zt_R, M, J, e)) (fun _ => rfl)).trans ?_
    rcases zz_bc b1 with h15 | h15
    · refine zq_eT rfl h15 ?_
      refine (zz_go 2 (fr' := (zm_N_led, d + 9, 71, [none, none, some (.int (zb b1)), some (.int (zf_wh 1000 (g_N_led_1 M x0 b1) 0 ((0 : Int32), (-1 : Int32), ((M 4 16) - (1 : Int32)))).1), some (.int (zf_wh 1000 (g_N_led_1 M x0 b1) 0 ((0 : Int32), (-1 : Int32), ((M 4 16) - (1 : Int32)))).2.1), none], [.int (zf_wh 1000 (g_N_led_1 M x0 b1) 0 ((0 : Int32), (-1 : Int32), ((M 4 16) - (1 : Int32)))).2.1])) (h' := (zt_T L, zt_R, M, J, e)) (fun _ => rfl)).trans ?_
      refine zz_weak (L := [none, none, none, none, none, none]) ⟨Or.inl rfl, Or.inl rfl, Or.inr ⟨rfl, rfl⟩, Or.inr ⟨rfl, rfl⟩, Or.inr ⟨rfl, rfl⟩, Or.inl rfl, trivial⟩ ?_
      simpa only [h15, zk_t, zk_f, zb_t, zb_f] using j14
    · refine zq_eF rfl h15 ?_
      refine (zz_go 1 (fr' := (zm_N_led, d + 9, 71, [none, none, some (.int (zb b1)), some (.int (zf_wh 1000 (g_N_led_1 M x0 b1) 0 ((0 : Int32), (-1 : Int32), ((M 4 16) - (1 : Int32)))).1), some (.int (zf_wh 1000 (g_N_led_1 M x0 b1) 0 ((0 : Int32), (-1 : Int32), ((M 4 16) - (1 : Int32)))).2.1), none], [.int (zf_wh 1000 (g_N_led_1 M x0 b1) 0 ((0 : Int32), (-1 : Int32), ((M 4 16) - (1 : Int32)))).1])) (h' := (zt_T L, zt_R, M, J, e)) (fun _ => rfl)).trans ?_
      refine zz_weak (L := [none, none, none, none, none, none]) ⟨Or.inl rfl, Or.inl rfl, Or.inr ⟨rfl, rfl⟩, Or.inr ⟨rfl, rfl⟩, Or.inr ⟨rfl, rfl⟩, Or.inl rfl, trivial⟩ ?_
      simpa only [h15, zk_t, zk_f, zb_t, zb_f] using j14
  refine zl_retI rfl rfl ?_
  first | (simp only [h1, zk_t, zk_f, zb_t, zb_f]; done) | (simp only [h1, zk_t, zk_f, zb_t, zb_f]; rfl) | rfl
def v_N_log (M : zMem) (x0 : Int32) (x1 : Int32) : Int32 := (bif (decide (x1 < 0)) then 0 else (bif (decide (x1 ≤ (3 : Int32))) then (v_S_rowPart M 4 x0 x1) else 0))
def t_N_log (M : zMem) (x0 : Int32) (x1 : Int32) : Nat := (bif (decide (x1 < 0)) then 4 else (bif (decide (x1 ≤ (3 : Int32))) then 0 else 4))
def ok_N_log (M : zMem) (x0 : Int32) (x1 : Int32) : Prop := ((decide (x1 < 0)) = false → ((decide (x1 ≤ (3 : Int32))) = true → ok_S_rowPart M 4 x0 x1))
set_option maxRecDepth 20000 in
set_option maxHeartbeats 2000000 in
theorem s_N_log (L e : Nat) (J : zJem) (d : Nat) (M : zMem) (x0 : Int32) (x1 : Int32) (k0 : ok_N_log M x0 x1) : zz_D (zm_N_log, d + 8, 0, [some (.ref 1), some (.int x0), some (.int x1)], []) (zt_T L, zt_R, M, J, e) = some (zx_o (t_N_log M x0 x1) (some (.int (v_N_log M x0 x1))), (zt_T L, zt_R, M, J, zx_e (t_N_log M x0 x1) e)) := by
  unfold ok_N_log at k0
  unfold v_N_log t_N_log
  refine (zz_go 1 (fr' := (zm_N_log, d + 8, 1, [some (.ref 1), some (.int x0), some (.int x1)], [.int x1])) (h' := (zt_T L, zt_R, M, J, e)) (fun _ => rfl)).trans ?_
  rcases zz_bc (decide (x1 < 0)) with h1 | h1
  · refine zo_ltT rfl h1 ?_
    refine zl_throw rfl rfl rfl ?_
    first | (simp only [h1, zk_t, zk_f, zb_t, zb_f]; done) | (simp only [h1, zk_t, zk_f, zb_t, zb_f]; rfl) | rfl
  · refine zo_ltF rfl h1 ?_
    have k2 := k0 h1
    refine (zz_go 2 (fr' := (zm_N_log, d + 8, 6, [some (.ref 1), some (.int x0), some (.int x1)], [.int (3 : Int32), .int x1])) (h' := (zt_T L, zt_R, M, J, e)) (fun _ => rfl)).trans ?_
    rcases zz_bc (decide (x1 ≤ (3 : Int32))) with h3 | h3
    · refine zc_leT rfl h3 ?_
      have k4 := k2 h3
      refine (zz_go 1 (fr' := (zm_N_log, d + 8, 20, [some (.ref 1), some (.int x0), some (.int x1)], [.ref 1])) (h' := (zt_T L, zt_R, M, J, e)) (fun _ => rfl)).trans ?_
      refine zl_getR rfl rfl rfl ?_
      refine (zz_go 2 (fr' := (zm_N_log, d + 8, 25, [some (.ref 1), some (.int x0), some (.int x1)], [.int x1, .int x0, .ref 4])) (h' := (zt_T L, zt_R, M, J, e)) (fun _ => rfl)).trans ?_
      have g5 : ok_S_rowPart M 4 x0 x1 := k4
      refine zl_vt (d := d + 7) rfl rfl rfl rfl rfl rfl rfl rfl rfl rfl (s_S_rowPart L e J (d + 6) M 4 x0 x1 zt_St_4 g5) ?_
      show zz_D (zm_N_log, d + 8, 28, [some (.ref 1), some (.int x0), some (.int x1)], [.int (v_S_rowPart M 4 x0 x1)]) (zt_T L, zt_R, M, J, e) = _
      refine zl_retI rfl rfl ?_
      first | (simp only [h1, h3, zk_t, zk_f, zb_t, zb_f]; done) | (simp only [h1, h3, zk_t, zk_f, zb_t, zb_f]; rfl) | rfl
    · refine zc_leF rfl h3 ?_
      refine zl_throw rfl rfl rfl ?_
      first | (simp only [h1, h3, zk_t, zk_f, zb_t, zb_f]; done) | (simp only [h1, h3, zk_t, zk_f, zb_t, zb_f]; rfl) | rfl
def v_N_seed (M : zMem) (x0 : Int32) : Int32 := (M 4 14)
def w_N_seed (M : zMem) (x0 : Int32) : zMem := (zz_up M 4 14 x0)
set_option maxRecDepth 20000 in
set_option maxHeartbeats 2000000 in
theorem s_N_seed (L e : Nat) (J : zJem) (d : Nat) (M : zMem) (x0 : Int32) : zz_D (zm_N_seed, d + 1, 0, [some (.ref 1), some (.int x0), none], []) (zt_T L, zt_R, M, J, e) = some (.inl (some (.int (v_N_seed M x0))), (zt_T L, zt_R, (w_N_seed M x0), J, e)) := by
  unfold v_N_seed w_N_seed
  refine (zz_go 1 (fr' := (zm_N_seed, d + 1, 1, [some (.ref 1), some (.int x0), none], [.ref 1])) (h' := (zt_T L, zt_R, M, J, e)) (fun _ => rfl)).trans ?_
  refine zl_getR rfl rfl rfl ?_
  refine zl_getI rfl (by decide) rfl rfl ?_
  refine (zz_go 2 (fr' := (zm_N_seed, d + 1, 9, [some (.ref 1), some (.int x0), some (.int (M 4 14))], [.ref 1])) (h' := (zt_T L, zt_R, M, J, e)) (fun _ => rfl)).trans ?_
  refine zl_getR rfl rfl rfl ?_
  refine (zz_go 1 (fr' := (zm_N_seed, d + 1, 13, [some (.ref 1), some (.int x0), some (.int (M 4 14))], [.int x0, .ref 4])) (h' := (zt_T L, zt_R, M, J, e)) (fun _ => rfl)).trans ?_
  refine zl_putI rfl rfl rfl rfl ?_
  refine (zz_go 1 (fr' := (zm_N_seed, d + 1, 17, [some (.ref 1), some (.int x0), some (.int (M 4 14))], [.int (M 4 14)])) (h' := (zt_T L, zt_R, (zz_up M 4 14 x0), J, e)) (fun _ => rfl)).trans ?_
  refine zl_retI rfl rfl ?_
  rfl
def v_N_undo (M : zMem) : Bool := (v_A_goBack M)
def w_N_undo (M : zMem) : zMem := (w_A_goBack M)
def ok_N_undo (M : zMem) : Prop := ok_A_goBack M
set_option maxRecDepth 20000 in
set_option maxHeartbeats 2000000 in
theorem s_N_undo (L e : Nat) (J : zJem) (d : Nat) (M : zMem) (k0 : ok_N_undo M) : zz_D (zm_N_undo, d + 10, 0, [some (.ref 1)], []) (zt_T L, zt_R, M, J, e) = some (.inl (some (.int (zb (v_N_undo M)))), (zt_T L, zt_R, (w_N_undo M), J, e)) := by
  unfold ok_N_undo at k0
  unfold v_N_undo w_N_undo
  refine (zz_go 1 (fr' := (zm_N_undo, d + 10, 1, [some (.ref 1)], [.ref 1])) (h' := (zt_T L, zt_R, M, J, e)) (fun _ => rfl)).trans ?_
  refine zl_getR rfl rfl rfl ?_
  refine (zz_go 1 (fr' := (zm_N_undo, d + 10, 5, [some (.ref 1)], [.ref 1, .ref 58])) (h' := (zt_T L, zt_R, M, J, e)) (fun _ => rfl)).trans ?_
  refine zl_getR rfl rfl rfl ?_
  have g1 : ok_A_goBack M := k0
  refine zl_vt (d := d + 9) rfl rfl rfl rfl rfl rfl rfl rfl rfl rfl (s_A_goBack L e J (d + 0) M g1) ?_
  show zz_D (zm_N_undo, d + 10, 11, [some (.ref 1)], [.int (zb (v_A_goBack M))]) (zt_T L, zt_R, (w_A_goBack M), J, e) = _
  refine zl_retI rfl (zb_01 _) ?_
  rfl
def w_N_image (M : zMem) : zMem := (zz_up (w_L_copyFrom (w_S_copyFrom M 26 4) 51 37) 1 8 (1 : Int32))
set_option maxRecDepth 20000 in
set_option maxHeartbeats 2000000 in
theorem s_N_image (L e : Nat) (J : zJem) (d : Nat) (M : zMem) : zz_D (zm_N_image, d + 9, 0, [some (.ref 1)], []) (zt_T L, zt_R, M, J, e) = some (.inl (none), (zt_T L, zt_R, (w_N_image M), J, e)) := by
  unfold w_N_image
  refine (zz_go 1 (fr' := (zm_N_image, d + 9, 1, [some (.ref 1)], [.ref 1])) (h' := (zt_T L, zt_R, M, J, e)) (fun _ => rfl)).trans ?_
  refine zl_getR rfl rfl rfl ?_
  refine (zz_go 1 (fr' := (zm_N_image, d + 9, 5, [some (.ref 1)], [.ref 1, .ref 26])) (h' := (zt_T L, zt_R, M, J, e)) (fun _ => rfl)).trans ?_
  refine zl_getR rfl rfl rfl ?_
  refine zl_vt (d := d + 8) rfl rfl rfl rfl rfl rfl rfl rfl rfl rfl (s_S_copyFrom L e J (d + 0) M 26 4 zt_St_26 zt_St_4) ?_
  show zz_D (zm_N_image, d + 9, 11, [some (.ref 1)], []) (zt_T L, zt_R, (w_S_copyFrom M 26 4), J, e) = _
  refine (zz_go 1 (fr' := (zm_N_image, d + 9, 12, [some (.ref 1)], [.ref 1])) (h' := (zt_T L, zt_R, (w_S_copyFrom M 26 4), J, e)) (fun _ => rfl)).trans ?_
  refine zl_getR rfl rfl rfl ?_
  refine (zz_go 1 (fr' := (zm_N_image, d + 9, 16, [some (.ref 1)], [.ref 1, .ref 51])) (h' := (zt_T L, zt_R, (w_S_copyFrom M 26 4), J, e)) (fun _ => rfl)).trans ?_
  refine zl_getR rfl rfl rfl ?_
  refine zl_vt (d := d + 8) rfl rfl rfl rfl rfl rfl rfl rfl rfl rfl (s_L_copyFrom L e J (d + 0) (w_S_copyFrom M 26 4) 51 37 zt_Lw_51 zt_Lw_37) ?_
  show zz_D (zm_N_image, d + 9, 22, [some (.ref 1)], []) (zt_T L, zt_R, (w_L_copyFrom (w_S_copyFrom M 26 4) 51 37), J, e) = _
  refine (zz_go 2 (fr' := (zm_N_image, d + 9, 24, [some (.ref 1)], [.int (1 : Int32), .ref 1])) (h' := (zt_T L, zt_R, (w_L_copyFrom (w_S_copyFrom M 26 4) 51 37), J, e)) (fun _ => rfl)).trans ?_
  refine zl_putI rfl rfl rfl rfl ?_
  refine (zz_end 1 (r := (.inl none, (zt_T L, zt_R, (zz_up (w_L_copyFrom (w_S_copyFrom M 26 4) 51 37) 1 8 (1 : Int32)), J, e))) (fun _ => rfl)).trans ?_
  rfl
def v_N_back (M : zMem) : Bool := (bif (decide ((M 1 8) = 0)) then false else true)
def w_N_back (M : zMem) : zMem := (bif (decide ((M 1 8) = 0)) then M else (w_A_forget (w_L_copyFrom (w_S_copyFrom M 4 26) 37 51)))
set_option maxRecDepth 20000 in
set_option maxHeartbeats 2000000 in
theorem s_N_back (L e : Nat) (J : zJem) (d : Nat) (M : zMem) : zz_D (zm_N_back, d + 9, 0, [some (.ref 1)], []) (zt_T L, zt_R, M, J, e) = some (.inl (some (.int (zb (v_N_back M)))), (zt_T L, zt_R, (w_N_back M), J, e)) := by
  unfold v_N_back w_N_back
  refine (zz_go 1 (fr' := (zm_N_back, d + 9, 1, [some (.ref 1)], [.ref 1])) (h' := (zt_T L, zt_R, M, J, e)) (fun _ => rfl)).trans ?_
  refine zl_getI rfl (by decide) rfl rfl ?_
  rcases zz_bc (decide ((M 1 8) = 0)) with h1 | h1
  · refine zo_neT rfl h1 ?_
    refine (zz_go 1 (fr' := (zm_N_back, d + 9, 8, [some (.ref 1)], [.int (0 : Int32)])) (h' := (zt_T L, zt_R, M, J, e)) (fun _ => rfl)).trans ?_
    refine zl_retI rfl rfl ?_
    first | (simp only [h1, zk_t, zk_f, zb_t, zb_f]; done) | (simp only [h1, zk_t, zk_f, zb_t, zb_f]; rfl) | rfl
  · refine zo_neF rfl h1 ?_
    refine (zz_go 1 (fr' := (zm_N_back, d + 9, 10, [some (.ref 1)], [.ref 1])) (h' := (zt_T L, zt_R, M, J, e)) (fun _ => rfl)).trans ?_
    refine zl_getR rfl rfl rfl ?_
    refine (zz_go 1 (fr' := (zm_N_back, d + 9, 14, [some (.ref 1)], [.ref 1, .ref 4])) (h' := (zt_T L, zt_R, M, J, e)) (fun _ => rfl)).trans ?_
    refine zl_getR rfl rfl rfl ?_
    refine zl_vt (d := d + 8) rfl rfl rfl rfl rfl rfl rfl rfl rfl rfl (s_S_copyFrom L e J (d + 0) M 4 26 zt_St_4 zt_St_26) ?_
    show zz_D (zm_N_back, d + 9, 20, [some (.ref 1)], []) (zt_T L, zt_R, (w_S_copyFrom M 4 26), J, e) = _
    refine (zz_go 1 (fr' := (zm_N_back, d + 9, 21, [some (.ref 1)], [.ref 1])) (h' := (zt_T L, zt_R, (w_S_copyFrom M 4 26), J, e)) (fun _ => rfl)).trans ?_
    refine zl_getR rfl rfl rfl ?_
    refine (zz_go 1 (fr' := (zm_N_back, d + 9, 25, [some (.ref 1)], [.ref 1, .ref 37])) (h' := (zt_T L, zt_R, (w_S_copyFrom M 4 26), J, e)) (fun _ => rfl)).trans ?_
    refine zl_getR rfl rfl rfl ?_
    refine zl_vt (d := d + 8) rfl rfl rfl rfl rfl rfl rfl rfl rfl rfl (s_L_copyFrom L e J (d + 0) (w_S_copyFrom M 4 26) 37 51 zt_Lw_37 zt_Lw_51) ?_
    show zz_D (zm_N_back, d + 9, 31, [some (.ref 1)], []) (zt_T L, zt_R, (w_L_copyFrom (w_S_copyFrom M 4 26) 37 51), J, e) = _
    refine (zz_go 1 (fr' := (zm_N_back, d + 9, 32, [some (.ref 1)], [.ref 1])) (h' := (zt_T L, zt_R, (w_L_copyFrom (w_S_copyFrom M 4 26) 37 51), J, e)) (fun _ => rfl)).trans ?_
    refine zl_getR rfl rfl rfl ?_
    refine zl_vt (d := d + 8) rfl rfl rfl rfl rfl rfl rfl rfl rfl rfl (s_A_forget L e J (d + 7) (w_L_copyFrom (w_S_copyFrom M 4 26) 37 51)) ?_
    show zz_D (zm_N_back, d + 9, 38, [some (.ref 1)], []) (zt_T L, zt_R, (w_A_forget (w_L_copyFrom (w_S_copyFrom M 4 26) 37 51)), J, e) = _
    refine (zz_go 1 (fr' := (zm_N_back, d + 9, 39, [some (.ref 1)], [.int (1 : Int32)])) (h' := (zt_T L, zt_R, (w_A_forget (w_L_copyFrom (w_S_copyFrom M 4 26) 37 51)), J, e)) (fun _ => rfl)).trans ?_
    refine zl_retI rfl rfl ?_
    first | (simp only [h1, zk_t, zk_f, zb_t, zb_f]; done) | (simp only [h1, zk_t, zk_f, zb_t, zb_f]; rfl) | rfl
def v_N_count (M : zMem) (x0 : Int32) : Int32 := (bif (decide (x0 = (0 : Int32))) then (M 4 10) else (bif (decide (x0 = (1 : Int32))) then (M 4 15) else (bif (decide (x0 = (2 : Int32))) then (M 37 0) else (bif (decide (x0 = (3 : Int32))) then (M 4 12) else (bif (decide (x0 = (4 : Int32))) then (M 4 11) else (bif (decide (x0 = (5 : Int32))) then (M 4 13) else (bif (decide (x0 = (6 : Int32))) then (v_S_deedsOfAll M 4) else (bif (decide (x0 = (7 : Int32))) then (v_S_fameOfAll M 4) else (bif (decide (x0 = (8 : Int32))) then (v_S_rubbedOfAll M 4) else (bif (decide (x0 = (9 : Int32))) then (M 4 16) else (bif (decide (x0 = (10 : Int32))) then (v_A_size M) else (-1 : Int32))))))))))))
def ok_N_count (M : zMem) (x0 : Int32) : Prop := ((decide (x0 = (0 : Int32))) = false → ((decide (x0 = (1 : Int32))) = false → ((decide (x0 = (2 : Int32))) = false → ((decide (x0 = (3 : Int32))) = false → ((decide (x0 = (4 : Int32))) = false → ((decide (x0 = (5 : Int32))) = false → (((decide (x0 = (6 : Int32))) = true → ok_S_deedsOfAll M 4) ∧ ((decide (x0 = (6 : Int32))) = false → (((decide (x0 = (7 : Int32))) = true → ok_S_fameOfAll M 4) ∧ ((decide (x0 = (7 : Int32))) = false → ((decide (x0 = (8 : Int32))) = true → ok_S_rubbedOfAll M 4)))))))))))
set_option maxRecDepth 20000 in
set_option maxHeartbeats 2000000 in
theorem s_N_count (L e : Nat) (J : zJem) (d : Nat) (M : zMem) (x0 : Int32) (k0 : ok_N_count M x0) : zz_D (zm_N_count, d + 4, 0, [some (.ref 1), some (.int x0)], []) (zt_T L, zt_R, M, J, e) = some (.inl (some (.int (v_N_count M x0))), (zt_T L, zt_R, M, J, e)) := by
  unfold ok_N_count at k0
  unfold v_N_count
  refine (zz_go 1 (fr' := (zm_N_count, d + 4, 1, [some (.ref 1), some (.int x0)], [.int x0])) (h' := (zt_T L, zt_R, M, J, e)) (fun _ => rfl)).trans ?_
  rcases zz_bc (decide (x0 = (0 : Int32))) with h1 | h1
  · refine zl_swc (A := (zm_N_count, d + 4, 60, [some (.ref 1), some (.int x0)], [])) h1 (fun _ => rfl) ?_
    refine (zz_go 1 (fr' := (zm_N_count, d + 4, 61, [some (.ref 1), some (.int x0)], [.ref 1])) (h' := (zt_T L, zt_R, M, J, e)) (fun _ => rfl)).trans ?_
    refine zl_getR rfl rfl rfl ?_
    refine zl_getI rfl (by decide) rfl rfl ?_
    refine zl_retI rfl rfl ?_
    first | (simp only [h1, zk_t, zk_f, zb_t, zb_f]; done) | (simp only [h1, zk_t, zk_f, zb_t, zb_f]; rfl) | rfl
  · have k2 := k0 h1
    rcases zz_bc (decide (x0 = (1 : Int32))) with h3 | h3
    · refine zl_swc (A := (zm_N_count, d + 4, 68, [some (.ref 1), some (.int x0)], [])) h3 (fun _ => rfl) ?_
      refine (zz_go 1 (fr' := (zm_N_count, d + 4, 69, [some (.ref 1), some (.int x0)], [.ref 1])) (h' := (zt_T L, zt_R, M, J, e)) (fun _ => rfl)).trans ?_
      refine zl_getR rfl rfl rfl ?_
      refine zl_getI rfl (by decide) rfl rfl ?_
      refine zl_retI rfl rfl ?_
      first | (simp only [h1, h3, zk_t, zk_f, zb_t, zb_f]; done) | (simp only [h1, h3, zk_t, zk_f, zb_t, zb_f]; rfl) | rfl
    · have k4 := k2 h3
      rcases zz_bc (decide (x0 = (2 : Int32))) with h5 | h5
      · refine zl_swc (A := (zm_N_count, d + 4, 76, [some (.ref 1), some (.int x0)], [])) h5 (fun _ => rfl) ?_
        refine (zz_go 1 (fr' := (zm_N_count, d + 4, 77, [some (.ref 1), some (.int x0)], [.ref 1])) (h' := (zt_T L, zt_R, M, J, e)) (fun _ => rfl)).trans ?_
        refine zl_getR rfl rfl rfl ?_
        refine zl_getI rfl (by decide) rfl rfl ?_
        refine zl_retI rfl rfl ?_
        first | (simp only [h1, h3, h5, zk_t, zk_f, zb_t, zb_f]; done) | (simp only [h1, h3, h5, zk_t, zk_f, zb_t, zb_f]; rfl) | rfl
      · have k6 := k4 h5
        rcases zz_bc (decide (x0 = (3 : Int32))) with h7 | h7
        · refine zl_swc (A := (zm_N_count, d + 4, 84, [some (.ref 1), some (.int x0)], [])) h7 (fun _ => rfl) ?_
          refine (zz_go 1 (fr' := (zm_N_count, d + 4, 85, [some (.ref 1), some (.int x0)], [.ref 1])) (h' := (zt_T L, zt_R, M, J, e)) (fun _ => rfl)).trans ?_
          refine zl_getR rfl rfl rfl ?_
          refine zl_getI rfl (by decide) rfl rfl ?_
          refine zl_retI rfl rfl ?_
          first | (simp only [h1, h3, h5, h7, zk_t, zk_f, zb_t, zb_f]; done) | (simp only [h1, h3, h5, h7, zk_t, zk_f, zb_t, zb_f]; rfl) | rfl
        · have k8 := k6 h7
          rcases zz_bc (decide (x0 = (4 : Int32))) with h9 | h9
          · refine zl_swc (A := (zm_N_count, d + 4, 92, [some (.ref 1), some (.int x0)], [])) h9 (fun _ => rfl) ?_
            refine (zz_go 1 (fr' := (zm_N_count, d + 4, 93, [some (.ref 1), some (.int x0)], [.ref 1])) (h' := (zt_T L, zt_R, M, J, e)) (fun _ => rfl)).trans ?_
            refine zl_getR rfl rfl rfl ?_
            refine zl_getI rfl (by decide) rfl rfl ?_
            refine zl_retI rfl rfl ?_
            first | (simp only [h1, h3, h5, h7, h9, zk_t, zk_f, zb_t, zb_f]; done) | (simp only [h1, h3, h5, h7, h9, zk_t, zk_f, zb_t, zb_f]; rfl) | rfl
          · have k10 := k8 h9
            rcases zz_bc (decide (x0 = (5 : Int32))) with h11 | h11
            · refine zl_swc (A := (zm_N_count, d + 4, 100, [some (.ref 1), some (.int x0)], [])) h11 (fun _ => rfl) ?_
              refine (zz_go 1 (fr' := (zm_N_count, d + 4, 101, [some (.ref 1), some (.int x0)], [.ref 1])) (h' := (zt_T L, zt_R, M, J, e)) (fun _ => rfl)).trans ?_
              refine zl_getR rfl rfl rfl ?_
              refine zl_getI rfl (by decide) rfl rfl ?_
              refine zl_retI rfl rfl ?_
              first | (simp only [h1, h3, h5, h7, h9, h11, zk_t, zk_f, zb_t, zb_f]; done) | (simp only [h1, h3, h5, h7, h9, h11, zk_t, zk_f, zb_t, zb_f]; rfl) | rfl
            · have k12 := k10 h11
              obtain ⟨k14, k15⟩ := k12
              rcases zz_bc (decide (x0 = (6 : Int32))) with h13 | h13
              · refine zl_swc (A := (zm_N_count, d + 4, 108, [some (.ref 1), some (.int x0)], [])) h13 (fun _ => rfl) ?_
                have k16 := k14 h13
                refine (zz_go 1 (fr' := (zm_N_count, d + 4, 109, [some (.ref 1), some (.int x0)], [.ref 1])) (h' := (zt_T L, zt_R, M, J, e)) (fun _ => rfl)).trans ?_
                refine zl_getR rfl rfl rfl ?_
                have g17 : ok_S_deedsOfAll M 4 := k16
                refine zl_vt (d := d + 3) rfl rfl rfl rfl rfl rfl rfl rfl rfl rfl (s_S_deedsOfAll L e J (d + 0) M 4 zt_St_4 g17) ?_
                show zz_D (zm_N_count, d + 4, 115, [some (.ref 1), some (.int x0)], [.int (v_S_deedsOfAll M 4)]) (zt_T L, zt_R, M, J, e) = _
                refine zl_retI rfl rfl ?_
                first | (simp only [h1, h3, h5, h7, h9, h11, h13, zk_t, zk_f, zb_t, zb_f]; done) | (simp only [h1, h3, h5, h7, h9, h11, h13, zk_t, zk_f, zb_t, zb_f]; rfl) | rfl
              · have k18 := k15 h13
                obtain ⟨k20, k21⟩ := k18
                rcases zz_bc (decide (x0 = (7 : Int32))) with h19 | h19
                · refine zl_swc (A := (zm_N_count, d + 4, 116, [some (.ref 1), some (.int x0)], [])) h19 (fun _ => rfl) ?_
                  have k22 := k20 h19
                  refine (zz_go 1 (fr' := (zm_N_count, d + 4, 117, [some (.ref 1), some (.int x0)], [.ref 1])) (h' := (zt_T L, zt_R, M, J, e)) (fun _ => rfl)).trans ?_
                  refine zl_getR rfl rfl rfl ?_
                  have g23 : ok_S_fameOfAll M 4 := k22
                  refine zl_vt (d := d + 3) rfl rfl rfl rfl rfl rfl rfl rfl rfl rfl (s_S_fameOfAll L e J (d + 2) M 4 zt_St_4 g23) ?_
                  show zz_D (zm_N_count, d + 4, 123, [some (.ref 1), some (.int x0)], [.int (v_S_fameOfAll M 4)]) (zt_T L, zt_R, M, J, e) = _
                  refine zl_retI rfl rfl ?_
                  first | (simp only [h1, h3, h5, h7, h9, h11, h13, h19, zk_t, zk_f, zb_t, zb_f]; done) | (simp only [h1, h3, h5, h7, h9, h11, h13, h19, zk_t, zk_f, zb_t, zb_f]; rfl) | rfl
                · have k24 := k21 h19
                  rcases zz_bc (decide (x0 = (8 : Int32))) with h25 | h25
                  · refine zl_swc (A := (zm_N_count, d + 4, 124, [some (.ref 1), some (.int x0)], [])) h25 (fun _ => rfl) ?_
                    have k26 := k24 h25
                    refine (zz_go 1 (fr' := (zm_N_count, d + 4, 125, [some (.ref 1), some (.int x0)], [.ref 1])) (h' := (zt_T L, zt_R, M, J, e)) (fun _ => rfl)).trans ?_
                    refine zl_getR rfl rfl rfl ?_
                    have g27 : ok_S_rubbedOfAll M 4 := k26
                    refine zl_vt (d := d + 3) rfl rfl rfl rfl rfl rfl rfl rfl rfl rfl (s_S_rubbedOfAll L e J (d + 0) M 4 zt_St_4 g27) ?_
                    show zz_D (zm_N_count, d + 4, 131, [some (.ref 1), some (.int x0)], [.int (v_S_rubbedOfAll M 4)]) (zt_T L, zt_R, M, J, e) = _
                    refine zl_retI rfl rfl ?_
                    first | (simp only [h1, h3, h5, h7, h9, h11, h13, h19, h25, zk_t, zk_f, zb_t, zb_f]; done) | (simp only [h1, h3, h5, h7, h9, h11, h13, h19, h25, zk_t, zk_f, zb_t, zb_f]; rfl) | rfl
                  · skip
                    rcases zz_bc (decide (x0 = (9 : Int32))) with h28 | h28
                    · refine zl_swc (A := (zm_N_count, d + 4, 132, [some (.ref 1), some (.int x0)], [])) h28 (fun _ => rfl) ?_
                      refine (zz_go 1 (fr' := (zm_N_count, d + 4, 133, [some (.ref 1), some (.int x0)], [.ref 1])) (h' := (zt_T L, zt_R, M, J, e)) (fun _ => rfl)).trans ?_
                      refine zl_getR rfl rfl rfl ?_
                      refine zl_getI rfl (by decide) rfl rfl ?_
                      refine zl_retI rfl rfl ?_
                      first | (simp only [h1, h3, h5, h7, h9, h11, h13, h19, h25, h28, zk_t, zk_f, zb_t, zb_f]; done) | (simp only [h1, h3, h5, h7, h9, h11, h13, h19, h25, h28, zk_t, zk_f, zb_t, zb_f]; rfl) | rfl
                    · skip
                      rcases zz_bc (decide (x0 = (10 : Int32))) with h29 | h29
                      · refine zl_swc (A := (zm_N_count, d + 4, 140, [some (.ref 1), some (.int x0)], [])) h29 (fun _ => rfl) ?_
                        refine (zz_go 1 (fr' := (zm_N_count, d + 4, 141, [some (.ref 1), some (.int x0)], [.ref 1])) (h' := (zt_T L, zt_R, M, J, e)) (fun _ => rfl)).trans ?_
                        refine zl_getR rfl rfl rfl ?_
                        refine zl_vt (d := d + 3) rfl rfl rfl rfl rfl rfl rfl rfl rfl rfl (s_A_size L e J (d + 2) M) ?_
                        show zz_D (zm_N_count, d + 4, 147, [some (.ref 1), some (.int x0)], [.int (v_A_size M)]) (zt_T L, zt_R, M, J, e) = _
                        refine zl_retI rfl rfl ?_
                        first | (simp only [h1, h3, h5, h7, h9, h11, h13, h19, h25, h28, h29, zk_t, zk_f, zb_t, zb_f]; done) | (simp only [h1, h3, h5, h7, h9, h11, h13, h19, h25, h28, h29, zk_t, zk_f, zb_t, zb_f]; rfl) | rfl
                      · skip
                        refine zl_swd rfl (by have e0 : (x0).toInt ≠ 0 := zsw_ne h1; have e1 : (x0).toInt ≠ 1 := zsw_ne h3; have e2 : (x0).toInt ≠ 2 := zsw_ne h5; have e3 : (x0).toInt ≠ 3 := zsw_ne h7; have e4 : (x0).toInt ≠ 4 := zsw_ne h9; have e5 : (x0).toInt ≠ 5 := zsw_ne h11; have e6 : (x0).toInt ≠ 6 := zsw_ne h13; have e7 : (x0).toInt ≠ 7 := zsw_ne h19; have e8 : (x0).toInt ≠ 8 := zsw_ne h25; have e9 : (x0).toInt ≠ 9 := zsw_ne h28; have e10 : (x0).toInt ≠ 10 := zsw_ne h29; simp only [Bool.or_eq_true, decide_eq_true_eq]; omega) rfl ?_
                        refine (zz_go 1 (fr' := (zm_N_count, d + 4, 149, [some (.ref 1), some (.int x0)], [.int (-1 : Int32)])) (h' := (zt_T L, zt_R, M, J, e)) (fun _ => rfl)).trans ?_
                        refine zl_retI rfl rfl ?_
                        first | (simp only [h1, h3, h5, h7, h9, h11, h13, h19, h25, h28, h29, zk_t, zk_f, zb_t, zb_f]; done) | (simp only [h1, h3, h5, h7, h9, h11, h13, h19, h25, h28, h29, zk_t, zk_f, zb_t, zb_f]; rfl) | rfl
def v_D_thrown (M : zMem) : Int32 := (M 194 0)
set_option maxRecDepth 20000 in
set_option maxHeartbeats 2000000 in
theorem s_D_thrown (L e : Nat) (J : zJem) (d : Nat) (M : zMem) : zz_D (zm_D_thrown, d + 1, 0, [some (.ref 194)], []) (zt_T L, zt_R, M, J, e) = some (.inl (some (.int (v_D_thrown M))), (zt_T L, zt_R, M, J, e)) := by
  unfold v_D_thrown
  refine (zz_go 1 (fr' := (zm_D_thrown, d + 1, 1, [some (.ref 194)], [.ref 194])) (h' := (zt_T L, zt_R, M, J, e)) (fun _ => rfl)).trans ?_
  refine zl_getI rfl (by decide) rfl rfl ?_
  refine zl_retI rfl rfl ?_
  rfl
def v_D_isIn (x0 : Int32) (x1 : Int32) (x2 : Int32) : Bool := (bif (decide (x0 < x1)) then false else (bif (decide (x2 < x0)) then false else true))
set_option maxRecDepth 20000 in
set_option maxHeartbeats 2000000 in
theorem s_D_isIn (L e : Nat) (J : zJem) (d : Nat) {M : zMem} (x0 : Int32) (x1 : Int32) (x2 : Int32) : zz_D (zm_D_isIn, d + 1, 0, [some (.int x0), some (.int x1), some (.int x2)], []) (zt_T L, zt_R, M, J, e) = some (.inl (some (.int (zb (v_D_isIn x0 x1 x2)))), (zt_T L, zt_R, M, J, e)) := by
  unfold v_D_isIn
  refine zz_jn (X := zz_D (zm_D_isIn, d + 1, 15, [none, none, none], [.int (zb (bif (decide (x0 < x1)) then false else (bif (decide (x2 < x0)) then false else true)))]) (zt_T L, zt_R, M, J, e)) (fun j1 => ?_) ?_
  · refine (zz_go 2 (fr' := (zm_D_isIn, d + 1, 2, [some (.int x0), some (.int x1), some (.int x2)], [.int x1, .int x0])) (h' := (zt_T L, zt_R, M, J, e)) (fun _ => rfl)).trans ?_
    rcases zz_bc (decide (x0 < x1)) with h2 | h2
    · refine zc_ltT rfl h2 ?_
      refine (zz_go 1 (fr' := (zm_D_isIn, d + 1, 15, [some (.int x0), some (.int x1), some (.int x2)], [.int (0 : Int32)])) (h' := (zt_T L, zt_R, M, J, e)) (fun _ => rfl)).trans ?_
      refine zz_weak (L := [none, none, none]) ⟨Or.inr ⟨rfl, rfl⟩, Or.inr ⟨rfl, rfl⟩, Or.inr ⟨rfl, rfl⟩, trivial⟩ ?_
      simpa only [h2, zk_t, zk_f, zb_t, zb_f] using j1
    · refine zc_ltF rfl h2 ?_
      refine zz_jn (X := zz_D (zm_D_isIn, d + 1, 15, [none, none, none], [.int (zb (bif (decide (x2 < x0)) then false else true))]) (zt_T L, zt_R, M, J, e)) (fun j3 => ?_) ?_
      · refine (zz_go 2 (fr' := (zm_D_isIn, d + 1, 7, [some (.int x0), some (.int x1), some (.int x2)], [.int x2, .int x0])) (h' := (zt_T L, zt_R, M, J, e)) (fun _ => rfl)).trans ?_
        rcases zz_bc (decide (x2 < x0)) with h4 | h4
        · refine zc_gtT rfl h4 ?_
          refine (zz_go 1 (fr' := (zm_D_isIn, d + 1, 15, [some (.int x0), some (.int x1), some (.int x2)], [.int (0 : Int32)])) (h' := (zt_T L, zt_R, M, J, e)) (fun _ => rfl)).trans ?_
          refine zz_weak (L := [none, none, none]) ⟨Or.inr ⟨rfl, rfl⟩, Or.inr ⟨rfl, rfl⟩, Or.inr ⟨rfl, rfl⟩, trivial⟩ ?_
          simpa only [h4, zk_t, zk_f, zb_t, zb_f] using j3
        · refine zc_gtF rfl h4 ?_
          refine (zz_go 2 (fr' := (zm_D_isIn, d + 1, 15, [some (.int x0), some (.int x1), some (.int x2)], [.int (1 : Int32)])) (h' := (zt_T L, zt_R, M, J, e)) (fun _ => rfl)).trans ?_
          refine zz_weak (L := [none, none, none]) ⟨Or.inr ⟨rfl, rfl⟩, Or.inr ⟨rfl, rfl⟩, Or.inr ⟨rfl, rfl⟩, trivial⟩ ?_
          simpa only [h4, zk_t, zk_f, zb_t, zb_f] using j3
      simpa only [h2, zk_t, zk_f, zb_t, zb_f] using j1
  refine zl_retI rfl (zb_01 _) ?_
  rfl
def v_D_lesser (x0 : Int32) (x1 : Int32) : Int32 := (bif (decide (x1 ≤ x0)) then x1 else x0)
set_option maxRecDepth 20000 in
set_option maxHeartbeats 2000000 in
theorem s_D_lesser (L e : Nat) (J : zJem) (d : Nat) {M : zMem} (x0 : Int32) (x1 : Int32) : zz_D (zm_D_lesser, d + 1, 0, [some (.int x0), some (.int x1)], []) (zt_T L, zt_R, M, J, e) = some (.inl (some (.int (v_D_lesser x0 x1))), (zt_T L, zt_R, M, J, e)) := by
  unfold v_D_lesser
  refine zz_jn (X := zz_D (zm_D_lesser, d + 1, 10, [none, none], [.int (bif (decide (x1 ≤ x0)) then x1 else x0)]) (zt_T L, zt_R, M, J, e)) (fun j1 => ?_) ?_
  · refine (zz_go 2 (fr' := (zm_D_lesser, d + 1, 2, [some (.int x0), some (.int x1)], [.int x1, .int x0])) (h' := (zt_T L, zt_R, M, J, e)) (fun _ => rfl)).trans ?_
    rcases zz_bc (decide (x1 ≤ x0)) with h2 | h2
    · refine zc_geT rfl h2 ?_
      refine (zz_go 1 (fr' := (zm_D_lesser, d + 1, 10, [some (.int x0), some (.int x1)], [.int x1])) (h' := (zt_T L, zt_R, M, J, e)) (fun _ => rfl)).trans ?_
      refine zz_weak (L := [none, none]) ⟨Or.inr ⟨rfl, rfl⟩, Or.inr ⟨rfl, rfl⟩, trivial⟩ ?_
      simpa only [h2, zk_t, zk_f, zb_t, zb_f] using j1
    · refine zc_geF rfl h2 ?_
      refine (zz_go 2 (fr' := (zm_D_lesser, d + 1, 10, [some (.int x0), some (.int x1)], [.int x0])) (h' := (zt_T L, zt_R, M, J, e)) (fun _ => rfl)).trans ?_
      refine zz_weak (L := [none, none]) ⟨Or.inr ⟨rfl, rfl⟩, Or.inr ⟨rfl, rfl⟩, trivial⟩ ?_
      simpa only [h2, zk_t, zk_f, zb_t, zb_f] using j1
  refine zl_retI rfl rfl ?_
  rfl
def v_D_greater (x0 : Int32) (x1 : Int32) : Int32 := (bif (decide (x0 ≤ x1)) then x1 else x0)
set_option maxRecDepth 20000 in
set_option maxHeartbeats 2000000 in
theorem s_D_greater (L e : Nat) (J : zJem) (d : Nat) {M : zMem} (x0 : Int32) (x1 : Int32) : zz_D (zm_D_greater, d + 1, 0, [some (.int x0), some (.int x1)], []) (zt_T L, zt_R, M, J, e) = some (.inl (some (.int (v_D_greater x0 x1))), (zt_T L, zt_R, M, J, e)) := by
  unfold v_D_greater
  refine zz_jn (X := zz_D (zm_D_greater, d + 1, 10, [none, none], [.int (bif (decide (x0 ≤ x1)) then x1 else x0)]) (zt_T L, zt_R, M, J, e)) (fun j1 => ?_) ?_
  · refine (zz_go 2 (fr' := (zm_D_greater, d + 1, 2, [some (.int x0), some (.int x1)], [.int x1, .int x0])) (h' := (zt_T L, zt_R, M, J, e)) (fun _ => rfl)).trans ?_
    rcases zz_bc (decide (x0 ≤ x1)) with h2 | h2
    · refine zc_leT rfl h2 ?_
      refine (zz_go 1 (fr' := (zm_D_greater, d + 1, 10, [some (.int x0), some (.int x1)], [.int x1])) (h' := (zt_T L, zt_R, M, J, e)) (fun _ => rfl)).trans ?_
      refine zz_weak (L := [none, none]) ⟨Or.inr ⟨rfl, rfl⟩, Or.inr ⟨rfl, rfl⟩, trivial⟩ ?_
      simpa only [h2, zk_t, zk_f, zb_t, zb_f] using j1
    · refine zc_leF rfl h2 ?_
      refine (zz_go 2 (fr' := (zm_D_greater, d + 1, 10, [some (.int x0), some (.int x1)], [.int x0])) (h' := (zt_T L, zt_R, M, J, e)) (fun _ => rfl)).trans ?_
      refine zz_weak (L := [none, none]) ⟨Or.inr ⟨rfl, rfl⟩, Or.inr ⟨rfl, rfl⟩, trivial⟩ ?_
      simpa only [h2, zk_t, zk_f, zb_t, zb_f] using j1
  refine zl_retI rfl rfl ?_
  rfl
def v_D_isOf (x0 : Int32) (x1 : Int32) : Bool := (decide (((zsr x0 x1) &&& (1 : Int32)) = (1 : Int32)))
set_option maxRecDepth 20000 in
set_option maxHeartbeats 2000000 in
theorem s_D_isOf (L e : Nat) (J : zJem) (d : Nat) {M : zMem} (x0 : Int32) (x1 : Int32) : zz_D (zm_D_isOf, d + 1, 0, [some (.int x0), some (.int x1)], []) (zt_T L, zt_R, M, J, e) = some (.inl (some (.int (zb (v_D_isOf x0 x1)))), (zt_T L, zt_R, M, J, e)) := by
  unfold v_D_isOf
  refine zz_jn (X := zz_D (zm_D_isOf, d + 1, 14, [none, none], [.int (zb (decide (((zsr x0 x1) &&& (1 : Int32)) = (1 : Int32))))]) (zt_T L, zt_R, M, J, e)) (fun j1 => ?_) ?_
  · refine (zz_go 6 (fr' := (zm_D_isOf, d + 1, 6, [some (.int x0), some (.int x1)], [.int (1 : Int32), .int ((zsr x0 x1) &&& (1 : Int32))])) (h' := (zt_T L, zt_R, M, J, e)) (fun _ => rfl)).trans ?_
    rcases zz_bc (decide (((zsr x0 x1) &&& (1 : Int32)) = (1 : Int32))) with h2 | h2
    · refine zc_neT rfl h2 ?_
      refine (zz_go 2 (fr' := (zm_D_isOf, d + 1, 14, [some (.int x0), some (.int x1)], [.int (1 : Int32)])) (h' := (zt_T L, zt_R, M, J, e)) (fun _ => rfl)).trans ?_
      refine zz_weak (L := [none, none]) ⟨Or.inr ⟨rfl, rfl⟩, Or.inr ⟨rfl, rfl⟩, trivial⟩ ?_
      simpa only [h2, zk_t, zk_f, zb_t, zb_f] using j1
    · refine zc_neF rfl h2 ?_
      refine (zz_go 1 (fr' := (zm_D_isOf, d + 1, 14, [some (.int x0), some (.int x1)], [.int (0 : Int32)])) (h' := (zt_T L, zt_R, M, J, e)) (fun _ => rfl)).trans ?_
      refine zz_weak (L := [none, none]) ⟨Or.inr ⟨rfl, rfl⟩, Or.inr ⟨rfl, rfl⟩, trivial⟩ ?_
      simpa only [h2, zk_t, zk_f, zb_t, zb_f] using j1
  refine zl_retI rfl (zb_01 _) ?_
  rfl
def f_D_bits_1 (x0 : Int32) (i1 : Nat) (a1 : Int32) : Int32 := (a1 + ((zsr x0 (Int32.ofNat i1)) &&& (1 : Int32)))
def v_D_bits (x0 : Int32) : Int32 := (zf_for 31 (f_D_bits_1 x0) (0 : Int32))
set_option maxRecDepth 20000 in
set_option maxHeartbeats 2000000 in
theorem s_D_bits (L e : Nat) (J : zJem) (d : Nat) {M : zMem} (x0 : Int32) : zz_D (zm_D_bits, d + 1, 0, [some (.int x0), none, none], []) (zt_T L, zt_R, M, J, e) = some (.inl (some (.int (v_D_bits x0))), (zt_T L, zt_R, M, J, e)) := by
  unfold v_D_bits
  refine (zz_go 4 (fr' := (zm_D_bits, d + 1, 4, [some (.int x0), some (.int (0 : Int32)), some (.int (0 : Int32))], [])) (h' := (zt_T L, zt_R, M, J, e)) (fun _ => rfl)).trans ?_
  refine zf_forD (X := fun (i1 : Nat) (a1 : Int32) => zz_D (zm_D_bits, d + 1, 4, [some (.int x0), some (.int a1), some (.int (Int32.ofNat i1))], []) (zt_T L, zt_R, M, J, e)) (f := (f_D_bits_1 x0)) (a := (0 : Int32)) 31 (fun i1 hi1 => ?_) ?_
  · intro hx1
    generalize zf_for i1 (f_D_bits_1 x0) (0 : Int32) = a1 at hx1 ⊢
    show zz_D (zm_D_bits, d + 1, 4, [some (.int x0), some (.int a1), some (.int (Int32.ofNat i1))], []) (zt_T L, zt_R, M, J, e) = _
    refine (zz_go 2 (fr' := (zm_D_bits, d + 1, 7, [some (.int x0), some (.int a1), some (.int (Int32.ofNat i1))], [.int (31 : Int32), .int (Int32.ofNat i1)])) (h' := (zt_T L, zt_R, M, J, e)) (fun _ => rfl)).trans ?_
    refine zc_geF rfl (zi_ltc (n := 31) (by omega) (by decide)) ?_
    refine (zz_go 10 (fr' := (zm_D_bits, d + 1, 4, [some (.int x0), some (.int (a1 + ((zsr x0 (Int32.ofNat i1)) &&& (1 : Int32)))), some (.int (Int32.ofNat i1 + 1))], [])) (h' := (zt_T L, zt_R, M, J, e)) (fun _ => rfl)).trans ?_
    rw [zi_succ i1]
    exact hx1
  show zz_D (zm_D_bits, d + 1, 4, [some (.int x0), some (.int (zf_for 31 (f_D_bits_1 x0) (0 : Int32))), some (.int (Int32.ofNat 31))], []) (zt_T L, zt_R, M, J, e) = _
  refine (zz_go 2 (fr' := (zm_D_bits, d + 1, 7, [some (.int x0), some (.int (zf_for 31 (f_D_bits_1 x0) (0 : Int32))), some (.int (Int32.ofNat 31))], [.int (31 : Int32), .int (Int32.ofNat 31)])) (h' := (zt_T L, zt_R, M, J, e)) (fun _ => rfl)).trans ?_
  refine zc_geT rfl (by decide) ?_
  refine zz_weak (L := [none, some (.int (zf_for 31 (f_D_bits_1 x0) (0 : Int32))), none]) ⟨Or.inr ⟨rfl, rfl⟩, Or.inl rfl, Or.inr ⟨rfl, rfl⟩, trivial⟩ ?_
  refine (zz_go 1 (fr' := (zm_D_bits, d + 1, 25, [none, some (.int (zf_for 31 (f_D_bits_1 x0) (0 : Int32))), none], [.int (zf_for 31 (f_D_bits_1 x0) (0 : Int32))])) (h' := (zt_T L, zt_R, M, J, e)) (fun _ => rfl)).trans ?_
  refine zl_retI rfl rfl ?_
  rfl
def v_D_ofKind (M : zMem) (x0 : Int32) (x1 : Int32) : Int32 := (M 195 (((9 : Int32) + ((3 : Int32) * x0)) + x1).toNatClampNeg)
def ok_D_ofKind (M : zMem) (x0 : Int32) (x1 : Int32) : Prop := zz_in (((9 : Int32) + ((3 : Int32) * x0)) + x1) 709 = true
set_option maxRecDepth 20000 in
set_option maxHeartbeats 2000000 in
theorem s_D_ofKind (L e : Nat) (J : zJem) (d : Nat) (M : zMem) (x0 : Int32) (x1 : Int32) (k0 : ok_D_ofKind M x0 x1) : zz_D (zm_D_ofKind, d + 1, 0, [some (.ref 194), some (.int x0), some (.int x1)], []) (zt_T L, zt_R, M, J, e) = some (.inl (some (.int (v_D_ofKind M x0 x1))), (zt_T L, zt_R, M, J, e)) := by
  unfold ok_D_ofKind at k0
  unfold v_D_ofKind
  refine (zz_go 1 (fr' := (zm_D_ofKind, d + 1, 1, [some (.ref 194), some (.int x0), some (.int x1)], [.ref 194])) (h' := (zt_T L, zt_R, M, J, e)) (fun _ => rfl)).trans ?_
  refine zl_getR rfl rfl rfl ?_
  refine (zz_go 7 (fr' := (zm_D_ofKind, d + 1, 12, [some (.ref 194), some (.int x0), some (.int x1)], [.int (((9 : Int32) + ((3 : Int32) * x0)) + x1), .ref 195])) (h' := (zt_T L, zt_R, M, J, e)) (fun _ => rfl)).trans ?_
  have g1 : zz_in (((9 : Int32) + ((3 : Int32) * x0)) + x1) 709 = true := k0
  refine zl_iaload rfl rfl g1 rfl ?_
  refine zl_retI rfl rfl ?_
  rfl
def v_D_of (M : zMem) (x0 : Int32) (x1 : Int32) : Int32 := (M 195 (((33 : Int32) + ((6 : Int32) * x0)) + x1).toNatClampNeg)
def ok_D_of (M : zMem) (x0 : Int32) (x1 : Int32) : Prop := zz_in (((33 : Int32) + ((6 : Int32) * x0)) + x1) 709 = true
set_option maxRecDepth 20000 in
set_option maxHeartbeats 2000000 in
theorem s_D_of (L e : Nat) (J : zJem) (d : Nat) (M : zMem) (x0 : Int32) (x1 : Int32) (k0 : ok_D_of M x0 x1) : zz_D (zm_D_of, d + 1, 0, [some (.ref 194), some (.int x0), some (.int x1)], []) (zt_T L, zt_R, M, J, e) = some (.inl (some (.int (v_D_of M x0 x1))), (zt_T L, zt_R, M, J, e)) := by
  unfold ok_D_of at k0
  unfold v_D_of
  refine (zz_go 1 (fr' := (zm_D_of, d + 1, 1, [some (.ref 194), some (.int x0), some (.int x1)], [.ref 194])) (h' := (zt_T L, zt_R, M, J, e)) (fun _ => rfl)).trans ?_
  refine zl_getR rfl rfl rfl ?_
  refine (zz_go 7 (fr' := (zm_D_of, d + 1, 13, [some (.ref 194), some (.int x0), some (.int x1)], [.int (((33 : Int32) + ((6 : Int32) * x0)) + x1), .ref 195])) (h' := (zt_T L, zt_R, M, J, e)) (fun _ => rfl)).trans ?_
  have g1 : zz_in (((33 : Int32) + ((6 : Int32) * x0)) + x1) 709 = true := k0
  refine zl_iaload rfl rfl g1 rfl ?_
  refine zl_retI rfl rfl ?_
  rfl
def w_D_lays (M : zMem) (x0 : Int32) (x1 : Int32) (x2 : Int32) : zMem := (zz_up M 195 (((33 : Int32) + ((6 : Int32) * x0)) + x1).toNatClampNeg x2)
def ok_D_lays (M : zMem) (x0 : Int32) (x1 : Int32) (x2 : Int32) : Prop := zz_in (((33 : Int32) + ((6 : Int32) * x0)) + x1) 709 = true
set_option maxRecDepth 20000 in
set_option maxHeartbeats 2000000 in
theorem s_D_lays (L e : Nat) (J : zJem) (d : Nat) (M : zMem) (x0 : Int32) (x1 : Int32) (x2 : Int32) (k0 : ok_D_lays M x0 x1 x2) : zz_D (zm_D_lays, d + 1, 0, [some (.ref 194), some (.int x0), some (.int x1), some (.int x2)], []) (zt_T L, zt_R, M, J, e) = some (.inl (none), (zt_T L, zt_R, (w_D_lays M x0 x1 x2), J, e)) := by
  unfold ok_D_lays at k0
  unfold w_D_lays
  refine (zz_go 1 (fr' := (zm_D_lays, d + 1, 1, [some (.ref 194), some (.int x0), some (.int x1), some (.int x2)], [.ref 194])) (h' := (zt_T L, zt_R, M, J, e)) (fun _ => rfl)).trans ?_
  refine zl_getR rfl rfl rfl ?_
  refine (zz_go 8 (fr' := (zm_D_lays, d + 1, 14, [some (.ref 194), some (.int x0), some (.int x1), some (.int x2)], [.int x2, .int (((33 : Int32) + ((6 : Int32) * x0)) + x1), .ref 195])) (h' := (zt_T L, zt_R, M, J, e)) (fun _ => rfl)).trans ?_
  have g1 : zz_in (((33 : Int32) + ((6 : Int32) * x0)) + x1) 709 = true := k0
  refine zl_iastore rfl rfl g1 rfl rfl ?_
  refine (zz_end 1 (r := (.inl none, (zt_T L, zt_R, (zz_up M 195 (((33 : Int32) + ((6 : Int32) * x0)) + x1).toNatClampNeg x2), J, e))) (fun _ => rfl)).trans ?_
  rfl
def v_D_isOne (M : zMem) (x0 : Int32) : Bool := (v_D_isIn x0 (0 : Int32) ((M 195 3) - (1 : Int32)))
set_option maxRecDepth 20000 in
set_option maxHeartbeats 2000000 in
theorem s_D_isOne (L e : Nat) (J : zJem) (d : Nat) (M : zMem) (x0 : Int32) : zz_D (zm_D_isOne, d + 2, 0, [some (.ref 194), some (.int x0)], []) (zt_T L, zt_R, M, J, e) = some (.inl (some (.int (zb (v_D_isOne M x0)))), (zt_T L, zt_R, M, J, e)) := by
  unfold v_D_isOne
  refine (zz_go 3 (fr' := (zm_D_isOne, d + 2, 3, [some (.ref 194), some (.int x0)], [.ref 194, .int (0 : Int32), .int x0])) (h' := (zt_T L, zt_R, M, J, e)) (fun _ => rfl)).trans ?_
  refine zl_getR rfl rfl rfl ?_
  refine (zz_go 1 (fr' := (zm_D_isOne, d + 2, 7, [some (.ref 194), some (.int x0)], [.int (3 : Int32), .ref 195, .int (0 : Int32), .int x0])) (h' := (zt_T L, zt_R, M, J, e)) (fun _ => rfl)).trans ?_
  refine zl_iaload rfl rfl (by decide) rfl ?_
  refine (zz_go 2 (fr' := (zm_D_isOne, d + 2, 10, [some (.ref 194), some (.int x0)], [.int ((M 195 3) - (1 : Int32)), .int (0 : Int32), .int x0])) (h' := (zt_T L, zt_R, M, J, e)) (fun _ => rfl)).trans ?_
  refine zl_st (d := d + 1) rfl rfl rfl rfl rfl rfl rfl (s_D_isIn L e J (d + 0) x0 (0 : Int32) ((M 195 3) - (1 : Int32))) ?_
  show zz_D (zm_D_isOne, d + 2, 13, [some (.ref 194), some (.int x0)], [.int (zb (v_D_isIn x0 (0 : Int32) ((M 195 3) - (1 : Int32))))]) (zt_T L, zt_R, M, J, e) = _
  refine zl_retI rfl (zb_01 _) ?_
  rfl
def v_D_isKind (x0 : Int32) : Bool := (v_D_isIn x0 (0 : Int32) (7 : Int32))
set_option maxRecDepth 20000 in
set_option maxHeartbeats 2000000 in
theorem s_D_isKind (L e : Nat) (J : zJem) (d : Nat) {M : zMem} (x0 : Int32) : zz_D (zm_D_isKind, d + 2, 0, [some (.int x0)], []) (zt_T L, zt_R, M, J, e) = some (.inl (some (.int (zb (v_D_isKind x0)))), (zt_T L, zt_R, M, J, e)) := by
  unfold v_D_isKind
  refine (zz_go 3 (fr' := (zm_D_isKind, d + 2, 4, [some (.int x0)], [.int (7 : Int32), .int (0 : Int32), .int x0])) (h' := (zt_T L, zt_R, M, J, e)) (fun _ => rfl)).trans ?_
  refine zl_st (d := d + 1) rfl rfl rfl rfl rfl rfl rfl (s_D_isIn L e J (d + 0) x0 (0 : Int32) (7 : Int32)) ?_
  show zz_D (zm_D_isKind, d + 2, 7, [some (.int x0)], [.int (zb (v_D_isIn x0 (0 : Int32) (7 : Int32)))]) (zt_T L, zt_R, M, J, e) = _
  refine zl_retI rfl (zb_01 _) ?_
  rfl
def v_D_isPlain (M : zMem) (x0 : Int32) : Bool := (decide ((v_D_of M x0 (0 : Int32)) = (-1 : Int32)))
def ok_D_isPlain (M : zMem) (x0 : Int32) : Prop := ok_D_of M x0 (0 : Int32)
set_option maxRecDepth 20000 in
set_option maxHeartbeats 2000000 in
theorem s_D_isPlain (L e : Nat) (J : zJem) (d : Nat) (M : zMem) (x0 : Int32) (k0 : ok_D_isPlain M x0) : zz_D (zm_D_isPlain, d + 2, 0, [some (.ref 194), some (.int x0)], []) (zt_T L, zt_R, M, J, e) = some (.inl (some (.int (zb (v_D_isPlain M x0)))), (zt_T L, zt_R, M, J, e)) := by
  unfold ok_D_isPlain at k0
  unfold v_D_isPlain
  refine (zz_go 3 (fr' := (zm_D_isPlain, d + 2, 3, [some (.ref 194), some (.int x0)], [.int (0 : Int32), .int x0, .ref 194])) (h' := (zt_T L, zt_R, M, J, e)) (fun _ => rfl)).trans ?_
  have g1 : ok_D_of M x0 (0 : Int32) := k0
  refine zl_vt (d := d + 1) rfl rfl rfl rfl rfl rfl rfl rfl rfl rfl (s_D_of L e J (d + 0) M x0 (0 : Int32) g1) ?_
  show zz_D (zm_D_isPlain, d + 2, 6, [some (.ref 194), some (.int x0)], [.int (v_D_of M x0 (0 : Int32))]) (zt_T L, zt_R, M, J, e) = _
  refine zz_jn (X := zz_D (zm_D_isPlain, d + 2, 15, [none, none], [.int (zb (decide ((v_D_of M x0 (0 : Int32)) = (-1 : Int32))))]) (zt_T L, zt_R, M, J, e)) (fun j2 => ?_) ?_
  · refine (zz_go 1 (fr' := (zm_D_isPlain, d + 2, 7, [some (.ref 194), some (.int x0)], [.int (-1 : Int32), .int (v_D_of M x0 (0 : Int32))])) (h' := (zt_T L, zt_R, M, J, e)) (fun _ => rfl)).trans ?_
    rcases zz_bc (decide ((v_D_of M x0 (0 : Int32)) = (-1 : Int32))) with h3 | h3
    · refine zc_neT rfl h3 ?_
      refine (zz_go 2 (fr' := (zm_D_isPlain, d + 2, 15, [some (.ref 194), some (.int x0)], [.int (1 : Int32)])) (h' := (zt_T L, zt_R, M, J, e)) (fun _ => rfl)).trans ?_
      refine zz_weak (L := [none, none]) ⟨Or.inr ⟨rfl, rfl⟩, Or.inr ⟨rfl, rfl⟩, trivial⟩ ?_
      simpa only [h3, zk_t, zk_f, zb_t, zb_f] using j2
    · refine zc_neF rfl h3 ?_
      refine (zz_go 1 (fr' := (zm_D_isPlain, d + 2, 15, [some (.ref 194), some (.int x0)], [.int (0 : Int32)])) (h' := (zt_T L, zt_R, M, J, e)) (fun _ => rfl)).trans ?_
      refine zz_weak (L := [none, none]) ⟨Or.inr ⟨rfl, rfl⟩, Or.inr ⟨rfl, rfl⟩, trivial⟩ ?_
      simpa only [h3, zk_t, zk_f, zb_t, zb_f] using j2
  refine zl_retI rfl (zb_01 _) ?_
  rfl
def v_D_deedOf (M : zMem) (x0 : Int32) : Int32 := (bif (v_D_isPlain M x0) then (-1 : Int32) else (v_D_ofKind M (v_D_of M x0 (0 : Int32)) (1 : Int32)))
def ok_D_deedOf (M : zMem) (x0 : Int32) : Prop := (ok_D_isPlain M x0 ∧ ((v_D_isPlain M x0) = false → (ok_D_of M x0 (0 : Int32) ∧ ok_D_ofKind M (v_D_of M x0 (0 : Int32)) (1 : Int32))))
set_option maxRecDepth 20000 in
set_option maxHeartbeats 2000000 in
theorem s_D_deedOf (L e : Nat) (J : zJem) (d : Nat) (M : zMem) (x0 : Int32) (k0 : ok_D_deedOf M x0) : zz_D (zm_D_deedOf, d + 3, 0, [some (.ref 194), some (.int x0)], []) (zt_T L, zt_R, M, J, e) = some (.inl (some (.int (v_D_deedOf M x0))), (zt_T L, zt_R, M, J, e)) := by
  unfold ok_D_deedOf at k0
  unfold v_D_deedOf
  refine (zz_go 2 (fr' := (zm_D_deedOf, d + 3, 2, [some (.ref 194), some (.int x0)], [.int x0, .ref 194])) (h' := (zt_T L, zt_R, M, J, e)) (fun _ => rfl)).trans ?_
  obtain ⟨g1, k2⟩ := k0
  refine zl_vt (d := d + 2) rfl rfl rfl rfl rfl rfl rfl rfl rfl rfl (s_D_isPlain L e J (d + 0) M x0 g1) ?_
  show zz_D (zm_D_deedOf, d + 3, 5, [some (.ref 194), some (.int x0)], [.int (zb (v_D_isPlain M x0))]) (zt_T L, zt_R, M, J, e) = _
  refine zz_jn (X := zz_D (zm_D_deedOf, d + 3, 23, [none, none], [.int (bif (v_D_isPlain M x0) then (-1 : Int32) else (v_D_ofKind M (v_D_of M x0 (0 : Int32)) (1 : Int32)))]) (zt_T L, zt_R, M, J, e)) (fun j3 => ?_) ?_
  · rcases zz_bc (v_D_isPlain M x0) with h4 | h4
    · refine zq_eT rfl h4 ?_
      refine (zz_go 2 (fr' := (zm_D_deedOf, d + 3, 23, [some (.ref 194), some (.int x0)], [.int (-1 : Int32)])) (h' := (zt_T L, zt_R, M, J, e)) (fun _ => rfl)).trans ?_
      refine zz_weak (L := [none, none]) ⟨Or.inr ⟨rfl, rfl⟩, Or.inr ⟨rfl, rfl⟩, trivial⟩ ?_
      simpa only [h4, zk_t, zk_f, zb_t, zb_f] using j3
    · refine zq_eF rfl h4 ?_
      have k5 := k2 h4
      refine (zz_go 4 (fr' := (zm_D_deedOf, d + 3, 16, [some (.ref 194), some (.int x0)], [.int (0 : Int32), .int x0, .ref 194, .ref 194])) (h' := (zt_T L, zt_R, M, J, e)) (fun _ => rfl)).trans ?_
      obtain ⟨g6, k7⟩ := k5
      refine zl_vt (d := d + 2) rfl rfl rfl rfl rfl rfl rfl rfl rfl rfl (s_D_of L e J (d + 1) M x0 (0 : Int32) g6) ?_
      show zz_D (zm_D_deedOf, d + 3, 19, [some (.ref 194), some (.int x0)], [.int (v_D_of M x0 (0 : Int32)), .ref 194]) (zt_T L, zt_R, M, J, e) = _
      refine (zz_go 1 (fr' := (zm_D_deedOf, d + 3, 20, [some (.ref 194), some (.int x0)], [.int (1 : Int32), .int (v_D_of M x0 (0 : Int32)), .ref 194])) (h' := (zt_T L, zt_R, M, J, e)) (fun _ => rfl)).trans ?_
      have g8 : ok_D_ofKind M (v_D_of M x0 (0 : Int32)) (1 : Int32) := k7
      refine zl_vt (d := d + 2) rfl rfl rfl rfl rfl rfl rfl rfl rfl rfl (s_D_ofKind L e J (d + 1) M (v_D_of M x0 (0 : Int32)) (1 : Int32) g8) ?_
      show zz_D (zm_D_deedOf, d + 3, 23, [some (.ref 194), some (.int x0)], [.int (v_D_ofKind M (v_D_of M x0 (0 : Int32)) (1 : Int32))]) (zt_T L, zt_R, M, J, e) = _
      refine zz_weak (L := [none, none]) ⟨Or.inr ⟨rfl, rfl⟩, Or.inr ⟨rfl, rfl⟩, trivial⟩ ?_
      simpa only [h4, zk_t, zk_f, zb_t, zb_f] using j3
  refine zl_retI rfl rfl ?_
  rfl
def v_D_marksOf (M : zMem) (x0 : Int32) : Int32 := (bif (v_D_isPlain M x0) then (0 : Int32) else (v_D_ofKind M (v_D_of M x0 (0 : Int32)) (0 : Int32)))
def ok_D_marksOf (M : zMem) (x0 : Int32) : Prop := (ok_D_isPlain M x0 ∧ ((v_D_isPlain M x0) = false → (ok_D_of M x0 (0 : Int32) ∧ ok_D_ofKind M (v_D_of M x0 (0 : Int32)) (0 : Int32))))
set_option maxRecDepth 20000 in
set_option maxHeartbeats 2000000 in
theorem s_D_marksOf (L e : Nat) (J : zJem) (d : Nat) (M : zMem) (x0 : Int32) (k0 : ok_D_marksOf M x0) : zz_D (zm_D_marksOf, d + 3, 0, [some (.ref 194), some (.int x0)], []) (zt_T L, zt_R, M, J, e) = some (.inl (some (.int (v_D_marksOf M x0))), (zt_T L, zt_R, M, J, e)) := by
  unfold ok_D_marksOf at k0
  unfold v_D_marksOf
  refine (zz_go 2 (fr' := (zm_D_marksOf, d + 3, 2, [some (.ref 194), some (.int x0)], [.int x0, .ref 194])) (h' := (zt_T L, zt_R, M, J, e)) (fun _ => rfl)).trans ?_
  obtain ⟨g1, k2⟩ := k0
  refine zl_vt (d := d + 2) rfl rfl rfl rfl rfl rfl rfl rfl rfl rfl (s_D_isPlain L e J (d + 0) M x0 g1) ?_
  show zz_D (zm_D_marksOf, d + 3, 5, [some (.ref 194), some (.int x0)], [.int (zb (v_D_isPlain M x0))]) (zt_T L, zt_R, M, J, e) = _
  refine zz_jn (X := zz_D (zm_D_marksOf, d + 3, 23, [none, none], [.int (bif (v_D_isPlain M x0) then (0 : Int32) else (v_D_ofKind M (v_D_of M x0 (0 : Int32)) (0 : Int32)))]) (zt_T L, zt_R, M, J, e)) (fun j3 => ?_) ?_
  · rcases zz_bc (v_D_isPlain M x0) with h4 | h4
    · refine zq_eT rfl h4 ?_
      refine (zz_go 2 (fr' := (zm_D_marksOf, d + 3, 23, [some (.ref 194), some (.int x0)], [.int (0 : Int32)])) (h' := (zt_T L, zt_R, M, J, e)) (fun _ => rfl)).trans ?_
      refine zz_weak (L := [none, none]) ⟨Or.inr ⟨rfl, rfl⟩, Or.inr ⟨rfl, rfl⟩, trivial⟩ ?_
      simpa only [h4, zk_t, zk_f, zb_t, zb_f] using j3
    · refine zq_eF rfl h4 ?_
      have k5 := k2 h4
      refine (zz_go 4 (fr' := (zm_D_marksOf, d + 3, 16, [some (.ref 194), some (.int x0)], [.int (0 : Int32), .int x0, .ref 194, .ref 194])) (h' := (zt_T L, zt_R, M, J, e)) (fun _ => rfl)).trans ?_
      obtain ⟨g6, k7⟩ := k5
      refine zl_vt (d := d + 2) rfl rfl rfl rfl rfl rfl rfl rfl rfl rfl (s_D_of L e J (d + 1) M x0 (0 : Int32) g6) ?_
      show zz_D (zm_D_marksOf, d + 3, 19, [some (.ref 194), some (.int x0)], [.int (v_D_of M x0 (0 : Int32)), .ref 194]) (zt_T L, zt_R, M, J, e) = _
      refine (zz_go 1 (fr' := (zm_D_marksOf, d + 3, 20, [some (.ref 194), some (.int x0)], [.int (0 : Int32), .int (v_D_of M x0 (0 : Int32)), .ref 194])) (h' := (zt_T L, zt_R, M, J, e)) (fun _ => rfl)).trans ?_
      have g8 : ok_D_ofKind M (v_D_of M x0 (0 : Int32)) (0 : Int32) := k7
      refine zl_vt (d := d + 2) rfl rfl rfl rfl rfl rfl rfl rfl rfl rfl (s_D_ofKind L e J (d + 1) M (v_D_of M x0 (0 : Int32)) (0 : Int32) g8) ?_
      show zz_D (zm_D_marksOf, d + 3, 23, [some (.ref 194), some (.int x0)], [.int (v_D_ofKind M (v_D_of M x0 (0 : Int32)) (0 : Int32))]) (zt_T L, zt_R, M, J, e) = _
      refine zz_weak (L := [none, none]) ⟨Or.inr ⟨rfl, rfl⟩, Or.inr ⟨rfl, rfl⟩, trivial⟩ ?_
      simpa only [h4, zk_t, zk_f, zb_t, zb_f] using j3
  refine zl_retI rfl rfl ?_
  rfl
def f_D_feed_1 (M : zMem) (x0 : Int32) (x1 : Int32) (x2 : Int32) (x3 : Int32) (x4 : Int32) (i1 : Nat) (a1 : zMem) : zMem := (zz_up (zz_up a1 199 (a1 194 8).toNatClampNeg ((zus (bif (decide ((4 : Int32) ≤ (Int32.ofNat i1))) then (bif (decide ((8 : Int32) ≤ (Int32.ofNat i1))) then (bif (decide ((12 : Int32) ≤ (Int32.ofNat i1))) then (bif (decide ((16 : Int32) ≤ (Int32.ofNat i1))) then x4 else x3) else x2) else x1) else x0) ((24 : Int32) - ((8 : Int32) * (zrm (Int32.ofNat i1) (4 : Int32))))) &&& (255 : Int32))) 194 8 ((a1 194 8) + (1 : Int32)))
def kb_D_feed_1 (M : zMem) (x0 : Int32) (x1 : Int32) (x2 : Int32) (x3 : Int32) (x4 : Int32) (i1 : Nat) (a1 : zMem) : Prop := zz_in (a1 194 8) 400 = true
def v_D_feed (M : zMem) (x0 : Int32) (x1 : Int32) (x2 : Int32) (x3 : Int32) (x4 : Int32) : Int32 := (bif (decide (((M 194 8) + (20 : Int32)) ≤ (400 : Int32))) then ((zf_for 20 (f_D_feed_1 M x0 x1 x2 x3 x4) (zz_up M 194 0 (0 : Int32))) 194 8) else (-1 : Int32))
def w_D_feed (M : zMem) (x0 : Int32) (x1 : Int32) (x2 : Int32) (x3 : Int32) (x4 : Int32) : zMem := (bif (decide (((M 194 8) + (20 : Int32)) ≤ (400 : Int32))) then (zf_for 20 (f_D_feed_1 M x0 x1 x2 x3 x4) (zz_up M 194 0 (0 : Int32))) else (zz_up M 194 0 (0 : Int32)))
def ok_D_feed (M : zMem) (x0 : Int32) (x1 : Int32) (x2 : Int32) (x3 : Int32) (x4 : Int32) : Prop := ((decide (((M 194 8) + (20 : Int32)) ≤ (400 : Int32))) = true → (∀ i1, i1 < 20 → kb_D_feed_1 M x0 x1 x2 x3 x4 i1 (zf_for i1 (f_D_feed_1 M x0 x1 x2 x3 x4) (zz_up M 194 0 (0 : Int32)))))
set_option maxRecDepth 20000 in
set_option maxHeartbeats 2000000 in
theorem s_D_feed (L e : Nat) (J : zJem) (d : Nat) (M : zMem) (x0 : Int32) (x1 : Int32) (x2 : Int32) (x3 : Int32) (x4 : Int32) (k0 : ok_D_feed M x0 x1 x2 x3 x4) : zz_D (zm_D_feed, d + 1, 0, [some (.ref 194), some (.int x0), some (.int x1), some (.int x2), some (.int x3), some (.int x4), none, none], []) (zt_T L, zt_R, M, J, e) = some (.inl (some (.int (v_D_feed M x0 x1 x2 x3 x4))), (zt_T L, zt_R, (w_D_feed M x0 x1 x2 x3 x4), J, e)) := by
  unfold ok_D_feed at k0
  unfold v_D_feed w_D_feed
  refine (zz_go 2 (fr' := (zm_D_feed, d + 1, 2, [some (.ref 194), some (.int x0), some (.int x1), some (.int x2), some (.int x3), some (.int x4), none, none], [.int (0 : Int32), .ref 194])) (h' := (zt_T L, zt_R, M, J, e)) (fun _ => rfl)).trans ?_
  refine zl_putI rfl rfl rfl rfl ?_
  refine (zz_go 1 (fr' := (zm_D_feed, d + 1, 6, [some (.ref 194), some (.int x0), some (.int x1), some (.int x2), some (.int x3), some (.int x4), none, none], [.ref 194])) (h' := (zt_T L, zt_R, (zz_up M 194 0 (0 : Int32)), J, e)) (fun _ => rfl)).trans ?_
  refine zl_getI rfl (by decide) rfl ((zu_nk rfl).trans rfl) ?_
  refine (zz_go 3 (fr' := (zm_D_feed, d + 1, 15, [some (.ref 194), some (.int x0), some (.int x1), some (.int x2), some (.int x3), some (.int x4), none, none], [.int (400 : Int32), .int ((M 194 8) + (20 : Int32))])) (h' := (zt_T L, zt_R, (zz_up M 194 0 (0 : Int32)), J, e)) (fun _ => rfl)).trans ?_
  rcases zz_bc (decide (((M 194 8) + (20 : Int32)) ≤ (400 : Int32))) with h1 | h1
  · refine zc_leT rfl h1 ?_
    have k2 := k0 h1
    refine (zz_go 2 (fr' := (zm_D_feed, d + 1, 23, [some (.ref 194), some (.int x0), some (.int x1), some (.int x2), some (.int x3), some (.int x4), some (.int (0 : Int32)), none], [])) (h' := (zt_T L, zt_R, (zz_up M 194 0 (0 : Int32)), J, e)) (fun _ => rfl)).trans ?_
    refine zf_forD (X := fun (i1 : Nat) (a1 : zMem) => zz_D (zm_D_feed, d + 1, 23, [some (.ref 194), some (.int x0), some (.int x1), some (.int x2), some (.int x3), some (.int x4), some (.int (Int32.ofNat i1)), none], []) (zt_T L, zt_R, a1, J, e)) (f := (f_D_feed_1 M x0 x1 x2 x3 x4)) (a := (zz_up M 194 0 (0 : Int32))) 20 (fun i1 hi1 => ?_) ?_
    · intro hx3
      have k4 := k2 i1 hi1
      generalize zf_for i1 (f_D_feed_1 M x0 x1 x2 x3 x4) (zz_up M 194 0 (0 : Int32)) = a1 at hx3 k4 ⊢
      show zz_D (zm_D_feed, d + 1, 23, [some (.ref 194), some (.int x0), some (.int x1), some (.int x2), some (.int x3), some (.int x4), some (.int (Int32.ofNat i1)), none], []) (zt_T L, zt_R, a1, J, e) = _
      unfold kb_D_feed_1 at k4
      refine (zz_go 2 (fr' := (zm_D_feed, d + 1, 27, [some (.ref 194), some (.int x0), some (.int x1), some (.int x2), some (.int x3), some (.int x4), some (.int (Int32.ofNat i1)), none], [.int (20 : Int32), .int (Int32.ofNat i1)])) (h' := (zt_T L, zt_R, a1, J, e)) (fun _ => rfl)).trans ?_
      refine zc_geF rfl (zi_ltc (n := 20) (by omega) (by decide)) ?_
      refine zz_jn (X := zz_D (zm_D_feed, d + 1, 76, [some (.ref 194), some (.int x0), some (.int x1), some (.int x2), some (.int x3), some (.int x4), some (.int (Int32.ofNat i1)), none], [.int (bif (decide ((4 : Int32) ≤ (Int32.ofNat i1))) then (bif (decide ((8 : Int32) ≤ (Int32.ofNat i1))) then (bif (decide ((12 : Int32) ≤ (Int32.ofNat i1))) then (bif (decide ((16 : Int32) ≤ (Int32.ofNat i1))) then x4 else x3) else x2) else x1) else x0)]) (zt_T L, zt_R, a1, J, e)) (fun j5 => ?_) ?_
      · refine (zz_go 2 (fr' := (zm_D_feed, d + 1, 33, [some (.ref 194), some (.int x0), some (.int x1), some (.int x2), some (.int x3), some (.int x4), some (.int (Int32.ofNat i1)), none], [.int (4 : Int32), .int (Int32.ofNat i1)])) (h' := (zt_T L, zt_R, a1, J, e)) (fun _ => rfl)).trans ?_
        rcases zz_bc (decide ((4 : Int32) ≤ (Int32.ofNat i1))) with h6 | h6
        · refine zc_geT rfl h6 ?_
          refine zz_jn (X := zz_D (zm_D_feed, d + 1, 76, [some (.ref 194), some (.int x0), some (.int x1), some (.int x2), some (.int x3), some (.int x4), some (.int (Int32.ofNat i1)), none], [.int (bif (decide ((8 : Int32) ≤ (Int32.ofNat i1))) then (bif (decide ((12 : Int32) ≤ (Int32.ofNat i1))) then (bif (decide ((16 : Int32) ≤ (Int32.ofNat i1))) then x4 else x3) else x2) else x1)]) (zt_T L, zt_R, a1, J, e)) (fun j7 => ?_) ?_
          · refine (zz_go 2 (fr' := (zm_D_feed, d + 1, 44, [some (.ref 194), some (.int x0), some (.int x1), some (.int x2), some (.int x3), some (.int x4), some (.int (Int32.ofNat i1)), none], [.int (8 : Int32), .int (Int32.ofNat i1)])) (h' := (zt_T L, zt_R, a1, J, e)) (fun _ => rfl)).trans ?_
            rcases zz_bc (decide ((8 : Int32) ≤ (Int32.ofNat i1))) with h8 | h8
            · refine zc_geT rfl h8 ?_
              refine zz_jn (X := zz_D (zm_D_feed, d + 1, 76, [some (.ref 194), some (.int x0), some (.int x1), some (.int x2), some (.int x3), some (.int x4), some (.int (Int32.ofNat i1)), none], [.int (bif (decide ((12 : Int32) ≤ (Int32.ofNat i1))) then (bif (decide ((16 : Int32) ≤ (Int32.ofNat i1))) then x4 else x3) else x2)]) (zt_T L, zt_R, a1, J, e)) (fun j9 => ?_) ?_
              · refine (zz_go 2 (fr' := (zm_D_feed, d + 1, 55, [some (.ref 194), some (.int x0), some (.int x1), some (.int x2), some (.int x3), some (.int x4), some (.int (Int32.ofNat i1)), none], [.int (12 : Int32), .int (Int32.ofNat i1)])) (h' := (zt_T L, zt_R, a1, J, e)) (fun _ => rfl)).trans ?_
                rcases zz_bc (decide ((12 : Int32) ≤ (Int32.ofNat i1))) with h10 | h10
                · refine zc_geT rfl h10 ?_
                  refine zz_jn (X := zz_D (zm_D_feed, d + 1, 76, [some (.ref 194), some (.int x0), some (.int x1), some (.int x2), some (.int x3), some (.int x4), some (.int (Int32.ofNat i1)), none], [.int (bif (decide ((16 : Int32) ≤ (Int32.ofNat i1))) then x4 else x3)]) (zt_T L, zt_R, a1, J, e)) (fun j11 => ?_) ?_
                  · refine (zz_go 2 (fr' := (zm_D_feed, d + 1, 66, [some (.ref 194), some (.int x0), some (.int x1), some (.int x2), some (.int x3), some (.int x4), some (.int (Int32.ofNat i1)), none], [.int (16 : Int32), .int (Int32.ofNat i1)])) (h' := (zt_T L, zt_R, a1, J, e)) (fun _ => rfl)).trans ?_
                    rcases zz_bc (decide ((16 : Int32) ≤ (Int32.ofNat i1))) with h12 | h12
                    · refine zc_geT rfl h12 ?_
                      refine (zz_go 1 (fr' := (zm_D_feed, d + 1, 76, [some (.ref 194), some (.int x0), some (.int x1), some (.int x2), some (.int x3), some (.int x4), some (.int (Int32.ofNat i1)), none], [.int x4])) (h' := (zt_T L, zt_R, a1, J, e)) (fun _ => rfl)).trans ?_
                      simpa only [h12, zk_t, zk_f, zb_t, zb_f] using j11
                    · refine zc_geF rfl h12 ?_
                      refine (zz_go 2 (fr' := (zm_D_feed, d + 1, 76, [some (.ref 194), some (.int x0), some (.int x1), some (.int x2), some (.int x3), some (.int x4), some (.int (Int32.ofNat i1)), none], [.int x3])) (h' := (zt_T L, zt_R, a1, J, e)) (fun _ => rfl)).trans ?_
                      simpa only [h12, zk_t, zk_f, zb_t, zb_f] using j11
                  simpa only [h10, zk_t, zk_f, zb_t, zb_f] using j9
                · refine zc_geF rfl h10 ?_
                  refine (zz_go 2 (fr' := (zm_D_feed, d + 1, 76, [some (.ref 194), some (.int x0), some (.int x1), some (.int x2), some (.int x3), some (.int x4), some (.int (Int32.ofNat i1)), none], [.int x2])) (h' := (zt_T L, zt_R, a1, J, e)) (fun _ => rfl)).trans ?_
                  simpa only [h10, zk_t, zk_f, zb_t, zb_f] using j9
              simpa only [h8, zk_t, zk_f, zb_t, zb_f] using j7
            · refine zc_geF rfl h8 ?_
              refine (zz_go 2 (fr' := (zm_D_feed, d + 1, 76, [some (.ref 194), some (.int x0), some (.int x1), some (.int x2), some (.int x3), some (.int x4), some (.int (Int32.ofNat i1)), none], [.int x1])) (h' := (zt_T L, zt_R, a1, J, e)) (fun _ => rfl)).trans ?_
              simpa only [h8, zk_t, zk_f, zb_t, zb_f] using j7
          simpa only [h6, zk_t, zk_f, zb_t, zb_f] using j5
        · refine zc_geF rfl h6 ?_
          refine (zz_go 2 (fr' := (zm_D_feed, d + 1, 76, [some (.ref 194), some (.int x0), some (.int x1), some (.int x2), some (.int x3), some (.int x4), some (.int (Int32.ofNat i1)), none], [.int x0])) (h' := (zt_T L, zt_R, a1, J, e)) (fun _ => rfl)).trans ?_
          simpa only [h6, zk_t, zk_f, zb_t, zb_f] using j5
      refine (zz_go 2 (fr' := (zm_D_feed, d + 1, 79, [some (.ref 194), some (.int x0), some (.int x1), some (.int x2), some (.int x3), some (.int x4), some (.int (Int32.ofNat i1)), some (.int (bif (decide ((4 : Int32) ≤ (Int32.ofNat i1))) then (bif (decide ((8 : Int32) ≤ (Int32.ofNat i1))) then (bif (decide ((12 : Int32) ≤ (Int32.ofNat i1))) then (bif (decide ((16 : Int32) ≤ (Int32.ofNat i1))) then x4 else x3) else x2) else x1) else x0))], [.ref 194])) (h' := (zt_T L, zt_R, a1, J, e)) (fun _ => rfl)).trans ?_
      refine zl_getR rfl rfl rfl ?_
      refine (zz_go 1 (fr' := (zm_D_feed, d + 1, 83, [some (.ref 194), some (.int x0), some (.int x1), some (.int x2), some (.int x3), some (.int x4), some (.int (Int32.ofNat i1)), some (.int (bif (decide ((4 : Int32) ≤ (Int32.ofNat i1))) then (bif (decide ((8 : Int32) ≤ (Int32.ofNat i1))) then (bif (decide ((12 : Int32) ≤ (Int32.ofNat i1))) then (bif (decide ((16 : Int32) ≤ (Int32.ofNat i1))) then x4 else x3) else x2) else x1) else x0))], [.ref 194, .ref 199])) (h' := (zt_T L, zt_R, a1, J, e)) (fun _ => rfl)).trans ?_
      refine zl_getI rfl (by decide) rfl rfl ?_
      refine (zz_go 5 (fr' := (zm_D_feed, d + 1, 95, [some (.ref 194), some (.int x0), some (.int x1), some (.int x2), some (.int x3), some (.int x4), some (.int (Int32.ofNat i1)), some (.int (bif (decide ((4 : Int32) ≤ (Int32.ofNat i1))) then (bif (decide ((8 : Int32) ≤ (Int32.ofNat i1))) then (bif (decide ((12 : Int32) ≤ (Int32.ofNat i1))) then (bif (decide ((16 : Int32) ≤ (Int32.ofNat i1))) then x4 else x3) else x2) else x1) else x0))], [.int (4 : Int32), .int (Int32.ofNat i1), .int (8 : Int32), .int (24 : Int32), .int (bif (decide ((4 : Int32) ≤ (Int32.ofNat i1))) then (bif (decide ((8 : Int32) ≤ (Int32.ofNat i1))) then (bif (decide ((12 : Int32) ≤ (Int32.ofNat i1))) then (bif (decide ((16 : Int32) ≤ (Int32.ofNat i1))) then x4 else x3) else x2) else x1) else x0), .int (a1 194 8), .ref 199])) (h' := (zt_T L, zt_R, a1, J, e)) (fun _ => rfl)).trans ?_
      refine zl_rem rfl (by decide) ?_
      refine (zz_go 5 (fr' := (zm_D_feed, d + 1, 103, [some (.ref 194), some (.int x0), some (.int x1), some (.int x2), some (.int x3), some (.int x4), some (.int (Int32.ofNat i1)), some (.int (bif (decide ((4 : Int32) ≤ (Int32.ofNat i1))) then (bif (decide ((8 : Int32) ≤ (Int32.ofNat i1))) then (bif (decide ((12 : Int32) ≤ (Int32.ofNat i1))) then (bif (decide ((16 : Int32) ≤ (Int32.ofNat i1))) then x4 else x3) else x2) else x1) else x0))], [.int ((zus (bif (decide ((4 : Int32) ≤ (Int32.ofNat i1))) then (bif (decide ((8 : Int32) ≤ (Int32.ofNat i1))) then (bif (decide ((12 : Int32) ≤ (Int32.ofNat i1))) then (bif (decide ((16 : Int32) ≤ (Int32.ofNat i1))) then x4 else x3) else x2) else x1) else x0) ((24 : Int32) - ((8 : Int32) * (zrm (Int32.ofNat i1) (4 : Int32))))) &&& (255 : Int32)), .int (a1 194 8), .ref 199])) (h' := (zt_T L, zt_R, a1, J, e)) (fun _ => rfl)).trans ?_
      have g13 : zz_in (a1 194 8) 400 = true := k4
      refine zl_iastore rfl rfl g13 rfl rfl ?_
      refine (zz_go 2 (fr' := (zm_D_feed, d + 1, 106, [some (.ref 194), some (.int x0), some (.int x1), some (.int x2), some (.int x3), some (.int x4), some (.int (Int32.ofNat i1)), some (.int (bif (decide ((4 : Int32) ≤ (Int32.ofNat i1))) then (bif (decide ((8 : Int32) ≤ (Int32.ofNat i1))) then (bif (decide ((12 : Int32) ≤ (Int32.ofNat i1))) then (bif (decide ((16 : Int32) ≤ (Int32.ofNat i1))) then x4 else x3) else x2) else x1) else x0))], [.ref 194, .ref 194])) (h' := (zt_T L, zt_R, (zz_up a1 199 (a1 194 8).toNatClampNeg ((zus (bif (decide ((4 : Int32) ≤ (Int32.ofNat i1))) then (bif (decide ((8 : Int32) ≤ (Int32.ofNat i1))) then (bif (decide ((12 : Int32) ≤ (Int32.ofNat i1))) then (bif (decide ((16 : Int32) ≤ (Int32.ofNat i1))) then x4 else x3) else x2) else x1) else x0) ((24 : Int32) - ((8 : Int32) * (zrm (Int32.ofNat i1) (4 : Int32))))) &&& (255 : Int32))), J, e)) (fun _ => rfl)).trans ?_
      refine zl_getI rfl (by decide) rfl ((zu_ne (rfl)).trans rfl) ?_
      refine (zz_go 2 (fr' := (zm_D_feed, d + 1, 111, [some (.ref 194), some (.int x0), some (.int x1), some (.int x2), some (.int x3), some (.int x4), some (.int (Int32.ofNat i1)), some (.int (bif (decide ((4 : Int32) ≤ (Int32.ofNat i1))) then (bif (decide ((8 : Int32) ≤ (Int32.ofNat i1))) then (bif (decide ((12 : Int32) ≤ (Int32.ofNat i1))) then (bif (decide ((16 : Int32) ≤ (Int32.ofNat i1))) then x4 else x3) else x2) else x1) else x0))], [.int ((a1 194 8) + (1 : Int32)), .ref 194])) (h' := (zt_T L, zt_R, (zz_up a1 199 (a1 194 8).toNatClampNeg ((zus (bif (decide ((4 : Int32) ≤ (Int32.ofNat i1))) then (bif (decide ((8 : Int32) ≤ (Int32.ofNat i1))) then (bif (decide ((12 : Int32) ≤ (Int32.ofNat i1))) then (bif (decide ((16 : Int32) ≤ (Int32.ofNat i1))) then x4 else x3) else x2) else x1) else x0) ((24 : Int32) - ((8 : Int32) * (zrm (Int32.ofNat i1) (4 : Int32))))) &&& (255 : Int32))), J, e)) (fun _ => rfl)).trans ?_
      refine zl_putI rfl rfl rfl rfl ?_
      refine (zz_go 2 (fr' := (zm_D_feed, d + 1, 23, [some (.ref 194), some (.int x0), some (.int x1), some (.int x2), some (.int x3), some (.int x4), some (.int (Int32.ofNat i1 + 1)), some (.int (bif (decide ((4 : Int32) ≤ (Int32.ofNat i1))) then (bif (decide ((8 : Int32) ≤ (Int32.ofNat i1))) then (bif (decide ((12 : Int32) ≤ (Int32.ofNat i1))) then (bif (decide ((16 : Int32) ≤ (Int32.ofNat i1))) then x4 else x3) else x2) else x1) else x0))], [])) (h' := (zt_T L, zt_R, (zz_up (zz_up a1 199 (a1 194 8).toNatClampNeg ((zus (bif (decide ((4 : Int32) ≤ (Int32.ofNat i1))) then (bif (decide ((8 : Int32) ≤ (Int32.ofNat i1))) then (bif (decide ((12 : Int32) ≤ (Int32.ofNat i1))) then (bif (decide ((16 : Int32) ≤ (Int32.ofNat i1))) then x4 else x3) else x2) else x1) else x0) ((24 : Int32) - ((8 : Int32) * (zrm (Int32.ofNat i1) (4 : Int32))))) &&& (255 : Int32))) 194 8 ((a1 194 8) + (1 : Int32))), J, e)) (fun _ => rfl)).trans ?_
      refine zz_weak (L := [some (.ref 194), some (.int x0), some (.int x1), some (.int x2), some (.int x3), some (.int x4), some (.int (Int32.ofNat i1 + 1)), none]) ⟨Or.inl rfl, Or.inl rfl, Or.inl rfl, Or.inl rfl, Or.inl rfl, Or.inl rfl, Or.inl rfl, Or.inr ⟨rfl, rfl⟩, trivial⟩ ?_
      rw [zi_succ i1]
      simpa only [f_D_feed_1] using hx3
    show zz_D (zm_D_feed, d + 1, 23, [some (.ref 194), some (.int x0), some (.int x1), some (.int x2), some (.int x3), some (.int x4), some (.int (Int32.ofNat 20)), none], []) (zt_T L, zt_R, (zf_for 20 (f_D_feed_1 M x0 x1 x2 x3 x4) (zz_up M 194 0 (0 : Int32))), J, e) = _
    refine (zz_go 2 (fr' := (zm_D_feed, d + 1, 27, [some (.ref 194), some (.int x0), some (.int x1), some (.int x2), some (.int x3), some (.int x4), some (.int (Int32.ofNat 20)), none], [.int (20 : Int32), .int (Int32.ofNat 20)])) (h' := (zt_T L, zt_R, (zf_for 20 (f_D_feed_1 M x0 x1 x2 x3 x4) (zz_up M 194 0 (0 : Int32))), J, e)) (fun _ => rfl)).trans ?_
    refine zc_geT rfl (by decide) ?_
    refine zz_weak (L := [some (.ref 194), none, none, none, none, none, none, none]) ⟨Or.inl rfl, Or.inr ⟨rfl, rfl⟩, Or.inr ⟨rfl, rfl⟩, Or.inr ⟨rfl, rfl⟩, Or.inr ⟨rfl, rfl⟩, Or.inr ⟨rfl, rfl⟩, Or.inr ⟨rfl, rfl⟩, Or.inl rfl, trivial⟩ ?_
    refine (zz_go 1 (fr' := (zm_D_feed, d + 1, 121, [some (.ref 194), none, none, none, none, none, none, none], [.ref 194])) (h' := (zt_T L, zt_R, (zf_for 20 (f_D_feed_1 M x0 x1 x2 x3 x4) (zz_up M 194 0 (0 : Int32))), J, e)) (fun _ => rfl)).trans ?_
    refine zl_getI rfl (by decide) rfl rfl ?_
    refine zl_retI rfl rfl ?_
    first | (simp only [h1, zk_t, zk_f, zb_t, zb_f]; done) | (simp only [h1, zk_t, zk_f, zb_t, zb_f]; rfl) | rfl
  · refine zc_leF rfl h1 ?_
    refine (zz_go 1 (fr' := (zm_D_feed, d + 1, 19, [some (.ref 194), some (.int x0), some (.int x1), some (.int x2), some (.int x3), some (.int x4), none, none], [.int (-1 : Int32)])) (h' := (zt_T L, zt_R, (zz_up M 194 0 (0 : Int32)), J, e)) (fun _ => rfl)).trans ?_
    refine zl_retI rfl rfl ?_
    first | (simp only [h1, zk_t, zk_f, zb_t, zb_f]; done) | (simp only [h1, zk_t, zk_f, zb_t, zb_f]; rfl) | rfl
def v_D_end (M : zMem) (x0 : Int32) : Bool := (v_D_isIn x0 (0 : Int32) (M 194 8))
def w_D_end (M : zMem) (x0 : Int32) : zMem := (bif (v_D_isIn x0 (0 : Int32) (M 194 8)) then (zz_up (zz_up M 194 0 (0 : Int32)) 194 8 x0) else (zz_up M 194 0 (0 : Int32)))
set_option maxRecDepth 20000 in
set_option maxHeartbeats 2000000 in
theorem s_D_end (L e : Nat) (J : zJem) (d : Nat) (M : zMem) (x0 : Int32) : zz_D (zm_D_end, d + 2, 0, [some (.ref 194), some (.int x0)], []) (zt_T L, zt_R, M, J, e) = some (.inl (some (.int (zb (v_D_end M x0)))), (zt_T L, zt_R, (w_D_end M x0), J, e)) := by
  unfold v_D_end w_D_end
  refine (zz_go 2 (fr' := (zm_D_end, d + 2, 2, [some (.ref 194), some (.int x0)], [.int (0 : Int32), .ref 194])) (h' := (zt_T L, zt_R, M, J, e)) (fun _ => rfl)).trans ?_
  refine zl_putI rfl rfl rfl rfl ?_
  refine (zz_go 3 (fr' := (zm_D_end, d + 2, 8, [some (.ref 194), some (.int x0)], [.ref 194, .int (0 : Int32), .int x0])) (h' := (zt_T L, zt_R, (zz_up M 194 0 (0 : Int32)), J, e)) (fun _ => rfl)).trans ?_
  refine zl_getI rfl (by decide) rfl ((zu_nk rfl).trans rfl) ?_
  refine zl_st (d := d + 1) rfl rfl rfl rfl rfl rfl rfl (s_D_isIn L e J (d + 0) x0 (0 : Int32) (M 194 8)) ?_
  show zz_D (zm_D_end, d + 2, 14, [some (.ref 194), some (.int x0)], [.int (zb (v_D_isIn x0 (0 : Int32) (M 194 8)))]) (zt_T L, zt_R, (zz_up M 194 0 (0 : Int32)), J, e) = _
  rcases zz_bc (v_D_isIn x0 (0 : Int32) (M 194 8)) with h1 | h1
  · refine zq_fT rfl h1 ?_
    refine (zz_go 2 (fr' := (zm_D_end, d + 2, 21, [some (.ref 194), some (.int x0)], [.int x0, .ref 194])) (h' := (zt_T L, zt_R, (zz_up M 194 0 (0 : Int32)), J, e)) (fun _ => rfl)).trans ?_
    refine zl_putI rfl rfl rfl rfl ?_
    refine (zz_go 1 (fr' := (zm_D_end, d + 2, 25, [some (.ref 194), some (.int x0)], [.int (1 : Int32)])) (h' := (zt_T L, zt_R, (zz_up (zz_up M 194 0 (0 : Int32)) 194 8 x0), J, e)) (fun _ => rfl)).trans ?_
    refine zl_retI rfl rfl ?_
    first | (simp only [h1, zk_t, zk_f, zb_t, zb_f]; done) | (simp only [h1, zk_t, zk_f, zb_t, zb_f]; rfl) | rfl
  · refine zq_fF rfl h1 ?_
    refine (zz_go 1 (fr' := (zm_D_end, d + 2, 18, [some (.ref 194), some (.int x0)], [.int (0 : Int32)])) (h' := (zt_T L, zt_R, (zz_up M 194 0 (0 : Int32)), J, e)) (fun _ => rfl)).trans ?_
    refine zl_retI rfl rfl ?_
    first | (simp only [h1, zk_t, zk_f, zb_t, zb_f]; done) | (simp only [h1, zk_t, zk_f, zb_t, zb_f]; rfl) | rfl
def v_D_letter (M : zMem) (x0 : Int32) : Int32 := (bif (decide ((M 194 9) = (-1 : Int32))) then (M 199 (x0).toNatClampNeg) else (M 195 ((M 194 9) + x0).toNatClampNeg))
def ok_D_letter (M : zMem) (x0 : Int32) : Prop := (((decide ((M 194 9) = (-1 : Int32))) = true → zz_in x0 400 = true) ∧ ((decide ((M 194 9) = (-1 : Int32))) = false → zz_in ((M 194 9) + x0) 709 = true))
set_option maxRecDepth 20000 in
set_option maxHeartbeats 2000000 in
theorem s_D_letter (L e : Nat) (J : zJem) (d : Nat) (M : zMem) (x0 : Int32) (k0 : ok_D_letter M x0) : zz_D (zm_D_letter, d + 1, 0, [some (.ref 194), some (.int x0)], []) (zt_T L, zt_R, M, J, e) = some (.inl (some (.int (v_D_letter M x0))), (zt_T L, zt_R, M, J, e)) := by
  unfold ok_D_letter at k0
  unfold v_D_letter
  refine (zz_go 1 (fr' := (zm_D_letter, d + 1, 1, [some (.ref 194), some (.int x0)], [.ref 194])) (h' := (zt_T L, zt_R, M, J, e)) (fun _ => rfl)).trans ?_
  refine zl_getI rfl (by decide) rfl rfl ?_
  refine zz_jn (X := zz_D (zm_D_letter, d + 1, 28, [none, none], [.int (bif (decide ((M 194 9) = (-1 : Int32))) then (M 199 (x0).toNatClampNeg) else (M 195 ((M 194 9) + x0).toNatClampNeg))]) (zt_T L, zt_R, M, J, e)) (fun j1 => ?_) ?_
  · obtain ⟨k3, k4⟩ := k0
    refine (zz_go 1 (fr' := (zm_D_letter, d + 1, 5, [some (.ref 194), some (.int x0)], [.int (-1 : Int32), .int (M 194 9)])) (h' := (zt_T L, zt_R, M, J, e)) (fun _ => rfl)).trans ?_
    rcases zz_bc (decide ((M 194 9) = (-1 : Int32))) with h2 | h2
    · refine zc_neT rfl h2 ?_
      have k5 := k3 h2
      refine (zz_go 1 (fr' := (zm_D_letter, d + 1, 9, [some (.ref 194), some (.int x0)], [.ref 194])) (h' := (zt_T L, zt_R, M, J, e)) (fun _ => rfl)).trans ?_
      refine zl_getR rfl rfl rfl ?_
      refine (zz_go 1 (fr' := (zm_D_letter, d + 1, 13, [some (.ref 194), some (.int x0)], [.int x0, .ref 199])) (h' := (zt_T L, zt_R, M, J, e)) (fun _ => rfl)).trans ?_
      have g6 : zz_in x0 400 = true := k5
      refine zl_iaload rfl rfl g6 rfl ?_
      refine (zz_go 1 (fr' := (zm_D_letter, d + 1, 28, [some (.ref 194), some (.int x0)], [.int (M 199 (x0).toNatClampNeg)])) (h' := (zt_T L, zt_R, M, J, e)) (fun _ => rfl)).trans ?_
      refine zz_weak (L := [none, none]) ⟨Or.inr ⟨rfl, rfl⟩, Or.inr ⟨rfl, rfl⟩, trivial⟩ ?_
      simpa only [h2, zk_t, zk_f, zb_t, zb_f] using j1
    · refine zc_neF rfl h2 ?_
      have k7 := k4 h2
      refine (zz_go 1 (fr' := (zm_D_letter, d + 1, 18, [some (.ref 194), some (.int x0)], [.ref 194])) (h' := (zt_T L, zt_R, M, J, e)) (fun _ => rfl)).trans ?_
      refine zl_getR rfl rfl rfl ?_
      refine (zz_go 1 (fr' := (zm_D_letter, d + 1, 22, [some (.ref 194), some (.int x0)], [.ref 194, .ref 195])) (h' := (zt_T L, zt_R, M, J, e)) (fun _ => rfl)).trans ?_
      refine zl_getI rfl (by decide) rfl rfl ?_
      refine (zz_go 2 (fr' := (zm_D_letter, d + 1, 27, [some (.ref 194), some (.int x0)], [.int ((M 194 9) + x0), .ref 195])) (h' := (zt_T L, zt_R, M, J, e)) (fun _ => rfl)).trans ?_
      have g8 : zz_in ((M 194 9) + x0) 709 = true := k7
      refine zl_iaload rfl rfl g8 rfl ?_
      refine zz_weak (L := [none, none]) ⟨Or.inr ⟨rfl, rfl⟩, Or.inr ⟨rfl, rfl⟩, trivial⟩ ?_
      simpa only [h2, zk_t, zk_f, zb_t, zb_f] using j1
  refine zl_retI rfl rfl ?_
  rfl
def g_D_skip_1 (M : zMem) (i1 : Nat) (a1 : zMem) : Bool × (zMem) := ((bif (decide ((a1 194 10) ≤ (a1 194 11))) then false else (decide ((v_D_letter a1 (a1 194 11)) = (32 : Int32)))), (bif (decide ((a1 194 10) ≤ (a1 194 11))) then a1 else (bif (decide ((v_D_letter a1 (a1 194 11)) = (32 : Int32))) then (zz_up a1 194 11 ((a1 194 11) + (1 : Int32))) else a1)))
def kb_D_skip_1 (M : zMem) (i1 : Nat) (a1 : zMem) : Prop := ((decide ((a1 194 10) ≤ (a1 194 11))) = false → ok_D_letter a1 (a1 194 11))
def w_D_skip (M : zMem) : zMem := (zf_wh 1000 (g_D_skip_1 M) 0 M)
def ok_D_skip (M : zMem) : Prop := (zf_wk 1000 (g_D_skip_1 M) (kb_D_skip_1 M) 0 M)
set_option maxRecDepth 20000 in
set_option maxHeartbeats 2000000 in
theorem s_D_skip (L e : Nat) (J : zJem) (d : Nat) (M : zMem) (k0 : ok_D_skip M) : zz_D (zm_D_skip, d + 2, 0, [some (.ref 194)], []) (zt_T L, zt_R, M, J, e) = some (.inl (none), (zt_T L, zt_R, (w_D_skip M), J, e)) := by
  unfold ok_D_skip at k0
  unfold w_D_skip
  refine zf_whY (X := fun (i1 : Nat) (a1 : zMem) => zz_D (zm_D_skip, d + 2, 0, [some (.ref 194)], []) (zt_T L, zt_R, a1, J, e)) (Y := fun (a1 : zMem) => zz_D (zm_D_skip, d + 2, 37, [none], []) (zt_T L, zt_R, a1, J, e)) (g := (g_D_skip_1 M)) (k := (kb_D_skip_1 M)) (fun i1 a1 k3 hx1 hx2 => ?_) 1000 0 M k0 ?_
  · show zz_D (zm_D_skip, d + 2, 0, [some (.ref 194)], []) (zt_T L, zt_R, a1, J, e) = _
    unfold kb_D_skip_1 at k3
    refine (zz_go 1 (fr' := (zm_D_skip, d + 2, 1, [some (.ref 194)], [.ref 194])) (h' := (zt_T L, zt_R, a1, J, e)) (fun _ => rfl)).trans ?_
    refine zl_getI rfl (by decide) rfl rfl ?_
    refine (zz_go 1 (fr' := (zm_D_skip, d + 2, 5, [some (.ref 194)], [.ref 194, .int (a1 194 11)])) (h' := (zt_T L, zt_R, a1, J, e)) (fun _ => rfl)).trans ?_
    refine zl_getI rfl (by decide) rfl rfl ?_
    rcases zz_bc (decide ((a1 194 10) ≤ (a1 194 11))) with h4 | h4
    · refine zc_geT rfl h4 ?_
      refine zz_weak (L := [none]) ⟨Or.inr ⟨rfl, rfl⟩, trivial⟩ ?_
      have y1 := hx2 (by simp only [g_D_skip_1, h4, zk_t, zk_f, zb_t, zb_f])
      simpa only [g_D_skip_1, h4, zk_t, zk_f, zb_t, zb_f] using y1
    · refine zc_geF rfl h4 ?_
      have k5 := k3 h4
      refine (zz_go 2 (fr' := (zm_D_skip, d + 2, 13, [some (.ref 194)], [.ref 194, .ref 194])) (h' := (zt_T L, zt_R, a1, J, e)) (fun _ => rfl)).trans ?_
      refine zl_getI rfl (by decide) rfl rfl ?_
      have g6 : ok_D_letter a1 (a1 194 11) := k5
      refine zl_vt (d := d + 1) rfl rfl rfl rfl rfl rfl rfl rfl rfl rfl (s_D_letter L e J (d + 0) a1 (a1 194 11) g6) ?_
      show zz_D (zm_D_skip, d + 2, 19, [some (.ref 194)], [.int (v_D_letter a1 (a1 194 11))]) (zt_T L, zt_R, a1, J, e) = _
      refine (zz_go 1 (fr' := (zm_D_skip, d + 2, 21, [some (.ref 194)], [.int (32 : Int32), .int (v_D_letter a1 (a1 194 11))])) (h' := (zt_T L, zt_R, a1, J, e)) (fun _ => rfl)).trans ?_
      rcases zz_bc (decide ((v_D_letter a1 (a1 194 11)) = (32 : Int32))) with h7 | h7
      · refine zc_neT rfl h7 ?_
        refine (zz_go 2 (fr' := (zm_D_skip, d + 2, 26, [some (.ref 194)], [.ref 194, .ref 194])) (h' := (zt_T L, zt_R, a1, J, e)) (fun _ => rfl)).trans ?_
        refine zl_getI rfl (by decide) rfl rfl ?_
        refine (zz_go 2 (fr' := (zm_D_skip, d + 2, 31, [some (.ref 194)], [.int ((a1 194 11) + (1 : Int32)), .ref 194])) (h' := (zt_T L, zt_R, a1, J, e)) (fun _ => rfl)).trans ?_
        refine zl_putI rfl rfl rfl rfl ?_
        refine (zz_go 1 (fr' := (zm_D_skip, d + 2, 0, [some (.ref 194)], [])) (h' := (zt_T L, zt_R, (zz_up a1 194 11 ((a1 194 11) + (1 : Int32))), J, e)) (fun _ => rfl)).trans ?_
        have y1 := hx1 (by simp only [g_D_skip_1, h4, h7, zk_t, zk_f, zb_t, zb_f])
        simpa only [g_D_skip_1, h4, h7, zk_t, zk_f, zb_t, zb_f] using y1
      · refine zc_neF rfl h7 ?_
        refine zz_weak (L := [none]) ⟨Or.inr ⟨rfl, rfl⟩, trivial⟩ ?_
        have y1 := hx2 (by simp only [g_D_skip_1, h4, h7, zk_t, zk_f, zb_t, zb_f])
        simpa only [g_D_skip_1, h4, h7, zk_t, zk_f, zb_t, zb_f] using y1
  show zz_D (zm_D_skip, d + 2, 37, [none], []) (zt_T L, zt_R, (zf_wh 1000 (g_D_skip_1 M) 0 M), J, e) = _
  refine (zz_end 1 (r := (.inl none, (zt_T L, zt_R, (zf_wh 1000 (g_D_skip_1 M) 0 M), J, e))) (fun _ => rfl)).trans ?_
  rfl
def v_D_isSign (M : zMem) (x0 : Int32) : Bool := (bif (decide (((w_D_skip M) 194 10) ≤ ((w_D_skip M) 194 11))) then false else (decide ((v_D_letter (w_D_skip M) ((w_D_skip M) 194 11)) = x0)))
def w_D_isSign (M : zMem) (x0 : Int32) : zMem := (w_D_skip M)
def ok_D_isSign (M : zMem) (x0 : Int32) : Prop := (ok_D_skip M ∧ ((decide (((w_D_skip M) 194 10) ≤ ((w_D_skip M) 194 11))) = false → ok_D_letter (w_D_skip M) ((w_D_skip M) 194 11)))
set_option maxRecDepth 20000 in
set_option maxHeartbeats 2000000 in
theorem s_D_isSign (L e : Nat) (J : zJem) (d : Nat) (M : zMem) (x0 : Int32) (k0 : ok_D_isSign M x0) : zz_D (zm_D_isSign, d + 3, 0, [some (.ref 194), some (.int x0)], []) (zt_T L, zt_R, M, J, e) = some (.inl (some (.int (zb (v_D_isSign M x0)))), (zt_T L, zt_R, (w_D_isSign M x0), J, e)) := by
  unfold ok_D_isSign at k0
  unfold v_D_isSign w_D_isSign
  refine (zz_go 1 (fr' := (zm_D_isSign, d + 3, 1, [some (.ref 194), some (.int x0)], [.ref 194])) (h' := (zt_T L, zt_R, M, J, e)) (fun _ => rfl)).trans ?_
  obtain ⟨g1, k2⟩ := k0
  refine zl_vt (d := d + 2) rfl rfl rfl rfl rfl rfl rfl rfl rfl rfl (s_D_skip L e J (d + 0) M g1) ?_
  show zz_D (zm_D_isSign, d + 3, 4, [some (.ref 194), some (.int x0)], []) (zt_T L, zt_R, (w_D_skip M), J, e) = _
  refine (zz_go 1 (fr' := (zm_D_isSign, d + 3, 5, [some (.ref 194), some (.int x0)], [.ref 194])) (h' := (zt_T L, zt_R, (w_D_skip M), J, e)) (fun _ => rfl)).trans ?_
  refine zl_getI rfl (by decide) rfl rfl ?_
  refine (zz_go 1 (fr' := (zm_D_isSign, d + 3, 9, [some (.ref 194), some (.int x0)], [.ref 194, .int ((w_D_skip M) 194 11)])) (h' := (zt_T L, zt_R, (w_D_skip M), J, e)) (fun _ => rfl)).trans ?_
  refine zl_getI rfl (by decide) rfl rfl ?_
  refine zz_jn (X := zz_D (zm_D_isSign, d + 3, 32, [none, none], [.int (zb (bif (decide (((w_D_skip M) 194 10) ≤ ((w_D_skip M) 194 11))) then false else (decide ((v_D_letter (w_D_skip M) ((w_D_skip M) 194 11)) = x0))))]) (zt_T L, zt_R, (w_D_skip M), J, e)) (fun j3 => ?_) ?_
  · rcases zz_bc (decide (((w_D_skip M) 194 10) ≤ ((w_D_skip M) 194 11))) with h4 | h4
    · refine zc_geT rfl h4 ?_
      refine (zz_go 1 (fr' := (zm_D_isSign, d + 3, 32, [some (.ref 194), some (.int x0)], [.int (0 : Int32)])) (h' := (zt_T L, zt_R, (w_D_skip M), J, e)) (fun _ => rfl)).trans ?_
      refine zz_weak (L := [none, none]) ⟨Or.inr ⟨rfl, rfl⟩, Or.inr ⟨rfl, rfl⟩, trivial⟩ ?_
      simpa only [h4, zk_t, zk_f, zb_t, zb_f] using j3
    · refine zc_geF rfl h4 ?_
      have k5 := k2 h4
      refine (zz_go 2 (fr' := (zm_D_isSign, d + 3, 17, [some (.ref 194), some (.int x0)], [.ref 194, .ref 194])) (h' := (zt_T L, zt_R, (w_D_skip M), J, e)) (fun _ => rfl)).trans ?_
      refine zl_getI rfl (by decide) rfl rfl ?_
      have g6 : ok_D_letter (w_D_skip M) ((w_D_skip M) 194 11) := k5
      refine zl_vt (d := d + 2) rfl rfl rfl rfl rfl rfl rfl rfl rfl rfl (s_D_letter L e J (d + 1) (w_D_skip M) ((w_D_skip M) 194 11) g6) ?_
      show zz_D (zm_D_isSign, d + 3, 23, [some (.ref 194), some (.int x0)], [.int (v_D_letter (w_D_skip M) ((w_D_skip M) 194 11))]) (zt_T L, zt_R, (w_D_skip M), J, e) = _
      refine zz_jn (X := zz_D (zm_D_isSign, d + 3, 32, [none, none], [.int (zb (decide ((v_D_letter (w_D_skip M) ((w_D_skip M) 194 11)) = x0)))]) (zt_T L, zt_R, (w_D_skip M), J, e)) (fun j7 => ?_) ?_
      · refine (zz_go 1 (fr' := (zm_D_isSign, d + 3, 24, [some (.ref 194), some (.int x0)], [.int x0, .int (v_D_letter (w_D_skip M) ((w_D_skip M) 194 11))])) (h' := (zt_T L, zt_R, (w_D_skip M), J, e)) (fun _ => rfl)).trans ?_
        rcases zz_bc (decide ((v_D_letter (w_D_skip M) ((w_D_skip M) 194 11)) = x0)) with h8 | h8
        · refine zc_neT rfl h8 ?_
          refine (zz_go 2 (fr' := (zm_D_isSign, d + 3, 32, [some (.ref 194), some (.int x0)], [.int (1 : Int32)])) (h' := (zt_T L, zt_R, (w_D_skip M), J, e)) (fun _ => rfl)).trans ?_
          refine zz_weak (L := [none, none]) ⟨Or.inr ⟨rfl, rfl⟩, Or.inr ⟨rfl, rfl⟩, trivial⟩ ?_
          simpa only [h8, zk_t, zk_f, zb_t, zb_f] using j7
        · refine zc_neF rfl h8 ?_
          refine (zz_go 1 (fr' := (zm_D_isSign, d + 3, 32, [some (.ref 194), some (.int x0)], [.int (0 : Int32)])) (h' := (zt_T L, zt_R, (w_D_skip M), J, e)) (fun _ => rfl)).trans ?_
          refine zz_weak (L := [none, none]) ⟨Or.inr ⟨rfl, rfl⟩, Or.inr ⟨rfl, rfl⟩, trivial⟩ ?_
          simpa only [h8, zk_t, zk_f, zb_t, zb_f] using j7
      simpa only [h4, zk_t, zk_f, zb_t, zb_f] using j3
  refine zl_retI rfl (zb_01 _) ?_
  rfl
def g_D_has_1 (M : zMem) (w : Nat) (i1 : Nat) (a1 : Int32) : Bool × (Int32) := ((bif (decide (((w_D_skip M) 194 10) ≤ a1)) then false else (v_D_isIn (v_D_letter (w_D_skip M) a1) (97 : Int32) (122 : Int32))), (bif (decide (((w_D_skip M) 194 10) ≤ a1)) then a1 else (bif (v_D_isIn (v_D_letter (w_D_skip M) a1) (97 : Int32) (122 : Int32)) then (a1 + (1 : Int32)) else a1)))
def kb_D_has_1 (M : zMem) (w : Nat) (i1 : Nat) (a1 : Int32) : Prop := ((decide (((w_D_skip M) 194 10) ≤ a1)) = false → ok_D_letter (w_D_skip M) a1)
def g_D_has_2 (M : zMem) (w : Nat) (i2 : Nat) (a2 : Bool × Bool) : Bool × (Bool × Bool) := ((bif (decide ((Int32.ofNat (zz_S.getD w []).length) ≤ (Int32.ofNat i2))) then false else (decide ((v_D_letter (w_D_skip M) (((w_D_skip M) 194 11) + (Int32.ofNat i2))) = ((zz_S.getD w []).getD (Int32.ofNat i2).toNatClampNeg 0)))), ((bif (decide ((Int32.ofNat (zz_S.getD w []).length) ≤ (Int32.ofNat i2))) then false else (bif (decide ((v_D_letter (w_D_skip M) (((w_D_skip M) 194 11) + (Int32.ofNat i2))) = ((zz_S.getD w []).getD (Int32.ofNat i2).toNatClampNeg 0))) then false else true)), (bif (decide ((Int32.ofNat (zz_S.getD w []).length) ≤ (Int32.ofNat i2))) then a2.2 else (bif (decide ((v_D_letter (w_D_skip M) (((w_D_skip M) 194 11) + (Int32.ofNat i2))) = ((zz_S.getD w []).getD (Int32.ofNat i2).toNatClampNeg 0))) then a2.2 else false))))
def kb_D_has_2 (M : zMem) (w : Nat) (i2 : Nat) (a2 : Bool × Bool) : Prop := ((decide ((Int32.ofNat (zz_S.getD w []).length) ≤ (Int32.ofNat i2))) = false → (ok_D_letter (w_D_skip M) (((w_D_skip M) 194 11) + (Int32.ofNat i2)) ∧ zz_in (Int32.ofNat i2) (zz_S.getD w []).length = true))
def v_D_has (M : zMem) (w : Nat) : Bool := (bif (decide (((zf_wh 1000 (g_D_has_1 M w) 0 ((w_D_skip M) 194 11)) - ((w_D_skip M) 194 11)) = (Int32.ofNat (zz_S.getD w []).length))) then (bif (zf_wh 1000 (g_D_has_2 M w) 0 (false, false)).1 then (zf_wh 1000 (g_D_has_2 M w) 0 (false, false)).2 else true) else false)
def w_D_has (M : zMem) (w : Nat) : zMem := (bif (decide (((zf_wh 1000 (g_D_has_1 M w) 0 ((w_D_skip M) 194 11)) - ((w_D_skip M) 194 11)) = (Int32.ofNat (zz_S.getD w []).length))) then (bif (zf_wh 1000 (g_D_has_2 M w) 0 (false, false)).1 then (w_D_skip M) else (zz_up (w_D_skip M) 194 11 (zf_wh 1000 (g_D_has_1 M w) 0 ((w_D_skip M) 194 11)))) else (w_D_skip M))
def ok_D_has (M : zMem) (w : Nat) : Prop := (ok_D_skip M ∧ ((zf_wk 1000 (g_D_has_1 M w) (kb_D_has_1 M w) 0 ((w_D_skip M) 194 11)) ∧ ((decide (((zf_wh 1000 (g_D_has_1 M w) 0 ((w_D_skip M) 194 11)) - ((w_D_skip M) 194 11)) = (Int32.ofNat (zz_S.getD w []).length))) = true → (zf_wk 1000 (g_D_has_2 M w) (kb_D_has_2 M w) 0 (false, false)))))
set_option maxRecDepth 20000 in
set_option maxHeartbeats 2000000 in
theorem s_D_has (L e : Nat) (J : zJem) (d : Nat) (M : zMem) (w : Nat) (hw : Nat.blt w zz_S.length = true) (k0 : ok_D_has M w) : zz_D (zm_D_has, d + 8, 0, [some (.ref 194), some (.ref (1000000 + w)), none, none], []) (zt_T L, zt_R, M, J, e) = some (.inl (some (.int (zb (v_D_has M w)))), (zt_T L, zt_R, (w_D_has M w), J, e)) := by
  unfold ok_D_has at k0
  unfold v_D_has w_D_has
  refine (zz_go 1 (fr' := (zm_D_has, d + 8, 1, [some (.ref 194), some (.ref (1000000 + w)), none, none], [.ref 194])) (h' := (zt_T L, zt_R, M, J, e)) (fun _ => rfl)).trans ?_
  obtain ⟨g1, k2⟩ := k0
  refine zl_vt (d := d + 7) rfl rfl rfl rfl rfl rfl rfl rfl rfl rfl (s_D_skip L e J (d + 5) M g1) ?_
  show zz_D (zm_D_has, d + 8, 4, [some (.ref 194), some (.ref (1000000 + w)), none, none], []) (zt_T L, zt_R, (w_D_skip M), J, e) = _
  refine (zz_go 1 (fr' := (zm_D_has, d + 8, 5, [some (.ref 194), some (.ref (1000000 + w)), none, none], [.ref 194])) (h' := (zt_T L, zt_R, (w_D_skip M), J, e)) (fun _ => rfl)).trans ?_
  refine zl_getI rfl (by decide) rfl rfl ?_
  refine (zz_go 1 (fr' := (zm_D_has, d + 8, 9, [some (.ref 194), some (.ref (1000000 + w)), some (.int ((w_D_skip M) 194 11)), none], [])) (h' := (zt_T L, zt_R, (w_D_skip M), J, e)) (fun _ => rfl)).trans ?_
  obtain ⟨k3, k4⟩ := k2
  refine zf_whY (X := fun (i1 : Nat) (a1 : Int32) => zz_D (zm_D_has, d + 8, 9, [some (.ref 194), some (.ref (1000000 + w)), some (.int a1), none], []) (zt_T L, zt_R, (w_D_skip M), J, e)) (Y := fun (a1 : Int32) => zz_D (zm_D_has, d + 8, 38, [some (.ref 194), some (.ref (1000000 + w)), some (.int a1), none], []) (zt_T L, zt_R, (w_D_skip M), J, e)) (g := (g_D_has_1 M w)) (k := (kb_D_has_1 M w)) (fun i1 a1 k7 hx5 hx6 => ?_) 1000 0 ((w_D_skip M) 194 11) k3 ?_
  · show zz_D (zm_D_has, d + 8, 9, [some (.ref 194), some (.ref (1000000 + w)), some (.int a1), none], []) (zt_T L, zt_R, (w_D_skip M), J, e) = _
    unfold kb_D_has_1 at k7
    refine (zz_go 2 (fr' := (zm_D_has, d + 8, 11, [some (.ref 194), some (.ref (1000000 + w)), some (.int a1), none], [.ref 194, .int a1])) (h' := (zt_T L, zt_R, (w_D_skip M), J, e)) (fun _ => rfl)).trans ?_
    refine zl_getI rfl (by decide) rfl rfl ?_
    rcases zz_bc (decide (((w_D_skip M) 194 10) ≤ a1)) with h8 | h8
    · refine zc_geT rfl h8 ?_
      have y1 := hx6 (by simp only [g_D_has_1, h8, zk_t, zk_f, zb_t, zb_f])
      simpa only [g_D_has_1, h8, zk_t, zk_f, zb_t, zb_f] using y1
    · refine zc_geF rfl h8 ?_
      have k9 := k7 h8
      refine (zz_go 2 (fr' := (zm_D_has, d + 8, 19, [some (.ref 194), some (.ref (1000000 + w)), some (.int a1), none], [.int a1, .ref 194])) (h' := (zt_T L, zt_R, (w_D_skip M), J, e)) (fun _ => rfl)).trans ?_
      have g10 : ok_D_letter (w_D_skip M) a1 := k9
      refine zl_vt (d := d + 7) rfl rfl rfl rfl rfl rfl rfl rfl rfl rfl (s_D_letter L e J (d + 6) (w_D_skip M) a1 g10) ?_
      show zz_D (zm_D_has, d + 8, 22, [some (.ref 194), some (.ref (1000000 + w)), some (.int a1), none], [.int (v_D_letter (w_D_skip M) a1)]) (zt_T L, zt_R, (w_D_skip M), J, e) = _
      refine (zz_go 2 (fr' := (zm_D_has, d + 8, 26, [some (.ref 194), some (.ref (1000000 + w)), some (.int a1), none], [.int (122 : Int32), .int (97 : Int32), .int (v_D_letter (w_D_skip M) a1)])) (h' := (zt_T L, zt_R, (w_D_skip M), J, e)) (fun _ => rfl)).trans ?_
      refine zl_st (d := d + 7) rfl rfl rfl rfl rfl rfl rfl (s_D_isIn L e J (d + 6) (v_D_letter (w_D_skip M) a1) (97 : Int32) (122 : Int32)) ?_
      show zz_D (zm_D_has, d + 8, 29, [some (.ref 194), some (.ref (1000000 + w)), some (.int a1), none], [.int (zb (v_D_isIn (v_D_letter (w_D_skip M) a1) (97 : Int32) (122 : Int32)))]) (zt_T L, zt_R, (w_D_skip M), J, e) = _
      rcases zz_bc (v_D_isIn (v_D_letter (w_D_skip M) a1) (97 : Int32) (122 : Int32)) with h11 | h11
      · refine zq_eT rfl h11 ?_
        refine (zz_go 2 (fr' := (zm_D_has, d + 8, 9, [some (.ref 194), some (.ref (1000000 + w)), some (.int (a1 + (1 : Int32))), none], [])) (h' := (zt_T L, zt_R, (w_D_skip M), J, e)) (fun _ => rfl)).trans ?_
        have y1 := hx5 (by simp only [g_D_has_1, h8, h11, zk_t, zk_f, zb_t, zb_f])
        simpa only [g_D_has_1, h8, h11, zk_t, zk_f, zb_t, zb_f] using y1
      · refine zq_eF rfl h11 ?_
        have y1 := hx6 (by simp only [g_D_has_1, h8, h11, zk_t, zk_f, zb_t, zb_f])
        simpa only [g_D_has_1, h8, h11, zk_t, zk_f, zb_t, zb_f] using y1
  show zz_D (zm_D_has, d + 8, 38, [some (.ref 194), some (.ref (1000000 + w)), some (.int (zf_wh 1000 (g_D_has_1 M w) 0 ((w_D_skip M) 194 11))), none], []) (zt_T L, zt_R, (w_D_skip M), J, e) = _
  refine (zz_go 2 (fr' := (zm_D_has, d + 8, 40, [some (.ref 194), some (.ref (1000000 + w)), some (.int (zf_wh 1000 (g_D_has_1 M w) 0 ((w_D_skip M) 194 11))), none], [.ref 194, .int (zf_wh 1000 (g_D_has_1 M w) 0 ((w_D_skip M) 194 11))])) (h' := (zt_T L, zt_R, (w_D_skip M), J, e)) (fun _ => rfl)).trans ?_
  refine zl_getI rfl (by decide) rfl rfl ?_
  refine (zz_go 2 (fr' := (zm_D_has, d + 8, 45, [some (.ref 194), some (.ref (1000000 + w)), some (.int (zf_wh 1000 (g_D_has_1 M w) 0 ((w_D_skip M) 194 11))), none], [.ref (1000000 + w), .int ((zf_wh 1000 (g_D_has_1 M w) 0 ((w_D_skip M) 194 11)) - ((w_D_skip M) 194 11))])) (h' := (zt_T L, zt_R, (w_D_skip M), J, e)) (fun _ => rfl)).trans ?_
  refine zl_slen rfl hw rfl rfl ?_
  rcases zz_bc (decide (((zf_wh 1000 (g_D_has_1 M w) 0 ((w_D_skip M) 194 11)) - ((w_D_skip M) 194 11)) = (Int32.ofNat (zz_S.getD w []).length))) with h12 | h12
  · refine zc_eqT rfl h12 ?_
    have k13 := k4 h12
    refine (zz_go 2 (fr' := (zm_D_has, d + 8, 55, [some (.ref 194), some (.ref (1000000 + w)), some (.int (zf_wh 1000 (g_D_has_1 M w) 0 ((w_D_skip M) 194 11))), some (.int (0 : Int32))], [])) (h' := (zt_T L, zt_R, (w_D_skip M), J, e)) (fun _ => rfl)).trans ?_
    refine zf_whY (X := fun (i2 : Nat) (a2 : Bool × Bool) => zz_D (zm_D_has, d + 8, 55, [some (.ref 194), some (.ref (1000000 + w)), some (.int (zf_wh 1000 (g_D_has_1 M w) 0 ((w_D_skip M) 194 11))), some (.int (Int32.ofNat i2))], []) (zt_T L, zt_R, (w_D_skip M), J, e)) (Y := fun (a2 : Bool × Bool) => (bif a2.1 then some (.inl (some (.int (zb a2.2))), (zt_T L, zt_R, (w_D_skip M), J, e)) else zz_D (zm_D_has, d + 8, 89, [some (.ref 194), none, some (.int (zf_wh 1000 (g_D_has_1 M w) 0 ((w_D_skip M) 194 11))), none], []) (zt_T L, zt_R, (w_D_skip M), J, e))) (g := (g_D_has_2 M w)) (k := (kb_D_has_2 M w)) (fun i2 a2 k16 hx14 hx15 => ?_) 1000 0 (false, false) k13 ?_
    · show zz_D (zm_D_has, d + 8, 55, [some (.ref 194), some (.ref (1000000 + w)), some (.int (zf_wh 1000 (g_D_has_1 M w) 0 ((w_D_skip M) 194 11))), some (.int (Int32.ofNat i2))], []) (zt_T L, zt_R, (w_D_skip M), J, e) = _
      unfold kb_D_has_2 at k16
      refine (zz_go 2 (fr' := (zm_D_has, d + 8, 57, [some (.ref 194), some (.ref (1000000 + w)), some (.int (zf_wh 1000 (g_D_has_1 M w) 0 ((w_D_skip M) 194 11))), some (.int (Int32.ofNat i2))], [.ref (1000000 + w), .int (Int32.ofNat i2)])) (h' := (zt_T L, zt_R, (w_D_skip M), J, e)) (fun _ => rfl)).trans ?_
      refine zl_slen rfl hw rfl rfl ?_
      rcases zz_bc (decide ((Int32.ofNat (zz_S.getD w []).length) ≤ (Int32.ofNat i2))) with h17 | h17
      · refine zc_geT rfl h17 ?_
        refine zz_weak (L := [some (.ref 194), none, some (.int (zf_wh 1000 (g_D_has_1 M w) 0 ((w_D_skip M) 194 11))), none]) ⟨Or.inl rfl, Or.inr ⟨rfl, rfl⟩, Or.inl rfl, Or.inr ⟨rfl, rfl⟩, trivial⟩ ?_
        have y1 := hx15 (by simp only [g_D_has_2, h17, zk_t, zk_f, zb_t, zb_f])
        simpa only [g_D_has_2, h17, zk_t, zk_f, zb_t, zb_f] using y1
      · refine zc_geF rfl h17 ?_
        have k18 := k16 h17
        refine (zz_go 2 (fr' := (zm_D_has, d + 8, 65, [some (.ref 194), some (.ref (1000000 + w)), some (.int (zf_wh 1000 (g_D_has_1 M w) 0 ((w_D_skip M) 194 11))), some (.int (Int32.ofNat i2))], [.ref 194, .ref 194])) (h' := (zt_T L, zt_R, (w_D_skip M), J, e)) (fun _ => rfl)).trans ?_
        refine zl_getI rfl (by decide) rfl rfl ?_
        refine (zz_go 2 (fr' := (zm_D_has, d + 8, 70, [some (.ref 194), some (.ref (1000000 + w)), some (.int (zf_wh 1000 (g_D_has_1 M w) 0 ((w_D_skip M) 194 11))), some (.int (Int32.ofNat i2))], [.int (((w_D_skip M) 194 11) + (Int32.ofNat i2)), .ref 194])) (h' := (zt_T L, zt_R, (w_D_skip M), J, e)) (fun _ => rfl)).trans ?_
        obtain ⟨g19, k20⟩ := k18
        refine zl_vt (d := d + 7) rfl rfl rfl rfl rfl rfl rfl rfl rfl rfl (s_D_letter L e J (d + 6) (w_D_skip M) (((w_D_skip M) 194 11) + (Int32.ofNat i2)) g19) ?_
        show zz_D (zm_D_has, d + 8, 73, [some (.ref 194), some (.ref (1000000 + w)), some (.int (zf_wh 1000 (g_D_has_1 M w) 0 ((w_D_skip M) 194 11))), some (.int (Int32.ofNat i2))], [.int (v_D_letter (w_D_skip M) (((w_D_skip M) 194 11) + (Int32.ofNat i2)))]) (zt_T L, zt_R, (w_D_skip M), J, e) = _
        refine (zz_go 2 (fr' := (zm_D_has, d + 8, 75, [some (.ref 194), some (.ref (1000000 + w)), some (.int (zf_wh 1000 (g_D_has_1 M w) 0 ((w_D_skip M) 194 11))), some (.int (Int32.ofNat i2))], [.int (Int32.ofNat i2), .ref (1000000 + w), .int (v_D_letter (w_D_skip M) (((w_D_skip M) 194 11) + (Int32.ofNat i2)))])) (h' := (zt_T L, zt_R, (w_D_skip M), J, e)) (fun _ => rfl)).trans ?_
        have g21 : zz_in (Int32.ofNat i2) (zz_S.getD w []).length = true := k20
        refine zl_chr rfl hw g21 rfl rfl ?_
        rcases zz_bc (decide ((v_D_letter (w_D_skip M) (((w_D_skip M) 194 11) + (Int32.ofNat i2))) = ((zz_S.getD w []).getD (Int32.ofNat i2).toNatClampNeg 0))) with h22 | h22
        · refine zc_eqT rfl h22 ?_
          refine (zz_go 2 (fr' := (zm_D_has, d + 8, 55, [some (.ref 194), some (.ref (1000000 + w)), some (.int (zf_wh 1000 (g_D_has_1 M w) 0 ((w_D_skip M) 194 11))), some (.int (Int32.ofNat i2 + 1))], [])) (h' := (zt_T L, zt_R, (w_D_skip M), J, e)) (fun _ => rfl)).trans ?_
          rw [zi_succ i2]
          have y1 := hx14 (by simp only [g_D_has_2, h17, h22, zk_t, zk_f, zb_t, zb_f])
          simpa only [g_D_has_2, h17, h22, zk_t, zk_f, zb_t, zb_f] using y1
        · refine zc_eqF rfl h22 ?_
          refine (zz_go 1 (fr' := (zm_D_has, d + 8, 82, [some (.ref 194), some (.ref (1000000 + w)), some (.int (zf_wh 1000 (g_D_has_1 M w) 0 ((w_D_skip M) 194 11))), some (.int (Int32.ofNat i2))], [.int (0 : Int32)])) (h' := (zt_T L, zt_R, (w_D_skip M), J, e)) (fun _ => rfl)).trans ?_
          refine zl_retI rfl rfl ?_
          have y1 := hx15 (by simp only [g_D_has_2, h17, h22, zk_t, zk_f, zb_t, zb_f])
          simpa only [g_D_has_2, h17, h22, zk_t, zk_f, zb_t, zb_f] using y1
    show (bif (zf_wh 1000 (g_D_has_2 M w) 0 (false, false)).1 then some (.inl (some (.int (zb (zf_wh 1000 (g_D_has_2 M w) 0 (false, false)).2))), (zt_T L, zt_R, (w_D_skip M), J, e)) else zz_D (zm_D_has, d + 8, 89, [some (.ref 194), none, some (.int (zf_wh 1000 (g_D_has_1 M w) 0 ((w_D_skip M) 194 11))), none], []) (zt_T L, zt_R, (w_D_skip M), J, e)) = _
    refine zz_ec (fun h23 => ?_) (fun h23 => ?_)
    · skip
      first | (simp only [h12, h23, zk_t, zk_f, zb_t, zb_f]; done) | (simp only [h12, h23, zk_t, zk_f, zb_t, zb_f]; rfl) | rfl
    refine (zz_go 2 (fr' := (zm_D_has, d + 8, 91, [some (.ref 194), none, some (.int (zf_wh 1000 (g_D_has_1 M w) 0 ((w_D_skip M) 194 11))), none], [.int (zf_wh 1000 (g_D_has_1 M w) 0 ((w_D_skip M) 194 11)), .ref 194])) (h' := (zt_T L, zt_R, (w_D_skip M), J, e)) (fun _ => rfl)).trans ?_
    refine zl_putI rfl rfl rfl rfl ?_
    refine (zz_go 1 (fr' := (zm_D_has, d + 8, 95, [some (.ref 194), none, some (.int (zf_wh 1000 (g_D_has_1 M w) 0 ((w_D_skip M) 194 11))), none], [.int (1 : Int32)])) (h' := (zt_T L, zt_R, (zz_up (w_D_skip M) 194 11 (zf_wh 1000 (g_D_has_1 M w) 0 ((w_D_skip M) 194 11))), J, e)) (fun _ => rfl)).trans ?_
    refine zl_retI rfl rfl ?_
    first | (simp only [h12, h23, zk_t, zk_f, zb_t, zb_f]; done) | (simp only [h12, h23, zk_t, zk_f, zb_t, zb_f]; rfl) | rfl
  · refine zc_eqF rfl h12 ?_
    refine (zz_go 1 (fr' := (zm_D_has, d + 8, 52, [some (.ref 194), some (.ref (1000000 + w)), some (.int (zf_wh 1000 (g_D_has_1 M w) 0 ((w_D_skip M) 194 11))), none], [.int (0 : Int32)])) (h' := (zt_T L, zt_R, (w_D_skip M), J, e)) (fun _ => rfl)).trans ?_
    refine zl_retI rfl rfl ?_
    first | (simp only [h12, zk_t, zk_f, zb_t, zb_f]; done) | (simp only [h12, zk_t, zk_f, zb_t, zb_f]; rfl) | rfl
def w_D_wrong (M : zMem) (x0 : Int32) : zMem := (bif (decide ((M 194 12) = (-1 : Int32))) then (zz_up M 194 12 x0) else M)
set_option maxRecDepth 20000 in
set_option maxHeartbeats 2000000 in
theorem s_D_wrong (L e : Nat) (J : zJem) (d : Nat) (M : zMem) (x0 : Int32) : zz_D (zm_D_wrong, d + 1, 0, [some (.ref 194), some (.int x0)], []) (zt_T L, zt_R, M, J, e) = some (.inl (none), (zt_T L, zt_R, (w_D_wrong M x0), J, e)) := by
  unfold w_D_wrong
  refine (zz_go 1 (fr' := (zm_D_wrong, d + 1, 1, [some (.ref 194), some (.int x0)], [.ref 194])) (h' := (zt_T L, zt_R, M, J, e)) (fun _ => rfl)).trans ?_
  refine zl_getI rfl (by decide) rfl rfl ?_
  refine zz_jn (X := zz_D (zm_D_wrong, d + 1, 13, [none, none], []) (zt_T L, zt_R, (bif (decide ((M 194 12) = (-1 : Int32))) then (zz_up M 194 12 x0) else M), J, e)) (fun j1 => ?_) ?_
  · refine (zz_go 1 (fr' := (zm_D_wrong, d + 1, 5, [some (.ref 194), some (.int x0)], [.int (-1 : Int32), .int (M 194 12)])) (h' := (zt_T L, zt_R, M, J, e)) (fun _ => rfl)).trans ?_
    rcases zz_bc (decide ((M 194 12) = (-1 : Int32))) with h2 | h2
    · refine zc_neT rfl h2 ?_
      refine (zz_go 2 (fr' := (zm_D_wrong, d + 1, 10, [some (.ref 194), some (.int x0)], [.int x0, .ref 194])) (h' := (zt_T L, zt_R, M, J, e)) (fun _ => rfl)).trans ?_
      refine zl_putI rfl rfl rfl rfl ?_
      refine zz_weak (L := [none, none]) ⟨Or.inr ⟨rfl, rfl⟩, Or.inr ⟨rfl, rfl⟩, trivial⟩ ?_
      simpa only [h2, zk_t, zk_f, zb_t, zb_f] using j1
    · refine zc_neF rfl h2 ?_
      refine zz_weak (L := [none, none]) ⟨Or.inr ⟨rfl, rfl⟩, Or.inr ⟨rfl, rfl⟩, trivial⟩ ?_
      simpa only [h2, zk_t, zk_f, zb_t, zb_f] using j1
  refine (zz_end 1 (r := (.inl none, (zt_T L, zt_R, (bif (decide ((M 194 12) = (-1 : Int32))) then (zz_up M 194 12 x0) else M), J, e))) (fun _ => rfl)).trans ?_
  rfl
def v_D_here (M : zMem) : Int32 := ((w_D_skip M) 194 11)
def w_D_here (M : zMem) : zMem := (w_D_skip M)
def ok_D_here (M : zMem) : Prop := ok_D_skip M
set_option maxRecDepth 20000 in
set_option maxHeartbeats 2000000 in
theorem s_D_here (L e : Nat) (J : zJem) (d : Nat) (M : zMem) (k0 : ok_D_here M) : zz_D (zm_D_here, d + 3, 0, [some (.ref 194)], []) (zt_T L, zt_R, M, J, e) = some (.inl (some (.int (v_D_here M))), (zt_T L, zt_R, (w_D_here M), J, e)) := by
  unfold ok_D_here at k0
  unfold v_D_here w_D_here
  refine (zz_go 1 (fr' := (zm_D_here, d + 3, 1, [some (.ref 194)], [.ref 194])) (h' := (zt_T L, zt_R, M, J, e)) (fun _ => rfl)).trans ?_
  have g1 : ok_D_skip M := k0
  refine zl_vt (d := d + 2) rfl rfl rfl rfl rfl rfl rfl rfl rfl rfl (s_D_skip L e J (d + 0) M g1) ?_
  show zz_D (zm_D_here, d + 3, 4, [some (.ref 194)], []) (zt_T L, zt_R, (w_D_skip M), J, e) = _
  refine (zz_go 1 (fr' := (zm_D_here, d + 3, 5, [some (.ref 194)], [.ref 194])) (h' := (zt_T L, zt_R, (w_D_skip M), J, e)) (fun _ => rfl)).trans ?_
  refine zl_getI rfl (by decide) rfl rfl ?_
  refine zl_retI rfl rfl ?_
  rfl
def g_D_figures_1 (M : zMem) (x0 : Int32) (x1 : Int32) (i1 : Nat) (a1 : Int32 × zMem) : Bool × (Int32 × zMem) := ((bif (decide ((a1.2 194 10) ≤ (a1.2 194 11))) then false else (bif (v_D_isIn (v_D_letter a1.2 (a1.2 194 11)) (48 : Int32) (57 : Int32)) then (bif (decide ((3 : Int32) < ((a1.2 194 11) - (v_D_here M)))) then false else true) else false)), ((bif (decide ((a1.2 194 10) ≤ (a1.2 194 11))) then a1.1 else (bif (v_D_isIn (v_D_letter a1.2 (a1.2 194 11)) (48 : Int32) (57 : Int32)) then (bif (decide ((3 : Int32) < ((a1.2 194 11) - (v_D_here M)))) then a1.1 else ((((10 : Int32) * a1.1) + (v_D_letter a1.2 (a1.2 194 11))) - (48 : Int32))) else a1.1)), (bif (decide ((a1.2 194 10) ≤ (a1.2 194 11))) then a1.2 else (bif (v_D_isIn (v_D_letter a1.2 (a1.2 194 11)) (48 : Int32) (57 : Int32)) then (bif (decide ((3 : Int32) < ((a1.2 194 11) - (v_D_here M)))) then a1.2 else (zz_up a1.2 194 11 ((a1.2 194 11) + (1 : Int32)))) else a1.2))))
def kb_D_figures_1 (M : zMem) (x0 : Int32) (x1 : Int32) (i1 : Nat) (a1 : Int32 × zMem) : Prop := ((decide ((a1.2 194 10) ≤ (a1.2 194 11))) = false → ok_D_letter a1.2 (a1.2 194 11))
def v_D_figures (M : zMem) (x0 : Int32) (x1 : Int32) : Int32 := (bif (decide ((M 194 12) = (-1 : Int32))) then (zf_wh 1000 (g_D_figures_1 M x0 x1) 0 ((0 : Int32), (w_D_here M))).1 else (0 : Int32))
def w_D_figures (M : zMem) (x0 : Int32) (x1 : Int32) : zMem := (bif (decide ((M 194 12) = (-1 : Int32))) then (bif (decide (((zf_wh 1000 (g_D_figures_1 M x0 x1) 0 ((0 : Int32), (w_D_here M))).2 194 11) = (v_D_here M))) then (w_D_wrong (zf_wh 1000 (g_D_figures_1 M x0 x1) 0 ((0 : Int32), (w_D_here M))).2 (v_D_here M)) else (bif (decide ((3 : Int32) < (((zf_wh 1000 (g_D_figures_1 M x0 x1) 0 ((0 : Int32), (w_D_here M))).2 194 11) - (v_D_here M)))) then (w_D_wrong (zf_wh 1000 (g_D_figures_1 M x0 x1) 0 ((0 : Int32), (w_D_here M))).2 (v_D_here M)) else (bif (decide ((zf_wh 1000 (g_D_figures_1 M x0 x1) 0 ((0 : Int32), (w_D_here M))).1 < x0)) then (w_D_wrong (zf_wh 1000 (g_D_figures_1 M x0 x1) 0 ((0 : Int32), (w_D_here M))).2 (v_D_here M)) else (bif (decide ((zf_wh 1000 (g_D_figures_1 M x0 x1) 0 ((0 : Int32), (w_D_here M))).1 ≤ x1)) then (zf_wh 1000 (g_D_figures_1 M x0 x1) 0 ((0 : Int32), (w_D_here M))).2 else (w_D_wrong (zf_wh 1000 (g_D_figures_1 M x0 x1) 0 ((0 : Int32), (w_D_here M))).2 (v_D_here M)))))) else M)
def ok_D_figures (M : zMem) (x0 : Int32) (x1 : Int32) : Prop := ((decide ((M 194 12) = (-1 : Int32))) = true → (ok_D_here M ∧ (zf_wk 1000 (g_D_figures_1 M x0 x1) (kb_D_figures_1 M x0 x1) 0 ((0 : Int32), (w_D_here M)))))
set_option maxRecDepth 20000 in
set_option maxHeartbeats 2000000 in
theorem s_D_figures (L e : Nat) (J : zJem) (d : Nat) (M : zMem) (x0 : Int32) (x1 : Int32) (k0 : ok_D_figures M x0 x1) : zz_D (zm_D_figures, d + 4, 0, [some (.ref 194), some (.int x0), some (.int x1), none, none], []) (zt_T L, zt_R, M, J, e) = some (.inl (some (.int (v_D_figures M x0 x1))), (zt_T L, zt_R, (w_D_figures M x0 x1), J, e)) := by
  unfold ok_D_figures at k0
  unfold v_D_figures w_D_figures
  refine (zz_go 1 (fr' := (zm_D_figures, d + 4, 1, [some (.ref 194), some (.int x0), some (.int x1), none, none], [.ref 194])) (h' := (zt_T L, zt_R, M, J, e)) (fun _ => rfl)).trans ?_
  refine zl_getI rfl (by decide) rfl rfl ?_
  refine (zz_go 1 (fr' := (zm_D_figures, d + 4, 5, [some (.ref 194), some (.int x0), some (.int x1), none, none], [.int (-1 : Int32), .int (M 194 12)])) (h' := (zt_T L, zt_R, M, J, e)) (fun _ => rfl)).trans ?_
  rcases zz_bc (decide ((M 194 12) = (-1 : Int32))) with h1 | h1
  · refine zc_eqT rfl h1 ?_
    have k2 := k0 h1
    refine (zz_go 1 (fr' := (zm_D_figures, d + 4, 11, [some (.ref 194), some (.int x0), some (.int x1), none, none], [.ref 194])) (h' := (zt_T L, zt_R, M, J, e)) (fun _ => rfl)).trans ?_
    obtain ⟨g3, k4⟩ := k2
    refine zl_vt (d := d + 3) rfl rfl rfl rfl rfl rfl rfl rfl rfl rfl (s_D_here L e J (d + 0) M g3) ?_
    show zz_D (zm_D_figures, d + 4, 14, [some (.ref 194), some (.int x0), some (.int x1), none, none], [.int (v_D_here M)]) (zt_T L, zt_R, (w_D_here M), J, e) = _
    refine (zz_go 3 (fr' := (zm_D_figures, d + 4, 18, [some (.ref 194), some (.int x0), some (.int x1), some (.int (v_D_here M)), some (.int (0 : Int32))], [])) (h' := (zt_T L, zt_R, (w_D_here M), J, e)) (fun _ => rfl)).trans ?_
    refine zf_whY (X := fun (i1 : Nat) (a1 : Int32 × zMem) => zz_D (zm_D_figures, d + 4, 18, [some (.ref 194), some (.int x0), some (.int x1), some (.int (v_D_here M)), some (.int a1.1)], []) (zt_T L, zt_R, a1.2, J, e)) (Y := fun (a1 : Int32 × zMem) => zz_D (zm_D_figures, d + 4, 89, [some (.ref 194), some (.int x0), some (.int x1), some (.int (v_D_here M)), some (.int a1.1)], []) (zt_T L, zt_R, a1.2, J, e)) (g := (g_D_figures_1 M x0 x1)) (k := (kb_D_figures_1 M x0 x1)) (fun i1 a1 k7 hx5 hx6 => ?_) 1000 0 ((0 : Int32), (w_D_here M)) k4 ?_
    · show zz_D (zm_D_figures, d + 4, 18, [some (.ref 194), some (.int x0), some (.int x1), some (.int (v_D_here M)), some (.int a1.1)], []) (zt_T L, zt_R, a1.2, J, e) = _
      unfold kb_D_figures_1 at k7
      refine (zz_go 1 (fr' := (zm_D_figures, d + 4, 19, [some (.ref 194), some (.int x0), some (.int x1), some (.int (v_D_here M)), some (.int a1.1)], [.ref 194])) (h' := (zt_T L, zt_R, a1.2, J, e)) (fun _ => rfl)).trans ?_
      refine zl_getI rfl (by decide) rfl rfl ?_
      refine (zz_go 1 (fr' := (zm_D_figures, d + 4, 23, [some (.ref 194), some (.int x0), some (.int x1), some (.int (v_D_here M)), some (.int a1.1)], [.ref 194, .int (a1.2 194 11)])) (h' := (zt_T L, zt_R, a1.2, J, e)) (fun _ => rfl)).trans ?_
      refine zl_getI rfl (by decide) rfl rfl ?_
      rcases zz_bc (decide ((a1.2 194 10) ≤ (a1.2 194 11))) with h8 | h8
      · refine zc_geT rfl h8 ?_
        have y1 := hx6 (by simp only [g_D_figures_1, h8, zk_t, zk_f, zb_t, zb_f])
        simpa only [g_D_figures_1, h8, zk_t, zk_f, zb_t, zb_f] using y1
      · refine zc_geF rfl h8 ?_
        have k9 := k7 h8
        refine (zz_go 2 (fr' := (zm_D_figures, d + 4, 31, [some (.ref 194), some (.int x0), some (.int x1), some (.int (v_D_here M)), some (.int a1.1)], [.ref 194, .ref 194])) (h' := (zt_T L, zt_R, a1.2, J, e)) (fun _ => rfl)).trans ?_
        refine zl_getI rfl (by decide) rfl rfl ?_
        have g10 : ok_D_letter a1.2 (a1.2 194 11) := k9
        refine zl_vt (d := d + 3) rfl rfl rfl rfl rfl rfl rfl rfl rfl rfl (s_D_letter L e J (d + 2) a1.2 (a1.2 194 11) g10) ?_
        show zz_D (zm_D_figures, d + 4, 37, [some (.ref 194), some (.int x0), some (.int x1), some (.int (v_D_here M)), some (.int a1.1)], [.int (v_D_letter a1.2 (a1.2 194 11))]) (zt_T L, zt_R, a1.2, J, e) = _
        refine (zz_go 2 (fr' := (zm_D_figures, d + 4, 41, [some (.ref 194), some (.int x0), some (.int x1), some (.int (v_D_here M)), some (.int a1.1)], [.int (57 : Int32), .int (48 : Int32), .int (v_D_letter a1.2 (a1.2 194 11))])) (h' := (zt_T L, zt_R, a1.2, J, e)) (fun _ => rfl)).trans ?_
        refine zl_st (d := d + 3) rfl rfl rfl rfl rfl rfl rfl (s_D_isIn L e J (d + 2) (v_D_letter a1.2 (a1.2 194 11)) (48 : Int32) (57 : Int32)) ?_
        show zz_D (zm_D_figures, d + 4, 44, [some (.ref 194), some (.int x0), some (.int x1), some (.int (v_D_here M)), some (.int a1.1)], [.int (zb (v_D_isIn (v_D_letter a1.2 (a1.2 194 11)) (48 : Int32) (57 : Int32)))]) (zt_T L, zt_R, a1.2, J, e) = _
        rcases zz_bc (v_D_isIn (v_D_letter a1.2 (a1.2 194 11)) (48 : Int32) (57 : Int32)) with h11 | h11
        · refine zq_eT rfl h11 ?_
          refine (zz_go 1 (fr' := (zm_D_figures, d + 4, 48, [some (.ref 194), some (.int x0), some (.int x1), some (.int (v_D_here M)), some (.int a1.1)], [.ref 194])) (h' := (zt_T L, zt_R, a1.2, J, e)) (fun _ => rfl)).trans ?_
          refine zl_getI rfl (by decide) rfl rfl ?_
          refine (zz_go 3 (fr' := (zm_D_figures, d + 4, 54, [some (.ref 194), some (.int x0), some (.int x1), some (.int (v_D_here M)), some (.int a1.1)], [.int (3 : Int32), .int ((a1.2 194 11) - (v_D_here M))])) (h' := (zt_T L, zt_R, a1.2, J, e)) (fun _ => rfl)).trans ?_
          rcases zz_bc (decide ((3 : Int32) < ((a1.2 194 11) - (v_D_here M)))) with h12 | h12
          · refine zc_gtT rfl h12 ?_
            have y1 := hx6 (by simp only [g_D_figures_1, h8, h11, h12, zk_t, zk_f, zb_t, zb_f])
            simpa only [g_D_figures_1, h8, h11, h12, zk_t, zk_f, zb_t, zb_f] using y1
          · refine zc_gtF rfl h12 ?_
            refine (zz_go 5 (fr' := (zm_D_figures, d + 4, 64, [some (.ref 194), some (.int x0), some (.int x1), some (.int (v_D_here M)), some (.int a1.1)], [.ref 194, .ref 194, .int ((10 : Int32) * a1.1)])) (h' := (zt_T L, zt_R, a1.2, J, e)) (fun _ => rfl)).trans ?_
            refine zl_getI rfl (by decide) rfl rfl ?_
            refine zl_vt (d := d + 3) rfl rfl rfl rfl rfl rfl rfl rfl rfl rfl (s_D_letter L e J (d + 2) a1.2 (a1.2 194 11) g10) ?_
            show zz_D (zm_D_figures, d + 4, 70, [some (.ref 194), some (.int x0), some (.int x1), some (.int (v_D_here M)), some (.int a1.1)], [.int (v_D_letter a1.2 (a1.2 194 11)), .int ((10 : Int32) * a1.1)]) (zt_T L, zt_R, a1.2, J, e) = _
            refine (zz_go 6 (fr' := (zm_D_figures, d + 4, 78, [some (.ref 194), some (.int x0), some (.int x1), some (.int (v_D_here M)), some (.int ((((10 : Int32) * a1.1) + (v_D_letter a1.2 (a1.2 194 11))) - (48 : Int32)))], [.ref 194, .ref 194])) (h' := (zt_T L, zt_R, a1.2, J, e)) (fun _ => rfl)).trans ?_
            refine zl_getI rfl (by decide) rfl rfl ?_
            refine (zz_go 2 (fr' := (zm_D_figures, d + 4, 83, [some (.ref 194), some (.int x0), some (.int x1), some (.int (v_D_here M)), some (.int ((((10 : Int32) * a1.1) + (v_D_letter a1.2 (a1.2 194 11))) - (48 : Int32)))], [.int ((a1.2 194 11) + (1 : Int32)), .ref 194])) (h' := (zt_T L, zt_R, a1.2, J, e)) (fun _ => rfl)).trans ?_
            refine zl_putI rfl rfl rfl rfl ?_
            refine (zz_go 1 (fr' := (zm_D_figures, d + 4, 18, [some (.ref 194), some (.int x0), some (.int x1), some (.int (v_D_here M)), some (.int ((((10 : Int32) * a1.1) + (v_D_letter a1.2 (a1.2 194 11))) - (48 : Int32)))], [])) (h' := (zt_T L, zt_R, (zz_up a1.2 194 11 ((a1.2 194 11) + (1 : Int32))), J, e)) (fun _ => rfl)).trans ?_
            have y1 := hx5 (by simp only [g_D_figures_1, h8, h11, h12, zk_t, zk_f, zb_t, zb_f])
            simpa only [g_D_figures_1, h8, h11, h12, zk_t, zk_f, zb_t, zb_f] using y1
        · refine zq_eF rfl h11 ?_
          have y1 := hx6 (by simp only [g_D_figures_1, h8, h11, zk_t, zk_f, zb_t, zb_f])
          simpa only [g_D_figures_1, h8, h11, zk_t, zk_f, zb_t, zb_f] using y1
    show zz_D (zm_D_figures, d + 4, 89, [some (.ref 194), some (.int x0), some (.int x1), some (.int (v_D_here M)), some (.int (zf_wh 1000 (g_D_figures_1 M x0 x1) 0 ((0 : Int32), (w_D_here M))).1)], []) (zt_T L, zt_R, (zf_wh 1000 (g_D_figures_1 M x0 x1) 0 ((0 : Int32), (w_D_here M))).2, J, e) = _
    refine (zz_go 1 (fr' := (zm_D_figures, d + 4, 90, [some (.ref 194), some (.int x0), some (.int x1), some (.int (v_D_here M)), some (.int (zf_wh 1000 (g_D_figures_1 M x0 x1) 0 ((0 : Int32), (w_D_here M))).1)], [.ref 194])) (h' := (zt_T L, zt_R, (zf_wh 1000 (g_D_figures_1 M x0 x1) 0 ((0 : Int32), (w_D_here M))).2, J, e)) (fun _ => rfl)).trans ?_
    refine zl_getI rfl (by decide) rfl rfl ?_
    refine zz_jn (X := zz_D (zm_D_figures, d + 4, 124, [none, none, none, none, some (.int (zf_wh 1000 (g_D_figures_1 M x0 x1) 0 ((0 : Int32), (w_D_here M))).1)], []) (zt_T L, zt_R, (bif (decide (((zf_wh 1000 (g_D_figures_1 M x0 x1) 0 ((0 : Int32), (w_D_here M))).2 194 11) = (v_D_here M))) then (w_D_wrong (zf_wh 1000 (g_D_figures_1 M x0 x1) 0 ((0 : Int32), (w_D_here M))).2 (v_D_here M)) else (bif (decide ((3 : Int32) < (((zf_wh 1000 (g_D_figures_1 M x0 x1) 0 ((0 : Int32), (w_D_here M))).2 194 11) - (v_D_here M)))) then (w_D_wrong (zf_wh 1000 (g_D_figures_1 M x0 x1) 0 ((0 : Int32), (w_D_here M))).2 (v_D_here M)) else (bif (decide ((zf_wh 1000 (g_D_figures_1 M x0 x1) 0 ((0 : Int32), (w_D_here M))).1 < x0)) then (w_D_wrong (zf_wh 1000 (g_D_figures_1 M x0 x1) 0 ((0 : Int32), (w_D_here M))).2 (v_D_here M)) else (bif (decide ((zf_wh 1000 (g_D_figures_1 M x0 x1) 0 ((0 : Int32), (w_D_here M))).1 ≤ x1)) then (zf_wh 1000 (g_D_figures_1 M x0 x1) 0 ((0 : Int32), (w_D_here M))).2 else (w_D_wrong (zf_wh 1000 (g_D_figures_1 M x0 x1) 0 ((0 : Int32), (w_D_here M))).2 (v_D_here M)))))), J, e)) (fun j13 => ?_) ?_
    · refine (zz_go 1 (fr' := (zm_D_figures, d + 4, 94, [some (.ref 194), some (.int x0), some (.int x1), some (.int (v_D_here M)), some (.int (zf_wh 1000 (g_D_figures_1 M x0 x1) 0 ((0 : Int32), (w_D_here M))).1)], [.int (v_D_here M), .int ((zf_wh 1000 (g_D_figures_1 M x0 x1) 0 ((0 : Int32), (w_D_here M))).2 194 11)])) (h' := (zt_T L, zt_R, (zf_wh 1000 (g_D_figures_1 M x0 x1) 0 ((0 : Int32), (w_D_here M))).2, J, e)) (fun _ => rfl)).trans ?_
      rcases zz_bc (decide (((zf_wh 1000 (g_D_figures_1 M x0 x1) 0 ((0 : Int32), (w_D_here M))).2 194 11) = (v_D_here M))) with h14 | h14
      · refine zc_eqT rfl h14 ?_
        refine (zz_go 2 (fr' := (zm_D_figures, d + 4, 121, [some (.ref 194), some (.int x0), some (.int x1), some (.int (v_D_here M)), some (.int (zf_wh 1000 (g_D_figures_1 M x0 x1) 0 ((0 : Int32), (w_D_here M))).1)], [.int (v_D_here M), .ref 194])) (h' := (zt_T L, zt_R, (zf_wh 1000 (g_D_figures_1 M x0 x1) 0 ((0 : Int32), (w_D_here M))).2, J, e)) (fun _ => rfl)).trans ?_
        refine zl_vt (d := d + 3) rfl rfl rfl rfl rfl rfl rfl rfl rfl rfl (s_D_wrong L e J (d + 2) (zf_wh 1000 (g_D_figures_1 M x0 x1) 0 ((0 : Int32), (w_D_here M))).2 (v_D_here M)) ?_
        show zz_D (zm_D_figures, d + 4, 124, [some (.ref 194), some (.int x0), some (.int x1), some (.int (v_D_here M)), some (.int (zf_wh 1000 (g_D_figures_1 M x0 x1) 0 ((0 : Int32), (w_D_here M))).1)], []) (zt_T L, zt_R, (w_D_wrong (zf_wh 1000 (g_D_figures_1 M x0 x1) 0 ((0 : Int32), (w_D_here M))).2 (v_D_here M)), J, e) = _
        refine zz_weak (L := [none, none, none, none, some (.int (zf_wh 1000 (g_D_figures_1 M x0 x1) 0 ((0 : Int32), (w_D_here M))).1)]) ⟨Or.inr ⟨rfl, rfl⟩, Or.inr ⟨rfl, rfl⟩, Or.inr ⟨rfl, rfl⟩, Or.inr ⟨rfl, rfl⟩, Or.inl rfl, trivial⟩ ?_
        simpa only [h14, zk_t, zk_f, zb_t, zb_f] using j13
      · refine zc_eqF rfl h14 ?_
        refine (zz_go 1 (fr' := (zm_D_figures, d + 4, 98, [some (.ref 194), some (.int x0), some (.int x1), some (.int (v_D_here M)), some (.int (zf_wh 1000 (g_D_figures_1 M x0 x1) 0 ((0 : Int32), (w_D_here M))).1)], [.ref 194])) (h' := (zt_T L, zt_R, (zf_wh 1000 (g_D_figures_1 M x0 x1) 0 ((0 : Int32), (w_D_here M))).2, J, e)) (fun _ => rfl)).trans ?_
        refine zl_getI rfl (by decide) rfl rfl ?_
        refine zz_jn (X := zz_D (zm_D_figures, d + 4, 124, [none, none, none, none, some (.int (zf_wh 1000 (g_D_figures_1 M x0 x1) 0 ((0 : Int32), (w_D_here M))).1)], []) (zt_T L, zt_R, (bif (decide ((3 : Int32) < (((zf_wh 1000 (g_D_figures_1 M x0 x1) 0 ((0 : Int32), (w_D_here M))).2 194 11) - (v_D_here M)))) then (w_D_wrong (zf_wh 1000 (g_D_figures_1 M x0 x1) 0 ((0 : Int32), (w_D_here M))).2 (v_D_here M)) else (bif (decide ((zf_wh 1000 (g_D_figures_1 M x0 x1) 0 ((0 : Int32), (w_D_here M))).1 < x0)) then (w_D_wrong (zf_wh 1000 (g_D_figures_1 M x0 x1) 0 ((0 : Int32), (w_D_here M))).2 (v_D_here M)) else (bif (decide ((zf_wh 1000 (g_D_figures_1 M x0 x1) 0 ((0 : Int32), (w_D_here M))).1 ≤ x1)) then (zf_wh 1000 (g_D_figures_1 M x0 x1) 0 ((0 : Int32), (w_D_here M))).2 else (w_D_wrong (zf_wh 1000 (g_D_figures_1 M x0 x1) 0 ((0 : Int32), (w_D_here M))).2 (v_D_here M))))), J, e)) (fun j15 => ?_) ?_
        · refine (zz_go 3 (fr' := (zm_D_figures, d + 4, 104, [some (.ref 194), some (.int x0), some (.int x1), some (.int (v_D_here M)), some (.int (zf_wh 1000 (g_D_figures_1 M x0 x1) 0 ((0 : Int32), (w_D_here M))).1)], [.int (3 : Int32), .int (((zf_wh 1000 (g_D_figures_1 M x0 x1) 0 ((0 : Int32), (w_D_here M))).2 194 11) - (v_D_here M))])) (h' := (zt_T L, zt_R, (zf_wh 1000 (g_D_figures_1 M x0 x1) 0 ((0 : Int32), (w_D_here M))).2, J, e)) (fun _ => rfl)).trans ?_
          rcases zz_bc (decide ((3 : Int32) < (((zf_wh 1000 (g_D_figures_1 M x0 x1) 0 ((0 : Int32), (w_D_here M))).2 194 11) - (v_D_here M)))) with h16 | h16
          · refine zc_gtT rfl h16 ?_
            refine (zz_go 2 (fr' := (zm_D_figures, d + 4, 121, [some (.ref 194), some (.int x0), some (.int x1), some (.int (v_D_here M)), some (.int (zf_wh 1000 (g_D_figures_1 M x0 x1) 0 ((0 : Int32), (w_D_here M))).1)], [.int (v_D_here M), .ref 194])) (h' := (zt_T L, zt_R, (zf_wh 1000 (g_D_figures_1 M x0 x1) 0 ((0 : Int32), (w_D_here M))).2, J, e)) (fun _ => rfl)).trans ?_
            refine zl_vt (d := d + 3) rfl rfl rfl rfl rfl rfl rfl rfl rfl rfl (s_D_wrong L e J (d + 2) (zf_wh 1000 (g_D_figures_1 M x0 x1) 0 ((0 : Int32), (w_D_here M))).2 (v_D_here M)) ?_
            show zz_D (zm_D_figures, d + 4, 124, [some (.ref 194), some (.int x0), some (.int x1), some (.int (v_D_here M)), some (.int (zf_wh 1000 (g_D_figures_1 M x0 x1) 0 ((0 : Int32), (w_D_here M))).1)], []) (zt_T L, zt_R, (w_D_wrong (zf_wh 1000 (g_D_figures_1 M x0 x1) 0 ((0 : Int32), (w_D_here M))).2 (v_D_here M)), J, e) = _
            refine zz_weak (L := [none, none, none, none, some (.int (zf_wh 1000 (g_D_figures_1 M x0 x1) 0 ((0 : Int32), (w_D_here M))).1)]) ⟨Or.inr ⟨rfl, rfl⟩, Or.inr ⟨rfl, rfl⟩, Or.inr ⟨rfl, rfl⟩, Or.inr ⟨rfl, rfl⟩, Or.inl rfl, trivial⟩ ?_
            simpa only [h16, zk_t, zk_f, zb_t, zb_f] using j15
          · refine zc_gtF rfl h16 ?_
            refine zz_jn (X := zz_D (zm_D_figures, d + 4, 124, [none, none, none, none, some (.int (zf_wh 1000 (g_D_figures_1 M x0 x1) 0 ((0 : Int32), (w_D_here M))).1)], []) (zt_T L, zt_R, (bif (decide ((zf_wh 1000 (g_D_figures_1 M x0 x1) 0 ((0 : Int32), (w_D_here M))).1 < x0)) then (w_D_wrong (zf_wh 1000 (g_D_figures_1 M x0 x1) 0 ((0 : Int32), (w_D_here M))).2 (v_D_here M)) else (bif (decide ((zf_wh 1000 (g_D_figures_1 M x0 x1) 0 ((0 : Int32), (w_D_here M))).1 ≤ x1)) then (zf_wh 1000 (g_D_figures_1 M x0 x1) 0 ((0 : Int32), (w_D_here M))).2 else (w_D_wrong (zf_wh 1000 (g_D_figures_1 M x0 x1) 0 ((0 : Int32), (w_D_here M))).2 (v_D_here M)))), J, e)) (fun j17 => ?_) ?_
            · refine (zz_go 2 (fr' := (zm_D_figures, d + 4, 110, [some (.ref 194), some (.int x0), some (.int x1), some (.int (v_D_here M)), some (.int (zf_wh 1000 (g_D_figures_1 M x0 x1) 0 ((0 : Int32), (w_D_here M))).1)], [.int x0, .int (zf_wh 1000 (g_D_figures_1 M x0 x1) 0 ((0 : Int32), (w_D_here M))).1])) (h' := (zt_T L, zt_R, (zf_wh 1000 (g_D_figures_1 M x0 x1) 0 ((0 : Int32), (w_D_here M))).2, J, e)) (fun _ => rfl)).trans ?_
              rcases zz_bc (decide ((zf_wh 1000 (g_D_figures_1 M x0 x1) 0 ((0 : Int32), (w_D_here M))).1 < x0)) with h18 | h18
              · refine zc_ltT rfl h18 ?_
                refine (zz_go 2 (fr' := (zm_D_figures, d + 4, 121, [some (.ref 194), some (.int x0), some (.int x1), some (.int (v_D_here M)), some (.int (zf_wh 1000 (g_D_figures_1 M x0 x1) 0 ((0 : Int32), (w_D_here M))).1)], [.int (v_D_here M), .ref 194])) (h' := (zt_T L, zt_R, (zf_wh 1000 (g_D_figures_1 M x0 x1) 0 ((0 : Int32), (w_D_here M))).2, J, e)) (fun _ => rfl)).trans ?_
                refine zl_vt (d := d + 3) rfl rfl rfl rfl rfl rfl rfl rfl rfl rfl (s_D_wrong L e J (d + 2) (zf_wh 1000 (g_D_figures_1 M x0 x1) 0 ((0 : Int32), (w_D_here M))).2 (v_D_here M)) ?_
                show zz_D (zm_D_figures, d + 4, 124, [some (.ref 194), some (.int x0), some (.int x1), some (.int (v_D_here M)), some (.int (zf_wh 1000 (g_D_figures_1 M x0 x1) 0 ((0 : Int32), (w_D_here M))).1)], []) (zt_T L, zt_R, (w_D_wrong (zf_wh 1000 (g_D_figures_1 M x0 x1) 0 ((0 : Int32), (w_D_here M))).2 (v_D_here M)), J, e) = _
                refine zz_weak (L := [none, none, none, none, some (.int (zf_wh 1000 (g_D_figures_1 M x0 x1) 0 ((0 : Int32), (w_D_here M))).1)]) ⟨Or.inr ⟨rfl, rfl⟩, Or.inr ⟨rfl, rfl⟩, Or.inr ⟨rfl, rfl⟩, Or.inr ⟨rfl, rfl⟩, Or.inl rfl, trivial⟩ ?_
                simpa only [h18, zk_t, zk_f, zb_t, zb_f] using j17
              · refine zc_ltF rfl h18 ?_
                refine zz_jn (X := zz_D (zm_D_figures, d + 4, 124, [none, none, none, none, some (.int (zf_wh 1000 (g_D_figures_1 M x0 x1) 0 ((0 : Int32), (w_D_here M))).1)], []) (zt_T L, zt_R, (bif (decide ((zf_wh 1000 (g_D_figures_1 M x0 x1) 0 ((0 : Int32), (w_D_here M))).1 ≤ x1)) then (zf_wh 1000 (g_D_figures_1 M x0 x1) 0 ((0 : Int32), (w_D_here M))).2 else (w_D_wrong (zf_wh 1000 (g_D_figures_1 M x0 x1) 0 ((0 : Int32), (w_D_here M))).2 (v_D_here M))), J, e)) (fun j19 => ?_) ?_
                · refine (zz_go 2 (fr' := (zm_D_figures, d + 4, 116, [some (.ref 194), some (.int x0), some (.int x1), some (.int (v_D_here M)), some (.int (zf_wh 1000 (g_D_figures_1 M x0 x1) 0 ((0 : Int32), (w_D_here M))).1)], [.int x1, .int (zf_wh 1000 (g_D_figures_1 M x0 x1) 0 ((0 : Int32), (w_D_here M))).1])) (h' := (zt_T L, zt_R, (zf_wh 1000 (g_D_figures_1 M x0 x1) 0 ((0 : Int32), (w_D_here M))).2, J, e)) (fun _ => rfl)).trans ?_
                  rcases zz_bc (decide ((zf_wh 1000 (g_D_figures_1 M x0 x1) 0 ((0 : Int32), (w_D_here M))).1 ≤ x1)) with h20 | h20
                  · refine zc_leT rfl h20 ?_
                    refine zz_weak (L := [none, none, none, none, some (.int (zf_wh 1000 (g_D_figures_1 M x0 x1) 0 ((0 : Int32), (w_D_here M))).1)]) ⟨Or.inr ⟨rfl, rfl⟩, Or.inr ⟨rfl, rfl⟩, Or.inr ⟨rfl, rfl⟩, Or.inr ⟨rfl, rfl⟩, Or.inl rfl, trivial⟩ ?_
                    simpa only [h20, zk_t, zk_f, zb_t, zb_f] using j19
                  · refine zc_leF rfl h20 ?_
                    refine (zz_go 2 (fr' := (zm_D_figures, d + 4, 121, [some (.ref 194), some (.int x0), some (.int x1), some (.int (v_D_here M)), some (.int (zf_wh 1000 (g_D_figures_1 M x0 x1) 0 ((0 : Int32), (w_D_here M))).1)], [.int (v_D_here M), .ref 194])) (h' := (zt_T L, zt_R, (zf_wh 1000 (g_D_figures_1 M x0 x1) 0 ((0 : Int32), (w_D_here M))).2, J, e)) (fun _ => rfl)).trans ?_
                    refine zl_vt (d := d + 3) rfl rfl rfl rfl rfl rfl rfl rfl rfl rfl (s_D_wrong L e J (d + 2) (zf_wh 1000 (g_D_figures_1 M x0 x1) 0 ((0 : Int32), (w_D_here M))).2 (v_D_here M)) ?_
                    show zz_D (zm_D_figures, d + 4, 124, [some (.ref 194), some (.int x0), some (.int x1), some (.int (v_D_here M)), some (.int (zf_wh 1000 (g_D_figures_1 M x0 x1) 0 ((0 : Int32), (w_D_here M))).1)], []) (zt_T L, zt_R, (w_D_wrong (zf_wh 1000 (g_D_figures_1 M x0 x1) 0 ((0 : Int32), (w_D_here M))).2 (v_D_here M)), J, e) = _
                    refine zz_weak (L := [none, none, none, none, some (.int (zf_wh 1000 (g_D_figures_1 M x0 x1) 0 ((0 : Int32), (w_D_here M))).1)]) ⟨Or.inr ⟨rfl, rfl⟩, Or.inr ⟨rfl, rfl⟩, Or.inr ⟨rfl, rfl⟩, Or.inr ⟨rfl, rfl⟩, Or.inl rfl, trivial⟩ ?_
                    simpa only [h20, zk_t, zk_f, zb_t, zb_f] using j19
                simpa only [h18, zk_t, zk_f, zb_t, zb_f] using j17
            simpa only [h16, zk_t, zk_f, zb_t, zb_f] using j15
        simpa only [h14, zk_t, zk_f, zb_t, zb_f] using j13
    refine (zz_go 1 (fr' := (zm_D_figures, d + 4, 126, [none, none, none, none, some (.int (zf_wh 1000 (g_D_figures_1 M x0 x1) 0 ((0 : Int32), (w_D_here M))).1)], [.int (zf_wh 1000 (g_D_figures_1 M x0 x1) 0 ((0 : Int32), (w_D_here M))).1])) (h' := (zt_T L, zt_R, (bif (decide (((zf_wh 1000 (g_D_figures_1 M x0 x1) 0 ((0 : Int32), (w_D_here M))).2 194 11) = (v_D_here M))) then (w_D_wrong (zf_wh 1000 (g_D_figures_1 M x0 x1) 0 ((0 : Int32), (w_D_here M))).2 (v_D_here M)) else (bif (decide ((3 : Int32) < (((zf_wh 1000 (g_D_figures_1 M x0 x1) 0 ((0 : Int32), (w_D_here M))).2 194 11) - (v_D_here M)))) then (w_D_wrong (zf_wh 1000 (g_D_figures_1 M x0 x1) 0 ((0 : Int32), (w_D_here M))).2 (v_D_here M)) else (bif (decide ((zf_wh 1000 (g_D_figures_1 M x0 x1) 0 ((0 : Int32), (w_D_here M))).1 < x0)) then (w_D_wrong (zf_wh 1000 (g_D_figures_1 M x0 x1) 0 ((0 : Int32), (w_D_here M))).2 (v_D_here M)) else (bif (decide ((zf_wh 1000 (g_D_figures_1 M x0 x1) 0 ((0 : Int32), (w_D_here M))).1 ≤ x1)) then (zf_wh 1000 (g_D_figures_1 M x0 x1) 0 ((0 : Int32), (w_D_here M))).2 else (w_D_wrong (zf_wh 1000 (g_D_figures_1 M x0 x1) 0 ((0 : Int32), (w_D_here M))).2 (v_D_here M)))))), J, e)) (fun _ => rfl)).trans ?_
    refine zl_retI rfl rfl ?_
    first | (simp only [h1, zk_t, zk_f, zb_t, zb_f]; done) | (simp only [h1, zk_t, zk_f, zb_t, zb_f]; rfl) | rfl
  · refine zc_eqF rfl h1 ?_
    refine (zz_go 1 (fr' := (zm_D_figures, d + 4, 9, [some (.ref 194), some (.int x0), some (.int x1), none, none], [.int (0 : Int32)])) (h' := (zt_T L, zt_R, M, J, e)) (fun _ => rfl)).trans ?_
    refine zl_retI rfl rfl ?_
    first | (simp only [h1, zk_t, zk_f, zb_t, zb_f]; done) | (simp only [h1, zk_t, zk_f, zb_t, zb_f]; rfl) | rfl
def v_D_after (M : zMem) (w : Nat) (x0 : Int32) (x1 : Int32) : Int32 := (v_D_figures (bif (decide ((M 194 12) = (-1 : Int32))) then (bif (v_D_has M w) then (w_D_has M w) else (w_D_wrong (w_D_has M w) ((w_D_has M w) 194 11))) else M) x0 x1)
def w_D_after (M : zMem) (w : Nat) (x0 : Int32) (x1 : Int32) : zMem := (w_D_figures (bif (decide ((M 194 12) = (-1 : Int32))) then (bif (v_D_has M w) then (w_D_has M w) else (w_D_wrong (w_D_has M w) ((w_D_has M w) 194 11))) else M) x0 x1)
def ok_D_after (M : zMem) (w : Nat) (x0 : Int32) (x1 : Int32) : Prop := (((decide ((M 194 12) = (-1 : Int32))) = true → ok_D_has M w) ∧ ok_D_figures (bif (decide ((M 194 12) = (-1 : Int32))) then (bif (v_D_has M w) then (w_D_has M w) else (w_D_wrong (w_D_has M w) ((w_D_has M w) 194 11))) else M) x0 x1)
set_option maxRecDepth 20000 in
set_option maxHeartbeats 2000000 in
theorem s_D_after (L e : Nat) (J : zJem) (d : Nat) (M : zMem) (w : Nat) (x0 : Int32) (x1 : Int32) (hw : Nat.blt w zz_S.length = true) (k0 : ok_D_after M w x0 x1) : zz_D (zm_D_after, d + 9, 0, [some (.ref 194), some (.ref (1000000 + w)), some (.int x0), some (.int x1)], []) (zt_T L, zt_R, M, J, e) = some (.inl (some (.int (v_D_after M w x0 x1))), (zt_T L, zt_R, (w_D_after M w x0 x1), J, e)) := by
  unfold ok_D_after at k0
  unfold v_D_after w_D_after
  refine (zz_go 1 (fr' := (zm_D_after, d + 9, 1, [some (.ref 194), some (.ref (1000000 + w)), some (.int x0), some (.int x1)], [.ref 194])) (h' := (zt_T L, zt_R, M, J, e)) (fun _ => rfl)).trans ?_
  refine zl_getI rfl (by decide) rfl rfl ?_
  obtain ⟨k1, k2⟩ := k0
  refine zz_jn (X := zz_D (zm_D_after, d + 9, 24, [some (.ref 194), none, some (.int x0), some (.int x1)], []) (zt_T L, zt_R, (bif (decide ((M 194 12) = (-1 : Int32))) then (bif (v_D_has M w) then (w_D_has M w) else (w_D_wrong (w_D_has M w) ((w_D_has M w) 194 11))) else M), J, e)) (fun j3 => ?_) ?_
  · refine (zz_go 1 (fr' := (zm_D_after, d + 9, 5, [some (.ref 194), some (.ref (1000000 + w)), some (.int x0), some (.int x1)], [.int (-1 : Int32), .int (M 194 12)])) (h' := (zt_T L, zt_R, M, J, e)) (fun _ => rfl)).trans ?_
    rcases zz_bc (decide ((M 194 12) = (-1 : Int32))) with h4 | h4
    · refine zc_neT rfl h4 ?_
      have k5 := k1 h4
      refine (zz_go 2 (fr' := (zm_D_after, d + 9, 10, [some (.ref 194), some (.ref (1000000 + w)), some (.int x0), some (.int x1)], [.ref (1000000 + w), .ref 194])) (h' := (zt_T L, zt_R, M, J, e)) (fun _ => rfl)).trans ?_
      have g6 : ok_D_has M w := k5
      refine zl_vt (d := d + 8) rfl rfl rfl rfl rfl rfl rfl rfl rfl rfl (s_D_has L e J (d + 0) M w hw g6) ?_
      show zz_D (zm_D_after, d + 9, 13, [some (.ref 194), some (.ref (1000000 + w)), some (.int x0), some (.int x1)], [.int (zb (v_D_has M w))]) (zt_T L, zt_R, (w_D_has M w), J, e) = _
      refine zz_jn (X := zz_D (zm_D_after, d + 9, 24, [some (.ref 194), none, some (.int x0), some (.int x1)], []) (zt_T L, zt_R, (bif (v_D_has M w) then (w_D_has M w) else (w_D_wrong (w_D_has M w) ((w_D_has M w) 194 11))), J, e)) (fun j7 => ?_) ?_
      · rcases zz_bc (v_D_has M w) with h8 | h8
        · refine zq_fT rfl h8 ?_
          refine zz_weak (L := [some (.ref 194), none, some (.int x0), some (.int x1)]) ⟨Or.inl rfl, Or.inr ⟨rfl, rfl⟩, Or.inl rfl, Or.inl rfl, trivial⟩ ?_
          simpa only [h8, zk_t, zk_f, zb_t, zb_f] using j7
        · refine zq_fF rfl h8 ?_
          refine (zz_go 2 (fr' := (zm_D_after, d + 9, 18, [some (.ref 194), some (.ref (1000000 + w)), some (.int x0), some (.int x1)], [.ref 194, .ref 194])) (h' := (zt_T L, zt_R, (w_D_has M w), J, e)) (fun _ => rfl)).trans ?_
          refine zl_getI rfl (by decide) rfl rfl ?_
          refine zl_vt (d := d + 8) rfl rfl rfl rfl rfl rfl rfl rfl rfl rfl (s_D_wrong L e J (d + 7) (w_D_has M w) ((w_D_has M w) 194 11)) ?_
          show zz_D (zm_D_after, d + 9, 24, [some (.ref 194), some (.ref (1000000 + w)), some (.int x0), some (.int x1)], []) (zt_T L, zt_R, (w_D_wrong (w_D_has M w) ((w_D_has M w) 194 11)), J, e) = _
          refine zz_weak (L := [some (.ref 194), none, some (.int x0), some (.int x1)]) ⟨Or.inl rfl, Or.inr ⟨rfl, rfl⟩, Or.inl rfl, Or.inl rfl, trivial⟩ ?_
          simpa only [h8, zk_t, zk_f, zb_t, zb_f] using j7
      simpa only [h4, zk_t, zk_f, zb_t, zb_f] using j3
    · refine zc_neF rfl h4 ?_
      refine zz_weak (L := [some (.ref 194), none, some (.int x0), some (.int x1)]) ⟨Or.inl rfl, Or.inr ⟨rfl, rfl⟩, Or.inl rfl, Or.inl rfl, trivial⟩ ?_
      simpa only [h4, zk_t, zk_f, zb_t, zb_f] using j3
  refine (zz_go 3 (fr' := (zm_D_after, d + 9, 27, [some (.ref 194), none, some (.int x0), some (.int x1)], [.int x1, .int x0, .ref 194])) (h' := (zt_T L, zt_R, (bif (decide ((M 194 12) = (-1 : Int32))) then (bif (v_D_has M w) then (w_D_has M w) else (w_D_wrong (w_D_has M w) ((w_D_has M w) 194 11))) else M), J, e)) (fun _ => rfl)).trans ?_
  have g9 : ok_D_figures (bif (decide ((M 194 12) = (-1 : Int32))) then (bif (v_D_has M w) then (w_D_has M w) else (w_D_wrong (w_D_has M w) ((w_D_has M w) 194 11))) else M) x0 x1 := k2
  refine zl_vt (d := d + 8) rfl rfl rfl rfl rfl rfl rfl rfl rfl rfl (s_D_figures L e J (d + 4) (bif (decide ((M 194 12) = (-1 : Int32))) then (bif (v_D_has M w) then (w_D_has M w) else (w_D_wrong (w_D_has M w) ((w_D_has M w) 194 11))) else M) x0 x1 g9) ?_
  show zz_D (zm_D_after, d + 9, 30, [some (.ref 194), none, some (.int x0), some (.int x1)], [.int (v_D_figures (bif (decide ((M 194 12) = (-1 : Int32))) then (bif (v_D_has M w) then (w_D_has M w) else (w_D_wrong (w_D_has M w) ((w_D_has M w) 194 11))) else M) x0 x1)]) (zt_T L, zt_R, (w_D_figures (bif (decide ((M 194 12) = (-1 : Int32))) then (bif (v_D_has M w) then (w_D_has M w) else (w_D_wrong (w_D_has M w) ((w_D_has M w) 194 11))) else M) x0 x1), J, e) = _
  refine zl_retI rfl rfl ?_
  rfl
def v_D_kindLetter (M : zMem) : Int32 := (bif (decide ((M 194 12) = (-1 : Int32))) then (bif (bif (decide (((w_D_here M) 194 10) ≤ (v_D_here M))) then false else (bif (v_D_isIn (v_D_letter (w_D_here M) (v_D_here M)) (97 : Int32) (104 : Int32)) then (bif (decide (((w_D_here M) 194 10) ≤ ((v_D_here M) + (1 : Int32)))) then true else (bif (v_D_isIn (v_D_letter (w_D_here M) ((v_D_here M) + (1 : Int32))) (97 : Int32) (122 : Int32)) then false else true)) else false)) then ((v_D_letter (zz_up (w_D_here M) 194 11 ((v_D_here M) + (1 : Int32))) (v_D_here M)) - (97 : Int32)) else (0 : Int32)) else (0 : Int32))
def w_D_kindLetter (M : zMem) : zMem := (bif (decide ((M 194 12) = (-1 : Int32))) then (bif (bif (decide (((w_D_here M) 194 10) ≤ (v_D_here M))) then false else (bif (v_D_isIn (v_D_letter (w_D_here M) (v_D_here M)) (97 : Int32) (104 : Int32)) then (bif (decide (((w_D_here M) 194 10) ≤ ((v_D_here M) + (1 : Int32)))) then true else (bif (v_D_isIn (v_D_letter (w_D_here M) ((v_D_here M) + (1 : Int32))) (97 : Int32) (122 : Int32)) then false else true)) else false)) then (zz_up (w_D_here M) 194 11 ((v_D_here M) + (1 : Int32))) else (w_D_wrong (w_D_here M) (v_D_here M))) else M)
def ok_D_kindLetter (M : zMem) : Prop := ((decide ((M 194 12) = (-1 : Int32))) = true → (ok_D_here M ∧ (((decide (((w_D_here M) 194 10) ≤ (v_D_here M))) = false → (ok_D_letter (w_D_here M) (v_D_here M) ∧ ((v_D_isIn (v_D_letter (w_D_here M) (v_D_here M)) (97 : Int32) (104 : Int32)) = true → ((decide (((w_D_here M) 194 10) ≤ ((v_D_here M) + (1 : Int32)))) = false → ok_D_letter (w_D_here M) ((v_D_here M) + (1 : Int32)))))) ∧ ((bif (decide (((w_D_here M) 194 10) ≤ (v_D_here M))) then false else (bif (v_D_isIn (v_D_letter (w_D_here M) (v_D_here M)) (97 : Int32) (104 : Int32)) then (bif (decide (((w_D_here M) 194 10) ≤ ((v_D_here M) + (1 : Int32)))) then true else (bif (v_D_isIn (v_D_letter (w_D_here M) ((v_D_here M) + (1 : Int32))) (97 : Int32) (122 : Int32)) then false else true)) else false)) = true → ok_D_letter (zz_up (w_D_here M) 194 11 ((v_D_here M) + (1 : Int32))) (v_D_here M)))))
set_option maxRecDepth 20000 in
set_option maxHeartbeats 2000000 in
theorem s_D_kindLetter (L e : Nat) (J : zJem) (d : Nat) (M : zMem) (k0 : ok_D_kindLetter M) : zz_D (zm_D_kindLetter, d + 4, 0, [some (.ref 194), none, none], []) (zt_T L, zt_R, M, J, e) = some (.inl (some (.int (v_D_kindLetter M))), (zt_T L, zt_R, (w_D_kindLetter M), J, e)) := by
  unfold ok_D_kindLetter at k0
  unfold v_D_kindLetter w_D_kindLetter
  refine (zz_go 1 (fr' := (zm_D_kindLetter, d + 4, 1, [some (.ref 194), none, none], [.ref 194])) (h' := (zt_T L, zt_R, M, J, e)) (fun _ => rfl)).trans ?_
  refine zl_getI rfl (by decide) rfl rfl ?_
  refine (zz_go 1 (fr' := (zm_D_kindLetter, d + 4, 5, [some (.ref 194), none, none], [.int (-1 : Int32), .int (M 194 12)])) (h' := (zt_T L, zt_R, M, J, e)) (fun _ => rfl)).trans ?_
  rcases zz_bc (decide ((M 194 12) = (-1 : Int32))) with h1 | h1
  · refine zc_eqT rfl h1 ?_
    have k2 := k0 h1
    refine (zz_go 1 (fr' := (zm_D_kindLetter, d + 4, 11, [some (.ref 194), none, none], [.ref 194])) (h' := (zt_T L, zt_R, M, J, e)) (fun _ => rfl)).trans ?_
    obtain ⟨g3, k4⟩ := k2
    refine zl_vt (d := d + 3) rfl rfl rfl rfl rfl rfl rfl rfl rfl rfl (s_D_here L e J (d + 0) M g3) ?_
    show zz_D (zm_D_kindLetter, d + 4, 14, [some (.ref 194), none, none], [.int (v_D_here M)]) (zt_T L, zt_R, (w_D_here M), J, e) = _
    refine (zz_go 3 (fr' := (zm_D_kindLetter, d + 4, 17, [some (.ref 194), some (.int (v_D_here M)), none], [.ref 194, .int (v_D_here M)])) (h' := (zt_T L, zt_R, (w_D_here M), J, e)) (fun _ => rfl)).trans ?_
    refine zl_getI rfl (by decide) rfl rfl ?_
    obtain ⟨k5, k6⟩ := k4
    refine zz_jn (X := zz_D (zm_D_kindLetter, d + 4, 70, [some (.ref 194), some (.int (v_D_here M)), none], [.int (zb (bif (decide (((w_D_here M) 194 10) ≤ (v_D_here M))) then false else (bif (v_D_isIn (v_D_letter (w_D_here M) (v_D_here M)) (97 : Int32) (104 : Int32)) then (bif (decide (((w_D_here M) 194 10) ≤ ((v_D_here M) + (1 : Int32)))) then true else (bif (v_D_isIn (v_D_letter (w_D_here M) ((v_D_here M) + (1 : Int32))) (97 : Int32) (122 : Int32)) then false else true)) else false)))]) (zt_T L, zt_R, (w_D_here M), J, e)) (fun j7 => ?_) ?_
    · rcases zz_bc (decide (((w_D_here M) 194 10) ≤ (v_D_here M))) with h8 | h8
      · refine zc_geT rfl h8 ?_
        refine (zz_go 1 (fr' := (zm_D_kindLetter, d + 4, 70, [some (.ref 194), some (.int (v_D_here M)), none], [.int (0 : Int32)])) (h' := (zt_T L, zt_R, (w_D_here M), J, e)) (fun _ => rfl)).trans ?_
        simpa only [h8, zk_t, zk_f, zb_t, zb_f] using j7
      · refine zc_geF rfl h8 ?_
        have k9 := k5 h8
        refine (zz_go 2 (fr' := (zm_D_kindLetter, d + 4, 25, [some (.ref 194), some (.int (v_D_here M)), none], [.int (v_D_here M), .ref 194])) (h' := (zt_T L, zt_R, (w_D_here M), J, e)) (fun _ => rfl)).trans ?_
        obtain ⟨g10, k11⟩ := k9
        refine zl_vt (d := d + 3) rfl rfl rfl rfl rfl rfl rfl rfl rfl rfl (s_D_letter L e J (d + 2) (w_D_here M) (v_D_here M) g10) ?_
        show zz_D (zm_D_kindLetter, d + 4, 28, [some (.ref 194), some (.int (v_D_here M)), none], [.int (v_D_letter (w_D_here M) (v_D_here M))]) (zt_T L, zt_R, (w_D_here M), J, e) = _
        refine (zz_go 2 (fr' := (zm_D_kindLetter, d + 4, 32, [some (.ref 194), some (.int (v_D_here M)), none], [.int (104 : Int32), .int (97 : Int32), .int (v_D_letter (w_D_here M) (v_D_here M))])) (h' := (zt_T L, zt_R, (w_D_here M), J, e)) (fun _ => rfl)).trans ?_
        refine zl_st (d := d + 3) rfl rfl rfl rfl rfl rfl rfl (s_D_isIn L e J (d + 2) (v_D_letter (w_D_here M) (v_D_here M)) (97 : Int32) (104 : Int32)) ?_
        show zz_D (zm_D_kindLetter, d + 4, 35, [some (.ref 194), some (.int (v_D_here M)), none], [.int (zb (v_D_isIn (v_D_letter (w_D_here M) (v_D_here M)) (97 : Int32) (104 : Int32)))]) (zt_T L, zt_R, (w_D_here M), J, e) = _
        refine zz_jn (X := zz_D (zm_D_kindLetter, d + 4, 70, [some (.ref 194), some (.int (v_D_here M)), none], [.int (zb (bif (v_D_isIn (v_D_letter (w_D_here M) (v_D_here M)) (97 : Int32) (104 : Int32)) then (bif (decide (((w_D_here M) 194 10) ≤ ((v_D_here M) + (1 : Int32)))) then true else (bif (v_D_isIn (v_D_letter (w_D_here M) ((v_D_here M) + (1 : Int32))) (97 : Int32) (122 : Int32)) then false else true)) else false))]) (zt_T L, zt_R, (w_D_here M), J, e)) (fun j12 => ?_) ?_
        · rcases zz_bc (v_D_isIn (v_D_letter (w_D_here M) (v_D_here M)) (97 : Int32) (104 : Int32)) with h13 | h13
          · refine zq_eT rfl h13 ?_
            have k14 := k11 h13
            refine (zz_go 4 (fr' := (zm_D_kindLetter, d + 4, 42, [some (.ref 194), some (.int (v_D_here M)), none], [.ref 194, .int ((v_D_here M) + (1 : Int32))])) (h' := (zt_T L, zt_R, (w_D_here M), J, e)) (fun _ => rfl)).trans ?_
            refine zl_getI rfl (by decide) rfl rfl ?_
            refine zz_jn (X := zz_D (zm_D_kindLetter, d + 4, 70, [some (.ref 194), some (.int (v_D_here M)), none], [.int (zb (bif (decide (((w_D_here M) 194 10) ≤ ((v_D_here M) + (1 : Int32)))) then true else (bif (v_D_isIn (v_D_letter (w_D_here M) ((v_D_here M) + (1 : Int32))) (97 : Int32) (122 : Int32)) then false else true)))]) (zt_T L, zt_R, (w_D_here M), J, e)) (fun j15 => ?_) ?_
            · rcases zz_bc (decide (((w_D_here M) 194 10) ≤ ((v_D_here M) + (1 : Int32)))) with h16 | h16
              · refine zc_geT rfl h16 ?_
                refine (zz_go 2 (fr' := (zm_D_kindLetter, d + 4, 70, [some (.ref 194), some (.int (v_D_here M)), none], [.int (1 : Int32)])) (h' := (zt_T L, zt_R, (w_D_here M), J, e)) (fun _ => rfl)).trans ?_
                simpa only [h16, zk_t, zk_f, zb_t, zb_f] using j15
              · refine zc_geF rfl h16 ?_
                have k17 := k14 h16
                refine (zz_go 4 (fr' := (zm_D_kindLetter, d + 4, 52, [some (.ref 194), some (.int (v_D_here M)), none], [.int ((v_D_here M) + (1 : Int32)), .ref 194])) (h' := (zt_T L, zt_R, (w_D_here M), J, e)) (fun _ => rfl)).trans ?_
                have g18 : ok_D_letter (w_D_here M) ((v_D_here M) + (1 : Int32)) := k17
                refine zl_vt (d := d + 3) rfl rfl rfl rfl rfl rfl rfl rfl rfl rfl (s_D_letter L e J (d + 2) (w_D_here M) ((v_D_here M) + (1 : Int32)) g18) ?_
                show zz_D (zm_D_kindLetter, d + 4, 55, [some (.ref 194), some (.int (v_D_here M)), none], [.int (v_D_letter (w_D_here M) ((v_D_here M) + (1 : Int32)))]) (zt_T L, zt_R, (w_D_here M), J, e) = _
                refine (zz_go 2 (fr' := (zm_D_kindLetter, d + 4, 59, [some (.ref 194), some (.int (v_D_here M)), none], [.int (122 : Int32), .int (97 : Int32), .int (v_D_letter (w_D_here M) ((v_D_here M) + (1 : Int32)))])) (h' := (zt_T L, zt_R, (w_D_here M), J, e)) (fun _ => rfl)).trans ?_
                refine zl_st (d := d + 3) rfl rfl rfl rfl rfl rfl rfl (s_D_isIn L e J (d + 2) (v_D_letter (w_D_here M) ((v_D_here M) + (1 : Int32))) (97 : Int32) (122 : Int32)) ?_
                show zz_D (zm_D_kindLetter, d + 4, 62, [some (.ref 194), some (.int (v_D_here M)), none], [.int (zb (v_D_isIn (v_D_letter (w_D_here M) ((v_D_here M) + (1 : Int32))) (97 : Int32) (122 : Int32)))]) (zt_T L, zt_R, (w_D_here M), J, e) = _
                refine zz_jn (X := zz_D (zm_D_kindLetter, d + 4, 70, [some (.ref 194), some (.int (v_D_here M)), none], [.int (zb (bif (v_D_isIn (v_D_letter (w_D_here M) ((v_D_here M) + (1 : Int32))) (97 : Int32) (122 : Int32)) then false else true))]) (zt_T L, zt_R, (w_D_here M), J, e)) (fun j19 => ?_) ?_
                · rcases zz_bc (v_D_isIn (v_D_letter (w_D_here M) ((v_D_here M) + (1 : Int32))) (97 : Int32) (122 : Int32)) with h20 | h20
                  · refine zq_fT rfl h20 ?_
                    refine (zz_go 1 (fr' := (zm_D_kindLetter, d + 4, 70, [some (.ref 194), some (.int (v_D_here M)), none], [.int (0 : Int32)])) (h' := (zt_T L, zt_R, (w_D_here M), J, e)) (fun _ => rfl)).trans ?_
                    simpa only [h20, zk_t, zk_f, zb_t, zb_f] using j19
                  · refine zq_fF rfl h20 ?_
                    refine (zz_go 2 (fr' := (zm_D_kindLetter, d + 4, 70, [some (.ref 194), some (.int (v_D_here M)), none], [.int (1 : Int32)])) (h' := (zt_T L, zt_R, (w_D_here M), J, e)) (fun _ => rfl)).trans ?_
                    simpa only [h20, zk_t, zk_f, zb_t, zb_f] using j19
                simpa only [h16, zk_t, zk_f, zb_t, zb_f] using j15
            simpa only [h13, zk_t, zk_f, zb_t, zb_f] using j12
          · refine zq_eF rfl h13 ?_
            refine (zz_go 1 (fr' := (zm_D_kindLetter, d + 4, 70, [some (.ref 194), some (.int (v_D_here M)), none], [.int (0 : Int32)])) (h' := (zt_T L, zt_R, (w_D_here M), J, e)) (fun _ => rfl)).trans ?_
            simpa only [h13, zk_t, zk_f, zb_t, zb_f] using j12
        simpa only [h8, zk_t, zk_f, zb_t, zb_f] using j7
    refine (zz_go 2 (fr' := (zm_D_kindLetter, d + 4, 72, [some (.ref 194), some (.int (v_D_here M)), some (.int (zb (bif (decide (((w_D_here M) 194 10) ≤ (v_D_here M))) then false else (bif (v_D_isIn (v_D_letter (w_D_here M) (v_D_here M)) (97 : Int32) (104 : Int32)) then (bif (decide (((w_D_here M) 194 10) ≤ ((v_D_here M) + (1 : Int32)))) then true else (bif (v_D_isIn (v_D_letter (w_D_here M) ((v_D_here M) + (1 : Int32))) (97 : Int32) (122 : Int32)) then false else true)) else false))))], [.int (zb (bif (decide (((w_D_here M) 194 10) ≤ (v_D_here M))) then false else (bif (v_D_isIn (v_D_letter (w_D_here M) (v_D_here M)) (97 : Int32) (104 : Int32)) then (bif (decide (((w_D_here M) 194 10) ≤ ((v_D_here M) + (1 : Int32)))) then true else (bif (v_D_isIn (v_D_letter (w_D_here M) ((v_D_here M) + (1 : Int32))) (97 : Int32) (122 : Int32)) then false else true)) else false)))])) (h' := (zt_T L, zt_R, (w_D_here M), J, e)) (fun _ => rfl)).trans ?_
    rcases zz_bc (bif (decide (((w_D_here M) 194 10) ≤ (v_D_here M))) then false else (bif (v_D_isIn (v_D_letter (w_D_here M) (v_D_here M)) (97 : Int32) (104 : Int32)) then (bif (decide (((w_D_here M) 194 10) ≤ ((v_D_here M) + (1 : Int32)))) then true else (bif (v_D_isIn (v_D_letter (w_D_here M) ((v_D_here M) + (1 : Int32))) (97 : Int32) (122 : Int32)) then false else true)) else false)) with h21 | h21
    · refine zq_fT rfl h21 ?_
      have k22 := k6 h21
      refine (zz_go 4 (fr' := (zm_D_kindLetter, d + 4, 86, [some (.ref 194), some (.int (v_D_here M)), some (.int (zb (bif (decide (((w_D_here M) 194 10) ≤ (v_D_here M))) then false else (bif (v_D_isIn (v_D_letter (w_D_here M) (v_D_here M)) (97 : Int32) (104 : Int32)) then (bif (decide (((w_D_here M) 194 10) ≤ ((v_D_here M) + (1 : Int32)))) then true else (bif (v_D_isIn (v_D_letter (w_D_here M) ((v_D_here M) + (1 : Int32))) (97 : Int32) (122 : Int32)) then false else true)) else false))))], [.int ((v_D_here M) + (1 : Int32)), .ref 194])) (h' := (zt_T L, zt_R, (w_D_here M), J, e)) (fun _ => rfl)).trans ?_
      refine zl_putI rfl rfl rfl rfl ?_
      refine (zz_go 2 (fr' := (zm_D_kindLetter, d + 4, 91, [some (.ref 194), some (.int (v_D_here M)), some (.int (zb (bif (decide (((w_D_here M) 194 10) ≤ (v_D_here M))) then false else (bif (v_D_isIn (v_D_letter (w_D_here M) (v_D_here M)) (97 : Int32) (104 : Int32)) then (bif (decide (((w_D_here M) 194 10) ≤ ((v_D_here M) + (1 : Int32)))) then true else (bif (v_D_isIn (v_D_letter (w_D_here M) ((v_D_here M) + (1 : Int32))) (97 : Int32) (122 : Int32)) then false else true)) else false))))], [.int (v_D_here M), .ref 194])) (h' := (zt_T L, zt_R, (zz_up (w_D_here M) 194 11 ((v_D_here M) + (1 : Int32))), J, e)) (fun _ => rfl)).trans ?_
      have g23 : ok_D_letter (zz_up (w_D_here M) 194 11 ((v_D_here M) + (1 : Int32))) (v_D_here M) := k22
      refine zl_vt (d := d + 3) rfl rfl rfl rfl rfl rfl rfl rfl rfl rfl (s_D_letter L e J (d + 2) (zz_up (w_D_here M) 194 11 ((v_D_here M) + (1 : Int32))) (v_D_here M) g23) ?_
      show zz_D (zm_D_kindLetter, d + 4, 94, [some (.ref 194), some (.int (v_D_here M)), some (.int (zb (bif (decide (((w_D_here M) 194 10) ≤ (v_D_here M))) then false else (bif (v_D_isIn (v_D_letter (w_D_here M) (v_D_here M)) (97 : Int32) (104 : Int32)) then (bif (decide (((w_D_here M) 194 10) ≤ ((v_D_here M) + (1 : Int32)))) then true else (bif (v_D_isIn (v_D_letter (w_D_here M) ((v_D_here M) + (1 : Int32))) (97 : Int32) (122 : Int32)) then false else true)) else false))))], [.int (v_D_letter (zz_up (w_D_here M) 194 11 ((v_D_here M) + (1 : Int32))) (v_D_here M))]) (zt_T L, zt_R, (zz_up (w_D_here M) 194 11 ((v_D_here M) + (1 : Int32))), J, e) = _
      refine (zz_go 2 (fr' := (zm_D_kindLetter, d + 4, 97, [some (.ref 194), some (.int (v_D_here M)), some (.int (zb (bif (decide (((w_D_here M) 194 10) ≤ (v_D_here M))) then false else (bif (v_D_isIn (v_D_letter (w_D_here M) (v_D_here M)) (97 : Int32) (104 : Int32)) then (bif (decide (((w_D_here M) 194 10) ≤ ((v_D_here M) + (1 : Int32)))) then true else (bif (v_D_isIn (v_D_letter (w_D_here M) ((v_D_here M) + (1 : Int32))) (97 : Int32) (122 : Int32)) then false else true)) else false))))], [.int ((v_D_letter (zz_up (w_D_here M) 194 11 ((v_D_here M) + (1 : Int32))) (v_D_here M)) - (97 : Int32))])) (h' := (zt_T L, zt_R, (zz_up (w_D_here M) 194 11 ((v_D_here M) + (1 : Int32))), J, e)) (fun _ => rfl)).trans ?_
      refine zl_retI rfl rfl ?_
      first | (simp only [h1, h21, zk_t, zk_f, zb_t, zb_f]; done) | (simp only [h1, h21, zk_t, zk_f, zb_t, zb_f]; rfl) | rfl
    · refine zq_fF rfl h21 ?_
      refine (zz_go 2 (fr' := (zm_D_kindLetter, d + 4, 77, [some (.ref 194), some (.int (v_D_here M)), some (.int (zb (bif (decide (((w_D_here M) 194 10) ≤ (v_D_here M))) then false else (bif (v_D_isIn (v_D_letter (w_D_here M) (v_D_here M)) (97 : Int32) (104 : Int32)) then (bif (decide (((w_D_here M) 194 10) ≤ ((v_D_here M) + (1 : Int32)))) then true else (bif (v_D_isIn (v_D_letter (w_D_here M) ((v_D_here M) + (1 : Int32))) (97 : Int32) (122 : Int32)) then false else true)) else false))))], [.int (v_D_here M), .ref 194])) (h' := (zt_T L, zt_R, (w_D_here M), J, e)) (fun _ => rfl)).trans ?_
      refine zl_vt (d := d + 3) rfl rfl rfl rfl rfl rfl rfl rfl rfl rfl (s_D_wrong L e J (d + 2) (w_D_here M) (v_D_here M)) ?_
      show zz_D (zm_D_kindLetter, d + 4, 80, [some (.ref 194), some (.int (v_D_here M)), some (.int (zb (bif (decide (((w_D_here M) 194 10) ≤ (v_D_here M))) then false else (bif (v_D_isIn (v_D_letter (w_D_here M) (v_D_here M)) (97 : Int32) (104 : Int32)) then (bif (decide (((w_D_here M) 194 10) ≤ ((v_D_here M) + (1 : Int32)))) then true else (bif (v_D_isIn (v_D_letter (w_D_here M) ((v_D_here M) + (1 : Int32))) (97 : Int32) (122 : Int32)) then false else true)) else false))))], []) (zt_T L, zt_R, (w_D_wrong (w_D_here M) (v_D_here M)), J, e) = _
      refine (zz_go 1 (fr' := (zm_D_kindLetter, d + 4, 81, [some (.ref 194), some (.int (v_D_here M)), some (.int (zb (bif (decide (((w_D_here M) 194 10) ≤ (v_D_here M))) then false else (bif (v_D_isIn (v_D_letter (w_D_here M) (v_D_here M)) (97 : Int32) (104 : Int32)) then (bif (decide (((w_D_here M) 194 10) ≤ ((v_D_here M) + (1 : Int32)))) then true else (bif (v_D_isIn (v_D_letter (w_D_here M) ((v_D_here M) + (1 : Int32))) (97 : Int32) (122 : Int32)) then false else true)) else false))))], [.int (0 : Int32)])) (h' := (zt_T L, zt_R, (w_D_wrong (w_D_here M) (v_D_here M)), J, e)) (fun _ => rfl)).trans ?_
      refine zl_retI rfl rfl ?_
      first | (simp only [h1, h21, zk_t, zk_f, zb_t, zb_f]; done) | (simp only [h1, h21, zk_t, zk_f, zb_t, zb_f]; rfl) | rfl
  · refine zc_eqF rfl h1 ?_
    refine (zz_go 1 (fr' := (zm_D_kindLetter, d + 4, 9, [some (.ref 194), none, none], [.int (0 : Int32)])) (h' := (zt_T L, zt_R, M, J, e)) (fun _ => rfl)).trans ?_
    refine zl_retI rfl rfl ?_
    first | (simp only [h1, zk_t, zk_f, zb_t, zb_f]; done) | (simp only [h1, zk_t, zk_f, zb_t, zb_f]; rfl) | rfl
def g_D_fourMarks_1 (M : zMem) (i1 : Nat) (a1 : Int32 × Int32 × Bool) : Bool × (Int32 × Int32 × Bool) := ((bif (decide (((w_D_here M) 194 10) ≤ ((v_D_here M) + a1.1))) then false else (v_D_isIn (v_D_letter (w_D_here M) ((v_D_here M) + a1.1)) (48 : Int32) (57 : Int32))), ((bif (decide (((w_D_here M) 194 10) ≤ ((v_D_here M) + a1.1))) then a1.1 else (bif (v_D_isIn (v_D_letter (w_D_here M) ((v_D_here M) + a1.1)) (48 : Int32) (57 : Int32)) then (a1.1 + (1 : Int32)) else a1.1)), (bif (decide (((w_D_here M) 194 10) ≤ ((v_D_here M) + a1.1))) then a1.2.1 else (bif (v_D_isIn (v_D_letter (w_D_here M) ((v_D_here M) + a1.1)) (48 : Int32) (57 : Int32)) then (a1.2.1 ||| (bif (decide ((4 : Int32) ≤ a1.1)) then (0 : Int32) else (bif (decide ((v_D_letter (w_D_here M) ((v_D_here M) + a1.1)) = (49 : Int32))) then (zsl (1 : Int32) a1.1) else (0 : Int32)))) else a1.2.1)), (bif (decide (((w_D_here M) 194 10) ≤ ((v_D_here M) + a1.1))) then a1.2.2 else (bif (v_D_isIn (v_D_letter (w_D_here M) ((v_D_here M) + a1.1)) (48 : Int32) (57 : Int32)) then (bif a1.2.2 then (bif (decide ((4 : Int32) ≤ a1.1)) then false else (bif (decide ((49 : Int32) < (v_D_letter (w_D_here M) ((v_D_here M) + a1.1)))) then false else true)) else false) else a1.2.2))))
def kb_D_fourMarks_1 (M : zMem) (i1 : Nat) (a1 : Int32 × Int32 × Bool) : Prop := ((decide (((w_D_here M) 194 10) ≤ ((v_D_here M) + a1.1))) = false → ok_D_letter (w_D_here M) ((v_D_here M) + a1.1))
def v_D_fourMarks (M : zMem) : Int32 := (bif (decide ((M 194 12) = (-1 : Int32))) then (bif (zf_wh 1000 (g_D_fourMarks_1 M) 0 ((0 : Int32), (0 : Int32), true)).2.2 then (bif (decide ((zf_wh 1000 (g_D_fourMarks_1 M) 0 ((0 : Int32), (0 : Int32), true)).1 = (4 : Int32))) then (zf_wh 1000 (g_D_fourMarks_1 M) 0 ((0 : Int32), (0 : Int32), true)).2.1 else (0 : Int32)) else (0 : Int32)) else (0 : Int32))
def w_D_fourMarks (M : zMem) : zMem := (bif (decide ((M 194 12) = (-1 : Int32))) then (bif (zf_wh 1000 (g_D_fourMarks_1 M) 0 ((0 : Int32), (0 : Int32), true)).2.2 then (bif (decide ((zf_wh 1000 (g_D_fourMarks_1 M) 0 ((0 : Int32), (0 : Int32), true)).1 = (4 : Int32))) then (zz_up (w_D_here M) 194 11 ((v_D_here M) + (4 : Int32))) else (w_D_wrong (w_D_here M) (v_D_here M))) else (w_D_wrong (w_D_here M) (v_D_here M))) else M)
def ok_D_fourMarks (M : zMem) : Prop := ((decide ((M 194 12) = (-1 : Int32))) = true → (ok_D_here M ∧ (zf_wk 1000 (g_D_fourMarks_1 M) (kb_D_fourMarks_1 M) 0 ((0 : Int32), (0 : Int32), true))))
set_option maxRecDepth 20000 in
set_option maxHeartbeats 2000000 in
theorem s_D_fourMarks (L e : Nat) (J : zJem) (d : Nat) (M : zMem) (k0 : ok_D_fourMarks M) : zz_D (zm_D_fourMarks, d + 4, 0, [some (.ref 194), none, none, none, none, none], []) (zt_T L, zt_R, M, J, e) = some (.inl (some (.int (v_D_fourMarks M))), (zt_T L, zt_R, (w_D_fourMarks M), J, e)) := by
  unfold ok_D_fourMarks at k0
  unfold v_D_fourMarks w_D_fourMarks
  refine (zz_go 1 (fr' := (zm_D_fourMarks, d + 4, 1, [some (.ref 194), none, none, none, none, none], [.ref 194])) (h' := (zt_T L, zt_R, M, J, e)) (fun _ => rfl)).trans ?_
  refine zl_getI rfl (by decide) rfl rfl ?_
  refine (zz_go 1 (fr' := (zm_D_fourMarks, d + 4, 5, [some (.ref 194), none, none, none, none, none], [.int (-1 : Int32), .int (M 194 12)])) (h' := (zt_T L, zt_R, M, J, e)) (fun _ => rfl)).trans ?_
  rcases zz_bc (decide ((M 194 12) = (-1 : Int32))) with h1 | h1
  · refine zc_eqT rfl h1 ?_
    have k2 := k0 h1
    refine (zz_go 1 (fr' := (zm_D_fourMarks, d + 4, 11, [some (.ref 194), none, none, none, none, none], [.ref 194])) (h' := (zt_T L, zt_R, M, J, e)) (fun _ => rfl)).trans ?_
    obtain ⟨g3, k4⟩ := k2
    refine zl_vt (d := d + 3) rfl rfl rfl rfl rfl rfl rfl rfl rfl rfl (s_D_here L e J (d + 0) M g3) ?_
    show zz_D (zm_D_fourMarks, d + 4, 14, [some (.ref 194), none, none, none, none, none], [.int (v_D_here M)]) (zt_T L, zt_R, (w_D_here M), J, e) = _
    refine (zz_go 7 (fr' := (zm_D_fourMarks, d + 4, 22, [some (.ref 194), some (.int (v_D_here M)), some (.int (0 : Int32)), some (.int (0 : Int32)), some (.int (1 : Int32)), none], [])) (h' := (zt_T L, zt_R, (w_D_here M), J, e)) (fun _ => rfl)).trans ?_
    refine zf_whY (X := fun (i1 : Nat) (a1 : Int32 × Int32 × Bool) => zz_D (zm_D_fourMarks, d + 4, 22, [some (.ref 194), some (.int (v_D_here M)), some (.int a1.1), some (.int a1.2.1), some (.int (zb a1.2.2)), none], []) (zt_T L, zt_R, (w_D_here M), J, e)) (Y := fun (a1 : Int32 × Int32 × Bool) => zz_D (zm_D_fourMarks, d + 4, 110, [some (.ref 194), some (.int (v_D_here M)), some (.int a1.1), some (.int a1.2.1), some (.int (zb a1.2.2)), none], []) (zt_T L, zt_R, (w_D_here M), J, e)) (g := (g_D_fourMarks_1 M)) (k := (kb_D_fourMarks_1 M)) (fun i1 a1 k7 hx5 hx6 => ?_) 1000 0 ((0 : Int32), (0 : Int32), true) k4 ?_
    · show zz_D (zm_D_fourMarks, d + 4, 22, [some (.ref 194), some (.int (v_D_here M)), some (.int a1.1), some (.int a1.2.1), some (.int (zb a1.2.2)), none], []) (zt_T L, zt_R, (w_D_here M), J, e) = _
      unfold kb_D_fourMarks_1 at k7
      refine (zz_go 4 (fr' := (zm_D_fourMarks, d + 4, 26, [some (.ref 194), some (.int (v_D_here M)), some (.int a1.1), some (.int a1.2.1), some (.int (zb a1.2.2)), none], [.ref 194, .int ((v_D_here M) + a1.1)])) (h' := (zt_T L, zt_R, (w_D_here M), J, e)) (fun _ => rfl)).trans ?_
      refine zl_getI rfl (by decide) rfl rfl ?_
      rcases zz_bc (decide (((w_D_here M) 194 10) ≤ ((v_D_here M) + a1.1))) with h8 | h8
      · refine zc_geT rfl h8 ?_
        have y1 := hx6 (by simp only [g_D_fourMarks_1, h8, zk_t, zk_f, zb_t, zb_f])
        simpa only [g_D_fourMarks_1, h8, zk_t, zk_f, zb_t, zb_f] using y1
      · refine zc_geF rfl h8 ?_
        have k9 := k7 h8
        refine (zz_go 4 (fr' := (zm_D_fourMarks, d + 4, 36, [some (.ref 194), some (.int (v_D_here M)), some (.int a1.1), some (.int a1.2.1), some (.int (zb a1.2.2)), none], [.int ((v_D_here M) + a1.1), .ref 194])) (h' := (zt_T L, zt_R, (w_D_here M), J, e)) (fun _ => rfl)).trans ?_
        have g10 : ok_D_letter (w_D_here M) ((v_D_here M) + a1.1) := k9
        refine zl_vt (d := d + 3) rfl rfl rfl rfl rfl rfl rfl rfl rfl rfl (s_D_letter L e J (d + 2) (w_D_here M) ((v_D_here M) + a1.1) g10) ?_
        show zz_D (zm_D_fourMarks, d + 4, 39, [some (.ref 194), some (.int (v_D_here M)), some (.int a1.1), some (.int a1.2.1), some (.int (zb a1.2.2)), none], [.int (v_D_letter (w_D_here M) ((v_D_here M) + a1.1))]) (zt_T L, zt_R, (w_D_here M), J, e) = _
        refine (zz_go 2 (fr' := (zm_D_fourMarks, d + 4, 43, [some (.ref 194), some (.int (v_D_here M)), some (.int a1.1), some (.int a1.2.1), some (.int (zb a1.2.2)), none], [.int (57 : Int32), .int (48 : Int32), .int (v_D_letter (w_D_here M) ((v_D_here M) + a1.1))])) (h' := (zt_T L, zt_R, (w_D_here M), J, e)) (fun _ => rfl)).trans ?_
        refine zl_st (d := d + 3) rfl rfl rfl rfl rfl rfl rfl (s_D_isIn L e J (d + 2) (v_D_letter (w_D_here M) ((v_D_here M) + a1.1)) (48 : Int32) (57 : Int32)) ?_
        show zz_D (zm_D_fourMarks, d + 4, 46, [some (.ref 194), some (.int (v_D_here M)), some (.int a1.1), some (.int a1.2.1), some (.int (zb a1.2.2)), none], [.int (zb (v_D_isIn (v_D_letter (w_D_here M) ((v_D_here M) + a1.1)) (48 : Int32) (57 : Int32)))]) (zt_T L, zt_R, (w_D_here M), J, e) = _
        rcases zz_bc (v_D_isIn (v_D_letter (w_D_here M) ((v_D_here M) + a1.1)) (48 : Int32) (57 : Int32)) with h11 | h11
        · refine zq_eT rfl h11 ?_
          refine (zz_go 4 (fr' := (zm_D_fourMarks, d + 4, 53, [some (.ref 194), some (.int (v_D_here M)), some (.int a1.1), some (.int a1.2.1), some (.int (zb a1.2.2)), none], [.int ((v_D_here M) + a1.1), .ref 194])) (h' := (zt_T L, zt_R, (w_D_here M), J, e)) (fun _ => rfl)).trans ?_
          refine zl_vt (d := d + 3) rfl rfl rfl rfl rfl rfl rfl rfl rfl rfl (s_D_letter L e J (d + 2) (w_D_here M) ((v_D_here M) + a1.1) g10) ?_
          show zz_D (zm_D_fourMarks, d + 4, 56, [some (.ref 194), some (.int (v_D_here M)), some (.int a1.1), some (.int a1.2.1), some (.int (zb a1.2.2)), none], [.int (v_D_letter (w_D_here M) ((v_D_here M) + a1.1))]) (zt_T L, zt_R, (w_D_here M), J, e) = _
          refine zz_jn (X := zz_D (zm_D_fourMarks, d + 4, 80, [some (.ref 194), some (.int (v_D_here M)), some (.int a1.1), some (.int a1.2.1), none, some (.int (v_D_letter (w_D_here M) ((v_D_here M) + a1.1)))], [.int (zb (bif a1.2.2 then (bif (decide ((4 : Int32) ≤ a1.1)) then false else (bif (decide ((49 : Int32) < (v_D_letter (w_D_here M) ((v_D_here M) + a1.1)))) then false else true)) else false))]) (zt_T L, zt_R, (w_D_here M), J, e)) (fun j12 => ?_) ?_
          · refine (zz_go 2 (fr' := (zm_D_fourMarks, d + 4, 60, [some (.ref 194), some (.int (v_D_here M)), some (.int a1.1), some (.int a1.2.1), some (.int (zb a1.2.2)), some (.int (v_D_letter (w_D_here M) ((v_D_here M) + a1.1)))], [.int (zb a1.2.2)])) (h' := (zt_T L, zt_R, (w_D_here M), J, e)) (fun _ => rfl)).trans ?_
            rcases zz_bc a1.2.2 with h13 | h13
            · refine zq_eT rfl h13 ?_
              refine zz_jn (X := zz_D (zm_D_fourMarks, d + 4, 80, [some (.ref 194), some (.int (v_D_here M)), some (.int a1.1), some (.int a1.2.1), none, some (.int (v_D_letter (w_D_here M) ((v_D_here M) + a1.1)))], [.int (zb (bif (decide ((4 : Int32) ≤ a1.1)) then false else (bif (decide ((49 : Int32) < (v_D_letter (w_D_here M) ((v_D_here M) + a1.1)))) then false else true)))]) (zt_T L, zt_R, (w_D_here M), J, e)) (fun j14 => ?_) ?_
              · refine (zz_go 2 (fr' := (zm_D_fourMarks, d + 4, 65, [some (.ref 194), some (.int (v_D_here M)), some (.int a1.1), some (.int a1.2.1), some (.int (zb a1.2.2)), some (.int (v_D_letter (w_D_here M) ((v_D_here M) + a1.1)))], [.int (4 : Int32), .int a1.1])) (h' := (zt_T L, zt_R, (w_D_here M), J, e)) (fun _ => rfl)).trans ?_
                rcases zz_bc (decide ((4 : Int32) ≤ a1.1)) with h15 | h15
                · refine zc_geT rfl h15 ?_
                  refine (zz_go 1 (fr' := (zm_D_fourMarks, d + 4, 80, [some (.ref 194), some (.int (v_D_here M)), some (.int a1.1), some (.int a1.2.1), some (.int (zb a1.2.2)), some (.int (v_D_letter (w_D_here M) ((v_D_here M) + a1.1)))], [.int (0 : Int32)])) (h' := (zt_T L, zt_R, (w_D_here M), J, e)) (fun _ => rfl)).trans ?_
                  refine zz_weak (L := [some (.ref 194), some (.int (v_D_here M)), some (.int a1.1), some (.int a1.2.1), none, some (.int (v_D_letter (w_D_here M) ((v_D_here M) + a1.1)))]) ⟨Or.inl rfl, Or.inl rfl, Or.inl rfl, Or.inl rfl, Or.inr ⟨rfl, rfl⟩, Or.inl rfl, trivial⟩ ?_
                  simpa only [h15, zk_t, zk_f, zb_t, zb_f] using j14
                · refine zc_geF rfl h15 ?_
                  refine zz_jn (X := zz_D (zm_D_fourMarks, d + 4, 80, [some (.ref 194), some (.int (v_D_here M)), some (.int a1.1), some (.int a1.2.1), none, some (.int (v_D_letter (w_D_here M) ((v_D_here M) + a1.1)))], [.int (zb (bif (decide ((49 : Int32) < (v_D_letter (w_D_here M) ((v_D_here M) + a1.1)))) then false else true))]) (zt_T L, zt_R, (w_D_here M), J, e)) (fun j16 => ?_) ?_
                  · refine (zz_go 2 (fr' := (zm_D_fourMarks, d + 4, 72, [some (.ref 194), some (.int (v_D_here M)), some (.int a1.1), some (.int a1.2.1), some (.int (zb a1.2.2)), some (.int (v_D_letter (w_D_here M) ((v_D_here M) + a1.1)))], [.int (49 : Int32), .int (v_D_letter (w_D_here M) ((v_D_here M) + a1.1))])) (h' := (zt_T L, zt_R, (w_D_here M), J, e)) (fun _ => rfl)).trans ?_
                    rcases zz_bc (decide ((49 : Int32) < (v_D_letter (w_D_here M) ((v_D_here M) + a1.1)))) with h17 | h17
                    · refine zc_gtT rfl h17 ?_
                      refine (zz_go 1 (fr' := (zm_D_fourMarks, d + 4, 80, [some (.ref 194), some (.int (v_D_here M)), some (.int a1.1), some (.int a1.2.1), some (.int (zb a1.2.2)), some (.int (v_D_letter (w_D_here M) ((v_D_here M) + a1.1)))], [.int (0 : Int32)])) (h' := (zt_T L, zt_R, (w_D_here M), J, e)) (fun _ => rfl)).trans ?_
                      refine zz_weak (L := [some (.ref 194), some (.int (v_D_here M)), some (.int a1.1), some (.int a1.2.1), none, some (.int (v_D_letter (w_D_here M) ((v_D_here M) + a1.1)))]) ⟨Or.inl rfl, Or.inl rfl, Or.inl rfl, Or.inl rfl, Or.inr ⟨rfl, rfl⟩, Or.inl rfl, trivial⟩ ?_
                      simpa only [h17, zk_t, zk_f, zb_t, zb_f] using j16
                    · refine zc_gtF rfl h17 ?_
                      refine (zz_go 2 (fr' := (zm_D_fourMarks, d + 4, 80, [some (.ref 194), some (.int (v_D_here M)), some (.int a1.1), some (.int a1.2.1), some (.int (zb a1.2.2)), some (.int (v_D_letter (w_D_here M) ((v_D_here M) + a1.1)))], [.int (1 : Int32)])) (h' := (zt_T L, zt_R, (w_D_here M), J, e)) (fun _ => rfl)).trans ?_
                      refine zz_weak (L := [some (.ref 194), some (.int (v_D_here M)), some (.int a1.1), some (.int a1.2.1), none, some (.int (v_D_letter (w_D_here M) ((v_D_here M) + a1.1)))]) ⟨Or.inl rfl, Or.inl rfl, Or.inl rfl, Or.inl rfl, Or.inr ⟨rfl, rfl⟩, Or.inl rfl, trivial⟩ ?_
                      simpa only [h17, zk_t, zk_f, zb_t, zb_f] using j16
                  simpa only [h15, zk_t, zk_f, zb_t, zb_f] using j14
              simpa only [h13, zk_t, zk_f, zb_t, zb_f] using j12
            · refine zq_eF rfl h13 ?_
              refine (zz_go 1 (fr' := (zm_D_fourMarks, d + 4, 80, [some (.ref 194), some (.int (v_D_here M)), some (.int a1.1), some (.int a1.2.1), some (.int (zb a1.2.2)), some (.int (v_D_letter (w_D_here M) ((v_D_here M) + a1.1)))], [.int (0 : Int32)])) (h' := (zt_T L, zt_R, (w_D_here M), J, e)) (fun _ => rfl)).trans ?_
              refine zz_weak (L := [some (.ref 194), some (.int (v_D_here M)), some (.int a1.1), some (.int a1.2.1), none, some (.int (v_D_letter (w_D_here M) ((v_D_here M) + a1.1)))]) ⟨Or.inl rfl, Or.inl rfl, Or.inl rfl, Or.inl rfl, Or.inr ⟨rfl, rfl⟩, Or.inl rfl, trivial⟩ ?_
              simpa only [h13, zk_t, zk_f, zb_t, zb_f] using j12
          refine zz_jn (X := zz_D (zm_D_fourMarks, d + 4, 102, [some (.ref 194), some (.int (v_D_here M)), some (.int a1.1), none, some (.int (zb (bif a1.2.2 then (bif (decide ((4 : Int32) ≤ a1.1)) then false else (bif (decide ((49 : Int32) < (v_D_letter (w_D_here M) ((v_D_here M) + a1.1)))) then false else true)) else false))), none], [.int (bif (decide ((4 : Int32) ≤ a1.1)) then (0 : Int32) else (bif (decide ((v_D_letter (w_D_here M) ((v_D_here M) + a1.1)) = (49 : Int32))) then (zsl (1 : Int32) a1.1) else (0 : Int32))), .int a1.2.1]) (zt_T L, zt_R, (w_D_here M), J, e)) (fun j18 => ?_) ?_
          · refine (zz_go 4 (fr' := (zm_D_fourMarks, d + 4, 85, [some (.ref 194), some (.int (v_D_here M)), some (.int a1.1), some (.int a1.2.1), some (.int (zb (bif a1.2.2 then (bif (decide ((4 : Int32) ≤ a1.1)) then false else (bif (decide ((49 : Int32) < (v_D_letter (w_D_here M) ((v_D_here M) + a1.1)))) then false else true)) else false))), some (.int (v_D_letter (w_D_here M) ((v_D_here M) + a1.1)))], [.int (4 : Int32), .int a1.1, .int a1.2.1])) (h' := (zt_T L, zt_R, (w_D_here M), J, e)) (fun _ => rfl)).trans ?_
            rcases zz_bc (decide ((4 : Int32) ≤ a1.1)) with h19 | h19
            · refine zc_geT rfl h19 ?_
              refine (zz_go 1 (fr' := (zm_D_fourMarks, d + 4, 102, [some (.ref 194), some (.int (v_D_here M)), some (.int a1.1), some (.int a1.2.1), some (.int (zb (bif a1.2.2 then (bif (decide ((4 : Int32) ≤ a1.1)) then false else (bif (decide ((49 : Int32) < (v_D_letter (w_D_here M) ((v_D_here M) + a1.1)))) then false else true)) else false))), some (.int (v_D_letter (w_D_here M) ((v_D_here M) + a1.1)))], [.int (0 : Int32), .int a1.2.1])) (h' := (zt_T L, zt_R, (w_D_here M), J, e)) (fun _ => rfl)).trans ?_
              refine zz_weak (L := [some (.ref 194), some (.int (v_D_here M)), some (.int a1.1), none, some (.int (zb (bif a1.2.2 then (bif (decide ((4 : Int32) ≤ a1.1)) then false else (bif (decide ((49 : Int32) < (v_D_letter (w_D_here M) ((v_D_here M) + a1.1)))) then false else true)) else false))), none]) ⟨Or.inl rfl, Or.inl rfl, Or.inl rfl, Or.inr ⟨rfl, rfl⟩, Or.inl rfl, Or.inr ⟨rfl, rfl⟩, trivial⟩ ?_
              simpa only [h19, zk_t, zk_f, zb_t, zb_f] using j18
            · refine zc_geF rfl h19 ?_
              refine zz_jn (X := zz_D (zm_D_fourMarks, d + 4, 102, [some (.ref 194), some (.int (v_D_here M)), some (.int a1.1), none, some (.int (zb (bif a1.2.2 then (bif (decide ((4 : Int32) ≤ a1.1)) then false else (bif (decide ((49 : Int32) < (v_D_letter (w_D_here M) ((v_D_here M) + a1.1)))) then false else true)) else false))), none], [.int (bif (decide ((v_D_letter (w_D_here M) ((v_D_here M) + a1.1)) = (49 : Int32))) then (zsl (1 : Int32) a1.1) else (0 : Int32)), .int a1.2.1]) (zt_T L, zt_R, (w_D_here M), J, e)) (fun j20 => ?_) ?_
              · refine (zz_go 2 (fr' := (zm_D_fourMarks, d + 4, 92, [some (.ref 194), some (.int (v_D_here M)), some (.int a1.1), some (.int a1.2.1), some (.int (zb (bif a1.2.2 then (bif (decide ((4 : Int32) ≤ a1.1)) then false else (bif (decide ((49 : Int32) < (v_D_letter (w_D_here M) ((v_D_here M) + a1.1)))) then false else true)) else false))), some (.int (v_D_letter (w_D_here M) ((v_D_here M) + a1.1)))], [.int (49 : Int32), .int (v_D_letter (w_D_here M) ((v_D_here M) + a1.1)), .int a1.2.1])) (h' := (zt_T L, zt_R, (w_D_here M), J, e)) (fun _ => rfl)).trans ?_
                rcases zz_bc (decide ((v_D_letter (w_D_here M) ((v_D_here M) + a1.1)) = (49 : Int32))) with h21 | h21
                · refine zc_neT rfl h21 ?_
                  refine (zz_go 4 (fr' := (zm_D_fourMarks, d + 4, 102, [some (.ref 194), some (.int (v_D_here M)), some (.int a1.1), some (.int a1.2.1), some (.int (zb (bif a1.2.2 then (bif (decide ((4 : Int32) ≤ a1.1)) then false else (bif (decide ((49 : Int32) < (v_D_letter (w_D_here M) ((v_D_here M) + a1.1)))) then false else true)) else false))), some (.int (v_D_letter (w_D_here M) ((v_D_here M) + a1.1)))], [.int (zsl (1 : Int32) a1.1), .int a1.2.1])) (h' := (zt_T L, zt_R, (w_D_here M), J, e)) (fun _ => rfl)).trans ?_
                  refine zz_weak (L := [some (.ref 194), some (.int (v_D_here M)), some (.int a1.1), none, some (.int (zb (bif a1.2.2 then (bif (decide ((4 : Int32) ≤ a1.1)) then false else (bif (decide ((49 : Int32) < (v_D_letter (w_D_here M) ((v_D_here M) + a1.1)))) then false else true)) else false))), none]) ⟨Or.inl rfl, Or.inl rfl, Or.inl rfl, Or.inr ⟨rfl, rfl⟩, Or.inl rfl, Or.inr ⟨rfl, rfl⟩, trivial⟩ ?_
                  simpa only [h21, zk_t, zk_f, zb_t, zb_f] using j20
                · refine zc_neF rfl h21 ?_
                  refine (zz_go 1 (fr' := (zm_D_fourMarks, d + 4, 102, [some (.ref 194), some (.int (v_D_here M)), some (.int a1.1), some (.int a1.2.1), some (.int (zb (bif a1.2.2 then (bif (decide ((4 : Int32) ≤ a1.1)) then false else (bif (decide ((49 : Int32) < (v_D_letter (w_D_here M) ((v_D_here M) + a1.1)))) then false else true)) else false))), some (.int (v_D_letter (w_D_here M) ((v_D_here M) + a1.1)))], [.int (0 : Int32), .int a1.2.1])) (h' := (zt_T L, zt_R, (w_D_here M), J, e)) (fun _ => rfl)).trans ?_
                  refine zz_weak (L := [some (.ref 194), some (.int (v_D_here M)), some (.int a1.1), none, some (.int (zb (bif a1.2.2 then (bif (decide ((4 : Int32) ≤ a1.1)) then false else (bif (decide ((49 : Int32) < (v_D_letter (w_D_here M) ((v_D_here M) + a1.1)))) then false else true)) else false))), none]) ⟨Or.inl rfl, Or.inl rfl, Or.inl rfl, Or.inr ⟨rfl, rfl⟩, Or.inl rfl, Or.inr ⟨rfl, rfl⟩, trivial⟩ ?_
                  simpa only [h21, zk_t, zk_f, zb_t, zb_f] using j20
              simpa only [h19, zk_t, zk_f, zb_t, zb_f] using j18
          refine (zz_go 4 (fr' := (zm_D_fourMarks, d + 4, 22, [some (.ref 194), some (.int (v_D_here M)), some (.int (a1.1 + (1 : Int32))), some (.int (a1.2.1 ||| (bif (decide ((4 : Int32) ≤ a1.1)) then (0 : Int32) else (bif (decide ((v_D_letter (w_D_here M) ((v_D_here M) + a1.1)) = (49 : Int32))) then (zsl (1 : Int32) a1.1) else (0 : Int32))))), some (.int (zb (bif a1.2.2 then (bif (decide ((4 : Int32) ≤ a1.1)) then false else (bif (decide ((49 : Int32) < (v_D_letter (w_D_here M) ((v_D_here M) + a1.1)))) then false else true)) else false))), none], [])) (h' := (zt_T L, zt_R, (w_D_here M), J, e)) (fun _ => rfl)).trans ?_
          have y1 := hx5 (by simp only [g_D_fourMarks_1, h8, h11, zk_t, zk_f, zb_t, zb_f])
          simpa only [g_D_fourMarks_1, h8, h11, zk_t, zk_f, zb_t, zb_f] using y1
        · refine zq_eF rfl h11 ?_
          have y1 := hx6 (by simp only [g_D_fourMarks_1, h8, h11, zk_t, zk_f, zb_t, zb_f])
          simpa only [g_D_fourMarks_1, h8, h11, zk_t, zk_f, zb_t, zb_f] using y1
    show zz_D (zm_D_fourMarks, d + 4, 110, [some (.ref 194), some (.int (v_D_here M)), some (.int (zf_wh 1000 (g_D_fourMarks_1 M) 0 ((0 : Int32), (0 : Int32), true)).1), some (.int (zf_wh 1000 (g_D_fourMarks_1 M) 0 ((0 : Int32), (0 : Int32), true)).2.1), some (.int (zb (zf_wh 1000 (g_D_fourMarks_1 M) 0 ((0 : Int32), (0 : Int32), true)).2.2)), none], []) (zt_T L, zt_R, (w_D_here M), J, e) = _
    refine (zz_go 1 (fr' := (zm_D_fourMarks, d + 4, 112, [some (.ref 194), some (.int (v_D_here M)), some (.int (zf_wh 1000 (g_D_fourMarks_1 M) 0 ((0 : Int32), (0 : Int32), true)).1), some (.int (zf_wh 1000 (g_D_fourMarks_1 M) 0 ((0 : Int32), (0 : Int32), true)).2.1), some (.int (zb (zf_wh 1000 (g_D_fourMarks_1 M) 0 ((0 : Int32), (0 : Int32), true)).2.2)), none], [.int (zb (zf_wh 1000 (g_D_fourMarks_1 M) 0 ((0 : Int32), (0 : Int32), true)).2.2)])) (h' := (zt_T L, zt_R, (w_D_here M), J, e)) (fun _ => rfl)).trans ?_
    rcases zz_bc (zf_wh 1000 (g_D_fourMarks_1 M) 0 ((0 : Int32), (0 : Int32), true)).2.2 with h22 | h22
    · refine zq_eT rfl h22 ?_
      refine (zz_go 2 (fr' := (zm_D_fourMarks, d + 4, 117, [some (.ref 194), some (.int (v_D_here M)), some (.int (zf_wh 1000 (g_D_fourMarks_1 M) 0 ((0 : Int32), (0 : Int32), true)).1), some (.int (zf_wh 1000 (g_D_fourMarks_1 M) 0 ((0 : Int32), (0 : Int32), true)).2.1), some (.int (zb (zf_wh 1000 (g_D_fourMarks_1 M) 0 ((0 : Int32), (0 : Int32), true)).2.2)), none], [.int (4 : Int32), .int (zf_wh 1000 (g_D_fourMarks_1 M) 0 ((0 : Int32), (0 : Int32), true)).1])) (h' := (zt_T L, zt_R, (w_D_here M), J, e)) (fun _ => rfl)).trans ?_
      rcases zz_bc (decide ((zf_wh 1000 (g_D_fourMarks_1 M) 0 ((0 : Int32), (0 : Int32), true)).1 = (4 : Int32))) with h23 | h23
      · refine zc_eqT rfl h23 ?_
        refine (zz_go 4 (fr' := (zm_D_fourMarks, d + 4, 131, [some (.ref 194), some (.int (v_D_here M)), some (.int (zf_wh 1000 (g_D_fourMarks_1 M) 0 ((0 : Int32), (0 : Int32), true)).1), some (.int (zf_wh 1000 (g_D_fourMarks_1 M) 0 ((0 : Int32), (0 : Int32), true)).2.1), some (.int (zb (zf_wh 1000 (g_D_fourMarks_1 M) 0 ((0 : Int32), (0 : Int32), true)).2.2)), none], [.int ((v_D_here M) + (4 : Int32)), .ref 194])) (h' := (zt_T L, zt_R, (w_D_here M), J, e)) (fun _ => rfl)).trans ?_
        refine zl_putI rfl rfl rfl rfl ?_
        refine (zz_go 1 (fr' := (zm_D_fourMarks, d + 4, 135, [some (.ref 194), some (.int (v_D_here M)), some (.int (zf_wh 1000 (g_D_fourMarks_1 M) 0 ((0 : Int32), (0 : Int32), true)).1), some (.int (zf_wh 1000 (g_D_fourMarks_1 M) 0 ((0 : Int32), (0 : Int32), true)).2.1), some (.int (zb (zf_wh 1000 (g_D_fourMarks_1 M) 0 ((0 : Int32), (0 : Int32), true)).2.2)), none], [.int (zf_wh 1000 (g_D_fourMarks_1 M) 0 ((0 : Int32), (0 : Int32), true)).2.1])) (h' := (zt_T L, zt_R, (zz_up (w_D_here M) 194 11 ((v_D_here M) + (4 : Int32))), J, e)) (fun _ => rfl)).trans ?_
        refine zl_retI rfl rfl ?_
        first | (simp only [h1, h22, h23, zk_t, zk_f, zb_t, zb_f]; done) | (simp only [h1, h22, h23, zk_t, zk_f, zb_t, zb_f]; rfl) | rfl
      · refine zc_eqF rfl h23 ?_
        refine (zz_go 2 (fr' := (zm_D_fourMarks, d + 4, 122, [some (.ref 194), some (.int (v_D_here M)), some (.int (zf_wh 1000 (g_D_fourMarks_1 M) 0 ((0 : Int32), (0 : Int32), true)).1), some (.int (zf_wh 1000 (g_D_fourMarks_1 M) 0 ((0 : Int32), (0 : Int32), true)).2.1), some (.int (zb (zf_wh 1000 (g_D_fourMarks_1 M) 0 ((0 : Int32), (0 : Int32), true)).2.2)), none], [.int (v_D_here M), .ref 194])) (h' := (zt_T L, zt_R, (w_D_here M), J, e)) (fun _ => rfl)).trans ?_
        refine zl_vt (d := d + 3) rfl rfl rfl rfl rfl rfl rfl rfl rfl rfl (s_D_wrong L e J (d + 2) (w_D_here M) (v_D_here M)) ?_
        show zz_D (zm_D_fourMarks, d + 4, 125, [some (.ref 194), some (.int (v_D_here M)), some (.int (zf_wh 1000 (g_D_fourMarks_1 M) 0 ((0 : Int32), (0 : Int32), true)).1), some (.int (zf_wh 1000 (g_D_fourMarks_1 M) 0 ((0 : Int32), (0 : Int32), true)).2.1), some (.int (zb (zf_wh 1000 (g_D_fourMarks_1 M) 0 ((0 : Int32), (0 : Int32), true)).2.2)), none], []) (zt_T L, zt_R, (w_D_wrong (w_D_here M) (v_D_here M)), J, e) = _
        refine (zz_go 1 (fr' := (zm_D_fourMarks, d + 4, 126, [some (.ref 194), some (.int (v_D_here M)), some (.int (zf_wh 1000 (g_D_fourMarks_1 M) 0 ((0 : Int32), (0 : Int32), true)).1), some (.int (zf_wh 1000 (g_D_fourMarks_1 M) 0 ((0 : Int32), (0 : Int32), true)).2.1), some (.int (zb (zf_wh 1000 (g_D_fourMarks_1 M) 0 ((0 : Int32), (0 : Int32), true)).2.2)), none], [.int (0 : Int32)])) (h' := (zt_T L, zt_R, (w_D_wrong (w_D_here M) (v_D_here M)), J, e)) (fun _ => rfl)).trans ?_
        refine zl_retI rfl rfl ?_
        first | (simp only [h1, h22, h23, zk_t, zk_f, zb_t, zb_f]; done) | (simp only [h1, h22, h23, zk_t, zk_f, zb_t, zb_f]; rfl) | rfl
    · refine zq_eF rfl h22 ?_
      refine (zz_go 2 (fr' := (zm_D_fourMarks, d + 4, 122, [some (.ref 194), some (.int (v_D_here M)), some (.int (zf_wh 1000 (g_D_fourMarks_1 M) 0 ((0 : Int32), (0 : Int32), true)).1), some (.int (zf_wh 1000 (g_D_fourMarks_1 M) 0 ((0 : Int32), (0 : Int32), true)).2.1), some (.int (zb (zf_wh 1000 (g_D_fourMarks_1 M) 0 ((0 : Int32), (0 : Int32), true)).2.2)), none], [.int (v_D_here M), .ref 194])) (h' := (zt_T L, zt_R, (w_D_here M), J, e)) (fun _ => rfl)).trans ?_
      refine zl_vt (d := d + 3) rfl rfl rfl rfl rfl rfl rfl rfl rfl rfl (s_D_wrong L e J (d + 2) (w_D_here M) (v_D_here M)) ?_
      show zz_D (zm_D_fourMarks, d + 4, 125, [some (.ref 194), some (.int (v_D_here M)), some (.int (zf_wh 1000 (g_D_fourMarks_1 M) 0 ((0 : Int32), (0 : Int32), true)).1), some (.int (zf_wh 1000 (g_D_fourMarks_1 M) 0 ((0 : Int32), (0 : Int32), true)).2.1), some (.int (zb (zf_wh 1000 (g_D_fourMarks_1 M) 0 ((0 : Int32), (0 : Int32), true)).2.2)), none], []) (zt_T L, zt_R, (w_D_wrong (w_D_here M) (v_D_here M)), J, e) = _
      refine (zz_go 1 (fr' := (zm_D_fourMarks, d + 4, 126, [some (.ref 194), some (.int (v_D_here M)), some (.int (zf_wh 1000 (g_D_fourMarks_1 M) 0 ((0 : Int32), (0 : Int32), true)).1), some (.int (zf_wh 1000 (g_D_fourMarks_1 M) 0 ((0 : Int32), (0 : Int32), true)).2.1), some (.int (zb (zf_wh 1000 (g_D_fourMarks_1 M) 0 ((0 : Int32), (0 : Int32), true)).2.2)), none], [.int (0 : Int32)])) (h' := (zt_T L, zt_R, (w_D_wrong (w_D_here M) (v_D_here M)), J, e)) (fun _ => rfl)).trans ?_
      refine zl_retI rfl rfl ?_
      first | (simp only [h1, h22, zk_t, zk_f, zb_t, zb_f]; done) | (simp only [h1, h22, zk_t, zk_f, zb_t, zb_f]; rfl) | rfl
  · refine zc_eqF rfl h1 ?_
    refine (zz_go 1 (fr' := (zm_D_fourMarks, d + 4, 9, [some (.ref 194), none, none, none, none, none], [.int (0 : Int32)])) (h' := (zt_T L, zt_R, M, J, e)) (fun _ => rfl)).trans ?_
    refine zl_retI rfl rfl ?_
    first | (simp only [h1, zk_t, zk_f, zb_t, zb_f]; done) | (simp only [h1, zk_t, zk_f, zb_t, zb_f]; rfl) | rfl
def v_D_expects (M : zMem) (w : Nat) : Bool := (bif (decide ((M 194 12) = (-1 : Int32))) then (v_D_has M w) else false)
def w_D_expects (M : zMem) (w : Nat) : zMem := (bif (decide ((M 194 12) = (-1 : Int32))) then (bif (v_D_has M w) then (w_D_has M w) else (w_D_wrong (w_D_has M w) ((w_D_has M w) 194 11))) else M)
def ok_D_expects (M : zMem) (w : Nat) : Prop := ((decide ((M 194 12) = (-1 : Int32))) = true → ok_D_has M w)
set_option maxRecDepth 20000 in
set_option maxHeartbeats 2000000 in
theorem s_D_expects (L e : Nat) (J : zJem) (d : Nat) (M : zMem) (w : Nat) (hw : Nat.blt w zz_S.length = true) (k0 : ok_D_expects M w) : zz_D (zm_D_expects, d + 9, 0, [some (.ref 194), some (.ref (1000000 + w)), none], []) (zt_T L, zt_R, M, J, e) = some (.inl (some (.int (zb (v_D_expects M w)))), (zt_T L, zt_R, (w_D_expects M w), J, e)) := by
  unfold ok_D_expects at k0
  unfold v_D_expects w_D_expects
  refine (zz_go 1 (fr' := (zm_D_expects, d + 9, 1, [some (.ref 194), some (.ref (1000000 + w)), none], [.ref 194])) (h' := (zt_T L, zt_R, M, J, e)) (fun _ => rfl)).trans ?_
  refine zl_getI rfl (by decide) rfl rfl ?_
  refine (zz_go 1 (fr' := (zm_D_expects, d + 9, 5, [some (.ref 194), some (.ref (1000000 + w)), none], [.int (-1 : Int32), .int (M 194 12)])) (h' := (zt_T L, zt_R, M, J, e)) (fun _ => rfl)).trans ?_
  rcases zz_bc (decide ((M 194 12) = (-1 : Int32))) with h1 | h1
  · refine zc_eqT rfl h1 ?_
    have k2 := k0 h1
    refine (zz_go 2 (fr' := (zm_D_expects, d + 9, 12, [some (.ref 194), some (.ref (1000000 + w)), none], [.ref (1000000 + w), .ref 194])) (h' := (zt_T L, zt_R, M, J, e)) (fun _ => rfl)).trans ?_
    have g3 : ok_D_has M w := k2
    refine zl_vt (d := d + 8) rfl rfl rfl rfl rfl rfl rfl rfl rfl rfl (s_D_has L e J (d + 0) M w hw g3) ?_
    show zz_D (zm_D_expects, d + 9, 15, [some (.ref 194), some (.ref (1000000 + w)), none], [.int (zb (v_D_has M w))]) (zt_T L, zt_R, (w_D_has M w), J, e) = _
    refine zz_jn (X := zz_D (zm_D_expects, d + 9, 28, [none, none, some (.int (zb (v_D_has M w)))], []) (zt_T L, zt_R, (bif (v_D_has M w) then (w_D_has M w) else (w_D_wrong (w_D_has M w) ((w_D_has M w) 194 11))), J, e)) (fun j4 => ?_) ?_
    · refine (zz_go 2 (fr' := (zm_D_expects, d + 9, 17, [some (.ref 194), some (.ref (1000000 + w)), some (.int (zb (v_D_has M w)))], [.int (zb (v_D_has M w))])) (h' := (zt_T L, zt_R, (w_D_has M w), J, e)) (fun _ => rfl)).trans ?_
      rcases zz_bc (v_D_has M w) with h5 | h5
      · refine zq_fT rfl h5 ?_
        refine zz_weak (L := [none, none, some (.int (zb (v_D_has M w)))]) ⟨Or.inr ⟨rfl, rfl⟩, Or.inr ⟨rfl, rfl⟩, Or.inl rfl, trivial⟩ ?_
        simpa only [h5, zk_t, zk_f, zb_t, zb_f] using j4
      · refine zq_fF rfl h5 ?_
        refine (zz_go 2 (fr' := (zm_D_expects, d + 9, 22, [some (.ref 194), some (.ref (1000000 + w)), some (.int (zb (v_D_has M w)))], [.ref 194, .ref 194])) (h' := (zt_T L, zt_R, (w_D_has M w), J, e)) (fun _ => rfl)).trans ?_
        refine zl_getI rfl (by decide) rfl rfl ?_
        refine zl_vt (d := d + 8) rfl rfl rfl rfl rfl rfl rfl rfl rfl rfl (s_D_wrong L e J (d + 7) (w_D_has M w) ((w_D_has M w) 194 11)) ?_
        show zz_D (zm_D_expects, d + 9, 28, [some (.ref 194), some (.ref (1000000 + w)), some (.int (zb (v_D_has M w)))], []) (zt_T L, zt_R, (w_D_wrong (w_D_has M w) ((w_D_has M w) 194 11)), J, e) = _
        refine zz_weak (L := [none, none, some (.int (zb (v_D_has M w)))]) ⟨Or.inr ⟨rfl, rfl⟩, Or.inr ⟨rfl, rfl⟩, Or.inl rfl, trivial⟩ ?_
        simpa only [h5, zk_t, zk_f, zb_t, zb_f] using j4
    refine (zz_go 1 (fr' := (zm_D_expects, d + 9, 29, [none, none, some (.int (zb (v_D_has M w)))], [.int (zb (v_D_has M w))])) (h' := (zt_T L, zt_R, (bif (v_D_has M w) then (w_D_has M w) else (w_D_wrong (w_D_has M w) ((w_D_has M w) 194 11))), J, e)) (fun _ => rfl)).trans ?_
    refine zl_retI rfl (zb_01 _) ?_
    first | (simp only [h1, zk_t, zk_f, zb_t, zb_f]; done) | (simp only [h1, zk_t, zk_f, zb_t, zb_f]; rfl) | rfl
  · refine zc_eqF rfl h1 ?_
    refine (zz_go 1 (fr' := (zm_D_expects, d + 9, 9, [some (.ref 194), some (.ref (1000000 + w)), none], [.int (0 : Int32)])) (h' := (zt_T L, zt_R, M, J, e)) (fun _ => rfl)).trans ?_
    refine zl_retI rfl rfl ?_
    first | (simp only [h1, zk_t, zk_f, zb_t, zb_f]; done) | (simp only [h1, zk_t, zk_f, zb_t, zb_f]; rfl) | rfl
