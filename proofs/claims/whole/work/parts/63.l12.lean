/-! LIFTED: D_famous D_twins D_tellers D_logged D_led D_log D_seed D_undo D_image D_back D_count -/
def f_D_famous_1 (M : zMem) (i1 : Nat) (a1 : Int32) : Int32 := (bif (decide ((v_D_of (zz_up M 194 0 (0 : Int32)) (Int32.ofNat i1) (5 : Int32)) ≤ (bif (decide (a1 = (-1 : Int32))) then (0 : Int32) else (v_D_of (zz_up M 194 0 (0 : Int32)) a1 (5 : Int32))))) then a1 else (Int32.ofNat i1))
def kb_D_famous_1 (M : zMem) (i1 : Nat) (a1 : Int32) : Prop := (ok_D_of (zz_up M 194 0 (0 : Int32)) (Int32.ofNat i1) (5 : Int32) ∧ ((decide (a1 = (-1 : Int32))) = false → ok_D_of (zz_up M 194 0 (0 : Int32)) a1 (5 : Int32)))
def v_D_famous (M : zMem) : Int32 := (zf_for (M 195 3).toNatClampNeg (f_D_famous_1 M) (-1 : Int32))
def w_D_famous (M : zMem) : zMem := (zz_up M 194 0 (0 : Int32))
def ok_D_famous (M : zMem) : Prop := (∀ i1, i1 < (M 195 3).toNatClampNeg → kb_D_famous_1 M i1 (zf_for i1 (f_D_famous_1 M) (-1 : Int32)))
set_option maxRecDepth 20000 in
set_option maxHeartbeats 2000000 in
theorem s_D_famous (L e : Nat) (J : zJem) (d : Nat) (M : zMem) (k0 : ok_D_famous M) : zz_D (zm_D_famous, d + 2, 0, [some (.ref (194 : Nat)), none, none], []) (zt_T L, zt_R, M, J, e) = some (.inl (some (.int (v_D_famous M))), (zt_T L, zt_R, (w_D_famous M), J, e)) := by
  unfold ok_D_famous at k0
  unfold v_D_famous w_D_famous
  refine (zz_go 2 (fr' := (zm_D_famous, d + 2, 2, [some (.ref (194 : Nat)), none, none], [.int (0 : Int32), .ref (194 : Nat)])) (h' := (zt_T L, zt_R, M, J, e)) (fun _ => rfl)).trans ?_
  refine zl_putI rfl rfl rfl rfl ?_
  refine (zz_go 4 (fr' := (zm_D_famous, d + 2, 9, [some (.ref (194 : Nat)), some (.int (-1 : Int32)), some (.int (0 : Int32))], [])) (h' := (zt_T L, zt_R, (zz_up M 194 0 (0 : Int32)), J, e)) (fun _ => rfl)).trans ?_
  refine zf_forD (X := fun (i1 : Nat) (a1 : Int32) => zz_D (zm_D_famous, d + 2, 9, [some (.ref (194 : Nat)), some (.int a1), some (.int (Int32.ofNat i1))], []) (zt_T L, zt_R, (zz_up M 194 0 (0 : Int32)), J, e)) (f := (f_D_famous_1 M)) (a := (-1 : Int32)) (M 195 3).toNatClampNeg (fun i1 hi1 => ?_) ?_
  · intro hx1
    have k2 := k0 i1 hi1
    generalize zf_for i1 (f_D_famous_1 M) (-1 : Int32) = a1 at hx1 k2 ⊢
    show zz_D (zm_D_famous, d + 2, 9, [some (.ref (194 : Nat)), some (.int a1), some (.int (Int32.ofNat i1))], []) (zt_T L, zt_R, (zz_up M 194 0 (0 : Int32)), J, e) = _
    unfold kb_D_famous_1 at k2
    refine (zz_go 2 (fr' := (zm_D_famous, d + 2, 11, [some (.ref (194 : Nat)), some (.int a1), some (.int (Int32.ofNat i1))], [.ref (194 : Nat), .int (Int32.ofNat i1)])) (h' := (zt_T L, zt_R, (zz_up M 194 0 (0 : Int32)), J, e)) (fun _ => rfl)).trans ?_
    refine zl_getR (r := 195) rfl rfl rfl ?_
    refine (zz_go 1 (fr' := (zm_D_famous, d + 2, 15, [some (.ref (194 : Nat)), some (.int a1), some (.int (Int32.ofNat i1))], [.int (3 : Int32), .ref (195 : Nat), .int (Int32.ofNat i1)])) (h' := (zt_T L, zt_R, (zz_up M 194 0 (0 : Int32)), J, e)) (fun _ => rfl)).trans ?_
    refine zl_iaN (v := (M 195 3)) 3 rfl rfl (by decide) (by decide) ((zu_ne (rfl)).trans rfl) ?_
    refine zc_geF rfl (zi_lt hi1) ?_
    refine (zz_go 3 (fr' := (zm_D_famous, d + 2, 22, [some (.ref (194 : Nat)), some (.int a1), some (.int (Int32.ofNat i1))], [.int (5 : Int32), .int (Int32.ofNat i1), .ref (194 : Nat)])) (h' := (zt_T L, zt_R, (zz_up M 194 0 (0 : Int32)), J, e)) (fun _ => rfl)).trans ?_
    obtain ⟨g3, k4⟩ := k2
    refine zl_vt (d := d + 1) rfl rfl rfl rfl rfl rfl rfl rfl rfl rfl (s_D_of L e J (d + 0) (zz_up M 194 0 (0 : Int32)) (Int32.ofNat i1) (5 : Int32) g3) ?_
    show zz_D (zm_D_famous, d + 2, 25, [some (.ref (194 : Nat)), some (.int a1), some (.int (Int32.ofNat i1))], [.int (v_D_of (zz_up M 194 0 (0 : Int32)) (Int32.ofNat i1) (5 : Int32))]) (zt_T L, zt_R, (zz_up M 194 0 (0 : Int32)), J, e) = _
    refine zz_jn (X := zz_D (zm_D_famous, d + 2, 40, [some (.ref (194 : Nat)), some (.int a1), some (.int (Int32.ofNat i1))], [.int (bif (decide (a1 = (-1 : Int32))) then (0 : Int32) else (v_D_of (zz_up M 194 0 (0 : Int32)) a1 (5 : Int32))), .int (v_D_of (zz_up M 194 0 (0 : Int32)) (Int32.ofNat i1) (5 : Int32))]) (zt_T L, zt_R, (zz_up M 194 0 (0 : Int32)), J, e)) (fun j5 => ?_) ?_
    · refine (zz_go 2 (fr' := (zm_D_famous, d + 2, 27, [some (.ref (194 : Nat)), some (.int a1), some (.int (Int32.ofNat i1))], [.int (-1 : Int32), .int a1, .int (v_D_of (zz_up M 194 0 (0 : Int32)) (Int32.ofNat i1) (5 : Int32))])) (h' := (zt_T L, zt_R, (zz_up M 194 0 (0 : Int32)), J, e)) (fun _ => rfl)).trans ?_
      rcases zz_bc (decide (a1 = (-1 : Int32))) with h6 | h6
      · refine zc_neT rfl h6 ?_
        refine (zz_go 2 (fr' := (zm_D_famous, d + 2, 40, [some (.ref (194 : Nat)), some (.int a1), some (.int (Int32.ofNat i1))], [.int (0 : Int32), .int (v_D_of (zz_up M 194 0 (0 : Int32)) (Int32.ofNat i1) (5 : Int32))])) (h' := (zt_T L, zt_R, (zz_up M 194 0 (0 : Int32)), J, e)) (fun _ => rfl)).trans ?_
        simpa only [h6, zk_t, zk_f, zb_t, zb_f] using j5
      · refine zc_neF rfl h6 ?_
        have k7 := k4 h6
        refine (zz_go 3 (fr' := (zm_D_famous, d + 2, 37, [some (.ref (194 : Nat)), some (.int a1), some (.int (Int32.ofNat i1))], [.int (5 : Int32), .int a1, .ref (194 : Nat), .int (v_D_of (zz_up M 194 0 (0 : Int32)) (Int32.ofNat i1) (5 : Int32))])) (h' := (zt_T L, zt_R, (zz_up M 194 0 (0 : Int32)), J, e)) (fun _ => rfl)).trans ?_
        have g8 : ok_D_of (zz_up M 194 0 (0 : Int32)) a1 (5 : Int32) := k7
        refine zl_vt (d := d + 1) rfl rfl rfl rfl rfl rfl rfl rfl rfl rfl (s_D_of L e J (d + 0) (zz_up M 194 0 (0 : Int32)) a1 (5 : Int32) g8) ?_
        show zz_D (zm_D_famous, d + 2, 40, [some (.ref (194 : Nat)), some (.int a1), some (.int (Int32.ofNat i1))], [.int (v_D_of (zz_up M 194 0 (0 : Int32)) a1 (5 : Int32)), .int (v_D_of (zz_up M 194 0 (0 : Int32)) (Int32.ofNat i1) (5 : Int32))]) (zt_T L, zt_R, (zz_up M 194 0 (0 : Int32)), J, e) = _
        simpa only [h6, zk_t, zk_f, zb_t, zb_f] using j5
    refine zz_jn (X := zz_D (zm_D_famous, d + 2, 45, [some (.ref (194 : Nat)), some (.int (bif (decide ((v_D_of (zz_up M 194 0 (0 : Int32)) (Int32.ofNat i1) (5 : Int32)) ≤ (bif (decide (a1 = (-1 : Int32))) then (0 : Int32) else (v_D_of (zz_up M 194 0 (0 : Int32)) a1 (5 : Int32))))) then a1 else (Int32.ofNat i1))), some (.int (Int32.ofNat i1))], []) (zt_T L, zt_R, (zz_up M 194 0 (0 : Int32)), J, e)) (fun j9 => ?_) ?_
    · rcases zz_bc (decide ((v_D_of (zz_up M 194 0 (0 : Int32)) (Int32.ofNat i1) (5 : Int32)) ≤ (bif (decide (a1 = (-1 : Int32))) then (0 : Int32) else (v_D_of (zz_up M 194 0 (0 : Int32)) a1 (5 : Int32))))) with h10 | h10
      · refine zc_leT rfl h10 ?_
        simpa only [h10, zk_t, zk_f, zb_t, zb_f] using j9
      · refine zc_leF rfl h10 ?_
        refine (zz_go 2 (fr' := (zm_D_famous, d + 2, 45, [some (.ref (194 : Nat)), some (.int (Int32.ofNat i1)), some (.int (Int32.ofNat i1))], [])) (h' := (zt_T L, zt_R, (zz_up M 194 0 (0 : Int32)), J, e)) (fun _ => rfl)).trans ?_
        simpa only [h10, zk_t, zk_f, zb_t, zb_f] using j9
    refine (zz_go 2 (fr' := (zm_D_famous, d + 2, 9, [some (.ref (194 : Nat)), some (.int (bif (decide ((v_D_of (zz_up M 194 0 (0 : Int32)) (Int32.ofNat i1) (5 : Int32)) ≤ (bif (decide (a1 = (-1 : Int32))) then (0 : Int32) else (v_D_of (zz_up M 194 0 (0 : Int32)) a1 (5 : Int32))))) then a1 else (Int32.ofNat i1))), some (.int (Int32.ofNat i1 + 1))], [])) (h' := (zt_T L, zt_R, (zz_up M 194 0 (0 : Int32)), J, e)) (fun _ => rfl)).trans ?_
    rw [zi_succ i1]
    simpa only [f_D_famous_1] using hx1
  show zz_D (zm_D_famous, d + 2, 9, [some (.ref (194 : Nat)), some (.int (zf_for (M 195 3).toNatClampNeg (f_D_famous_1 M) (-1 : Int32))), some (.int (Int32.ofNat (M 195 3).toNatClampNeg))], []) (zt_T L, zt_R, (zz_up M 194 0 (0 : Int32)), J, e) = _
  refine (zz_go 2 (fr' := (zm_D_famous, d + 2, 11, [some (.ref (194 : Nat)), some (.int (zf_for (M 195 3).toNatClampNeg (f_D_famous_1 M) (-1 : Int32))), some (.int (Int32.ofNat (M 195 3).toNatClampNeg))], [.ref (194 : Nat), .int (Int32.ofNat (M 195 3).toNatClampNeg)])) (h' := (zt_T L, zt_R, (zz_up M 194 0 (0 : Int32)), J, e)) (fun _ => rfl)).trans ?_
  refine zl_getR (r := 195) rfl rfl rfl ?_
  refine (zz_go 1 (fr' := (zm_D_famous, d + 2, 15, [some (.ref (194 : Nat)), some (.int (zf_for (M 195 3).toNatClampNeg (f_D_famous_1 M) (-1 : Int32))), some (.int (Int32.ofNat (M 195 3).toNatClampNeg))], [.int (3 : Int32), .ref (195 : Nat), .int (Int32.ofNat (M 195 3).toNatClampNeg)])) (h' := (zt_T L, zt_R, (zz_up M 194 0 (0 : Int32)), J, e)) (fun _ => rfl)).trans ?_
  refine zl_iaN (v := (M 195 3)) 3 rfl rfl (by decide) (by decide) ((zu_ne (rfl)).trans rfl) ?_
  refine zc_geT rfl (zi_ge _) ?_
  refine zz_weak (L := [none, some (.int (zf_for (M 195 3).toNatClampNeg (f_D_famous_1 M) (-1 : Int32))), none]) ⟨Or.inr ⟨rfl, rfl⟩, Or.inl rfl, Or.inr ⟨rfl, rfl⟩, trivial⟩ ?_
  refine (zz_go 1 (fr' := (zm_D_famous, d + 2, 52, [none, some (.int (zf_for (M 195 3).toNatClampNeg (f_D_famous_1 M) (-1 : Int32))), none], [.int (zf_for (M 195 3).toNatClampNeg (f_D_famous_1 M) (-1 : Int32))])) (h' := (zt_T L, zt_R, (zz_up M 194 0 (0 : Int32)), J, e)) (fun _ => rfl)).trans ?_
  refine zl_retI rfl rfl ?_
  rfl
def g_D_twins_2 (M : zMem) (i1 : Nat) (a1 : Int32) (i2 : Nat) (a2 : Int32 × Int32) : Bool × (Int32 × Int32) := ((bif (decide ((M 195 3) ≤ a2.2)) then false else true), ((bif (decide ((M 195 3) ≤ a2.2)) then a2.1 else (a2.1 + (zb (decide ((v_D_of (zz_up M 194 0 (0 : Int32)) (Int32.ofNat i1) (0 : Int32)) = (v_D_of (zz_up M 194 0 (0 : Int32)) a2.2 (0 : Int32))))))), (bif (decide ((M 195 3) ≤ a2.2)) then a2.2 else (a2.2 + (1 : Int32)))))
def kb_D_twins_2 (M : zMem) (i1 : Nat) (a1 : Int32) (i2 : Nat) (a2 : Int32 × Int32) : Prop := ((decide ((M 195 3) ≤ a2.2)) = false → (ok_D_of (zz_up M 194 0 (0 : Int32)) (Int32.ofNat i1) (0 : Int32) ∧ ok_D_of (zz_up M 194 0 (0 : Int32)) a2.2 (0 : Int32)))
def f_D_twins_1 (M : zMem) (i1 : Nat) (a1 : Int32) : Int32 := (zf_wh 1000 (g_D_twins_2 M i1 a1) 0 (a1, ((Int32.ofNat i1) + (1 : Int32)))).1
def kb_D_twins_1 (M : zMem) (i1 : Nat) (a1 : Int32) : Prop := (zf_wk 1000 (g_D_twins_2 M i1 a1) (kb_D_twins_2 M i1 a1) 0 (a1, ((Int32.ofNat i1) + (1 : Int32))))
def v_D_twins (M : zMem) : Int32 := (zf_for (M 195 3).toNatClampNeg (f_D_twins_1 M) (0 : Int32))
def w_D_twins (M : zMem) : zMem := (zz_up M 194 0 (0 : Int32))
def ok_D_twins (M : zMem) : Prop := (∀ i1, i1 < (M 195 3).toNatClampNeg → kb_D_twins_1 M i1 (zf_for i1 (f_D_twins_1 M) (0 : Int32)))
set_option maxRecDepth 20000 in
set_option maxHeartbeats 2000000 in
theorem s_D_twins (L e : Nat) (J : zJem) (d : Nat) (M : zMem) (k0 : ok_D_twins M) : zz_D (zm_D_twins, d + 2, 0, [some (.ref (194 : Nat)), none, none, none], []) (zt_T L, zt_R, M, J, e) = some (.inl (some (.int (v_D_twins M))), (zt_T L, zt_R, (w_D_twins M), J, e)) := by
  unfold ok_D_twins at k0
  unfold v_D_twins w_D_twins
  refine (zz_go 2 (fr' := (zm_D_twins, d + 2, 2, [some (.ref (194 : Nat)), none, none, none], [.int (0 : Int32), .ref (194 : Nat)])) (h' := (zt_T L, zt_R, M, J, e)) (fun _ => rfl)).trans ?_
  refine zl_putI rfl rfl rfl rfl ?_
  refine (zz_go 4 (fr' := (zm_D_twins, d + 2, 9, [some (.ref (194 : Nat)), some (.int (0 : Int32)), some (.int (0 : Int32)), none], [])) (h' := (zt_T L, zt_R, (zz_up M 194 0 (0 : Int32)), J, e)) (fun _ => rfl)).trans ?_
  refine zf_forD (X := fun (i1 : Nat) (a1 : Int32) => zz_D (zm_D_twins, d + 2, 9, [some (.ref (194 : Nat)), some (.int a1), some (.int (Int32.ofNat i1)), none], []) (zt_T L, zt_R, (zz_up M 194 0 (0 : Int32)), J, e)) (f := (f_D_twins_1 M)) (a := (0 : Int32)) (M 195 3).toNatClampNeg (fun i1 hi1 => ?_) ?_
  · intro hx1
    have k2 := k0 i1 hi1
    generalize zf_for i1 (f_D_twins_1 M) (0 : Int32) = a1 at hx1 k2 ⊢
    show zz_D (zm_D_twins, d + 2, 9, [some (.ref (194 : Nat)), some (.int a1), some (.int (Int32.ofNat i1)), none], []) (zt_T L, zt_R, (zz_up M 194 0 (0 : Int32)), J, e) = _
    unfold kb_D_twins_1 at k2
    refine (zz_go 2 (fr' := (zm_D_twins, d + 2, 11, [some (.ref (194 : Nat)), some (.int a1), some (.int (Int32.ofNat i1)), none], [.ref (194 : Nat), .int (Int32.ofNat i1)])) (h' := (zt_T L, zt_R, (zz_up M 194 0 (0 : Int32)), J, e)) (fun _ => rfl)).trans ?_
    refine zl_getR (r := 195) rfl rfl rfl ?_
    refine (zz_go 1 (fr' := (zm_D_twins, d + 2, 15, [some (.ref (194 : Nat)), some (.int a1), some (.int (Int32.ofNat i1)), none], [.int (3 : Int32), .ref (195 : Nat), .int (Int32.ofNat i1)])) (h' := (zt_T L, zt_R, (zz_up M 194 0 (0 : Int32)), J, e)) (fun _ => rfl)).trans ?_
    refine zl_iaN (v := (M 195 3)) 3 rfl rfl (by decide) (by decide) ((zu_ne (rfl)).trans rfl) ?_
    refine zc_geF rfl (zi_lt hi1) ?_
    refine (zz_go 4 (fr' := (zm_D_twins, d + 2, 23, [some (.ref (194 : Nat)), some (.int a1), some (.int (Int32.ofNat i1)), some (.int ((Int32.ofNat i1) + (1 : Int32)))], [])) (h' := (zt_T L, zt_R, (zz_up M 194 0 (0 : Int32)), J, e)) (fun _ => rfl)).trans ?_
    refine zf_whY (X := fun (i2 : Nat) (a2 : Int32 × Int32) => zz_D (zm_D_twins, d + 2, 23, [some (.ref (194 : Nat)), some (.int a2.1), some (.int (Int32.ofNat i1)), some (.int a2.2)], []) (zt_T L, zt_R, (zz_up M 194 0 (0 : Int32)), J, e)) (Y := fun (a2 : Int32 × Int32) => zz_D (zm_D_twins, d + 2, 62, [some (.ref (194 : Nat)), some (.int a2.1), some (.int (Int32.ofNat i1)), none], []) (zt_T L, zt_R, (zz_up M 194 0 (0 : Int32)), J, e)) (g := (g_D_twins_2 M i1 a1)) (k := (kb_D_twins_2 M i1 a1)) (fun i2 a2 k5 hx3 hx4 => ?_) 1000 0 (a1, ((Int32.ofNat i1) + (1 : Int32))) k2 ?_
    · show zz_D (zm_D_twins, d + 2, 23, [some (.ref (194 : Nat)), some (.int a2.1), some (.int (Int32.ofNat i1)), some (.int a2.2)], []) (zt_T L, zt_R, (zz_up M 194 0 (0 : Int32)), J, e) = _
      unfold kb_D_twins_2 at k5
      refine (zz_go 2 (fr' := (zm_D_twins, d + 2, 25, [some (.ref (194 : Nat)), some (.int a2.1), some (.int (Int32.ofNat i1)), some (.int a2.2)], [.ref (194 : Nat), .int a2.2])) (h' := (zt_T L, zt_R, (zz_up M 194 0 (0 : Int32)), J, e)) (fun _ => rfl)).trans ?_
      refine zl_getR (r := 195) rfl rfl rfl ?_
      refine (zz_go 1 (fr' := (zm_D_twins, d + 2, 29, [some (.ref (194 : Nat)), some (.int a2.1), some (.int (Int32.ofNat i1)), some (.int a2.2)], [.int (3 : Int32), .ref (195 : Nat), .int a2.2])) (h' := (zt_T L, zt_R, (zz_up M 194 0 (0 : Int32)), J, e)) (fun _ => rfl)).trans ?_
      refine zl_iaN (v := (M 195 3)) 3 rfl rfl (by decide) (by decide) ((zu_ne (rfl)).trans rfl) ?_
      rcases zz_bc (decide ((M 195 3) ≤ a2.2)) with h6 | h6
      · refine zc_geT rfl h6 ?_
        refine zz_weak (L := [some (.ref (194 : Nat)), some (.int a2.1), some (.int (Int32.ofNat i1)), none]) ⟨Or.inl rfl, Or.inl rfl, Or.inl rfl, Or.inr ⟨rfl, rfl⟩, trivial⟩ ?_
        have y1 := hx4 (by simp only [g_D_twins_2, h6, zk_t, zk_f, zb_t, zb_f])
        simpa only [g_D_twins_2, h6, zk_t, zk_f, zb_t, zb_f] using y1
      · refine zc_geF rfl h6 ?_
        have k7 := k5 h6
        refine (zz_go 4 (fr' := (zm_D_twins, d + 2, 37, [some (.ref (194 : Nat)), some (.int a2.1), some (.int (Int32.ofNat i1)), some (.int a2.2)], [.int (0 : Int32), .int (Int32.ofNat i1), .ref (194 : Nat), .int a2.1])) (h' := (zt_T L, zt_R, (zz_up M 194 0 (0 : Int32)), J, e)) (fun _ => rfl)).trans ?_
        obtain ⟨g8, k9⟩ := k7
        refine zl_vt (d := d + 1) rfl rfl rfl rfl rfl rfl rfl rfl rfl rfl (s_D_of L e J (d + 0) (zz_up M 194 0 (0 : Int32)) (Int32.ofNat i1) (0 : Int32) g8) ?_
        show zz_D (zm_D_twins, d + 2, 40, [some (.ref (194 : Nat)), some (.int a2.1), some (.int (Int32.ofNat i1)), some (.int a2.2)], [.int (v_D_of (zz_up M 194 0 (0 : Int32)) (Int32.ofNat i1) (0 : Int32)), .int a2.1]) (zt_T L, zt_R, (zz_up M 194 0 (0 : Int32)), J, e) = _
        refine (zz_go 3 (fr' := (zm_D_twins, d + 2, 43, [some (.ref (194 : Nat)), some (.int a2.1), some (.int (Int32.ofNat i1)), some (.int a2.2)], [.int (0 : Int32), .int a2.2, .ref (194 : Nat), .int (v_D_of (zz_up M 194 0 (0 : Int32)) (Int32.ofNat i1) (0 : Int32)), .int a2.1])) (h' := (zt_T L, zt_R, (zz_up M 194 0 (0 : Int32)), J, e)) (fun _ => rfl)).trans ?_
        have g10 : ok_D_of (zz_up M 194 0 (0 : Int32)) a2.2 (0 : Int32) := k9
        refine zl_vt (d := d + 1) rfl rfl rfl rfl rfl rfl rfl rfl rfl rfl (s_D_of L e J (d + 0) (zz_up M 194 0 (0 : Int32)) a2.2 (0 : Int32) g10) ?_
        show zz_D (zm_D_twins, d + 2, 46, [some (.ref (194 : Nat)), some (.int a2.1), some (.int (Int32.ofNat i1)), some (.int a2.2)], [.int (v_D_of (zz_up M 194 0 (0 : Int32)) a2.2 (0 : Int32)), .int (v_D_of (zz_up M 194 0 (0 : Int32)) (Int32.ofNat i1) (0 : Int32)), .int a2.1]) (zt_T L, zt_R, (zz_up M 194 0 (0 : Int32)), J, e) = _
        refine zz_jn (X := zz_D (zm_D_twins, d + 2, 54, [some (.ref (194 : Nat)), none, some (.int (Int32.ofNat i1)), some (.int a2.2)], [.int (zb (decide ((v_D_of (zz_up M 194 0 (0 : Int32)) (Int32.ofNat i1) (0 : Int32)) = (v_D_of (zz_up M 194 0 (0 : Int32)) a2.2 (0 : Int32))))), .int a2.1]) (zt_T L, zt_R, (zz_up M 194 0 (0 : Int32)), J, e)) (fun j11 => ?_) ?_
        · rcases zz_bc (decide ((v_D_of (zz_up M 194 0 (0 : Int32)) (Int32.ofNat i1) (0 : Int32)) = (v_D_of (zz_up M 194 0 (0 : Int32)) a2.2 (0 : Int32)))) with h12 | h12
          · refine zc_neT rfl h12 ?_
            refine (zz_go 2 (fr' := (zm_D_twins, d + 2, 54, [some (.ref (194 : Nat)), some (.int a2.1), some (.int (Int32.ofNat i1)), some (.int a2.2)], [.int (1 : Int32), .int a2.1])) (h' := (zt_T L, zt_R, (zz_up M 194 0 (0 : Int32)), J, e)) (fun _ => rfl)).trans ?_
            refine zz_weak (L := [some (.ref (194 : Nat)), none, some (.int (Int32.ofNat i1)), some (.int a2.2)]) ⟨Or.inl rfl, Or.inr ⟨rfl, rfl⟩, Or.inl rfl, Or.inl rfl, trivial⟩ ?_
            simpa only [h12, zk_t, zk_f, zb_t, zb_f] using j11
          · refine zc_neF rfl h12 ?_
            refine (zz_go 1 (fr' := (zm_D_twins, d + 2, 54, [some (.ref (194 : Nat)), some (.int a2.1), some (.int (Int32.ofNat i1)), some (.int a2.2)], [.int (0 : Int32), .int a2.1])) (h' := (zt_T L, zt_R, (zz_up M 194 0 (0 : Int32)), J, e)) (fun _ => rfl)).trans ?_
            refine zz_weak (L := [some (.ref (194 : Nat)), none, some (.int (Int32.ofNat i1)), some (.int a2.2)]) ⟨Or.inl rfl, Or.inr ⟨rfl, rfl⟩, Or.inl rfl, Or.inl rfl, trivial⟩ ?_
            simpa only [h12, zk_t, zk_f, zb_t, zb_f] using j11
        refine (zz_go 4 (fr' := (zm_D_twins, d + 2, 23, [some (.ref (194 : Nat)), some (.int (a2.1 + (zb (decide ((v_D_of (zz_up M 194 0 (0 : Int32)) (Int32.ofNat i1) (0 : Int32)) = (v_D_of (zz_up M 194 0 (0 : Int32)) a2.2 (0 : Int32))))))), some (.int (Int32.ofNat i1)), some (.int (a2.2 + (1 : Int32)))], [])) (h' := (zt_T L, zt_R, (zz_up M 194 0 (0 : Int32)), J, e)) (fun _ => rfl)).trans ?_
        have y1 := hx3 (by simp only [g_D_twins_2, h6, zk_t, zk_f, zb_t, zb_f])
        simpa only [g_D_twins_2, h6, zk_t, zk_f, zb_t, zb_f] using y1
    show zz_D (zm_D_twins, d + 2, 62, [some (.ref (194 : Nat)), some (.int (zf_wh 1000 (g_D_twins_2 M i1 a1) 0 (a1, ((Int32.ofNat i1) + (1 : Int32)))).1), some (.int (Int32.ofNat i1)), none], []) (zt_T L, zt_R, (zz_up M 194 0 (0 : Int32)), J, e) = _
    refine (zz_go 2 (fr' := (zm_D_twins, d + 2, 9, [some (.ref (194 : Nat)), some (.int (zf_wh 1000 (g_D_twins_2 M i1 a1) 0 (a1, ((Int32.ofNat i1) + (1 : Int32)))).1), some (.int (Int32.ofNat i1 + 1)), none], [])) (h' := (zt_T L, zt_R, (zz_up M 194 0 (0 : Int32)), J, e)) (fun _ => rfl)).trans ?_
    refine (congrArg (fun (cc : Int32) => zz_D (zm_D_twins, d + 2, 9, [some (.ref (194 : Nat)), some (.int (zf_wh 1000 (g_D_twins_2 M i1 a1) 0 (a1, ((Int32.ofNat i1) + (1 : Int32)))).1), some (.int cc), none], []) (zt_T L, zt_R, (zz_up M 194 0 (0 : Int32)), J, e)) (zi_succ i1)).trans ?_
    exact hx1
  show zz_D (zm_D_twins, d + 2, 9, [some (.ref (194 : Nat)), some (.int (zf_for (M 195 3).toNatClampNeg (f_D_twins_1 M) (0 : Int32))), some (.int (Int32.ofNat (M 195 3).toNatClampNeg)), none], []) (zt_T L, zt_R, (zz_up M 194 0 (0 : Int32)), J, e) = _
  refine (zz_go 2 (fr' := (zm_D_twins, d + 2, 11, [some (.ref (194 : Nat)), some (.int (zf_for (M 195 3).toNatClampNeg (f_D_twins_1 M) (0 : Int32))), some (.int (Int32.ofNat (M 195 3).toNatClampNeg)), none], [.ref (194 : Nat), .int (Int32.ofNat (M 195 3).toNatClampNeg)])) (h' := (zt_T L, zt_R, (zz_up M 194 0 (0 : Int32)), J, e)) (fun _ => rfl)).trans ?_
  refine zl_getR (r := 195) rfl rfl rfl ?_
  refine (zz_go 1 (fr' := (zm_D_twins, d + 2, 15, [some (.ref (194 : Nat)), some (.int (zf_for (M 195 3).toNatClampNeg (f_D_twins_1 M) (0 : Int32))), some (.int (Int32.ofNat (M 195 3).toNatClampNeg)), none], [.int (3 : Int32), .ref (195 : Nat), .int (Int32.ofNat (M 195 3).toNatClampNeg)])) (h' := (zt_T L, zt_R, (zz_up M 194 0 (0 : Int32)), J, e)) (fun _ => rfl)).trans ?_
  refine zl_iaN (v := (M 195 3)) 3 rfl rfl (by decide) (by decide) ((zu_ne (rfl)).trans rfl) ?_
  refine zc_geT rfl (zi_ge _) ?_
  refine zz_weak (L := [none, some (.int (zf_for (M 195 3).toNatClampNeg (f_D_twins_1 M) (0 : Int32))), none, none]) ⟨Or.inr ⟨rfl, rfl⟩, Or.inl rfl, Or.inr ⟨rfl, rfl⟩, Or.inl rfl, trivial⟩ ?_
  refine (zz_go 1 (fr' := (zm_D_twins, d + 2, 69, [none, some (.int (zf_for (M 195 3).toNatClampNeg (f_D_twins_1 M) (0 : Int32))), none, none], [.int (zf_for (M 195 3).toNatClampNeg (f_D_twins_1 M) (0 : Int32))])) (h' := (zt_T L, zt_R, (zz_up M 194 0 (0 : Int32)), J, e)) (fun _ => rfl)).trans ?_
  refine zl_retI rfl rfl ?_
  rfl
def v_D_tellers (M : zMem) (x0 : Int32) : Int32 := (bif (decide ((zb (bif (v_D_isIn x0 (0 : Int32) (7 : Int32)) then false else true)) ≤ 0)) then (v_D_tellersOf (zz_up M 194 0 (zb (bif (v_D_isIn x0 (0 : Int32) (7 : Int32)) then false else true))) x0) else (0 : Int32))
def w_D_tellers (M : zMem) (x0 : Int32) : zMem := (zz_up M 194 0 (zb (bif (v_D_isIn x0 (0 : Int32) (7 : Int32)) then false else true)))
def ok_D_tellers (M : zMem) (x0 : Int32) : Prop := ((decide ((zb (bif (v_D_isIn x0 (0 : Int32) (7 : Int32)) then false else true)) ≤ 0)) = true → ok_D_tellersOf (zz_up M 194 0 (zb (bif (v_D_isIn x0 (0 : Int32) (7 : Int32)) then false else true))) x0)
set_option maxRecDepth 20000 in
set_option maxHeartbeats 2000000 in
theorem s_D_tellers (L e : Nat) (J : zJem) (d : Nat) (M : zMem) (x0 : Int32) (k0 : ok_D_tellers M x0) : zz_D (zm_D_tellers, d + 3, 0, [some (.ref (194 : Nat)), some (.int x0)], []) (zt_T L, zt_R, M, J, e) = some (.inl (some (.int (v_D_tellers M x0))), (zt_T L, zt_R, (w_D_tellers M x0), J, e)) := by
  unfold ok_D_tellers at k0
  unfold v_D_tellers w_D_tellers
  refine (zz_go 4 (fr' := (zm_D_tellers, d + 3, 5, [some (.ref (194 : Nat)), some (.int x0)], [.int (7 : Int32), .int (0 : Int32), .int x0, .ref (194 : Nat)])) (h' := (zt_T L, zt_R, M, J, e)) (fun _ => rfl)).trans ?_
  refine zl_st (d := d + 2) rfl rfl rfl rfl rfl rfl rfl (s_D_isIn L e J (d + 1) x0 (0 : Int32) (7 : Int32)) ?_
  show zz_D (zm_D_tellers, d + 3, 8, [some (.ref (194 : Nat)), some (.int x0)], [.int (zb (v_D_isIn x0 (0 : Int32) (7 : Int32))), .ref (194 : Nat)]) (zt_T L, zt_R, M, J, e) = _
  refine zz_jn (X := zz_D (zm_D_tellers, d + 3, 16, [some (.ref (194 : Nat)), some (.int x0)], [.int (zb (bif (v_D_isIn x0 (0 : Int32) (7 : Int32)) then false else true)), .ref (194 : Nat)]) (zt_T L, zt_R, M, J, e)) (fun j1 => ?_) ?_
  · rcases zz_bc (v_D_isIn x0 (0 : Int32) (7 : Int32)) with h2 | h2
    · refine zq_fT rfl h2 ?_
      refine (zz_go 1 (fr' := (zm_D_tellers, d + 3, 16, [some (.ref (194 : Nat)), some (.int x0)], [.int (0 : Int32), .ref (194 : Nat)])) (h' := (zt_T L, zt_R, M, J, e)) (fun _ => rfl)).trans ?_
      simpa only [h2, zk_t, zk_f, zb_t, zb_f] using j1
    · refine zq_fF rfl h2 ?_
      refine (zz_go 2 (fr' := (zm_D_tellers, d + 3, 16, [some (.ref (194 : Nat)), some (.int x0)], [.int (1 : Int32), .ref (194 : Nat)])) (h' := (zt_T L, zt_R, M, J, e)) (fun _ => rfl)).trans ?_
      simpa only [h2, zk_t, zk_f, zb_t, zb_f] using j1
  refine zl_putI rfl rfl rfl rfl ?_
  refine (zz_go 1 (fr' := (zm_D_tellers, d + 3, 20, [some (.ref (194 : Nat)), some (.int x0)], [.ref (194 : Nat)])) (h' := (zt_T L, zt_R, (zz_up M 194 0 (zb (bif (v_D_isIn x0 (0 : Int32) (7 : Int32)) then false else true))), J, e)) (fun _ => rfl)).trans ?_
  refine zl_getI rfl (by decide) rfl zu_eq ?_
  refine zz_jn (X := zz_D (zm_D_tellers, d + 3, 35, [none, none], [.int (bif (decide ((zb (bif (v_D_isIn x0 (0 : Int32) (7 : Int32)) then false else true)) ≤ 0)) then (v_D_tellersOf (zz_up M 194 0 (zb (bif (v_D_isIn x0 (0 : Int32) (7 : Int32)) then false else true))) x0) else (0 : Int32))]) (zt_T L, zt_R, (zz_up M 194 0 (zb (bif (v_D_isIn x0 (0 : Int32) (7 : Int32)) then false else true))), J, e)) (fun j3 => ?_) ?_
  · rcases zz_bc (decide ((zb (bif (v_D_isIn x0 (0 : Int32) (7 : Int32)) then false else true)) ≤ 0)) with h4 | h4
    · refine zo_leT rfl h4 ?_
      have k5 := k0 h4
      refine (zz_go 2 (fr' := (zm_D_tellers, d + 3, 32, [some (.ref (194 : Nat)), some (.int x0)], [.int x0, .ref (194 : Nat)])) (h' := (zt_T L, zt_R, (zz_up M 194 0 (zb (bif (v_D_isIn x0 (0 : Int32) (7 : Int32)) then false else true))), J, e)) (fun _ => rfl)).trans ?_
      have g6 : ok_D_tellersOf (zz_up M 194 0 (zb (bif (v_D_isIn x0 (0 : Int32) (7 : Int32)) then false else true))) x0 := k5
      refine zl_vt (d := d + 2) rfl rfl rfl rfl rfl rfl rfl rfl rfl rfl (s_D_tellersOf L e J (d + 0) (zz_up M 194 0 (zb (bif (v_D_isIn x0 (0 : Int32) (7 : Int32)) then false else true))) x0 g6) ?_
      show zz_D (zm_D_tellers, d + 3, 35, [some (.ref (194 : Nat)), some (.int x0)], [.int (v_D_tellersOf (zz_up M 194 0 (zb (bif (v_D_isIn x0 (0 : Int32) (7 : Int32)) then false else true))) x0)]) (zt_T L, zt_R, (zz_up M 194 0 (zb (bif (v_D_isIn x0 (0 : Int32) (7 : Int32)) then false else true))), J, e) = _
      refine zz_weak (L := [none, none]) ⟨Or.inr ⟨rfl, rfl⟩, Or.inr ⟨rfl, rfl⟩, trivial⟩ ?_
      simpa only [h4, zk_t, zk_f, zb_t, zb_f] using j3
    · refine zo_leF rfl h4 ?_
      refine (zz_go 2 (fr' := (zm_D_tellers, d + 3, 35, [some (.ref (194 : Nat)), some (.int x0)], [.int (0 : Int32)])) (h' := (zt_T L, zt_R, (zz_up M 194 0 (zb (bif (v_D_isIn x0 (0 : Int32) (7 : Int32)) then false else true))), J, e)) (fun _ => rfl)).trans ?_
      refine zz_weak (L := [none, none]) ⟨Or.inr ⟨rfl, rfl⟩, Or.inr ⟨rfl, rfl⟩, trivial⟩ ?_
      simpa only [h4, zk_t, zk_f, zb_t, zb_f] using j3
  refine zl_retI rfl rfl ?_
  rfl
def v_D_logged (M : zMem) (x0 : Int32) (x1 : Int32) : Int32 := (M 195 (((69 : Int32) + ((4 : Int32) * x0)) + x1).toNatClampNeg)
def ok_D_logged (M : zMem) (x0 : Int32) (x1 : Int32) : Prop := zz_in (((69 : Int32) + ((4 : Int32) * x0)) + x1) 709 = true
set_option maxRecDepth 20000 in
set_option maxHeartbeats 2000000 in
theorem s_D_logged (L e : Nat) (J : zJem) (d : Nat) (M : zMem) (x0 : Int32) (x1 : Int32) (k0 : ok_D_logged M x0 x1) : zz_D (zm_D_logged, d + 1, 0, [some (.ref (194 : Nat)), some (.int x0), some (.int x1)], []) (zt_T L, zt_R, M, J, e) = some (.inl (some (.int (v_D_logged M x0 x1))), (zt_T L, zt_R, M, J, e)) := by
  unfold ok_D_logged at k0
  unfold v_D_logged
  refine (zz_go 1 (fr' := (zm_D_logged, d + 1, 1, [some (.ref (194 : Nat)), some (.int x0), some (.int x1)], [.ref (194 : Nat)])) (h' := (zt_T L, zt_R, M, J, e)) (fun _ => rfl)).trans ?_
  refine zl_getR (r := 195) rfl rfl rfl ?_
  refine (zz_go 7 (fr' := (zm_D_logged, d + 1, 12, [some (.ref (194 : Nat)), some (.int x0), some (.int x1)], [.int (((69 : Int32) + ((4 : Int32) * x0)) + x1), .ref (195 : Nat)])) (h' := (zt_T L, zt_R, M, J, e)) (fun _ => rfl)).trans ?_
  have g1 : zz_in (((69 : Int32) + ((4 : Int32) * x0)) + x1) 709 = true := k0
  refine zl_iaN (v := (M 195 (((69 : Int32) + ((4 : Int32) * x0)) + x1).toNatClampNeg)) (((69 : Int32) + ((4 : Int32) * x0)) + x1).toNatClampNeg rfl rfl g1 rfl rfl ?_
  refine zl_retI rfl rfl ?_
  rfl
def g_D_led_1 (M : zMem) (x0 : Int32) (b1 : Bool) (i1 : Nat) (a1 : Int32 × Int32 × Int32) : Bool × (Int32 × Int32 × Int32) := ((bif (decide (a1.2.2 < 0)) then false else true), ((bif (decide (a1.2.2 < 0)) then a1.1 else (bif (decide ((v_D_logged (zz_up M 194 0 (zb (bif (v_D_isOne M x0) then false else true))) a1.2.2 (1 : Int32)) = x0)) then (a1.1 + (1 : Int32)) else a1.1)), (bif (decide (a1.2.2 < 0)) then a1.2.1 else (bif (decide ((v_D_logged (zz_up M 194 0 (zb (bif (v_D_isOne M x0) then false else true))) a1.2.2 (1 : Int32)) = x0)) then (v_D_logged (zz_up M 194 0 (zb (bif (v_D_isOne M x0) then false else true))) a1.2.2 (0 : Int32)) else a1.2.1)), (bif (decide (a1.2.2 < 0)) then a1.2.2 else (a1.2.2 + (-1 : Int32)))))
def kb_D_led_1 (M : zMem) (x0 : Int32) (b1 : Bool) (i1 : Nat) (a1 : Int32 × Int32 × Int32) : Prop := ((decide (a1.2.2 < 0)) = false → (ok_D_logged (zz_up M 194 0 (zb (bif (v_D_isOne M x0) then false else true))) a1.2.2 (1 : Int32) ∧ ((decide ((v_D_logged (zz_up M 194 0 (zb (bif (v_D_isOne M x0) then false else true))) a1.2.2 (1 : Int32)) = x0)) = true → ok_D_logged (zz_up M 194 0 (zb (bif (v_D_isOne M x0) then false else true))) a1.2.2 (0 : Int32))))
def v_D_led (M : zMem) (x0 : Int32) (b1 : Bool) : Int32 := (bif (decide ((zb (bif (v_D_isOne M x0) then false else true)) ≤ 0)) then (bif b1 then (zf_wh 1000 (g_D_led_1 M x0 b1) 0 ((0 : Int32), (-1 : Int32), ((M 195 7) - (1 : Int32)))).2.1 else (zf_wh 1000 (g_D_led_1 M x0 b1) 0 ((0 : Int32), (-1 : Int32), ((M 195 7) - (1 : Int32)))).1) else (0 : Int32))
def w_D_led (M : zMem) (x0 : Int32) (b1 : Bool) : zMem := (zz_up M 194 0 (zb (bif (v_D_isOne M x0) then false else true)))
def ok_D_led (M : zMem) (x0 : Int32) (b1 : Bool) : Prop := ((decide ((zb (bif (v_D_isOne M x0) then false else true)) ≤ 0)) = true → (zf_wk 1000 (g_D_led_1 M x0 b1) (kb_D_led_1 M x0 b1) 0 ((0 : Int32), (-1 : Int32), ((M 195 7) - (1 : Int32)))))
set_option maxRecDepth 20000 in
set_option maxHeartbeats 2000000 in
theorem s_D_led (L e : Nat) (J : zJem) (d : Nat) (M : zMem) (x0 : Int32) (b1 : Bool) (k0 : ok_D_led M x0 b1) : zz_D (zm_D_led, d + 3, 0, [some (.ref (194 : Nat)), some (.int x0), some (.int (zb b1)), none, none, none], []) (zt_T L, zt_R, M, J, e) = some (.inl (some (.int (v_D_led M x0 b1))), (zt_T L, zt_R, (w_D_led M x0 b1), J, e)) := by
  unfold ok_D_led at k0
  unfold v_D_led w_D_led
  refine (zz_go 3 (fr' := (zm_D_led, d + 3, 3, [some (.ref (194 : Nat)), some (.int x0), some (.int (zb b1)), none, none, none], [.int x0, .ref (194 : Nat), .ref (194 : Nat)])) (h' := (zt_T L, zt_R, M, J, e)) (fun _ => rfl)).trans ?_
  refine zl_vt (d := d + 2) rfl rfl rfl rfl rfl rfl rfl rfl rfl rfl (s_D_isOne L e J (d + 0) M x0) ?_
  show zz_D (zm_D_led, d + 3, 6, [some (.ref (194 : Nat)), some (.int x0), some (.int (zb b1)), none, none, none], [.int (zb (v_D_isOne M x0)), .ref (194 : Nat)]) (zt_T L, zt_R, M, J, e) = _
  refine zz_jn (X := zz_D (zm_D_led, d + 3, 14, [some (.ref (194 : Nat)), some (.int x0), some (.int (zb b1)), none, none, none], [.int (zb (bif (v_D_isOne M x0) then false else true)), .ref (194 : Nat)]) (zt_T L, zt_R, M, J, e)) (fun j1 => ?_) ?_
  · rcases zz_bc (v_D_isOne M x0) with h2 | h2
    · refine zq_fT rfl h2 ?_
      refine (zz_go 1 (fr' := (zm_D_led, d + 3, 14, [some (.ref (194 : Nat)), some (.int x0), some (.int (zb b1)), none, none, none], [.int (0 : Int32), .ref (194 : Nat)])) (h' := (zt_T L, zt_R, M, J, e)) (fun _ => rfl)).trans ?_
      simpa only [h2, zk_t, zk_f, zb_t, zb_f] using j1
    · refine zq_fF rfl h2 ?_
      refine (zz_go 2 (fr' := (zm_D_led, d + 3, 14, [some (.ref (194 : Nat)), some (.int x0), some (.int (zb b1)), none, none, none], [.int (1 : Int32), .ref (194 : Nat)])) (h' := (zt_T L, zt_R, M, J, e)) (fun _ => rfl)).trans ?_
      simpa only [h2, zk_t, zk_f, zb_t, zb_f] using j1
  refine zl_putI rfl rfl rfl rfl ?_
  refine (zz_go 1 (fr' := (zm_D_led, d + 3, 18, [some (.ref (194 : Nat)), some (.int x0), some (.int (zb b1)), none, none, none], [.ref (194 : Nat)])) (h' := (zt_T L, zt_R, (zz_up M 194 0 (zb (bif (v_D_isOne M x0) then false else true))), J, e)) (fun _ => rfl)).trans ?_
  refine zl_getI rfl (by decide) rfl zu_eq ?_
  rcases zz_bc (decide ((zb (bif (v_D_isOne M x0) then false else true)) ≤ 0)) with h3 | h3
  · refine zo_leT rfl h3 ?_
    have k4 := k0 h3
    refine (zz_go 5 (fr' := (zm_D_led, d + 3, 32, [some (.ref (194 : Nat)), some (.int x0), some (.int (zb b1)), some (.int (0 : Int32)), some (.int (-1 : Int32)), none], [.ref (194 : Nat)])) (h' := (zt_T L, zt_R, (zz_up M 194 0 (zb (bif (v_D_isOne M x0) then false else true))), J, e)) (fun _ => rfl)).trans ?_
    refine zl_getR (r := 195) rfl rfl rfl ?_
    refine (zz_go 1 (fr' := (zm_D_led, d + 3, 37, [some (.ref (194 : Nat)), some (.int x0), some (.int (zb b1)), some (.int (0 : Int32)), some (.int (-1 : Int32)), none], [.int (7 : Int32), .ref (195 : Nat)])) (h' := (zt_T L, zt_R, (zz_up M 194 0 (zb (bif (v_D_isOne M x0) then false else true))), J, e)) (fun _ => rfl)).trans ?_
    refine zl_iaN (v := (M 195 7)) 7 rfl rfl (by decide) (by decide) ((zu_ne (rfl)).trans rfl) ?_
    refine (zz_go 3 (fr' := (zm_D_led, d + 3, 42, [some (.ref (194 : Nat)), some (.int x0), some (.int (zb b1)), some (.int (0 : Int32)), some (.int (-1 : Int32)), some (.int ((M 195 7) - (1 : Int32)))], [])) (h' := (zt_T L, zt_R, (zz_up M 194 0 (zb (bif (v_D_isOne M x0) then false else true))), J, e)) (fun _ => rfl)).trans ?_
    refine zf_whY (X := fun (i1 : Nat) (a1 : Int32 × Int32 × Int32) => zz_D (zm_D_led, d + 3, 42, [some (.ref (194 : Nat)), some (.int x0), some (.int (zb b1)), some (.int a1.1), some (.int a1.2.1), some (.int a1.2.2)], []) (zt_T L, zt_R, (zz_up M 194 0 (zb (bif (v_D_isOne M x0) then false else true))), J, e)) (Y := fun (a1 : Int32 × Int32 × Int32) => zz_D (zm_D_led, d + 3, 79, [none, none, some (.int (zb b1)), some (.int a1.1), some (.int a1.2.1), none], []) (zt_T L, zt_R, (zz_up M 194 0 (zb (bif (v_D_isOne M x0) then false else true))), J, e)) (g := (g_D_led_1 M x0 b1)) (k := (kb_D_led_1 M x0 b1)) (fun i1 a1 k7 hx5 hx6 => ?_) 1000 0 ((0 : Int32), (-1 : Int32), ((M 195 7) - (1 : Int32))) k4 ?_
    · show zz_D (zm_D_led, d + 3, 42, [some (.ref (194 : Nat)), some (.int x0), some (.int (zb b1)), some (.int a1.1), some (.int a1.2.1), some (.int a1.2.2)], []) (zt_T L, zt_R, (zz_up M 194 0 (zb (bif (v_D_isOne M x0) then false else true))), J, e) = _
      unfold kb_D_led_1 at k7
      refine (zz_go 1 (fr' := (zm_D_led, d + 3, 44, [some (.ref (194 : Nat)), some (.int x0), some (.int (zb b1)), some (.int a1.1), some (.int a1.2.1), some (.int a1.2.2)], [.int a1.2.2])) (h' := (zt_T L, zt_R, (zz_up M 194 0 (zb (bif (v_D_isOne M x0) then false else true))), J, e)) (fun _ => rfl)).trans ?_
      rcases zz_bc (decide (a1.2.2 < 0)) with h8 | h8
      · refine zo_ltT rfl h8 ?_
        refine zz_weak (L := [none, none, some (.int (zb b1)), some (.int a1.1), some (.int a1.2.1), none]) ⟨Or.inr ⟨rfl, rfl⟩, Or.inr ⟨rfl, rfl⟩, Or.inl rfl, Or.inl rfl, Or.inl rfl, Or.inr ⟨rfl, rfl⟩, trivial⟩ ?_
        have y1 := hx6 (by simp only [g_D_led_1, h8, zk_t, zk_f, zb_t, zb_f])
        simpa only [g_D_led_1, h8, zk_t, zk_f, zb_t, zb_f] using y1
      · refine zo_ltF rfl h8 ?_
        have k9 := k7 h8
        refine (zz_go 3 (fr' := (zm_D_led, d + 3, 51, [some (.ref (194 : Nat)), some (.int x0), some (.int (zb b1)), some (.int a1.1), some (.int a1.2.1), some (.int a1.2.2)], [.int (1 : Int32), .int a1.2.2, .ref (194 : Nat)])) (h' := (zt_T L, zt_R, (zz_up M 194 0 (zb (bif (v_D_isOne M x0) then false else true))), J, e)) (fun _ => rfl)).trans ?_
        obtain ⟨g10, k11⟩ := k9
        refine zl_vt (d := d + 2) rfl rfl rfl rfl rfl rfl rfl rfl rfl rfl (s_D_logged L e J (d + 1) (zz_up M 194 0 (zb (bif (v_D_isOne M x0) then false else true))) a1.2.2 (1 : Int32) g10) ?_
        show zz_D (zm_D_led, d + 3, 54, [some (.ref (194 : Nat)), some (.int x0), some (.int (zb b1)), some (.int a1.1), some (.int a1.2.1), some (.int a1.2.2)], [.int (v_D_logged (zz_up M 194 0 (zb (bif (v_D_isOne M x0) then false else true))) a1.2.2 (1 : Int32))]) (zt_T L, zt_R, (zz_up M 194 0 (zb (bif (v_D_isOne M x0) then false else true))), J, e) = _
        refine zz_jn (X := zz_D (zm_D_led, d + 3, 73, [some (.ref (194 : Nat)), some (.int x0), some (.int (zb b1)), some (.int (bif (decide ((v_D_logged (zz_up M 194 0 (zb (bif (v_D_isOne M x0) then false else true))) a1.2.2 (1 : Int32)) = x0)) then (a1.1 + (1 : Int32)) else a1.1)), some (.int (bif (decide ((v_D_logged (zz_up M 194 0 (zb (bif (v_D_isOne M x0) then false else true))) a1.2.2 (1 : Int32)) = x0)) then (v_D_logged (zz_up M 194 0 (zb (bif (v_D_isOne M x0) then false else true))) a1.2.2 (0 : Int32)) else a1.2.1)), some (.int a1.2.2)], []) (zt_T L, zt_R, (zz_up M 194 0 (zb (bif (v_D_isOne M x0) then false else true))), J, e)) (fun j12 => ?_) ?_
        · refine (zz_go 1 (fr' := (zm_D_led, d + 3, 55, [some (.ref (194 : Nat)), some (.int x0), some (.int (zb b1)), some (.int a1.1), some (.int a1.2.1), some (.int a1.2.2)], [.int x0, .int (v_D_logged (zz_up M 194 0 (zb (bif (v_D_isOne M x0) then false else true))) a1.2.2 (1 : Int32))])) (h' := (zt_T L, zt_R, (zz_up M 194 0 (zb (bif (v_D_isOne M x0) then false else true))), J, e)) (fun _ => rfl)).trans ?_
          rcases zz_bc (decide ((v_D_logged (zz_up M 194 0 (zb (bif (v_D_isOne M x0) then false else true))) a1.2.2 (1 : Int32)) = x0)) with h13 | h13
          · refine zc_eqT rfl h13 ?_
            have k14 := k11 h13
            refine (zz_go 4 (fr' := (zm_D_led, d + 3, 68, [some (.ref (194 : Nat)), some (.int x0), some (.int (zb b1)), some (.int (a1.1 + (1 : Int32))), some (.int a1.2.1), some (.int a1.2.2)], [.int (0 : Int32), .int a1.2.2, .ref (194 : Nat)])) (h' := (zt_T L, zt_R, (zz_up M 194 0 (zb (bif (v_D_isOne M x0) then false else true))), J, e)) (fun _ => rfl)).trans ?_
            have g15 : ok_D_logged (zz_up M 194 0 (zb (bif (v_D_isOne M x0) then false else true))) a1.2.2 (0 : Int32) := k14
            refine zl_vt (d := d + 2) rfl rfl rfl rfl rfl rfl rfl rfl rfl rfl (s_D_logged L e J (d + 1) (zz_up M 194 0 (zb (bif (v_D_isOne M x0) then false else true))) a1.2.2 (0 : Int32) g15) ?_
            show zz_D (zm_D_led, d + 3, 71, [some (.ref (194 : Nat)), some (.int x0), some (.int (zb b1)), some (.int (a1.1 + (1 : Int32))), some (.int a1.2.1), some (.int a1.2.2)], [.int (v_D_logged (zz_up M 194 0 (zb (bif (v_D_isOne M x0) then false else true))) a1.2.2 (0 : Int32))]) (zt_T L, zt_R, (zz_up M 194 0 (zb (bif (v_D_isOne M x0) then false else true))), J, e) = _
            refine (zz_go 1 (fr' := (zm_D_led, d + 3, 73, [some (.ref (194 : Nat)), some (.int x0), some (.int (zb b1)), some (.int (a1.1 + (1 : Int32))), some (.int (v_D_logged (zz_up M 194 0 (zb (bif (v_D_isOne M x0) then false else true))) a1.2.2 (0 : Int32))), some (.int a1.2.2)], [])) (h' := (zt_T L, zt_R, (zz_up M 194 0 (zb (bif (v_D_isOne M x0) then false else true))), J, e)) (fun _ => rfl)).trans ?_
            simpa only [h13, zk_t, zk_f, zb_t, zb_f] using j12
          · refine zc_eqF rfl h13 ?_
            refine (zz_go 1 (fr' := (zm_D_led, d + 3, 73, [some (.ref (194 : Nat)), some (.int x0), some (.int (zb b1)), some (.int a1.1), some (.int a1.2.1), some (.int a1.2.2)], [])) (h' := (zt_T L, zt_R, (zz_up M 194 0 (zb (bif (v_D_isOne M x0) then false else true))), J, e)) (fun _ => rfl)).trans ?_
            simpa only [h13, zk_t, zk_f, zb_t, zb_f] using j12
        refine (zz_go 2 (fr' := (zm_D_led, d + 3, 42, [some (.ref (194 : Nat)), some (.int x0), some (.int (zb b1)), some (.int (bif (decide ((v_D_logged (zz_up M 194 0 (zb (bif (v_D_isOne M x0) then false else true))) a1.2.2 (1 : Int32)) = x0)) then (a1.1 + (1 : Int32)) else a1.1)), some (.int (bif (decide ((v_D_logged (zz_up M 194 0 (zb (bif (v_D_isOne M x0) then false else true))) a1.2.2 (1 : Int32)) = x0)) then (v_D_logged (zz_up M 194 0 (zb (bif (v_D_isOne M x0) then false else true))) a1.2.2 (0 : Int32)) else a1.2.1)), some (.int (a1.2.2 + (-1 : Int32)))], [])) (h' := (zt_T L, zt_R, (zz_up M 194 0 (zb (bif (v_D_isOne M x0) then false else true))), J, e)) (fun _ => rfl)).trans ?_
        have y1 := hx5 (by simp only [g_D_led_1, h8, zk_t, zk_f, zb_t, zb_f])
        simpa only [g_D_led_1, h8, zk_t, zk_f, zb_t, zb_f] using y1
    show zz_D (zm_D_led, d + 3, 79, [none, none, some (.int (zb b1)), some (.int (zf_wh 1000 (g_D_led_1 M x0 b1) 0 ((0 : Int32), (-1 : Int32), ((M 195 7) - (1 : Int32)))).1), some (.int (zf_wh 1000 (g_D_led_1 M x0 b1) 0 ((0 : Int32), (-1 : Int32), ((M 195 7) - (1 : Int32)))).2.1), none], []) (zt_T L, zt_R, (zz_up M 194 0 (zb (bif (v_D_isOne M x0) then false else true))), J, e) = _
    refine zz_jn (X := zz_D (zm_D_led, d + 3, 89, [none, none, none, none, none, none], [.int (bif b1 then (zf_wh 1000 (g_D_led_1 M x0 b1) 0 ((0 : Int32), (-1 : Int32), ((M 195 7) - (1 : Int32)))).2.1 else (zf_wh 1000 (g_D_led_1 M x0 b1) 0 ((0 : Int32), (-1 : Int32), ((M 195 7) - (1 : Int32)))).1)]) (zt_T L, zt_R, (zz_up M 194 0 (zb (bif (v_D_isOne M x0) then false else true))), J, e)) (fun j16 => ?_) ?_
    · refine (zz_go 1 (fr' := (zm_D_led, d + 3, 80, [none, none, some (.int (zb b1)), some (.int (zf_wh 1000 (g_D_led_1 M x0 b1) 0 ((0 : Int32), (-1 : Int32), ((M 195 7) - (1 : Int32)))).1), some (.int (zf_wh 1000 (g_D_led_1 M x0 b1) 0 ((0 : Int32), (-1 : Int32), ((M 195 7) - (1 : Int32)))).2.1), none], [.int (zb b1)])) (h' := (zt_T L, zt_R, (zz_up M 194 0 (zb (bif (v_D_isOne M x0) then false else true))), J, e)) (fun _ => rfl)).trans ?_
      rcases zz_bc b1 with h17 | h17
      · refine zq_eT rfl h17 ?_
        refine (zz_go 2 (fr' := (zm_D_led, d + 3, 89, [none, none, some (.int (zb b1)), some (.int (zf_wh 1000 (g_D_led_1 M x0 b1) 0 ((0 : Int32), (-1 : Int32), ((M 195 7) - (1 : Int32)))).1), some (.int (zf_wh 1000 (g_D_led_1 M x0 b1) 0 ((0 : Int32), (-1 : Int32), ((M 195 7) - (1 : Int32)))).2.1), none], [.int (zf_wh 1000 (g_D_led_1 M x0 b1) 0 ((0 : Int32), (-1 : Int32), ((M 195 7) - (1 : Int32)))).2.1])) (h' := (zt_T L, zt_R, (zz_up M 194 0 (zb (bif (v_D_isOne M x0) then false else true))), J, e)) (fun _ => rfl)).trans ?_
        refine zz_weak (L := [none, none, none, none, none, none]) ⟨Or.inl rfl, Or.inl rfl, Or.inr ⟨rfl, rfl⟩, Or.inr ⟨rfl, rfl⟩, Or.inr ⟨rfl, rfl⟩, Or.inl rfl, trivial⟩ ?_
        simpa only [h17, zk_t, zk_f, zb_t, zb_f] using j16
      · refine zq_eF rfl h17 ?_
        refine (zz_go 1 (fr' := (zm_D_led, d + 3, 89, [none, none, some (.int (zb b1)), some (.int (zf_wh 1000 (g_D_led_1 M x0 b1) 0 ((0 : Int32), (-1 : Int32), ((M 195 7) - (1 : Int32)))).1), some (.int (zf_wh 1000 (g_D_led_1 M x0 b1) 0 ((0 : Int32), (-1 : Int32), ((M 195 7) - (1 : Int32)))).2.1), none], [.int (zf_wh 1000 (g_D_led_1 M x0 b1) 0 ((0 : Int32), (-1 : Int32), ((M 195 7) - (1 : Int32)))).1])) (h' := (zt_T L, zt_R, (zz_up M 194 0 (zb (bif (v_D_isOne M x0) then false else true))), J, e)) (fun _ => rfl)).trans ?_
        refine zz_weak (L := [none, none, none, none, none, none]) ⟨Or.inl rfl, Or.inl rfl, Or.inr ⟨rfl, rfl⟩, Or.inr ⟨rfl, rfl⟩, Or.inr ⟨rfl, rfl⟩, Or.inl rfl, trivial⟩ ?_
        simpa only [h17, zk_t, zk_f, zb_t, zb_f] using j16
    refine zl_retI rfl rfl ?_
    first | (simp only [h3, zk_t, zk_f, zb_t, zb_f]; done) | (simp only [h3, zk_t, zk_f, zb_t, zb_f]; rfl) | (try simp only [h3, zk_t, zk_f, zb_t, zb_f]; done) | (try simp only [h3, zk_t, zk_f, zb_t, zb_f]; rfl) | rfl
  · refine zo_leF rfl h3 ?_
    refine (zz_go 1 (fr' := (zm_D_led, d + 3, 25, [some (.ref (194 : Nat)), some (.int x0), some (.int (zb b1)), none, none, none], [.int (0 : Int32)])) (h' := (zt_T L, zt_R, (zz_up M 194 0 (zb (bif (v_D_isOne M x0) then false else true))), J, e)) (fun _ => rfl)).trans ?_
    refine zl_retI rfl rfl ?_
    first | (simp only [h3, zk_t, zk_f, zb_t, zb_f]; done) | (simp only [h3, zk_t, zk_f, zb_t, zb_f]; rfl) | (try simp only [h3, zk_t, zk_f, zb_t, zb_f]; done) | (try simp only [h3, zk_t, zk_f, zb_t, zb_f]; rfl) | rfl
def v_D_log (M : zMem) (x0 : Int32) (x1 : Int32) : Int32 := (bif (decide ((zb (bif (v_D_isIn x1 (0 : Int32) (3 : Int32)) then false else true)) ≤ 0)) then (bif (v_D_isIn x0 (0 : Int32) ((M 195 7) - (1 : Int32))) then (v_D_logged (zz_up M 194 0 (zb (bif (v_D_isIn x1 (0 : Int32) (3 : Int32)) then false else true))) x0 x1) else (-1 : Int32)) else (0 : Int32))
def w_D_log (M : zMem) (x0 : Int32) (x1 : Int32) : zMem := (zz_up M 194 0 (zb (bif (v_D_isIn x1 (0 : Int32) (3 : Int32)) then false else true)))
def ok_D_log (M : zMem) (x0 : Int32) (x1 : Int32) : Prop := ((decide ((zb (bif (v_D_isIn x1 (0 : Int32) (3 : Int32)) then false else true)) ≤ 0)) = true → ((v_D_isIn x0 (0 : Int32) ((M 195 7) - (1 : Int32))) = true → ok_D_logged (zz_up M 194 0 (zb (bif (v_D_isIn x1 (0 : Int32) (3 : Int32)) then false else true))) x0 x1))
set_option maxRecDepth 20000 in
set_option maxHeartbeats 2000000 in
theorem s_D_log (L e : Nat) (J : zJem) (d : Nat) (M : zMem) (x0 : Int32) (x1 : Int32) (k0 : ok_D_log M x0 x1) : zz_D (zm_D_log, d + 2, 0, [some (.ref (194 : Nat)), some (.int x0), some (.int x1)], []) (zt_T L, zt_R, M, J, e) = some (.inl (some (.int (v_D_log M x0 x1))), (zt_T L, zt_R, (w_D_log M x0 x1), J, e)) := by
  unfold ok_D_log at k0
  unfold v_D_log w_D_log
  refine (zz_go 4 (fr' := (zm_D_log, d + 2, 4, [some (.ref (194 : Nat)), some (.int x0), some (.int x1)], [.int (3 : Int32), .int (0 : Int32), .int x1, .ref (194 : Nat)])) (h' := (zt_T L, zt_R, M, J, e)) (fun _ => rfl)).trans ?_
  refine zl_st (d := d + 1) rfl rfl rfl rfl rfl rfl rfl (s_D_isIn L e J (d + 0) x1 (0 : Int32) (3 : Int32)) ?_
  show zz_D (zm_D_log, d + 2, 7, [some (.ref (194 : Nat)), some (.int x0), some (.int x1)], [.int (zb (v_D_isIn x1 (0 : Int32) (3 : Int32))), .ref (194 : Nat)]) (zt_T L, zt_R, M, J, e) = _
  refine zz_jn (X := zz_D (zm_D_log, d + 2, 15, [some (.ref (194 : Nat)), some (.int x0), some (.int x1)], [.int (zb (bif (v_D_isIn x1 (0 : Int32) (3 : Int32)) then false else true)), .ref (194 : Nat)]) (zt_T L, zt_R, M, J, e)) (fun j1 => ?_) ?_
  · rcases zz_bc (v_D_isIn x1 (0 : Int32) (3 : Int32)) with h2 | h2
    · refine zq_fT rfl h2 ?_
      refine (zz_go 1 (fr' := (zm_D_log, d + 2, 15, [some (.ref (194 : Nat)), some (.int x0), some (.int x1)], [.int (0 : Int32), .ref (194 : Nat)])) (h' := (zt_T L, zt_R, M, J, e)) (fun _ => rfl)).trans ?_
      simpa only [h2, zk_t, zk_f, zb_t, zb_f] using j1
    · refine zq_fF rfl h2 ?_
      refine (zz_go 2 (fr' := (zm_D_log, d + 2, 15, [some (.ref (194 : Nat)), some (.int x0), some (.int x1)], [.int (1 : Int32), .ref (194 : Nat)])) (h' := (zt_T L, zt_R, M, J, e)) (fun _ => rfl)).trans ?_
      simpa only [h2, zk_t, zk_f, zb_t, zb_f] using j1
  refine zl_putI rfl rfl rfl rfl ?_
  refine (zz_go 1 (fr' := (zm_D_log, d + 2, 19, [some (.ref (194 : Nat)), some (.int x0), some (.int x1)], [.ref (194 : Nat)])) (h' := (zt_T L, zt_R, (zz_up M 194 0 (zb (bif (v_D_isIn x1 (0 : Int32) (3 : Int32)) then false else true))), J, e)) (fun _ => rfl)).trans ?_
  refine zl_getI rfl (by decide) rfl zu_eq ?_
  rcases zz_bc (decide ((zb (bif (v_D_isIn x1 (0 : Int32) (3 : Int32)) then false else true)) ≤ 0)) with h3 | h3
  · refine zo_leT rfl h3 ?_
    have k4 := k0 h3
    refine (zz_go 3 (fr' := (zm_D_log, d + 2, 30, [some (.ref (194 : Nat)), some (.int x0), some (.int x1)], [.ref (194 : Nat), .int (0 : Int32), .int x0])) (h' := (zt_T L, zt_R, (zz_up M 194 0 (zb (bif (v_D_isIn x1 (0 : Int32) (3 : Int32)) then false else true))), J, e)) (fun _ => rfl)).trans ?_
    refine zl_getR (r := 195) rfl rfl rfl ?_
    refine (zz_go 1 (fr' := (zm_D_log, d + 2, 35, [some (.ref (194 : Nat)), some (.int x0), some (.int x1)], [.int (7 : Int32), .ref (195 : Nat), .int (0 : Int32), .int x0])) (h' := (zt_T L, zt_R, (zz_up M 194 0 (zb (bif (v_D_isIn x1 (0 : Int32) (3 : Int32)) then false else true))), J, e)) (fun _ => rfl)).trans ?_
    refine zl_iaN (v := (M 195 7)) 7 rfl rfl (by decide) (by decide) ((zu_ne (rfl)).trans rfl) ?_
    refine (zz_go 2 (fr' := (zm_D_log, d + 2, 38, [some (.ref (194 : Nat)), some (.int x0), some (.int x1)], [.int ((M 195 7) - (1 : Int32)), .int (0 : Int32), .int x0])) (h' := (zt_T L, zt_R, (zz_up M 194 0 (zb (bif (v_D_isIn x1 (0 : Int32) (3 : Int32)) then false else true))), J, e)) (fun _ => rfl)).trans ?_
    refine zl_st (d := d + 1) rfl rfl rfl rfl rfl rfl rfl (s_D_isIn L e J (d + 0) x0 (0 : Int32) ((M 195 7) - (1 : Int32))) ?_
    show zz_D (zm_D_log, d + 2, 41, [some (.ref (194 : Nat)), some (.int x0), some (.int x1)], [.int (zb (v_D_isIn x0 (0 : Int32) ((M 195 7) - (1 : Int32))))]) (zt_T L, zt_R, (zz_up M 194 0 (zb (bif (v_D_isIn x1 (0 : Int32) (3 : Int32)) then false else true))), J, e) = _
    refine zz_jn (X := zz_D (zm_D_log, d + 2, 54, [none, none, none], [.int (bif (v_D_isIn x0 (0 : Int32) ((M 195 7) - (1 : Int32))) then (v_D_logged (zz_up M 194 0 (zb (bif (v_D_isIn x1 (0 : Int32) (3 : Int32)) then false else true))) x0 x1) else (-1 : Int32))]) (zt_T L, zt_R, (zz_up M 194 0 (zb (bif (v_D_isIn x1 (0 : Int32) (3 : Int32)) then false else true))), J, e)) (fun j5 => ?_) ?_
    · rcases zz_bc (v_D_isIn x0 (0 : Int32) ((M 195 7) - (1 : Int32))) with h6 | h6
      · refine zq_eT rfl h6 ?_
        have k7 := k4 h6
        refine (zz_go 3 (fr' := (zm_D_log, d + 2, 47, [some (.ref (194 : Nat)), some (.int x0), some (.int x1)], [.int x1, .int x0, .ref (194 : Nat)])) (h' := (zt_T L, zt_R, (zz_up M 194 0 (zb (bif (v_D_isIn x1 (0 : Int32) (3 : Int32)) then false else true))), J, e)) (fun _ => rfl)).trans ?_
        have g8 : ok_D_logged (zz_up M 194 0 (zb (bif (v_D_isIn x1 (0 : Int32) (3 : Int32)) then false else true))) x0 x1 := k7
        refine zl_vt (d := d + 1) rfl rfl rfl rfl rfl rfl rfl rfl rfl rfl (s_D_logged L e J (d + 0) (zz_up M 194 0 (zb (bif (v_D_isIn x1 (0 : Int32) (3 : Int32)) then false else true))) x0 x1 g8) ?_
        show zz_D (zm_D_log, d + 2, 50, [some (.ref (194 : Nat)), some (.int x0), some (.int x1)], [.int (v_D_logged (zz_up M 194 0 (zb (bif (v_D_isIn x1 (0 : Int32) (3 : Int32)) then false else true))) x0 x1)]) (zt_T L, zt_R, (zz_up M 194 0 (zb (bif (v_D_isIn x1 (0 : Int32) (3 : Int32)) then false else true))), J, e) = _
        refine (zz_go 1 (fr' := (zm_D_log, d + 2, 54, [some (.ref (194 : Nat)), some (.int x0), some (.int x1)], [.int (v_D_logged (zz_up M 194 0 (zb (bif (v_D_isIn x1 (0 : Int32) (3 : Int32)) then false else true))) x0 x1)])) (h' := (zt_T L, zt_R, (zz_up M 194 0 (zb (bif (v_D_isIn x1 (0 : Int32) (3 : Int32)) then false else true))), J, e)) (fun _ => rfl)).trans ?_
        refine zz_weak (L := [none, none, none]) ⟨Or.inr ⟨rfl, rfl⟩, Or.inr ⟨rfl, rfl⟩, Or.inr ⟨rfl, rfl⟩, trivial⟩ ?_
        simpa only [h6, zk_t, zk_f, zb_t, zb_f] using j5
      · refine zq_eF rfl h6 ?_
        refine (zz_go 1 (fr' := (zm_D_log, d + 2, 54, [some (.ref (194 : Nat)), some (.int x0), some (.int x1)], [.int (-1 : Int32)])) (h' := (zt_T L, zt_R, (zz_up M 194 0 (zb (bif (v_D_isIn x1 (0 : Int32) (3 : Int32)) then false else true))), J, e)) (fun _ => rfl)).trans ?_
        refine zz_weak (L := [none, none, none]) ⟨Or.inr ⟨rfl, rfl⟩, Or.inr ⟨rfl, rfl⟩, Or.inr ⟨rfl, rfl⟩, trivial⟩ ?_
        simpa only [h6, zk_t, zk_f, zb_t, zb_f] using j5
    refine zl_retI rfl rfl ?_
    first | (simp only [h3, zk_t, zk_f, zb_t, zb_f]; done) | (simp only [h3, zk_t, zk_f, zb_t, zb_f]; rfl) | (try simp only [h3, zk_t, zk_f, zb_t, zb_f]; done) | (try simp only [h3, zk_t, zk_f, zb_t, zb_f]; rfl) | rfl
  · refine zo_leF rfl h3 ?_
    refine (zz_go 1 (fr' := (zm_D_log, d + 2, 26, [some (.ref (194 : Nat)), some (.int x0), some (.int x1)], [.int (0 : Int32)])) (h' := (zt_T L, zt_R, (zz_up M 194 0 (zb (bif (v_D_isIn x1 (0 : Int32) (3 : Int32)) then false else true))), J, e)) (fun _ => rfl)).trans ?_
    refine zl_retI rfl rfl ?_
    first | (simp only [h3, zk_t, zk_f, zb_t, zb_f]; done) | (simp only [h3, zk_t, zk_f, zb_t, zb_f]; rfl) | (try simp only [h3, zk_t, zk_f, zb_t, zb_f]; done) | (try simp only [h3, zk_t, zk_f, zb_t, zb_f]; rfl) | rfl
def v_D_seed (M : zMem) (x0 : Int32) : Int32 := (M 195 8)
def w_D_seed (M : zMem) (x0 : Int32) : zMem := (zz_up (zz_up M 194 0 (0 : Int32)) 195 8 x0)
set_option maxRecDepth 20000 in
set_option maxHeartbeats 2000000 in
theorem s_D_seed (L e : Nat) (J : zJem) (d : Nat) (M : zMem) (x0 : Int32) : zz_D (zm_D_seed, d + 1, 0, [some (.ref (194 : Nat)), some (.int x0), none], []) (zt_T L, zt_R, M, J, e) = some (.inl (some (.int (v_D_seed M x0))), (zt_T L, zt_R, (w_D_seed M x0), J, e)) := by
  unfold v_D_seed w_D_seed
  refine (zz_go 2 (fr' := (zm_D_seed, d + 1, 2, [some (.ref (194 : Nat)), some (.int x0), none], [.int (0 : Int32), .ref (194 : Nat)])) (h' := (zt_T L, zt_R, M, J, e)) (fun _ => rfl)).trans ?_
  refine zl_putI rfl rfl rfl rfl ?_
  refine (zz_go 1 (fr' := (zm_D_seed, d + 1, 6, [some (.ref (194 : Nat)), some (.int x0), none], [.ref (194 : Nat)])) (h' := (zt_T L, zt_R, (zz_up M 194 0 (0 : Int32)), J, e)) (fun _ => rfl)).trans ?_
  refine zl_getR (r := 195) rfl rfl rfl ?_
  refine (zz_go 1 (fr' := (zm_D_seed, d + 1, 11, [some (.ref (194 : Nat)), some (.int x0), none], [.int (8 : Int32), .ref (195 : Nat)])) (h' := (zt_T L, zt_R, (zz_up M 194 0 (0 : Int32)), J, e)) (fun _ => rfl)).trans ?_
  refine zl_iaN (v := (M 195 8)) 8 rfl rfl (by decide) (by decide) ((zu_ne (rfl)).trans rfl) ?_
  refine (zz_go 2 (fr' := (zm_D_seed, d + 1, 14, [some (.ref (194 : Nat)), some (.int x0), some (.int (M 195 8))], [.ref (194 : Nat)])) (h' := (zt_T L, zt_R, (zz_up M 194 0 (0 : Int32)), J, e)) (fun _ => rfl)).trans ?_
  refine zl_getR (r := 195) rfl rfl rfl ?_
  refine (zz_go 2 (fr' := (zm_D_seed, d + 1, 20, [some (.ref (194 : Nat)), some (.int x0), some (.int (M 195 8))], [.int x0, .int (8 : Int32), .ref (195 : Nat)])) (h' := (zt_T L, zt_R, (zz_up M 194 0 (0 : Int32)), J, e)) (fun _ => rfl)).trans ?_
  refine zl_iastore (i := 8) rfl rfl (by decide) rfl (by decide) ?_
  refine (zz_go 1 (fr' := (zm_D_seed, d + 1, 22, [some (.ref (194 : Nat)), some (.int x0), some (.int (M 195 8))], [.int (M 195 8)])) (h' := (zt_T L, zt_R, (zz_up (zz_up M 194 0 (0 : Int32)) 195 8 x0), J, e)) (fun _ => rfl)).trans ?_
  refine zl_retI rfl rfl ?_
  rfl
def f_D_undo_1 (M : zMem) (i1 : Nat) (a1 : zMem) : zMem := (zz_up a1 195 i1 (a1 198 (((309 : Int32) * (a1 194 6)) + (Int32.ofNat i1)).toNatClampNeg))
def kb_D_undo_1 (M : zMem) (i1 : Nat) (a1 : zMem) : Prop := zz_in (((309 : Int32) * (a1 194 6)) + (Int32.ofNat i1)) 3708 = true
def v_D_undo (M : zMem) : Bool := (bif (decide ((M 194 6) = 0)) then false else true)
def w_D_undo (M : zMem) : zMem := (bif (decide ((M 194 6) = 0)) then (zz_up M 194 0 (0 : Int32)) else (zf_for 309 (f_D_undo_1 M) (zz_up (zz_up M 194 0 (0 : Int32)) 194 6 ((M 194 6) - (1 : Int32)))))
def ok_D_undo (M : zMem) : Prop := ((decide ((M 194 6) = 0)) = false → (∀ i1, i1 < 309 → kb_D_undo_1 M i1 (zf_for i1 (f_D_undo_1 M) (zz_up (zz_up M 194 0 (0 : Int32)) 194 6 ((M 194 6) - (1 : Int32))))))
set_option maxRecDepth 20000 in
set_option maxHeartbeats 2000000 in
theorem s_D_undo (L e : Nat) (J : zJem) (d : Nat) (M : zMem) (k0 : ok_D_undo M) : zz_D (zm_D_undo, d + 1, 0, [some (.ref (194 : Nat)), none], []) (zt_T L, zt_R, M, J, e) = some (.inl (some (.int (zb (v_D_undo M)))), (zt_T L, zt_R, (w_D_undo M), J, e)) := by
  unfold ok_D_undo at k0
  unfold v_D_undo w_D_undo
  refine (zz_go 2 (fr' := (zm_D_undo, d + 1, 2, [some (.ref (194 : Nat)), none], [.int (0 : Int32), .ref (194 : Nat)])) (h' := (zt_T L, zt_R, M, J, e)) (fun _ => rfl)).trans ?_
  refine zl_putI rfl rfl rfl rfl ?_
  refine (zz_go 1 (fr' := (zm_D_undo, d + 1, 6, [some (.ref (194 : Nat)), none], [.ref (194 : Nat)])) (h' := (zt_T L, zt_R, (zz_up M 194 0 (0 : Int32)), J, e)) (fun _ => rfl)).trans ?_
  refine zl_getI rfl (by decide) rfl ((zu_nk rfl).trans rfl) ?_
  rcases zz_bc (decide ((M 194 6) = 0)) with h1 | h1
  · refine zo_neT rfl h1 ?_
    refine (zz_go 1 (fr' := (zm_D_undo, d + 1, 13, [some (.ref (194 : Nat)), none], [.int (0 : Int32)])) (h' := (zt_T L, zt_R, (zz_up M 194 0 (0 : Int32)), J, e)) (fun _ => rfl)).trans ?_
    refine zl_retI rfl rfl ?_
    first | (simp only [h1, zk_t, zk_f, zb_t, zb_f]; done) | (simp only [h1, zk_t, zk_f, zb_t, zb_f]; rfl) | (try simp only [h1, zk_t, zk_f, zb_t, zb_f]; done) | (try simp only [h1, zk_t, zk_f, zb_t, zb_f]; rfl) | rfl
  · refine zo_neF rfl h1 ?_
    have k2 := k0 h1
    refine (zz_go 2 (fr' := (zm_D_undo, d + 1, 16, [some (.ref (194 : Nat)), none], [.ref (194 : Nat), .ref (194 : Nat)])) (h' := (zt_T L, zt_R, (zz_up M 194 0 (0 : Int32)), J, e)) (fun _ => rfl)).trans ?_
    refine zl_getI rfl (by decide) rfl ((zu_nk rfl).trans rfl) ?_
    refine (zz_go 2 (fr' := (zm_D_undo, d + 1, 21, [some (.ref (194 : Nat)), none], [.int ((M 194 6) - (1 : Int32)), .ref (194 : Nat)])) (h' := (zt_T L, zt_R, (zz_up M 194 0 (0 : Int32)), J, e)) (fun _ => rfl)).trans ?_
    refine zl_putI rfl rfl rfl rfl ?_
    refine (zz_go 2 (fr' := (zm_D_undo, d + 1, 26, [some (.ref (194 : Nat)), some (.int (0 : Int32))], [])) (h' := (zt_T L, zt_R, (zz_up (zz_up M 194 0 (0 : Int32)) 194 6 ((M 194 6) - (1 : Int32))), J, e)) (fun _ => rfl)).trans ?_
    refine zf_forD (X := fun (i1 : Nat) (a1 : zMem) => zz_D (zm_D_undo, d + 1, 26, [some (.ref (194 : Nat)), some (.int (Int32.ofNat i1))], []) (zt_T L, zt_R, a1, J, e)) (f := (f_D_undo_1 M)) (a := (zz_up (zz_up M 194 0 (0 : Int32)) 194 6 ((M 194 6) - (1 : Int32)))) 309 (fun i1 hi1 => ?_) ?_
    · intro hx3
      have k4 := k2 i1 hi1
      generalize zf_for i1 (f_D_undo_1 M) (zz_up (zz_up M 194 0 (0 : Int32)) 194 6 ((M 194 6) - (1 : Int32))) = a1 at hx3 k4 ⊢
      show zz_D (zm_D_undo, d + 1, 26, [some (.ref (194 : Nat)), some (.int (Int32.ofNat i1))], []) (zt_T L, zt_R, a1, J, e) = _
      unfold kb_D_undo_1 at k4
      refine (zz_go 2 (fr' := (zm_D_undo, d + 1, 30, [some (.ref (194 : Nat)), some (.int (Int32.ofNat i1))], [.int (309 : Int32), .int (Int32.ofNat i1)])) (h' := (zt_T L, zt_R, a1, J, e)) (fun _ => rfl)).trans ?_
      refine zc_geF rfl (zi_ltc (n := 309) (by omega) (by decide)) ?_
      refine (zz_go 1 (fr' := (zm_D_undo, d + 1, 34, [some (.ref (194 : Nat)), some (.int (Int32.ofNat i1))], [.ref (194 : Nat)])) (h' := (zt_T L, zt_R, a1, J, e)) (fun _ => rfl)).trans ?_
      refine zl_getR (r := 195) rfl rfl rfl ?_
      refine (zz_go 2 (fr' := (zm_D_undo, d + 1, 39, [some (.ref (194 : Nat)), some (.int (Int32.ofNat i1))], [.ref (194 : Nat), .int (Int32.ofNat i1), .ref (195 : Nat)])) (h' := (zt_T L, zt_R, a1, J, e)) (fun _ => rfl)).trans ?_
      refine zl_getR (r := 198) rfl rfl rfl ?_
      refine (zz_go 2 (fr' := (zm_D_undo, d + 1, 46, [some (.ref (194 : Nat)), some (.int (Int32.ofNat i1))], [.ref (194 : Nat), .int (309 : Int32), .ref (198 : Nat), .int (Int32.ofNat i1), .ref (195 : Nat)])) (h' := (zt_T L, zt_R, a1, J, e)) (fun _ => rfl)).trans ?_
      refine zl_getI rfl (by decide) rfl rfl ?_
      refine (zz_go 3 (fr' := (zm_D_undo, d + 1, 52, [some (.ref (194 : Nat)), some (.int (Int32.ofNat i1))], [.int (((309 : Int32) * (a1 194 6)) + (Int32.ofNat i1)), .ref (198 : Nat), .int (Int32.ofNat i1), .ref (195 : Nat)])) (h' := (zt_T L, zt_R, a1, J, e)) (fun _ => rfl)).trans ?_
      have g5 : zz_in (((309 : Int32) * (a1 194 6)) + (Int32.ofNat i1)) 3708 = true := k4
      refine zl_iaN (v := (a1 198 (((309 : Int32) * (a1 194 6)) + (Int32.ofNat i1)).toNatClampNeg)) (((309 : Int32) * (a1 194 6)) + (Int32.ofNat i1)).toNatClampNeg rfl rfl g5 rfl rfl ?_
      refine zl_iastore (i := i1) rfl rfl (zi_in (by omega) (by decide)) rfl (zi_nat (by omega)) ?_
      refine (zz_go 2 (fr' := (zm_D_undo, d + 1, 26, [some (.ref (194 : Nat)), some (.int (Int32.ofNat i1 + 1))], [])) (h' := (zt_T L, zt_R, (zz_up a1 195 i1 (a1 198 (((309 : Int32) * (a1 194 6)) + (Int32.ofNat i1)).toNatClampNeg)), J, e)) (fun _ => rfl)).trans ?_
      rw [zi_succ i1]
      exact hx3
    show zz_D (zm_D_undo, d + 1, 26, [some (.ref (194 : Nat)), some (.int (Int32.ofNat 309))], []) (zt_T L, zt_R, (zf_for 309 (f_D_undo_1 M) (zz_up (zz_up M 194 0 (0 : Int32)) 194 6 ((M 194 6) - (1 : Int32)))), J, e) = _
    refine (zz_go 2 (fr' := (zm_D_undo, d + 1, 30, [some (.ref (194 : Nat)), some (.int (Int32.ofNat 309))], [.int (309 : Int32), .int (Int32.ofNat 309)])) (h' := (zt_T L, zt_R, (zf_for 309 (f_D_undo_1 M) (zz_up (zz_up M 194 0 (0 : Int32)) 194 6 ((M 194 6) - (1 : Int32)))), J, e)) (fun _ => rfl)).trans ?_
    refine zc_geT rfl (by decide) ?_
    refine zz_weak (L := [none, none]) ⟨Or.inr ⟨rfl, rfl⟩, Or.inr ⟨rfl, rfl⟩, trivial⟩ ?_
    refine (zz_go 1 (fr' := (zm_D_undo, d + 1, 61, [none, none], [.int (1 : Int32)])) (h' := (zt_T L, zt_R, (zf_for 309 (f_D_undo_1 M) (zz_up (zz_up M 194 0 (0 : Int32)) 194 6 ((M 194 6) - (1 : Int32)))), J, e)) (fun _ => rfl)).trans ?_
    refine zl_retI rfl rfl ?_
    first | (simp only [h1, zk_t, zk_f, zb_t, zb_f]; done) | (simp only [h1, zk_t, zk_f, zb_t, zb_f]; rfl) | (try simp only [h1, zk_t, zk_f, zb_t, zb_f]; done) | (try simp only [h1, zk_t, zk_f, zb_t, zb_f]; rfl) | rfl
def f_D_image_1 (M : zMem) (i1 : Nat) (a1 : zMem) : zMem := (zz_up a1 196 i1 (a1 195 i1))
def w_D_image (M : zMem) : zMem := (zz_up (zf_for 709 (f_D_image_1 M) (zz_up M 194 0 (0 : Int32))) 194 3 (1 : Int32))
set_option maxRecDepth 20000 in
set_option maxHeartbeats 2000000 in
theorem s_D_image (L e : Nat) (J : zJem) (d : Nat) (M : zMem) : zz_D (zm_D_image, d + 1, 0, [some (.ref (194 : Nat)), none], []) (zt_T L, zt_R, M, J, e) = some (.inl (none), (zt_T L, zt_R, (w_D_image M), J, e)) := by
  unfold w_D_image
  refine (zz_go 2 (fr' := (zm_D_image, d + 1, 2, [some (.ref (194 : Nat)), none], [.int (0 : Int32), .ref (194 : Nat)])) (h' := (zt_T L, zt_R, M, J, e)) (fun _ => rfl)).trans ?_
  refine zl_putI rfl rfl rfl rfl ?_
  refine (zz_go 2 (fr' := (zm_D_image, d + 1, 7, [some (.ref (194 : Nat)), some (.int (0 : Int32))], [])) (h' := (zt_T L, zt_R, (zz_up M 194 0 (0 : Int32)), J, e)) (fun _ => rfl)).trans ?_
  refine zf_forD (X := fun (i1 : Nat) (a1 : zMem) => zz_D (zm_D_image, d + 1, 7, [some (.ref (194 : Nat)), some (.int (Int32.ofNat i1))], []) (zt_T L, zt_R, a1, J, e)) (f := (f_D_image_1 M)) (a := (zz_up M 194 0 (0 : Int32))) 709 (fun i1 hi1 => ?_) ?_
  · intro hx1
    generalize zf_for i1 (f_D_image_1 M) (zz_up M 194 0 (0 : Int32)) = a1 at hx1 ⊢
    show zz_D (zm_D_image, d + 1, 7, [some (.ref (194 : Nat)), some (.int (Int32.ofNat i1))], []) (zt_T L, zt_R, a1, J, e) = _
    refine (zz_go 2 (fr' := (zm_D_image, d + 1, 11, [some (.ref (194 : Nat)), some (.int (Int32.ofNat i1))], [.int (709 : Int32), .int (Int32.ofNat i1)])) (h' := (zt_T L, zt_R, a1, J, e)) (fun _ => rfl)).trans ?_
    refine zc_geF rfl (zi_ltc (n := 709) (by omega) (by decide)) ?_
    refine (zz_go 1 (fr' := (zm_D_image, d + 1, 15, [some (.ref (194 : Nat)), some (.int (Int32.ofNat i1))], [.ref (194 : Nat)])) (h' := (zt_T L, zt_R, a1, J, e)) (fun _ => rfl)).trans ?_
    refine zl_getR (r := 196) rfl rfl rfl ?_
    refine (zz_go 2 (fr' := (zm_D_image, d + 1, 20, [some (.ref (194 : Nat)), some (.int (Int32.ofNat i1))], [.ref (194 : Nat), .int (Int32.ofNat i1), .ref (196 : Nat)])) (h' := (zt_T L, zt_R, a1, J, e)) (fun _ => rfl)).trans ?_
    refine zl_getR (r := 195) rfl rfl rfl ?_
    refine (zz_go 1 (fr' := (zm_D_image, d + 1, 24, [some (.ref (194 : Nat)), some (.int (Int32.ofNat i1))], [.int (Int32.ofNat i1), .ref (195 : Nat), .int (Int32.ofNat i1), .ref (196 : Nat)])) (h' := (zt_T L, zt_R, a1, J, e)) (fun _ => rfl)).trans ?_
    refine zl_iaN (v := (a1 195 i1)) i1 rfl rfl (zi_in (by omega) (by decide)) (zi_nat (by omega)) rfl ?_
    refine zl_iastore (i := i1) rfl rfl (zi_in (by omega) (by decide)) rfl (zi_nat (by omega)) ?_
    refine (zz_go 2 (fr' := (zm_D_image, d + 1, 7, [some (.ref (194 : Nat)), some (.int (Int32.ofNat i1 + 1))], [])) (h' := (zt_T L, zt_R, (zz_up a1 196 i1 (a1 195 i1)), J, e)) (fun _ => rfl)).trans ?_
    rw [zi_succ i1]
    exact hx1
  show zz_D (zm_D_image, d + 1, 7, [some (.ref (194 : Nat)), some (.int (Int32.ofNat 709))], []) (zt_T L, zt_R, (zf_for 709 (f_D_image_1 M) (zz_up M 194 0 (0 : Int32))), J, e) = _
  refine (zz_go 2 (fr' := (zm_D_image, d + 1, 11, [some (.ref (194 : Nat)), some (.int (Int32.ofNat 709))], [.int (709 : Int32), .int (Int32.ofNat 709)])) (h' := (zt_T L, zt_R, (zf_for 709 (f_D_image_1 M) (zz_up M 194 0 (0 : Int32))), J, e)) (fun _ => rfl)).trans ?_
  refine zc_geT rfl (by decide) ?_
  refine zz_weak (L := [some (.ref (194 : Nat)), none]) ⟨Or.inl rfl, Or.inr ⟨rfl, rfl⟩, trivial⟩ ?_
  refine (zz_go 2 (fr' := (zm_D_image, d + 1, 34, [some (.ref (194 : Nat)), none], [.int (1 : Int32), .ref (194 : Nat)])) (h' := (zt_T L, zt_R, (zf_for 709 (f_D_image_1 M) (zz_up M 194 0 (0 : Int32))), J, e)) (fun _ => rfl)).trans ?_
  refine zl_putI rfl rfl rfl rfl ?_
  refine (zz_end 1 (r := (.inl none, (zt_T L, zt_R, (zz_up (zf_for 709 (f_D_image_1 M) (zz_up M 194 0 (0 : Int32))) 194 3 (1 : Int32)), J, e))) (fun _ => rfl)).trans ?_
  rfl
def f_D_back_1 (M : zMem) (i1 : Nat) (a1 : zMem) : zMem := (zz_up a1 195 i1 (a1 196 i1))
def v_D_back (M : zMem) : Bool := (bif (decide ((M 194 3) = 0)) then false else true)
def w_D_back (M : zMem) : zMem := (bif (decide ((M 194 3) = 0)) then (zz_up M 194 0 (0 : Int32)) else (zz_up (zf_for 709 (f_D_back_1 M) (zz_up M 194 0 (0 : Int32))) 194 6 (0 : Int32)))
set_option maxRecDepth 20000 in
set_option maxHeartbeats 2000000 in
theorem s_D_back (L e : Nat) (J : zJem) (d : Nat) (M : zMem) : zz_D (zm_D_back, d + 1, 0, [some (.ref (194 : Nat)), none], []) (zt_T L, zt_R, M, J, e) = some (.inl (some (.int (zb (v_D_back M)))), (zt_T L, zt_R, (w_D_back M), J, e)) := by
  unfold v_D_back w_D_back
  refine (zz_go 2 (fr' := (zm_D_back, d + 1, 2, [some (.ref (194 : Nat)), none], [.int (0 : Int32), .ref (194 : Nat)])) (h' := (zt_T L, zt_R, M, J, e)) (fun _ => rfl)).trans ?_
  refine zl_putI rfl rfl rfl rfl ?_
  refine (zz_go 1 (fr' := (zm_D_back, d + 1, 6, [some (.ref (194 : Nat)), none], [.ref (194 : Nat)])) (h' := (zt_T L, zt_R, (zz_up M 194 0 (0 : Int32)), J, e)) (fun _ => rfl)).trans ?_
  refine zl_getI rfl (by decide) rfl ((zu_nk rfl).trans rfl) ?_
  rcases zz_bc (decide ((M 194 3) = 0)) with h1 | h1
  · refine zo_neT rfl h1 ?_
    refine (zz_go 1 (fr' := (zm_D_back, d + 1, 13, [some (.ref (194 : Nat)), none], [.int (0 : Int32)])) (h' := (zt_T L, zt_R, (zz_up M 194 0 (0 : Int32)), J, e)) (fun _ => rfl)).trans ?_
    refine zl_retI rfl rfl ?_
    first | (simp only [h1, zk_t, zk_f, zb_t, zb_f]; done) | (simp only [h1, zk_t, zk_f, zb_t, zb_f]; rfl) | (try simp only [h1, zk_t, zk_f, zb_t, zb_f]; done) | (try simp only [h1, zk_t, zk_f, zb_t, zb_f]; rfl) | rfl
  · refine zo_neF rfl h1 ?_
    refine (zz_go 2 (fr' := (zm_D_back, d + 1, 16, [some (.ref (194 : Nat)), some (.int (0 : Int32))], [])) (h' := (zt_T L, zt_R, (zz_up M 194 0 (0 : Int32)), J, e)) (fun _ => rfl)).trans ?_
    refine zf_forD (X := fun (i1 : Nat) (a1 : zMem) => zz_D (zm_D_back, d + 1, 16, [some (.ref (194 : Nat)), some (.int (Int32.ofNat i1))], []) (zt_T L, zt_R, a1, J, e)) (f := (f_D_back_1 M)) (a := (zz_up M 194 0 (0 : Int32))) 709 (fun i1 hi1 => ?_) ?_
    · intro hx2
      generalize zf_for i1 (f_D_back_1 M) (zz_up M 194 0 (0 : Int32)) = a1 at hx2 ⊢
      show zz_D (zm_D_back, d + 1, 16, [some (.ref (194 : Nat)), some (.int (Int32.ofNat i1))], []) (zt_T L, zt_R, a1, J, e) = _
      refine (zz_go 2 (fr' := (zm_D_back, d + 1, 20, [some (.ref (194 : Nat)), some (.int (Int32.ofNat i1))], [.int (709 : Int32), .int (Int32.ofNat i1)])) (h' := (zt_T L, zt_R, a1, J, e)) (fun _ => rfl)).trans ?_
      refine zc_geF rfl (zi_ltc (n := 709) (by omega) (by decide)) ?_
      refine (zz_go 1 (fr' := (zm_D_back, d + 1, 24, [some (.ref (194 : Nat)), some (.int (Int32.ofNat i1))], [.ref (194 : Nat)])) (h' := (zt_T L, zt_R, a1, J, e)) (fun _ => rfl)).trans ?_
      refine zl_getR (r := 195) rfl rfl rfl ?_
      refine (zz_go 2 (fr' := (zm_D_back, d + 1, 29, [some (.ref (194 : Nat)), some (.int (Int32.ofNat i1))], [.ref (194 : Nat), .int (Int32.ofNat i1), .ref (195 : Nat)])) (h' := (zt_T L, zt_R, a1, J, e)) (fun _ => rfl)).trans ?_
      refine zl_getR (r := 196) rfl rfl rfl ?_
      refine (zz_go 1 (fr' := (zm_D_back, d + 1, 33, [some (.ref (194 : Nat)), some (.int (Int32.ofNat i1))], [.int (Int32.ofNat i1), .ref (196 : Nat), .int (Int32.ofNat i1), .ref (195 : Nat)])) (h' := (zt_T L, zt_R, a1, J, e)) (fun _ => rfl)).trans ?_
      refine zl_iaN (v := (a1 196 i1)) i1 rfl rfl (zi_in (by omega) (by decide)) (zi_nat (by omega)) rfl ?_
      refine zl_iastore (i := i1) rfl rfl (zi_in (by omega) (by decide)) rfl (zi_nat (by omega)) ?_
      refine (zz_go 2 (fr' := (zm_D_back, d + 1, 16, [some (.ref (194 : Nat)), some (.int (Int32.ofNat i1 + 1))], [])) (h' := (zt_T L, zt_R, (zz_up a1 195 i1 (a1 196 i1)), J, e)) (fun _ => rfl)).trans ?_
      rw [zi_succ i1]
      exact hx2
    show zz_D (zm_D_back, d + 1, 16, [some (.ref (194 : Nat)), some (.int (Int32.ofNat 709))], []) (zt_T L, zt_R, (zf_for 709 (f_D_back_1 M) (zz_up M 194 0 (0 : Int32))), J, e) = _
    refine (zz_go 2 (fr' := (zm_D_back, d + 1, 20, [some (.ref (194 : Nat)), some (.int (Int32.ofNat 709))], [.int (709 : Int32), .int (Int32.ofNat 709)])) (h' := (zt_T L, zt_R, (zf_for 709 (f_D_back_1 M) (zz_up M 194 0 (0 : Int32))), J, e)) (fun _ => rfl)).trans ?_
    refine zc_geT rfl (by decide) ?_
    refine zz_weak (L := [some (.ref (194 : Nat)), none]) ⟨Or.inl rfl, Or.inr ⟨rfl, rfl⟩, trivial⟩ ?_
    refine (zz_go 2 (fr' := (zm_D_back, d + 1, 43, [some (.ref (194 : Nat)), none], [.int (0 : Int32), .ref (194 : Nat)])) (h' := (zt_T L, zt_R, (zf_for 709 (f_D_back_1 M) (zz_up M 194 0 (0 : Int32))), J, e)) (fun _ => rfl)).trans ?_
    refine zl_putI rfl rfl rfl rfl ?_
    refine (zz_go 1 (fr' := (zm_D_back, d + 1, 47, [some (.ref (194 : Nat)), none], [.int (1 : Int32)])) (h' := (zt_T L, zt_R, (zz_up (zf_for 709 (f_D_back_1 M) (zz_up M 194 0 (0 : Int32))) 194 6 (0 : Int32)), J, e)) (fun _ => rfl)).trans ?_
    refine zl_retI rfl rfl ?_
    first | (simp only [h1, zk_t, zk_f, zb_t, zb_f]; done) | (simp only [h1, zk_t, zk_f, zb_t, zb_f]; rfl) | (try simp only [h1, zk_t, zk_f, zb_t, zb_f]; done) | (try simp only [h1, zk_t, zk_f, zb_t, zb_f]; rfl) | rfl
def v_D_count (M : zMem) (x0 : Int32) : Int32 := (bif (decide (x0 = 0)) then (M 195 3) else (bif (decide (x0 = (1 : Int32))) then (M 195 0) else (bif (decide (x0 = (2 : Int32))) then (M 195 1) else (bif (v_D_isIn x0 (3 : Int32) (5 : Int32)) then (M 195 (((4 : Int32) + x0) - (3 : Int32)).toNatClampNeg) else (bif (decide (x0 = (6 : Int32))) then (v_D_bitsOfAll (zz_up M 194 0 (0 : Int32)) (4 : Int32)) else (bif (decide (x0 = (7 : Int32))) then (v_D_fameOfAll (zz_up M 194 0 (0 : Int32))) else (bif (decide (x0 = (8 : Int32))) then (v_D_bitsOfAll (zz_up M 194 0 (0 : Int32)) (1 : Int32)) else (bif (decide (x0 = (9 : Int32))) then (M 195 7) else (bif (decide (x0 = (10 : Int32))) then (M 194 6) else (-1 : Int32))))))))))
def w_D_count (M : zMem) (x0 : Int32) : zMem := (zz_up M 194 0 (0 : Int32))
def ok_D_count (M : zMem) (x0 : Int32) : Prop := ((decide (x0 = 0)) = false → ((decide (x0 = (1 : Int32))) = false → ((decide (x0 = (2 : Int32))) = false → (((v_D_isIn x0 (3 : Int32) (5 : Int32)) = true → zz_in (((4 : Int32) + x0) - (3 : Int32)) 709 = true) ∧ ((v_D_isIn x0 (3 : Int32) (5 : Int32)) = false → (((decide (x0 = (6 : Int32))) = true → ok_D_bitsOfAll (zz_up M 194 0 (0 : Int32)) (4 : Int32)) ∧ ((decide (x0 = (6 : Int32))) = false → (((decide (x0 = (7 : Int32))) = true → ok_D_fameOfAll (zz_up M 194 0 (0 : Int32))) ∧ ((decide (x0 = (7 : Int32))) = false → ((decide (x0 = (8 : Int32))) = true → ok_D_bitsOfAll (zz_up M 194 0 (0 : Int32)) (1 : Int32)))))))))))
set_option maxRecDepth 20000 in
set_option maxHeartbeats 2000000 in
theorem s_D_count (L e : Nat) (J : zJem) (d : Nat) (M : zMem) (x0 : Int32) (k0 : ok_D_count M x0) : zz_D (zm_D_count, d + 3, 0, [some (.ref (194 : Nat)), some (.int x0)], []) (zt_T L, zt_R, M, J, e) = some (.inl (some (.int (v_D_count M x0))), (zt_T L, zt_R, (w_D_count M x0), J, e)) := by
  unfold ok_D_count at k0
  unfold v_D_count w_D_count
  refine (zz_go 2 (fr' := (zm_D_count, d + 3, 2, [some (.ref (194 : Nat)), some (.int x0)], [.int (0 : Int32), .ref (194 : Nat)])) (h' := (zt_T L, zt_R, M, J, e)) (fun _ => rfl)).trans ?_
  refine zl_putI rfl rfl rfl rfl ?_
  refine (zz_go 1 (fr' := (zm_D_count, d + 3, 6, [some (.ref (194 : Nat)), some (.int x0)], [.int x0])) (h' := (zt_T L, zt_R, (zz_up M 194 0 (0 : Int32)), J, e)) (fun _ => rfl)).trans ?_
  rcases zz_bc (decide (x0 = 0)) with h1 | h1
  · refine zo_neT rfl h1 ?_
    refine (zz_go 1 (fr' := (zm_D_count, d + 3, 10, [some (.ref (194 : Nat)), some (.int x0)], [.ref (194 : Nat)])) (h' := (zt_T L, zt_R, (zz_up M 194 0 (0 : Int32)), J, e)) (fun _ => rfl)).trans ?_
    refine zl_getR (r := 195) rfl rfl rfl ?_
    refine (zz_go 1 (fr' := (zm_D_count, d + 3, 14, [some (.ref (194 : Nat)), some (.int x0)], [.int (3 : Int32), .ref (195 : Nat)])) (h' := (zt_T L, zt_R, (zz_up M 194 0 (0 : Int32)), J, e)) (fun _ => rfl)).trans ?_
    refine zl_iaN (v := (M 195 3)) 3 rfl rfl (by decide) (by decide) ((zu_ne (rfl)).trans rfl) ?_
    refine zl_retI rfl rfl ?_
    first | (simp only [h1, zk_t, zk_f, zb_t, zb_f]; done) | (simp only [h1, zk_t, zk_f, zb_t, zb_f]; rfl) | (try simp only [h1, zk_t, zk_f, zb_t, zb_f]; done) | (try simp only [h1, zk_t, zk_f, zb_t, zb_f]; rfl) | rfl
  · refine zo_neF rfl h1 ?_
    have k2 := k0 h1
    refine (zz_go 2 (fr' := (zm_D_count, d + 3, 18, [some (.ref (194 : Nat)), some (.int x0)], [.int (1 : Int32), .int x0])) (h' := (zt_T L, zt_R, (zz_up M 194 0 (0 : Int32)), J, e)) (fun _ => rfl)).trans ?_
    rcases zz_bc (decide (x0 = (1 : Int32))) with h3 | h3
    · refine zc_neT rfl h3 ?_
      refine (zz_go 1 (fr' := (zm_D_count, d + 3, 22, [some (.ref (194 : Nat)), some (.int x0)], [.ref (194 : Nat)])) (h' := (zt_T L, zt_R, (zz_up M 194 0 (0 : Int32)), J, e)) (fun _ => rfl)).trans ?_
      refine zl_getR (r := 195) rfl rfl rfl ?_
      refine (zz_go 1 (fr' := (zm_D_count, d + 3, 26, [some (.ref (194 : Nat)), some (.int x0)], [.int (0 : Int32), .ref (195 : Nat)])) (h' := (zt_T L, zt_R, (zz_up M 194 0 (0 : Int32)), J, e)) (fun _ => rfl)).trans ?_
      refine zl_iaN (v := (M 195 0)) 0 rfl rfl (by decide) (by decide) ((zu_ne (rfl)).trans rfl) ?_
      refine zl_retI rfl rfl ?_
      first | (simp only [h1, h3, zk_t, zk_f, zb_t, zb_f]; done) | (simp only [h1, h3, zk_t, zk_f, zb_t, zb_f]; rfl) | (try simp only [h3, zk_t, zk_f, zb_t, zb_f]; try simp only [h1, zk_t, zk_f, zb_t, zb_f]; done) | (try simp only [h3, zk_t, zk_f, zb_t, zb_f]; try simp only [h1, zk_t, zk_f, zb_t, zb_f]; rfl) | rfl
    · refine zc_neF rfl h3 ?_
      have k4 := k2 h3
      refine (zz_go 2 (fr' := (zm_D_count, d + 3, 30, [some (.ref (194 : Nat)), some (.int x0)], [.int (2 : Int32), .int x0])) (h' := (zt_T L, zt_R, (zz_up M 194 0 (0 : Int32)), J, e)) (fun _ => rfl)).trans ?_
      rcases zz_bc (decide (x0 = (2 : Int32))) with h5 | h5
      · refine zc_neT rfl h5 ?_
        refine (zz_go 1 (fr' := (zm_D_count, d + 3, 34, [some (.ref (194 : Nat)), some (.int x0)], [.ref (194 : Nat)])) (h' := (zt_T L, zt_R, (zz_up M 194 0 (0 : Int32)), J, e)) (fun _ => rfl)).trans ?_
        refine zl_getR (r := 195) rfl rfl rfl ?_
        refine (zz_go 1 (fr' := (zm_D_count, d + 3, 38, [some (.ref (194 : Nat)), some (.int x0)], [.int (1 : Int32), .ref (195 : Nat)])) (h' := (zt_T L, zt_R, (zz_up M 194 0 (0 : Int32)), J, e)) (fun _ => rfl)).trans ?_
        refine zl_iaN (v := (M 195 1)) 1 rfl rfl (by decide) (by decide) ((zu_ne (rfl)).trans rfl) ?_
        refine zl_retI rfl rfl ?_
        first | (simp only [h1, h3, h5, zk_t, zk_f, zb_t, zb_f]; done) | (simp only [h1, h3, h5, zk_t, zk_f, zb_t, zb_f]; rfl) | (try simp only [h3, zk_t, zk_f, zb_t, zb_f]; try simp only [h5, zk_t, zk_f, zb_t, zb_f]; try simp only [h1, zk_t, zk_f, zb_t, zb_f]; done) | (try simp only [h3, zk_t, zk_f, zb_t, zb_f]; try simp only [h5, zk_t, zk_f, zb_t, zb_f]; try simp only [h1, zk_t, zk_f, zb_t, zb_f]; rfl) | rfl
      · refine zc_neF rfl h5 ?_
        have k6 := k4 h5
        refine (zz_go 3 (fr' := (zm_D_count, d + 3, 43, [some (.ref (194 : Nat)), some (.int x0)], [.int (5 : Int32), .int (3 : Int32), .int x0])) (h' := (zt_T L, zt_R, (zz_up M 194 0 (0 : Int32)), J, e)) (fun _ => rfl)).trans ?_
        refine zl_st (d := d + 2) rfl rfl rfl rfl rfl rfl rfl (s_D_isIn L e J (d + 1) x0 (3 : Int32) (5 : Int32)) ?_
        show zz_D (zm_D_count, d + 3, 46, [some (.ref (194 : Nat)), some (.int x0)], [.int (zb (v_D_isIn x0 (3 : Int32) (5 : Int32)))]) (zt_T L, zt_R, (zz_up M 194 0 (0 : Int32)), J, e) = _
        obtain ⟨k8, k9⟩ := k6
        rcases zz_bc (v_D_isIn x0 (3 : Int32) (5 : Int32)) with h7 | h7
        · refine zq_eT rfl h7 ?_
          have k10 := k8 h7
          refine (zz_go 1 (fr' := (zm_D_count, d + 3, 50, [some (.ref (194 : Nat)), some (.int x0)], [.ref (194 : Nat)])) (h' := (zt_T L, zt_R, (zz_up M 194 0 (0 : Int32)), J, e)) (fun _ => rfl)).trans ?_
          refine zl_getR (r := 195) rfl rfl rfl ?_
          refine (zz_go 5 (fr' := (zm_D_count, d + 3, 58, [some (.ref (194 : Nat)), some (.int x0)], [.int (((4 : Int32) + x0) - (3 : Int32)), .ref (195 : Nat)])) (h' := (zt_T L, zt_R, (zz_up M 194 0 (0 : Int32)), J, e)) (fun _ => rfl)).trans ?_
          have g11 : zz_in (((4 : Int32) + x0) - (3 : Int32)) 709 = true := k10
          refine zl_iaN (v := (M 195 (((4 : Int32) + x0) - (3 : Int32)).toNatClampNeg)) (((4 : Int32) + x0) - (3 : Int32)).toNatClampNeg rfl rfl g11 rfl ((zu_ne (rfl)).trans rfl) ?_
          refine zl_retI rfl rfl ?_
          first | (simp only [h1, h3, h5, h7, zk_t, zk_f, zb_t, zb_f]; done) | (simp only [h1, h3, h5, h7, zk_t, zk_f, zb_t, zb_f]; rfl) | (try simp only [h7, zk_t, zk_f, zb_t, zb_f]; try simp only [h3, zk_t, zk_f, zb_t, zb_f]; try simp only [h5, zk_t, zk_f, zb_t, zb_f]; try simp only [h1, zk_t, zk_f, zb_t, zb_f]; done) | (try simp only [h7, zk_t, zk_f, zb_t, zb_f]; try simp only [h3, zk_t, zk_f, zb_t, zb_f]; try simp only [h5, zk_t, zk_f, zb_t, zb_f]; try simp only [h1, zk_t, zk_f, zb_t, zb_f]; rfl) | rfl
        · refine zq_eF rfl h7 ?_
          have k12 := k9 h7
          obtain ⟨k14, k15⟩ := k12
          refine (zz_go 2 (fr' := (zm_D_count, d + 3, 63, [some (.ref (194 : Nat)), some (.int x0)], [.int (6 : Int32), .int x0])) (h' := (zt_T L, zt_R, (zz_up M 194 0 (0 : Int32)), J, e)) (fun _ => rfl)).trans ?_
          rcases zz_bc (decide (x0 = (6 : Int32))) with h13 | h13
          · refine zc_neT rfl h13 ?_
            have k16 := k14 h13
            refine (zz_go 2 (fr' := (zm_D_count, d + 3, 68, [some (.ref (194 : Nat)), some (.int x0)], [.int (4 : Int32), .ref (194 : Nat)])) (h' := (zt_T L, zt_R, (zz_up M 194 0 (0 : Int32)), J, e)) (fun _ => rfl)).trans ?_
            have g17 : ok_D_bitsOfAll (zz_up M 194 0 (0 : Int32)) (4 : Int32) := k16
            refine zl_vt (d := d + 2) rfl rfl rfl rfl rfl rfl rfl rfl rfl rfl (s_D_bitsOfAll L e J (d + 0) (zz_up M 194 0 (0 : Int32)) (4 : Int32) g17) ?_
            show zz_D (zm_D_count, d + 3, 71, [some (.ref (194 : Nat)), some (.int x0)], [.int (v_D_bitsOfAll (zz_up M 194 0 (0 : Int32)) (4 : Int32))]) (zt_T L, zt_R, (zz_up M 194 0 (0 : Int32)), J, e) = _
            refine zl_retI rfl rfl ?_
            first | (simp only [h1, h3, h5, h7, h13, zk_t, zk_f, zb_t, zb_f]; done) | (simp only [h1, h3, h5, h7, h13, zk_t, zk_f, zb_t, zb_f]; rfl) | (try simp only [h7, zk_t, zk_f, zb_t, zb_f]; try simp only [h3, zk_t, zk_f, zb_t, zb_f]; try simp only [h5, zk_t, zk_f, zb_t, zb_f]; try simp only [h13, zk_t, zk_f, zb_t, zb_f]; try simp only [h1, zk_t, zk_f, zb_t, zb_f]; done) | (try simp only [h7, zk_t, zk_f, zb_t, zb_f]; try simp only [h3, zk_t, zk_f, zb_t, zb_f]; try simp only [h5, zk_t, zk_f, zb_t, zb_f]; try simp only [h13, zk_t, zk_f, zb_t, zb_f]; try simp only [h1, zk_t, zk_f, zb_t, zb_f]; rfl) | rfl
          · refine zc_neF rfl h13 ?_
            have k18 := k15 h13
            obtain ⟨k20, k21⟩ := k18
            refine (zz_go 2 (fr' := (zm_D_count, d + 3, 75, [some (.ref (194 : Nat)), some (.int x0)], [.int (7 : Int32), .int x0])) (h' := (zt_T L, zt_R, (zz_up M 194 0 (0 : Int32)), J, e)) (fun _ => rfl)).trans ?_
            rcases zz_bc (decide (x0 = (7 : Int32))) with h19 | h19
            · refine zc_neT rfl h19 ?_
              have k22 := k20 h19
              refine (zz_go 1 (fr' := (zm_D_count, d + 3, 79, [some (.ref (194 : Nat)), some (.int x0)], [.ref (194 : Nat)])) (h' := (zt_T L, zt_R, (zz_up M 194 0 (0 : Int32)), J, e)) (fun _ => rfl)).trans ?_
              have g23 : ok_D_fameOfAll (zz_up M 194 0 (0 : Int32)) := k22
              refine zl_vt (d := d + 2) rfl rfl rfl rfl rfl rfl rfl rfl rfl rfl (s_D_fameOfAll L e J (d + 0) (zz_up M 194 0 (0 : Int32)) g23) ?_
              show zz_D (zm_D_count, d + 3, 82, [some (.ref (194 : Nat)), some (.int x0)], [.int (v_D_fameOfAll (zz_up M 194 0 (0 : Int32)))]) (zt_T L, zt_R, (zz_up M 194 0 (0 : Int32)), J, e) = _
              refine zl_retI rfl rfl ?_
              first | (simp only [h1, h3, h5, h7, h13, h19, zk_t, zk_f, zb_t, zb_f]; done) | (simp only [h1, h3, h5, h7, h13, h19, zk_t, zk_f, zb_t, zb_f]; rfl) | (try simp only [h7, zk_t, zk_f, zb_t, zb_f]; try simp only [h3, zk_t, zk_f, zb_t, zb_f]; try simp only [h5, zk_t, zk_f, zb_t, zb_f]; try simp only [h13, zk_t, zk_f, zb_t, zb_f]; try simp only [h19, zk_t, zk_f, zb_t, zb_f]; try simp only [h1, zk_t, zk_f, zb_t, zb_f]; done) | (try simp only [h7, zk_t, zk_f, zb_t, zb_f]; try simp only [h3, zk_t, zk_f, zb_t, zb_f]; try simp only [h5, zk_t, zk_f, zb_t, zb_f]; try simp only [h13, zk_t, zk_f, zb_t, zb_f]; try simp only [h19, zk_t, zk_f, zb_t, zb_f]; try simp only [h1, zk_t, zk_f, zb_t, zb_f]; rfl) | rfl
            · refine zc_neF rfl h19 ?_
              have k24 := k21 h19
              refine (zz_go 2 (fr' := (zm_D_count, d + 3, 86, [some (.ref (194 : Nat)), some (.int x0)], [.int (8 : Int32), .int x0])) (h' := (zt_T L, zt_R, (zz_up M 194 0 (0 : Int32)), J, e)) (fun _ => rfl)).trans ?_
              rcases zz_bc (decide (x0 = (8 : Int32))) with h25 | h25
              · refine zc_neT rfl h25 ?_
                have k26 := k24 h25
                refine (zz_go 2 (fr' := (zm_D_count, d + 3, 91, [some (.ref (194 : Nat)), some (.int x0)], [.int (1 : Int32), .ref (194 : Nat)])) (h' := (zt_T L, zt_R, (zz_up M 194 0 (0 : Int32)), J, e)) (fun _ => rfl)).trans ?_
                have g27 : ok_D_bitsOfAll (zz_up M 194 0 (0 : Int32)) (1 : Int32) := k26
                refine zl_vt (d := d + 2) rfl rfl rfl rfl rfl rfl rfl rfl rfl rfl (s_D_bitsOfAll L e J (d + 0) (zz_up M 194 0 (0 : Int32)) (1 : Int32) g27) ?_
                show zz_D (zm_D_count, d + 3, 94, [some (.ref (194 : Nat)), some (.int x0)], [.int (v_D_bitsOfAll (zz_up M 194 0 (0 : Int32)) (1 : Int32))]) (zt_T L, zt_R, (zz_up M 194 0 (0 : Int32)), J, e) = _
                refine zl_retI rfl rfl ?_
                first | (simp only [h1, h3, h5, h7, h13, h19, h25, zk_t, zk_f, zb_t, zb_f]; done) | (simp only [h1, h3, h5, h7, h13, h19, h25, zk_t, zk_f, zb_t, zb_f]; rfl) | (try simp only [h7, zk_t, zk_f, zb_t, zb_f]; try simp only [h3, zk_t, zk_f, zb_t, zb_f]; try simp only [h5, zk_t, zk_f, zb_t, zb_f]; try simp only [h13, zk_t, zk_f, zb_t, zb_f]; try simp only [h19, zk_t, zk_f, zb_t, zb_f]; try simp only [h25, zk_t, zk_f, zb_t, zb_f]; try simp only [h1, zk_t, zk_f, zb_t, zb_f]; done) | (try simp only [h7, zk_t, zk_f, zb_t, zb_f]; try simp only [h3, zk_t, zk_f, zb_t, zb_f]; try simp only [h5, zk_t, zk_f, zb_t, zb_f]; try simp only [h13, zk_t, zk_f, zb_t, zb_f]; try simp only [h19, zk_t, zk_f, zb_t, zb_f]; try simp only [h25, zk_t, zk_f, zb_t, zb_f]; try simp only [h1, zk_t, zk_f, zb_t, zb_f]; rfl) | rfl
              · refine zc_neF rfl h25 ?_
                refine (zz_go 2 (fr' := (zm_D_count, d + 3, 98, [some (.ref (194 : Nat)), some (.int x0)], [.int (9 : Int32), .int x0])) (h' := (zt_T L, zt_R, (zz_up M 194 0 (0 : Int32)), J, e)) (fun _ => rfl)).trans ?_
                rcases zz_bc (decide (x0 = (9 : Int32))) with h28 | h28
                · refine zc_neT rfl h28 ?_
                  refine (zz_go 1 (fr' := (zm_D_count, d + 3, 102, [some (.ref (194 : Nat)), some (.int x0)], [.ref (194 : Nat)])) (h' := (zt_T L, zt_R, (zz_up M 194 0 (0 : Int32)), J, e)) (fun _ => rfl)).trans ?_
                  refine zl_getR (r := 195) rfl rfl rfl ?_
                  refine (zz_go 1 (fr' := (zm_D_count, d + 3, 107, [some (.ref (194 : Nat)), some (.int x0)], [.int (7 : Int32), .ref (195 : Nat)])) (h' := (zt_T L, zt_R, (zz_up M 194 0 (0 : Int32)), J, e)) (fun _ => rfl)).trans ?_
                  refine zl_iaN (v := (M 195 7)) 7 rfl rfl (by decide) (by decide) ((zu_ne (rfl)).trans rfl) ?_
                  refine zl_retI rfl rfl ?_
                  first | (simp only [h1, h3, h5, h7, h13, h19, h25, h28, zk_t, zk_f, zb_t, zb_f]; done) | (simp only [h1, h3, h5, h7, h13, h19, h25, h28, zk_t, zk_f, zb_t, zb_f]; rfl) | (try simp only [h7, zk_t, zk_f, zb_t, zb_f]; try simp only [h3, zk_t, zk_f, zb_t, zb_f]; try simp only [h5, zk_t, zk_f, zb_t, zb_f]; try simp only [h13, zk_t, zk_f, zb_t, zb_f]; try simp only [h19, zk_t, zk_f, zb_t, zb_f]; try simp only [h25, zk_t, zk_f, zb_t, zb_f]; try simp only [h28, zk_t, zk_f, zb_t, zb_f]; try simp only [h1, zk_t, zk_f, zb_t, zb_f]; done) | (try simp only [h7, zk_t, zk_f, zb_t, zb_f]; try simp only [h3, zk_t, zk_f, zb_t, zb_f]; try simp only [h5, zk_t, zk_f, zb_t, zb_f]; try simp only [h13, zk_t, zk_f, zb_t, zb_f]; try simp only [h19, zk_t, zk_f, zb_t, zb_f]; try simp only [h25, zk_t, zk_f, zb_t, zb_f]; try simp only [h28, zk_t, zk_f, zb_t, zb_f]; try simp only [h1, zk_t, zk_f, zb_t, zb_f]; rfl) | rfl
                · refine zc_neF rfl h28 ?_
                  refine zz_jn (X := zz_D (zm_D_count, d + 3, 123, [none, none], [.int (bif (decide (x0 = (10 : Int32))) then (M 194 6) else (-1 : Int32))]) (zt_T L, zt_R, (zz_up M 194 0 (0 : Int32)), J, e)) (fun j29 => ?_) ?_
                  · refine (zz_go 2 (fr' := (zm_D_count, d + 3, 112, [some (.ref (194 : Nat)), some (.int x0)], [.int (10 : Int32), .int x0])) (h' := (zt_T L, zt_R, (zz_up M 194 0 (0 : Int32)), J, e)) (fun _ => rfl)).trans ?_
                    rcases zz_bc (decide (x0 = (10 : Int32))) with h30 | h30
                    · refine zc_neT rfl h30 ?_
                      refine (zz_go 1 (fr' := (zm_D_count, d + 3, 116, [some (.ref (194 : Nat)), some (.int x0)], [.ref (194 : Nat)])) (h' := (zt_T L, zt_R, (zz_up M 194 0 (0 : Int32)), J, e)) (fun _ => rfl)).trans ?_
                      refine zl_getI rfl (by decide) rfl ((zu_nk rfl).trans rfl) ?_
                      refine (zz_go 1 (fr' := (zm_D_count, d + 3, 123, [some (.ref (194 : Nat)), some (.int x0)], [.int (M 194 6)])) (h' := (zt_T L, zt_R, (zz_up M 194 0 (0 : Int32)), J, e)) (fun _ => rfl)).trans ?_
                      refine zz_weak (L := [none, none]) ⟨Or.inr ⟨rfl, rfl⟩, Or.inr ⟨rfl, rfl⟩, trivial⟩ ?_
                      simpa only [h30, zk_t, zk_f, zb_t, zb_f] using j29
                    · refine zc_neF rfl h30 ?_
                      refine (zz_go 1 (fr' := (zm_D_count, d + 3, 123, [some (.ref (194 : Nat)), some (.int x0)], [.int (-1 : Int32)])) (h' := (zt_T L, zt_R, (zz_up M 194 0 (0 : Int32)), J, e)) (fun _ => rfl)).trans ?_
                      refine zz_weak (L := [none, none]) ⟨Or.inr ⟨rfl, rfl⟩, Or.inr ⟨rfl, rfl⟩, trivial⟩ ?_
                      simpa only [h30, zk_t, zk_f, zb_t, zb_f] using j29
                  refine zl_retI rfl rfl ?_
                  first | (simp only [h1, h3, h5, h7, h13, h19, h25, h28, zk_t, zk_f, zb_t, zb_f]; done) | (simp only [h1, h3, h5, h7, h13, h19, h25, h28, zk_t, zk_f, zb_t, zb_f]; rfl) | (try simp only [h7, zk_t, zk_f, zb_t, zb_f]; try simp only [h3, zk_t, zk_f, zb_t, zb_f]; try simp only [h5, zk_t, zk_f, zb_t, zb_f]; try simp only [h13, zk_t, zk_f, zb_t, zb_f]; try simp only [h19, zk_t, zk_f, zb_t, zb_f]; try simp only [h25, zk_t, zk_f, zb_t, zb_f]; try simp only [h28, zk_t, zk_f, zb_t, zb_f]; try simp only [h1, zk_t, zk_f, zb_t, zb_f]; done) | (try simp only [h7, zk_t, zk_f, zb_t, zb_f]; try simp only [h3, zk_t, zk_f, zb_t, zb_f]; try simp only [h5, zk_t, zk_f, zb_t, zb_f]; try simp only [h13, zk_t, zk_f, zb_t, zb_f]; try simp only [h19, zk_t, zk_f, zb_t, zb_f]; try simp only [h25, zk_t, zk_f, zb_t, zb_f]; try simp only [h28, zk_t, zk_f, zb_t, zb_f]; try simp only [h1, zk_t, zk_f, zb_t, zb_f]; rfl) | rfl
