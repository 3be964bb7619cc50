/-! LIFTED: D_deepOf D_within D_bearers D_kind D_thumb D_fates D_isPlace D_mark D_remembers D_sets D_rub D_ink D_wash D_told D_hold D_does D_luck D_fill D_blank D_reach D_turns D_areKinds D_turned D_lie -/
def g_D_deepOf_1 (M : zMem) (x0 : Int32) (i1 : Nat) (a1 : Int32 × Bool × Int32) : Bool × (Int32 × Bool × Int32) := ((bif (decide ((8 : Int32) < (Int32.ofNat (i1 + 1)))) then false else (bif (decide ((v_D_ofKind M a1.1 (2 : Int32)) = (-1 : Int32))) then false else true)), ((bif (decide ((8 : Int32) < (Int32.ofNat (i1 + 1)))) then a1.1 else (bif (decide ((v_D_ofKind M a1.1 (2 : Int32)) = (-1 : Int32))) then a1.1 else (v_D_ofKind M a1.1 (2 : Int32)))), (bif (decide ((8 : Int32) < (Int32.ofNat (i1 + 1)))) then false else (decide ((v_D_ofKind M a1.1 (2 : Int32)) = (-1 : Int32)))), (bif (decide ((8 : Int32) < (Int32.ofNat (i1 + 1)))) then a1.2.2 else (bif (decide ((v_D_ofKind M a1.1 (2 : Int32)) = (-1 : Int32))) then (Int32.ofNat (i1 + 1)) else a1.2.2))))
def kb_D_deepOf_1 (M : zMem) (x0 : Int32) (i1 : Nat) (a1 : Int32 × Bool × Int32) : Prop := ((decide ((8 : Int32) < (Int32.ofNat (i1 + 1)))) = false → ok_D_ofKind M a1.1 (2 : Int32))
def v_D_deepOf (M : zMem) (x0 : Int32) : Int32 := (bif (zf_wh 1000 (g_D_deepOf_1 M x0) 0 (x0, false, 0)).2.1 then (zf_wh 1000 (g_D_deepOf_1 M x0) 0 (x0, false, 0)).2.2 else (-1 : Int32))
def ok_D_deepOf (M : zMem) (x0 : Int32) : Prop := (zf_wk 1000 (g_D_deepOf_1 M x0) (kb_D_deepOf_1 M x0) 0 (x0, false, 0))
set_option maxRecDepth 20000 in
set_option maxHeartbeats 2000000 in
theorem s_D_deepOf (L e : Nat) (J : zJem) (d : Nat) (M : zMem) (x0 : Int32) (k0 : ok_D_deepOf M x0) : zz_D (zm_D_deepOf, d + 2, 0, [some (.ref (194 : Nat)), some (.int x0), none, none], []) (zt_T L, zt_R, M, J, e) = some (.inl (some (.int (v_D_deepOf M x0))), (zt_T L, zt_R, M, J, e)) := by
  unfold ok_D_deepOf at k0
  unfold v_D_deepOf
  refine (zz_go 4 (fr' := (zm_D_deepOf, d + 2, 4, [some (.ref (194 : Nat)), some (.int x0), some (.int x0), some (.int (1 : Int32))], [])) (h' := (zt_T L, zt_R, M, J, e)) (fun _ => rfl)).trans ?_
  refine zz_weak (L := [some (.ref (194 : Nat)), none, some (.int x0), some (.int (1 : Int32))]) ⟨Or.inl rfl, Or.inr ⟨rfl, rfl⟩, Or.inl rfl, Or.inl rfl, trivial⟩ ?_
  refine zf_whY (X := fun (i1 : Nat) (a1 : Int32 × Bool × Int32) => zz_D (zm_D_deepOf, d + 2, 4, [some (.ref (194 : Nat)), none, some (.int a1.1), some (.int (Int32.ofNat (i1 + 1)))], []) (zt_T L, zt_R, M, J, e)) (Y := fun (a1 : Int32 × Bool × Int32) => (bif a1.2.1 then some (.inl (some (.int a1.2.2)), (zt_T L, zt_R, M, J, e)) else zz_D (zm_D_deepOf, d + 2, 30, [none, none, none, none], []) (zt_T L, zt_R, M, J, e))) (g := (g_D_deepOf_1 M x0)) (k := (kb_D_deepOf_1 M x0)) (fun i1 a1 k3 hx1 hx2 => ?_) 1000 0 (x0, false, 0) k0 ?_
  · show zz_D (zm_D_deepOf, d + 2, 4, [some (.ref (194 : Nat)), none, some (.int a1.1), some (.int (Int32.ofNat (i1 + 1)))], []) (zt_T L, zt_R, M, J, e) = _
    unfold kb_D_deepOf_1 at k3
    refine (zz_go 2 (fr' := (zm_D_deepOf, d + 2, 7, [some (.ref (194 : Nat)), none, some (.int a1.1), some (.int (Int32.ofNat (i1 + 1)))], [.int (8 : Int32), .int (Int32.ofNat (i1 + 1))])) (h' := (zt_T L, zt_R, M, J, e)) (fun _ => rfl)).trans ?_
    rcases zz_bc (decide ((8 : Int32) < (Int32.ofNat (i1 + 1)))) with h4 | h4
    · refine zc_gtT rfl h4 ?_
      refine zz_weak (L := [none, none, none, none]) ⟨Or.inr ⟨rfl, rfl⟩, Or.inl rfl, Or.inr ⟨rfl, rfl⟩, Or.inr ⟨rfl, rfl⟩, trivial⟩ ?_
      have y1 := hx2 (by simp only [g_D_deepOf_1, h4, zk_t, zk_f, zb_t, zb_f])
      simpa only [g_D_deepOf_1, h4, zk_t, zk_f, zb_t, zb_f] using y1
    · refine zc_gtF rfl h4 ?_
      have k5 := k3 h4
      refine (zz_go 3 (fr' := (zm_D_deepOf, d + 2, 13, [some (.ref (194 : Nat)), none, some (.int a1.1), some (.int (Int32.ofNat (i1 + 1)))], [.int (2 : Int32), .int a1.1, .ref (194 : Nat)])) (h' := (zt_T L, zt_R, M, J, e)) (fun _ => rfl)).trans ?_
      have g6 : ok_D_ofKind M a1.1 (2 : Int32) := k5
      refine zl_vt (d := d + 1) rfl rfl rfl rfl rfl rfl rfl rfl rfl rfl (s_D_ofKind L e J (d + 0) M a1.1 (2 : Int32) g6) ?_
      show zz_D (zm_D_deepOf, d + 2, 16, [some (.ref (194 : Nat)), none, some (.int a1.1), some (.int (Int32.ofNat (i1 + 1)))], [.int (v_D_ofKind M a1.1 (2 : Int32))]) (zt_T L, zt_R, M, J, e) = _
      refine (zz_go 3 (fr' := (zm_D_deepOf, d + 2, 19, [some (.ref (194 : Nat)), none, some (.int (v_D_ofKind M a1.1 (2 : Int32))), some (.int (Int32.ofNat (i1 + 1)))], [.int (-1 : Int32), .int (v_D_ofKind M a1.1 (2 : Int32))])) (h' := (zt_T L, zt_R, M, J, e)) (fun _ => rfl)).trans ?_
      rcases zz_bc (decide ((v_D_ofKind M a1.1 (2 : Int32)) = (-1 : Int32))) with h7 | h7
      · refine zc_neT rfl h7 ?_
        refine (zz_go 1 (fr' := (zm_D_deepOf, d + 2, 23, [some (.ref (194 : Nat)), none, some (.int (v_D_ofKind M a1.1 (2 : Int32))), some (.int (Int32.ofNat (i1 + 1)))], [.int (Int32.ofNat (i1 + 1))])) (h' := (zt_T L, zt_R, M, J, e)) (fun _ => rfl)).trans ?_
        refine zl_retI rfl rfl ?_
        have y1 := hx2 (by simp only [g_D_deepOf_1, h4, h7, zk_t, zk_f, zb_t, zb_f])
        simpa only [g_D_deepOf_1, h4, h7, zk_t, zk_f, zb_t, zb_f] using y1
      · refine zc_neF rfl h7 ?_
        refine (zz_go 2 (fr' := (zm_D_deepOf, d + 2, 4, [some (.ref (194 : Nat)), none, some (.int (v_D_ofKind M a1.1 (2 : Int32))), some (.int (Int32.ofNat (i1 + 1) + 1))], [])) (h' := (zt_T L, zt_R, M, J, e)) (fun _ => rfl)).trans ?_
        rw [zi_succ (i1 + 1)]
        have y1 := hx1 (by simp only [g_D_deepOf_1, h4, h7, zk_t, zk_f, zb_t, zb_f])
        simpa only [g_D_deepOf_1, h4, h7, zk_t, zk_f, zb_t, zb_f] using y1
  show (bif (zf_wh 1000 (g_D_deepOf_1 M x0) 0 (x0, false, 0)).2.1 then some (.inl (some (.int (zf_wh 1000 (g_D_deepOf_1 M x0) 0 (x0, false, 0)).2.2)), (zt_T L, zt_R, M, J, e)) else zz_D (zm_D_deepOf, d + 2, 30, [none, none, none, none], []) (zt_T L, zt_R, M, J, e)) = _
  refine zz_ec (fun h8 => ?_) (fun h8 => ?_)
  · skip
    first | (simp only [h8, zk_t, zk_f, zb_t, zb_f]; done) | (simp only [h8, zk_t, zk_f, zb_t, zb_f]; rfl) | rfl
  refine (zz_go 1 (fr' := (zm_D_deepOf, d + 2, 31, [none, none, none, none], [.int (-1 : Int32)])) (h' := (zt_T L, zt_R, M, J, e)) (fun _ => rfl)).trans ?_
  refine zl_retI rfl rfl ?_
  first | (simp only [h8, zk_t, zk_f, zb_t, zb_f]; done) | (simp only [h8, zk_t, zk_f, zb_t, zb_f]; rfl) | rfl
def g_D_within_1 (M : zMem) (x0 : Int32) (i1 : Nat) (a1 : Int32 × Int32) : Bool × (Int32 × Int32) := ((bif (decide (a1.2 = (-1 : Int32))) then false else (bif (v_D_isOf a1.1 a1.2) then false else true)), ((bif (decide (a1.2 = (-1 : Int32))) then a1.1 else (bif (v_D_isOf a1.1 a1.2) then a1.1 else (a1.1 ||| (zsl (1 : Int32) a1.2)))), (bif (decide (a1.2 = (-1 : Int32))) then a1.2 else (bif (v_D_isOf a1.1 a1.2) then a1.2 else (v_D_ofKind M a1.2 (2 : Int32))))))
def kb_D_within_1 (M : zMem) (x0 : Int32) (i1 : Nat) (a1 : Int32 × Int32) : Prop := ((decide (a1.2 = (-1 : Int32))) = false → ((v_D_isOf a1.1 a1.2) = false → ok_D_ofKind M a1.2 (2 : Int32)))
def v_D_within (M : zMem) (x0 : Int32) : Int32 := (zf_wh 1000 (g_D_within_1 M x0) 0 ((0 : Int32), x0)).1
def ok_D_within (M : zMem) (x0 : Int32) : Prop := (zf_wk 1000 (g_D_within_1 M x0) (kb_D_within_1 M x0) 0 ((0 : Int32), x0))
set_option maxRecDepth 20000 in
set_option maxHeartbeats 2000000 in
theorem s_D_within (L e : Nat) (J : zJem) (d : Nat) (M : zMem) (x0 : Int32) (k0 : ok_D_within M x0) : zz_D (zm_D_within, d + 2, 0, [some (.ref (194 : Nat)), some (.int x0), none, none], []) (zt_T L, zt_R, M, J, e) = some (.inl (some (.int (v_D_within M x0))), (zt_T L, zt_R, M, J, e)) := by
  unfold ok_D_within at k0
  unfold v_D_within
  refine (zz_go 4 (fr' := (zm_D_within, d + 2, 4, [some (.ref (194 : Nat)), some (.int x0), some (.int (0 : Int32)), some (.int x0)], [])) (h' := (zt_T L, zt_R, M, J, e)) (fun _ => rfl)).trans ?_
  refine zz_weak (L := [some (.ref (194 : Nat)), none, some (.int (0 : Int32)), some (.int x0)]) ⟨Or.inl rfl, Or.inr ⟨rfl, rfl⟩, Or.inl rfl, Or.inl rfl, trivial⟩ ?_
  refine zf_whY (X := fun (i1 : Nat) (a1 : Int32 × Int32) => zz_D (zm_D_within, d + 2, 4, [some (.ref (194 : Nat)), none, some (.int a1.1), some (.int a1.2)], []) (zt_T L, zt_R, M, J, e)) (Y := fun (a1 : Int32 × Int32) => zz_D (zm_D_within, d + 2, 33, [none, none, some (.int a1.1), none], []) (zt_T L, zt_R, M, J, e)) (g := (g_D_within_1 M x0)) (k := (kb_D_within_1 M x0)) (fun i1 a1 k3 hx1 hx2 => ?_) 1000 0 ((0 : Int32), x0) k0 ?_
  · show zz_D (zm_D_within, d + 2, 4, [some (.ref (194 : Nat)), none, some (.int a1.1), some (.int a1.2)], []) (zt_T L, zt_R, M, J, e) = _
    unfold kb_D_within_1 at k3
    refine (zz_go 2 (fr' := (zm_D_within, d + 2, 6, [some (.ref (194 : Nat)), none, some (.int a1.1), some (.int a1.2)], [.int (-1 : Int32), .int a1.2])) (h' := (zt_T L, zt_R, M, J, e)) (fun _ => rfl)).trans ?_
    rcases zz_bc (decide (a1.2 = (-1 : Int32))) with h4 | h4
    · refine zc_eqT rfl h4 ?_
      refine zz_weak (L := [none, none, some (.int a1.1), none]) ⟨Or.inr ⟨rfl, rfl⟩, Or.inl rfl, Or.inl rfl, Or.inr ⟨rfl, rfl⟩, trivial⟩ ?_
      have y1 := hx2 (by simp only [g_D_within_1, h4, zk_t, zk_f, zb_t, zb_f])
      simpa only [g_D_within_1, h4, zk_t, zk_f, zb_t, zb_f] using y1
    · refine zc_eqF rfl h4 ?_
      have k5 := k3 h4
      refine (zz_go 2 (fr' := (zm_D_within, d + 2, 11, [some (.ref (194 : Nat)), none, some (.int a1.1), some (.int a1.2)], [.int a1.2, .int a1.1])) (h' := (zt_T L, zt_R, M, J, e)) (fun _ => rfl)).trans ?_
      refine zl_st (d := d + 1) rfl rfl rfl rfl rfl rfl rfl (s_D_isOf L e J (d + 0) a1.1 a1.2) ?_
      show zz_D (zm_D_within, d + 2, 14, [some (.ref (194 : Nat)), none, some (.int a1.1), some (.int a1.2)], [.int (zb (v_D_isOf a1.1 a1.2))]) (zt_T L, zt_R, M, J, e) = _
      rcases zz_bc (v_D_isOf a1.1 a1.2) with h6 | h6
      · refine zq_fT rfl h6 ?_
        refine zz_weak (L := [none, none, some (.int a1.1), none]) ⟨Or.inr ⟨rfl, rfl⟩, Or.inl rfl, Or.inl rfl, Or.inr ⟨rfl, rfl⟩, trivial⟩ ?_
        have y1 := hx2 (by simp only [g_D_within_1, h4, h6, zk_t, zk_f, zb_t, zb_f])
        simpa only [g_D_within_1, h4, h6, zk_t, zk_f, zb_t, zb_f] using y1
      · refine zq_fF rfl h6 ?_
        have k7 := k5 h6
        refine (zz_go 9 (fr' := (zm_D_within, d + 2, 26, [some (.ref (194 : Nat)), none, some (.int (a1.1 ||| (zsl (1 : Int32) a1.2))), some (.int a1.2)], [.int (2 : Int32), .int a1.2, .ref (194 : Nat)])) (h' := (zt_T L, zt_R, M, J, e)) (fun _ => rfl)).trans ?_
        have g8 : ok_D_ofKind M a1.2 (2 : Int32) := k7
        refine zl_vt (d := d + 1) rfl rfl rfl rfl rfl rfl rfl rfl rfl rfl (s_D_ofKind L e J (d + 0) M a1.2 (2 : Int32) g8) ?_
        show zz_D (zm_D_within, d + 2, 29, [some (.ref (194 : Nat)), none, some (.int (a1.1 ||| (zsl (1 : Int32) a1.2))), some (.int a1.2)], [.int (v_D_ofKind M a1.2 (2 : Int32))]) (zt_T L, zt_R, M, J, e) = _
        refine (zz_go 2 (fr' := (zm_D_within, d + 2, 4, [some (.ref (194 : Nat)), none, some (.int (a1.1 ||| (zsl (1 : Int32) a1.2))), some (.int (v_D_ofKind M a1.2 (2 : Int32)))], [])) (h' := (zt_T L, zt_R, M, J, e)) (fun _ => rfl)).trans ?_
        have y1 := hx1 (by simp only [g_D_within_1, h4, h6, zk_t, zk_f, zb_t, zb_f])
        simpa only [g_D_within_1, h4, h6, zk_t, zk_f, zb_t, zb_f] using y1
  show zz_D (zm_D_within, d + 2, 33, [none, none, some (.int (zf_wh 1000 (g_D_within_1 M x0) 0 ((0 : Int32), x0)).1), none], []) (zt_T L, zt_R, M, J, e) = _
  refine (zz_go 1 (fr' := (zm_D_within, d + 2, 34, [none, none, some (.int (zf_wh 1000 (g_D_within_1 M x0) 0 ((0 : Int32), x0)).1), none], [.int (zf_wh 1000 (g_D_within_1 M x0) 0 ((0 : Int32), x0)).1])) (h' := (zt_T L, zt_R, M, J, e)) (fun _ => rfl)).trans ?_
  refine zl_retI rfl rfl ?_
  rfl
def f_D_bearers_1 (M : zMem) (x0 : Int32) (i1 : Nat) (a1 : Int32) : Int32 := (a1 ||| (bif (decide ((v_D_of M (Int32.ofNat i1) (0 : Int32)) = x0)) then (zsl (1 : Int32) (Int32.ofNat i1)) else (0 : Int32)))
def kb_D_bearers_1 (M : zMem) (x0 : Int32) (i1 : Nat) (a1 : Int32) : Prop := ok_D_of M (Int32.ofNat i1) (0 : Int32)
def v_D_bearers (M : zMem) (x0 : Int32) : Int32 := (zf_for (M 195 3).toNatClampNeg (f_D_bearers_1 M x0) (0 : Int32))
def ok_D_bearers (M : zMem) (x0 : Int32) : Prop := (∀ i1, i1 < (M 195 3).toNatClampNeg → kb_D_bearers_1 M x0 i1 (zf_for i1 (f_D_bearers_1 M x0) (0 : Int32)))
set_option maxRecDepth 20000 in
set_option maxHeartbeats 2000000 in
theorem s_D_bearers (L e : Nat) (J : zJem) (d : Nat) (M : zMem) (x0 : Int32) (k0 : ok_D_bearers M x0) : zz_D (zm_D_bearers, d + 2, 0, [some (.ref (194 : Nat)), some (.int x0), none, none], []) (zt_T L, zt_R, M, J, e) = some (.inl (some (.int (v_D_bearers M x0))), (zt_T L, zt_R, M, J, e)) := by
  unfold ok_D_bearers at k0
  unfold v_D_bearers
  refine (zz_go 4 (fr' := (zm_D_bearers, d + 2, 4, [some (.ref (194 : Nat)), some (.int x0), some (.int (0 : Int32)), some (.int (0 : Int32))], [])) (h' := (zt_T L, zt_R, M, J, e)) (fun _ => rfl)).trans ?_
  refine zf_forD (X := fun (i1 : Nat) (a1 : Int32) => zz_D (zm_D_bearers, d + 2, 4, [some (.ref (194 : Nat)), some (.int x0), some (.int a1), some (.int (Int32.ofNat i1))], []) (zt_T L, zt_R, M, J, e)) (f := (f_D_bearers_1 M x0)) (a := (0 : Int32)) (M 195 3).toNatClampNeg (fun i1 hi1 => ?_) ?_
  · intro hx1
    have k2 := k0 i1 hi1
    generalize zf_for i1 (f_D_bearers_1 M x0) (0 : Int32) = a1 at hx1 k2 ⊢
    show zz_D (zm_D_bearers, d + 2, 4, [some (.ref (194 : Nat)), some (.int x0), some (.int a1), some (.int (Int32.ofNat i1))], []) (zt_T L, zt_R, M, J, e) = _
    unfold kb_D_bearers_1 at k2
    refine (zz_go 2 (fr' := (zm_D_bearers, d + 2, 6, [some (.ref (194 : Nat)), some (.int x0), some (.int a1), some (.int (Int32.ofNat i1))], [.ref (194 : Nat), .int (Int32.ofNat i1)])) (h' := (zt_T L, zt_R, M, J, e)) (fun _ => rfl)).trans ?_
    refine zl_getR (r := 195) rfl rfl rfl ?_
    refine (zz_go 1 (fr' := (zm_D_bearers, d + 2, 10, [some (.ref (194 : Nat)), some (.int x0), some (.int a1), some (.int (Int32.ofNat i1))], [.int (3 : Int32), .ref (195 : Nat), .int (Int32.ofNat i1)])) (h' := (zt_T L, zt_R, M, J, e)) (fun _ => rfl)).trans ?_
    refine zl_iaN (v := (M 195 3)) 3 rfl rfl (by decide) (by decide) rfl ?_
    refine zc_geF rfl (zi_lt hi1) ?_
    refine (zz_go 4 (fr' := (zm_D_bearers, d + 2, 18, [some (.ref (194 : Nat)), some (.int x0), some (.int a1), some (.int (Int32.ofNat i1))], [.int (0 : Int32), .int (Int32.ofNat i1), .ref (194 : Nat), .int a1])) (h' := (zt_T L, zt_R, M, J, e)) (fun _ => rfl)).trans ?_
    have g3 : ok_D_of M (Int32.ofNat i1) (0 : Int32) := k2
    refine zl_vt (d := d + 1) rfl rfl rfl rfl rfl rfl rfl rfl rfl rfl (s_D_of L e J (d + 0) M (Int32.ofNat i1) (0 : Int32) g3) ?_
    show zz_D (zm_D_bearers, d + 2, 21, [some (.ref (194 : Nat)), some (.int x0), some (.int a1), some (.int (Int32.ofNat i1))], [.int (v_D_of M (Int32.ofNat i1) (0 : Int32)), .int a1]) (zt_T L, zt_R, M, J, e) = _
    refine zz_jn (X := zz_D (zm_D_bearers, d + 2, 32, [some (.ref (194 : Nat)), some (.int x0), none, some (.int (Int32.ofNat i1))], [.int (bif (decide ((v_D_of M (Int32.ofNat i1) (0 : Int32)) = x0)) then (zsl (1 : Int32) (Int32.ofNat i1)) else (0 : Int32)), .int a1]) (zt_T L, zt_R, M, J, e)) (fun j4 => ?_) ?_
    · refine (zz_go 1 (fr' := (zm_D_bearers, d + 2, 22, [some (.ref (194 : Nat)), some (.int x0), some (.int a1), some (.int (Int32.ofNat i1))], [.int x0, .int (v_D_of M (Int32.ofNat i1) (0 : Int32)), .int a1])) (h' := (zt_T L, zt_R, M, J, e)) (fun _ => rfl)).trans ?_
      rcases zz_bc (decide ((v_D_of M (Int32.ofNat i1) (0 : Int32)) = x0)) with h5 | h5
      · refine zc_neT rfl h5 ?_
        refine (zz_go 4 (fr' := (zm_D_bearers, d + 2, 32, [some (.ref (194 : Nat)), some (.int x0), some (.int a1), some (.int (Int32.ofNat i1))], [.int (zsl (1 : Int32) (Int32.ofNat i1)), .int a1])) (h' := (zt_T L, zt_R, M, J, e)) (fun _ => rfl)).trans ?_
        refine zz_weak (L := [some (.ref (194 : Nat)), some (.int x0), none, some (.int (Int32.ofNat i1))]) ⟨Or.inl rfl, Or.inl rfl, Or.inr ⟨rfl, rfl⟩, Or.inl rfl, trivial⟩ ?_
        simpa only [h5, zk_t, zk_f, zb_t, zb_f] using j4
      · refine zc_neF rfl h5 ?_
        refine (zz_go 1 (fr' := (zm_D_bearers, d + 2, 32, [some (.ref (194 : Nat)), some (.int x0), some (.int a1), some (.int (Int32.ofNat i1))], [.int (0 : Int32), .int a1])) (h' := (zt_T L, zt_R, M, J, e)) (fun _ => rfl)).trans ?_
        refine zz_weak (L := [some (.ref (194 : Nat)), some (.int x0), none, some (.int (Int32.ofNat i1))]) ⟨Or.inl rfl, Or.inl rfl, Or.inr ⟨rfl, rfl⟩, Or.inl rfl, trivial⟩ ?_
        simpa only [h5, zk_t, zk_f, zb_t, zb_f] using j4
    refine (zz_go 4 (fr' := (zm_D_bearers, d + 2, 4, [some (.ref (194 : Nat)), some (.int x0), some (.int (a1 ||| (bif (decide ((v_D_of M (Int32.ofNat i1) (0 : Int32)) = x0)) then (zsl (1 : Int32) (Int32.ofNat i1)) else (0 : Int32)))), some (.int (Int32.ofNat i1 + 1))], [])) (h' := (zt_T L, zt_R, M, J, e)) (fun _ => rfl)).trans ?_
    rw [zi_succ i1]
    simpa only [f_D_bearers_1] using hx1
  show zz_D (zm_D_bearers, d + 2, 4, [some (.ref (194 : Nat)), some (.int x0), some (.int (zf_for (M 195 3).toNatClampNeg (f_D_bearers_1 M x0) (0 : Int32))), some (.int (Int32.ofNat (M 195 3).toNatClampNeg))], []) (zt_T L, zt_R, M, J, e) = _
  refine (zz_go 2 (fr' := (zm_D_bearers, d + 2, 6, [some (.ref (194 : Nat)), some (.int x0), some (.int (zf_for (M 195 3).toNatClampNeg (f_D_bearers_1 M x0) (0 : Int32))), some (.int (Int32.ofNat (M 195 3).toNatClampNeg))], [.ref (194 : Nat), .int (Int32.ofNat (M 195 3).toNatClampNeg)])) (h' := (zt_T L, zt_R, M, J, e)) (fun _ => rfl)).trans ?_
  refine zl_getR (r := 195) rfl rfl rfl ?_
  refine (zz_go 1 (fr' := (zm_D_bearers, d + 2, 10, [some (.ref (194 : Nat)), some (.int x0), some (.int (zf_for (M 195 3).toNatClampNeg (f_D_bearers_1 M x0) (0 : Int32))), some (.int (Int32.ofNat (M 195 3).toNatClampNeg))], [.int (3 : Int32), .ref (195 : Nat), .int (Int32.ofNat (M 195 3).toNatClampNeg)])) (h' := (zt_T L, zt_R, M, J, e)) (fun _ => rfl)).trans ?_
  refine zl_iaN (v := (M 195 3)) 3 rfl rfl (by decide) (by decide) rfl ?_
  refine zc_geT rfl (zi_ge _) ?_
  refine zz_weak (L := [none, none, some (.int (zf_for (M 195 3).toNatClampNeg (f_D_bearers_1 M x0) (0 : Int32))), none]) ⟨Or.inr ⟨rfl, rfl⟩, Or.inr ⟨rfl, rfl⟩, Or.inl rfl, Or.inr ⟨rfl, rfl⟩, trivial⟩ ?_
  refine (zz_go 1 (fr' := (zm_D_bearers, d + 2, 41, [none, none, some (.int (zf_for (M 195 3).toNatClampNeg (f_D_bearers_1 M x0) (0 : Int32))), none], [.int (zf_for (M 195 3).toNatClampNeg (f_D_bearers_1 M x0) (0 : Int32))])) (h' := (zt_T L, zt_R, M, J, e)) (fun _ => rfl)).trans ?_
  refine zl_retI rfl rfl ?_
  rfl
def v_D_kind (M : zMem) (x0 : Int32) (x1 : Int32) : Int32 := (bif (decide ((bif (v_D_isKind x0) then (bif (v_D_isIn x1 (0 : Int32) (10 : Int32)) then (0 : Int32) else (2 : Int32)) else (1 : Int32)) ≤ 0)) then (bif (decide ((3 : Int32) ≤ x1)) then (bif (decide (x1 = (3 : Int32))) then (v_D_few (zz_up M 194 0 (bif (v_D_isKind x0) then (bif (v_D_isIn x1 (0 : Int32) (10 : Int32)) then (0 : Int32) else (2 : Int32)) else (1 : Int32))) x0) else (bif (decide (x1 = (4 : Int32))) then (v_D_same (zz_up M 194 0 (bif (v_D_isKind x0) then (bif (v_D_isIn x1 (0 : Int32) (10 : Int32)) then (0 : Int32) else (2 : Int32)) else (1 : Int32))) x0) else (bif (decide ((7 : Int32) ≤ x1)) then (bif (decide (x1 = (7 : Int32))) then (v_D_holes (zz_up M 194 0 (bif (v_D_isKind x0) then (bif (v_D_isIn x1 (0 : Int32) (10 : Int32)) then (0 : Int32) else (2 : Int32)) else (1 : Int32))) x0) else (bif (decide (x1 = (8 : Int32))) then (v_D_deepOf (zz_up M 194 0 (bif (v_D_isKind x0) then (bif (v_D_isIn x1 (0 : Int32) (10 : Int32)) then (0 : Int32) else (2 : Int32)) else (1 : Int32))) x0) else (bif (decide (x1 = (9 : Int32))) then (v_D_within (zz_up M 194 0 (bif (v_D_isKind x0) then (bif (v_D_isIn x1 (0 : Int32) (10 : Int32)) then (0 : Int32) else (2 : Int32)) else (1 : Int32))) x0) else (v_D_bearers (zz_up M 194 0 (bif (v_D_isKind x0) then (bif (v_D_isIn x1 (0 : Int32) (10 : Int32)) then (0 : Int32) else (2 : Int32)) else (1 : Int32))) x0)))) else (v_D_pieces (zz_up M 194 0 (bif (v_D_isKind x0) then (bif (v_D_isIn x1 (0 : Int32) (10 : Int32)) then (0 : Int32) else (2 : Int32)) else (1 : Int32))) x0 (decide (x1 = (6 : Int32))))))) else (v_D_ofKind (zz_up M 194 0 (bif (v_D_isKind x0) then (bif (v_D_isIn x1 (0 : Int32) (10 : Int32)) then (0 : Int32) else (2 : Int32)) else (1 : Int32))) x0 x1)) else (0 : Int32))
def w_D_kind (M : zMem) (x0 : Int32) (x1 : Int32) : zMem := (zz_up M 194 0 (bif (v_D_isKind x0) then (bif (v_D_isIn x1 (0 : Int32) (10 : Int32)) then (0 : Int32) else (2 : Int32)) else (1 : Int32)))
def ok_D_kind (M : zMem) (x0 : Int32) (x1 : Int32) : Prop := ((decide ((bif (v_D_isKind x0) then (bif (v_D_isIn x1 (0 : Int32) (10 : Int32)) then (0 : Int32) else (2 : Int32)) else (1 : Int32)) ≤ 0)) = true → (((decide ((3 : Int32) ≤ x1)) = true → (((decide (x1 = (3 : Int32))) = true → ok_D_few (zz_up M 194 0 (bif (v_D_isKind x0) then (bif (v_D_isIn x1 (0 : Int32) (10 : Int32)) then (0 : Int32) else (2 : Int32)) else (1 : Int32))) x0) ∧ ((decide (x1 = (3 : Int32))) = false → (((decide (x1 = (4 : Int32))) = true → ok_D_same (zz_up M 194 0 (bif (v_D_isKind x0) then (bif (v_D_isIn x1 (0 : Int32) (10 : Int32)) then (0 : Int32) else (2 : Int32)) else (1 : Int32))) x0) ∧ ((decide (x1 = (4 : Int32))) = false → (((decide ((7 : Int32) ≤ x1)) = true → (((decide (x1 = (7 : Int32))) = true → ok_D_holes (zz_up M 194 0 (bif (v_D_isKind x0) then (bif (v_D_isIn x1 (0 : Int32) (10 : Int32)) then (0 : Int32) else (2 : Int32)) else (1 : Int32))) x0) ∧ ((decide (x1 = (7 : Int32))) = false → (((decide (x1 = (8 : Int32))) = true → ok_D_deepOf (zz_up M 194 0 (bif (v_D_isKind x0) then (bif (v_D_isIn x1 (0 : Int32) (10 : Int32)) then (0 : Int32) else (2 : Int32)) else (1 : Int32))) x0) ∧ ((decide (x1 = (8 : Int32))) = false → (((decide (x1 = (9 : Int32))) = true → ok_D_within (zz_up M 194 0 (bif (v_D_isKind x0) then (bif (v_D_isIn x1 (0 : Int32) (10 : Int32)) then (0 : Int32) else (2 : Int32)) else (1 : Int32))) x0) ∧ ((decide (x1 = (9 : Int32))) = false → ok_D_bearers (zz_up M 194 0 (bif (v_D_isKind x0) then (bif (v_D_isIn x1 (0 : Int32) (10 : Int32)) then (0 : Int32) else (2 : Int32)) else (1 : Int32))) x0))))))) ∧ ((decide ((7 : Int32) ≤ x1)) = false → ok_D_pieces (zz_up M 194 0 (bif (v_D_isKind x0) then (bif (v_D_isIn x1 (0 : Int32) (10 : Int32)) then (0 : Int32) else (2 : Int32)) else (1 : Int32))) x0 (decide (x1 = (6 : Int32)))))))))) ∧ ((decide ((3 : Int32) ≤ x1)) = false → ok_D_ofKind (zz_up M 194 0 (bif (v_D_isKind x0) then (bif (v_D_isIn x1 (0 : Int32) (10 : Int32)) then (0 : Int32) else (2 : Int32)) else (1 : Int32))) x0 x1)))
set_option maxRecDepth 20000 in
set_option maxHeartbeats 2000000 in
theorem s_D_kind (L e : Nat) (J : zJem) (d : Nat) (M : zMem) (x0 : Int32) (x1 : Int32) (k0 : ok_D_kind M x0 x1) : zz_D (zm_D_kind, d + 5, 0, [some (.ref (194 : Nat)), some (.int x0), some (.int x1)], []) (zt_T L, zt_R, M, J, e) = some (.inl (some (.int (v_D_kind M x0 x1))), (zt_T L, zt_R, (w_D_kind M x0 x1), J, e)) := by
  unfold ok_D_kind at k0
  unfold v_D_kind w_D_kind
  refine (zz_go 2 (fr' := (zm_D_kind, d + 5, 2, [some (.ref (194 : Nat)), some (.int x0), some (.int x1)], [.int x0, .ref (194 : Nat)])) (h' := (zt_T L, zt_R, M, J, e)) (fun _ => rfl)).trans ?_
  refine zl_st (d := d + 4) rfl rfl rfl rfl rfl rfl rfl (s_D_isKind L e J (d + 2) x0) ?_
  show zz_D (zm_D_kind, d + 5, 5, [some (.ref (194 : Nat)), some (.int x0), some (.int x1)], [.int (zb (v_D_isKind x0)), .ref (194 : Nat)]) (zt_T L, zt_R, M, J, e) = _
  refine zz_jn (X := zz_D (zm_D_kind, d + 5, 27, [some (.ref (194 : Nat)), some (.int x0), some (.int x1)], [.int (bif (v_D_isKind x0) then (bif (v_D_isIn x1 (0 : Int32) (10 : Int32)) then (0 : Int32) else (2 : Int32)) else (1 : Int32)), .ref (194 : Nat)]) (zt_T L, zt_R, M, J, e)) (fun j1 => ?_) ?_
  · rcases zz_bc (v_D_isKind x0) with h2 | h2
    · refine zq_fT rfl h2 ?_
      refine (zz_go 3 (fr' := (zm_D_kind, d + 5, 16, [some (.ref (194 : Nat)), some (.int x0), some (.int x1)], [.int (10 : Int32), .int (0 : Int32), .int x1, .ref (194 : Nat)])) (h' := (zt_T L, zt_R, M, J, e)) (fun _ => rfl)).trans ?_
      refine zl_st (d := d + 4) rfl rfl rfl rfl rfl rfl rfl (s_D_isIn L e J (d + 3) x1 (0 : Int32) (10 : Int32)) ?_
      show zz_D (zm_D_kind, d + 5, 19, [some (.ref (194 : Nat)), some (.int x0), some (.int x1)], [.int (zb (v_D_isIn x1 (0 : Int32) (10 : Int32))), .ref (194 : Nat)]) (zt_T L, zt_R, M, J, e) = _
      refine zz_jn (X := zz_D (zm_D_kind, d + 5, 27, [some (.ref (194 : Nat)), some (.int x0), some (.int x1)], [.int (bif (v_D_isIn x1 (0 : Int32) (10 : Int32)) then (0 : Int32) else (2 : Int32)), .ref (194 : Nat)]) (zt_T L, zt_R, M, J, e)) (fun j3 => ?_) ?_
      · rcases zz_bc (v_D_isIn x1 (0 : Int32) (10 : Int32)) with h4 | h4
        · refine zq_fT rfl h4 ?_
          refine (zz_go 1 (fr' := (zm_D_kind, d + 5, 27, [some (.ref (194 : Nat)), some (.int x0), some (.int x1)], [.int (0 : Int32), .ref (194 : Nat)])) (h' := (zt_T L, zt_R, M, J, e)) (fun _ => rfl)).trans ?_
          simpa only [h4, zk_t, zk_f, zb_t, zb_f] using j3
        · refine zq_fF rfl h4 ?_
          refine (zz_go 2 (fr' := (zm_D_kind, d + 5, 27, [some (.ref (194 : Nat)), some (.int x0), some (.int x1)], [.int (2 : Int32), .ref (194 : Nat)])) (h' := (zt_T L, zt_R, M, J, e)) (fun _ => rfl)).trans ?_
          simpa only [h4, zk_t, zk_f, zb_t, zb_f] using j3
      simpa only [h2, zk_t, zk_f, zb_t, zb_f] using j1
    · refine zq_fF rfl h2 ?_
      refine (zz_go 2 (fr' := (zm_D_kind, d + 5, 27, [some (.ref (194 : Nat)), some (.int x0), some (.int x1)], [.int (1 : Int32), .ref (194 : Nat)])) (h' := (zt_T L, zt_R, M, J, e)) (fun _ => rfl)).trans ?_
      simpa only [h2, zk_t, zk_f, zb_t, zb_f] using j1
  refine zl_putI rfl rfl rfl rfl ?_
  refine (zz_go 1 (fr' := (zm_D_kind, d + 5, 31, [some (.ref (194 : Nat)), some (.int x0), some (.int x1)], [.ref (194 : Nat)])) (h' := (zt_T L, zt_R, (zz_up M 194 0 (bif (v_D_isKind x0) then (bif (v_D_isIn x1 (0 : Int32) (10 : Int32)) then (0 : Int32) else (2 : Int32)) else (1 : Int32))), J, e)) (fun _ => rfl)).trans ?_
  refine zl_getI rfl (by decide) rfl zu_eq ?_
  rcases zz_bc (decide ((bif (v_D_isKind x0) then (bif (v_D_isIn x1 (0 : Int32) (10 : Int32)) then (0 : Int32) else (2 : Int32)) else (1 : Int32)) ≤ 0)) with h5 | h5
  · refine zo_leT rfl h5 ?_
    have k6 := k0 h5
    obtain ⟨k8, k9⟩ := k6
    refine (zz_go 2 (fr' := (zm_D_kind, d + 5, 41, [some (.ref (194 : Nat)), some (.int x0), some (.int x1)], [.int (3 : Int32), .int x1])) (h' := (zt_T L, zt_R, (zz_up M 194 0 (bif (v_D_isKind x0) then (bif (v_D_isIn x1 (0 : Int32) (10 : Int32)) then (0 : Int32) else (2 : Int32)) else (1 : Int32))), J, e)) (fun _ => rfl)).trans ?_
    rcases zz_bc (decide ((3 : Int32) ≤ x1)) with h7 | h7
    · refine zc_geT rfl h7 ?_
      have k10 := k8 h7
      obtain ⟨k12, k13⟩ := k10
      refine (zz_go 2 (fr' := (zm_D_kind, d + 5, 53, [some (.ref (194 : Nat)), some (.int x0), some (.int x1)], [.int (3 : Int32), .int x1])) (h' := (zt_T L, zt_R, (zz_up M 194 0 (bif (v_D_isKind x0) then (bif (v_D_isIn x1 (0 : Int32) (10 : Int32)) then (0 : Int32) else (2 : Int32)) else (1 : Int32))), J, e)) (fun _ => rfl)).trans ?_
      rcases zz_bc (decide (x1 = (3 : Int32))) with h11 | h11
      · refine zc_neT rfl h11 ?_
        have k14 := k12 h11
        refine (zz_go 2 (fr' := (zm_D_kind, d + 5, 58, [some (.ref (194 : Nat)), some (.int x0), some (.int x1)], [.int x0, .ref (194 : Nat)])) (h' := (zt_T L, zt_R, (zz_up M 194 0 (bif (v_D_isKind x0) then (bif (v_D_isIn x1 (0 : Int32) (10 : Int32)) then (0 : Int32) else (2 : Int32)) else (1 : Int32))), J, e)) (fun _ => rfl)).trans ?_
        have g15 : ok_D_few (zz_up M 194 0 (bif (v_D_isKind x0) then (bif (v_D_isIn x1 (0 : Int32) (10 : Int32)) then (0 : Int32) else (2 : Int32)) else (1 : Int32))) x0 := k14
        refine zl_vt (d := d + 4) rfl rfl rfl rfl rfl rfl rfl rfl rfl rfl (s_D_few L e J (d + 1) (zz_up M 194 0 (bif (v_D_isKind x0) then (bif (v_D_isIn x1 (0 : Int32) (10 : Int32)) then (0 : Int32) else (2 : Int32)) else (1 : Int32))) x0 g15) ?_
        show zz_D (zm_D_kind, d + 5, 61, [some (.ref (194 : Nat)), some (.int x0), some (.int x1)], [.int (v_D_few (zz_up M 194 0 (bif (v_D_isKind x0) then (bif (v_D_isIn x1 (0 : Int32) (10 : Int32)) then (0 : Int32) else (2 : Int32)) else (1 : Int32))) x0)]) (zt_T L, zt_R, (zz_up M 194 0 (bif (v_D_isKind x0) then (bif (v_D_isIn x1 (0 : Int32) (10 : Int32)) then (0 : Int32) else (2 : Int32)) else (1 : Int32))), J, e) = _
        refine zl_retI rfl rfl ?_
        first | (simp only [h5, h7, h11, zk_t, zk_f, zb_t, zb_f]; done) | (simp only [h5, h7, h11, zk_t, zk_f, zb_t, zb_f]; rfl) | rfl
      · refine zc_neF rfl h11 ?_
        have k16 := k13 h11
        obtain ⟨k18, k19⟩ := k16
        refine (zz_go 2 (fr' := (zm_D_kind, d + 5, 64, [some (.ref (194 : Nat)), some (.int x0), some (.int x1)], [.int (4 : Int32), .int x1])) (h' := (zt_T L, zt_R, (zz_up M 194 0 (bif (v_D_isKind x0) then (bif (v_D_isIn x1 (0 : Int32) (10 : Int32)) then (0 : Int32) else (2 : Int32)) else (1 : Int32))), J, e)) (fun _ => rfl)).trans ?_
        rcases zz_bc (decide (x1 = (4 : Int32))) with h17 | h17
        · refine zc_neT rfl h17 ?_
          have k20 := k18 h17
          refine (zz_go 2 (fr' := (zm_D_kind, d + 5, 69, [some (.ref (194 : Nat)), some (.int x0), some (.int x1)], [.int x0, .ref (194 : Nat)])) (h' := (zt_T L, zt_R, (zz_up M 194 0 (bif (v_D_isKind x0) then (bif (v_D_isIn x1 (0 : Int32) (10 : Int32)) then (0 : Int32) else (2 : Int32)) else (1 : Int32))), J, e)) (fun _ => rfl)).trans ?_
          have g21 : ok_D_same (zz_up M 194 0 (bif (v_D_isKind x0) then (bif (v_D_isIn x1 (0 : Int32) (10 : Int32)) then (0 : Int32) else (2 : Int32)) else (1 : Int32))) x0 := k20
          refine zl_vt (d := d + 4) rfl rfl rfl rfl rfl rfl rfl rfl rfl rfl (s_D_same L e J (d + 2) (zz_up M 194 0 (bif (v_D_isKind x0) then (bif (v_D_isIn x1 (0 : Int32) (10 : Int32)) then (0 : Int32) else (2 : Int32)) else (1 : Int32))) x0 g21) ?_
          show zz_D (zm_D_kind, d + 5, 72, [some (.ref (194 : Nat)), some (.int x0), some (.int x1)], [.int (v_D_same (zz_up M 194 0 (bif (v_D_isKind x0) then (bif (v_D_isIn x1 (0 : Int32) (10 : Int32)) then (0 : Int32) else (2 : Int32)) else (1 : Int32))) x0)]) (zt_T L, zt_R, (zz_up M 194 0 (bif (v_D_isKind x0) then (bif (v_D_isIn x1 (0 : Int32) (10 : Int32)) then (0 : Int32) else (2 : Int32)) else (1 : Int32))), J, e) = _
          refine zl_retI rfl rfl ?_
          first | (simp only [h5, h7, h11, h17, zk_t, zk_f, zb_t, zb_f]; done) | (simp only [h5, h7, h11, h17, zk_t, zk_f, zb_t, zb_f]; rfl) | rfl
        · refine zc_neF rfl h17 ?_
          have k22 := k19 h17
          obtain ⟨k24, k25⟩ := k22
          refine (zz_go 2 (fr' := (zm_D_kind, d + 5, 76, [some (.ref (194 : Nat)), some (.int x0), some (.int x1)], [.int (7 : Int32), .int x1])) (h' := (zt_T L, zt_R, (zz_up M 194 0 (bif (v_D_isKind x0) then (bif (v_D_isIn x1 (0 : Int32) (10 : Int32)) then (0 : Int32) else (2 : Int32)) else (1 : Int32))), J, e)) (fun _ => rfl)).trans ?_
          rcases zz_bc (decide ((7 : Int32) ≤ x1)) with h23 | h23
          · refine zc_geT rfl h23 ?_
            have k26 := k24 h23
            obtain ⟨k28, k29⟩ := k26
            refine (zz_go 2 (fr' := (zm_D_kind, d + 5, 99, [some (.ref (194 : Nat)), some (.int x0), some (.int x1)], [.int (7 : Int32), .int x1])) (h' := (zt_T L, zt_R, (zz_up M 194 0 (bif (v_D_isKind x0) then (bif (v_D_isIn x1 (0 : Int32) (10 : Int32)) then (0 : Int32) else (2 : Int32)) else (1 : Int32))), J, e)) (fun _ => rfl)).trans ?_
            rcases zz_bc (decide (x1 = (7 : Int32))) with h27 | h27
            · refine zc_neT rfl h27 ?_
              have k30 := k28 h27
              refine (zz_go 2 (fr' := (zm_D_kind, d + 5, 104, [some (.ref (194 : Nat)), some (.int x0), some (.int x1)], [.int x0, .ref (194 : Nat)])) (h' := (zt_T L, zt_R, (zz_up M 194 0 (bif (v_D_isKind x0) then (bif (v_D_isIn x1 (0 : Int32) (10 : Int32)) then (0 : Int32) else (2 : Int32)) else (1 : Int32))), J, e)) (fun _ => rfl)).trans ?_
              have g31 : ok_D_holes (zz_up M 194 0 (bif (v_D_isKind x0) then (bif (v_D_isIn x1 (0 : Int32) (10 : Int32)) then (0 : Int32) else (2 : Int32)) else (1 : Int32))) x0 := k30
              refine zl_vt (d := d + 4) rfl rfl rfl rfl rfl rfl rfl rfl rfl rfl (s_D_holes L e J (d + 0) (zz_up M 194 0 (bif (v_D_isKind x0) then (bif (v_D_isIn x1 (0 : Int32) (10 : Int32)) then (0 : Int32) else (2 : Int32)) else (1 : Int32))) x0 g31) ?_
              show zz_D (zm_D_kind, d + 5, 107, [some (.ref (194 : Nat)), some (.int x0), some (.int x1)], [.int (v_D_holes (zz_up M 194 0 (bif (v_D_isKind x0) then (bif (v_D_isIn x1 (0 : Int32) (10 : Int32)) then (0 : Int32) else (2 : Int32)) else (1 : Int32))) x0)]) (zt_T L, zt_R, (zz_up M 194 0 (bif (v_D_isKind x0) then (bif (v_D_isIn x1 (0 : Int32) (10 : Int32)) then (0 : Int32) else (2 : Int32)) else (1 : Int32))), J, e) = _
              refine zl_retI rfl rfl ?_
              first | (simp only [h5, h7, h11, h17, h23, h27, zk_t, zk_f, zb_t, zb_f]; done) | (simp only [h5, h7, h11, h17, h23, h27, zk_t, zk_f, zb_t, zb_f]; rfl) | rfl
            · refine zc_neF rfl h27 ?_
              have k32 := k29 h27
              obtain ⟨k34, k35⟩ := k32
              refine (zz_go 2 (fr' := (zm_D_kind, d + 5, 111, [some (.ref (194 : Nat)), some (.int x0), some (.int x1)], [.int (8 : Int32), .int x1])) (h' := (zt_T L, zt_R, (zz_up M 194 0 (bif (v_D_isKind x0) then (bif (v_D_isIn x1 (0 : Int32) (10 : Int32)) then (0 : Int32) else (2 : Int32)) else (1 : Int32))), J, e)) (fun _ => rfl)).trans ?_
              rcases zz_bc (decide (x1 = (8 : Int32))) with h33 | h33
              · refine zc_neT rfl h33 ?_
                have k36 := k34 h33
                refine (zz_go 2 (fr' := (zm_D_kind, d + 5, 116, [some (.ref (194 : Nat)), some (.int x0), some (.int x1)], [.int x0, .ref (194 : Nat)])) (h' := (zt_T L, zt_R, (zz_up M 194 0 (bif (v_D_isKind x0) then (bif (v_D_isIn x1 (0 : Int32) (10 : Int32)) then (0 : Int32) else (2 : Int32)) else (1 : Int32))), J, e)) (fun _ => rfl)).trans ?_
                have g37 : ok_D_deepOf (zz_up M 194 0 (bif (v_D_isKind x0) then (bif (v_D_isIn x1 (0 : Int32) (10 : Int32)) then (0 : Int32) else (2 : Int32)) else (1 : Int32))) x0 := k36
                refine zl_vt (d := d + 4) rfl rfl rfl rfl rfl rfl rfl rfl rfl rfl (s_D_deepOf L e J (d + 2) (zz_up M 194 0 (bif (v_D_isKind x0) then (bif (v_D_isIn x1 (0 : Int32) (10 : Int32)) then (0 : Int32) else (2 : Int32)) else (1 : Int32))) x0 g37) ?_
                show zz_D (zm_D_kind, d + 5, 119, [some (.ref (194 : Nat)), some (.int x0), some (.int x1)], [.int (v_D_deepOf (zz_up M 194 0 (bif (v_D_isKind x0) then (bif (v_D_isIn x1 (0 : Int32) (10 : Int32)) then (0 : Int32) else (2 : Int32)) else (1 : Int32))) x0)]) (zt_T L, zt_R, (zz_up M 194 0 (bif (v_D_isKind x0) then (bif (v_D_isIn x1 (0 : Int32) (10 : Int32)) then (0 : Int32) else (2 : Int32)) else (1 : Int32))), J, e) = _
                refine zl_retI rfl rfl ?_
                first | (simp only [h5, h7, h11, h17, h23, h27, h33, zk_t, zk_f, zb_t, zb_f]; done) | (simp only [h5, h7, h11, h17, h23, h27, h33, zk_t, zk_f, zb_t, zb_f]; rfl) | rfl
              · refine zc_neF rfl h33 ?_
                have k38 := k35 h33
                refine zz_jn (X := zz_D (zm_D_kind, d + 5, 139, [none, none, none], [.int (bif (decide (x1 = (9 : Int32))) then (v_D_within (zz_up M 194 0 (bif (v_D_isKind x0) then (bif (v_D_isIn x1 (0 : Int32) (10 : Int32)) then (0 : Int32) else (2 : Int32)) else (1 : Int32))) x0) else (v_D_bearers (zz_up M 194 0 (bif (v_D_isKind x0) then (bif (v_D_isIn x1 (0 : Int32) (10 : Int32)) then (0 : Int32) else (2 : Int32)) else (1 : Int32))) x0))]) (zt_T L, zt_R, (zz_up M 194 0 (bif (v_D_isKind x0) then (bif (v_D_isIn x1 (0 : Int32) (10 : Int32)) then (0 : Int32) else (2 : Int32)) else (1 : Int32))), J, e)) (fun j39 => ?_) ?_
                · obtain ⟨k41, k42⟩ := k38
                  refine (zz_go 2 (fr' := (zm_D_kind, d + 5, 123, [some (.ref (194 : Nat)), some (.int x0), some (.int x1)], [.int (9 : Int32), .int x1])) (h' := (zt_T L, zt_R, (zz_up M 194 0 (bif (v_D_isKind x0) then (bif (v_D_isIn x1 (0 : Int32) (10 : Int32)) then (0 : Int32) else (2 : Int32)) else (1 : Int32))), J, e)) (fun _ => rfl)).trans ?_
                  rcases zz_bc (decide (x1 = (9 : Int32))) with h40 | h40
                  · refine zc_neT rfl h40 ?_
                    have k43 := k41 h40
                    refine (zz_go 2 (fr' := (zm_D_kind, d + 5, 128, [some (.ref (194 : Nat)), some (.int x0), some (.int x1)], [.int x0, .ref (194 : Nat)])) (h' := (zt_T L, zt_R, (zz_up M 194 0 (bif (v_D_isKind x0) then (bif (v_D_isIn x1 (0 : Int32) (10 : Int32)) then (0 : Int32) else (2 : Int32)) else (1 : Int32))), J, e)) (fun _ => rfl)).trans ?_
                    have g44 : ok_D_within (zz_up M 194 0 (bif (v_D_isKind x0) then (bif (v_D_isIn x1 (0 : Int32) (10 : Int32)) then (0 : Int32) else (2 : Int32)) else (1 : Int32))) x0 := k43
                    refine zl_vt (d := d + 4) rfl rfl rfl rfl rfl rfl rfl rfl rfl rfl (s_D_within L e J (d + 2) (zz_up M 194 0 (bif (v_D_isKind x0) then (bif (v_D_isIn x1 (0 : Int32) (10 : Int32)) then (0 : Int32) else (2 : Int32)) else (1 : Int32))) x0 g44) ?_
                    show zz_D (zm_D_kind, d + 5, 131, [some (.ref (194 : Nat)), some (.int x0), some (.int x1)], [.int (v_D_within (zz_up M 194 0 (bif (v_D_isKind x0) then (bif (v_D_isIn x1 (0 : Int32) (10 : Int32)) then (0 : Int32) else (2 : Int32)) else (1 : Int32))) x0)]) (zt_T L, zt_R, (zz_up M 194 0 (bif (v_D_isKind x0) then (bif (v_D_isIn x1 (0 : Int32) (10 : Int32)) then (0 : Int32) else (2 : Int32)) else (1 : Int32))), J, e) = _
                    refine (zz_go 1 (fr' := (zm_D_kind, d + 5, 139, [some (.ref (194 : Nat)), some (.int x0), some (.int x1)], [.int (v_D_within (zz_up M 194 0 (bif (v_D_isKind x0) then (bif (v_D_isIn x1 (0 : Int32) (10 : Int32)) then (0 : Int32) else (2 : Int32)) else (1 : Int32))) x0)])) (h' := (zt_T L, zt_R, (zz_up M 194 0 (bif (v_D_isKind x0) then (bif (v_D_isIn x1 (0 : Int32) (10 : Int32)) then (0 : Int32) else (2 : Int32)) else (1 : Int32))), J, e)) (fun _ => rfl)).trans ?_
                    refine zz_weak (L := [none, none, none]) ⟨Or.inr ⟨rfl, rfl⟩, Or.inr ⟨rfl, rfl⟩, Or.inr ⟨rfl, rfl⟩, trivial⟩ ?_
                    simpa only [h40, zk_t, zk_f, zb_t, zb_f] using j39
                  · refine zc_neF rfl h40 ?_
                    have k45 := k42 h40
                    refine (zz_go 2 (fr' := (zm_D_kind, d + 5, 136, [some (.ref (194 : Nat)), some (.int x0), some (.int x1)], [.int x0, .ref (194 : Nat)])) (h' := (zt_T L, zt_R, (zz_up M 194 0 (bif (v_D_isKind x0) then (bif (v_D_isIn x1 (0 : Int32) (10 : Int32)) then (0 : Int32) else (2 : Int32)) else (1 : Int32))), J, e)) (fun _ => rfl)).trans ?_
                    have g46 : ok_D_bearers (zz_up M 194 0 (bif (v_D_isKind x0) then (bif (v_D_isIn x1 (0 : Int32) (10 : Int32)) then (0 : Int32) else (2 : Int32)) else (1 : Int32))) x0 := k45
                    refine zl_vt (d := d + 4) rfl rfl rfl rfl rfl rfl rfl rfl rfl rfl (s_D_bearers L e J (d + 2) (zz_up M 194 0 (bif (v_D_isKind x0) then (bif (v_D_isIn x1 (0 : Int32) (10 : Int32)) then (0 : Int32) else (2 : Int32)) else (1 : Int32))) x0 g46) ?_
                    show zz_D (zm_D_kind, d + 5, 139, [some (.ref (194 : Nat)), some (.int x0), some (.int x1)], [.int (v_D_bearers (zz_up M 194 0 (bif (v_D_isKind x0) then (bif (v_D_isIn x1 (0 : Int32) (10 : Int32)) then (0 : Int32) else (2 : Int32)) else (1 : Int32))) x0)]) (zt_T L, zt_R, (zz_up M 194 0 (bif (v_D_isKind x0) then (bif (v_D_isIn x1 (0 : Int32) (10 : Int32)) then (0 : Int32) else (2 : Int32)) else (1 : Int32))), J, e) = _
                    refine zz_weak (L := [none, none, none]) ⟨Or.inr ⟨rfl, rfl⟩, Or.inr ⟨rfl, rfl⟩, Or.inr ⟨rfl, rfl⟩, trivial⟩ ?_
                    simpa only [h40, zk_t, zk_f, zb_t, zb_f] using j39
                refine zl_retI rfl rfl ?_
                first | (simp only [h5, h7, h11, h17, h23, h27, h33, zk_t, zk_f, zb_t, zb_f]; done) | (simp only [h5, h7, h11, h17, h23, h27, h33, zk_t, zk_f, zb_t, zb_f]; rfl) | rfl
          · refine zc_geF rfl h23 ?_
            have k47 := k25 h23
            refine zz_jn (X := zz_D (zm_D_kind, d + 5, 92, [none, none, none], [.int (zb (decide (x1 = (6 : Int32)))), .int x0, .ref (194 : Nat)]) (zt_T L, zt_R, (zz_up M 194 0 (bif (v_D_isKind x0) then (bif (v_D_isIn x1 (0 : Int32) (10 : Int32)) then (0 : Int32) else (2 : Int32)) else (1 : Int32))), J, e)) (fun j48 => ?_) ?_
            · refine (zz_go 4 (fr' := (zm_D_kind, d + 5, 84, [some (.ref (194 : Nat)), some (.int x0), some (.int x1)], [.int (6 : Int32), .int x1, .int x0, .ref (194 : Nat)])) (h' := (zt_T L, zt_R, (zz_up M 194 0 (bif (v_D_isKind x0) then (bif (v_D_isIn x1 (0 : Int32) (10 : Int32)) then (0 : Int32) else (2 : Int32)) else (1 : Int32))), J, e)) (fun _ => rfl)).trans ?_
              rcases zz_bc (decide (x1 = (6 : Int32))) with h49 | h49
              · refine zc_neT rfl h49 ?_
                refine (zz_go 2 (fr' := (zm_D_kind, d + 5, 92, [some (.ref (194 : Nat)), some (.int x0), some (.int x1)], [.int (1 : Int32), .int x0, .ref (194 : Nat)])) (h' := (zt_T L, zt_R, (zz_up M 194 0 (bif (v_D_isKind x0) then (bif (v_D_isIn x1 (0 : Int32) (10 : Int32)) then (0 : Int32) else (2 : Int32)) else (1 : Int32))), J, e)) (fun _ => rfl)).trans ?_
                refine zz_weak (L := [none, none, none]) ⟨Or.inr ⟨rfl, rfl⟩, Or.inr ⟨rfl, rfl⟩, Or.inr ⟨rfl, rfl⟩, trivial⟩ ?_
                simpa only [h49, zk_t, zk_f, zb_t, zb_f] using j48
              · refine zc_neF rfl h49 ?_
                refine (zz_go 1 (fr' := (zm_D_kind, d + 5, 92, [some (.ref (194 : Nat)), some (.int x0), some (.int x1)], [.int (0 : Int32), .int x0, .ref (194 : Nat)])) (h' := (zt_T L, zt_R, (zz_up M 194 0 (bif (v_D_isKind x0) then (bif (v_D_isIn x1 (0 : Int32) (10 : Int32)) then (0 : Int32) else (2 : Int32)) else (1 : Int32))), J, e)) (fun _ => rfl)).trans ?_
                refine zz_weak (L := [none, none, none]) ⟨Or.inr ⟨rfl, rfl⟩, Or.inr ⟨rfl, rfl⟩, Or.inr ⟨rfl, rfl⟩, trivial⟩ ?_
                simpa only [h49, zk_t, zk_f, zb_t, zb_f] using j48
            have g50 : ok_D_pieces (zz_up M 194 0 (bif (v_D_isKind x0) then (bif (v_D_isIn x1 (0 : Int32) (10 : Int32)) then (0 : Int32) else (2 : Int32)) else (1 : Int32))) x0 (decide (x1 = (6 : Int32))) := k47
            refine zl_vt (d := d + 4) rfl rfl rfl rfl rfl rfl rfl rfl rfl rfl (s_D_pieces L e J (d + 0) (zz_up M 194 0 (bif (v_D_isKind x0) then (bif (v_D_isIn x1 (0 : Int32) (10 : Int32)) then (0 : Int32) else (2 : Int32)) else (1 : Int32))) x0 (decide (x1 = (6 : Int32))) g50) ?_
            show zz_D (zm_D_kind, d + 5, 95, [none, none, none], [.int (v_D_pieces (zz_up M 194 0 (bif (v_D_isKind x0) then (bif (v_D_isIn x1 (0 : Int32) (10 : Int32)) then (0 : Int32) else (2 : Int32)) else (1 : Int32))) x0 (decide (x1 = (6 : Int32))))]) (zt_T L, zt_R, (zz_up M 194 0 (bif (v_D_isKind x0) then (bif (v_D_isIn x1 (0 : Int32) (10 : Int32)) then (0 : Int32) else (2 : Int32)) else (1 : Int32))), J, e) = _
            refine zl_retI rfl rfl ?_
            first | (simp only [h5, h7, h11, h17, h23, zk_t, zk_f, zb_t, zb_f]; done) | (simp only [h5, h7, h11, h17, h23, zk_t, zk_f, zb_t, zb_f]; rfl) | rfl
    · refine zc_geF rfl h7 ?_
      have k51 := k9 h7
      refine (zz_go 3 (fr' := (zm_D_kind, d + 5, 47, [some (.ref (194 : Nat)), some (.int x0), some (.int x1)], [.int x1, .int x0, .ref (194 : Nat)])) (h' := (zt_T L, zt_R, (zz_up M 194 0 (bif (v_D_isKind x0) then (bif (v_D_isIn x1 (0 : Int32) (10 : Int32)) then (0 : Int32) else (2 : Int32)) else (1 : Int32))), J, e)) (fun _ => rfl)).trans ?_
      have g52 : ok_D_ofKind (zz_up M 194 0 (bif (v_D_isKind x0) then (bif (v_D_isIn x1 (0 : Int32) (10 : Int32)) then (0 : Int32) else (2 : Int32)) else (1 : Int32))) x0 x1 := k51
      refine zl_vt (d := d + 4) rfl rfl rfl rfl rfl rfl rfl rfl rfl rfl (s_D_ofKind L e J (d + 3) (zz_up M 194 0 (bif (v_D_isKind x0) then (bif (v_D_isIn x1 (0 : Int32) (10 : Int32)) then (0 : Int32) else (2 : Int32)) else (1 : Int32))) x0 x1 g52) ?_
      show zz_D (zm_D_kind, d + 5, 50, [some (.ref (194 : Nat)), some (.int x0), some (.int x1)], [.int (v_D_ofKind (zz_up M 194 0 (bif (v_D_isKind x0) then (bif (v_D_isIn x1 (0 : Int32) (10 : Int32)) then (0 : Int32) else (2 : Int32)) else (1 : Int32))) x0 x1)]) (zt_T L, zt_R, (zz_up M 194 0 (bif (v_D_isKind x0) then (bif (v_D_isIn x1 (0 : Int32) (10 : Int32)) then (0 : Int32) else (2 : Int32)) else (1 : Int32))), J, e) = _
      refine zl_retI rfl rfl ?_
      first | (simp only [h5, h7, zk_t, zk_f, zb_t, zb_f]; done) | (simp only [h5, h7, zk_t, zk_f, zb_t, zb_f]; rfl) | rfl
  · refine zo_leF rfl h5 ?_
    refine (zz_go 1 (fr' := (zm_D_kind, d + 5, 38, [some (.ref (194 : Nat)), some (.int x0), some (.int x1)], [.int (0 : Int32)])) (h' := (zt_T L, zt_R, (zz_up M 194 0 (bif (v_D_isKind x0) then (bif (v_D_isIn x1 (0 : Int32) (10 : Int32)) then (0 : Int32) else (2 : Int32)) else (1 : Int32))), J, e)) (fun _ => rfl)).trans ?_
    refine zl_retI rfl rfl ?_
    first | (simp only [h5, zk_t, zk_f, zb_t, zb_f]; done) | (simp only [h5, zk_t, zk_f, zb_t, zb_f]; rfl) | rfl
def f_D_thumb_2 (M : zMem) (x0 : Int32) (i1 : Nat) (a1 : Int32 × Int32) (i2 : Nat) (a2 : Int32) : Int32 := (a2 + (zb (bif (v_D_isOf (v_D_fitting M x0) (Int32.ofNat i2)) then (v_D_isOf (v_D_ofKind M (Int32.ofNat i2) (0 : Int32)) (Int32.ofNat i1)) else false)))
def kb_D_thumb_2 (M : zMem) (x0 : Int32) (i1 : Nat) (a1 : Int32 × Int32) (i2 : Nat) (a2 : Int32) : Prop := ((v_D_isOf (v_D_fitting M x0) (Int32.ofNat i2)) = true → ok_D_ofKind M (Int32.ofNat i2) (0 : Int32))
def g_D_thumb_1 (M : zMem) (x0 : Int32) (i1 : Nat) (a1 : Int32 × Int32) : Bool × (Int32 × Int32) := ((bif (decide ((16 : Int32) ≤ (Int32.ofNat i1))) then false else (bif (decide ((v_D_bits (v_D_fitting M x0)) ≤ (1 : Int32))) then false else true)), ((bif (decide ((16 : Int32) ≤ (Int32.ofNat i1))) then a1.1 else (bif (decide ((v_D_bits (v_D_fitting M x0)) ≤ (1 : Int32))) then a1.1 else (bif (v_D_isOf (v_D_of M x0 (1 : Int32)) (Int32.ofNat i1)) then a1.1 else (bif (decide ((v_D_greater (zf_for 8 (f_D_thumb_2 M x0 i1 a1) (0 : Int32)) ((v_D_bits (v_D_fitting M x0)) - (zf_for 8 (f_D_thumb_2 M x0 i1 a1) (0 : Int32)))) < a1.2)) then (Int32.ofNat i1) else a1.1)))), (bif (decide ((16 : Int32) ≤ (Int32.ofNat i1))) then a1.2 else (bif (decide ((v_D_bits (v_D_fitting M x0)) ≤ (1 : Int32))) then a1.2 else (bif (v_D_isOf (v_D_of M x0 (1 : Int32)) (Int32.ofNat i1)) then a1.2 else (bif (decide ((v_D_greater (zf_for 8 (f_D_thumb_2 M x0 i1 a1) (0 : Int32)) ((v_D_bits (v_D_fitting M x0)) - (zf_for 8 (f_D_thumb_2 M x0 i1 a1) (0 : Int32)))) < a1.2)) then (v_D_greater (zf_for 8 (f_D_thumb_2 M x0 i1 a1) (0 : Int32)) ((v_D_bits (v_D_fitting M x0)) - (zf_for 8 (f_D_thumb_2 M x0 i1 a1) (0 : Int32)))) else a1.2))))))
def kb_D_thumb_1 (M : zMem) (x0 : Int32) (i1 : Nat) (a1 : Int32 × Int32) : Prop := ((decide ((16 : Int32) ≤ (Int32.ofNat i1))) = false → ((decide ((v_D_bits (v_D_fitting M x0)) ≤ (1 : Int32))) = false → (ok_D_of M x0 (1 : Int32) ∧ ((v_D_isOf (v_D_of M x0 (1 : Int32)) (Int32.ofNat i1)) = false → (∀ i2, i2 < 8 → kb_D_thumb_2 M x0 i1 a1 i2 (zf_for i2 (f_D_thumb_2 M x0 i1 a1) (0 : Int32)))))))
def v_D_thumb (M : zMem) (x0 : Int32) : Int32 := (zf_wh 1000 (g_D_thumb_1 M x0) 0 ((-1 : Int32), (2000000000 : Int32))).1
def ok_D_thumb (M : zMem) (x0 : Int32) : Prop := (ok_D_fitting M x0 ∧ (zf_wk 1000 (g_D_thumb_1 M x0) (kb_D_thumb_1 M x0) 0 ((-1 : Int32), (2000000000 : Int32))))
set_option maxRecDepth 20000 in
set_option maxHeartbeats 2000000 in
theorem s_D_thumb (L e : Nat) (J : zJem) (d : Nat) (M : zMem) (x0 : Int32) (k0 : ok_D_thumb M x0) : zz_D (zm_D_thumb, d + 5, 0, [some (.ref (194 : Nat)), some (.int x0), none, none, none, none, none, none], []) (zt_T L, zt_R, M, J, e) = some (.inl (some (.int (v_D_thumb M x0))), (zt_T L, zt_R, M, J, e)) := by
  unfold ok_D_thumb at k0
  unfold v_D_thumb
  refine (zz_go 2 (fr' := (zm_D_thumb, d + 5, 2, [some (.ref (194 : Nat)), some (.int x0), none, none, none, none, none, none], [.int x0, .ref (194 : Nat)])) (h' := (zt_T L, zt_R, M, J, e)) (fun _ => rfl)).trans ?_
  obtain ⟨g1, k2⟩ := k0
  refine zl_vt (d := d + 4) rfl rfl rfl rfl rfl rfl rfl rfl rfl rfl (s_D_fitting L e J (d + 0) M x0 g1) ?_
  show zz_D (zm_D_thumb, d + 5, 5, [some (.ref (194 : Nat)), some (.int x0), none, none, none, none, none, none], [.int (v_D_fitting M x0)]) (zt_T L, zt_R, M, J, e) = _
  refine (zz_go 7 (fr' := (zm_D_thumb, d + 5, 16, [some (.ref (194 : Nat)), some (.int x0), some (.int (v_D_fitting M x0)), some (.int (-1 : Int32)), some (.int (2000000000 : Int32)), some (.int (0 : Int32)), none, none], [])) (h' := (zt_T L, zt_R, M, J, e)) (fun _ => rfl)).trans ?_
  refine zf_whY (X := fun (i1 : Nat) (a1 : Int32 × Int32) => zz_D (zm_D_thumb, d + 5, 16, [some (.ref (194 : Nat)), some (.int x0), some (.int (v_D_fitting M x0)), some (.int a1.1), some (.int a1.2), some (.int (Int32.ofNat i1)), none, none], []) (zt_T L, zt_R, M, J, e)) (Y := fun (a1 : Int32 × Int32) => zz_D (zm_D_thumb, d + 5, 138, [none, none, none, some (.int a1.1), none, none, none, none], []) (zt_T L, zt_R, M, J, e)) (g := (g_D_thumb_1 M x0)) (k := (kb_D_thumb_1 M x0)) (fun i1 a1 k5 hx3 hx4 => ?_) 1000 0 ((-1 : Int32), (2000000000 : Int32)) k2 ?_
  · show zz_D (zm_D_thumb, d + 5, 16, [some (.ref (194 : Nat)), some (.int x0), some (.int (v_D_fitting M x0)), some (.int a1.1), some (.int a1.2), some (.int (Int32.ofNat i1)), none, none], []) (zt_T L, zt_R, M, J, e) = _
    unfold kb_D_thumb_1 at k5
    refine (zz_go 2 (fr' := (zm_D_thumb, d + 5, 20, [some (.ref (194 : Nat)), some (.int x0), some (.int (v_D_fitting M x0)), some (.int a1.1), some (.int a1.2), some (.int (Int32.ofNat i1)), none, none], [.int (16 : Int32), .int (Int32.ofNat i1)])) (h' := (zt_T L, zt_R, M, J, e)) (fun _ => rfl)).trans ?_
    rcases zz_bc (decide ((16 : Int32) ≤ (Int32.ofNat i1))) with h6 | h6
    · refine zc_geT rfl h6 ?_
      refine zz_weak (L := [none, none, none, some (.int a1.1), none, none, none, none]) ⟨Or.inr ⟨rfl, rfl⟩, Or.inr ⟨rfl, rfl⟩, Or.inr ⟨rfl, rfl⟩, Or.inl rfl, Or.inr ⟨rfl, rfl⟩, Or.inr ⟨rfl, rfl⟩, Or.inl rfl, Or.inl rfl, trivial⟩ ?_
      have y1 := hx4 (by simp only [g_D_thumb_1, h6, zk_t, zk_f, zb_t, zb_f])
      simpa only [g_D_thumb_1, h6, zk_t, zk_f, zb_t, zb_f] using y1
    · refine zc_geF rfl h6 ?_
      have k7 := k5 h6
      refine (zz_go 1 (fr' := (zm_D_thumb, d + 5, 24, [some (.ref (194 : Nat)), some (.int x0), some (.int (v_D_fitting M x0)), some (.int a1.1), some (.int a1.2), some (.int (Int32.ofNat i1)), none, none], [.int (v_D_fitting M x0)])) (h' := (zt_T L, zt_R, M, J, e)) (fun _ => rfl)).trans ?_
      refine zl_st (d := d + 4) rfl rfl rfl rfl rfl rfl rfl (s_D_bits L e J (d + 3) (v_D_fitting M x0)) ?_
      show zz_D (zm_D_thumb, d + 5, 27, [some (.ref (194 : Nat)), some (.int x0), some (.int (v_D_fitting M x0)), some (.int a1.1), some (.int a1.2), some (.int (Int32.ofNat i1)), none, none], [.int (v_D_bits (v_D_fitting M x0))]) (zt_T L, zt_R, M, J, e) = _
      refine (zz_go 1 (fr' := (zm_D_thumb, d + 5, 28, [some (.ref (194 : Nat)), some (.int x0), some (.int (v_D_fitting M x0)), some (.int a1.1), some (.int a1.2), some (.int (Int32.ofNat i1)), none, none], [.int (1 : Int32), .int (v_D_bits (v_D_fitting M x0))])) (h' := (zt_T L, zt_R, M, J, e)) (fun _ => rfl)).trans ?_
      rcases zz_bc (decide ((v_D_bits (v_D_fitting M x0)) ≤ (1 : Int32))) with h8 | h8
      · refine zc_leT rfl h8 ?_
        refine zz_weak (L := [none, none, none, some (.int a1.1), none, none, none, none]) ⟨Or.inr ⟨rfl, rfl⟩, Or.inr ⟨rfl, rfl⟩, Or.inr ⟨rfl, rfl⟩, Or.inl rfl, Or.inr ⟨rfl, rfl⟩, Or.inr ⟨rfl, rfl⟩, Or.inl rfl, Or.inl rfl, trivial⟩ ?_
        have y1 := hx4 (by simp only [g_D_thumb_1, h6, h8, zk_t, zk_f, zb_t, zb_f])
        simpa only [g_D_thumb_1, h6, h8, zk_t, zk_f, zb_t, zb_f] using y1
      · refine zc_leF rfl h8 ?_
        have k9 := k7 h8
        refine (zz_go 3 (fr' := (zm_D_thumb, d + 5, 34, [some (.ref (194 : Nat)), some (.int x0), some (.int (v_D_fitting M x0)), some (.int a1.1), some (.int a1.2), some (.int (Int32.ofNat i1)), none, none], [.int (1 : Int32), .int x0, .ref (194 : Nat)])) (h' := (zt_T L, zt_R, M, J, e)) (fun _ => rfl)).trans ?_
        obtain ⟨g10, k11⟩ := k9
        refine zl_vt (d := d + 4) rfl rfl rfl rfl rfl rfl rfl rfl rfl rfl (s_D_of L e J (d + 3) M x0 (1 : Int32) g10) ?_
        show zz_D (zm_D_thumb, d + 5, 37, [some (.ref (194 : Nat)), some (.int x0), some (.int (v_D_fitting M x0)), some (.int a1.1), some (.int a1.2), some (.int (Int32.ofNat i1)), none, none], [.int (v_D_of M x0 (1 : Int32))]) (zt_T L, zt_R, M, J, e) = _
        refine (zz_go 1 (fr' := (zm_D_thumb, d + 5, 39, [some (.ref (194 : Nat)), some (.int x0), some (.int (v_D_fitting M x0)), some (.int a1.1), some (.int a1.2), some (.int (Int32.ofNat i1)), none, none], [.int (Int32.ofNat i1), .int (v_D_of M x0 (1 : Int32))])) (h' := (zt_T L, zt_R, M, J, e)) (fun _ => rfl)).trans ?_
        refine zl_st (d := d + 4) rfl rfl rfl rfl rfl rfl rfl (s_D_isOf L e J (d + 3) (v_D_of M x0 (1 : Int32)) (Int32.ofNat i1)) ?_
        show zz_D (zm_D_thumb, d + 5, 42, [some (.ref (194 : Nat)), some (.int x0), some (.int (v_D_fitting M x0)), some (.int a1.1), some (.int a1.2), some (.int (Int32.ofNat i1)), none, none], [.int (zb (v_D_isOf (v_D_of M x0 (1 : Int32)) (Int32.ofNat i1)))]) (zt_T L, zt_R, M, J, e) = _
        refine zz_jn (X := zz_D (zm_D_thumb, d + 5, 132, [some (.ref (194 : Nat)), some (.int x0), some (.int (v_D_fitting M x0)), some (.int (bif (v_D_isOf (v_D_of M x0 (1 : Int32)) (Int32.ofNat i1)) then a1.1 else (bif (decide ((v_D_greater (zf_for 8 (f_D_thumb_2 M x0 i1 a1) (0 : Int32)) ((v_D_bits (v_D_fitting M x0)) - (zf_for 8 (f_D_thumb_2 M x0 i1 a1) (0 : Int32)))) < a1.2)) then (Int32.ofNat i1) else a1.1))), some (.int (bif (v_D_isOf (v_D_of M x0 (1 : Int32)) (Int32.ofNat i1)) then a1.2 else (bif (decide ((v_D_greater (zf_for 8 (f_D_thumb_2 M x0 i1 a1) (0 : Int32)) ((v_D_bits (v_D_fitting M x0)) - (zf_for 8 (f_D_thumb_2 M x0 i1 a1) (0 : Int32)))) < a1.2)) then (v_D_greater (zf_for 8 (f_D_thumb_2 M x0 i1 a1) (0 : Int32)) ((v_D_bits (v_D_fitting M x0)) - (zf_for 8 (f_D_thumb_2 M x0 i1 a1) (0 : Int32)))) else a1.2))), some (.int (Int32.ofNat i1)), none, none], []) (zt_T L, zt_R, M, J, e)) (fun j12 => ?_) ?_
        · rcases zz_bc (v_D_isOf (v_D_of M x0 (1 : Int32)) (Int32.ofNat i1)) with h13 | h13
          · refine zq_eT rfl h13 ?_
            refine (zz_go 1 (fr' := (zm_D_thumb, d + 5, 132, [some (.ref (194 : Nat)), some (.int x0), some (.int (v_D_fitting M x0)), some (.int a1.1), some (.int a1.2), some (.int (Int32.ofNat i1)), none, none], [])) (h' := (zt_T L, zt_R, M, J, e)) (fun _ => rfl)).trans ?_
            simpa only [h13, zk_t, zk_f, zb_t, zb_f] using j12
          · refine zq_eF rfl h13 ?_
            have k14 := k11 h13
            refine (zz_go 4 (fr' := (zm_D_thumb, d + 5, 54, [some (.ref (194 : Nat)), some (.int x0), some (.int (v_D_fitting M x0)), some (.int a1.1), some (.int a1.2), some (.int (Int32.ofNat i1)), some (.int (0 : Int32)), some (.int (0 : Int32))], [])) (h' := (zt_T L, zt_R, M, J, e)) (fun _ => rfl)).trans ?_
            refine zf_forD (X := fun (i2 : Nat) (a2 : Int32) => zz_D (zm_D_thumb, d + 5, 54, [some (.ref (194 : Nat)), some (.int x0), some (.int (v_D_fitting M x0)), some (.int a1.1), some (.int a1.2), some (.int (Int32.ofNat i1)), some (.int a2), some (.int (Int32.ofNat i2))], []) (zt_T L, zt_R, M, J, e)) (f := (f_D_thumb_2 M x0 i1 a1)) (a := (0 : Int32)) 8 (fun i2 hi2 => ?_) ?_
            · intro hx15
              have k16 := k14 i2 hi2
              generalize zf_for i2 (f_D_thumb_2 M x0 i1 a1) (0 : Int32) = a2 at hx15 k16 ⊢
              show zz_D (zm_D_thumb, d + 5, 54, [some (.ref (194 : Nat)), some (.int x0), some (.int (v_D_fitting M x0)), some (.int a1.1), some (.int a1.2), some (.int (Int32.ofNat i1)), some (.int a2), some (.int (Int32.ofNat i2))], []) (zt_T L, zt_R, M, J, e) = _
              unfold kb_D_thumb_2 at k16
              refine (zz_go 2 (fr' := (zm_D_thumb, d + 5, 58, [some (.ref (194 : Nat)), some (.int x0), some (.int (v_D_fitting M x0)), some (.int a1.1), some (.int a1.2), some (.int (Int32.ofNat i1)), some (.int a2), some (.int (Int32.ofNat i2))], [.int (8 : Int32), .int (Int32.ofNat i2)])) (h' := (zt_T L, zt_R, M, J, e)) (fun _ => rfl)).trans ?_
              refine zc_geF rfl (zi_ltc (n := 8) (by omega) (by decide)) ?_
              refine (zz_go 3 (fr' := (zm_D_thumb, d + 5, 66, [some (.ref (194 : Nat)), some (.int x0), some (.int (v_D_fitting M x0)), some (.int a1.1), some (.int a1.2), some (.int (Int32.ofNat i1)), some (.int a2), some (.int (Int32.ofNat i2))], [.int (Int32.ofNat i2), .int (v_D_fitting M x0), .int a2])) (h' := (zt_T L, zt_R, M, J, e)) (fun _ => rfl)).trans ?_
              refine zl_st (d := d + 4) rfl rfl rfl rfl rfl rfl rfl (s_D_isOf L e J (d + 3) (v_D_fitting M x0) (Int32.ofNat i2)) ?_
              show zz_D (zm_D_thumb, d + 5, 69, [some (.ref (194 : Nat)), some (.int x0), some (.int (v_D_fitting M x0)), some (.int a1.1), some (.int a1.2), some (.int (Int32.ofNat i1)), some (.int a2), some (.int (Int32.ofNat i2))], [.int (zb (v_D_isOf (v_D_fitting M x0) (Int32.ofNat i2))), .int a2]) (zt_T L, zt_R, M, J, e) = _
              refine zz_jn (X := zz_D (zm_D_thumb, d + 5, 92, [some (.ref (194 : Nat)), some (.int x0), some (.int (v_D_fitting M x0)), some (.int a1.1), some (.int a1.2), some (.int (Int32.ofNat i1)), none, some (.int (Int32.ofNat i2))], [.int (zb (bif (v_D_isOf (v_D_fitting M x0) (Int32.ofNat i2)) then (v_D_isOf (v_D_ofKind M (Int32.ofNat i2) (0 : Int32)) (Int32.ofNat i1)) else false)), .int a2]) (zt_T L, zt_R, M, J, e)) (fun j17 => ?_) ?_
              · rcases zz_bc (v_D_isOf (v_D_fitting M x0) (Int32.ofNat i2)) with h18 | h18
                · refine zq_eT rfl h18 ?_
                  have k19 := k16 h18
                  refine (zz_go 3 (fr' := (zm_D_thumb, d + 5, 76, [some (.ref (194 : Nat)), some (.int x0), some (.int (v_D_fitting M x0)), some (.int a1.1), some (.int a1.2), some (.int (Int32.ofNat i1)), some (.int a2), some (.int (Int32.ofNat i2))], [.int (0 : Int32), .int (Int32.ofNat i2), .ref (194 : Nat), .int a2])) (h' := (zt_T L, zt_R, M, J, e)) (fun _ => rfl)).trans ?_
                  have g20 : ok_D_ofKind M (Int32.ofNat i2) (0 : Int32) := k19
                  refine zl_vt (d := d + 4) rfl rfl rfl rfl rfl rfl rfl rfl rfl rfl (s_D_ofKind L e J (d + 3) M (Int32.ofNat i2) (0 : Int32) g20) ?_
                  show zz_D (zm_D_thumb, d + 5, 79, [some (.ref (194 : Nat)), some (.int x0), some (.int (v_D_fitting M x0)), some (.int a1.1), some (.int a1.2), some (.int (Int32.ofNat i1)), some (.int a2), some (.int (Int32.ofNat i2))], [.int (v_D_ofKind M (Int32.ofNat i2) (0 : Int32)), .int a2]) (zt_T L, zt_R, M, J, e) = _
                  refine (zz_go 1 (fr' := (zm_D_thumb, d + 5, 81, [some (.ref (194 : Nat)), some (.int x0), some (.int (v_D_fitting M x0)), some (.int a1.1), some (.int a1.2), some (.int (Int32.ofNat i1)), some (.int a2), some (.int (Int32.ofNat i2))], [.int (Int32.ofNat i1), .int (v_D_ofKind M (Int32.ofNat i2) (0 : Int32)), .int a2])) (h' := (zt_T L, zt_R, M, J, e)) (fun _ => rfl)).trans ?_
                  refine zl_st (d := d + 4) rfl rfl rfl rfl rfl rfl rfl (s_D_isOf L e J (d + 3) (v_D_ofKind M (Int32.ofNat i2) (0 : Int32)) (Int32.ofNat i1)) ?_
                  show zz_D (zm_D_thumb, d + 5, 84, [some (.ref (194 : Nat)), some (.int x0), some (.int (v_D_fitting M x0)), some (.int a1.1), some (.int a1.2), some (.int (Int32.ofNat i1)), some (.int a2), some (.int (Int32.ofNat i2))], [.int (zb (v_D_isOf (v_D_ofKind M (Int32.ofNat i2) (0 : Int32)) (Int32.ofNat i1))), .int a2]) (zt_T L, zt_R, M, J, e) = _
                  refine zz_jn (X := zz_D (zm_D_thumb, d + 5, 92, [some (.ref (194 : Nat)), some (.int x0), some (.int (v_D_fitting M x0)), some (.int a1.1), some (.int a1.2), some (.int (Int32.ofNat i1)), none, some (.int (Int32.ofNat i2))], [.int (zb (v_D_isOf (v_D_ofKind M (Int32.ofNat i2) (0 : Int32)) (Int32.ofNat i1))), .int a2]) (zt_T L, zt_R, M, J, e)) (fun j21 => ?_) ?_
                  · rcases zz_bc (v_D_isOf (v_D_ofKind M (Int32.ofNat i2) (0 : Int32)) (Int32.ofNat i1)) with h22 | h22
                    · refine zq_eT rfl h22 ?_
                      refine (zz_go 2 (fr' := (zm_D_thumb, d + 5, 92, [some (.ref (194 : Nat)), some (.int x0), some (.int (v_D_fitting M x0)), some (.int a1.1), some (.int a1.2), some (.int (Int32.ofNat i1)), some (.int a2), some (.int (Int32.ofNat i2))], [.int (1 : Int32), .int a2])) (h' := (zt_T L, zt_R, M, J, e)) (fun _ => rfl)).trans ?_
                      refine zz_weak (L := [some (.ref (194 : Nat)), some (.int x0), some (.int (v_D_fitting M x0)), some (.int a1.1), some (.int a1.2), some (.int (Int32.ofNat i1)), none, some (.int (Int32.ofNat i2))]) ⟨Or.inl rfl, Or.inl rfl, Or.inl rfl, Or.inl rfl, Or.inl rfl, Or.inl rfl, Or.inr ⟨rfl, rfl⟩, Or.inl rfl, trivial⟩ ?_
                      simpa only [h22, zk_t, zk_f, zb_t, zb_f] using j21
                    · refine zq_eF rfl h22 ?_
                      refine (zz_go 1 (fr' := (zm_D_thumb, d + 5, 92, [some (.ref (194 : Nat)), some (.int x0), some (.int (v_D_fitting M x0)), some (.int a1.1), some (.int a1.2), some (.int (Int32.ofNat i1)), some (.int a2), some (.int (Int32.ofNat i2))], [.int (0 : Int32), .int a2])) (h' := (zt_T L, zt_R, M, J, e)) (fun _ => rfl)).trans ?_
                      refine zz_weak (L := [some (.ref (194 : Nat)), some (.int x0), some (.int (v_D_fitting M x0)), some (.int a1.1), some (.int a1.2), some (.int (Int32.ofNat i1)), none, some (.int (Int32.ofNat i2))]) ⟨Or.inl rfl, Or.inl rfl, Or.inl rfl, Or.inl rfl, Or.inl rfl, Or.inl rfl, Or.inr ⟨rfl, rfl⟩, Or.inl rfl, trivial⟩ ?_
                      simpa only [h22, zk_t, zk_f, zb_t, zb_f] using j21
                  simpa only [h18, zk_t, zk_f, zb_t, zb_f] using j17
                · refine zq_eF rfl h18 ?_
                  refine (zz_go 1 (fr' := (zm_D_thumb, d + 5, 92, [some (.ref (194 : Nat)), some (.int x0), some (.int (v_D_fitting M x0)), some (.int a1.1), some (.int a1.2), some (.int (Int32.ofNat i1)), some (.int a2), some (.int (Int32.ofNat i2))], [.int (0 : Int32), .int a2])) (h' := (zt_T L, zt_R, M, J, e)) (fun _ => rfl)).trans ?_
                  refine zz_weak (L := [some (.ref (194 : Nat)), some (.int x0), some (.int (v_D_fitting M x0)), some (.int a1.1), some (.int a1.2), some (.int (Int32.ofNat i1)), none, some (.int (Int32.ofNat i2))]) ⟨Or.inl rfl, Or.inl rfl, Or.inl rfl, Or.inl rfl, Or.inl rfl, Or.inl rfl, Or.inr ⟨rfl, rfl⟩, Or.inl rfl, trivial⟩ ?_
                  simpa only [h18, zk_t, zk_f, zb_t, zb_f] using j17
              refine (zz_go 4 (fr' := (zm_D_thumb, d + 5, 54, [some (.ref (194 : Nat)), some (.int x0), some (.int (v_D_fitting M x0)), some (.int a1.1), some (.int a1.2), some (.int (Int32.ofNat i1)), some (.int (a2 + (zb (bif (v_D_isOf (v_D_fitting M x0) (Int32.ofNat i2)) then (v_D_isOf (v_D_ofKind M (Int32.ofNat i2) (0 : Int32)) (Int32.ofNat i1)) else false)))), some (.int (Int32.ofNat i2 + 1))], [])) (h' := (zt_T L, zt_R, M, J, e)) (fun _ => rfl)).trans ?_
              rw [zi_succ i2]
              simpa only [f_D_thumb_2] using hx15
            show zz_D (zm_D_thumb, d + 5, 54, [some (.ref (194 : Nat)), some (.int x0), some (.int (v_D_fitting M x0)), some (.int a1.1), some (.int a1.2), some (.int (Int32.ofNat i1)), some (.int (zf_for 8 (f_D_thumb_2 M x0 i1 a1) (0 : Int32))), some (.int (Int32.ofNat 8))], []) (zt_T L, zt_R, M, J, e) = _
            refine (zz_go 2 (fr' := (zm_D_thumb, d + 5, 58, [some (.ref (194 : Nat)), some (.int x0), some (.int (v_D_fitting M x0)), some (.int a1.1), some (.int a1.2), some (.int (Int32.ofNat i1)), some (.int (zf_for 8 (f_D_thumb_2 M x0 i1 a1) (0 : Int32))), some (.int (Int32.ofNat 8))], [.int (8 : Int32), .int (Int32.ofNat 8)])) (h' := (zt_T L, zt_R, M, J, e)) (fun _ => rfl)).trans ?_
            refine zc_geT rfl (by decide) ?_
            refine zz_weak (L := [some (.ref (194 : Nat)), some (.int x0), some (.int (v_D_fitting M x0)), some (.int a1.1), some (.int a1.2), some (.int (Int32.ofNat i1)), some (.int (zf_for 8 (f_D_thumb_2 M x0 i1 a1) (0 : Int32))), none]) ⟨Or.inl rfl, Or.inl rfl, Or.inl rfl, Or.inl rfl, Or.inl rfl, Or.inl rfl, Or.inl rfl, Or.inr ⟨rfl, rfl⟩, trivial⟩ ?_
            refine (zz_go 2 (fr' := (zm_D_thumb, d + 5, 104, [some (.ref (194 : Nat)), some (.int x0), some (.int (v_D_fitting M x0)), some (.int a1.1), some (.int a1.2), some (.int (Int32.ofNat i1)), some (.int (zf_for 8 (f_D_thumb_2 M x0 i1 a1) (0 : Int32))), none], [.int (v_D_fitting M x0), .int (zf_for 8 (f_D_thumb_2 M x0 i1 a1) (0 : Int32))])) (h' := (zt_T L, zt_R, M, J, e)) (fun _ => rfl)).trans ?_
            refine zl_st (d := d + 4) rfl rfl rfl rfl rfl rfl rfl (s_D_bits L e J (d + 3) (v_D_fitting M x0)) ?_
            show zz_D (zm_D_thumb, d + 5, 107, [some (.ref (194 : Nat)), some (.int x0), some (.int (v_D_fitting M x0)), some (.int a1.1), some (.int a1.2), some (.int (Int32.ofNat i1)), some (.int (zf_for 8 (f_D_thumb_2 M x0 i1 a1) (0 : Int32))), none], [.int (v_D_bits (v_D_fitting M x0)), .int (zf_for 8 (f_D_thumb_2 M x0 i1 a1) (0 : Int32))]) (zt_T L, zt_R, M, J, e) = _
            refine (zz_go 2 (fr' := (zm_D_thumb, d + 5, 110, [some (.ref (194 : Nat)), some (.int x0), some (.int (v_D_fitting M x0)), some (.int a1.1), some (.int a1.2), some (.int (Int32.ofNat i1)), some (.int (zf_for 8 (f_D_thumb_2 M x0 i1 a1) (0 : Int32))), none], [.int ((v_D_bits (v_D_fitting M x0)) - (zf_for 8 (f_D_thumb_2 M x0 i1 a1) (0 : Int32))), .int (zf_for 8 (f_D_thumb_2 M x0 i1 a1) (0 : Int32))])) (h' := (zt_T L, zt_R, M, J, e)) (fun _ => rfl)).trans ?_
            refine zl_st (d := d + 4) rfl rfl rfl rfl rfl rfl rfl (s_D_greater L e J (d + 3) (zf_for 8 (f_D_thumb_2 M x0 i1 a1) (0 : Int32)) ((v_D_bits (v_D_fitting M x0)) - (zf_for 8 (f_D_thumb_2 M x0 i1 a1) (0 : Int32)))) ?_
            show zz_D (zm_D_thumb, d + 5, 113, [some (.ref (194 : Nat)), some (.int x0), some (.int (v_D_fitting M x0)), some (.int a1.1), some (.int a1.2), some (.int (Int32.ofNat i1)), some (.int (zf_for 8 (f_D_thumb_2 M x0 i1 a1) (0 : Int32))), none], [.int (v_D_greater (zf_for 8 (f_D_thumb_2 M x0 i1 a1) (0 : Int32)) ((v_D_bits (v_D_fitting M x0)) - (zf_for 8 (f_D_thumb_2 M x0 i1 a1) (0 : Int32))))]) (zt_T L, zt_R, M, J, e) = _
            refine zz_jn (X := zz_D (zm_D_thumb, d + 5, 132, [some (.ref (194 : Nat)), some (.int x0), some (.int (v_D_fitting M x0)), some (.int (bif (decide ((v_D_greater (zf_for 8 (f_D_thumb_2 M x0 i1 a1) (0 : Int32)) ((v_D_bits (v_D_fitting M x0)) - (zf_for 8 (f_D_thumb_2 M x0 i1 a1) (0 : Int32)))) < a1.2)) then (Int32.ofNat i1) else a1.1)), some (.int (bif (decide ((v_D_greater (zf_for 8 (f_D_thumb_2 M x0 i1 a1) (0 : Int32)) ((v_D_bits (v_D_fitting M x0)) - (zf_for 8 (f_D_thumb_2 M x0 i1 a1) (0 : Int32)))) < a1.2)) then (v_D_greater (zf_for 8 (f_D_thumb_2 M x0 i1 a1) (0 : Int32)) ((v_D_bits (v_D_fitting M x0)) - (zf_for 8 (f_D_thumb_2 M x0 i1 a1) (0 : Int32)))) else a1.2)), some (.int (Int32.ofNat i1)), none, none], []) (zt_T L, zt_R, M, J, e)) (fun j23 => ?_) ?_
            · refine (zz_go 3 (fr' := (zm_D_thumb, d + 5, 119, [some (.ref (194 : Nat)), some (.int x0), some (.int (v_D_fitting M x0)), some (.int a1.1), some (.int a1.2), some (.int (Int32.ofNat i1)), some (.int (zf_for 8 (f_D_thumb_2 M x0 i1 a1) (0 : Int32))), some (.int (v_D_greater (zf_for 8 (f_D_thumb_2 M x0 i1 a1) (0 : Int32)) ((v_D_bits (v_D_fitting M x0)) - (zf_for 8 (f_D_thumb_2 M x0 i1 a1) (0 : Int32)))))], [.int a1.2, .int (v_D_greater (zf_for 8 (f_D_thumb_2 M x0 i1 a1) (0 : Int32)) ((v_D_bits (v_D_fitting M x0)) - (zf_for 8 (f_D_thumb_2 M x0 i1 a1) (0 : Int32))))])) (h' := (zt_T L, zt_R, M, J, e)) (fun _ => rfl)).trans ?_
              rcases zz_bc (decide ((v_D_greater (zf_for 8 (f_D_thumb_2 M x0 i1 a1) (0 : Int32)) ((v_D_bits (v_D_fitting M x0)) - (zf_for 8 (f_D_thumb_2 M x0 i1 a1) (0 : Int32)))) < a1.2)) with h24 | h24
              · refine zc_ltT rfl h24 ?_
                refine (zz_go 4 (fr' := (zm_D_thumb, d + 5, 132, [some (.ref (194 : Nat)), some (.int x0), some (.int (v_D_fitting M x0)), some (.int (Int32.ofNat i1)), some (.int (v_D_greater (zf_for 8 (f_D_thumb_2 M x0 i1 a1) (0 : Int32)) ((v_D_bits (v_D_fitting M x0)) - (zf_for 8 (f_D_thumb_2 M x0 i1 a1) (0 : Int32))))), some (.int (Int32.ofNat i1)), some (.int (zf_for 8 (f_D_thumb_2 M x0 i1 a1) (0 : Int32))), some (.int (v_D_greater (zf_for 8 (f_D_thumb_2 M x0 i1 a1) (0 : Int32)) ((v_D_bits (v_D_fitting M x0)) - (zf_for 8 (f_D_thumb_2 M x0 i1 a1) (0 : Int32)))))], [])) (h' := (zt_T L, zt_R, M, J, e)) (fun _ => rfl)).trans ?_
                refine zz_weak (L := [some (.ref (194 : Nat)), some (.int x0), some (.int (v_D_fitting M x0)), some (.int (Int32.ofNat i1)), some (.int (v_D_greater (zf_for 8 (f_D_thumb_2 M x0 i1 a1) (0 : Int32)) ((v_D_bits (v_D_fitting M x0)) - (zf_for 8 (f_D_thumb_2 M x0 i1 a1) (0 : Int32))))), some (.int (Int32.ofNat i1)), none, none]) ⟨Or.inl rfl, Or.inl rfl, Or.inl rfl, Or.inl rfl, Or.inl rfl, Or.inl rfl, Or.inr ⟨rfl, rfl⟩, Or.inr ⟨rfl, rfl⟩, trivial⟩ ?_
                simpa only [h24, zk_t, zk_f, zb_t, zb_f] using j23
              · refine zc_ltF rfl h24 ?_
                refine (zz_go 1 (fr' := (zm_D_thumb, d + 5, 132, [some (.ref (194 : Nat)), some (.int x0), some (.int (v_D_fitting M x0)), some (.int a1.1), some (.int a1.2), some (.int (Int32.ofNat i1)), some (.int (zf_for 8 (f_D_thumb_2 M x0 i1 a1) (0 : Int32))), some (.int (v_D_greater (zf_for 8 (f_D_thumb_2 M x0 i1 a1) (0 : Int32)) ((v_D_bits (v_D_fitting M x0)) - (zf_for 8 (f_D_thumb_2 M x0 i1 a1) (0 : Int32)))))], [])) (h' := (zt_T L, zt_R, M, J, e)) (fun _ => rfl)).trans ?_
                refine zz_weak (L := [some (.ref (194 : Nat)), some (.int x0), some (.int (v_D_fitting M x0)), some (.int a1.1), some (.int a1.2), some (.int (Int32.ofNat i1)), none, none]) ⟨Or.inl rfl, Or.inl rfl, Or.inl rfl, Or.inl rfl, Or.inl rfl, Or.inl rfl, Or.inr ⟨rfl, rfl⟩, Or.inr ⟨rfl, rfl⟩, trivial⟩ ?_
                simpa only [h24, zk_t, zk_f, zb_t, zb_f] using j23
            simpa only [h13, zk_t, zk_f, zb_t, zb_f] using j12
        refine (zz_go 2 (fr' := (zm_D_thumb, d + 5, 16, [some (.ref (194 : Nat)), some (.int x0), some (.int (v_D_fitting M x0)), some (.int (bif (v_D_isOf (v_D_of M x0 (1 : Int32)) (Int32.ofNat i1)) then a1.1 else (bif (decide ((v_D_greater (zf_for 8 (f_D_thumb_2 M x0 i1 a1) (0 : Int32)) ((v_D_bits (v_D_fitting M x0)) - (zf_for 8 (f_D_thumb_2 M x0 i1 a1) (0 : Int32)))) < a1.2)) then (Int32.ofNat i1) else a1.1))), some (.int (bif (v_D_isOf (v_D_of M x0 (1 : Int32)) (Int32.ofNat i1)) then a1.2 else (bif (decide ((v_D_greater (zf_for 8 (f_D_thumb_2 M x0 i1 a1) (0 : Int32)) ((v_D_bits (v_D_fitting M x0)) - (zf_for 8 (f_D_thumb_2 M x0 i1 a1) (0 : Int32)))) < a1.2)) then (v_D_greater (zf_for 8 (f_D_thumb_2 M x0 i1 a1) (0 : Int32)) ((v_D_bits (v_D_fitting M x0)) - (zf_for 8 (f_D_thumb_2 M x0 i1 a1) (0 : Int32)))) else a1.2))), some (.int (Int32.ofNat i1 + 1)), none, none], [])) (h' := (zt_T L, zt_R, M, J, e)) (fun _ => rfl)).trans ?_
        rw [zi_succ i1]
        have y1 := hx3 (by simp only [g_D_thumb_1, h6, h8, zk_t, zk_f, zb_t, zb_f])
        simpa only [g_D_thumb_1, h6, h8, zk_t, zk_f, zb_t, zb_f] using y1
  show zz_D (zm_D_thumb, d + 5, 138, [none, none, none, some (.int (zf_wh 1000 (g_D_thumb_1 M x0) 0 ((-1 : Int32), (2000000000 : Int32))).1), none, none, none, none], []) (zt_T L, zt_R, M, J, e) = _
  refine (zz_go 1 (fr' := (zm_D_thumb, d + 5, 139, [none, none, none, some (.int (zf_wh 1000 (g_D_thumb_1 M x0) 0 ((-1 : Int32), (2000000000 : Int32))).1), none, none, none, none], [.int (zf_wh 1000 (g_D_thumb_1 M x0) 0 ((-1 : Int32), (2000000000 : Int32))).1])) (h' := (zt_T L, zt_R, M, J, e)) (fun _ => rfl)).trans ?_
  refine zl_retI rfl rfl ?_
  rfl
def f_D_fates_1 (M : zMem) (x0 : Int32) (i1 : Nat) (a1 : Int32) : Int32 := (a1 ||| (bif (v_D_isOf (v_D_fitting M x0) (Int32.ofNat i1)) then (zsl (1 : Int32) (v_D_ofKind M (Int32.ofNat i1) (1 : Int32))) else (0 : Int32)))
def kb_D_fates_1 (M : zMem) (x0 : Int32) (i1 : Nat) (a1 : Int32) : Prop := (ok_D_fitting M x0 ∧ ((v_D_isOf (v_D_fitting M x0) (Int32.ofNat i1)) = true → ok_D_ofKind M (Int32.ofNat i1) (1 : Int32)))
def v_D_fates (M : zMem) (x0 : Int32) : Int32 := (zf_for 8 (f_D_fates_1 M x0) (0 : Int32))
def ok_D_fates (M : zMem) (x0 : Int32) : Prop := (∀ i1, i1 < 8 → kb_D_fates_1 M x0 i1 (zf_for i1 (f_D_fates_1 M x0) (0 : Int32)))
set_option maxRecDepth 20000 in
set_option maxHeartbeats 2000000 in
theorem s_D_fates (L e : Nat) (J : zJem) (d : Nat) (M : zMem) (x0 : Int32) (k0 : ok_D_fates M x0) : zz_D (zm_D_fates, d + 5, 0, [some (.ref (194 : Nat)), some (.int x0), none, none], []) (zt_T L, zt_R, M, J, e) = some (.inl (some (.int (v_D_fates M x0))), (zt_T L, zt_R, M, J, e)) := by
  unfold ok_D_fates at k0
  unfold v_D_fates
  refine (zz_go 4 (fr' := (zm_D_fates, d + 5, 4, [some (.ref (194 : Nat)), some (.int x0), some (.int (0 : Int32)), some (.int (0 : Int32))], [])) (h' := (zt_T L, zt_R, M, J, e)) (fun _ => rfl)).trans ?_
  refine zf_forD (X := fun (i1 : Nat) (a1 : Int32) => zz_D (zm_D_fates, d + 5, 4, [some (.ref (194 : Nat)), some (.int x0), some (.int a1), some (.int (Int32.ofNat i1))], []) (zt_T L, zt_R, M, J, e)) (f := (f_D_fates_1 M x0)) (a := (0 : Int32)) 8 (fun i1 hi1 => ?_) ?_
  · intro hx1
    have k2 := k0 i1 hi1
    generalize zf_for i1 (f_D_fates_1 M x0) (0 : Int32) = a1 at hx1 k2 ⊢
    show zz_D (zm_D_fates, d + 5, 4, [some (.ref (194 : Nat)), some (.int x0), some (.int a1), some (.int (Int32.ofNat i1))], []) (zt_T L, zt_R, M, J, e) = _
    unfold kb_D_fates_1 at k2
    refine (zz_go 2 (fr' := (zm_D_fates, d + 5, 7, [some (.ref (194 : Nat)), some (.int x0), some (.int a1), some (.int (Int32.ofNat i1))], [.int (8 : Int32), .int (Int32.ofNat i1)])) (h' := (zt_T L, zt_R, M, J, e)) (fun _ => rfl)).trans ?_
    refine zc_geF rfl (zi_ltc (n := 8) (by omega) (by decide)) ?_
    refine (zz_go 3 (fr' := (zm_D_fates, d + 5, 13, [some (.ref (194 : Nat)), some (.int x0), some (.int a1), some (.int (Int32.ofNat i1))], [.int x0, .ref (194 : Nat), .int a1])) (h' := (zt_T L, zt_R, M, J, e)) (fun _ => rfl)).trans ?_
    obtain ⟨g3, k4⟩ := k2
    refine zl_vt (d := d + 4) rfl rfl rfl rfl rfl rfl rfl rfl rfl rfl (s_D_fitting L e J (d + 0) M x0 g3) ?_
    show zz_D (zm_D_fates, d + 5, 16, [some (.ref (194 : Nat)), some (.int x0), some (.int a1), some (.int (Int32.ofNat i1))], [.int (v_D_fitting M x0), .int a1]) (zt_T L, zt_R, M, J, e) = _
    refine (zz_go 1 (fr' := (zm_D_fates, d + 5, 17, [some (.ref (194 : Nat)), some (.int x0), some (.int a1), some (.int (Int32.ofNat i1))], [.int (Int32.ofNat i1), .int (v_D_fitting M x0), .int a1])) (h' := (zt_T L, zt_R, M, J, e)) (fun _ => rfl)).trans ?_
    refine zl_st (d := d + 4) rfl rfl rfl rfl rfl rfl rfl (s_D_isOf L e J (d + 3) (v_D_fitting M x0) (Int32.ofNat i1)) ?_
    show zz_D (zm_D_fates, d + 5, 20, [some (.ref (194 : Nat)), some (.int x0), some (.int a1), some (.int (Int32.ofNat i1))], [.int (zb (v_D_isOf (v_D_fitting M x0) (Int32.ofNat i1))), .int a1]) (zt_T L, zt_R, M, J, e) = _
    refine zz_jn (X := zz_D (zm_D_fates, d + 5, 35, [some (.ref (194 : Nat)), some (.int x0), none, some (.int (Int32.ofNat i1))], [.int (bif (v_D_isOf (v_D_fitting M x0) (Int32.ofNat i1)) then (zsl (1 : Int32) (v_D_ofKind M (Int32.ofNat i1) (1 : Int32))) else (0 : Int32)), .int a1]) (zt_T L, zt_R, M, J, e)) (fun j5 => ?_) ?_
    · rcases zz_bc (v_D_isOf (v_D_fitting M x0) (Int32.ofNat i1)) with h6 | h6
      · refine zq_eT rfl h6 ?_
        have k7 := k4 h6
        refine (zz_go 4 (fr' := (zm_D_fates, d + 5, 27, [some (.ref (194 : Nat)), some (.int x0), some (.int a1), some (.int (Int32.ofNat i1))], [.int (1 : Int32), .int (Int32.ofNat i1), .ref (194 : Nat), .int (1 : Int32), .int a1])) (h' := (zt_T L, zt_R, M, J, e)) (fun _ => rfl)).trans ?_
        have g8 : ok_D_ofKind M (Int32.ofNat i1) (1 : Int32) := k7
        refine zl_vt (d := d + 4) rfl rfl rfl rfl rfl rfl rfl rfl rfl rfl (s_D_ofKind L e J (d + 3) M (Int32.ofNat i1) (1 : Int32) g8) ?_
        show zz_D (zm_D_fates, d + 5, 30, [some (.ref (194 : Nat)), some (.int x0), some (.int a1), some (.int (Int32.ofNat i1))], [.int (v_D_ofKind M (Int32.ofNat i1) (1 : Int32)), .int (1 : Int32), .int a1]) (zt_T L, zt_R, M, J, e) = _
        refine (zz_go 2 (fr' := (zm_D_fates, d + 5, 35, [some (.ref (194 : Nat)), some (.int x0), some (.int a1), some (.int (Int32.ofNat i1))], [.int (zsl (1 : Int32) (v_D_ofKind M (Int32.ofNat i1) (1 : Int32))), .int a1])) (h' := (zt_T L, zt_R, M, J, e)) (fun _ => rfl)).trans ?_
        refine zz_weak (L := [some (.ref (194 : Nat)), some (.int x0), none, some (.int (Int32.ofNat i1))]) ⟨Or.inl rfl, Or.inl rfl, Or.inr ⟨rfl, rfl⟩, Or.inl rfl, trivial⟩ ?_
        simpa only [h6, zk_t, zk_f, zb_t, zb_f] using j5
      · refine zq_eF rfl h6 ?_
        refine (zz_go 1 (fr' := (zm_D_fates, d + 5, 35, [some (.ref (194 : Nat)), some (.int x0), some (.int a1), some (.int (Int32.ofNat i1))], [.int (0 : Int32), .int a1])) (h' := (zt_T L, zt_R, M, J, e)) (fun _ => rfl)).trans ?_
        refine zz_weak (L := [some (.ref (194 : Nat)), some (.int x0), none, some (.int (Int32.ofNat i1))]) ⟨Or.inl rfl, Or.inl rfl, Or.inr ⟨rfl, rfl⟩, Or.inl rfl, trivial⟩ ?_
        simpa only [h6, zk_t, zk_f, zb_t, zb_f] using j5
    refine (zz_go 4 (fr' := (zm_D_fates, d + 5, 4, [some (.ref (194 : Nat)), some (.int x0), some (.int (a1 ||| (bif (v_D_isOf (v_D_fitting M x0) (Int32.ofNat i1)) then (zsl (1 : Int32) (v_D_ofKind M (Int32.ofNat i1) (1 : Int32))) else (0 : Int32)))), some (.int (Int32.ofNat i1 + 1))], [])) (h' := (zt_T L, zt_R, M, J, e)) (fun _ => rfl)).trans ?_
    rw [zi_succ i1]
    simpa only [f_D_fates_1] using hx1
  show zz_D (zm_D_fates, d + 5, 4, [some (.ref (194 : Nat)), some (.int x0), some (.int (zf_for 8 (f_D_fates_1 M x0) (0 : Int32))), some (.int (Int32.ofNat 8))], []) (zt_T L, zt_R, M, J, e) = _
  refine (zz_go 2 (fr' := (zm_D_fates, d + 5, 7, [some (.ref (194 : Nat)), some (.int x0), some (.int (zf_for 8 (f_D_fates_1 M x0) (0 : Int32))), some (.int (Int32.ofNat 8))], [.int (8 : Int32), .int (Int32.ofNat 8)])) (h' := (zt_T L, zt_R, M, J, e)) (fun _ => rfl)).trans ?_
  refine zc_geT rfl (by decide) ?_
  refine zz_weak (L := [none, none, some (.int (zf_for 8 (f_D_fates_1 M x0) (0 : Int32))), none]) ⟨Or.inr ⟨rfl, rfl⟩, Or.inr ⟨rfl, rfl⟩, Or.inl rfl, Or.inr ⟨rfl, rfl⟩, trivial⟩ ?_
  refine (zz_go 1 (fr' := (zm_D_fates, d + 5, 44, [none, none, some (.int (zf_for 8 (f_D_fates_1 M x0) (0 : Int32))), none], [.int (zf_for 8 (f_D_fates_1 M x0) (0 : Int32))])) (h' := (zt_T L, zt_R, M, J, e)) (fun _ => rfl)).trans ?_
  refine zl_retI rfl rfl ?_
  rfl
def w_D_isPlace (M : zMem) (x0 : Int32) (x1 : Int32) : zMem := (zz_up M 194 0 (zb (bif (v_D_isOne M x0) then (bif (v_D_isIn x1 (0 : Int32) (15 : Int32)) then false else true) else true)))
set_option maxRecDepth 20000 in
set_option maxHeartbeats 2000000 in
theorem s_D_isPlace (L e : Nat) (J : zJem) (d : Nat) (M : zMem) (x0 : Int32) (x1 : Int32) : zz_D (zm_D_isPlace, d + 3, 0, [some (.ref (194 : Nat)), some (.int x0), some (.int x1)], []) (zt_T L, zt_R, M, J, e) = some (.inl (none), (zt_T L, zt_R, (w_D_isPlace M x0 x1), J, e)) := by
  unfold w_D_isPlace
  refine (zz_go 3 (fr' := (zm_D_isPlace, d + 3, 3, [some (.ref (194 : Nat)), some (.int x0), some (.int x1)], [.int x0, .ref (194 : Nat), .ref (194 : Nat)])) (h' := (zt_T L, zt_R, M, J, e)) (fun _ => rfl)).trans ?_
  refine zl_vt (d := d + 2) rfl rfl rfl rfl rfl rfl rfl rfl rfl rfl (s_D_isOne L e J (d + 0) M x0) ?_
  show zz_D (zm_D_isPlace, d + 3, 6, [some (.ref (194 : Nat)), some (.int x0), some (.int x1)], [.int (zb (v_D_isOne M x0)), .ref (194 : Nat)]) (zt_T L, zt_R, M, J, e) = _
  refine zz_jn (X := zz_D (zm_D_isPlace, d + 3, 24, [none, none, none], [.int (zb (bif (v_D_isOne M x0) then (bif (v_D_isIn x1 (0 : Int32) (15 : Int32)) then false else true) else true)), .ref (194 : Nat)]) (zt_T L, zt_R, M, J, e)) (fun j1 => ?_) ?_
  · rcases zz_bc (v_D_isOne M x0) with h2 | h2
    · refine zq_eT rfl h2 ?_
      refine (zz_go 3 (fr' := (zm_D_isPlace, d + 3, 13, [some (.ref (194 : Nat)), some (.int x0), some (.int x1)], [.int (15 : Int32), .int (0 : Int32), .int x1, .ref (194 : Nat)])) (h' := (zt_T L, zt_R, M, J, e)) (fun _ => rfl)).trans ?_
      refine zl_st (d := d + 2) rfl rfl rfl rfl rfl rfl rfl (s_D_isIn L e J (d + 1) x1 (0 : Int32) (15 : Int32)) ?_
      show zz_D (zm_D_isPlace, d + 3, 16, [some (.ref (194 : Nat)), some (.int x0), some (.int x1)], [.int (zb (v_D_isIn x1 (0 : Int32) (15 : Int32))), .ref (194 : Nat)]) (zt_T L, zt_R, M, J, e) = _
      refine zz_jn (X := zz_D (zm_D_isPlace, d + 3, 24, [none, none, none], [.int (zb (bif (v_D_isIn x1 (0 : Int32) (15 : Int32)) then false else true)), .ref (194 : Nat)]) (zt_T L, zt_R, M, J, e)) (fun j3 => ?_) ?_
      · rcases zz_bc (v_D_isIn x1 (0 : Int32) (15 : Int32)) with h4 | h4
        · refine zq_fT rfl h4 ?_
          refine (zz_go 1 (fr' := (zm_D_isPlace, d + 3, 24, [some (.ref (194 : Nat)), some (.int x0), some (.int x1)], [.int (0 : Int32), .ref (194 : Nat)])) (h' := (zt_T L, zt_R, M, J, e)) (fun _ => rfl)).trans ?_
          refine zz_weak (L := [none, none, none]) ⟨Or.inr ⟨rfl, rfl⟩, Or.inr ⟨rfl, rfl⟩, Or.inr ⟨rfl, rfl⟩, trivial⟩ ?_
          simpa only [h4, zk_t, zk_f, zb_t, zb_f] using j3
        · refine zq_fF rfl h4 ?_
          refine (zz_go 2 (fr' := (zm_D_isPlace, d + 3, 24, [some (.ref (194 : Nat)), some (.int x0), some (.int x1)], [.int (1 : Int32), .ref (194 : Nat)])) (h' := (zt_T L, zt_R, M, J, e)) (fun _ => rfl)).trans ?_
          refine zz_weak (L := [none, none, none]) ⟨Or.inr ⟨rfl, rfl⟩, Or.inr ⟨rfl, rfl⟩, Or.inr ⟨rfl, rfl⟩, trivial⟩ ?_
          simpa only [h4, zk_t, zk_f, zb_t, zb_f] using j3
      simpa only [h2, zk_t, zk_f, zb_t, zb_f] using j1
    · refine zq_eF rfl h2 ?_
      refine (zz_go 2 (fr' := (zm_D_isPlace, d + 3, 24, [some (.ref (194 : Nat)), some (.int x0), some (.int x1)], [.int (1 : Int32), .ref (194 : Nat)])) (h' := (zt_T L, zt_R, M, J, e)) (fun _ => rfl)).trans ?_
      refine zz_weak (L := [none, none, none]) ⟨Or.inr ⟨rfl, rfl⟩, Or.inr ⟨rfl, rfl⟩, Or.inr ⟨rfl, rfl⟩, trivial⟩ ?_
      simpa only [h2, zk_t, zk_f, zb_t, zb_f] using j1
  refine zl_putI rfl rfl rfl rfl ?_
  refine (zz_end 1 (r := (.inl none, (zt_T L, zt_R, (zz_up M 194 0 (zb (bif (v_D_isOne M x0) then (bif (v_D_isIn x1 (0 : Int32) (15 : Int32)) then false else true) else true))), J, e))) (fun _ => rfl)).trans ?_
  rfl
def v_D_mark (M : zMem) (x0 : Int32) (x1 : Int32) : Bool := (bif (decide (((w_D_isPlace M x0 x1) 194 0) = 0)) then (v_D_isOf ((v_D_of (w_D_isPlace M x0 x1) x0 (1 : Int32)) &&& (v_D_marksOf (w_D_isPlace M x0 x1) x0)) x1) else false)
def w_D_mark (M : zMem) (x0 : Int32) (x1 : Int32) : zMem := (w_D_isPlace M x0 x1)
def ok_D_mark (M : zMem) (x0 : Int32) (x1 : Int32) : Prop := ((decide (((w_D_isPlace M x0 x1) 194 0) = 0)) = true → (ok_D_of (w_D_isPlace M x0 x1) x0 (1 : Int32) ∧ ok_D_marksOf (w_D_isPlace M x0 x1) x0))
set_option maxRecDepth 20000 in
set_option maxHeartbeats 2000000 in
theorem s_D_mark (L e : Nat) (J : zJem) (d : Nat) (M : zMem) (x0 : Int32) (x1 : Int32) (k0 : ok_D_mark M x0 x1) : zz_D (zm_D_mark, d + 4, 0, [some (.ref (194 : Nat)), some (.int x0), some (.int x1)], []) (zt_T L, zt_R, M, J, e) = some (.inl (some (.int (zb (v_D_mark M x0 x1)))), (zt_T L, zt_R, (w_D_mark M x0 x1), J, e)) := by
  unfold ok_D_mark at k0
  unfold v_D_mark w_D_mark
  refine (zz_go 3 (fr' := (zm_D_mark, d + 4, 3, [some (.ref (194 : Nat)), some (.int x0), some (.int x1)], [.int x1, .int x0, .ref (194 : Nat)])) (h' := (zt_T L, zt_R, M, J, e)) (fun _ => rfl)).trans ?_
  refine zl_vt (d := d + 3) rfl rfl rfl rfl rfl rfl rfl rfl rfl rfl (s_D_isPlace L e J (d + 0) M x0 x1) ?_
  show zz_D (zm_D_mark, d + 4, 6, [some (.ref (194 : Nat)), some (.int x0), some (.int x1)], []) (zt_T L, zt_R, (w_D_isPlace M x0 x1), J, e) = _
  refine (zz_go 1 (fr' := (zm_D_mark, d + 4, 7, [some (.ref (194 : Nat)), some (.int x0), some (.int x1)], [.ref (194 : Nat)])) (h' := (zt_T L, zt_R, (w_D_isPlace M x0 x1), J, e)) (fun _ => rfl)).trans ?_
  refine zl_getI rfl (by decide) rfl rfl ?_
  refine zz_jn (X := zz_D (zm_D_mark, d + 4, 37, [none, none, none], [.int (zb (bif (decide (((w_D_isPlace M x0 x1) 194 0) = 0)) then (v_D_isOf ((v_D_of (w_D_isPlace M x0 x1) x0 (1 : Int32)) &&& (v_D_marksOf (w_D_isPlace M x0 x1) x0)) x1) else false))]) (zt_T L, zt_R, (w_D_isPlace M x0 x1), J, e)) (fun j1 => ?_) ?_
  · rcases zz_bc (decide (((w_D_isPlace M x0 x1) 194 0) = 0)) with h2 | h2
    · refine zo_neT rfl h2 ?_
      have k3 := k0 h2
      refine (zz_go 3 (fr' := (zm_D_mark, d + 4, 16, [some (.ref (194 : Nat)), some (.int x0), some (.int x1)], [.int (1 : Int32), .int x0, .ref (194 : Nat)])) (h' := (zt_T L, zt_R, (w_D_isPlace M x0 x1), J, e)) (fun _ => rfl)).trans ?_
      obtain ⟨g4, k5⟩ := k3
      refine zl_vt (d := d + 3) rfl rfl rfl rfl rfl rfl rfl rfl rfl rfl (s_D_of L e J (d + 2) (w_D_isPlace M x0 x1) x0 (1 : Int32) g4) ?_
      show zz_D (zm_D_mark, d + 4, 19, [some (.ref (194 : Nat)), some (.int x0), some (.int x1)], [.int (v_D_of (w_D_isPlace M x0 x1) x0 (1 : Int32))]) (zt_T L, zt_R, (w_D_isPlace M x0 x1), J, e) = _
      refine (zz_go 2 (fr' := (zm_D_mark, d + 4, 21, [some (.ref (194 : Nat)), some (.int x0), some (.int x1)], [.int x0, .ref (194 : Nat), .int (v_D_of (w_D_isPlace M x0 x1) x0 (1 : Int32))])) (h' := (zt_T L, zt_R, (w_D_isPlace M x0 x1), J, e)) (fun _ => rfl)).trans ?_
      have g6 : ok_D_marksOf (w_D_isPlace M x0 x1) x0 := k5
      refine zl_vt (d := d + 3) rfl rfl rfl rfl rfl rfl rfl rfl rfl rfl (s_D_marksOf L e J (d + 0) (w_D_isPlace M x0 x1) x0 g6) ?_
      show zz_D (zm_D_mark, d + 4, 24, [some (.ref (194 : Nat)), some (.int x0), some (.int x1)], [.int (v_D_marksOf (w_D_isPlace M x0 x1) x0), .int (v_D_of (w_D_isPlace M x0 x1) x0 (1 : Int32))]) (zt_T L, zt_R, (w_D_isPlace M x0 x1), J, e) = _
      refine (zz_go 2 (fr' := (zm_D_mark, d + 4, 26, [some (.ref (194 : Nat)), some (.int x0), some (.int x1)], [.int x1, .int ((v_D_of (w_D_isPlace M x0 x1) x0 (1 : Int32)) &&& (v_D_marksOf (w_D_isPlace M x0 x1) x0))])) (h' := (zt_T L, zt_R, (w_D_isPlace M x0 x1), J, e)) (fun _ => rfl)).trans ?_
      refine zl_st (d := d + 3) rfl rfl rfl rfl rfl rfl rfl (s_D_isOf L e J (d + 2) ((v_D_of (w_D_isPlace M x0 x1) x0 (1 : Int32)) &&& (v_D_marksOf (w_D_isPlace M x0 x1) x0)) x1) ?_
      show zz_D (zm_D_mark, d + 4, 29, [some (.ref (194 : Nat)), some (.int x0), some (.int x1)], [.int (zb (v_D_isOf ((v_D_of (w_D_isPlace M x0 x1) x0 (1 : Int32)) &&& (v_D_marksOf (w_D_isPlace M x0 x1) x0)) x1))]) (zt_T L, zt_R, (w_D_isPlace M x0 x1), J, e) = _
      refine zz_jn (X := zz_D (zm_D_mark, d + 4, 37, [none, none, none], [.int (zb (v_D_isOf ((v_D_of (w_D_isPlace M x0 x1) x0 (1 : Int32)) &&& (v_D_marksOf (w_D_isPlace M x0 x1) x0)) x1))]) (zt_T L, zt_R, (w_D_isPlace M x0 x1), J, e)) (fun j7 => ?_) ?_
      · rcases zz_bc (v_D_isOf ((v_D_of (w_D_isPlace M x0 x1) x0 (1 : Int32)) &&& (v_D_marksOf (w_D_isPlace M x0 x1) x0)) x1) with h8 | h8
        · refine zq_eT rfl h8 ?_
          refine (zz_go 2 (fr' := (zm_D_mark, d + 4, 37, [some (.ref (194 : Nat)), some (.int x0), some (.int x1)], [.int (1 : Int32)])) (h' := (zt_T L, zt_R, (w_D_isPlace M x0 x1), J, e)) (fun _ => rfl)).trans ?_
          refine zz_weak (L := [none, none, none]) ⟨Or.inr ⟨rfl, rfl⟩, Or.inr ⟨rfl, rfl⟩, Or.inr ⟨rfl, rfl⟩, trivial⟩ ?_
          simpa only [h8, zk_t, zk_f, zb_t, zb_f] using j7
        · refine zq_eF rfl h8 ?_
          refine (zz_go 1 (fr' := (zm_D_mark, d + 4, 37, [some (.ref (194 : Nat)), some (.int x0), some (.int x1)], [.int (0 : Int32)])) (h' := (zt_T L, zt_R, (w_D_isPlace M x0 x1), J, e)) (fun _ => rfl)).trans ?_
          refine zz_weak (L := [none, none, none]) ⟨Or.inr ⟨rfl, rfl⟩, Or.inr ⟨rfl, rfl⟩, Or.inr ⟨rfl, rfl⟩, trivial⟩ ?_
          simpa only [h8, zk_t, zk_f, zb_t, zb_f] using j7
      simpa only [h2, zk_t, zk_f, zb_t, zb_f] using j1
    · refine zo_neF rfl h2 ?_
      refine (zz_go 1 (fr' := (zm_D_mark, d + 4, 37, [some (.ref (194 : Nat)), some (.int x0), some (.int x1)], [.int (0 : Int32)])) (h' := (zt_T L, zt_R, (w_D_isPlace M x0 x1), J, e)) (fun _ => rfl)).trans ?_
      refine zz_weak (L := [none, none, none]) ⟨Or.inr ⟨rfl, rfl⟩, Or.inr ⟨rfl, rfl⟩, Or.inr ⟨rfl, rfl⟩, trivial⟩ ?_
      simpa only [h2, zk_t, zk_f, zb_t, zb_f] using j1
  refine zl_retZ rfl ?_
  rfl
def f_D_remembers_1 (M : zMem) (i1 : Nat) (a1 : zMem) : zMem := (zz_up a1 198 i1 (a1 198 ((Int32.ofNat i1) + (309 : Int32)).toNatClampNeg))
def kb_D_remembers_1 (M : zMem) (i1 : Nat) (a1 : zMem) : Prop := zz_in ((Int32.ofNat i1) + (309 : Int32)) 3708 = true
def f_D_remembers_2 (M : zMem) (i2 : Nat) (a2 : zMem) : zMem := (zz_up a2 198 (((309 : Int32) * (a2 194 6)) + (Int32.ofNat i2)).toNatClampNeg (a2 195 i2))
def kb_D_remembers_2 (M : zMem) (i2 : Nat) (a2 : zMem) : Prop := zz_in (((309 : Int32) * (a2 194 6)) + (Int32.ofNat i2)) 3708 = true
def w_D_remembers (M : zMem) : zMem := (zz_up (zf_for 309 (f_D_remembers_2 M) (bif (decide ((M 194 6) = (12 : Int32))) then (zz_up (zf_for 3399 (f_D_remembers_1 M) M) 194 6 (((zf_for 3399 (f_D_remembers_1 M) M) 194 6) - (1 : Int32))) else M)) 194 6 (((zf_for 309 (f_D_remembers_2 M) (bif (decide ((M 194 6) = (12 : Int32))) then (zz_up (zf_for 3399 (f_D_remembers_1 M) M) 194 6 (((zf_for 3399 (f_D_remembers_1 M) M) 194 6) - (1 : Int32))) else M)) 194 6) + (1 : Int32)))
def ok_D_remembers (M : zMem) : Prop := (((decide ((M 194 6) = (12 : Int32))) = true → (∀ i1, i1 < 3399 → kb_D_remembers_1 M i1 (zf_for i1 (f_D_remembers_1 M) M))) ∧ (∀ i2, i2 < 309 → kb_D_remembers_2 M i2 (zf_for i2 (f_D_remembers_2 M) (bif (decide ((M 194 6) = (12 : Int32))) then (zz_up (zf_for 3399 (f_D_remembers_1 M) M) 194 6 (((zf_for 3399 (f_D_remembers_1 M) M) 194 6) - (1 : Int32))) else M))))
set_option maxRecDepth 20000 in
set_option maxHeartbeats 2000000 in
theorem s_D_remembers (L e : Nat) (J : zJem) (d : Nat) (M : zMem) (k0 : ok_D_remembers M) : zz_D (zm_D_remembers, d + 1, 0, [some (.ref (194 : Nat)), none], []) (zt_T L, zt_R, M, J, e) = some (.inl (none), (zt_T L, zt_R, (w_D_remembers M), J, e)) := by
  unfold ok_D_remembers at k0
  unfold w_D_remembers
  refine (zz_go 1 (fr' := (zm_D_remembers, d + 1, 1, [some (.ref (194 : Nat)), none], [.ref (194 : Nat)])) (h' := (zt_T L, zt_R, M, J, e)) (fun _ => rfl)).trans ?_
  refine zl_getI rfl (by decide) rfl rfl ?_
  obtain ⟨k1, k2⟩ := k0
  refine zz_jn (X := zz_D (zm_D_remembers, d + 1, 50, [some (.ref (194 : Nat)), none], []) (zt_T L, zt_R, (bif (decide ((M 194 6) = (12 : Int32))) then (zz_up (zf_for 3399 (f_D_remembers_1 M) M) 194 6 (((zf_for 3399 (f_D_remembers_1 M) M) 194 6) - (1 : Int32))) else M), J, e)) (fun j3 => ?_) ?_
  · refine (zz_go 1 (fr' := (zm_D_remembers, d + 1, 6, [some (.ref (194 : Nat)), none], [.int (12 : Int32), .int (M 194 6)])) (h' := (zt_T L, zt_R, M, J, e)) (fun _ => rfl)).trans ?_
    rcases zz_bc (decide ((M 194 6) = (12 : Int32))) with h4 | h4
    · refine zc_neT rfl h4 ?_
      have k5 := k1 h4
      refine (zz_go 2 (fr' := (zm_D_remembers, d + 1, 11, [some (.ref (194 : Nat)), some (.int (0 : Int32))], [])) (h' := (zt_T L, zt_R, M, J, e)) (fun _ => rfl)).trans ?_
      refine zf_forD (X := fun (i1 : Nat) (a1 : zMem) => zz_D (zm_D_remembers, d + 1, 11, [some (.ref (194 : Nat)), some (.int (Int32.ofNat i1))], []) (zt_T L, zt_R, a1, J, e)) (f := (f_D_remembers_1 M)) (a := M) 3399 (fun i1 hi1 => ?_) ?_
      · intro hx6
        have k7 := k5 i1 hi1
        generalize zf_for i1 (f_D_remembers_1 M) M = a1 at hx6 k7 ⊢
        show zz_D (zm_D_remembers, d + 1, 11, [some (.ref (194 : Nat)), some (.int (Int32.ofNat i1))], []) (zt_T L, zt_R, a1, J, e) = _
        unfold kb_D_remembers_1 at k7
        refine (zz_go 2 (fr' := (zm_D_remembers, d + 1, 15, [some (.ref (194 : Nat)), some (.int (Int32.ofNat i1))], [.int (3399 : Int32), .int (Int32.ofNat i1)])) (h' := (zt_T L, zt_R, a1, J, e)) (fun _ => rfl)).trans ?_
        refine zc_geF rfl (zi_ltc (n := 3399) (by omega) (by decide)) ?_
        refine (zz_go 1 (fr' := (zm_D_remembers, d + 1, 19, [some (.ref (194 : Nat)), some (.int (Int32.ofNat i1))], [.ref (194 : Nat)])) (h' := (zt_T L, zt_R, a1, J, e)) (fun _ => rfl)).trans ?_
        refine zl_getR (r := 198) rfl rfl rfl ?_
        refine (zz_go 2 (fr' := (zm_D_remembers, d + 1, 24, [some (.ref (194 : Nat)), some (.int (Int32.ofNat i1))], [.ref (194 : Nat), .int (Int32.ofNat i1), .ref (198 : Nat)])) (h' := (zt_T L, zt_R, a1, J, e)) (fun _ => rfl)).trans ?_
        refine zl_getR (r := 198) rfl rfl rfl ?_
        refine (zz_go 3 (fr' := (zm_D_remembers, d + 1, 32, [some (.ref (194 : Nat)), some (.int (Int32.ofNat i1))], [.int ((Int32.ofNat i1) + (309 : Int32)), .ref (198 : Nat), .int (Int32.ofNat i1), .ref (198 : Nat)])) (h' := (zt_T L, zt_R, a1, J, e)) (fun _ => rfl)).trans ?_
        have g8 : zz_in ((Int32.ofNat i1) + (309 : Int32)) 3708 = true := k7
        refine zl_iaN (v := (a1 198 ((Int32.ofNat i1) + (309 : Int32)).toNatClampNeg)) ((Int32.ofNat i1) + (309 : Int32)).toNatClampNeg rfl rfl g8 rfl rfl ?_
        refine zl_iastore (i := i1) rfl rfl (zi_in (by omega) (by decide)) rfl (zi_nat (by omega)) ?_
        refine (zz_go 2 (fr' := (zm_D_remembers, d + 1, 11, [some (.ref (194 : Nat)), some (.int (Int32.ofNat i1 + 1))], [])) (h' := (zt_T L, zt_R, (zz_up a1 198 i1 (a1 198 ((Int32.ofNat i1) + (309 : Int32)).toNatClampNeg)), J, e)) (fun _ => rfl)).trans ?_
        rw [zi_succ i1]
        exact hx6
      show zz_D (zm_D_remembers, d + 1, 11, [some (.ref (194 : Nat)), some (.int (Int32.ofNat 3399))], []) (zt_T L, zt_R, (zf_for 3399 (f_D_remembers_1 M) M), J, e) = _
      refine (zz_go 2 (fr' := (zm_D_remembers, d + 1, 15, [some (.ref (194 : Nat)), some (.int (Int32.ofNat 3399))], [.int (3399 : Int32), .int (Int32.ofNat 3399)])) (h' := (zt_T L, zt_R, (zf_for 3399 (f_D_remembers_1 M) M), J, e)) (fun _ => rfl)).trans ?_
      refine zc_geT rfl (by decide) ?_
      refine zz_weak (L := [some (.ref (194 : Nat)), none]) ⟨Or.inl rfl, Or.inr ⟨rfl, rfl⟩, trivial⟩ ?_
      refine (zz_go 2 (fr' := (zm_D_remembers, d + 1, 42, [some (.ref (194 : Nat)), none], [.ref (194 : Nat), .ref (194 : Nat)])) (h' := (zt_T L, zt_R, (zf_for 3399 (f_D_remembers_1 M) M), J, e)) (fun _ => rfl)).trans ?_
      refine zl_getI rfl (by decide) rfl rfl ?_
      refine (zz_go 2 (fr' := (zm_D_remembers, d + 1, 47, [some (.ref (194 : Nat)), none], [.int (((zf_for 3399 (f_D_remembers_1 M) M) 194 6) - (1 : Int32)), .ref (194 : Nat)])) (h' := (zt_T L, zt_R, (zf_for 3399 (f_D_remembers_1 M) M), J, e)) (fun _ => rfl)).trans ?_
      refine zl_putI rfl rfl rfl rfl ?_
      simpa only [h4, zk_t, zk_f, zb_t, zb_f] using j3
    · refine zc_neF rfl h4 ?_
      simpa only [h4, zk_t, zk_f, zb_t, zb_f] using j3
  refine (zz_go 2 (fr' := (zm_D_remembers, d + 1, 52, [some (.ref (194 : Nat)), some (.int (0 : Int32))], [])) (h' := (zt_T L, zt_R, (bif (decide ((M 194 6) = (12 : Int32))) then (zz_up (zf_for 3399 (f_D_remembers_1 M) M) 194 6 (((zf_for 3399 (f_D_remembers_1 M) M) 194 6) - (1 : Int32))) else M), J, e)) (fun _ => rfl)).trans ?_
  refine zf_forD (X := fun (i2 : Nat) (a2 : zMem) => zz_D (zm_D_remembers, d + 1, 52, [some (.ref (194 : Nat)), some (.int (Int32.ofNat i2))], []) (zt_T L, zt_R, a2, J, e)) (f := (f_D_remembers_2 M)) (a := (bif (decide ((M 194 6) = (12 : Int32))) then (zz_up (zf_for 3399 (f_D_remembers_1 M) M) 194 6 (((zf_for 3399 (f_D_remembers_1 M) M) 194 6) - (1 : Int32))) else M)) 309 (fun i2 hi2 => ?_) ?_
  · intro hx9
    have k10 := k2 i2 hi2
    generalize zf_for i2 (f_D_remembers_2 M) (bif (decide ((M 194 6) = (12 : Int32))) then (zz_up (zf_for 3399 (f_D_remembers_1 M) M) 194 6 (((zf_for 3399 (f_D_remembers_1 M) M) 194 6) - (1 : Int32))) else M) = a2 at hx9 k10 ⊢
    show zz_D (zm_D_remembers, d + 1, 52, [some (.ref (194 : Nat)), some (.int (Int32.ofNat i2))], []) (zt_T L, zt_R, a2, J, e) = _
    unfold kb_D_remembers_2 at k10
    refine (zz_go 2 (fr' := (zm_D_remembers, d + 1, 56, [some (.ref (194 : Nat)), some (.int (Int32.ofNat i2))], [.int (309 : Int32), .int (Int32.ofNat i2)])) (h' := (zt_T L, zt_R, a2, J, e)) (fun _ => rfl)).trans ?_
    refine zc_geF rfl (zi_ltc (n := 309) (by omega) (by decide)) ?_
    refine (zz_go 1 (fr' := (zm_D_remembers, d + 1, 60, [some (.ref (194 : Nat)), some (.int (Int32.ofNat i2))], [.ref (194 : Nat)])) (h' := (zt_T L, zt_R, a2, J, e)) (fun _ => rfl)).trans ?_
    refine zl_getR (r := 198) rfl rfl rfl ?_
    refine (zz_go 2 (fr' := (zm_D_remembers, d + 1, 67, [some (.ref (194 : Nat)), some (.int (Int32.ofNat i2))], [.ref (194 : Nat), .int (309 : Int32), .ref (198 : Nat)])) (h' := (zt_T L, zt_R, a2, J, e)) (fun _ => rfl)).trans ?_
    refine zl_getI rfl (by decide) rfl rfl ?_
    refine (zz_go 4 (fr' := (zm_D_remembers, d + 1, 74, [some (.ref (194 : Nat)), some (.int (Int32.ofNat i2))], [.ref (194 : Nat), .int (((309 : Int32) * (a2 194 6)) + (Int32.ofNat i2)), .ref (198 : Nat)])) (h' := (zt_T L, zt_R, a2, J, e)) (fun _ => rfl)).trans ?_
    refine zl_getR (r := 195) rfl rfl rfl ?_
    refine (zz_go 1 (fr' := (zm_D_remembers, d + 1, 78, [some (.ref (194 : Nat)), some (.int (Int32.ofNat i2))], [.int (Int32.ofNat i2), .ref (195 : Nat), .int (((309 : Int32) * (a2 194 6)) + (Int32.ofNat i2)), .ref (198 : Nat)])) (h' := (zt_T L, zt_R, a2, J, e)) (fun _ => rfl)).trans ?_
    refine zl_iaN (v := (a2 195 i2)) i2 rfl rfl (zi_in (by omega) (by decide)) (zi_nat (by omega)) rfl ?_
    have g11 : zz_in (((309 : Int32) * (a2 194 6)) + (Int32.ofNat i2)) 3708 = true := k10
    refine zl_iastore (i := (((309 : Int32) * (a2 194 6)) + (Int32.ofNat i2)).toNatClampNeg) rfl rfl g11 rfl rfl ?_
    refine (zz_go 2 (fr' := (zm_D_remembers, d + 1, 52, [some (.ref (194 : Nat)), some (.int (Int32.ofNat i2 + 1))], [])) (h' := (zt_T L, zt_R, (zz_up a2 198 (((309 : Int32) * (a2 194 6)) + (Int32.ofNat i2)).toNatClampNeg (a2 195 i2)), J, e)) (fun _ => rfl)).trans ?_
    rw [zi_succ i2]
    exact hx9
  show zz_D (zm_D_remembers, d + 1, 52, [some (.ref (194 : Nat)), some (.int (Int32.ofNat 309))], []) (zt_T L, zt_R, (zf_for 309 (f_D_remembers_2 M) (bif (decide ((M 194 6) = (12 : Int32))) then (zz_up (zf_for 3399 (f_D_remembers_1 M) M) 194 6 (((zf_for 3399 (f_D_remembers_1 M) M) 194 6) - (1 : Int32))) else M)), J, e) = _
  refine (zz_go 2 (fr' := (zm_D_remembers, d + 1, 56, [some (.ref (194 : Nat)), some (.int (Int32.ofNat 309))], [.int (309 : Int32), .int (Int32.ofNat 309)])) (h' := (zt_T L, zt_R, (zf_for 309 (f_D_remembers_2 M) (bif (decide ((M 194 6) = (12 : Int32))) then (zz_up (zf_for 3399 (f_D_remembers_1 M) M) 194 6 (((zf_for 3399 (f_D_remembers_1 M) M) 194 6) - (1 : Int32))) else M)), J, e)) (fun _ => rfl)).trans ?_
  refine zc_geT rfl (by decide) ?_
  refine zz_weak (L := [some (.ref (194 : Nat)), none]) ⟨Or.inl rfl, Or.inr ⟨rfl, rfl⟩, trivial⟩ ?_
  refine (zz_go 2 (fr' := (zm_D_remembers, d + 1, 88, [some (.ref (194 : Nat)), none], [.ref (194 : Nat), .ref (194 : Nat)])) (h' := (zt_T L, zt_R, (zf_for 309 (f_D_remembers_2 M) (bif (decide ((M 194 6) = (12 : Int32))) then (zz_up (zf_for 3399 (f_D_remembers_1 M) M) 194 6 (((zf_for 3399 (f_D_remembers_1 M) M) 194 6) - (1 : Int32))) else M)), J, e)) (fun _ => rfl)).trans ?_
  refine zl_getI rfl (by decide) rfl rfl ?_
  refine (zz_go 2 (fr' := (zm_D_remembers, d + 1, 93, [some (.ref (194 : Nat)), none], [.int (((zf_for 309 (f_D_remembers_2 M) (bif (decide ((M 194 6) = (12 : Int32))) then (zz_up (zf_for 3399 (f_D_remembers_1 M) M) 194 6 (((zf_for 3399 (f_D_remembers_1 M) M) 194 6) - (1 : Int32))) else M)) 194 6) + (1 : Int32)), .ref (194 : Nat)])) (h' := (zt_T L, zt_R, (zf_for 309 (f_D_remembers_2 M) (bif (decide ((M 194 6) = (12 : Int32))) then (zz_up (zf_for 3399 (f_D_remembers_1 M) M) 194 6 (((zf_for 3399 (f_D_remembers_1 M) M) 194 6) - (1 : Int32))) else M)), J, e)) (fun _ => rfl)).trans ?_
  refine zl_putI rfl rfl rfl rfl ?_
  refine (zz_end 1 (r := (.inl none, (zt_T L, zt_R, (zz_up (zf_for 309 (f_D_remembers_2 M) (bif (decide ((M 194 6) = (12 : Int32))) then (zz_up (zf_for 3399 (f_D_remembers_1 M) M) 194 6 (((zf_for 3399 (f_D_remembers_1 M) M) 194 6) - (1 : Int32))) else M)) 194 6 (((zf_for 309 (f_D_remembers_2 M) (bif (decide ((M 194 6) = (12 : Int32))) then (zz_up (zf_for 3399 (f_D_remembers_1 M) M) 194 6 (((zf_for 3399 (f_D_remembers_1 M) M) 194 6) - (1 : Int32))) else M)) 194 6) + (1 : Int32))), J, e))) (fun _ => rfl)).trans ?_
  rfl
def v_D_sets (M : zMem) (x0 : Int32) (x1 : Int32) : Int32 := ((w_D_remembers M) 195 (x0).toNatClampNeg)
def w_D_sets (M : zMem) (x0 : Int32) (x1 : Int32) : zMem := (zz_up (w_D_remembers M) 195 (x0).toNatClampNeg x1)
def ok_D_sets (M : zMem) (x0 : Int32) (x1 : Int32) : Prop := (ok_D_remembers M ∧ zz_in x0 709 = true)
set_option maxRecDepth 20000 in
set_option maxHeartbeats 2000000 in
theorem s_D_sets (L e : Nat) (J : zJem) (d : Nat) (M : zMem) (x0 : Int32) (x1 : Int32) (k0 : ok_D_sets M x0 x1) : zz_D (zm_D_sets, d + 2, 0, [some (.ref (194 : Nat)), some (.int x0), some (.int x1), none], []) (zt_T L, zt_R, M, J, e) = some (.inl (some (.int (v_D_sets M x0 x1))), (zt_T L, zt_R, (w_D_sets M x0 x1), J, e)) := by
  unfold ok_D_sets at k0
  unfold v_D_sets w_D_sets
  refine (zz_go 1 (fr' := (zm_D_sets, d + 2, 1, [some (.ref (194 : Nat)), some (.int x0), some (.int x1), none], [.ref (194 : Nat)])) (h' := (zt_T L, zt_R, M, J, e)) (fun _ => rfl)).trans ?_
  obtain ⟨g1, k2⟩ := k0
  refine zl_vt (d := d + 1) rfl rfl rfl rfl rfl rfl rfl rfl rfl rfl (s_D_remembers L e J (d + 0) M g1) ?_
  show zz_D (zm_D_sets, d + 2, 4, [some (.ref (194 : Nat)), some (.int x0), some (.int x1), none], []) (zt_T L, zt_R, (w_D_remembers M), J, e) = _
  refine (zz_go 1 (fr' := (zm_D_sets, d + 2, 5, [some (.ref (194 : Nat)), some (.int x0), some (.int x1), none], [.ref (194 : Nat)])) (h' := (zt_T L, zt_R, (w_D_remembers M), J, e)) (fun _ => rfl)).trans ?_
  refine zl_getR (r := 195) rfl rfl rfl ?_
  refine (zz_go 1 (fr' := (zm_D_sets, d + 2, 9, [some (.ref (194 : Nat)), some (.int x0), some (.int x1), none], [.int x0, .ref (195 : Nat)])) (h' := (zt_T L, zt_R, (w_D_remembers M), J, e)) (fun _ => rfl)).trans ?_
  have g3 : zz_in x0 709 = true := k2
  refine zl_iaN (v := ((w_D_remembers M) 195 (x0).toNatClampNeg)) (x0).toNatClampNeg rfl rfl g3 rfl rfl ?_
  refine (zz_go 2 (fr' := (zm_D_sets, d + 2, 12, [some (.ref (194 : Nat)), some (.int x0), some (.int x1), some (.int ((w_D_remembers M) 195 (x0).toNatClampNeg))], [.ref (194 : Nat)])) (h' := (zt_T L, zt_R, (w_D_remembers M), J, e)) (fun _ => rfl)).trans ?_
  refine zl_getR (r := 195) rfl rfl rfl ?_
  refine (zz_go 2 (fr' := (zm_D_sets, d + 2, 17, [some (.ref (194 : Nat)), some (.int x0), some (.int x1), some (.int ((w_D_remembers M) 195 (x0).toNatClampNeg))], [.int x1, .int x0, .ref (195 : Nat)])) (h' := (zt_T L, zt_R, (w_D_remembers M), J, e)) (fun _ => rfl)).trans ?_
  refine zl_iastore (i := (x0).toNatClampNeg) rfl rfl g3 rfl rfl ?_
  refine (zz_go 1 (fr' := (zm_D_sets, d + 2, 19, [some (.ref (194 : Nat)), some (.int x0), some (.int x1), some (.int ((w_D_remembers M) 195 (x0).toNatClampNeg))], [.int ((w_D_remembers M) 195 (x0).toNatClampNeg)])) (h' := (zt_T L, zt_R, (zz_up (w_D_remembers M) 195 (x0).toNatClampNeg x1), J, e)) (fun _ => rfl)).trans ?_
  refine zl_retI rfl rfl ?_
  rfl
def v_D_rub (M : zMem) (x0 : Int32) (x1 : Int32) : Bool := (bif (decide (((w_D_isPlace M x0 x1) 194 0) ≤ 0)) then (bif (decide ((bif (v_D_isOf (v_D_of (w_D_isPlace M x0 x1) x0 (1 : Int32)) x1) then (2 : Int32) else (0 : Int32)) ≤ 0)) then (v_D_isOf (v_D_marksOf (w_D_logs (w_D_sets (zz_up (w_D_isPlace M x0 x1) 194 0 (bif (v_D_isOf (v_D_of (w_D_isPlace M x0 x1) x0 (1 : Int32)) x1) then (2 : Int32) else (0 : Int32))) (((33 : Int32) + ((6 : Int32) * x0)) + (1 : Int32)) ((v_D_of (zz_up (w_D_isPlace M x0 x1) 194 0 (bif (v_D_isOf (v_D_of (w_D_isPlace M x0 x1) x0 (1 : Int32)) x1) then (2 : Int32) else (0 : Int32))) x0 (1 : Int32)) ||| (zsl (1 : Int32) x1))) (1 : Int32) x0 x1) x0) x1) else false) else false)
def w_D_rub (M : zMem) (x0 : Int32) (x1 : Int32) : zMem := (bif (decide (((w_D_isPlace M x0 x1) 194 0) ≤ 0)) then (bif (decide ((bif (v_D_isOf (v_D_of (w_D_isPlace M x0 x1) x0 (1 : Int32)) x1) then (2 : Int32) else (0 : Int32)) ≤ 0)) then (w_D_logs (w_D_sets (zz_up (w_D_isPlace M x0 x1) 194 0 (bif (v_D_isOf (v_D_of (w_D_isPlace M x0 x1) x0 (1 : Int32)) x1) then (2 : Int32) else (0 : Int32))) (((33 : Int32) + ((6 : Int32) * x0)) + (1 : Int32)) ((v_D_of (zz_up (w_D_isPlace M x0 x1) 194 0 (bif (v_D_isOf (v_D_of (w_D_isPlace M x0 x1) x0 (1 : Int32)) x1) then (2 : Int32) else (0 : Int32))) x0 (1 : Int32)) ||| (zsl (1 : Int32) x1))) (1 : Int32) x0 x1) else (zz_up (w_D_isPlace M x0 x1) 194 0 (bif (v_D_isOf (v_D_of (w_D_isPlace M x0 x1) x0 (1 : Int32)) x1) then (2 : Int32) else (0 : Int32)))) else (w_D_isPlace M x0 x1))
def ok_D_rub (M : zMem) (x0 : Int32) (x1 : Int32) : Prop := ((decide (((w_D_isPlace M x0 x1) 194 0) ≤ 0)) = true → (ok_D_of (w_D_isPlace M x0 x1) x0 (1 : Int32) ∧ ((decide ((bif (v_D_isOf (v_D_of (w_D_isPlace M x0 x1) x0 (1 : Int32)) x1) then (2 : Int32) else (0 : Int32)) ≤ 0)) = true → (ok_D_of (zz_up (w_D_isPlace M x0 x1) 194 0 (bif (v_D_isOf (v_D_of (w_D_isPlace M x0 x1) x0 (1 : Int32)) x1) then (2 : Int32) else (0 : Int32))) x0 (1 : Int32) ∧ (ok_D_sets (zz_up (w_D_isPlace M x0 x1) 194 0 (bif (v_D_isOf (v_D_of (w_D_isPlace M x0 x1) x0 (1 : Int32)) x1) then (2 : Int32) else (0 : Int32))) (((33 : Int32) + ((6 : Int32) * x0)) + (1 : Int32)) ((v_D_of (zz_up (w_D_isPlace M x0 x1) 194 0 (bif (v_D_isOf (v_D_of (w_D_isPlace M x0 x1) x0 (1 : Int32)) x1) then (2 : Int32) else (0 : Int32))) x0 (1 : Int32)) ||| (zsl (1 : Int32) x1)) ∧ (ok_D_logs (w_D_sets (zz_up (w_D_isPlace M x0 x1) 194 0 (bif (v_D_isOf (v_D_of (w_D_isPlace M x0 x1) x0 (1 : Int32)) x1) then (2 : Int32) else (0 : Int32))) (((33 : Int32) + ((6 : Int32) * x0)) + (1 : Int32)) ((v_D_of (zz_up (w_D_isPlace M x0 x1) 194 0 (bif (v_D_isOf (v_D_of (w_D_isPlace M x0 x1) x0 (1 : Int32)) x1) then (2 : Int32) else (0 : Int32))) x0 (1 : Int32)) ||| (zsl (1 : Int32) x1))) (1 : Int32) x0 x1 ∧ ok_D_marksOf (w_D_logs (w_D_sets (zz_up (w_D_isPlace M x0 x1) 194 0 (bif (v_D_isOf (v_D_of (w_D_isPlace M x0 x1) x0 (1 : Int32)) x1) then (2 : Int32) else (0 : Int32))) (((33 : Int32) + ((6 : Int32) * x0)) + (1 : Int32)) ((v_D_of (zz_up (w_D_isPlace M x0 x1) 194 0 (bif (v_D_isOf (v_D_of (w_D_isPlace M x0 x1) x0 (1 : Int32)) x1) then (2 : Int32) else (0 : Int32))) x0 (1 : Int32)) ||| (zsl (1 : Int32) x1))) (1 : Int32) x0 x1) x0))))))
set_option maxRecDepth 20000 in
set_option maxHeartbeats 2000000 in
theorem s_D_rub (L e : Nat) (J : zJem) (d : Nat) (M : zMem) (x0 : Int32) (x1 : Int32) (k0 : ok_D_rub M x0 x1) : zz_D (zm_D_rub, d + 4, 0, [some (.ref (194 : Nat)), some (.int x0), some (.int x1), none], []) (zt_T L, zt_R, M, J, e) = some (.inl (some (.int (zb (v_D_rub M x0 x1)))), (zt_T L, zt_R, (w_D_rub M x0 x1), J, e)) := by
  unfold ok_D_rub at k0
  unfold v_D_rub w_D_rub
  refine (zz_go 3 (fr' := (zm_D_rub, d + 4, 3, [some (.ref (194 : Nat)), some (.int x0), some (.int x1), none], [.int x1, .int x0, .ref (194 : Nat)])) (h' := (zt_T L, zt_R, M, J, e)) (fun _ => rfl)).trans ?_
  refine zl_vt (d := d + 3) rfl rfl rfl rfl rfl rfl rfl rfl rfl rfl (s_D_isPlace L e J (d + 0) M x0 x1) ?_
  show zz_D (zm_D_rub, d + 4, 6, [some (.ref (194 : Nat)), some (.int x0), some (.int x1), none], []) (zt_T L, zt_R, (w_D_isPlace M x0 x1), J, e) = _
  refine (zz_go 1 (fr' := (zm_D_rub, d + 4, 7, [some (.ref (194 : Nat)), some (.int x0), some (.int x1), none], [.ref (194 : Nat)])) (h' := (zt_T L, zt_R, (w_D_isPlace M x0 x1), J, e)) (fun _ => rfl)).trans ?_
  refine zl_getI rfl (by decide) rfl rfl ?_
  rcases zz_bc (decide (((w_D_isPlace M x0 x1) 194 0) ≤ 0)) with h1 | h1
  · refine zo_leT rfl h1 ?_
    have k2 := k0 h1
    refine (zz_go 4 (fr' := (zm_D_rub, d + 4, 19, [some (.ref (194 : Nat)), some (.int x0), some (.int x1), none], [.int (1 : Int32), .int x0, .ref (194 : Nat), .ref (194 : Nat)])) (h' := (zt_T L, zt_R, (w_D_isPlace M x0 x1), J, e)) (fun _ => rfl)).trans ?_
    obtain ⟨g3, k4⟩ := k2
    refine zl_vt (d := d + 3) rfl rfl rfl rfl rfl rfl rfl rfl rfl rfl (s_D_of L e J (d + 2) (w_D_isPlace M x0 x1) x0 (1 : Int32) g3) ?_
    show zz_D (zm_D_rub, d + 4, 22, [some (.ref (194 : Nat)), some (.int x0), some (.int x1), none], [.int (v_D_of (w_D_isPlace M x0 x1) x0 (1 : Int32)), .ref (194 : Nat)]) (zt_T L, zt_R, (w_D_isPlace M x0 x1), J, e) = _
    refine (zz_go 1 (fr' := (zm_D_rub, d + 4, 23, [some (.ref (194 : Nat)), some (.int x0), some (.int x1), none], [.int x1, .int (v_D_of (w_D_isPlace M x0 x1) x0 (1 : Int32)), .ref (194 : Nat)])) (h' := (zt_T L, zt_R, (w_D_isPlace M x0 x1), J, e)) (fun _ => rfl)).trans ?_
    refine zl_st (d := d + 3) rfl rfl rfl rfl rfl rfl rfl (s_D_isOf L e J (d + 2) (v_D_of (w_D_isPlace M x0 x1) x0 (1 : Int32)) x1) ?_
    show zz_D (zm_D_rub, d + 4, 26, [some (.ref (194 : Nat)), some (.int x0), some (.int x1), none], [.int (zb (v_D_isOf (v_D_of (w_D_isPlace M x0 x1) x0 (1 : Int32)) x1)), .ref (194 : Nat)]) (zt_T L, zt_R, (w_D_isPlace M x0 x1), J, e) = _
    refine zz_jn (X := zz_D (zm_D_rub, d + 4, 34, [some (.ref (194 : Nat)), some (.int x0), some (.int x1), none], [.int (bif (v_D_isOf (v_D_of (w_D_isPlace M x0 x1) x0 (1 : Int32)) x1) then (2 : Int32) else (0 : Int32)), .ref (194 : Nat)]) (zt_T L, zt_R, (w_D_isPlace M x0 x1), J, e)) (fun j5 => ?_) ?_
    · rcases zz_bc (v_D_isOf (v_D_of (w_D_isPlace M x0 x1) x0 (1 : Int32)) x1) with h6 | h6
      · refine zq_eT rfl h6 ?_
        refine (zz_go 2 (fr' := (zm_D_rub, d + 4, 34, [some (.ref (194 : Nat)), some (.int x0), some (.int x1), none], [.int (2 : Int32), .ref (194 : Nat)])) (h' := (zt_T L, zt_R, (w_D_isPlace M x0 x1), J, e)) (fun _ => rfl)).trans ?_
        simpa only [h6, zk_t, zk_f, zb_t, zb_f] using j5
      · refine zq_eF rfl h6 ?_
        refine (zz_go 1 (fr' := (zm_D_rub, d + 4, 34, [some (.ref (194 : Nat)), some (.int x0), some (.int x1), none], [.int (0 : Int32), .ref (194 : Nat)])) (h' := (zt_T L, zt_R, (w_D_isPlace M x0 x1), J, e)) (fun _ => rfl)).trans ?_
        simpa only [h6, zk_t, zk_f, zb_t, zb_f] using j5
    refine zl_putI rfl rfl rfl rfl ?_
    refine (zz_go 1 (fr' := (zm_D_rub, d + 4, 38, [some (.ref (194 : Nat)), some (.int x0), some (.int x1), none], [.ref (194 : Nat)])) (h' := (zt_T L, zt_R, (zz_up (w_D_isPlace M x0 x1) 194 0 (bif (v_D_isOf (v_D_of (w_D_isPlace M x0 x1) x0 (1 : Int32)) x1) then (2 : Int32) else (0 : Int32))), J, e)) (fun _ => rfl)).trans ?_
    refine zl_getI rfl (by decide) rfl zu_eq ?_
    rcases zz_bc (decide ((bif (v_D_isOf (v_D_of (w_D_isPlace M x0 x1) x0 (1 : Int32)) x1) then (2 : Int32) else (0 : Int32)) ≤ 0)) with h7 | h7
    · refine zo_leT rfl h7 ?_
      have k8 := k4 h7
      refine (zz_go 11 (fr' := (zm_D_rub, d + 4, 59, [some (.ref (194 : Nat)), some (.int x0), some (.int x1), none], [.int (1 : Int32), .int x0, .ref (194 : Nat), .int (((33 : Int32) + ((6 : Int32) * x0)) + (1 : Int32)), .ref (194 : Nat)])) (h' := (zt_T L, zt_R, (zz_up (w_D_isPlace M x0 x1) 194 0 (bif (v_D_isOf (v_D_of (w_D_isPlace M x0 x1) x0 (1 : Int32)) x1) then (2 : Int32) else (0 : Int32))), J, e)) (fun _ => rfl)).trans ?_
      obtain ⟨g9, k10⟩ := k8
      refine zl_vt (d := d + 3) rfl rfl rfl rfl rfl rfl rfl rfl rfl rfl (s_D_of L e J (d + 2) (zz_up (w_D_isPlace M x0 x1) 194 0 (bif (v_D_isOf (v_D_of (w_D_isPlace M x0 x1) x0 (1 : Int32)) x1) then (2 : Int32) else (0 : Int32))) x0 (1 : Int32) g9) ?_
      show zz_D (zm_D_rub, d + 4, 62, [some (.ref (194 : Nat)), some (.int x0), some (.int x1), none], [.int (v_D_of (zz_up (w_D_isPlace M x0 x1) 194 0 (bif (v_D_isOf (v_D_of (w_D_isPlace M x0 x1) x0 (1 : Int32)) x1) then (2 : Int32) else (0 : Int32))) x0 (1 : Int32)), .int (((33 : Int32) + ((6 : Int32) * x0)) + (1 : Int32)), .ref (194 : Nat)]) (zt_T L, zt_R, (zz_up (w_D_isPlace M x0 x1) 194 0 (bif (v_D_isOf (v_D_of (w_D_isPlace M x0 x1) x0 (1 : Int32)) x1) then (2 : Int32) else (0 : Int32))), J, e) = _
      refine (zz_go 4 (fr' := (zm_D_rub, d + 4, 66, [some (.ref (194 : Nat)), some (.int x0), some (.int x1), none], [.int ((v_D_of (zz_up (w_D_isPlace M x0 x1) 194 0 (bif (v_D_isOf (v_D_of (w_D_isPlace M x0 x1) x0 (1 : Int32)) x1) then (2 : Int32) else (0 : Int32))) x0 (1 : Int32)) ||| (zsl (1 : Int32) x1)), .int (((33 : Int32) + ((6 : Int32) * x0)) + (1 : Int32)), .ref (194 : Nat)])) (h' := (zt_T L, zt_R, (zz_up (w_D_isPlace M x0 x1) 194 0 (bif (v_D_isOf (v_D_of (w_D_isPlace M x0 x1) x0 (1 : Int32)) x1) then (2 : Int32) else (0 : Int32))), J, e)) (fun _ => rfl)).trans ?_
      obtain ⟨g11, k12⟩ := k10
      refine zl_vt (d := d + 3) rfl rfl rfl rfl rfl rfl rfl rfl rfl rfl (s_D_sets L e J (d + 1) (zz_up (w_D_isPlace M x0 x1) 194 0 (bif (v_D_isOf (v_D_of (w_D_isPlace M x0 x1) x0 (1 : Int32)) x1) then (2 : Int32) else (0 : Int32))) (((33 : Int32) + ((6 : Int32) * x0)) + (1 : Int32)) ((v_D_of (zz_up (w_D_isPlace M x0 x1) 194 0 (bif (v_D_isOf (v_D_of (w_D_isPlace M x0 x1) x0 (1 : Int32)) x1) then (2 : Int32) else (0 : Int32))) x0 (1 : Int32)) ||| (zsl (1 : Int32) x1)) g11) ?_
      show zz_D (zm_D_rub, d + 4, 69, [some (.ref (194 : Nat)), some (.int x0), some (.int x1), none], [.int (v_D_sets (zz_up (w_D_isPlace M x0 x1) 194 0 (bif (v_D_isOf (v_D_of (w_D_isPlace M x0 x1) x0 (1 : Int32)) x1) then (2 : Int32) else (0 : Int32))) (((33 : Int32) + ((6 : Int32) * x0)) + (1 : Int32)) ((v_D_of (zz_up (w_D_isPlace M x0 x1) 194 0 (bif (v_D_isOf (v_D_of (w_D_isPlace M x0 x1) x0 (1 : Int32)) x1) then (2 : Int32) else (0 : Int32))) x0 (1 : Int32)) ||| (zsl (1 : Int32) x1)))]) (zt_T L, zt_R, (w_D_sets (zz_up (w_D_isPlace M x0 x1) 194 0 (bif (v_D_isOf (v_D_of (w_D_isPlace M x0 x1) x0 (1 : Int32)) x1) then (2 : Int32) else (0 : Int32))) (((33 : Int32) + ((6 : Int32) * x0)) + (1 : Int32)) ((v_D_of (zz_up (w_D_isPlace M x0 x1) 194 0 (bif (v_D_isOf (v_D_of (w_D_isPlace M x0 x1) x0 (1 : Int32)) x1) then (2 : Int32) else (0 : Int32))) x0 (1 : Int32)) ||| (zsl (1 : Int32) x1))), J, e) = _
      refine (zz_go 5 (fr' := (zm_D_rub, d + 4, 74, [some (.ref (194 : Nat)), some (.int x0), some (.int x1), some (.int (v_D_sets (zz_up (w_D_isPlace M x0 x1) 194 0 (bif (v_D_isOf (v_D_of (w_D_isPlace M x0 x1) x0 (1 : Int32)) x1) then (2 : Int32) else (0 : Int32))) (((33 : Int32) + ((6 : Int32) * x0)) + (1 : Int32)) ((v_D_of (zz_up (w_D_isPlace M x0 x1) 194 0 (bif (v_D_isOf (v_D_of (w_D_isPlace M x0 x1) x0 (1 : Int32)) x1) then (2 : Int32) else (0 : Int32))) x0 (1 : Int32)) ||| (zsl (1 : Int32) x1))))], [.int x1, .int x0, .int (1 : Int32), .ref (194 : Nat)])) (h' := (zt_T L, zt_R, (w_D_sets (zz_up (w_D_isPlace M x0 x1) 194 0 (bif (v_D_isOf (v_D_of (w_D_isPlace M x0 x1) x0 (1 : Int32)) x1) then (2 : Int32) else (0 : Int32))) (((33 : Int32) + ((6 : Int32) * x0)) + (1 : Int32)) ((v_D_of (zz_up (w_D_isPlace M x0 x1) 194 0 (bif (v_D_isOf (v_D_of (w_D_isPlace M x0 x1) x0 (1 : Int32)) x1) then (2 : Int32) else (0 : Int32))) x0 (1 : Int32)) ||| (zsl (1 : Int32) x1))), J, e)) (fun _ => rfl)).trans ?_
      obtain ⟨g13, k14⟩ := k12
      refine zl_vt (d := d + 3) rfl rfl rfl rfl rfl rfl rfl rfl rfl rfl (s_D_logs L e J (d + 1) (w_D_sets (zz_up (w_D_isPlace M x0 x1) 194 0 (bif (v_D_isOf (v_D_of (w_D_isPlace M x0 x1) x0 (1 : Int32)) x1) then (2 : Int32) else (0 : Int32))) (((33 : Int32) + ((6 : Int32) * x0)) + (1 : Int32)) ((v_D_of (zz_up (w_D_isPlace M x0 x1) 194 0 (bif (v_D_isOf (v_D_of (w_D_isPlace M x0 x1) x0 (1 : Int32)) x1) then (2 : Int32) else (0 : Int32))) x0 (1 : Int32)) ||| (zsl (1 : Int32) x1))) (1 : Int32) x0 x1 g13) ?_
      show zz_D (zm_D_rub, d + 4, 77, [some (.ref (194 : Nat)), some (.int x0), some (.int x1), some (.int (v_D_sets (zz_up (w_D_isPlace M x0 x1) 194 0 (bif (v_D_isOf (v_D_of (w_D_isPlace M x0 x1) x0 (1 : Int32)) x1) then (2 : Int32) else (0 : Int32))) (((33 : Int32) + ((6 : Int32) * x0)) + (1 : Int32)) ((v_D_of (zz_up (w_D_isPlace M x0 x1) 194 0 (bif (v_D_isOf (v_D_of (w_D_isPlace M x0 x1) x0 (1 : Int32)) x1) then (2 : Int32) else (0 : Int32))) x0 (1 : Int32)) ||| (zsl (1 : Int32) x1))))], []) (zt_T L, zt_R, (w_D_logs (w_D_sets (zz_up (w_D_isPlace M x0 x1) 194 0 (bif (v_D_isOf (v_D_of (w_D_isPlace M x0 x1) x0 (1 : Int32)) x1) then (2 : Int32) else (0 : Int32))) (((33 : Int32) + ((6 : Int32) * x0)) + (1 : Int32)) ((v_D_of (zz_up (w_D_isPlace M x0 x1) 194 0 (bif (v_D_isOf (v_D_of (w_D_isPlace M x0 x1) x0 (1 : Int32)) x1) then (2 : Int32) else (0 : Int32))) x0 (1 : Int32)) ||| (zsl (1 : Int32) x1))) (1 : Int32) x0 x1), J, e) = _
      refine (zz_go 2 (fr' := (zm_D_rub, d + 4, 79, [some (.ref (194 : Nat)), some (.int x0), some (.int x1), some (.int (v_D_sets (zz_up (w_D_isPlace M x0 x1) 194 0 (bif (v_D_isOf (v_D_of (w_D_isPlace M x0 x1) x0 (1 : Int32)) x1) then (2 : Int32) else (0 : Int32))) (((33 : Int32) + ((6 : Int32) * x0)) + (1 : Int32)) ((v_D_of (zz_up (w_D_isPlace M x0 x1) 194 0 (bif (v_D_isOf (v_D_of (w_D_isPlace M x0 x1) x0 (1 : Int32)) x1) then (2 : Int32) else (0 : Int32))) x0 (1 : Int32)) ||| (zsl (1 : Int32) x1))))], [.int x0, .ref (194 : Nat)])) (h' := (zt_T L, zt_R, (w_D_logs (w_D_sets (zz_up (w_D_isPlace M x0 x1) 194 0 (bif (v_D_isOf (v_D_of (w_D_isPlace M x0 x1) x0 (1 : Int32)) x1) then (2 : Int32) else (0 : Int32))) (((33 : Int32) + ((6 : Int32) * x0)) + (1 : Int32)) ((v_D_of (zz_up (w_D_isPlace M x0 x1) 194 0 (bif (v_D_isOf (v_D_of (w_D_isPlace M x0 x1) x0 (1 : Int32)) x1) then (2 : Int32) else (0 : Int32))) x0 (1 : Int32)) ||| (zsl (1 : Int32) x1))) (1 : Int32) x0 x1), J, e)) (fun _ => rfl)).trans ?_
      have g15 : ok_D_marksOf (w_D_logs (w_D_sets (zz_up (w_D_isPlace M x0 x1) 194 0 (bif (v_D_isOf (v_D_of (w_D_isPlace M x0 x1) x0 (1 : Int32)) x1) then (2 : Int32) else (0 : Int32))) (((33 : Int32) + ((6 : Int32) * x0)) + (1 : Int32)) ((v_D_of (zz_up (w_D_isPlace M x0 x1) 194 0 (bif (v_D_isOf (v_D_of (w_D_isPlace M x0 x1) x0 (1 : Int32)) x1) then (2 : Int32) else (0 : Int32))) x0 (1 : Int32)) ||| (zsl (1 : Int32) x1))) (1 : Int32) x0 x1) x0 := k14
      refine zl_vt (d := d + 3) rfl rfl rfl rfl rfl rfl rfl rfl rfl rfl (s_D_marksOf L e J (d + 0) (w_D_logs (w_D_sets (zz_up (w_D_isPlace M x0 x1) 194 0 (bif (v_D_isOf (v_D_of (w_D_isPlace M x0 x1) x0 (1 : Int32)) x1) then (2 : Int32) else (0 : Int32))) (((33 : Int32) + ((6 : Int32) * x0)) + (1 : Int32)) ((v_D_of (zz_up (w_D_isPlace M x0 x1) 194 0 (bif (v_D_isOf (v_D_of (w_D_isPlace M x0 x1) x0 (1 : Int32)) x1) then (2 : Int32) else (0 : Int32))) x0 (1 : Int32)) ||| (zsl (1 : Int32) x1))) (1 : Int32) x0 x1) x0 g15) ?_
      show zz_D (zm_D_rub, d + 4, 82, [some (.ref (194 : Nat)), some (.int x0), some (.int x1), some (.int (v_D_sets (zz_up (w_D_isPlace M x0 x1) 194 0 (bif (v_D_isOf (v_D_of (w_D_isPlace M x0 x1) x0 (1 : Int32)) x1) then (2 : Int32) else (0 : Int32))) (((33 : Int32) + ((6 : Int32) * x0)) + (1 : Int32)) ((v_D_of (zz_up (w_D_isPlace M x0 x1) 194 0 (bif (v_D_isOf (v_D_of (w_D_isPlace M x0 x1) x0 (1 : Int32)) x1) then (2 : Int32) else (0 : Int32))) x0 (1 : Int32)) ||| (zsl (1 : Int32) x1))))], [.int (v_D_marksOf (w_D_logs (w_D_sets (zz_up (w_D_isPlace M x0 x1) 194 0 (bif (v_D_isOf (v_D_of (w_D_isPlace M x0 x1) x0 (1 : Int32)) x1) then (2 : Int32) else (0 : Int32))) (((33 : Int32) + ((6 : Int32) * x0)) + (1 : Int32)) ((v_D_of (zz_up (w_D_isPlace M x0 x1) 194 0 (bif (v_D_isOf (v_D_of (w_D_isPlace M x0 x1) x0 (1 : Int32)) x1) then (2 : Int32) else (0 : Int32))) x0 (1 : Int32)) ||| (zsl (1 : Int32) x1))) (1 : Int32) x0 x1) x0)]) (zt_T L, zt_R, (w_D_logs (w_D_sets (zz_up (w_D_isPlace M x0 x1) 194 0 (bif (v_D_isOf (v_D_of (w_D_isPlace M x0 x1) x0 (1 : Int32)) x1) then (2 : Int32) else (0 : Int32))) (((33 : Int32) + ((6 : Int32) * x0)) + (1 : Int32)) ((v_D_of (zz_up (w_D_isPlace M x0 x1) 194 0 (bif (v_D_isOf (v_D_of (w_D_isPlace M x0 x1) x0 (1 : Int32)) x1) then (2 : Int32) else (0 : Int32))) x0 (1 : Int32)) ||| (zsl (1 : Int32) x1))) (1 : Int32) x0 x1), J, e) = _
      refine (zz_go 1 (fr' := (zm_D_rub, d + 4, 83, [some (.ref (194 : Nat)), some (.int x0), some (.int x1), some (.int (v_D_sets (zz_up (w_D_isPlace M x0 x1) 194 0 (bif (v_D_isOf (v_D_of (w_D_isPlace M x0 x1) x0 (1 : Int32)) x1) then (2 : Int32) else (0 : Int32))) (((33 : Int32) + ((6 : Int32) * x0)) + (1 : Int32)) ((v_D_of (zz_up (w_D_isPlace M x0 x1) 194 0 (bif (v_D_isOf (v_D_of (w_D_isPlace M x0 x1) x0 (1 : Int32)) x1) then (2 : Int32) else (0 : Int32))) x0 (1 : Int32)) ||| (zsl (1 : Int32) x1))))], [.int x1, .int (v_D_marksOf (w_D_logs (w_D_sets (zz_up (w_D_isPlace M x0 x1) 194 0 (bif (v_D_isOf (v_D_of (w_D_isPlace M x0 x1) x0 (1 : Int32)) x1) then (2 : Int32) else (0 : Int32))) (((33 : Int32) + ((6 : Int32) * x0)) + (1 : Int32)) ((v_D_of (zz_up (w_D_isPlace M x0 x1) 194 0 (bif (v_D_isOf (v_D_of (w_D_isPlace M x0 x1) x0 (1 : Int32)) x1) then (2 : Int32) else (0 : Int32))) x0 (1 : Int32)) ||| (zsl (1 : Int32) x1))) (1 : Int32) x0 x1) x0)])) (h' := (zt_T L, zt_R, (w_D_logs (w_D_sets (zz_up (w_D_isPlace M x0 x1) 194 0 (bif (v_D_isOf (v_D_of (w_D_isPlace M x0 x1) x0 (1 : Int32)) x1) then (2 : Int32) else (0 : Int32))) (((33 : Int32) + ((6 : Int32) * x0)) + (1 : Int32)) ((v_D_of (zz_up (w_D_isPlace M x0 x1) 194 0 (bif (v_D_isOf (v_D_of (w_D_isPlace M x0 x1) x0 (1 : Int32)) x1) then (2 : Int32) else (0 : Int32))) x0 (1 : Int32)) ||| (zsl (1 : Int32) x1))) (1 : Int32) x0 x1), J, e)) (fun _ => rfl)).trans ?_
      refine zl_st (d := d + 3) rfl rfl rfl rfl rfl rfl rfl (s_D_isOf L e J (d + 2) (v_D_marksOf (w_D_logs (w_D_sets (zz_up (w_D_isPlace M x0 x1) 194 0 (bif (v_D_isOf (v_D_of (w_D_isPlace M x0 x1) x0 (1 : Int32)) x1) then (2 : Int32) else (0 : Int32))) (((33 : Int32) + ((6 : Int32) * x0)) + (1 : Int32)) ((v_D_of (zz_up (w_D_isPlace M x0 x1) 194 0 (bif (v_D_isOf (v_D_of (w_D_isPlace M x0 x1) x0 (1 : Int32)) x1) then (2 : Int32) else (0 : Int32))) x0 (1 : Int32)) ||| (zsl (1 : Int32) x1))) (1 : Int32) x0 x1) x0) x1) ?_
      show zz_D (zm_D_rub, d + 4, 86, [some (.ref (194 : Nat)), some (.int x0), some (.int x1), some (.int (v_D_sets (zz_up (w_D_isPlace M x0 x1) 194 0 (bif (v_D_isOf (v_D_of (w_D_isPlace M x0 x1) x0 (1 : Int32)) x1) then (2 : Int32) else (0 : Int32))) (((33 : Int32) + ((6 : Int32) * x0)) + (1 : Int32)) ((v_D_of (zz_up (w_D_isPlace M x0 x1) 194 0 (bif (v_D_isOf (v_D_of (w_D_isPlace M x0 x1) x0 (1 : Int32)) x1) then (2 : Int32) else (0 : Int32))) x0 (1 : Int32)) ||| (zsl (1 : Int32) x1))))], [.int (zb (v_D_isOf (v_D_marksOf (w_D_logs (w_D_sets (zz_up (w_D_isPlace M x0 x1) 194 0 (bif (v_D_isOf (v_D_of (w_D_isPlace M x0 x1) x0 (1 : Int32)) x1) then (2 : Int32) else (0 : Int32))) (((33 : Int32) + ((6 : Int32) * x0)) + (1 : Int32)) ((v_D_of (zz_up (w_D_isPlace M x0 x1) 194 0 (bif (v_D_isOf (v_D_of (w_D_isPlace M x0 x1) x0 (1 : Int32)) x1) then (2 : Int32) else (0 : Int32))) x0 (1 : Int32)) ||| (zsl (1 : Int32) x1))) (1 : Int32) x0 x1) x0) x1))]) (zt_T L, zt_R, (w_D_logs (w_D_sets (zz_up (w_D_isPlace M x0 x1) 194 0 (bif (v_D_isOf (v_D_of (w_D_isPlace M x0 x1) x0 (1 : Int32)) x1) then (2 : Int32) else (0 : Int32))) (((33 : Int32) + ((6 : Int32) * x0)) + (1 : Int32)) ((v_D_of (zz_up (w_D_isPlace M x0 x1) 194 0 (bif (v_D_isOf (v_D_of (w_D_isPlace M x0 x1) x0 (1 : Int32)) x1) then (2 : Int32) else (0 : Int32))) x0 (1 : Int32)) ||| (zsl (1 : Int32) x1))) (1 : Int32) x0 x1), J, e) = _
      refine zl_retZ rfl ?_
      first | (simp only [h1, h7, zk_t, zk_f, zb_t, zb_f]; done) | (simp only [h1, h7, zk_t, zk_f, zb_t, zb_f]; rfl) | rfl
    · refine zo_leF rfl h7 ?_
      refine (zz_go 1 (fr' := (zm_D_rub, d + 4, 45, [some (.ref (194 : Nat)), some (.int x0), some (.int x1), none], [.int (0 : Int32)])) (h' := (zt_T L, zt_R, (zz_up (w_D_isPlace M x0 x1) 194 0 (bif (v_D_isOf (v_D_of (w_D_isPlace M x0 x1) x0 (1 : Int32)) x1) then (2 : Int32) else (0 : Int32))), J, e)) (fun _ => rfl)).trans ?_
      refine zl_retI rfl rfl ?_
      first | (simp only [h1, h7, zk_t, zk_f, zb_t, zb_f]; done) | (simp only [h1, h7, zk_t, zk_f, zb_t, zb_f]; rfl) | rfl
  · refine zo_leF rfl h1 ?_
    refine (zz_go 1 (fr' := (zm_D_rub, d + 4, 14, [some (.ref (194 : Nat)), some (.int x0), some (.int x1), none], [.int (0 : Int32)])) (h' := (zt_T L, zt_R, (w_D_isPlace M x0 x1), J, e)) (fun _ => rfl)).trans ?_
    refine zl_retI rfl rfl ?_
    first | (simp only [h1, zk_t, zk_f, zb_t, zb_f]; done) | (simp only [h1, zk_t, zk_f, zb_t, zb_f]; rfl) | rfl
def v_D_ink (M : zMem) (x0 : Int32) (x1 : Int32) : Int32 := (bif (decide ((zb (bif (v_D_isOne M x0) then (bif (v_D_isKind x1) then false else true) else true)) ≤ 0)) then (bif (decide ((bif (v_D_isPlain (zz_up M 194 0 (zb (bif (v_D_isOne M x0) then (bif (v_D_isKind x1) then false else true) else true))) x0) then (bif (decide ((10 : Int32) ≤ (M 195 6))) then (0 : Int32) else (2 : Int32)) else (2 : Int32)) ≤ 0)) then ((w_D_logs (w_D_lays (w_D_sets (zy_l (zz_up M 194 0 (zb (bif (v_D_isOne M x0) then (bif (v_D_isKind x1) then false else true) else true))) (fun N => (zz_up N 194 0 (bif (v_D_isPlain N x0) then (bif (decide ((10 : Int32) ≤ (M 195 6))) then (0 : Int32) else (2 : Int32)) else (2 : Int32))))) (6 : Int32) ((M 195 6) - (10 : Int32))) x0 (0 : Int32) x1) (3 : Int32) x0 x1) 195 6) else (0 : Int32)) else (0 : Int32))
def w_D_ink (M : zMem) (x0 : Int32) (x1 : Int32) : zMem := (bif (decide ((zb (bif (v_D_isOne M x0) then (bif (v_D_isKind x1) then false else true) else true)) ≤ 0)) then (bif (decide ((bif (v_D_isPlain (zz_up M 194 0 (zb (bif (v_D_isOne M x0) then (bif (v_D_isKind x1) then false else true) else true))) x0) then (bif (decide ((10 : Int32) ≤ (M 195 6))) then (0 : Int32) else (2 : Int32)) else (2 : Int32)) ≤ 0)) then (w_D_logs (w_D_lays (w_D_sets (zy_l (zz_up M 194 0 (zb (bif (v_D_isOne M x0) then (bif (v_D_isKind x1) then false else true) else true))) (fun N => (zz_up N 194 0 (bif (v_D_isPlain N x0) then (bif (decide ((10 : Int32) ≤ (M 195 6))) then (0 : Int32) else (2 : Int32)) else (2 : Int32))))) (6 : Int32) ((M 195 6) - (10 : Int32))) x0 (0 : Int32) x1) (3 : Int32) x0 x1) else (zy_l (zz_up M 194 0 (zb (bif (v_D_isOne M x0) then (bif (v_D_isKind x1) then false else true) else true))) (fun N => (zz_up N 194 0 (bif (v_D_isPlain N x0) then (bif (decide ((10 : Int32) ≤ (M 195 6))) then (0 : Int32) else (2 : Int32)) else (2 : Int32)))))) else (zz_up M 194 0 (zb (bif (v_D_isOne M x0) then (bif (v_D_isKind x1) then false else true) else true))))
def ok_D_ink (M : zMem) (x0 : Int32) (x1 : Int32) : Prop := ((decide ((zb (bif (v_D_isOne M x0) then (bif (v_D_isKind x1) then false else true) else true)) ≤ 0)) = true → (ok_D_isPlain (zz_up M 194 0 (zb (bif (v_D_isOne M x0) then (bif (v_D_isKind x1) then false else true) else true))) x0 ∧ ((decide ((bif (v_D_isPlain (zz_up M 194 0 (zb (bif (v_D_isOne M x0) then (bif (v_D_isKind x1) then false else true) else true))) x0) then (bif (decide ((10 : Int32) ≤ (M 195 6))) then (0 : Int32) else (2 : Int32)) else (2 : Int32)) ≤ 0)) = true → (ok_D_sets (zy_l (zz_up M 194 0 (zb (bif (v_D_isOne M x0) then (bif (v_D_isKind x1) then false else true) else true))) (fun N => (zz_up N 194 0 (bif (v_D_isPlain N x0) then (bif (decide ((10 : Int32) ≤ (M 195 6))) then (0 : Int32) else (2 : Int32)) else (2 : Int32))))) (6 : Int32) ((M 195 6) - (10 : Int32)) ∧ (ok_D_lays (w_D_sets (zy_l (zz_up M 194 0 (zb (bif (v_D_isOne M x0) then (bif (v_D_isKind x1) then false else true) else true))) (fun N => (zz_up N 194 0 (bif (v_D_isPlain N x0) then (bif (decide ((10 : Int32) ≤ (M 195 6))) then (0 : Int32) else (2 : Int32)) else (2 : Int32))))) (6 : Int32) ((M 195 6) - (10 : Int32))) x0 (0 : Int32) x1 ∧ ok_D_logs (w_D_lays (w_D_sets (zy_l (zz_up M 194 0 (zb (bif (v_D_isOne M x0) then (bif (v_D_isKind x1) then false else true) else true))) (fun N => (zz_up N 194 0 (bif (v_D_isPlain N x0) then (bif (decide ((10 : Int32) ≤ (M 195 6))) then (0 : Int32) else (2 : Int32)) else (2 : Int32))))) (6 : Int32) ((M 195 6) - (10 : Int32))) x0 (0 : Int32) x1) (3 : Int32) x0 x1)))))
set_option maxRecDepth 20000 in
set_option maxHeartbeats 2000000 in
theorem s_D_ink (L e : Nat) (J : zJem) (d : Nat) (M : zMem) (x0 : Int32) (x1 : Int32) (k0 : ok_D_ink M x0 x1) : zz_D (zm_D_ink, d + 3, 0, [some (.ref (194 : Nat)), some (.int x0), some (.int x1), none], []) (zt_T L, zt_R, M, J, e) = some (.inl (some (.int (v_D_ink M x0 x1))), (zt_T L, zt_R, (w_D_ink M x0 x1), J, e)) := by
  unfold ok_D_ink at k0
  unfold v_D_ink w_D_ink
  refine (zz_go 3 (fr' := (zm_D_ink, d + 3, 3, [some (.ref (194 : Nat)), some (.int x0), some (.int x1), none], [.int x0, .ref (194 : Nat), .ref (194 : Nat)])) (h' := (zt_T L, zt_R, M, J, e)) (fun _ => rfl)).trans ?_
  refine zl_vt (d := d + 2) rfl rfl rfl rfl rfl rfl rfl rfl rfl rfl (s_D_isOne L e J (d + 0) M x0) ?_
  show zz_D (zm_D_ink, d + 3, 6, [some (.ref (194 : Nat)), some (.int x0), some (.int x1), none], [.int (zb (v_D_isOne M x0)), .ref (194 : Nat)]) (zt_T L, zt_R, M, J, e) = _
  refine zz_jn (X := zz_D (zm_D_ink, d + 3, 21, [some (.ref (194 : Nat)), some (.int x0), some (.int x1), none], [.int (zb (bif (v_D_isOne M x0) then (bif (v_D_isKind x1) then false else true) else true)), .ref (194 : Nat)]) (zt_T L, zt_R, M, J, e)) (fun j1 => ?_) ?_
  · rcases zz_bc (v_D_isOne M x0) with h2 | h2
    · refine zq_eT rfl h2 ?_
      refine (zz_go 1 (fr' := (zm_D_ink, d + 3, 10, [some (.ref (194 : Nat)), some (.int x0), some (.int x1), none], [.int x1, .ref (194 : Nat)])) (h' := (zt_T L, zt_R, M, J, e)) (fun _ => rfl)).trans ?_
      refine zl_st (d := d + 2) rfl rfl rfl rfl rfl rfl rfl (s_D_isKind L e J (d + 0) x1) ?_
      show zz_D (zm_D_ink, d + 3, 13, [some (.ref (194 : Nat)), some (.int x0), some (.int x1), none], [.int (zb (v_D_isKind x1)), .ref (194 : Nat)]) (zt_T L, zt_R, M, J, e) = _
      refine zz_jn (X := zz_D (zm_D_ink, d + 3, 21, [some (.ref (194 : Nat)), some (.int x0), some (.int x1), none], [.int (zb (bif (v_D_isKind x1) then false else true)), .ref (194 : Nat)]) (zt_T L, zt_R, M, J, e)) (fun j3 => ?_) ?_
      · rcases zz_bc (v_D_isKind x1) with h4 | h4
        · refine zq_fT rfl h4 ?_
          refine (zz_go 1 (fr' := (zm_D_ink, d + 3, 21, [some (.ref (194 : Nat)), some (.int x0), some (.int x1), none], [.int (0 : Int32), .ref (194 : Nat)])) (h' := (zt_T L, zt_R, M, J, e)) (fun _ => rfl)).trans ?_
          simpa only [h4, zk_t, zk_f, zb_t, zb_f] using j3
        · refine zq_fF rfl h4 ?_
          refine (zz_go 2 (fr' := (zm_D_ink, d + 3, 21, [some (.ref (194 : Nat)), some (.int x0), some (.int x1), none], [.int (1 : Int32), .ref (194 : Nat)])) (h' := (zt_T L, zt_R, M, J, e)) (fun _ => rfl)).trans ?_
          simpa only [h4, zk_t, zk_f, zb_t, zb_f] using j3
      simpa only [h2, zk_t, zk_f, zb_t, zb_f] using j1
    · refine zq_eF rfl h2 ?_
      refine (zz_go 2 (fr' := (zm_D_ink, d + 3, 21, [some (.ref (194 : Nat)), some (.int x0), some (.int x1), none], [.int (1 : Int32), .ref (194 : Nat)])) (h' := (zt_T L, zt_R, M, J, e)) (fun _ => rfl)).trans ?_
      simpa only [h2, zk_t, zk_f, zb_t, zb_f] using j1
  refine zl_putI rfl rfl rfl rfl ?_
  refine (zz_go 1 (fr' := (zm_D_ink, d + 3, 25, [some (.ref (194 : Nat)), some (.int x0), some (.int x1), none], [.ref (194 : Nat)])) (h' := (zt_T L, zt_R, (zz_up M 194 0 (zb (bif (v_D_isOne M x0) then (bif (v_D_isKind x1) then false else true) else true))), J, e)) (fun _ => rfl)).trans ?_
  refine zl_getI rfl (by decide) rfl zu_eq ?_
  rcases zz_bc (decide ((zb (bif (v_D_isOne M x0) then (bif (v_D_isKind x1) then false else true) else true)) ≤ 0)) with h5 | h5
  · refine zo_leT rfl h5 ?_
    have k6 := k0 h5
    refine (zz_go 3 (fr' := (zm_D_ink, d + 3, 36, [some (.ref (194 : Nat)), some (.int x0), some (.int x1), none], [.int x0, .ref (194 : Nat), .ref (194 : Nat)])) (h' := (zt_T L, zt_R, (zz_up M 194 0 (zb (bif (v_D_isOne M x0) then (bif (v_D_isKind x1) then false else true) else true))), J, e)) (fun _ => rfl)).trans ?_
    obtain ⟨g7, k8⟩ := k6
    refine zl_vt (d := d + 2) rfl rfl rfl rfl rfl rfl rfl rfl rfl rfl (s_D_isPlain L e J (d + 0) (zz_up M 194 0 (zb (bif (v_D_isOne M x0) then (bif (v_D_isKind x1) then false else true) else true))) x0 g7) ?_
    show zz_D (zm_D_ink, d + 3, 39, [some (.ref (194 : Nat)), some (.int x0), some (.int x1), none], [.int (zb (v_D_isPlain (zz_up M 194 0 (zb (bif (v_D_isOne M x0) then (bif (v_D_isKind x1) then false else true) else true))) x0)), .ref (194 : Nat)]) (zt_T L, zt_R, (zz_up M 194 0 (zb (bif (v_D_isOne M x0) then (bif (v_D_isKind x1) then false else true) else true))), J, e) = _
    refine zz_jn (X := zz_D (zm_D_ink, d + 3, 59, [some (.ref (194 : Nat)), some (.int x0), some (.int x1), none], [.int (bif (v_D_isPlain (zz_up M 194 0 (zb (bif (v_D_isOne M x0) then (bif (v_D_isKind x1) then false else true) else true))) x0) then (bif (decide ((10 : Int32) ≤ (M 195 6))) then (0 : Int32) else (2 : Int32)) else (2 : Int32)), .ref (194 : Nat)]) (zt_T L, zt_R, (zz_up M 194 0 (zb (bif (v_D_isOne M x0) then (bif (v_D_isKind x1) then false else true) else true))), J, e)) (fun j9 => ?_) ?_
    · rcases zz_bc (v_D_isPlain (zz_up M 194 0 (zb (bif (v_D_isOne M x0) then (bif (v_D_isKind x1) then false else true) else true))) x0) with h10 | h10
      · refine zq_eT rfl h10 ?_
        refine (zz_go 1 (fr' := (zm_D_ink, d + 3, 43, [some (.ref (194 : Nat)), some (.int x0), some (.int x1), none], [.ref (194 : Nat), .ref (194 : Nat)])) (h' := (zt_T L, zt_R, (zz_up M 194 0 (zb (bif (v_D_isOne M x0) then (bif (v_D_isKind x1) then false else true) else true))), J, e)) (fun _ => rfl)).trans ?_
        refine zl_getR (r := 195) rfl rfl rfl ?_
        refine (zz_go 1 (fr' := (zm_D_ink, d + 3, 48, [some (.ref (194 : Nat)), some (.int x0), some (.int x1), none], [.int (6 : Int32), .ref (195 : Nat), .ref (194 : Nat)])) (h' := (zt_T L, zt_R, (zz_up M 194 0 (zb (bif (v_D_isOne M x0) then (bif (v_D_isKind x1) then false else true) else true))), J, e)) (fun _ => rfl)).trans ?_
        refine zl_iaN (v := (M 195 6)) 6 rfl rfl (by decide) (by decide) ((zu_ne (rfl)).trans rfl) ?_
        refine zz_jn (X := zz_D (zm_D_ink, d + 3, 59, [some (.ref (194 : Nat)), some (.int x0), some (.int x1), none], [.int (bif (decide ((10 : Int32) ≤ (M 195 6))) then (0 : Int32) else (2 : Int32)), .ref (194 : Nat)]) (zt_T L, zt_R, (zz_up M 194 0 (zb (bif (v_D_isOne M x0) then (bif (v_D_isKind x1) then false else true) else true))), J, e)) (fun j11 => ?_) ?_
        · refine (zz_go 1 (fr' := (zm_D_ink, d + 3, 51, [some (.ref (194 : Nat)), some (.int x0), some (.int x1), none], [.int (10 : Int32), .int (M 195 6), .ref (194 : Nat)])) (h' := (zt_T L, zt_R, (zz_up M 194 0 (zb (bif (v_D_isOne M x0) then (bif (v_D_isKind x1) then false else true) else true))), J, e)) (fun _ => rfl)).trans ?_
          rcases zz_bc (decide ((10 : Int32) ≤ (M 195 6))) with h12 | h12
          · refine zc_geT rfl h12 ?_
            refine (zz_go 1 (fr' := (zm_D_ink, d + 3, 59, [some (.ref (194 : Nat)), some (.int x0), some (.int x1), none], [.int (0 : Int32), .ref (194 : Nat)])) (h' := (zt_T L, zt_R, (zz_up M 194 0 (zb (bif (v_D_isOne M x0) then (bif (v_D_isKind x1) then false else true) else true))), J, e)) (fun _ => rfl)).trans ?_
            simpa only [h12, zk_t, zk_f, zb_t, zb_f] using j11
          · refine zc_geF rfl h12 ?_
            refine (zz_go 2 (fr' := (zm_D_ink, d + 3, 59, [some (.ref (194 : Nat)), some (.int x0), some (.int x1), none], [.int (2 : Int32), .ref (194 : Nat)])) (h' := (zt_T L, zt_R, (zz_up M 194 0 (zb (bif (v_D_isOne M x0) then (bif (v_D_isKind x1) then false else true) else true))), J, e)) (fun _ => rfl)).trans ?_
            simpa only [h12, zk_t, zk_f, zb_t, zb_f] using j11
        simpa only [h10, zk_t, zk_f, zb_t, zb_f] using j9
      · refine zq_eF rfl h10 ?_
        refine (zz_go 2 (fr' := (zm_D_ink, d + 3, 59, [some (.ref (194 : Nat)), some (.int x0), some (.int x1), none], [.int (2 : Int32), .ref (194 : Nat)])) (h' := (zt_T L, zt_R, (zz_up M 194 0 (zb (bif (v_D_isOne M x0) then (bif (v_D_isKind x1) then false else true) else true))), J, e)) (fun _ => rfl)).trans ?_
        simpa only [h10, zk_t, zk_f, zb_t, zb_f] using j9
    refine zl_putI rfl rfl rfl rfl ?_
    refine (zz_go 1 (fr' := (zm_D_ink, d + 3, 63, [some (.ref (194 : Nat)), some (.int x0), some (.int x1), none], [.ref (194 : Nat)])) (h' := (zt_T L, zt_R, (zy_l (zz_up M 194 0 (zb (bif (v_D_isOne M x0) then (bif (v_D_isKind x1) then false else true) else true))) (fun N => (zz_up N 194 0 (bif (v_D_isPlain N x0) then (bif (decide ((10 : Int32) ≤ (M 195 6))) then (0 : Int32) else (2 : Int32)) else (2 : Int32))))), J, e)) (fun _ => rfl)).trans ?_
    refine zl_getI rfl (by decide) rfl zu_eq ?_
    rcases zz_bc (decide ((bif (v_D_isPlain (zz_up M 194 0 (zb (bif (v_D_isOne M x0) then (bif (v_D_isKind x1) then false else true) else true))) x0) then (bif (decide ((10 : Int32) ≤ (M 195 6))) then (0 : Int32) else (2 : Int32)) else (2 : Int32)) ≤ 0)) with h13 | h13
    · refine zo_leT rfl h13 ?_
      have k14 := k8 h13
      refine (zz_go 3 (fr' := (zm_D_ink, d + 3, 75, [some (.ref (194 : Nat)), some (.int x0), some (.int x1), none], [.ref (194 : Nat), .int (6 : Int32), .ref (194 : Nat)])) (h' := (zt_T L, zt_R, (zy_l (zz_up M 194 0 (zb (bif (v_D_isOne M x0) then (bif (v_D_isKind x1) then false else true) else true))) (fun N => (zz_up N 194 0 (bif (v_D_isPlain N x0) then (bif (decide ((10 : Int32) ≤ (M 195 6))) then (0 : Int32) else (2 : Int32)) else (2 : Int32))))), J, e)) (fun _ => rfl)).trans ?_
      refine zl_getR (r := 195) rfl rfl rfl ?_
      refine (zz_go 1 (fr' := (zm_D_ink, d + 3, 80, [some (.ref (194 : Nat)), some (.int x0), some (.int x1), none], [.int (6 : Int32), .ref (195 : Nat), .int (6 : Int32), .ref (194 : Nat)])) (h' := (zt_T L, zt_R, (zy_l (zz_up M 194 0 (zb (bif (v_D_isOne M x0) then (bif (v_D_isKind x1) then false else true) else true))) (fun N => (zz_up N 194 0 (bif (v_D_isPlain N x0) then (bif (decide ((10 : Int32) ≤ (M 195 6))) then (0 : Int32) else (2 : Int32)) else (2 : Int32))))), J, e)) (fun _ => rfl)).trans ?_
      refine zl_iaN (v := (M 195 6)) 6 rfl rfl (by decide) (by decide) ((zu_ne (rfl)).trans ((zu_ne (rfl)).trans rfl)) ?_
      refine (zz_go 2 (fr' := (zm_D_ink, d + 3, 84, [some (.ref (194 : Nat)), some (.int x0), some (.int x1), none], [.int ((M 195 6) - (10 : Int32)), .int (6 : Int32), .ref (194 : Nat)])) (h' := (zt_T L, zt_R, (zy_l (zz_up M 194 0 (zb (bif (v_D_isOne M x0) then (bif (v_D_isKind x1) then false else true) else true))) (fun N => (zz_up N 194 0 (bif (v_D_isPlain N x0) then (bif (decide ((10 : Int32) ≤ (M 195 6))) then (0 : Int32) else (2 : Int32)) else (2 : Int32))))), J, e)) (fun _ => rfl)).trans ?_
      obtain ⟨g15, k16⟩ := k14
      refine zl_vt (d := d + 2) rfl rfl rfl rfl rfl rfl rfl rfl rfl rfl (s_D_sets L e J (d + 0) (zy_l (zz_up M 194 0 (zb (bif (v_D_isOne M x0) then (bif (v_D_isKind x1) then false else true) else true))) (fun N => (zz_up N 194 0 (bif (v_D_isPlain N x0) then (bif (decide ((10 : Int32) ≤ (M 195 6))) then (0 : Int32) else (2 : Int32)) else (2 : Int32))))) (6 : Int32) ((M 195 6) - (10 : Int32)) g15) ?_
      show zz_D (zm_D_ink, d + 3, 87, [some (.ref (194 : Nat)), some (.int x0), some (.int x1), none], [.int (v_D_sets (zy_l (zz_up M 194 0 (zb (bif (v_D_isOne M x0) then (bif (v_D_isKind x1) then false else true) else true))) (fun N => (zz_up N 194 0 (bif (v_D_isPlain N x0) then (bif (decide ((10 : Int32) ≤ (M 195 6))) then (0 : Int32) else (2 : Int32)) else (2 : Int32))))) (6 : Int32) ((M 195 6) - (10 : Int32)))]) (zt_T L, zt_R, (w_D_sets (zy_l (zz_up M 194 0 (zb (bif (v_D_isOne M x0) then (bif (v_D_isKind x1) then false else true) else true))) (fun N => (zz_up N 194 0 (bif (v_D_isPlain N x0) then (bif (decide ((10 : Int32) ≤ (M 195 6))) then (0 : Int32) else (2 : Int32)) else (2 : Int32))))) (6 : Int32) ((M 195 6) - (10 : Int32))), J, e) = _
      refine (zz_go 5 (fr' := (zm_D_ink, d + 3, 92, [some (.ref (194 : Nat)), some (.int x0), some (.int x1), some (.int (v_D_sets (zy_l (zz_up M 194 0 (zb (bif (v_D_isOne M x0) then (bif (v_D_isKind x1) then false else true) else true))) (fun N => (zz_up N 194 0 (bif (v_D_isPlain N x0) then (bif (decide ((10 : Int32) ≤ (M 195 6))) then (0 : Int32) else (2 : Int32)) else (2 : Int32))))) (6 : Int32) ((M 195 6) - (10 : Int32))))], [.int x1, .int (0 : Int32), .int x0, .ref (194 : Nat)])) (h' := (zt_T L, zt_R, (w_D_sets (zy_l (zz_up M 194 0 (zb (bif (v_D_isOne M x0) then (bif (v_D_isKind x1) then false else true) else true))) (fun N => (zz_up N 194 0 (bif (v_D_isPlain N x0) then (bif (decide ((10 : Int32) ≤ (M 195 6))) then (0 : Int32) else (2 : Int32)) else (2 : Int32))))) (6 : Int32) ((M 195 6) - (10 : Int32))), J, e)) (fun _ => rfl)).trans ?_
      obtain ⟨g17, k18⟩ := k16
      refine zl_vt (d := d + 2) rfl rfl rfl rfl rfl rfl rfl rfl rfl rfl (s_D_lays L e J (d + 1) (w_D_sets (zy_l (zz_up M 194 0 (zb (bif (v_D_isOne M x0) then (bif (v_D_isKind x1) then false else true) else true))) (fun N => (zz_up N 194 0 (bif (v_D_isPlain N x0) then (bif (decide ((10 : Int32) ≤ (M 195 6))) then (0 : Int32) else (2 : Int32)) else (2 : Int32))))) (6 : Int32) ((M 195 6) - (10 : Int32))) x0 (0 : Int32) x1 g17) ?_
      show zz_D (zm_D_ink, d + 3, 95, [some (.ref (194 : Nat)), some (.int x0), some (.int x1), some (.int (v_D_sets (zy_l (zz_up M 194 0 (zb (bif (v_D_isOne M x0) then (bif (v_D_isKind x1) then false else true) else true))) (fun N => (zz_up N 194 0 (bif (v_D_isPlain N x0) then (bif (decide ((10 : Int32) ≤ (M 195 6))) then (0 : Int32) else (2 : Int32)) else (2 : Int32))))) (6 : Int32) ((M 195 6) - (10 : Int32))))], []) (zt_T L, zt_R, (w_D_lays (w_D_sets (zy_l (zz_up M 194 0 (zb (bif (v_D_isOne M x0) then (bif (v_D_isKind x1) then false else true) else true))) (fun N => (zz_up N 194 0 (bif (v_D_isPlain N x0) then (bif (decide ((10 : Int32) ≤ (M 195 6))) then (0 : Int32) else (2 : Int32)) else (2 : Int32))))) (6 : Int32) ((M 195 6) - (10 : Int32))) x0 (0 : Int32) x1), J, e) = _
      refine (zz_go 4 (fr' := (zm_D_ink, d + 3, 99, [some (.ref (194 : Nat)), some (.int x0), some (.int x1), some (.int (v_D_sets (zy_l (zz_up M 194 0 (zb (bif (v_D_isOne M x0) then (bif (v_D_isKind x1) then false else true) else true))) (fun N => (zz_up N 194 0 (bif (v_D_isPlain N x0) then (bif (decide ((10 : Int32) ≤ (M 195 6))) then (0 : Int32) else (2 : Int32)) else (2 : Int32))))) (6 : Int32) ((M 195 6) - (10 : Int32))))], [.int x1, .int x0, .int (3 : Int32), .ref (194 : Nat)])) (h' := (zt_T L, zt_R, (w_D_lays (w_D_sets (zy_l (zz_up M 194 0 (zb (bif (v_D_isOne M x0) then (bif (v_D_isKind x1) then false else true) else true))) (fun N => (zz_up N 194 0 (bif (v_D_isPlain N x0) then (bif (decide ((10 : Int32) ≤ (M 195 6))) then (0 : Int32) else (2 : Int32)) else (2 : Int32))))) (6 : Int32) ((M 195 6) - (10 : Int32))) x0 (0 : Int32) x1), J, e)) (fun _ => rfl)).trans ?_
      have g19 : ok_D_logs (w_D_lays (w_D_sets (zy_l (zz_up M 194 0 (zb (bif (v_D_isOne M x0) then (bif (v_D_isKind x1) then false else true) else true))) (fun N => (zz_up N 194 0 (bif (v_D_isPlain N x0) then (bif (decide ((10 : Int32) ≤ (M 195 6))) then (0 : Int32) else (2 : Int32)) else (2 : Int32))))) (6 : Int32) ((M 195 6) - (10 : Int32))) x0 (0 : Int32) x1) (3 : Int32) x0 x1 := k18
      refine zl_vt (d := d + 2) rfl rfl rfl rfl rfl rfl rfl rfl rfl rfl (s_D_logs L e J (d + 0) (w_D_lays (w_D_sets (zy_l (zz_up M 194 0 (zb (bif (v_D_isOne M x0) then (bif (v_D_isKind x1) then false else true) else true))) (fun N => (zz_up N 194 0 (bif (v_D_isPlain N x0) then (bif (decide ((10 : Int32) ≤ (M 195 6))) then (0 : Int32) else (2 : Int32)) else (2 : Int32))))) (6 : Int32) ((M 195 6) - (10 : Int32))) x0 (0 : Int32) x1) (3 : Int32) x0 x1 g19) ?_
      show zz_D (zm_D_ink, d + 3, 102, [some (.ref (194 : Nat)), some (.int x0), some (.int x1), some (.int (v_D_sets (zy_l (zz_up M 194 0 (zb (bif (v_D_isOne M x0) then (bif (v_D_isKind x1) then false else true) else true))) (fun N => (zz_up N 194 0 (bif (v_D_isPlain N x0) then (bif (decide ((10 : Int32) ≤ (M 195 6))) then (0 : Int32) else (2 : Int32)) else (2 : Int32))))) (6 : Int32) ((M 195 6) - (10 : Int32))))], []) (zt_T L, zt_R, (w_D_logs (w_D_lays (w_D_sets (zy_l (zz_up M 194 0 (zb (bif (v_D_isOne M x0) then (bif (v_D_isKind x1) then false else true) else true))) (fun N => (zz_up N 194 0 (bif (v_D_isPlain N x0) then (bif (decide ((10 : Int32) ≤ (M 195 6))) then (0 : Int32) else (2 : Int32)) else (2 : Int32))))) (6 : Int32) ((M 195 6) - (10 : Int32))) x0 (0 : Int32) x1) (3 : Int32) x0 x1), J, e) = _
      refine (zz_go 1 (fr' := (zm_D_ink, d + 3, 103, [some (.ref (194 : Nat)), some (.int x0), some (.int x1), some (.int (v_D_sets (zy_l (zz_up M 194 0 (zb (bif (v_D_isOne M x0) then (bif (v_D_isKind x1) then false else true) else true))) (fun N => (zz_up N 194 0 (bif (v_D_isPlain N x0) then (bif (decide ((10 : Int32) ≤ (M 195 6))) then (0 : Int32) else (2 : Int32)) else (2 : Int32))))) (6 : Int32) ((M 195 6) - (10 : Int32))))], [.ref (194 : Nat)])) (h' := (zt_T L, zt_R, (w_D_logs (w_D_lays (w_D_sets (zy_l (zz_up M 194 0 (zb (bif (v_D_isOne M x0) then (bif (v_D_isKind x1) then false else true) else true))) (fun N => (zz_up N 194 0 (bif (v_D_isPlain N x0) then (bif (decide ((10 : Int32) ≤ (M 195 6))) then (0 : Int32) else (2 : Int32)) else (2 : Int32))))) (6 : Int32) ((M 195 6) - (10 : Int32))) x0 (0 : Int32) x1) (3 : Int32) x0 x1), J, e)) (fun _ => rfl)).trans ?_
      refine zl_getR (r := 195) rfl rfl rfl ?_
      refine (zz_go 1 (fr' := (zm_D_ink, d + 3, 108, [some (.ref (194 : Nat)), some (.int x0), some (.int x1), some (.int (v_D_sets (zy_l (zz_up M 194 0 (zb (bif (v_D_isOne M x0) then (bif (v_D_isKind x1) then false else true) else true))) (fun N => (zz_up N 194 0 (bif (v_D_isPlain N x0) then (bif (decide ((10 : Int32) ≤ (M 195 6))) then (0 : Int32) else (2 : Int32)) else (2 : Int32))))) (6 : Int32) ((M 195 6) - (10 : Int32))))], [.int (6 : Int32), .ref (195 : Nat)])) (h' := (zt_T L, zt_R, (w_D_logs (w_D_lays (w_D_sets (zy_l (zz_up M 194 0 (zb (bif (v_D_isOne M x0) then (bif (v_D_isKind x1) then false else true) else true))) (fun N => (zz_up N 194 0 (bif (v_D_isPlain N x0) then (bif (decide ((10 : Int32) ≤ (M 195 6))) then (0 : Int32) else (2 : Int32)) else (2 : Int32))))) (6 : Int32) ((M 195 6) - (10 : Int32))) x0 (0 : Int32) x1) (3 : Int32) x0 x1), J, e)) (fun _ => rfl)).trans ?_
      refine zl_iaN (v := ((w_D_logs (w_D_lays (w_D_sets (zy_l (zz_up M 194 0 (zb (bif (v_D_isOne M x0) then (bif (v_D_isKind x1) then false else true) else true))) (fun N => (zz_up N 194 0 (bif (v_D_isPlain N x0) then (bif (decide ((10 : Int32) ≤ (M 195 6))) then (0 : Int32) else (2 : Int32)) else (2 : Int32))))) (6 : Int32) ((M 195 6) - (10 : Int32))) x0 (0 : Int32) x1) (3 : Int32) x0 x1) 195 6)) 6 rfl rfl (by decide) (by decide) rfl ?_
      refine zl_retI rfl rfl ?_
      first | (simp only [h5, h13, zk_t, zk_f, zb_t, zb_f]; done) | (simp only [h5, h13, zk_t, zk_f, zb_t, zb_f]; rfl) | rfl
    · refine zo_leF rfl h13 ?_
      refine (zz_go 1 (fr' := (zm_D_ink, d + 3, 70, [some (.ref (194 : Nat)), some (.int x0), some (.int x1), none], [.int (0 : Int32)])) (h' := (zt_T L, zt_R, (zy_l (zz_up M 194 0 (zb (bif (v_D_isOne M x0) then (bif (v_D_isKind x1) then false else true) else true))) (fun N => (zz_up N 194 0 (bif (v_D_isPlain N x0) then (bif (decide ((10 : Int32) ≤ (M 195 6))) then (0 : Int32) else (2 : Int32)) else (2 : Int32))))), J, e)) (fun _ => rfl)).trans ?_
      refine zl_retI rfl rfl ?_
      first | (simp only [h5, h13, zk_t, zk_f, zb_t, zb_f]; done) | (simp only [h5, h13, zk_t, zk_f, zb_t, zb_f]; rfl) | rfl
  · refine zo_leF rfl h5 ?_
    refine (zz_go 1 (fr' := (zm_D_ink, d + 3, 32, [some (.ref (194 : Nat)), some (.int x0), some (.int x1), none], [.int (0 : Int32)])) (h' := (zt_T L, zt_R, (zz_up M 194 0 (zb (bif (v_D_isOne M x0) then (bif (v_D_isKind x1) then false else true) else true))), J, e)) (fun _ => rfl)).trans ?_
    refine zl_retI rfl rfl ?_
    first | (simp only [h5, zk_t, zk_f, zb_t, zb_f]; done) | (simp only [h5, zk_t, zk_f, zb_t, zb_f]; rfl) | rfl
def v_D_wash (M : zMem) (x0 : Int32) : Int32 := (bif (decide ((zb (bif (v_D_isOne M x0) then false else true)) ≤ 0)) then (v_D_sets (zz_up M 194 0 (zb (bif (v_D_isOne M x0) then false else true))) (((33 : Int32) + ((6 : Int32) * x0)) + (1 : Int32)) (0 : Int32)) else (0 : Int32))
def w_D_wash (M : zMem) (x0 : Int32) : zMem := (bif (decide ((zb (bif (v_D_isOne M x0) then false else true)) ≤ 0)) then (w_D_sets (zz_up M 194 0 (zb (bif (v_D_isOne M x0) then false else true))) (((33 : Int32) + ((6 : Int32) * x0)) + (1 : Int32)) (0 : Int32)) else (zz_up M 194 0 (zb (bif (v_D_isOne M x0) then false else true))))
def ok_D_wash (M : zMem) (x0 : Int32) : Prop := ((decide ((zb (bif (v_D_isOne M x0) then false else true)) ≤ 0)) = true → ok_D_sets (zz_up M 194 0 (zb (bif (v_D_isOne M x0) then false else true))) (((33 : Int32) + ((6 : Int32) * x0)) + (1 : Int32)) (0 : Int32))
set_option maxRecDepth 20000 in
set_option maxHeartbeats 2000000 in
theorem s_D_wash (L e : Nat) (J : zJem) (d : Nat) (M : zMem) (x0 : Int32) (k0 : ok_D_wash M x0) : zz_D (zm_D_wash, d + 3, 0, [some (.ref (194 : Nat)), some (.int x0)], []) (zt_T L, zt_R, M, J, e) = some (.inl (some (.int (v_D_wash M x0))), (zt_T L, zt_R, (w_D_wash M x0), J, e)) := by
  unfold ok_D_wash at k0
  unfold v_D_wash w_D_wash
  refine (zz_go 3 (fr' := (zm_D_wash, d + 3, 3, [some (.ref (194 : Nat)), some (.int x0)], [.int x0, .ref (194 : Nat), .ref (194 : Nat)])) (h' := (zt_T L, zt_R, M, J, e)) (fun _ => rfl)).trans ?_
  refine zl_vt (d := d + 2) rfl rfl rfl rfl rfl rfl rfl rfl rfl rfl (s_D_isOne L e J (d + 0) M x0) ?_
  show zz_D (zm_D_wash, d + 3, 6, [some (.ref (194 : Nat)), some (.int x0)], [.int (zb (v_D_isOne M x0)), .ref (194 : Nat)]) (zt_T L, zt_R, M, J, e) = _
  refine zz_jn (X := zz_D (zm_D_wash, d + 3, 14, [some (.ref (194 : Nat)), some (.int x0)], [.int (zb (bif (v_D_isOne M x0) then false else true)), .ref (194 : Nat)]) (zt_T L, zt_R, M, J, e)) (fun j1 => ?_) ?_
  · rcases zz_bc (v_D_isOne M x0) with h2 | h2
    · refine zq_fT rfl h2 ?_
      refine (zz_go 1 (fr' := (zm_D_wash, d + 3, 14, [some (.ref (194 : Nat)), some (.int x0)], [.int (0 : Int32), .ref (194 : Nat)])) (h' := (zt_T L, zt_R, M, J, e)) (fun _ => rfl)).trans ?_
      simpa only [h2, zk_t, zk_f, zb_t, zb_f] using j1
    · refine zq_fF rfl h2 ?_
      refine (zz_go 2 (fr' := (zm_D_wash, d + 3, 14, [some (.ref (194 : Nat)), some (.int x0)], [.int (1 : Int32), .ref (194 : Nat)])) (h' := (zt_T L, zt_R, M, J, e)) (fun _ => rfl)).trans ?_
      simpa only [h2, zk_t, zk_f, zb_t, zb_f] using j1
  refine zl_putI rfl rfl rfl rfl ?_
  refine (zz_go 1 (fr' := (zm_D_wash, d + 3, 18, [some (.ref (194 : Nat)), some (.int x0)], [.ref (194 : Nat)])) (h' := (zt_T L, zt_R, (zz_up M 194 0 (zb (bif (v_D_isOne M x0) then false else true))), J, e)) (fun _ => rfl)).trans ?_
  refine zl_getI rfl (by decide) rfl zu_eq ?_
  refine zz_jn (X := zz_D (zm_D_wash, d + 3, 42, [none, none], [.int (bif (decide ((zb (bif (v_D_isOne M x0) then false else true)) ≤ 0)) then (v_D_sets (zz_up M 194 0 (zb (bif (v_D_isOne M x0) then false else true))) (((33 : Int32) + ((6 : Int32) * x0)) + (1 : Int32)) (0 : Int32)) else (0 : Int32))]) (zt_T L, zt_R, (bif (decide ((zb (bif (v_D_isOne M x0) then false else true)) ≤ 0)) then (w_D_sets (zz_up M 194 0 (zb (bif (v_D_isOne M x0) then false else true))) (((33 : Int32) + ((6 : Int32) * x0)) + (1 : Int32)) (0 : Int32)) else (zz_up M 194 0 (zb (bif (v_D_isOne M x0) then false else true)))), J, e)) (fun j3 => ?_) ?_
  · rcases zz_bc (decide ((zb (bif (v_D_isOne M x0) then false else true)) ≤ 0)) with h4 | h4
    · refine zo_leT rfl h4 ?_
      have k5 := k0 h4
      refine (zz_go 9 (fr' := (zm_D_wash, d + 3, 39, [some (.ref (194 : Nat)), some (.int x0)], [.int (0 : Int32), .int (((33 : Int32) + ((6 : Int32) * x0)) + (1 : Int32)), .ref (194 : Nat)])) (h' := (zt_T L, zt_R, (zz_up M 194 0 (zb (bif (v_D_isOne M x0) then false else true))), J, e)) (fun _ => rfl)).trans ?_
      have g6 : ok_D_sets (zz_up M 194 0 (zb (bif (v_D_isOne M x0) then false else true))) (((33 : Int32) + ((6 : Int32) * x0)) + (1 : Int32)) (0 : Int32) := k5
      refine zl_vt (d := d + 2) rfl rfl rfl rfl rfl rfl rfl rfl rfl rfl (s_D_sets L e J (d + 0) (zz_up M 194 0 (zb (bif (v_D_isOne M x0) then false else true))) (((33 : Int32) + ((6 : Int32) * x0)) + (1 : Int32)) (0 : Int32) g6) ?_
      show zz_D (zm_D_wash, d + 3, 42, [some (.ref (194 : Nat)), some (.int x0)], [.int (v_D_sets (zz_up M 194 0 (zb (bif (v_D_isOne M x0) then false else true))) (((33 : Int32) + ((6 : Int32) * x0)) + (1 : Int32)) (0 : Int32))]) (zt_T L, zt_R, (w_D_sets (zz_up M 194 0 (zb (bif (v_D_isOne M x0) then false else true))) (((33 : Int32) + ((6 : Int32) * x0)) + (1 : Int32)) (0 : Int32)), J, e) = _
      refine zz_weak (L := [none, none]) ⟨Or.inr ⟨rfl, rfl⟩, Or.inr ⟨rfl, rfl⟩, trivial⟩ ?_
      simpa only [h4, zk_t, zk_f, zb_t, zb_f] using j3
    · refine zo_leF rfl h4 ?_
      refine (zz_go 2 (fr' := (zm_D_wash, d + 3, 42, [some (.ref (194 : Nat)), some (.int x0)], [.int (0 : Int32)])) (h' := (zt_T L, zt_R, (zz_up M 194 0 (zb (bif (v_D_isOne M x0) then false else true))), J, e)) (fun _ => rfl)).trans ?_
      refine zz_weak (L := [none, none]) ⟨Or.inr ⟨rfl, rfl⟩, Or.inr ⟨rfl, rfl⟩, trivial⟩ ?_
      simpa only [h4, zk_t, zk_f, zb_t, zb_f] using j3
  refine zl_retI rfl rfl ?_
  rfl
def v_D_told (M : zMem) (x0 : Int32) (x1 : Int32) : Int32 := (bif (decide ((zb (bif (v_D_isKind x0) then (bif (v_D_isIn x1 (0 : Int32) (7 : Int32)) then false else true) else true)) ≤ 0)) then (v_D_sets (zz_up M 194 0 (zb (bif (v_D_isKind x0) then (bif (v_D_isIn x1 (0 : Int32) (7 : Int32)) then false else true) else true))) (((9 : Int32) + ((3 : Int32) * x0)) + (1 : Int32)) x1) else (0 : Int32))
def w_D_told (M : zMem) (x0 : Int32) (x1 : Int32) : zMem := (bif (decide ((zb (bif (v_D_isKind x0) then (bif (v_D_isIn x1 (0 : Int32) (7 : Int32)) then false else true) else true)) ≤ 0)) then (w_D_sets (zz_up M 194 0 (zb (bif (v_D_isKind x0) then (bif (v_D_isIn x1 (0 : Int32) (7 : Int32)) then false else true) else true))) (((9 : Int32) + ((3 : Int32) * x0)) + (1 : Int32)) x1) else (zz_up M 194 0 (zb (bif (v_D_isKind x0) then (bif (v_D_isIn x1 (0 : Int32) (7 : Int32)) then false else true) else true))))
def ok_D_told (M : zMem) (x0 : Int32) (x1 : Int32) : Prop := ((decide ((zb (bif (v_D_isKind x0) then (bif (v_D_isIn x1 (0 : Int32) (7 : Int32)) then false else true) else true)) ≤ 0)) = true → ok_D_sets (zz_up M 194 0 (zb (bif (v_D_isKind x0) then (bif (v_D_isIn x1 (0 : Int32) (7 : Int32)) then false else true) else true))) (((9 : Int32) + ((3 : Int32) * x0)) + (1 : Int32)) x1)
set_option maxRecDepth 20000 in
set_option maxHeartbeats 2000000 in
theorem s_D_told (L e : Nat) (J : zJem) (d : Nat) (M : zMem) (x0 : Int32) (x1 : Int32) (k0 : ok_D_told M x0 x1) : zz_D (zm_D_told, d + 3, 0, [some (.ref (194 : Nat)), some (.int x0), some (.int x1)], []) (zt_T L, zt_R, M, J, e) = some (.inl (some (.int (v_D_told M x0 x1))), (zt_T L, zt_R, (w_D_told M x0 x1), J, e)) := by
  unfold ok_D_told at k0
  unfold v_D_told w_D_told
  refine (zz_go 2 (fr' := (zm_D_told, d + 3, 2, [some (.ref (194 : Nat)), some (.int x0), some (.int x1)], [.int x0, .ref (194 : Nat)])) (h' := (zt_T L, zt_R, M, J, e)) (fun _ => rfl)).trans ?_
  refine zl_st (d := d + 2) rfl rfl rfl rfl rfl rfl rfl (s_D_isKind L e J (d + 0) x0) ?_
  show zz_D (zm_D_told, d + 3, 5, [some (.ref (194 : Nat)), some (.int x0), some (.int x1)], [.int (zb (v_D_isKind x0)), .ref (194 : Nat)]) (zt_T L, zt_R, M, J, e) = _
  refine zz_jn (X := zz_D (zm_D_told, d + 3, 23, [some (.ref (194 : Nat)), some (.int x0), some (.int x1)], [.int (zb (bif (v_D_isKind x0) then (bif (v_D_isIn x1 (0 : Int32) (7 : Int32)) then false else true) else true)), .ref (194 : Nat)]) (zt_T L, zt_R, M, J, e)) (fun j1 => ?_) ?_
  · rcases zz_bc (v_D_isKind x0) with h2 | h2
    · refine zq_eT rfl h2 ?_
      refine (zz_go 3 (fr' := (zm_D_told, d + 3, 12, [some (.ref (194 : Nat)), some (.int x0), some (.int x1)], [.int (7 : Int32), .int (0 : Int32), .int x1, .ref (194 : Nat)])) (h' := (zt_T L, zt_R, M, J, e)) (fun _ => rfl)).trans ?_
      refine zl_st (d := d + 2) rfl rfl rfl rfl rfl rfl rfl (s_D_isIn L e J (d + 1) x1 (0 : Int32) (7 : Int32)) ?_
      show zz_D (zm_D_told, d + 3, 15, [some (.ref (194 : Nat)), some (.int x0), some (.int x1)], [.int (zb (v_D_isIn x1 (0 : Int32) (7 : Int32))), .ref (194 : Nat)]) (zt_T L, zt_R, M, J, e) = _
      refine zz_jn (X := zz_D (zm_D_told, d + 3, 23, [some (.ref (194 : Nat)), some (.int x0), some (.int x1)], [.int (zb (bif (v_D_isIn x1 (0 : Int32) (7 : Int32)) then false else true)), .ref (194 : Nat)]) (zt_T L, zt_R, M, J, e)) (fun j3 => ?_) ?_
      · rcases zz_bc (v_D_isIn x1 (0 : Int32) (7 : Int32)) with h4 | h4
        · refine zq_fT rfl h4 ?_
          refine (zz_go 1 (fr' := (zm_D_told, d + 3, 23, [some (.ref (194 : Nat)), some (.int x0), some (.int x1)], [.int (0 : Int32), .ref (194 : Nat)])) (h' := (zt_T L, zt_R, M, J, e)) (fun _ => rfl)).trans ?_
          simpa only [h4, zk_t, zk_f, zb_t, zb_f] using j3
        · refine zq_fF rfl h4 ?_
          refine (zz_go 2 (fr' := (zm_D_told, d + 3, 23, [some (.ref (194 : Nat)), some (.int x0), some (.int x1)], [.int (1 : Int32), .ref (194 : Nat)])) (h' := (zt_T L, zt_R, M, J, e)) (fun _ => rfl)).trans ?_
          simpa only [h4, zk_t, zk_f, zb_t, zb_f] using j3
      simpa only [h2, zk_t, zk_f, zb_t, zb_f] using j1
    · refine zq_eF rfl h2 ?_
      refine (zz_go 2 (fr' := (zm_D_told, d + 3, 23, [some (.ref (194 : Nat)), some (.int x0), some (.int x1)], [.int (1 : Int32), .ref (194 : Nat)])) (h' := (zt_T L, zt_R, M, J, e)) (fun _ => rfl)).trans ?_
      simpa only [h2, zk_t, zk_f, zb_t, zb_f] using j1
  refine zl_putI rfl rfl rfl rfl ?_
  refine (zz_go 1 (fr' := (zm_D_told, d + 3, 27, [some (.ref (194 : Nat)), some (.int x0), some (.int x1)], [.ref (194 : Nat)])) (h' := (zt_T L, zt_R, (zz_up M 194 0 (zb (bif (v_D_isKind x0) then (bif (v_D_isIn x1 (0 : Int32) (7 : Int32)) then false else true) else true))), J, e)) (fun _ => rfl)).trans ?_
  refine zl_getI rfl (by decide) rfl zu_eq ?_
  refine zz_jn (X := zz_D (zm_D_told, d + 3, 50, [none, none, none], [.int (bif (decide ((zb (bif (v_D_isKind x0) then (bif (v_D_isIn x1 (0 : Int32) (7 : Int32)) then false else true) else true)) ≤ 0)) then (v_D_sets (zz_up M 194 0 (zb (bif (v_D_isKind x0) then (bif (v_D_isIn x1 (0 : Int32) (7 : Int32)) then false else true) else true))) (((9 : Int32) + ((3 : Int32) * x0)) + (1 : Int32)) x1) else (0 : Int32))]) (zt_T L, zt_R, (bif (decide ((zb (bif (v_D_isKind x0) then (bif (v_D_isIn x1 (0 : Int32) (7 : Int32)) then false else true) else true)) ≤ 0)) then (w_D_sets (zz_up M 194 0 (zb (bif (v_D_isKind x0) then (bif (v_D_isIn x1 (0 : Int32) (7 : Int32)) then false else true) else true))) (((9 : Int32) + ((3 : Int32) * x0)) + (1 : Int32)) x1) else (zz_up M 194 0 (zb (bif (v_D_isKind x0) then (bif (v_D_isIn x1 (0 : Int32) (7 : Int32)) then false else true) else true)))), J, e)) (fun j5 => ?_) ?_
  · rcases zz_bc (decide ((zb (bif (v_D_isKind x0) then (bif (v_D_isIn x1 (0 : Int32) (7 : Int32)) then false else true) else true)) ≤ 0)) with h6 | h6
    · refine zo_leT rfl h6 ?_
      have k7 := k0 h6
      refine (zz_go 9 (fr' := (zm_D_told, d + 3, 47, [some (.ref (194 : Nat)), some (.int x0), some (.int x1)], [.int x1, .int (((9 : Int32) + ((3 : Int32) * x0)) + (1 : Int32)), .ref (194 : Nat)])) (h' := (zt_T L, zt_R, (zz_up M 194 0 (zb (bif (v_D_isKind x0) then (bif (v_D_isIn x1 (0 : Int32) (7 : Int32)) then false else true) else true))), J, e)) (fun _ => rfl)).trans ?_
      have g8 : ok_D_sets (zz_up M 194 0 (zb (bif (v_D_isKind x0) then (bif (v_D_isIn x1 (0 : Int32) (7 : Int32)) then false else true) else true))) (((9 : Int32) + ((3 : Int32) * x0)) + (1 : Int32)) x1 := k7
      refine zl_vt (d := d + 2) rfl rfl rfl rfl rfl rfl rfl rfl rfl rfl (s_D_sets L e J (d + 0) (zz_up M 194 0 (zb (bif (v_D_isKind x0) then (bif (v_D_isIn x1 (0 : Int32) (7 : Int32)) then false else true) else true))) (((9 : Int32) + ((3 : Int32) * x0)) + (1 : Int32)) x1 g8) ?_
      show zz_D (zm_D_told, d + 3, 50, [some (.ref (194 : Nat)), some (.int x0), some (.int x1)], [.int (v_D_sets (zz_up M 194 0 (zb (bif (v_D_isKind x0) then (bif (v_D_isIn x1 (0 : Int32) (7 : Int32)) then false else true) else true))) (((9 : Int32) + ((3 : Int32) * x0)) + (1 : Int32)) x1)]) (zt_T L, zt_R, (w_D_sets (zz_up M 194 0 (zb (bif (v_D_isKind x0) then (bif (v_D_isIn x1 (0 : Int32) (7 : Int32)) then false else true) else true))) (((9 : Int32) + ((3 : Int32) * x0)) + (1 : Int32)) x1), J, e) = _
      refine zz_weak (L := [none, none, none]) ⟨Or.inr ⟨rfl, rfl⟩, Or.inr ⟨rfl, rfl⟩, Or.inr ⟨rfl, rfl⟩, trivial⟩ ?_
      simpa only [h6, zk_t, zk_f, zb_t, zb_f] using j5
    · refine zo_leF rfl h6 ?_
      refine (zz_go 2 (fr' := (zm_D_told, d + 3, 50, [some (.ref (194 : Nat)), some (.int x0), some (.int x1)], [.int (0 : Int32)])) (h' := (zt_T L, zt_R, (zz_up M 194 0 (zb (bif (v_D_isKind x0) then (bif (v_D_isIn x1 (0 : Int32) (7 : Int32)) then false else true) else true))), J, e)) (fun _ => rfl)).trans ?_
      refine zz_weak (L := [none, none, none]) ⟨Or.inr ⟨rfl, rfl⟩, Or.inr ⟨rfl, rfl⟩, Or.inr ⟨rfl, rfl⟩, trivial⟩ ?_
      simpa only [h6, zk_t, zk_f, zb_t, zb_f] using j5
  refine zl_retI rfl rfl ?_
  rfl
def v_D_hold (M : zMem) (x0 : Int32) (x1 : Int32) : Int32 := (bif (decide ((zb (bif (v_D_isKind x0) then (bif (decide (x1 = (-1 : Int32))) then false else (bif (v_D_isKind x1) then false else true)) else true)) ≤ 0)) then (v_D_sets (zz_up M 194 0 (zb (bif (v_D_isKind x0) then (bif (decide (x1 = (-1 : Int32))) then false else (bif (v_D_isKind x1) then false else true)) else true))) (((9 : Int32) + ((3 : Int32) * x0)) + (2 : Int32)) x1) else (0 : Int32))
def w_D_hold (M : zMem) (x0 : Int32) (x1 : Int32) : zMem := (bif (decide ((zb (bif (v_D_isKind x0) then (bif (decide (x1 = (-1 : Int32))) then false else (bif (v_D_isKind x1) then false else true)) else true)) ≤ 0)) then (w_D_sets (zz_up M 194 0 (zb (bif (v_D_isKind x0) then (bif (decide (x1 = (-1 : Int32))) then false else (bif (v_D_isKind x1) then false else true)) else true))) (((9 : Int32) + ((3 : Int32) * x0)) + (2 : Int32)) x1) else (zz_up M 194 0 (zb (bif (v_D_isKind x0) then (bif (decide (x1 = (-1 : Int32))) then false else (bif (v_D_isKind x1) then false else true)) else true))))
def ok_D_hold (M : zMem) (x0 : Int32) (x1 : Int32) : Prop := ((decide ((zb (bif (v_D_isKind x0) then (bif (decide (x1 = (-1 : Int32))) then false else (bif (v_D_isKind x1) then false else true)) else true)) ≤ 0)) = true → ok_D_sets (zz_up M 194 0 (zb (bif (v_D_isKind x0) then (bif (decide (x1 = (-1 : Int32))) then false else (bif (v_D_isKind x1) then false else true)) else true))) (((9 : Int32) + ((3 : Int32) * x0)) + (2 : Int32)) x1)
set_option maxRecDepth 20000 in
set_option maxHeartbeats 2000000 in
theorem s_D_hold (L e : Nat) (J : zJem) (d : Nat) (M : zMem) (x0 : Int32) (x1 : Int32) (k0 : ok_D_hold M x0 x1) : zz_D (zm_D_hold, d + 3, 0, [some (.ref (194 : Nat)), some (.int x0), some (.int x1)], []) (zt_T L, zt_R, M, J, e) = some (.inl (some (.int (v_D_hold M x0 x1))), (zt_T L, zt_R, (w_D_hold M x0 x1), J, e)) := by
  unfold ok_D_hold at k0
  unfold v_D_hold w_D_hold
  refine (zz_go 2 (fr' := (zm_D_hold, d + 3, 2, [some (.ref (194 : Nat)), some (.int x0), some (.int x1)], [.int x0, .ref (194 : Nat)])) (h' := (zt_T L, zt_R, M, J, e)) (fun _ => rfl)).trans ?_
  refine zl_st (d := d + 2) rfl rfl rfl rfl rfl rfl rfl (s_D_isKind L e J (d + 0) x0) ?_
  show zz_D (zm_D_hold, d + 3, 5, [some (.ref (194 : Nat)), some (.int x0), some (.int x1)], [.int (zb (v_D_isKind x0)), .ref (194 : Nat)]) (zt_T L, zt_R, M, J, e) = _
  refine zz_jn (X := zz_D (zm_D_hold, d + 3, 25, [some (.ref (194 : Nat)), some (.int x0), some (.int x1)], [.int (zb (bif (v_D_isKind x0) then (bif (decide (x1 = (-1 : Int32))) then false else (bif (v_D_isKind x1) then false else true)) else true)), .ref (194 : Nat)]) (zt_T L, zt_R, M, J, e)) (fun j1 => ?_) ?_
  · rcases zz_bc (v_D_isKind x0) with h2 | h2
    · refine zq_eT rfl h2 ?_
      refine zz_jn (X := zz_D (zm_D_hold, d + 3, 25, [some (.ref (194 : Nat)), some (.int x0), some (.int x1)], [.int (zb (bif (decide (x1 = (-1 : Int32))) then false else (bif (v_D_isKind x1) then false else true))), .ref (194 : Nat)]) (zt_T L, zt_R, M, J, e)) (fun j3 => ?_) ?_
      · refine (zz_go 2 (fr' := (zm_D_hold, d + 3, 10, [some (.ref (194 : Nat)), some (.int x0), some (.int x1)], [.int (-1 : Int32), .int x1, .ref (194 : Nat)])) (h' := (zt_T L, zt_R, M, J, e)) (fun _ => rfl)).trans ?_
        rcases zz_bc (decide (x1 = (-1 : Int32))) with h4 | h4
        · refine zc_eqT rfl h4 ?_
          refine (zz_go 1 (fr' := (zm_D_hold, d + 3, 25, [some (.ref (194 : Nat)), some (.int x0), some (.int x1)], [.int (0 : Int32), .ref (194 : Nat)])) (h' := (zt_T L, zt_R, M, J, e)) (fun _ => rfl)).trans ?_
          simpa only [h4, zk_t, zk_f, zb_t, zb_f] using j3
        · refine zc_eqF rfl h4 ?_
          refine (zz_go 1 (fr' := (zm_D_hold, d + 3, 14, [some (.ref (194 : Nat)), some (.int x0), some (.int x1)], [.int x1, .ref (194 : Nat)])) (h' := (zt_T L, zt_R, M, J, e)) (fun _ => rfl)).trans ?_
          refine zl_st (d := d + 2) rfl rfl rfl rfl rfl rfl rfl (s_D_isKind L e J (d + 0) x1) ?_
          show zz_D (zm_D_hold, d + 3, 17, [some (.ref (194 : Nat)), some (.int x0), some (.int x1)], [.int (zb (v_D_isKind x1)), .ref (194 : Nat)]) (zt_T L, zt_R, M, J, e) = _
          refine zz_jn (X := zz_D (zm_D_hold, d + 3, 25, [some (.ref (194 : Nat)), some (.int x0), some (.int x1)], [.int (zb (bif (v_D_isKind x1) then false else true)), .ref (194 : Nat)]) (zt_T L, zt_R, M, J, e)) (fun j5 => ?_) ?_
          · rcases zz_bc (v_D_isKind x1) with h6 | h6
            · refine zq_fT rfl h6 ?_
              refine (zz_go 1 (fr' := (zm_D_hold, d + 3, 25, [some (.ref (194 : Nat)), some (.int x0), some (.int x1)], [.int (0 : Int32), .ref (194 : Nat)])) (h' := (zt_T L, zt_R, M, J, e)) (fun _ => rfl)).trans ?_
              simpa only [h6, zk_t, zk_f, zb_t, zb_f] using j5
            · refine zq_fF rfl h6 ?_
              refine (zz_go 2 (fr' := (zm_D_hold, d + 3, 25, [some (.ref (194 : Nat)), some (.int x0), some (.int x1)], [.int (1 : Int32), .ref (194 : Nat)])) (h' := (zt_T L, zt_R, M, J, e)) (fun _ => rfl)).trans ?_
              simpa only [h6, zk_t, zk_f, zb_t, zb_f] using j5
          simpa only [h4, zk_t, zk_f, zb_t, zb_f] using j3
      simpa only [h2, zk_t, zk_f, zb_t, zb_f] using j1
    · refine zq_eF rfl h2 ?_
      refine (zz_go 2 (fr' := (zm_D_hold, d + 3, 25, [some (.ref (194 : Nat)), some (.int x0), some (.int x1)], [.int (1 : Int32), .ref (194 : Nat)])) (h' := (zt_T L, zt_R, M, J, e)) (fun _ => rfl)).trans ?_
      simpa only [h2, zk_t, zk_f, zb_t, zb_f] using j1
  refine zl_putI rfl rfl rfl rfl ?_
  refine (zz_go 1 (fr' := (zm_D_hold, d + 3, 29, [some (.ref (194 : Nat)), some (.int x0), some (.int x1)], [.ref (194 : Nat)])) (h' := (zt_T L, zt_R, (zz_up M 194 0 (zb (bif (v_D_isKind x0) then (bif (decide (x1 = (-1 : Int32))) then false else (bif (v_D_isKind x1) then false else true)) else true))), J, e)) (fun _ => rfl)).trans ?_
  refine zl_getI rfl (by decide) rfl zu_eq ?_
  refine zz_jn (X := zz_D (zm_D_hold, d + 3, 52, [none, none, none], [.int (bif (decide ((zb (bif (v_D_isKind x0) then (bif (decide (x1 = (-1 : Int32))) then false else (bif (v_D_isKind x1) then false else true)) else true)) ≤ 0)) then (v_D_sets (zz_up M 194 0 (zb (bif (v_D_isKind x0) then (bif (decide (x1 = (-1 : Int32))) then false else (bif (v_D_isKind x1) then false else true)) else true))) (((9 : Int32) + ((3 : Int32) * x0)) + (2 : Int32)) x1) else (0 : Int32))]) (zt_T L, zt_R, (bif (decide ((zb (bif (v_D_isKind x0) then (bif (decide (x1 = (-1 : Int32))) then false else (bif (v_D_isKind x1) then false else true)) else true)) ≤ 0)) then (w_D_sets (zz_up M 194 0 (zb (bif (v_D_isKind x0) then (bif (decide (x1 = (-1 : Int32))) then false else (bif (v_D_isKind x1) then false else true)) else true))) (((9 : Int32) + ((3 : Int32) * x0)) + (2 : Int32)) x1) else (zz_up M 194 0 (zb (bif (v_D_isKind x0) then (bif (decide (x1 = (-1 : Int32))) then false else (bif (v_D_isKind x1) then false else true)) else true)))), J, e)) (fun j7 => ?_) ?_
  · rcases zz_bc (decide ((zb (bif (v_D_isKind x0) then (bif (decide (x1 = (-1 : Int32))) then false else (bif (v_D_isKind x1) then false else true)) else true)) ≤ 0)) with h8 | h8
    · refine zo_leT rfl h8 ?_
      have k9 := k0 h8
      refine (zz_go 9 (fr' := (zm_D_hold, d + 3, 49, [some (.ref (194 : Nat)), some (.int x0), some (.int x1)], [.int x1, .int (((9 : Int32) + ((3 : Int32) * x0)) + (2 : Int32)), .ref (194 : Nat)])) (h' := (zt_T L, zt_R, (zz_up M 194 0 (zb (bif (v_D_isKind x0) then (bif (decide (x1 = (-1 : Int32))) then false else (bif (v_D_isKind x1) then false else true)) else true))), J, e)) (fun _ => rfl)).trans ?_
      have g10 : ok_D_sets (zz_up M 194 0 (zb (bif (v_D_isKind x0) then (bif (decide (x1 = (-1 : Int32))) then false else (bif (v_D_isKind x1) then false else true)) else true))) (((9 : Int32) + ((3 : Int32) * x0)) + (2 : Int32)) x1 := k9
      refine zl_vt (d := d + 2) rfl rfl rfl rfl rfl rfl rfl rfl rfl rfl (s_D_sets L e J (d + 0) (zz_up M 194 0 (zb (bif (v_D_isKind x0) then (bif (decide (x1 = (-1 : Int32))) then false else (bif (v_D_isKind x1) then false else true)) else true))) (((9 : Int32) + ((3 : Int32) * x0)) + (2 : Int32)) x1 g10) ?_
      show zz_D (zm_D_hold, d + 3, 52, [some (.ref (194 : Nat)), some (.int x0), some (.int x1)], [.int (v_D_sets (zz_up M 194 0 (zb (bif (v_D_isKind x0) then (bif (decide (x1 = (-1 : Int32))) then false else (bif (v_D_isKind x1) then false else true)) else true))) (((9 : Int32) + ((3 : Int32) * x0)) + (2 : Int32)) x1)]) (zt_T L, zt_R, (w_D_sets (zz_up M 194 0 (zb (bif (v_D_isKind x0) then (bif (decide (x1 = (-1 : Int32))) then false else (bif (v_D_isKind x1) then false else true)) else true))) (((9 : Int32) + ((3 : Int32) * x0)) + (2 : Int32)) x1), J, e) = _
      refine zz_weak (L := [none, none, none]) ⟨Or.inr ⟨rfl, rfl⟩, Or.inr ⟨rfl, rfl⟩, Or.inr ⟨rfl, rfl⟩, trivial⟩ ?_
      simpa only [h8, zk_t, zk_f, zb_t, zb_f] using j7
    · refine zo_leF rfl h8 ?_
      refine (zz_go 2 (fr' := (zm_D_hold, d + 3, 52, [some (.ref (194 : Nat)), some (.int x0), some (.int x1)], [.int (0 : Int32)])) (h' := (zt_T L, zt_R, (zz_up M 194 0 (zb (bif (v_D_isKind x0) then (bif (decide (x1 = (-1 : Int32))) then false else (bif (v_D_isKind x1) then false else true)) else true))), J, e)) (fun _ => rfl)).trans ?_
      refine zz_weak (L := [none, none, none]) ⟨Or.inr ⟨rfl, rfl⟩, Or.inr ⟨rfl, rfl⟩, Or.inr ⟨rfl, rfl⟩, trivial⟩ ?_
      simpa only [h8, zk_t, zk_f, zb_t, zb_f] using j7
  refine zl_retI rfl rfl ?_
  rfl
def v_D_does (M : zMem) (x0 : Int32) (x1 : Int32) : Int32 := (bif (decide ((zb (bif (v_D_isOne M x0) then (bif (v_D_isIn x1 (0 : Int32) (7 : Int32)) then false else true) else true)) ≤ 0)) then (bif (decide ((bif (v_D_isOf (v_D_of (zz_up M 194 0 (zb (bif (v_D_isOne M x0) then (bif (v_D_isIn x1 (0 : Int32) (7 : Int32)) then false else true) else true))) x0 (4 : Int32)) x1) then (2 : Int32) else (0 : Int32)) ≤ 0)) then (v_D_of (w_D_sets (zy_l (zz_up M 194 0 (zb (bif (v_D_isOne M x0) then (bif (v_D_isIn x1 (0 : Int32) (7 : Int32)) then false else true) else true))) (fun N => (zz_up N 194 0 (bif (v_D_isOf (v_D_of N x0 (4 : Int32)) x1) then (2 : Int32) else (0 : Int32))))) (((33 : Int32) + ((6 : Int32) * x0)) + (4 : Int32)) ((v_D_of (zy_l (zz_up M 194 0 (zb (bif (v_D_isOne M x0) then (bif (v_D_isIn x1 (0 : Int32) (7 : Int32)) then false else true) else true))) (fun N => (zz_up N 194 0 (bif (v_D_isOf (v_D_of N x0 (4 : Int32)) x1) then (2 : Int32) else (0 : Int32))))) x0 (4 : Int32)) ||| (zsl (1 : Int32) x1))) x0 (4 : Int32)) else (0 : Int32)) else (0 : Int32))
def w_D_does (M : zMem) (x0 : Int32) (x1 : Int32) : zMem := (bif (decide ((zb (bif (v_D_isOne M x0) then (bif (v_D_isIn x1 (0 : Int32) (7 : Int32)) then false else true) else true)) ≤ 0)) then (bif (decide ((bif (v_D_isOf (v_D_of (zz_up M 194 0 (zb (bif (v_D_isOne M x0) then (bif (v_D_isIn x1 (0 : Int32) (7 : Int32)) then false else true) else true))) x0 (4 : Int32)) x1) then (2 : Int32) else (0 : Int32)) ≤ 0)) then (w_D_sets (zy_l (zz_up M 194 0 (zb (bif (v_D_isOne M x0) then (bif (v_D_isIn x1 (0 : Int32) (7 : Int32)) then false else true) else true))) (fun N => (zz_up N 194 0 (bif (v_D_isOf (v_D_of N x0 (4 : Int32)) x1) then (2 : Int32) else (0 : Int32))))) (((33 : Int32) + ((6 : Int32) * x0)) + (4 : Int32)) ((v_D_of (zy_l (zz_up M 194 0 (zb (bif (v_D_isOne M x0) then (bif (v_D_isIn x1 (0 : Int32) (7 : Int32)) then false else true) else true))) (fun N => (zz_up N 194 0 (bif (v_D_isOf (v_D_of N x0 (4 : Int32)) x1) then (2 : Int32) else (0 : Int32))))) x0 (4 : Int32)) ||| (zsl (1 : Int32) x1))) else (zy_l (zz_up M 194 0 (zb (bif (v_D_isOne M x0) then (bif (v_D_isIn x1 (0 : Int32) (7 : Int32)) then false else true) else true))) (fun N => (zz_up N 194 0 (bif (v_D_isOf (v_D_of N x0 (4 : Int32)) x1) then (2 : Int32) else (0 : Int32)))))) else (zz_up M 194 0 (zb (bif (v_D_isOne M x0) then (bif (v_D_isIn x1 (0 : Int32) (7 : Int32)) then false else true) else true))))
def ok_D_does (M : zMem) (x0 : Int32) (x1 : Int32) : Prop := ((decide ((zb (bif (v_D_isOne M x0) then (bif (v_D_isIn x1 (0 : Int32) (7 : Int32)) then false else true) else true)) ≤ 0)) = true → (ok_D_of (zz_up M 194 0 (zb (bif (v_D_isOne M x0) then (bif (v_D_isIn x1 (0 : Int32) (7 : Int32)) then false else true) else true))) x0 (4 : Int32) ∧ ((decide ((bif (v_D_isOf (v_D_of (zz_up M 194 0 (zb (bif (v_D_isOne M x0) then (bif (v_D_isIn x1 (0 : Int32) (7 : Int32)) then false else true) else true))) x0 (4 : Int32)) x1) then (2 : Int32) else (0 : Int32)) ≤ 0)) = true → (ok_D_of (zy_l (zz_up M 194 0 (zb (bif (v_D_isOne M x0) then (bif (v_D_isIn x1 (0 : Int32) (7 : Int32)) then false else true) else true))) (fun N => (zz_up N 194 0 (bif (v_D_isOf (v_D_of N x0 (4 : Int32)) x1) then (2 : Int32) else (0 : Int32))))) x0 (4 : Int32) ∧ (ok_D_sets (zy_l (zz_up M 194 0 (zb (bif (v_D_isOne M x0) then (bif (v_D_isIn x1 (0 : Int32) (7 : Int32)) then false else true) else true))) (fun N => (zz_up N 194 0 (bif (v_D_isOf (v_D_of N x0 (4 : Int32)) x1) then (2 : Int32) else (0 : Int32))))) (((33 : Int32) + ((6 : Int32) * x0)) + (4 : Int32)) ((v_D_of (zy_l (zz_up M 194 0 (zb (bif (v_D_isOne M x0) then (bif (v_D_isIn x1 (0 : Int32) (7 : Int32)) then false else true) else true))) (fun N => (zz_up N 194 0 (bif (v_D_isOf (v_D_of N x0 (4 : Int32)) x1) then (2 : Int32) else (0 : Int32))))) x0 (4 : Int32)) ||| (zsl (1 : Int32) x1)) ∧ ok_D_of (w_D_sets (zy_l (zz_up M 194 0 (zb (bif (v_D_isOne M x0) then (bif (v_D_isIn x1 (0 : Int32) (7 : Int32)) then false else true) else true))) (fun N => (zz_up N 194 0 (bif (v_D_isOf (v_D_of N x0 (4 : Int32)) x1) then (2 : Int32) else (0 : Int32))))) (((33 : Int32) + ((6 : Int32) * x0)) + (4 : Int32)) ((v_D_of (zy_l (zz_up M 194 0 (zb (bif (v_D_isOne M x0) then (bif (v_D_isIn x1 (0 : Int32) (7 : Int32)) then false else true) else true))) (fun N => (zz_up N 194 0 (bif (v_D_isOf (v_D_of N x0 (4 : Int32)) x1) then (2 : Int32) else (0 : Int32))))) x0 (4 : Int32)) ||| (zsl (1 : Int32) x1))) x0 (4 : Int32))))))
set_option maxRecDepth 20000 in
set_option maxHeartbeats 2000000 in
theorem s_D_does (L e : Nat) (J : zJem) (d : Nat) (M : zMem) (x0 : Int32) (x1 : Int32) (k0 : ok_D_does M x0 x1) : zz_D (zm_D_does, d + 3, 0, [some (.ref (194 : Nat)), some (.int x0), some (.int x1), none], []) (zt_T L, zt_R, M, J, e) = some (.inl (some (.int (v_D_does M x0 x1))), (zt_T L, zt_R, (w_D_does M x0 x1), J, e)) := by
  unfold ok_D_does at k0
  unfold v_D_does w_D_does
  refine (zz_go 3 (fr' := (zm_D_does, d + 3, 3, [some (.ref (194 : Nat)), some (.int x0), some (.int x1), none], [.int x0, .ref (194 : Nat), .ref (194 : Nat)])) (h' := (zt_T L, zt_R, M, J, e)) (fun _ => rfl)).trans ?_
  refine zl_vt (d := d + 2) rfl rfl rfl rfl rfl rfl rfl rfl rfl rfl (s_D_isOne L e J (d + 0) M x0) ?_
  show zz_D (zm_D_does, d + 3, 6, [some (.ref (194 : Nat)), some (.int x0), some (.int x1), none], [.int (zb (v_D_isOne M x0)), .ref (194 : Nat)]) (zt_T L, zt_R, M, J, e) = _
  refine zz_jn (X := zz_D (zm_D_does, d + 3, 24, [some (.ref (194 : Nat)), some (.int x0), some (.int x1), none], [.int (zb (bif (v_D_isOne M x0) then (bif (v_D_isIn x1 (0 : Int32) (7 : Int32)) then false else true) else true)), .ref (194 : Nat)]) (zt_T L, zt_R, M, J, e)) (fun j1 => ?_) ?_
  · rcases zz_bc (v_D_isOne M x0) with h2 | h2
    · refine zq_eT rfl h2 ?_
      refine (zz_go 3 (fr' := (zm_D_does, d + 3, 13, [some (.ref (194 : Nat)), some (.int x0), some (.int x1), none], [.int (7 : Int32), .int (0 : Int32), .int x1, .ref (194 : Nat)])) (h' := (zt_T L, zt_R, M, J, e)) (fun _ => rfl)).trans ?_
      refine zl_st (d := d + 2) rfl rfl rfl rfl rfl rfl rfl (s_D_isIn L e J (d + 1) x1 (0 : Int32) (7 : Int32)) ?_
      show zz_D (zm_D_does, d + 3, 16, [some (.ref (194 : Nat)), some (.int x0), some (.int x1), none], [.int (zb (v_D_isIn x1 (0 : Int32) (7 : Int32))), .ref (194 : Nat)]) (zt_T L, zt_R, M, J, e) = _
      refine zz_jn (X := zz_D (zm_D_does, d + 3, 24, [some (.ref (194 : Nat)), some (.int x0), some (.int x1), none], [.int (zb (bif (v_D_isIn x1 (0 : Int32) (7 : Int32)) then false else true)), .ref (194 : Nat)]) (zt_T L, zt_R, M, J, e)) (fun j3 => ?_) ?_
      · rcases zz_bc (v_D_isIn x1 (0 : Int32) (7 : Int32)) with h4 | h4
        · refine zq_fT rfl h4 ?_
          refine (zz_go 1 (fr' := (zm_D_does, d + 3, 24, [some (.ref (194 : Nat)), some (.int x0), some (.int x1), none], [.int (0 : Int32), .ref (194 : Nat)])) (h' := (zt_T L, zt_R, M, J, e)) (fun _ => rfl)).trans ?_
          simpa only [h4, zk_t, zk_f, zb_t, zb_f] using j3
        · refine zq_fF rfl h4 ?_
          refine (zz_go 2 (fr' := (zm_D_does, d + 3, 24, [some (.ref (194 : Nat)), some (.int x0), some (.int x1), none], [.int (1 : Int32), .ref (194 : Nat)])) (h' := (zt_T L, zt_R, M, J, e)) (fun _ => rfl)).trans ?_
          simpa only [h4, zk_t, zk_f, zb_t, zb_f] using j3
      simpa only [h2, zk_t, zk_f, zb_t, zb_f] using j1
    · refine zq_eF rfl h2 ?_
      refine (zz_go 2 (fr' := (zm_D_does, d + 3, 24, [some (.ref (194 : Nat)), some (.int x0), some (.int x1), none], [.int (1 : Int32), .ref (194 : Nat)])) (h' := (zt_T L, zt_R, M, J, e)) (fun _ => rfl)).trans ?_
      simpa only [h2, zk_t, zk_f, zb_t, zb_f] using j1
  refine zl_putI rfl rfl rfl rfl ?_
  refine (zz_go 1 (fr' := (zm_D_does, d + 3, 28, [some (.ref (194 : Nat)), some (.int x0), some (.int x1), none], [.ref (194 : Nat)])) (h' := (zt_T L, zt_R, (zz_up M 194 0 (zb (bif (v_D_isOne M x0) then (bif (v_D_isIn x1 (0 : Int32) (7 : Int32)) then false else true) else true))), J, e)) (fun _ => rfl)).trans ?_
  refine zl_getI rfl (by decide) rfl zu_eq ?_
  rcases zz_bc (decide ((zb (bif (v_D_isOne M x0) then (bif (v_D_isIn x1 (0 : Int32) (7 : Int32)) then false else true) else true)) ≤ 0)) with h5 | h5
  · refine zo_leT rfl h5 ?_
    have k6 := k0 h5
    refine (zz_go 4 (fr' := (zm_D_does, d + 3, 40, [some (.ref (194 : Nat)), some (.int x0), some (.int x1), none], [.int (4 : Int32), .int x0, .ref (194 : Nat), .ref (194 : Nat)])) (h' := (zt_T L, zt_R, (zz_up M 194 0 (zb (bif (v_D_isOne M x0) then (bif (v_D_isIn x1 (0 : Int32) (7 : Int32)) then false else true) else true))), J, e)) (fun _ => rfl)).trans ?_
    obtain ⟨g7, k8⟩ := k6
    refine zl_vt (d := d + 2) rfl rfl rfl rfl rfl rfl rfl rfl rfl rfl (s_D_of L e J (d + 1) (zz_up M 194 0 (zb (bif (v_D_isOne M x0) then (bif (v_D_isIn x1 (0 : Int32) (7 : Int32)) then false else true) else true))) x0 (4 : Int32) g7) ?_
    show zz_D (zm_D_does, d + 3, 43, [some (.ref (194 : Nat)), some (.int x0), some (.int x1), none], [.int (v_D_of (zz_up M 194 0 (zb (bif (v_D_isOne M x0) then (bif (v_D_isIn x1 (0 : Int32) (7 : Int32)) then false else true) else true))) x0 (4 : Int32)), .ref (194 : Nat)]) (zt_T L, zt_R, (zz_up M 194 0 (zb (bif (v_D_isOne M x0) then (bif (v_D_isIn x1 (0 : Int32) (7 : Int32)) then false else true) else true))), J, e) = _
    refine (zz_go 1 (fr' := (zm_D_does, d + 3, 44, [some (.ref (194 : Nat)), some (.int x0), some (.int x1), none], [.int x1, .int (v_D_of (zz_up M 194 0 (zb (bif (v_D_isOne M x0) then (bif (v_D_isIn x1 (0 : Int32) (7 : Int32)) then false else true) else true))) x0 (4 : Int32)), .ref (194 : Nat)])) (h' := (zt_T L, zt_R, (zz_up M 194 0 (zb (bif (v_D_isOne M x0) then (bif (v_D_isIn x1 (0 : Int32) (7 : Int32)) then false else true) else true))), J, e)) (fun _ => rfl)).trans ?_
    refine zl_st (d := d + 2) rfl rfl rfl rfl rfl rfl rfl (s_D_isOf L e J (d + 1) (v_D_of (zz_up M 194 0 (zb (bif (v_D_isOne M x0) then (bif (v_D_isIn x1 (0 : Int32) (7 : Int32)) then false else true) else true))) x0 (4 : Int32)) x1) ?_
    show zz_D (zm_D_does, d + 3, 47, [some (.ref (194 : Nat)), some (.int x0), some (.int x1), none], [.int (zb (v_D_isOf (v_D_of (zz_up M 194 0 (zb (bif (v_D_isOne M x0) then (bif (v_D_isIn x1 (0 : Int32) (7 : Int32)) then false else true) else true))) x0 (4 : Int32)) x1)), .ref (194 : Nat)]) (zt_T L, zt_R, (zz_up M 194 0 (zb (bif (v_D_isOne M x0) then (bif (v_D_isIn x1 (0 : Int32) (7 : Int32)) then false else true) else true))), J, e) = _
    refine zz_jn (X := zz_D (zm_D_does, d + 3, 55, [some (.ref (194 : Nat)), some (.int x0), some (.int x1), none], [.int (bif (v_D_isOf (v_D_of (zz_up M 194 0 (zb (bif (v_D_isOne M x0) then (bif (v_D_isIn x1 (0 : Int32) (7 : Int32)) then false else true) else true))) x0 (4 : Int32)) x1) then (2 : Int32) else (0 : Int32)), .ref (194 : Nat)]) (zt_T L, zt_R, (zz_up M 194 0 (zb (bif (v_D_isOne M x0) then (bif (v_D_isIn x1 (0 : Int32) (7 : Int32)) then false else true) else true))), J, e)) (fun j9 => ?_) ?_
    · rcases zz_bc (v_D_isOf (v_D_of (zz_up M 194 0 (zb (bif (v_D_isOne M x0) then (bif (v_D_isIn x1 (0 : Int32) (7 : Int32)) then false else true) else true))) x0 (4 : Int32)) x1) with h10 | h10
      · refine zq_eT rfl h10 ?_
        refine (zz_go 2 (fr' := (zm_D_does, d + 3, 55, [some (.ref (194 : Nat)), some (.int x0), some (.int x1), none], [.int (2 : Int32), .ref (194 : Nat)])) (h' := (zt_T L, zt_R, (zz_up M 194 0 (zb (bif (v_D_isOne M x0) then (bif (v_D_isIn x1 (0 : Int32) (7 : Int32)) then false else true) else true))), J, e)) (fun _ => rfl)).trans ?_
        simpa only [h10, zk_t, zk_f, zb_t, zb_f] using j9
      · refine zq_eF rfl h10 ?_
        refine (zz_go 1 (fr' := (zm_D_does, d + 3, 55, [some (.ref (194 : Nat)), some (.int x0), some (.int x1), none], [.int (0 : Int32), .ref (194 : Nat)])) (h' := (zt_T L, zt_R, (zz_up M 194 0 (zb (bif (v_D_isOne M x0) then (bif (v_D_isIn x1 (0 : Int32) (7 : Int32)) then false else true) else true))), J, e)) (fun _ => rfl)).trans ?_
        simpa only [h10, zk_t, zk_f, zb_t, zb_f] using j9
    refine zl_putI rfl rfl rfl rfl ?_
    refine (zz_go 1 (fr' := (zm_D_does, d + 3, 59, [some (.ref (194 : Nat)), some (.int x0), some (.int x1), none], [.ref (194 : Nat)])) (h' := (zt_T L, zt_R, (zy_l (zz_up M 194 0 (zb (bif (v_D_isOne M x0) then (bif (v_D_isIn x1 (0 : Int32) (7 : Int32)) then false else true) else true))) (fun N => (zz_up N 194 0 (bif (v_D_isOf (v_D_of N x0 (4 : Int32)) x1) then (2 : Int32) else (0 : Int32))))), J, e)) (fun _ => rfl)).trans ?_
    refine zl_getI rfl (by decide) rfl zu_eq ?_
    rcases zz_bc (decide ((bif (v_D_isOf (v_D_of (zz_up M 194 0 (zb (bif (v_D_isOne M x0) then (bif (v_D_isIn x1 (0 : Int32) (7 : Int32)) then false else true) else true))) x0 (4 : Int32)) x1) then (2 : Int32) else (0 : Int32)) ≤ 0)) with h11 | h11
    · refine zo_leT rfl h11 ?_
      have k12 := k8 h11
      refine (zz_go 11 (fr' := (zm_D_does, d + 3, 80, [some (.ref (194 : Nat)), some (.int x0), some (.int x1), none], [.int (4 : Int32), .int x0, .ref (194 : Nat), .int (((33 : Int32) + ((6 : Int32) * x0)) + (4 : Int32)), .ref (194 : Nat)])) (h' := (zt_T L, zt_R, (zy_l (zz_up M 194 0 (zb (bif (v_D_isOne M x0) then (bif (v_D_isIn x1 (0 : Int32) (7 : Int32)) then false else true) else true))) (fun N => (zz_up N 194 0 (bif (v_D_isOf (v_D_of N x0 (4 : Int32)) x1) then (2 : Int32) else (0 : Int32))))), J, e)) (fun _ => rfl)).trans ?_
      obtain ⟨g13, k14⟩ := k12
      refine zl_vt (d := d + 2) rfl rfl rfl rfl rfl rfl rfl rfl rfl rfl (s_D_of L e J (d + 1) (zy_l (zz_up M 194 0 (zb (bif (v_D_isOne M x0) then (bif (v_D_isIn x1 (0 : Int32) (7 : Int32)) then false else true) else true))) (fun N => (zz_up N 194 0 (bif (v_D_isOf (v_D_of N x0 (4 : Int32)) x1) then (2 : Int32) else (0 : Int32))))) x0 (4 : Int32) g13) ?_
      show zz_D (zm_D_does, d + 3, 83, [some (.ref (194 : Nat)), some (.int x0), some (.int x1), none], [.int (v_D_of (zy_l (zz_up M 194 0 (zb (bif (v_D_isOne M x0) then (bif (v_D_isIn x1 (0 : Int32) (7 : Int32)) then false else true) else true))) (fun N => (zz_up N 194 0 (bif (v_D_isOf (v_D_of N x0 (4 : Int32)) x1) then (2 : Int32) else (0 : Int32))))) x0 (4 : Int32)), .int (((33 : Int32) + ((6 : Int32) * x0)) + (4 : Int32)), .ref (194 : Nat)]) (zt_T L, zt_R, (zy_l (zz_up M 194 0 (zb (bif (v_D_isOne M x0) then (bif (v_D_isIn x1 (0 : Int32) (7 : Int32)) then false else true) else true))) (fun N => (zz_up N 194 0 (bif (v_D_isOf (v_D_of N x0 (4 : Int32)) x1) then (2 : Int32) else (0 : Int32))))), J, e) = _
      refine (zz_go 4 (fr' := (zm_D_does, d + 3, 87, [some (.ref (194 : Nat)), some (.int x0), some (.int x1), none], [.int ((v_D_of (zy_l (zz_up M 194 0 (zb (bif (v_D_isOne M x0) then (bif (v_D_isIn x1 (0 : Int32) (7 : Int32)) then false else true) else true))) (fun N => (zz_up N 194 0 (bif (v_D_isOf (v_D_of N x0 (4 : Int32)) x1) then (2 : Int32) else (0 : Int32))))) x0 (4 : Int32)) ||| (zsl (1 : Int32) x1)), .int (((33 : Int32) + ((6 : Int32) * x0)) + (4 : Int32)), .ref (194 : Nat)])) (h' := (zt_T L, zt_R, (zy_l (zz_up M 194 0 (zb (bif (v_D_isOne M x0) then (bif (v_D_isIn x1 (0 : Int32) (7 : Int32)) then false else true) else true))) (fun N => (zz_up N 194 0 (bif (v_D_isOf (v_D_of N x0 (4 : Int32)) x1) then (2 : Int32) else (0 : Int32))))), J, e)) (fun _ => rfl)).trans ?_
      obtain ⟨g15, k16⟩ := k14
      refine zl_vt (d := d + 2) rfl rfl rfl rfl rfl rfl rfl rfl rfl rfl (s_D_sets L e J (d + 0) (zy_l (zz_up M 194 0 (zb (bif (v_D_isOne M x0) then (bif (v_D_isIn x1 (0 : Int32) (7 : Int32)) then false else true) else true))) (fun N => (zz_up N 194 0 (bif (v_D_isOf (v_D_of N x0 (4 : Int32)) x1) then (2 : Int32) else (0 : Int32))))) (((33 : Int32) + ((6 : Int32) * x0)) + (4 : Int32)) ((v_D_of (zy_l (zz_up M 194 0 (zb (bif (v_D_isOne M x0) then (bif (v_D_isIn x1 (0 : Int32) (7 : Int32)) then false else true) else true))) (fun N => (zz_up N 194 0 (bif (v_D_isOf (v_D_of N x0 (4 : Int32)) x1) then (2 : Int32) else (0 : Int32))))) x0 (4 : Int32)) ||| (zsl (1 : Int32) x1)) g15) ?_
      show zz_D (zm_D_does, d + 3, 90, [some (.ref (194 : Nat)), some (.int x0), some (.int x1), none], [.int (v_D_sets (zy_l (zz_up M 194 0 (zb (bif (v_D_isOne M x0) then (bif (v_D_isIn x1 (0 : Int32) (7 : Int32)) then false else true) else true))) (fun N => (zz_up N 194 0 (bif (v_D_isOf (v_D_of N x0 (4 : Int32)) x1) then (2 : Int32) else (0 : Int32))))) (((33 : Int32) + ((6 : Int32) * x0)) + (4 : Int32)) ((v_D_of (zy_l (zz_up M 194 0 (zb (bif (v_D_isOne M x0) then (bif (v_D_isIn x1 (0 : Int32) (7 : Int32)) then false else true) else true))) (fun N => (zz_up N 194 0 (bif (v_D_isOf (v_D_of N x0 (4 : Int32)) x1) then (2 : Int32) else (0 : Int32))))) x0 (4 : Int32)) ||| (zsl (1 : Int32) x1)))]) (zt_T L, zt_R, (w_D_sets (zy_l (zz_up M 194 0 (zb (bif (v_D_isOne M x0) then (bif (v_D_isIn x1 (0 : Int32) (7 : Int32)) then false else true) else true))) (fun N => (zz_up N 194 0 (bif (v_D_isOf (v_D_of N x0 (4 : Int32)) x1) then (2 : Int32) else (0 : Int32))))) (((33 : Int32) + ((6 : Int32) * x0)) + (4 : Int32)) ((v_D_of (zy_l (zz_up M 194 0 (zb (bif (v_D_isOne M x0) then (bif (v_D_isIn x1 (0 : Int32) (7 : Int32)) then false else true) else true))) (fun N => (zz_up N 194 0 (bif (v_D_isOf (v_D_of N x0 (4 : Int32)) x1) then (2 : Int32) else (0 : Int32))))) x0 (4 : Int32)) ||| (zsl (1 : Int32) x1))), J, e) = _
      refine (zz_go 4 (fr' := (zm_D_does, d + 3, 94, [some (.ref (194 : Nat)), some (.int x0), some (.int x1), some (.int (v_D_sets (zy_l (zz_up M 194 0 (zb (bif (v_D_isOne M x0) then (bif (v_D_isIn x1 (0 : Int32) (7 : Int32)) then false else true) else true))) (fun N => (zz_up N 194 0 (bif (v_D_isOf (v_D_of N x0 (4 : Int32)) x1) then (2 : Int32) else (0 : Int32))))) (((33 : Int32) + ((6 : Int32) * x0)) + (4 : Int32)) ((v_D_of (zy_l (zz_up M 194 0 (zb (bif (v_D_isOne M x0) then (bif (v_D_isIn x1 (0 : Int32) (7 : Int32)) then false else true) else true))) (fun N => (zz_up N 194 0 (bif (v_D_isOf (v_D_of N x0 (4 : Int32)) x1) then (2 : Int32) else (0 : Int32))))) x0 (4 : Int32)) ||| (zsl (1 : Int32) x1))))], [.int (4 : Int32), .int x0, .ref (194 : Nat)])) (h' := (zt_T L, zt_R, (w_D_sets (zy_l (zz_up M 194 0 (zb (bif (v_D_isOne M x0) then (bif (v_D_isIn x1 (0 : Int32) (7 : Int32)) then false else true) else true))) (fun N => (zz_up N 194 0 (bif (v_D_isOf (v_D_of N x0 (4 : Int32)) x1) then (2 : Int32) else (0 : Int32))))) (((33 : Int32) + ((6 : Int32) * x0)) + (4 : Int32)) ((v_D_of (zy_l (zz_up M 194 0 (zb (bif (v_D_isOne M x0) then (bif (v_D_isIn x1 (0 : Int32) (7 : Int32)) then false else true) else true))) (fun N => (zz_up N 194 0 (bif (v_D_isOf (v_D_of N x0 (4 : Int32)) x1) then (2 : Int32) else (0 : Int32))))) x0 (4 : Int32)) ||| (zsl (1 : Int32) x1))), J, e)) (fun _ => rfl)).trans ?_
      have g17 : ok_D_of (w_D_sets (zy_l (zz_up M 194 0 (zb (bif (v_D_isOne M x0) then (bif (v_D_isIn x1 (0 : Int32) (7 : Int32)) then false else true) else true))) (fun N => (zz_up N 194 0 (bif (v_D_isOf (v_D_of N x0 (4 : Int32)) x1) then (2 : Int32) else (0 : Int32))))) (((33 : Int32) + ((6 : Int32) * x0)) + (4 : Int32)) ((v_D_of (zy_l (zz_up M 194 0 (zb (bif (v_D_isOne M x0) then (bif (v_D_isIn x1 (0 : Int32) (7 : Int32)) then false else true) else true))) (fun N => (zz_up N 194 0 (bif (v_D_isOf (v_D_of N x0 (4 : Int32)) x1) then (2 : Int32) else (0 : Int32))))) x0 (4 : Int32)) ||| (zsl (1 : Int32) x1))) x0 (4 : Int32) := k16
      refine zl_vt (d := d + 2) rfl rfl rfl rfl rfl rfl rfl rfl rfl rfl (s_D_of L e J (d + 1) (w_D_sets (zy_l (zz_up M 194 0 (zb (bif (v_D_isOne M x0) then (bif (v_D_isIn x1 (0 : Int32) (7 : Int32)) then false else true) else true))) (fun N => (zz_up N 194 0 (bif (v_D_isOf (v_D_of N x0 (4 : Int32)) x1) then (2 : Int32) else (0 : Int32))))) (((33 : Int32) + ((6 : Int32) * x0)) + (4 : Int32)) ((v_D_of (zy_l (zz_up M 194 0 (zb (bif (v_D_isOne M x0) then (bif (v_D_isIn x1 (0 : Int32) (7 : Int32)) then false else true) else true))) (fun N => (zz_up N 194 0 (bif (v_D_isOf (v_D_of N x0 (4 : Int32)) x1) then (2 : Int32) else (0 : Int32))))) x0 (4 : Int32)) ||| (zsl (1 : Int32) x1))) x0 (4 : Int32) g17) ?_
      show zz_D (zm_D_does, d + 3, 97, [some (.ref (194 : Nat)), some (.int x0), some (.int x1), some (.int (v_D_sets (zy_l (zz_up M 194 0 (zb (bif (v_D_isOne M x0) then (bif (v_D_isIn x1 (0 : Int32) (7 : Int32)) then false else true) else true))) (fun N => (zz_up N 194 0 (bif (v_D_isOf (v_D_of N x0 (4 : Int32)) x1) then (2 : Int32) else (0 : Int32))))) (((33 : Int32) + ((6 : Int32) * x0)) + (4 : Int32)) ((v_D_of (zy_l (zz_up M 194 0 (zb (bif (v_D_isOne M x0) then (bif (v_D_isIn x1 (0 : Int32) (7 : Int32)) then false else true) else true))) (fun N => (zz_up N 194 0 (bif (v_D_isOf (v_D_of N x0 (4 : Int32)) x1) then (2 : Int32) else (0 : Int32))))) x0 (4 : Int32)) ||| (zsl (1 : Int32) x1))))], [.int (v_D_of (w_D_sets (zy_l (zz_up M 194 0 (zb (bif (v_D_isOne M x0) then (bif (v_D_isIn x1 (0 : Int32) (7 : Int32)) then false else true) else true))) (fun N => (zz_up N 194 0 (bif (v_D_isOf (v_D_of N x0 (4 : Int32)) x1) then (2 : Int32) else (0 : Int32))))) (((33 : Int32) + ((6 : Int32) * x0)) + (4 : Int32)) ((v_D_of (zy_l (zz_up M 194 0 (zb (bif (v_D_isOne M x0) then (bif (v_D_isIn x1 (0 : Int32) (7 : Int32)) then false else true) else true))) (fun N => (zz_up N 194 0 (bif (v_D_isOf (v_D_of N x0 (4 : Int32)) x1) then (2 : Int32) else (0 : Int32))))) x0 (4 : Int32)) ||| (zsl (1 : Int32) x1))) x0 (4 : Int32))]) (zt_T L, zt_R, (w_D_sets (zy_l (zz_up M 194 0 (zb (bif (v_D_isOne M x0) then (bif (v_D_isIn x1 (0 : Int32) (7 : Int32)) then false else true) else true))) (fun N => (zz_up N 194 0 (bif (v_D_isOf (v_D_of N x0 (4 : Int32)) x1) then (2 : Int32) else (0 : Int32))))) (((33 : Int32) + ((6 : Int32) * x0)) + (4 : Int32)) ((v_D_of (zy_l (zz_up M 194 0 (zb (bif (v_D_isOne M x0) then (bif (v_D_isIn x1 (0 : Int32) (7 : Int32)) then false else true) else true))) (fun N => (zz_up N 194 0 (bif (v_D_isOf (v_D_of N x0 (4 : Int32)) x1) then (2 : Int32) else (0 : Int32))))) x0 (4 : Int32)) ||| (zsl (1 : Int32) x1))), J, e) = _
      refine zl_retI rfl rfl ?_
      first | (simp only [h5, h11, zk_t, zk_f, zb_t, zb_f]; done) | (simp only [h5, h11, zk_t, zk_f, zb_t, zb_f]; rfl) | rfl
    · refine zo_leF rfl h11 ?_
      refine (zz_go 1 (fr' := (zm_D_does, d + 3, 66, [some (.ref (194 : Nat)), some (.int x0), some (.int x1), none], [.int (0 : Int32)])) (h' := (zt_T L, zt_R, (zy_l (zz_up M 194 0 (zb (bif (v_D_isOne M x0) then (bif (v_D_isIn x1 (0 : Int32) (7 : Int32)) then false else true) else true))) (fun N => (zz_up N 194 0 (bif (v_D_isOf (v_D_of N x0 (4 : Int32)) x1) then (2 : Int32) else (0 : Int32))))), J, e)) (fun _ => rfl)).trans ?_
      refine zl_retI rfl rfl ?_
      first | (simp only [h5, h11, zk_t, zk_f, zb_t, zb_f]; done) | (simp only [h5, h11, zk_t, zk_f, zb_t, zb_f]; rfl) | rfl
  · refine zo_leF rfl h5 ?_
    refine (zz_go 1 (fr' := (zm_D_does, d + 3, 35, [some (.ref (194 : Nat)), some (.int x0), some (.int x1), none], [.int (0 : Int32)])) (h' := (zt_T L, zt_R, (zz_up M 194 0 (zb (bif (v_D_isOne M x0) then (bif (v_D_isIn x1 (0 : Int32) (7 : Int32)) then false else true) else true))), J, e)) (fun _ => rfl)).trans ?_
    refine zl_retI rfl rfl ?_
    first | (simp only [h5, zk_t, zk_f, zb_t, zb_f]; done) | (simp only [h5, zk_t, zk_f, zb_t, zb_f]; rfl) | rfl
def v_D_luck (M : zMem) (x0 : Int32) (x1 : Int32) : Int32 := (bif (decide ((bif (v_D_isOne M x0) then (bif (v_D_isIn x1 (0 : Int32) (9 : Int32)) then (0 : Int32) else (2 : Int32)) else (1 : Int32)) ≤ 0)) then (v_D_sets (zz_up M 194 0 (bif (v_D_isOne M x0) then (bif (v_D_isIn x1 (0 : Int32) (9 : Int32)) then (0 : Int32) else (2 : Int32)) else (1 : Int32))) (((33 : Int32) + ((6 : Int32) * x0)) + (3 : Int32)) x1) else (0 : Int32))
def w_D_luck (M : zMem) (x0 : Int32) (x1 : Int32) : zMem := (bif (decide ((bif (v_D_isOne M x0) then (bif (v_D_isIn x1 (0 : Int32) (9 : Int32)) then (0 : Int32) else (2 : Int32)) else (1 : Int32)) ≤ 0)) then (w_D_sets (zz_up M 194 0 (bif (v_D_isOne M x0) then (bif (v_D_isIn x1 (0 : Int32) (9 : Int32)) then (0 : Int32) else (2 : Int32)) else (1 : Int32))) (((33 : Int32) + ((6 : Int32) * x0)) + (3 : Int32)) x1) else (zz_up M 194 0 (bif (v_D_isOne M x0) then (bif (v_D_isIn x1 (0 : Int32) (9 : Int32)) then (0 : Int32) else (2 : Int32)) else (1 : Int32))))
def ok_D_luck (M : zMem) (x0 : Int32) (x1 : Int32) : Prop := ((decide ((bif (v_D_isOne M x0) then (bif (v_D_isIn x1 (0 : Int32) (9 : Int32)) then (0 : Int32) else (2 : Int32)) else (1 : Int32)) ≤ 0)) = true → ok_D_sets (zz_up M 194 0 (bif (v_D_isOne M x0) then (bif (v_D_isIn x1 (0 : Int32) (9 : Int32)) then (0 : Int32) else (2 : Int32)) else (1 : Int32))) (((33 : Int32) + ((6 : Int32) * x0)) + (3 : Int32)) x1)
set_option maxRecDepth 20000 in
set_option maxHeartbeats 2000000 in
theorem s_D_luck (L e : Nat) (J : zJem) (d : Nat) (M : zMem) (x0 : Int32) (x1 : Int32) (k0 : ok_D_luck M x0 x1) : zz_D (zm_D_luck, d + 3, 0, [some (.ref (194 : Nat)), some (.int x0), some (.int x1)], []) (zt_T L, zt_R, M, J, e) = some (.inl (some (.int (v_D_luck M x0 x1))), (zt_T L, zt_R, (w_D_luck M x0 x1), J, e)) := by
  unfold ok_D_luck at k0
  unfold v_D_luck w_D_luck
  refine (zz_go 3 (fr' := (zm_D_luck, d + 3, 3, [some (.ref (194 : Nat)), some (.int x0), some (.int x1)], [.int x0, .ref (194 : Nat), .ref (194 : Nat)])) (h' := (zt_T L, zt_R, M, J, e)) (fun _ => rfl)).trans ?_
  refine zl_vt (d := d + 2) rfl rfl rfl rfl rfl rfl rfl rfl rfl rfl (s_D_isOne L e J (d + 0) M x0) ?_
  show zz_D (zm_D_luck, d + 3, 6, [some (.ref (194 : Nat)), some (.int x0), some (.int x1)], [.int (zb (v_D_isOne M x0)), .ref (194 : Nat)]) (zt_T L, zt_R, M, J, e) = _
  refine zz_jn (X := zz_D (zm_D_luck, d + 3, 28, [some (.ref (194 : Nat)), some (.int x0), some (.int x1)], [.int (bif (v_D_isOne M x0) then (bif (v_D_isIn x1 (0 : Int32) (9 : Int32)) then (0 : Int32) else (2 : Int32)) else (1 : Int32)), .ref (194 : Nat)]) (zt_T L, zt_R, M, J, e)) (fun j1 => ?_) ?_
  · rcases zz_bc (v_D_isOne M x0) with h2 | h2
    · refine zq_fT rfl h2 ?_
      refine (zz_go 3 (fr' := (zm_D_luck, d + 3, 17, [some (.ref (194 : Nat)), some (.int x0), some (.int x1)], [.int (9 : Int32), .int (0 : Int32), .int x1, .ref (194 : Nat)])) (h' := (zt_T L, zt_R, M, J, e)) (fun _ => rfl)).trans ?_
      refine zl_st (d := d + 2) rfl rfl rfl rfl rfl rfl rfl (s_D_isIn L e J (d + 1) x1 (0 : Int32) (9 : Int32)) ?_
      show zz_D (zm_D_luck, d + 3, 20, [some (.ref (194 : Nat)), some (.int x0), some (.int x1)], [.int (zb (v_D_isIn x1 (0 : Int32) (9 : Int32))), .ref (194 : Nat)]) (zt_T L, zt_R, M, J, e) = _
      refine zz_jn (X := zz_D (zm_D_luck, d + 3, 28, [some (.ref (194 : Nat)), some (.int x0), some (.int x1)], [.int (bif (v_D_isIn x1 (0 : Int32) (9 : Int32)) then (0 : Int32) else (2 : Int32)), .ref (194 : Nat)]) (zt_T L, zt_R, M, J, e)) (fun j3 => ?_) ?_
      · rcases zz_bc (v_D_isIn x1 (0 : Int32) (9 : Int32)) with h4 | h4
        · refine zq_fT rfl h4 ?_
          refine (zz_go 1 (fr' := (zm_D_luck, d + 3, 28, [some (.ref (194 : Nat)), some (.int x0), some (.int x1)], [.int (0 : Int32), .ref (194 : Nat)])) (h' := (zt_T L, zt_R, M, J, e)) (fun _ => rfl)).trans ?_
          simpa only [h4, zk_t, zk_f, zb_t, zb_f] using j3
        · refine zq_fF rfl h4 ?_
          refine (zz_go 2 (fr' := (zm_D_luck, d + 3, 28, [some (.ref (194 : Nat)), some (.int x0), some (.int x1)], [.int (2 : Int32), .ref (194 : Nat)])) (h' := (zt_T L, zt_R, M, J, e)) (fun _ => rfl)).trans ?_
          simpa only [h4, zk_t, zk_f, zb_t, zb_f] using j3
      simpa only [h2, zk_t, zk_f, zb_t, zb_f] using j1
    · refine zq_fF rfl h2 ?_
      refine (zz_go 2 (fr' := (zm_D_luck, d + 3, 28, [some (.ref (194 : Nat)), some (.int x0), some (.int x1)], [.int (1 : Int32), .ref (194 : Nat)])) (h' := (zt_T L, zt_R, M, J, e)) (fun _ => rfl)).trans ?_
      simpa only [h2, zk_t, zk_f, zb_t, zb_f] using j1
  refine zl_putI rfl rfl rfl rfl ?_
  refine (zz_go 1 (fr' := (zm_D_luck, d + 3, 32, [some (.ref (194 : Nat)), some (.int x0), some (.int x1)], [.ref (194 : Nat)])) (h' := (zt_T L, zt_R, (zz_up M 194 0 (bif (v_D_isOne M x0) then (bif (v_D_isIn x1 (0 : Int32) (9 : Int32)) then (0 : Int32) else (2 : Int32)) else (1 : Int32))), J, e)) (fun _ => rfl)).trans ?_
  refine zl_getI rfl (by decide) rfl zu_eq ?_
  refine zz_jn (X := zz_D (zm_D_luck, d + 3, 56, [none, none, none], [.int (bif (decide ((bif (v_D_isOne M x0) then (bif (v_D_isIn x1 (0 : Int32) (9 : Int32)) then (0 : Int32) else (2 : Int32)) else (1 : Int32)) ≤ 0)) then (v_D_sets (zz_up M 194 0 (bif (v_D_isOne M x0) then (bif (v_D_isIn x1 (0 : Int32) (9 : Int32)) then (0 : Int32) else (2 : Int32)) else (1 : Int32))) (((33 : Int32) + ((6 : Int32) * x0)) + (3 : Int32)) x1) else (0 : Int32))]) (zt_T L, zt_R, (bif (decide ((bif (v_D_isOne M x0) then (bif (v_D_isIn x1 (0 : Int32) (9 : Int32)) then (0 : Int32) else (2 : Int32)) else (1 : Int32)) ≤ 0)) then (w_D_sets (zz_up M 194 0 (bif (v_D_isOne M x0) then (bif (v_D_isIn x1 (0 : Int32) (9 : Int32)) then (0 : Int32) else (2 : Int32)) else (1 : Int32))) (((33 : Int32) + ((6 : Int32) * x0)) + (3 : Int32)) x1) else (zz_up M 194 0 (bif (v_D_isOne M x0) then (bif (v_D_isIn x1 (0 : Int32) (9 : Int32)) then (0 : Int32) else (2 : Int32)) else (1 : Int32)))), J, e)) (fun j5 => ?_) ?_
  · rcases zz_bc (decide ((bif (v_D_isOne M x0) then (bif (v_D_isIn x1 (0 : Int32) (9 : Int32)) then (0 : Int32) else (2 : Int32)) else (1 : Int32)) ≤ 0)) with h6 | h6
    · refine zo_leT rfl h6 ?_
      have k7 := k0 h6
      refine (zz_go 9 (fr' := (zm_D_luck, d + 3, 53, [some (.ref (194 : Nat)), some (.int x0), some (.int x1)], [.int x1, .int (((33 : Int32) + ((6 : Int32) * x0)) + (3 : Int32)), .ref (194 : Nat)])) (h' := (zt_T L, zt_R, (zz_up M 194 0 (bif (v_D_isOne M x0) then (bif (v_D_isIn x1 (0 : Int32) (9 : Int32)) then (0 : Int32) else (2 : Int32)) else (1 : Int32))), J, e)) (fun _ => rfl)).trans ?_
      have g8 : ok_D_sets (zz_up M 194 0 (bif (v_D_isOne M x0) then (bif (v_D_isIn x1 (0 : Int32) (9 : Int32)) then (0 : Int32) else (2 : Int32)) else (1 : Int32))) (((33 : Int32) + ((6 : Int32) * x0)) + (3 : Int32)) x1 := k7
      refine zl_vt (d := d + 2) rfl rfl rfl rfl rfl rfl rfl rfl rfl rfl (s_D_sets L e J (d + 0) (zz_up M 194 0 (bif (v_D_isOne M x0) then (bif (v_D_isIn x1 (0 : Int32) (9 : Int32)) then (0 : Int32) else (2 : Int32)) else (1 : Int32))) (((33 : Int32) + ((6 : Int32) * x0)) + (3 : Int32)) x1 g8) ?_
      show zz_D (zm_D_luck, d + 3, 56, [some (.ref (194 : Nat)), some (.int x0), some (.int x1)], [.int (v_D_sets (zz_up M 194 0 (bif (v_D_isOne M x0) then (bif (v_D_isIn x1 (0 : Int32) (9 : Int32)) then (0 : Int32) else (2 : Int32)) else (1 : Int32))) (((33 : Int32) + ((6 : Int32) * x0)) + (3 : Int32)) x1)]) (zt_T L, zt_R, (w_D_sets (zz_up M 194 0 (bif (v_D_isOne M x0) then (bif (v_D_isIn x1 (0 : Int32) (9 : Int32)) then (0 : Int32) else (2 : Int32)) else (1 : Int32))) (((33 : Int32) + ((6 : Int32) * x0)) + (3 : Int32)) x1), J, e) = _
      refine zz_weak (L := [none, none, none]) ⟨Or.inr ⟨rfl, rfl⟩, Or.inr ⟨rfl, rfl⟩, Or.inr ⟨rfl, rfl⟩, trivial⟩ ?_
      simpa only [h6, zk_t, zk_f, zb_t, zb_f] using j5
    · refine zo_leF rfl h6 ?_
      refine (zz_go 2 (fr' := (zm_D_luck, d + 3, 56, [some (.ref (194 : Nat)), some (.int x0), some (.int x1)], [.int (0 : Int32)])) (h' := (zt_T L, zt_R, (zz_up M 194 0 (bif (v_D_isOne M x0) then (bif (v_D_isIn x1 (0 : Int32) (9 : Int32)) then (0 : Int32) else (2 : Int32)) else (1 : Int32))), J, e)) (fun _ => rfl)).trans ?_
      refine zz_weak (L := [none, none, none]) ⟨Or.inr ⟨rfl, rfl⟩, Or.inr ⟨rfl, rfl⟩, Or.inr ⟨rfl, rfl⟩, trivial⟩ ?_
      simpa only [h6, zk_t, zk_f, zb_t, zb_f] using j5
  refine zl_retI rfl rfl ?_
  rfl
def v_D_fill (M : zMem) (x0 : Int32) : Int32 := (bif (decide ((zb (bif (v_D_isIn x0 (1 : Int32) (999 : Int32)) then false else true)) ≤ 0)) then ((w_D_sets (zz_up M 194 0 (zb (bif (v_D_isIn x0 (1 : Int32) (999 : Int32)) then false else true))) (6 : Int32) (v_D_lesser (9999 : Int32) ((M 195 6) + x0))) 195 6) else (0 : Int32))
def w_D_fill (M : zMem) (x0 : Int32) : zMem := (bif (decide ((zb (bif (v_D_isIn x0 (1 : Int32) (999 : Int32)) then false else true)) ≤ 0)) then (w_D_sets (zz_up M 194 0 (zb (bif (v_D_isIn x0 (1 : Int32) (999 : Int32)) then false else true))) (6 : Int32) (v_D_lesser (9999 : Int32) ((M 195 6) + x0))) else (zz_up M 194 0 (zb (bif (v_D_isIn x0 (1 : Int32) (999 : Int32)) then false else true))))
def ok_D_fill (M : zMem) (x0 : Int32) : Prop := ((decide ((zb (bif (v_D_isIn x0 (1 : Int32) (999 : Int32)) then false else true)) ≤ 0)) = true → ok_D_sets (zz_up M 194 0 (zb (bif (v_D_isIn x0 (1 : Int32) (999 : Int32)) then false else true))) (6 : Int32) (v_D_lesser (9999 : Int32) ((M 195 6) + x0)))
set_option maxRecDepth 20000 in
set_option maxHeartbeats 2000000 in
theorem s_D_fill (L e : Nat) (J : zJem) (d : Nat) (M : zMem) (x0 : Int32) (k0 : ok_D_fill M x0) : zz_D (zm_D_fill, d + 3, 0, [some (.ref (194 : Nat)), some (.int x0), none], []) (zt_T L, zt_R, M, J, e) = some (.inl (some (.int (v_D_fill M x0))), (zt_T L, zt_R, (w_D_fill M x0), J, e)) := by
  unfold ok_D_fill at k0
  unfold v_D_fill w_D_fill
  refine (zz_go 4 (fr' := (zm_D_fill, d + 3, 6, [some (.ref (194 : Nat)), some (.int x0), none], [.int (999 : Int32), .int (1 : Int32), .int x0, .ref (194 : Nat)])) (h' := (zt_T L, zt_R, M, J, e)) (fun _ => rfl)).trans ?_
  refine zl_st (d := d + 2) rfl rfl rfl rfl rfl rfl rfl (s_D_isIn L e J (d + 1) x0 (1 : Int32) (999 : Int32)) ?_
  show zz_D (zm_D_fill, d + 3, 9, [some (.ref (194 : Nat)), some (.int x0), none], [.int (zb (v_D_isIn x0 (1 : Int32) (999 : Int32))), .ref (194 : Nat)]) (zt_T L, zt_R, M, J, e) = _
  refine zz_jn (X := zz_D (zm_D_fill, d + 3, 17, [some (.ref (194 : Nat)), some (.int x0), none], [.int (zb (bif (v_D_isIn x0 (1 : Int32) (999 : Int32)) then false else true)), .ref (194 : Nat)]) (zt_T L, zt_R, M, J, e)) (fun j1 => ?_) ?_
  · rcases zz_bc (v_D_isIn x0 (1 : Int32) (999 : Int32)) with h2 | h2
    · refine zq_fT rfl h2 ?_
      refine (zz_go 1 (fr' := (zm_D_fill, d + 3, 17, [some (.ref (194 : Nat)), some (.int x0), none], [.int (0 : Int32), .ref (194 : Nat)])) (h' := (zt_T L, zt_R, M, J, e)) (fun _ => rfl)).trans ?_
      simpa only [h2, zk_t, zk_f, zb_t, zb_f] using j1
    · refine zq_fF rfl h2 ?_
      refine (zz_go 2 (fr' := (zm_D_fill, d + 3, 17, [some (.ref (194 : Nat)), some (.int x0), none], [.int (1 : Int32), .ref (194 : Nat)])) (h' := (zt_T L, zt_R, M, J, e)) (fun _ => rfl)).trans ?_
      simpa only [h2, zk_t, zk_f, zb_t, zb_f] using j1
  refine zl_putI rfl rfl rfl rfl ?_
  refine (zz_go 1 (fr' := (zm_D_fill, d + 3, 21, [some (.ref (194 : Nat)), some (.int x0), none], [.ref (194 : Nat)])) (h' := (zt_T L, zt_R, (zz_up M 194 0 (zb (bif (v_D_isIn x0 (1 : Int32) (999 : Int32)) then false else true))), J, e)) (fun _ => rfl)).trans ?_
  refine zl_getI rfl (by decide) rfl zu_eq ?_
  rcases zz_bc (decide ((zb (bif (v_D_isIn x0 (1 : Int32) (999 : Int32)) then false else true)) ≤ 0)) with h3 | h3
  · refine zo_leT rfl h3 ?_
    have k4 := k0 h3
    refine (zz_go 4 (fr' := (zm_D_fill, d + 3, 36, [some (.ref (194 : Nat)), some (.int x0), none], [.ref (194 : Nat), .int (9999 : Int32), .int (6 : Int32), .ref (194 : Nat)])) (h' := (zt_T L, zt_R, (zz_up M 194 0 (zb (bif (v_D_isIn x0 (1 : Int32) (999 : Int32)) then false else true))), J, e)) (fun _ => rfl)).trans ?_
    refine zl_getR (r := 195) rfl rfl rfl ?_
    refine (zz_go 1 (fr' := (zm_D_fill, d + 3, 41, [some (.ref (194 : Nat)), some (.int x0), none], [.int (6 : Int32), .ref (195 : Nat), .int (9999 : Int32), .int (6 : Int32), .ref (194 : Nat)])) (h' := (zt_T L, zt_R, (zz_up M 194 0 (zb (bif (v_D_isIn x0 (1 : Int32) (999 : Int32)) then false else true))), J, e)) (fun _ => rfl)).trans ?_
    refine zl_iaN (v := (M 195 6)) 6 rfl rfl (by decide) (by decide) ((zu_ne (rfl)).trans rfl) ?_
    refine (zz_go 2 (fr' := (zm_D_fill, d + 3, 44, [some (.ref (194 : Nat)), some (.int x0), none], [.int ((M 195 6) + x0), .int (9999 : Int32), .int (6 : Int32), .ref (194 : Nat)])) (h' := (zt_T L, zt_R, (zz_up M 194 0 (zb (bif (v_D_isIn x0 (1 : Int32) (999 : Int32)) then false else true))), J, e)) (fun _ => rfl)).trans ?_
    refine zl_st (d := d + 2) rfl rfl rfl rfl rfl rfl rfl (s_D_lesser L e J (d + 1) (9999 : Int32) ((M 195 6) + x0)) ?_
    show zz_D (zm_D_fill, d + 3, 47, [some (.ref (194 : Nat)), some (.int x0), none], [.int (v_D_lesser (9999 : Int32) ((M 195 6) + x0)), .int (6 : Int32), .ref (194 : Nat)]) (zt_T L, zt_R, (zz_up M 194 0 (zb (bif (v_D_isIn x0 (1 : Int32) (999 : Int32)) then false else true))), J, e) = _
    have g5 : ok_D_sets (zz_up M 194 0 (zb (bif (v_D_isIn x0 (1 : Int32) (999 : Int32)) then false else true))) (6 : Int32) (v_D_lesser (9999 : Int32) ((M 195 6) + x0)) := k4
    refine zl_vt (d := d + 2) rfl rfl rfl rfl rfl rfl rfl rfl rfl rfl (s_D_sets L e J (d + 0) (zz_up M 194 0 (zb (bif (v_D_isIn x0 (1 : Int32) (999 : Int32)) then false else true))) (6 : Int32) (v_D_lesser (9999 : Int32) ((M 195 6) + x0)) g5) ?_
    show zz_D (zm_D_fill, d + 3, 50, [some (.ref (194 : Nat)), some (.int x0), none], [.int (v_D_sets (zz_up M 194 0 (zb (bif (v_D_isIn x0 (1 : Int32) (999 : Int32)) then false else true))) (6 : Int32) (v_D_lesser (9999 : Int32) ((M 195 6) + x0)))]) (zt_T L, zt_R, (w_D_sets (zz_up M 194 0 (zb (bif (v_D_isIn x0 (1 : Int32) (999 : Int32)) then false else true))) (6 : Int32) (v_D_lesser (9999 : Int32) ((M 195 6) + x0))), J, e) = _
    refine (zz_go 2 (fr' := (zm_D_fill, d + 3, 52, [some (.ref (194 : Nat)), some (.int x0), some (.int (v_D_sets (zz_up M 194 0 (zb (bif (v_D_isIn x0 (1 : Int32) (999 : Int32)) then false else true))) (6 : Int32) (v_D_lesser (9999 : Int32) ((M 195 6) + x0))))], [.ref (194 : Nat)])) (h' := (zt_T L, zt_R, (w_D_sets (zz_up M 194 0 (zb (bif (v_D_isIn x0 (1 : Int32) (999 : Int32)) then false else true))) (6 : Int32) (v_D_lesser (9999 : Int32) ((M 195 6) + x0))), J, e)) (fun _ => rfl)).trans ?_
    refine zl_getR (r := 195) rfl rfl rfl ?_
    refine (zz_go 1 (fr' := (zm_D_fill, d + 3, 57, [some (.ref (194 : Nat)), some (.int x0), some (.int (v_D_sets (zz_up M 194 0 (zb (bif (v_D_isIn x0 (1 : Int32) (999 : Int32)) then false else true))) (6 : Int32) (v_D_lesser (9999 : Int32) ((M 195 6) + x0))))], [.int (6 : Int32), .ref (195 : Nat)])) (h' := (zt_T L, zt_R, (w_D_sets (zz_up M 194 0 (zb (bif (v_D_isIn x0 (1 : Int32) (999 : Int32)) then false else true))) (6 : Int32) (v_D_lesser (9999 : Int32) ((M 195 6) + x0))), J, e)) (fun _ => rfl)).trans ?_
    refine zl_iaN (v := ((w_D_sets (zz_up M 194 0 (zb (bif (v_D_isIn x0 (1 : Int32) (999 : Int32)) then false else true))) (6 : Int32) (v_D_lesser (9999 : Int32) ((M 195 6) + x0))) 195 6)) 6 rfl rfl (by decide) (by decide) rfl ?_
    refine zl_retI rfl rfl ?_
    first | (simp only [h3, zk_t, zk_f, zb_t, zb_f]; done) | (simp only [h3, zk_t, zk_f, zb_t, zb_f]; rfl) | rfl
  · refine zo_leF rfl h3 ?_
    refine (zz_go 1 (fr' := (zm_D_fill, d + 3, 28, [some (.ref (194 : Nat)), some (.int x0), none], [.int (0 : Int32)])) (h' := (zt_T L, zt_R, (zz_up M 194 0 (zb (bif (v_D_isIn x0 (1 : Int32) (999 : Int32)) then false else true))), J, e)) (fun _ => rfl)).trans ?_
    refine zl_retI rfl rfl ?_
    first | (simp only [h3, zk_t, zk_f, zb_t, zb_f]; done) | (simp only [h3, zk_t, zk_f, zb_t, zb_f]; rfl) | rfl
def v_D_blank (M : zMem) (x0 : Int32) : Bool := (bif (bif (v_D_isOne M x0) then false else true) then false else (decide (((v_D_of (zz_up M 194 0 (zb (bif (v_D_isOne M x0) then false else true))) x0 (1 : Int32)) &&& (v_D_marksOf (zz_up M 194 0 (zb (bif (v_D_isOne M x0) then false else true))) x0)) = 0)))
def w_D_blank (M : zMem) (x0 : Int32) : zMem := (zz_up M 194 0 (zb (bif (v_D_isOne M x0) then false else true)))
def ok_D_blank (M : zMem) (x0 : Int32) : Prop := ((bif (v_D_isOne M x0) then false else true) = false → (ok_D_of (zz_up M 194 0 (zb (bif (v_D_isOne M x0) then false else true))) x0 (1 : Int32) ∧ ok_D_marksOf (zz_up M 194 0 (zb (bif (v_D_isOne M x0) then false else true))) x0))
set_option maxRecDepth 20000 in
set_option maxHeartbeats 2000000 in
theorem s_D_blank (L e : Nat) (J : zJem) (d : Nat) (M : zMem) (x0 : Int32) (k0 : ok_D_blank M x0) : zz_D (zm_D_blank, d + 4, 0, [some (.ref (194 : Nat)), some (.int x0)], []) (zt_T L, zt_R, M, J, e) = some (.inl (some (.int (zb (v_D_blank M x0)))), (zt_T L, zt_R, (w_D_blank M x0), J, e)) := by
  unfold ok_D_blank at k0
  unfold v_D_blank w_D_blank
  refine (zz_go 3 (fr' := (zm_D_blank, d + 4, 3, [some (.ref (194 : Nat)), some (.int x0)], [.int x0, .ref (194 : Nat), .ref (194 : Nat)])) (h' := (zt_T L, zt_R, M, J, e)) (fun _ => rfl)).trans ?_
  refine zl_vt (d := d + 3) rfl rfl rfl rfl rfl rfl rfl rfl rfl rfl (s_D_isOne L e J (d + 1) M x0) ?_
  show zz_D (zm_D_blank, d + 4, 6, [some (.ref (194 : Nat)), some (.int x0)], [.int (zb (v_D_isOne M x0)), .ref (194 : Nat)]) (zt_T L, zt_R, M, J, e) = _
  refine zz_jn (X := zz_D (zm_D_blank, d + 4, 14, [some (.ref (194 : Nat)), some (.int x0)], [.int (zb (bif (v_D_isOne M x0) then false else true)), .ref (194 : Nat)]) (zt_T L, zt_R, M, J, e)) (fun j1 => ?_) ?_
  · rcases zz_bc (v_D_isOne M x0) with h2 | h2
    · refine zq_fT rfl h2 ?_
      refine (zz_go 1 (fr' := (zm_D_blank, d + 4, 14, [some (.ref (194 : Nat)), some (.int x0)], [.int (0 : Int32), .ref (194 : Nat)])) (h' := (zt_T L, zt_R, M, J, e)) (fun _ => rfl)).trans ?_
      simpa only [h2, zk_t, zk_f, zb_t, zb_f] using j1
    · refine zq_fF rfl h2 ?_
      refine (zz_go 2 (fr' := (zm_D_blank, d + 4, 14, [some (.ref (194 : Nat)), some (.int x0)], [.int (1 : Int32), .ref (194 : Nat)])) (h' := (zt_T L, zt_R, M, J, e)) (fun _ => rfl)).trans ?_
      simpa only [h2, zk_t, zk_f, zb_t, zb_f] using j1
  refine zl_putI rfl rfl rfl rfl ?_
  refine (zz_go 1 (fr' := (zm_D_blank, d + 4, 18, [some (.ref (194 : Nat)), some (.int x0)], [.ref (194 : Nat)])) (h' := (zt_T L, zt_R, (zz_up M 194 0 (zb (bif (v_D_isOne M x0) then false else true))), J, e)) (fun _ => rfl)).trans ?_
  refine zl_getI rfl (by decide) rfl zu_eq ?_
  refine zz_jn (X := zz_D (zm_D_blank, d + 4, 44, [none, none], [.int (zb (bif (bif (v_D_isOne M x0) then false else true) then false else (decide (((v_D_of (zz_up M 194 0 (zb (bif (v_D_isOne M x0) then false else true))) x0 (1 : Int32)) &&& (v_D_marksOf (zz_up M 194 0 (zb (bif (v_D_isOne M x0) then false else true))) x0)) = 0))))]) (zt_T L, zt_R, (zz_up M 194 0 (zb (bif (v_D_isOne M x0) then false else true))), J, e)) (fun j3 => ?_) ?_
  · rcases zz_bc (bif (v_D_isOne M x0) then false else true) with h4 | h4
    · refine zq_fT rfl h4 ?_
      refine (zz_go 1 (fr' := (zm_D_blank, d + 4, 44, [some (.ref (194 : Nat)), some (.int x0)], [.int (0 : Int32)])) (h' := (zt_T L, zt_R, (zz_up M 194 0 (zb (bif (v_D_isOne M x0) then false else true))), J, e)) (fun _ => rfl)).trans ?_
      refine zz_weak (L := [none, none]) ⟨Or.inr ⟨rfl, rfl⟩, Or.inr ⟨rfl, rfl⟩, trivial⟩ ?_
      simpa only [h4, zk_t, zk_f, zb_t, zb_f] using j3
    · refine zq_fF rfl h4 ?_
      have k5 := k0 h4
      refine (zz_go 3 (fr' := (zm_D_blank, d + 4, 27, [some (.ref (194 : Nat)), some (.int x0)], [.int (1 : Int32), .int x0, .ref (194 : Nat)])) (h' := (zt_T L, zt_R, (zz_up M 194 0 (zb (bif (v_D_isOne M x0) then false else true))), J, e)) (fun _ => rfl)).trans ?_
      obtain ⟨g6, k7⟩ := k5
      refine zl_vt (d := d + 3) rfl rfl rfl rfl rfl rfl rfl rfl rfl rfl (s_D_of L e J (d + 2) (zz_up M 194 0 (zb (bif (v_D_isOne M x0) then false else true))) x0 (1 : Int32) g6) ?_
      show zz_D (zm_D_blank, d + 4, 30, [some (.ref (194 : Nat)), some (.int x0)], [.int (v_D_of (zz_up M 194 0 (zb (bif (v_D_isOne M x0) then false else true))) x0 (1 : Int32))]) (zt_T L, zt_R, (zz_up M 194 0 (zb (bif (v_D_isOne M x0) then false else true))), J, e) = _
      refine (zz_go 2 (fr' := (zm_D_blank, d + 4, 32, [some (.ref (194 : Nat)), some (.int x0)], [.int x0, .ref (194 : Nat), .int (v_D_of (zz_up M 194 0 (zb (bif (v_D_isOne M x0) then false else true))) x0 (1 : Int32))])) (h' := (zt_T L, zt_R, (zz_up M 194 0 (zb (bif (v_D_isOne M x0) then false else true))), J, e)) (fun _ => rfl)).trans ?_
      have g8 : ok_D_marksOf (zz_up M 194 0 (zb (bif (v_D_isOne M x0) then false else true))) x0 := k7
      refine zl_vt (d := d + 3) rfl rfl rfl rfl rfl rfl rfl rfl rfl rfl (s_D_marksOf L e J (d + 0) (zz_up M 194 0 (zb (bif (v_D_isOne M x0) then false else true))) x0 g8) ?_
      show zz_D (zm_D_blank, d + 4, 35, [some (.ref (194 : Nat)), some (.int x0)], [.int (v_D_marksOf (zz_up M 194 0 (zb (bif (v_D_isOne M x0) then false else true))) x0), .int (v_D_of (zz_up M 194 0 (zb (bif (v_D_isOne M x0) then false else true))) x0 (1 : Int32))]) (zt_T L, zt_R, (zz_up M 194 0 (zb (bif (v_D_isOne M x0) then false else true))), J, e) = _
      refine zz_jn (X := zz_D (zm_D_blank, d + 4, 44, [none, none], [.int (zb (decide (((v_D_of (zz_up M 194 0 (zb (bif (v_D_isOne M x0) then false else true))) x0 (1 : Int32)) &&& (v_D_marksOf (zz_up M 194 0 (zb (bif (v_D_isOne M x0) then false else true))) x0)) = 0)))]) (zt_T L, zt_R, (zz_up M 194 0 (zb (bif (v_D_isOne M x0) then false else true))), J, e)) (fun j9 => ?_) ?_
      · refine (zz_go 1 (fr' := (zm_D_blank, d + 4, 36, [some (.ref (194 : Nat)), some (.int x0)], [.int ((v_D_of (zz_up M 194 0 (zb (bif (v_D_isOne M x0) then false else true))) x0 (1 : Int32)) &&& (v_D_marksOf (zz_up M 194 0 (zb (bif (v_D_isOne M x0) then false else true))) x0))])) (h' := (zt_T L, zt_R, (zz_up M 194 0 (zb (bif (v_D_isOne M x0) then false else true))), J, e)) (fun _ => rfl)).trans ?_
        rcases zz_bc (decide (((v_D_of (zz_up M 194 0 (zb (bif (v_D_isOne M x0) then false else true))) x0 (1 : Int32)) &&& (v_D_marksOf (zz_up M 194 0 (zb (bif (v_D_isOne M x0) then false else true))) x0)) = 0)) with h10 | h10
        · refine zo_neT rfl h10 ?_
          refine (zz_go 2 (fr' := (zm_D_blank, d + 4, 44, [some (.ref (194 : Nat)), some (.int x0)], [.int (1 : Int32)])) (h' := (zt_T L, zt_R, (zz_up M 194 0 (zb (bif (v_D_isOne M x0) then false else true))), J, e)) (fun _ => rfl)).trans ?_
          refine zz_weak (L := [none, none]) ⟨Or.inr ⟨rfl, rfl⟩, Or.inr ⟨rfl, rfl⟩, trivial⟩ ?_
          simpa only [h10, zk_t, zk_f, zb_t, zb_f] using j9
        · refine zo_neF rfl h10 ?_
          refine (zz_go 1 (fr' := (zm_D_blank, d + 4, 44, [some (.ref (194 : Nat)), some (.int x0)], [.int (0 : Int32)])) (h' := (zt_T L, zt_R, (zz_up M 194 0 (zb (bif (v_D_isOne M x0) then false else true))), J, e)) (fun _ => rfl)).trans ?_
          refine zz_weak (L := [none, none]) ⟨Or.inr ⟨rfl, rfl⟩, Or.inr ⟨rfl, rfl⟩, trivial⟩ ?_
          simpa only [h10, zk_t, zk_f, zb_t, zb_f] using j9
      simpa only [h4, zk_t, zk_f, zb_t, zb_f] using j3
  refine zl_retZ rfl ?_
  rfl
def g_D_reach_1 (M : zMem) (x0 : Int32) (x1 : Int32) (x2 : Int32) (i1 : Nat) (a1 : Int32 × Bool × Int32) : Bool × (Int32 × Bool × Int32) := ((bif (decide ((16 : Int32) ≤ (Int32.ofNat i1))) then false else (bif (v_D_isOf a1.1 x2) then false else true)), ((bif (decide ((16 : Int32) ≤ (Int32.ofNat i1))) then a1.1 else (bif (v_D_isOf a1.1 x2) then a1.1 else (a1.1 ||| ((v_D_beside a1.1) &&& (v_D_ofKind (zz_up M 194 0 (zb (bif (v_D_isKind x0) then (bif (v_D_isIn x1 (0 : Int32) (15 : Int32)) then (bif (v_D_isIn x2 (0 : Int32) (15 : Int32)) then false else true) else true) else true))) x0 (0 : Int32)))))), (bif (decide ((16 : Int32) ≤ (Int32.ofNat i1))) then false else (v_D_isOf a1.1 x2)), (bif (decide ((16 : Int32) ≤ (Int32.ofNat i1))) then a1.2.2 else (bif (v_D_isOf a1.1 x2) then (Int32.ofNat i1) else a1.2.2))))
def kb_D_reach_1 (M : zMem) (x0 : Int32) (x1 : Int32) (x2 : Int32) (i1 : Nat) (a1 : Int32 × Bool × Int32) : Prop := True
def v_D_reach (M : zMem) (x0 : Int32) (x1 : Int32) (x2 : Int32) : Int32 := (bif (decide ((zb (bif (v_D_isKind x0) then (bif (v_D_isIn x1 (0 : Int32) (15 : Int32)) then (bif (v_D_isIn x2 (0 : Int32) (15 : Int32)) then false else true) else true) else true)) ≤ 0)) then (bif (zf_wh 1000 (g_D_reach_1 M x0 x1 x2) 0 (((zsl (1 : Int32) x1) &&& (v_D_ofKind (zz_up M 194 0 (zb (bif (v_D_isKind x0) then (bif (v_D_isIn x1 (0 : Int32) (15 : Int32)) then (bif (v_D_isIn x2 (0 : Int32) (15 : Int32)) then false else true) else true) else true))) x0 (0 : Int32))), false, 0)).2.1 then (zf_wh 1000 (g_D_reach_1 M x0 x1 x2) 0 (((zsl (1 : Int32) x1) &&& (v_D_ofKind (zz_up M 194 0 (zb (bif (v_D_isKind x0) then (bif (v_D_isIn x1 (0 : Int32) (15 : Int32)) then (bif (v_D_isIn x2 (0 : Int32) (15 : Int32)) then false else true) else true) else true))) x0 (0 : Int32))), false, 0)).2.2 else (-1 : Int32)) else (0 : Int32))
def w_D_reach (M : zMem) (x0 : Int32) (x1 : Int32) (x2 : Int32) : zMem := (zz_up M 194 0 (zb (bif (v_D_isKind x0) then (bif (v_D_isIn x1 (0 : Int32) (15 : Int32)) then (bif (v_D_isIn x2 (0 : Int32) (15 : Int32)) then false else true) else true) else true)))
def ok_D_reach (M : zMem) (x0 : Int32) (x1 : Int32) (x2 : Int32) : Prop := ((decide ((zb (bif (v_D_isKind x0) then (bif (v_D_isIn x1 (0 : Int32) (15 : Int32)) then (bif (v_D_isIn x2 (0 : Int32) (15 : Int32)) then false else true) else true) else true)) ≤ 0)) = true → (ok_D_ofKind (zz_up M 194 0 (zb (bif (v_D_isKind x0) then (bif (v_D_isIn x1 (0 : Int32) (15 : Int32)) then (bif (v_D_isIn x2 (0 : Int32) (15 : Int32)) then false else true) else true) else true))) x0 (0 : Int32) ∧ (zf_wk 1000 (g_D_reach_1 M x0 x1 x2) (kb_D_reach_1 M x0 x1 x2) 0 (((zsl (1 : Int32) x1) &&& (v_D_ofKind (zz_up M 194 0 (zb (bif (v_D_isKind x0) then (bif (v_D_isIn x1 (0 : Int32) (15 : Int32)) then (bif (v_D_isIn x2 (0 : Int32) (15 : Int32)) then false else true) else true) else true))) x0 (0 : Int32))), false, 0))))
set_option maxRecDepth 20000 in
set_option maxHeartbeats 2000000 in
theorem s_D_reach (L e : Nat) (J : zJem) (d : Nat) (M : zMem) (x0 : Int32) (x1 : Int32) (x2 : Int32) (k0 : ok_D_reach M x0 x1 x2) : zz_D (zm_D_reach, d + 3, 0, [some (.ref (194 : Nat)), some (.int x0), some (.int x1), some (.int x2), none, none, none], []) (zt_T L, zt_R, M, J, e) = some (.inl (some (.int (v_D_reach M x0 x1 x2))), (zt_T L, zt_R, (w_D_reach M x0 x1 x2), J, e)) := by
  unfold ok_D_reach at k0
  unfold v_D_reach w_D_reach
  refine (zz_go 2 (fr' := (zm_D_reach, d + 3, 2, [some (.ref (194 : Nat)), some (.int x0), some (.int x1), some (.int x2), none, none, none], [.int x0, .ref (194 : Nat)])) (h' := (zt_T L, zt_R, M, J, e)) (fun _ => rfl)).trans ?_
  refine zl_st (d := d + 2) rfl rfl rfl rfl rfl rfl rfl (s_D_isKind L e J (d + 0) x0) ?_
  show zz_D (zm_D_reach, d + 3, 5, [some (.ref (194 : Nat)), some (.int x0), some (.int x1), some (.int x2), none, none, none], [.int (zb (v_D_isKind x0)), .ref (194 : Nat)]) (zt_T L, zt_R, M, J, e) = _
  refine zz_jn (X := zz_D (zm_D_reach, d + 3, 33, [some (.ref (194 : Nat)), some (.int x0), some (.int x1), some (.int x2), none, none, none], [.int (zb (bif (v_D_isKind x0) then (bif (v_D_isIn x1 (0 : Int32) (15 : Int32)) then (bif (v_D_isIn x2 (0 : Int32) (15 : Int32)) then false else true) else true) else true)), .ref (194 : Nat)]) (zt_T L, zt_R, M, J, e)) (fun j1 => ?_) ?_
  · rcases zz_bc (v_D_isKind x0) with h2 | h2
    · refine zq_eT rfl h2 ?_
      refine (zz_go 3 (fr' := (zm_D_reach, d + 3, 12, [some (.ref (194 : Nat)), some (.int x0), some (.int x1), some (.int x2), none, none, none], [.int (15 : Int32), .int (0 : Int32), .int x1, .ref (194 : Nat)])) (h' := (zt_T L, zt_R, M, J, e)) (fun _ => rfl)).trans ?_
      refine zl_st (d := d + 2) rfl rfl rfl rfl rfl rfl rfl (s_D_isIn L e J (d + 1) x1 (0 : Int32) (15 : Int32)) ?_
      show zz_D (zm_D_reach, d + 3, 15, [some (.ref (194 : Nat)), some (.int x0), some (.int x1), some (.int x2), none, none, none], [.int (zb (v_D_isIn x1 (0 : Int32) (15 : Int32))), .ref (194 : Nat)]) (zt_T L, zt_R, M, J, e) = _
      refine zz_jn (X := zz_D (zm_D_reach, d + 3, 33, [some (.ref (194 : Nat)), some (.int x0), some (.int x1), some (.int x2), none, none, none], [.int (zb (bif (v_D_isIn x1 (0 : Int32) (15 : Int32)) then (bif (v_D_isIn x2 (0 : Int32) (15 : Int32)) then false else true) else true)), .ref (194 : Nat)]) (zt_T L, zt_R, M, J, e)) (fun j3 => ?_) ?_
      · rcases zz_bc (v_D_isIn x1 (0 : Int32) (15 : Int32)) with h4 | h4
        · refine zq_eT rfl h4 ?_
          refine (zz_go 3 (fr' := (zm_D_reach, d + 3, 22, [some (.ref (194 : Nat)), some (.int x0), some (.int x1), some (.int x2), none, none, none], [.int (15 : Int32), .int (0 : Int32), .int x2, .ref (194 : Nat)])) (h' := (zt_T L, zt_R, M, J, e)) (fun _ => rfl)).trans ?_
          refine zl_st (d := d + 2) rfl rfl rfl rfl rfl rfl rfl (s_D_isIn L e J (d + 1) x2 (0 : Int32) (15 : Int32)) ?_
          show zz_D (zm_D_reach, d + 3, 25, [some (.ref (194 : Nat)), some (.int x0), some (.int x1), some (.int x2), none, none, none], [.int (zb (v_D_isIn x2 (0 : Int32) (15 : Int32))), .ref (194 : Nat)]) (zt_T L, zt_R, M, J, e) = _
          refine zz_jn (X := zz_D (zm_D_reach, d + 3, 33, [some (.ref (194 : Nat)), some (.int x0), some (.int x1), some (.int x2), none, none, none], [.int (zb (bif (v_D_isIn x2 (0 : Int32) (15 : Int32)) then false else true)), .ref (194 : Nat)]) (zt_T L, zt_R, M, J, e)) (fun j5 => ?_) ?_
          · rcases zz_bc (v_D_isIn x2 (0 : Int32) (15 : Int32)) with h6 | h6
            · refine zq_fT rfl h6 ?_
              refine (zz_go 1 (fr' := (zm_D_reach, d + 3, 33, [some (.ref (194 : Nat)), some (.int x0), some (.int x1), some (.int x2), none, none, none], [.int (0 : Int32), .ref (194 : Nat)])) (h' := (zt_T L, zt_R, M, J, e)) (fun _ => rfl)).trans ?_
              simpa only [h6, zk_t, zk_f, zb_t, zb_f] using j5
            · refine zq_fF rfl h6 ?_
              refine (zz_go 2 (fr' := (zm_D_reach, d + 3, 33, [some (.ref (194 : Nat)), some (.int x0), some (.int x1), some (.int x2), none, none, none], [.int (1 : Int32), .ref (194 : Nat)])) (h' := (zt_T L, zt_R, M, J, e)) (fun _ => rfl)).trans ?_
              simpa only [h6, zk_t, zk_f, zb_t, zb_f] using j5
          simpa only [h4, zk_t, zk_f, zb_t, zb_f] using j3
        · refine zq_eF rfl h4 ?_
          refine (zz_go 2 (fr' := (zm_D_reach, d + 3, 33, [some (.ref (194 : Nat)), some (.int x0), some (.int x1), some (.int x2), none, none, none], [.int (1 : Int32), .ref (194 : Nat)])) (h' := (zt_T L, zt_R, M, J, e)) (fun _ => rfl)).trans ?_
          simpa only [h4, zk_t, zk_f, zb_t, zb_f] using j3
      simpa only [h2, zk_t, zk_f, zb_t, zb_f] using j1
    · refine zq_eF rfl h2 ?_
      refine (zz_go 2 (fr' := (zm_D_reach, d + 3, 33, [some (.ref (194 : Nat)), some (.int x0), some (.int x1), some (.int x2), none, none, none], [.int (1 : Int32), .ref (194 : Nat)])) (h' := (zt_T L, zt_R, M, J, e)) (fun _ => rfl)).trans ?_
      simpa only [h2, zk_t, zk_f, zb_t, zb_f] using j1
  refine zl_putI rfl rfl rfl rfl ?_
  refine (zz_go 1 (fr' := (zm_D_reach, d + 3, 37, [some (.ref (194 : Nat)), some (.int x0), some (.int x1), some (.int x2), none, none, none], [.ref (194 : Nat)])) (h' := (zt_T L, zt_R, (zz_up M 194 0 (zb (bif (v_D_isKind x0) then (bif (v_D_isIn x1 (0 : Int32) (15 : Int32)) then (bif (v_D_isIn x2 (0 : Int32) (15 : Int32)) then false else true) else true) else true))), J, e)) (fun _ => rfl)).trans ?_
  refine zl_getI rfl (by decide) rfl zu_eq ?_
  rcases zz_bc (decide ((zb (bif (v_D_isKind x0) then (bif (v_D_isIn x1 (0 : Int32) (15 : Int32)) then (bif (v_D_isIn x2 (0 : Int32) (15 : Int32)) then false else true) else true) else true)) ≤ 0)) with h7 | h7
  · refine zo_leT rfl h7 ?_
    have k8 := k0 h7
    refine (zz_go 3 (fr' := (zm_D_reach, d + 3, 48, [some (.ref (194 : Nat)), some (.int x0), some (.int x1), some (.int x2), none, none, none], [.int (0 : Int32), .int x0, .ref (194 : Nat)])) (h' := (zt_T L, zt_R, (zz_up M 194 0 (zb (bif (v_D_isKind x0) then (bif (v_D_isIn x1 (0 : Int32) (15 : Int32)) then (bif (v_D_isIn x2 (0 : Int32) (15 : Int32)) then false else true) else true) else true))), J, e)) (fun _ => rfl)).trans ?_
    obtain ⟨g9, k10⟩ := k8
    refine zl_vt (d := d + 2) rfl rfl rfl rfl rfl rfl rfl rfl rfl rfl (s_D_ofKind L e J (d + 1) (zz_up M 194 0 (zb (bif (v_D_isKind x0) then (bif (v_D_isIn x1 (0 : Int32) (15 : Int32)) then (bif (v_D_isIn x2 (0 : Int32) (15 : Int32)) then false else true) else true) else true))) x0 (0 : Int32) g9) ?_
    show zz_D (zm_D_reach, d + 3, 51, [some (.ref (194 : Nat)), some (.int x0), some (.int x1), some (.int x2), none, none, none], [.int (v_D_ofKind (zz_up M 194 0 (zb (bif (v_D_isKind x0) then (bif (v_D_isIn x1 (0 : Int32) (15 : Int32)) then (bif (v_D_isIn x2 (0 : Int32) (15 : Int32)) then false else true) else true) else true))) x0 (0 : Int32))]) (zt_T L, zt_R, (zz_up M 194 0 (zb (bif (v_D_isKind x0) then (bif (v_D_isIn x1 (0 : Int32) (15 : Int32)) then (bif (v_D_isIn x2 (0 : Int32) (15 : Int32)) then false else true) else true) else true))), J, e) = _
    refine (zz_go 9 (fr' := (zm_D_reach, d + 3, 64, [some (.ref (194 : Nat)), some (.int x0), some (.int x1), some (.int x2), some (.int (v_D_ofKind (zz_up M 194 0 (zb (bif (v_D_isKind x0) then (bif (v_D_isIn x1 (0 : Int32) (15 : Int32)) then (bif (v_D_isIn x2 (0 : Int32) (15 : Int32)) then false else true) else true) else true))) x0 (0 : Int32))), some (.int ((zsl (1 : Int32) x1) &&& (v_D_ofKind (zz_up M 194 0 (zb (bif (v_D_isKind x0) then (bif (v_D_isIn x1 (0 : Int32) (15 : Int32)) then (bif (v_D_isIn x2 (0 : Int32) (15 : Int32)) then false else true) else true) else true))) x0 (0 : Int32)))), some (.int (0 : Int32))], [])) (h' := (zt_T L, zt_R, (zz_up M 194 0 (zb (bif (v_D_isKind x0) then (bif (v_D_isIn x1 (0 : Int32) (15 : Int32)) then (bif (v_D_isIn x2 (0 : Int32) (15 : Int32)) then false else true) else true) else true))), J, e)) (fun _ => rfl)).trans ?_
    refine zz_weak (L := [none, none, none, some (.int x2), some (.int (v_D_ofKind (zz_up M 194 0 (zb (bif (v_D_isKind x0) then (bif (v_D_isIn x1 (0 : Int32) (15 : Int32)) then (bif (v_D_isIn x2 (0 : Int32) (15 : Int32)) then false else true) else true) else true))) x0 (0 : Int32))), some (.int ((zsl (1 : Int32) x1) &&& (v_D_ofKind (zz_up M 194 0 (zb (bif (v_D_isKind x0) then (bif (v_D_isIn x1 (0 : Int32) (15 : Int32)) then (bif (v_D_isIn x2 (0 : Int32) (15 : Int32)) then false else true) else true) else true))) x0 (0 : Int32)))), some (.int (0 : Int32))]) ⟨Or.inr ⟨rfl, rfl⟩, Or.inr ⟨rfl, rfl⟩, Or.inr ⟨rfl, rfl⟩, Or.inl rfl, Or.inl rfl, Or.inl rfl, Or.inl rfl, trivial⟩ ?_
    refine zf_whY (X := fun (i1 : Nat) (a1 : Int32 × Bool × Int32) => zz_D (zm_D_reach, d + 3, 64, [none, none, none, some (.int x2), some (.int (v_D_ofKind (zz_up M 194 0 (zb (bif (v_D_isKind x0) then (bif (v_D_isIn x1 (0 : Int32) (15 : Int32)) then (bif (v_D_isIn x2 (0 : Int32) (15 : Int32)) then false else true) else true) else true))) x0 (0 : Int32))), some (.int a1.1), some (.int (Int32.ofNat i1))], []) (zt_T L, zt_R, (zz_up M 194 0 (zb (bif (v_D_isKind x0) then (bif (v_D_isIn x1 (0 : Int32) (15 : Int32)) then (bif (v_D_isIn x2 (0 : Int32) (15 : Int32)) then false else true) else true) else true))), J, e)) (Y := fun (a1 : Int32 × Bool × Int32) => (bif a1.2.1 then some (.inl (some (.int a1.2.2)), (zt_T L, zt_R, (zz_up M 194 0 (zb (bif (v_D_isKind x0) then (bif (v_D_isIn x1 (0 : Int32) (15 : Int32)) then (bif (v_D_isIn x2 (0 : Int32) (15 : Int32)) then false else true) else true) else true))), J, e)) else zz_D (zm_D_reach, d + 3, 102, [none, none, none, none, none, none, none], []) (zt_T L, zt_R, (zz_up M 194 0 (zb (bif (v_D_isKind x0) then (bif (v_D_isIn x1 (0 : Int32) (15 : Int32)) then (bif (v_D_isIn x2 (0 : Int32) (15 : Int32)) then false else true) else true) else true))), J, e))) (g := (g_D_reach_1 M x0 x1 x2)) (k := (kb_D_reach_1 M x0 x1 x2)) (fun i1 a1 k13 hx11 hx12 => ?_) 1000 0 (((zsl (1 : Int32) x1) &&& (v_D_ofKind (zz_up M 194 0 (zb (bif (v_D_isKind x0) then (bif (v_D_isIn x1 (0 : Int32) (15 : Int32)) then (bif (v_D_isIn x2 (0 : Int32) (15 : Int32)) then false else true) else true) else true))) x0 (0 : Int32))), false, 0) k10 ?_
    · show zz_D (zm_D_reach, d + 3, 64, [none, none, none, some (.int x2), some (.int (v_D_ofKind (zz_up M 194 0 (zb (bif (v_D_isKind x0) then (bif (v_D_isIn x1 (0 : Int32) (15 : Int32)) then (bif (v_D_isIn x2 (0 : Int32) (15 : Int32)) then false else true) else true) else true))) x0 (0 : Int32))), some (.int a1.1), some (.int (Int32.ofNat i1))], []) (zt_T L, zt_R, (zz_up M 194 0 (zb (bif (v_D_isKind x0) then (bif (v_D_isIn x1 (0 : Int32) (15 : Int32)) then (bif (v_D_isIn x2 (0 : Int32) (15 : Int32)) then false else true) else true) else true))), J, e) = _
      unfold kb_D_reach_1 at k13
      refine (zz_go 2 (fr' := (zm_D_reach, d + 3, 68, [none, none, none, some (.int x2), some (.int (v_D_ofKind (zz_up M 194 0 (zb (bif (v_D_isKind x0) then (bif (v_D_isIn x1 (0 : Int32) (15 : Int32)) then (bif (v_D_isIn x2 (0 : Int32) (15 : Int32)) then false else true) else true) else true))) x0 (0 : Int32))), some (.int a1.1), some (.int (Int32.ofNat i1))], [.int (16 : Int32), .int (Int32.ofNat i1)])) (h' := (zt_T L, zt_R, (zz_up M 194 0 (zb (bif (v_D_isKind x0) then (bif (v_D_isIn x1 (0 : Int32) (15 : Int32)) then (bif (v_D_isIn x2 (0 : Int32) (15 : Int32)) then false else true) else true) else true))), J, e)) (fun _ => rfl)).trans ?_
      rcases zz_bc (decide ((16 : Int32) ≤ (Int32.ofNat i1))) with h14 | h14
      · refine zc_geT rfl h14 ?_
        refine zz_weak (L := [none, none, none, none, none, none, none]) ⟨Or.inl rfl, Or.inl rfl, Or.inl rfl, Or.inr ⟨rfl, rfl⟩, Or.inr ⟨rfl, rfl⟩, Or.inr ⟨rfl, rfl⟩, Or.inr ⟨rfl, rfl⟩, trivial⟩ ?_
        have y1 := hx12 (by simp only [g_D_reach_1, h14, zk_t, zk_f, zb_t, zb_f])
        simpa only [g_D_reach_1, h14, zk_t, zk_f, zb_t, zb_f] using y1
      · refine zc_geF rfl h14 ?_
        refine (zz_go 2 (fr' := (zm_D_reach, d + 3, 74, [none, none, none, some (.int x2), some (.int (v_D_ofKind (zz_up M 194 0 (zb (bif (v_D_isKind x0) then (bif (v_D_isIn x1 (0 : Int32) (15 : Int32)) then (bif (v_D_isIn x2 (0 : Int32) (15 : Int32)) then false else true) else true) else true))) x0 (0 : Int32))), some (.int a1.1), some (.int (Int32.ofNat i1))], [.int x2, .int a1.1])) (h' := (zt_T L, zt_R, (zz_up M 194 0 (zb (bif (v_D_isKind x0) then (bif (v_D_isIn x1 (0 : Int32) (15 : Int32)) then (bif (v_D_isIn x2 (0 : Int32) (15 : Int32)) then false else true) else true) else true))), J, e)) (fun _ => rfl)).trans ?_
        refine zl_st (d := d + 2) rfl rfl rfl rfl rfl rfl rfl (s_D_isOf L e J (d + 1) a1.1 x2) ?_
        show zz_D (zm_D_reach, d + 3, 77, [none, none, none, some (.int x2), some (.int (v_D_ofKind (zz_up M 194 0 (zb (bif (v_D_isKind x0) then (bif (v_D_isIn x1 (0 : Int32) (15 : Int32)) then (bif (v_D_isIn x2 (0 : Int32) (15 : Int32)) then false else true) else true) else true))) x0 (0 : Int32))), some (.int a1.1), some (.int (Int32.ofNat i1))], [.int (zb (v_D_isOf a1.1 x2))]) (zt_T L, zt_R, (zz_up M 194 0 (zb (bif (v_D_isKind x0) then (bif (v_D_isIn x1 (0 : Int32) (15 : Int32)) then (bif (v_D_isIn x2 (0 : Int32) (15 : Int32)) then false else true) else true) else true))), J, e) = _
        rcases zz_bc (v_D_isOf a1.1 x2) with h15 | h15
        · refine zq_eT rfl h15 ?_
          refine (zz_go 1 (fr' := (zm_D_reach, d + 3, 82, [none, none, none, some (.int x2), some (.int (v_D_ofKind (zz_up M 194 0 (zb (bif (v_D_isKind x0) then (bif (v_D_isIn x1 (0 : Int32) (15 : Int32)) then (bif (v_D_isIn x2 (0 : Int32) (15 : Int32)) then false else true) else true) else true))) x0 (0 : Int32))), some (.int a1.1), some (.int (Int32.ofNat i1))], [.int (Int32.ofNat i1)])) (h' := (zt_T L, zt_R, (zz_up M 194 0 (zb (bif (v_D_isKind x0) then (bif (v_D_isIn x1 (0 : Int32) (15 : Int32)) then (bif (v_D_isIn x2 (0 : Int32) (15 : Int32)) then false else true) else true) else true))), J, e)) (fun _ => rfl)).trans ?_
          refine zl_retI rfl rfl ?_
          have y1 := hx12 (by simp only [g_D_reach_1, h14, h15, zk_t, zk_f, zb_t, zb_f])
          simpa only [g_D_reach_1, h14, h15, zk_t, zk_f, zb_t, zb_f] using y1
        · refine zq_eF rfl h15 ?_
          refine (zz_go 2 (fr' := (zm_D_reach, d + 3, 87, [none, none, none, some (.int x2), some (.int (v_D_ofKind (zz_up M 194 0 (zb (bif (v_D_isKind x0) then (bif (v_D_isIn x1 (0 : Int32) (15 : Int32)) then (bif (v_D_isIn x2 (0 : Int32) (15 : Int32)) then false else true) else true) else true))) x0 (0 : Int32))), some (.int a1.1), some (.int (Int32.ofNat i1))], [.int a1.1, .int a1.1])) (h' := (zt_T L, zt_R, (zz_up M 194 0 (zb (bif (v_D_isKind x0) then (bif (v_D_isIn x1 (0 : Int32) (15 : Int32)) then (bif (v_D_isIn x2 (0 : Int32) (15 : Int32)) then false else true) else true) else true))), J, e)) (fun _ => rfl)).trans ?_
          refine zl_st (d := d + 2) rfl rfl rfl rfl rfl rfl rfl (s_D_beside L e J (d + 0) a1.1) ?_
          show zz_D (zm_D_reach, d + 3, 90, [none, none, none, some (.int x2), some (.int (v_D_ofKind (zz_up M 194 0 (zb (bif (v_D_isKind x0) then (bif (v_D_isIn x1 (0 : Int32) (15 : Int32)) then (bif (v_D_isIn x2 (0 : Int32) (15 : Int32)) then false else true) else true) else true))) x0 (0 : Int32))), some (.int a1.1), some (.int (Int32.ofNat i1))], [.int (v_D_beside a1.1), .int a1.1]) (zt_T L, zt_R, (zz_up M 194 0 (zb (bif (v_D_isKind x0) then (bif (v_D_isIn x1 (0 : Int32) (15 : Int32)) then (bif (v_D_isIn x2 (0 : Int32) (15 : Int32)) then false else true) else true) else true))), J, e) = _
          refine (zz_go 6 (fr' := (zm_D_reach, d + 3, 64, [none, none, none, some (.int x2), some (.int (v_D_ofKind (zz_up M 194 0 (zb (bif (v_D_isKind x0) then (bif (v_D_isIn x1 (0 : Int32) (15 : Int32)) then (bif (v_D_isIn x2 (0 : Int32) (15 : Int32)) then false else true) else true) else true))) x0 (0 : Int32))), some (.int (a1.1 ||| ((v_D_beside a1.1) &&& (v_D_ofKind (zz_up M 194 0 (zb (bif (v_D_isKind x0) then (bif (v_D_isIn x1 (0 : Int32) (15 : Int32)) then (bif (v_D_isIn x2 (0 : Int32) (15 : Int32)) then false else true) else true) else true))) x0 (0 : Int32))))), some (.int (Int32.ofNat i1 + 1))], [])) (h' := (zt_T L, zt_R, (zz_up M 194 0 (zb (bif (v_D_isKind x0) then (bif (v_D_isIn x1 (0 : Int32) (15 : Int32)) then (bif (v_D_isIn x2 (0 : Int32) (15 : Int32)) then false else true) else true) else true))), J, e)) (fun _ => rfl)).trans ?_
          rw [zi_succ i1]
          have y1 := hx11 (by simp only [g_D_reach_1, h14, h15, zk_t, zk_f, zb_t, zb_f])
          simpa only [g_D_reach_1, h14, h15, zk_t, zk_f, zb_t, zb_f] using y1
    show (bif (zf_wh 1000 (g_D_reach_1 M x0 x1 x2) 0 (((zsl (1 : Int32) x1) &&& (v_D_ofKind (zz_up M 194 0 (zb (bif (v_D_isKind x0) then (bif (v_D_isIn x1 (0 : Int32) (15 : Int32)) then (bif (v_D_isIn x2 (0 : Int32) (15 : Int32)) then false else true) else true) else true))) x0 (0 : Int32))), false, 0)).2.1 then some (.inl (some (.int (zf_wh 1000 (g_D_reach_1 M x0 x1 x2) 0 (((zsl (1 : Int32) x1) &&& (v_D_ofKind (zz_up M 194 0 (zb (bif (v_D_isKind x0) then (bif (v_D_isIn x1 (0 : Int32) (15 : Int32)) then (bif (v_D_isIn x2 (0 : Int32) (15 : Int32)) then false else true) else true) else true))) x0 (0 : Int32))), false, 0)).2.2)), (zt_T L, zt_R, (zz_up M 194 0 (zb (bif (v_D_isKind x0) then (bif (v_D_isIn x1 (0 : Int32) (15 : Int32)) then (bif (v_D_isIn x2 (0 : Int32) (15 : Int32)) then false else true) else true) else true))), J, e)) else zz_D (zm_D_reach, d + 3, 102, [none, none, none, none, none, none, none], []) (zt_T L, zt_R, (zz_up M 194 0 (zb (bif (v_D_isKind x0) then (bif (v_D_isIn x1 (0 : Int32) (15 : Int32)) then (bif (v_D_isIn x2 (0 : Int32) (15 : Int32)) then false else true) else true) else true))), J, e)) = _
    refine zz_ec (fun h16 => ?_) (fun h16 => ?_)
    · skip
      first | (simp only [h7, h16, zk_t, zk_f, zb_t, zb_f]; done) | (simp only [h7, h16, zk_t, zk_f, zb_t, zb_f]; rfl) | rfl
    refine (zz_go 1 (fr' := (zm_D_reach, d + 3, 103, [none, none, none, none, none, none, none], [.int (-1 : Int32)])) (h' := (zt_T L, zt_R, (zz_up M 194 0 (zb (bif (v_D_isKind x0) then (bif (v_D_isIn x1 (0 : Int32) (15 : Int32)) then (bif (v_D_isIn x2 (0 : Int32) (15 : Int32)) then false else true) else true) else true))), J, e)) (fun _ => rfl)).trans ?_
    refine zl_retI rfl rfl ?_
    first | (simp only [h7, h16, zk_t, zk_f, zb_t, zb_f]; done) | (simp only [h7, h16, zk_t, zk_f, zb_t, zb_f]; rfl) | rfl
  · refine zo_leF rfl h7 ?_
    refine (zz_go 1 (fr' := (zm_D_reach, d + 3, 44, [some (.ref (194 : Nat)), some (.int x0), some (.int x1), some (.int x2), none, none, none], [.int (0 : Int32)])) (h' := (zt_T L, zt_R, (zz_up M 194 0 (zb (bif (v_D_isKind x0) then (bif (v_D_isIn x1 (0 : Int32) (15 : Int32)) then (bif (v_D_isIn x2 (0 : Int32) (15 : Int32)) then false else true) else true) else true))), J, e)) (fun _ => rfl)).trans ?_
    refine zl_retI rfl rfl ?_
    first | (simp only [h7, zk_t, zk_f, zb_t, zb_f]; done) | (simp only [h7, zk_t, zk_f, zb_t, zb_f]; rfl) | rfl
def f_D_turns_1 (x0 : Int32) (i1 : Nat) (a1 : Int32) : Int32 := (a1 ||| (bif (v_D_isOf x0 (Int32.ofNat i1)) then (zsl (1 : Int32) ((((4 : Int32) * (zrm (Int32.ofNat i1) (4 : Int32))) + (3 : Int32)) - ((Int32.ofNat i1) / (4 : Int32)))) else (0 : Int32)))
def v_D_turns (x0 : Int32) : Int32 := (zf_for 16 (f_D_turns_1 x0) (0 : Int32))
set_option maxRecDepth 20000 in
set_option maxHeartbeats 2000000 in
theorem s_D_turns (L e : Nat) (J : zJem) (d : Nat) {M : zMem} (x0 : Int32) : zz_D (zm_D_turns, d + 2, 0, [some (.int x0), none, none], []) (zt_T L, zt_R, M, J, e) = some (.inl (some (.int (v_D_turns x0))), (zt_T L, zt_R, M, J, e)) := by
  unfold v_D_turns
  refine (zz_go 4 (fr' := (zm_D_turns, d + 2, 4, [some (.int x0), some (.int (0 : Int32)), some (.int (0 : Int32))], [])) (h' := (zt_T L, zt_R, M, J, e)) (fun _ => rfl)).trans ?_
  refine zf_forD (X := fun (i1 : Nat) (a1 : Int32) => zz_D (zm_D_turns, d + 2, 4, [some (.int x0), some (.int a1), some (.int (Int32.ofNat i1))], []) (zt_T L, zt_R, M, J, e)) (f := (f_D_turns_1 x0)) (a := (0 : Int32)) 16 (fun i1 hi1 => ?_) ?_
  · intro hx1
    generalize zf_for i1 (f_D_turns_1 x0) (0 : Int32) = a1 at hx1 ⊢
    show zz_D (zm_D_turns, d + 2, 4, [some (.int x0), some (.int a1), some (.int (Int32.ofNat i1))], []) (zt_T L, zt_R, M, J, e) = _
    refine (zz_go 2 (fr' := (zm_D_turns, d + 2, 7, [some (.int x0), some (.int a1), some (.int (Int32.ofNat i1))], [.int (16 : Int32), .int (Int32.ofNat i1)])) (h' := (zt_T L, zt_R, M, J, e)) (fun _ => rfl)).trans ?_
    refine zc_geF rfl (zi_ltc (n := 16) (by omega) (by decide)) ?_
    refine (zz_go 3 (fr' := (zm_D_turns, d + 2, 13, [some (.int x0), some (.int a1), some (.int (Int32.ofNat i1))], [.int (Int32.ofNat i1), .int x0, .int a1])) (h' := (zt_T L, zt_R, M, J, e)) (fun _ => rfl)).trans ?_
    refine zl_st (d := d + 1) rfl rfl rfl rfl rfl rfl rfl (s_D_isOf L e J (d + 0) x0 (Int32.ofNat i1)) ?_
    show zz_D (zm_D_turns, d + 2, 16, [some (.int x0), some (.int a1), some (.int (Int32.ofNat i1))], [.int (zb (v_D_isOf x0 (Int32.ofNat i1))), .int a1]) (zt_T L, zt_R, M, J, e) = _
    refine zz_jn (X := zz_D (zm_D_turns, d + 2, 36, [some (.int x0), none, some (.int (Int32.ofNat i1))], [.int (bif (v_D_isOf x0 (Int32.ofNat i1)) then (zsl (1 : Int32) ((((4 : Int32) * (zrm (Int32.ofNat i1) (4 : Int32))) + (3 : Int32)) - ((Int32.ofNat i1) / (4 : Int32)))) else (0 : Int32)), .int a1]) (zt_T L, zt_R, M, J, e)) (fun j3 => ?_) ?_
    · rcases zz_bc (v_D_isOf x0 (Int32.ofNat i1)) with h4 | h4
      · refine zq_eT rfl h4 ?_
        refine (zz_go 4 (fr' := (zm_D_turns, d + 2, 23, [some (.int x0), some (.int a1), some (.int (Int32.ofNat i1))], [.int (4 : Int32), .int (Int32.ofNat i1), .int (4 : Int32), .int (1 : Int32), .int a1])) (h' := (zt_T L, zt_R, M, J, e)) (fun _ => rfl)).trans ?_
        refine zl_rem rfl (by decide) ?_
        refine (zz_go 5 (fr' := (zm_D_turns, d + 2, 29, [some (.int x0), some (.int a1), some (.int (Int32.ofNat i1))], [.int (4 : Int32), .int (Int32.ofNat i1), .int (((4 : Int32) * (zrm (Int32.ofNat i1) (4 : Int32))) + (3 : Int32)), .int (1 : Int32), .int a1])) (h' := (zt_T L, zt_R, M, J, e)) (fun _ => rfl)).trans ?_
        refine zl_div rfl (by decide) ?_
        refine (zz_go 3 (fr' := (zm_D_turns, d + 2, 36, [some (.int x0), some (.int a1), some (.int (Int32.ofNat i1))], [.int (zsl (1 : Int32) ((((4 : Int32) * (zrm (Int32.ofNat i1) (4 : Int32))) + (3 : Int32)) - ((Int32.ofNat i1) / (4 : Int32)))), .int a1])) (h' := (zt_T L, zt_R, M, J, e)) (fun _ => rfl)).trans ?_
        refine zz_weak (L := [some (.int x0), none, some (.int (Int32.ofNat i1))]) ⟨Or.inl rfl, Or.inr ⟨rfl, rfl⟩, Or.inl rfl, trivial⟩ ?_
        simpa only [h4, zk_t, zk_f, zb_t, zb_f] using j3
      · refine zq_eF rfl h4 ?_
        refine (zz_go 1 (fr' := (zm_D_turns, d + 2, 36, [some (.int x0), some (.int a1), some (.int (Int32.ofNat i1))], [.int (0 : Int32), .int a1])) (h' := (zt_T L, zt_R, M, J, e)) (fun _ => rfl)).trans ?_
        refine zz_weak (L := [some (.int x0), none, some (.int (Int32.ofNat i1))]) ⟨Or.inl rfl, Or.inr ⟨rfl, rfl⟩, Or.inl rfl, trivial⟩ ?_
        simpa only [h4, zk_t, zk_f, zb_t, zb_f] using j3
    refine (zz_go 4 (fr' := (zm_D_turns, d + 2, 4, [some (.int x0), some (.int (a1 ||| (bif (v_D_isOf x0 (Int32.ofNat i1)) then (zsl (1 : Int32) ((((4 : Int32) * (zrm (Int32.ofNat i1) (4 : Int32))) + (3 : Int32)) - ((Int32.ofNat i1) / (4 : Int32)))) else (0 : Int32)))), some (.int (Int32.ofNat i1 + 1))], [])) (h' := (zt_T L, zt_R, M, J, e)) (fun _ => rfl)).trans ?_
    rw [zi_succ i1]
    simpa only [f_D_turns_1] using hx1
  show zz_D (zm_D_turns, d + 2, 4, [some (.int x0), some (.int (zf_for 16 (f_D_turns_1 x0) (0 : Int32))), some (.int (Int32.ofNat 16))], []) (zt_T L, zt_R, M, J, e) = _
  refine (zz_go 2 (fr' := (zm_D_turns, d + 2, 7, [some (.int x0), some (.int (zf_for 16 (f_D_turns_1 x0) (0 : Int32))), some (.int (Int32.ofNat 16))], [.int (16 : Int32), .int (Int32.ofNat 16)])) (h' := (zt_T L, zt_R, M, J, e)) (fun _ => rfl)).trans ?_
  refine zc_geT rfl (by decide) ?_
  refine zz_weak (L := [none, some (.int (zf_for 16 (f_D_turns_1 x0) (0 : Int32))), none]) ⟨Or.inr ⟨rfl, rfl⟩, Or.inl rfl, Or.inr ⟨rfl, rfl⟩, trivial⟩ ?_
  refine (zz_go 1 (fr' := (zm_D_turns, d + 2, 45, [none, some (.int (zf_for 16 (f_D_turns_1 x0) (0 : Int32))), none], [.int (zf_for 16 (f_D_turns_1 x0) (0 : Int32))])) (h' := (zt_T L, zt_R, M, J, e)) (fun _ => rfl)).trans ?_
  refine zl_retI rfl rfl ?_
  rfl
def w_D_areKinds (M : zMem) (x0 : Int32) (x1 : Int32) : zMem := (zz_up M 194 0 (zb (bif (v_D_isKind x0) then (bif (v_D_isKind x1) then false else true) else true)))
set_option maxRecDepth 20000 in
set_option maxHeartbeats 2000000 in
theorem s_D_areKinds (L e : Nat) (J : zJem) (d : Nat) (M : zMem) (x0 : Int32) (x1 : Int32) : zz_D (zm_D_areKinds, d + 3, 0, [some (.ref (194 : Nat)), some (.int x0), some (.int x1)], []) (zt_T L, zt_R, M, J, e) = some (.inl (none), (zt_T L, zt_R, (w_D_areKinds M x0 x1), J, e)) := by
  unfold w_D_areKinds
  refine (zz_go 2 (fr' := (zm_D_areKinds, d + 3, 2, [some (.ref (194 : Nat)), some (.int x0), some (.int x1)], [.int x0, .ref (194 : Nat)])) (h' := (zt_T L, zt_R, M, J, e)) (fun _ => rfl)).trans ?_
  refine zl_st (d := d + 2) rfl rfl rfl rfl rfl rfl rfl (s_D_isKind L e J (d + 0) x0) ?_
  show zz_D (zm_D_areKinds, d + 3, 5, [some (.ref (194 : Nat)), some (.int x0), some (.int x1)], [.int (zb (v_D_isKind x0)), .ref (194 : Nat)]) (zt_T L, zt_R, M, J, e) = _
  refine zz_jn (X := zz_D (zm_D_areKinds, d + 3, 20, [none, none, none], [.int (zb (bif (v_D_isKind x0) then (bif (v_D_isKind x1) then false else true) else true)), .ref (194 : Nat)]) (zt_T L, zt_R, M, J, e)) (fun j1 => ?_) ?_
  · rcases zz_bc (v_D_isKind x0) with h2 | h2
    · refine zq_eT rfl h2 ?_
      refine (zz_go 1 (fr' := (zm_D_areKinds, d + 3, 9, [some (.ref (194 : Nat)), some (.int x0), some (.int x1)], [.int x1, .ref (194 : Nat)])) (h' := (zt_T L, zt_R, M, J, e)) (fun _ => rfl)).trans ?_
      refine zl_st (d := d + 2) rfl rfl rfl rfl rfl rfl rfl (s_D_isKind L e J (d + 0) x1) ?_
      show zz_D (zm_D_areKinds, d + 3, 12, [some (.ref (194 : Nat)), some (.int x0), some (.int x1)], [.int (zb (v_D_isKind x1)), .ref (194 : Nat)]) (zt_T L, zt_R, M, J, e) = _
      refine zz_jn (X := zz_D (zm_D_areKinds, d + 3, 20, [none, none, none], [.int (zb (bif (v_D_isKind x1) then false else true)), .ref (194 : Nat)]) (zt_T L, zt_R, M, J, e)) (fun j3 => ?_) ?_
      · rcases zz_bc (v_D_isKind x1) with h4 | h4
        · refine zq_fT rfl h4 ?_
          refine (zz_go 1 (fr' := (zm_D_areKinds, d + 3, 20, [some (.ref (194 : Nat)), some (.int x0), some (.int x1)], [.int (0 : Int32), .ref (194 : Nat)])) (h' := (zt_T L, zt_R, M, J, e)) (fun _ => rfl)).trans ?_
          refine zz_weak (L := [none, none, none]) ⟨Or.inr ⟨rfl, rfl⟩, Or.inr ⟨rfl, rfl⟩, Or.inr ⟨rfl, rfl⟩, trivial⟩ ?_
          simpa only [h4, zk_t, zk_f, zb_t, zb_f] using j3
        · refine zq_fF rfl h4 ?_
          refine (zz_go 2 (fr' := (zm_D_areKinds, d + 3, 20, [some (.ref (194 : Nat)), some (.int x0), some (.int x1)], [.int (1 : Int32), .ref (194 : Nat)])) (h' := (zt_T L, zt_R, M, J, e)) (fun _ => rfl)).trans ?_
          refine zz_weak (L := [none, none, none]) ⟨Or.inr ⟨rfl, rfl⟩, Or.inr ⟨rfl, rfl⟩, Or.inr ⟨rfl, rfl⟩, trivial⟩ ?_
          simpa only [h4, zk_t, zk_f, zb_t, zb_f] using j3
      simpa only [h2, zk_t, zk_f, zb_t, zb_f] using j1
    · refine zq_eF rfl h2 ?_
      refine (zz_go 2 (fr' := (zm_D_areKinds, d + 3, 20, [some (.ref (194 : Nat)), some (.int x0), some (.int x1)], [.int (1 : Int32), .ref (194 : Nat)])) (h' := (zt_T L, zt_R, M, J, e)) (fun _ => rfl)).trans ?_
      refine zz_weak (L := [none, none, none]) ⟨Or.inr ⟨rfl, rfl⟩, Or.inr ⟨rfl, rfl⟩, Or.inr ⟨rfl, rfl⟩, trivial⟩ ?_
      simpa only [h2, zk_t, zk_f, zb_t, zb_f] using j1
  refine zl_putI rfl rfl rfl rfl ?_
  refine (zz_end 1 (r := (.inl none, (zt_T L, zt_R, (zz_up M 194 0 (zb (bif (v_D_isKind x0) then (bif (v_D_isKind x1) then false else true) else true))), J, e))) (fun _ => rfl)).trans ?_
  rfl
def g_D_turned_1 (M : zMem) (x0 : Int32) (x1 : Int32) (i1 : Nat) (a1 : Int32 × Bool × Int32) : Bool × (Int32 × Bool × Int32) := ((bif (decide ((4 : Int32) ≤ (Int32.ofNat i1))) then false else (bif (decide (a1.1 = (v_D_ofKind (w_D_areKinds M x0 x1) x1 (0 : Int32)))) then false else true)), ((bif (decide ((4 : Int32) ≤ (Int32.ofNat i1))) then a1.1 else (bif (decide (a1.1 = (v_D_ofKind (w_D_areKinds M x0 x1) x1 (0 : Int32)))) then a1.1 else (v_D_turns a1.1))), (bif (decide ((4 : Int32) ≤ (Int32.ofNat i1))) then false else (decide (a1.1 = (v_D_ofKind (w_D_areKinds M x0 x1) x1 (0 : Int32))))), (bif (decide ((4 : Int32) ≤ (Int32.ofNat i1))) then a1.2.2 else (bif (decide (a1.1 = (v_D_ofKind (w_D_areKinds M x0 x1) x1 (0 : Int32)))) then (Int32.ofNat i1) else a1.2.2))))
def kb_D_turned_1 (M : zMem) (x0 : Int32) (x1 : Int32) (i1 : Nat) (a1 : Int32 × Bool × Int32) : Prop := ((decide ((4 : Int32) ≤ (Int32.ofNat i1))) = false → ok_D_ofKind (w_D_areKinds M x0 x1) x1 (0 : Int32))
def v_D_turned (M : zMem) (x0 : Int32) (x1 : Int32) : Int32 := (bif (decide (((w_D_areKinds M x0 x1) 194 0) ≤ 0)) then (bif (zf_wh 1000 (g_D_turned_1 M x0 x1) 0 ((v_D_ofKind (w_D_areKinds M x0 x1) x0 (0 : Int32)), false, 0)).2.1 then (zf_wh 1000 (g_D_turned_1 M x0 x1) 0 ((v_D_ofKind (w_D_areKinds M x0 x1) x0 (0 : Int32)), false, 0)).2.2 else (-1 : Int32)) else (0 : Int32))
def w_D_turned (M : zMem) (x0 : Int32) (x1 : Int32) : zMem := (w_D_areKinds M x0 x1)
def ok_D_turned (M : zMem) (x0 : Int32) (x1 : Int32) : Prop := ((decide (((w_D_areKinds M x0 x1) 194 0) ≤ 0)) = true → (ok_D_ofKind (w_D_areKinds M x0 x1) x0 (0 : Int32) ∧ (zf_wk 1000 (g_D_turned_1 M x0 x1) (kb_D_turned_1 M x0 x1) 0 ((v_D_ofKind (w_D_areKinds M x0 x1) x0 (0 : Int32)), false, 0))))
set_option maxRecDepth 20000 in
set_option maxHeartbeats 2000000 in
theorem s_D_turned (L e : Nat) (J : zJem) (d : Nat) (M : zMem) (x0 : Int32) (x1 : Int32) (k0 : ok_D_turned M x0 x1) : zz_D (zm_D_turned, d + 4, 0, [some (.ref (194 : Nat)), some (.int x0), some (.int x1), none, none], []) (zt_T L, zt_R, M, J, e) = some (.inl (some (.int (v_D_turned M x0 x1))), (zt_T L, zt_R, (w_D_turned M x0 x1), J, e)) := by
  unfold ok_D_turned at k0
  unfold v_D_turned w_D_turned
  refine (zz_go 3 (fr' := (zm_D_turned, d + 4, 3, [some (.ref (194 : Nat)), some (.int x0), some (.int x1), none, none], [.int x1, .int x0, .ref (194 : Nat)])) (h' := (zt_T L, zt_R, M, J, e)) (fun _ => rfl)).trans ?_
  refine zl_vt (d := d + 3) rfl rfl rfl rfl rfl rfl rfl rfl rfl rfl (s_D_areKinds L e J (d + 0) M x0 x1) ?_
  show zz_D (zm_D_turned, d + 4, 6, [some (.ref (194 : Nat)), some (.int x0), some (.int x1), none, none], []) (zt_T L, zt_R, (w_D_areKinds M x0 x1), J, e) = _
  refine (zz_go 1 (fr' := (zm_D_turned, d + 4, 7, [some (.ref (194 : Nat)), some (.int x0), some (.int x1), none, none], [.ref (194 : Nat)])) (h' := (zt_T L, zt_R, (w_D_areKinds M x0 x1), J, e)) (fun _ => rfl)).trans ?_
  refine zl_getI rfl (by decide) rfl rfl ?_
  rcases zz_bc (decide (((w_D_areKinds M x0 x1) 194 0) ≤ 0)) with h1 | h1
  · refine zo_leT rfl h1 ?_
    have k2 := k0 h1
    refine (zz_go 3 (fr' := (zm_D_turned, d + 4, 18, [some (.ref (194 : Nat)), some (.int x0), some (.int x1), none, none], [.int (0 : Int32), .int x0, .ref (194 : Nat)])) (h' := (zt_T L, zt_R, (w_D_areKinds M x0 x1), J, e)) (fun _ => rfl)).trans ?_
    obtain ⟨g3, k4⟩ := k2
    refine zl_vt (d := d + 3) rfl rfl rfl rfl rfl rfl rfl rfl rfl rfl (s_D_ofKind L e J (d + 2) (w_D_areKinds M x0 x1) x0 (0 : Int32) g3) ?_
    show zz_D (zm_D_turned, d + 4, 21, [some (.ref (194 : Nat)), some (.int x0), some (.int x1), none, none], [.int (v_D_ofKind (w_D_areKinds M x0 x1) x0 (0 : Int32))]) (zt_T L, zt_R, (w_D_areKinds M x0 x1), J, e) = _
    refine (zz_go 3 (fr' := (zm_D_turned, d + 4, 25, [some (.ref (194 : Nat)), some (.int x0), some (.int x1), some (.int (v_D_ofKind (w_D_areKinds M x0 x1) x0 (0 : Int32))), some (.int (0 : Int32))], [])) (h' := (zt_T L, zt_R, (w_D_areKinds M x0 x1), J, e)) (fun _ => rfl)).trans ?_
    refine zz_weak (L := [some (.ref (194 : Nat)), none, some (.int x1), some (.int (v_D_ofKind (w_D_areKinds M x0 x1) x0 (0 : Int32))), some (.int (0 : Int32))]) ⟨Or.inl rfl, Or.inr ⟨rfl, rfl⟩, Or.inl rfl, Or.inl rfl, Or.inl rfl, trivial⟩ ?_
    refine zf_whY (X := fun (i1 : Nat) (a1 : Int32 × Bool × Int32) => zz_D (zm_D_turned, d + 4, 25, [some (.ref (194 : Nat)), none, some (.int x1), some (.int a1.1), some (.int (Int32.ofNat i1))], []) (zt_T L, zt_R, (w_D_areKinds M x0 x1), J, e)) (Y := fun (a1 : Int32 × Bool × Int32) => (bif a1.2.1 then some (.inl (some (.int a1.2.2)), (zt_T L, zt_R, (w_D_areKinds M x0 x1), J, e)) else zz_D (zm_D_turned, d + 4, 55, [none, none, none, none, none], []) (zt_T L, zt_R, (w_D_areKinds M x0 x1), J, e))) (g := (g_D_turned_1 M x0 x1)) (k := (kb_D_turned_1 M x0 x1)) (fun i1 a1 k7 hx5 hx6 => ?_) 1000 0 ((v_D_ofKind (w_D_areKinds M x0 x1) x0 (0 : Int32)), false, 0) k4 ?_
    · show zz_D (zm_D_turned, d + 4, 25, [some (.ref (194 : Nat)), none, some (.int x1), some (.int a1.1), some (.int (Int32.ofNat i1))], []) (zt_T L, zt_R, (w_D_areKinds M x0 x1), J, e) = _
      unfold kb_D_turned_1 at k7
      refine (zz_go 2 (fr' := (zm_D_turned, d + 4, 28, [some (.ref (194 : Nat)), none, some (.int x1), some (.int a1.1), some (.int (Int32.ofNat i1))], [.int (4 : Int32), .int (Int32.ofNat i1)])) (h' := (zt_T L, zt_R, (w_D_areKinds M x0 x1), J, e)) (fun _ => rfl)).trans ?_
      rcases zz_bc (decide ((4 : Int32) ≤ (Int32.ofNat i1))) with h8 | h8
      · refine zc_geT rfl h8 ?_
        refine zz_weak (L := [none, none, none, none, none]) ⟨Or.inr ⟨rfl, rfl⟩, Or.inl rfl, Or.inr ⟨rfl, rfl⟩, Or.inr ⟨rfl, rfl⟩, Or.inr ⟨rfl, rfl⟩, trivial⟩ ?_
        have y1 := hx6 (by simp only [g_D_turned_1, h8, zk_t, zk_f, zb_t, zb_f])
        simpa only [g_D_turned_1, h8, zk_t, zk_f, zb_t, zb_f] using y1
      · refine zc_geF rfl h8 ?_
        have k9 := k7 h8
        refine (zz_go 4 (fr' := (zm_D_turned, d + 4, 35, [some (.ref (194 : Nat)), none, some (.int x1), some (.int a1.1), some (.int (Int32.ofNat i1))], [.int (0 : Int32), .int x1, .ref (194 : Nat), .int a1.1])) (h' := (zt_T L, zt_R, (w_D_areKinds M x0 x1), J, e)) (fun _ => rfl)).trans ?_
        have g10 : ok_D_ofKind (w_D_areKinds M x0 x1) x1 (0 : Int32) := k9
        refine zl_vt (d := d + 3) rfl rfl rfl rfl rfl rfl rfl rfl rfl rfl (s_D_ofKind L e J (d + 2) (w_D_areKinds M x0 x1) x1 (0 : Int32) g10) ?_
        show zz_D (zm_D_turned, d + 4, 38, [some (.ref (194 : Nat)), none, some (.int x1), some (.int a1.1), some (.int (Int32.ofNat i1))], [.int (v_D_ofKind (w_D_areKinds M x0 x1) x1 (0 : Int32)), .int a1.1]) (zt_T L, zt_R, (w_D_areKinds M x0 x1), J, e) = _
        rcases zz_bc (decide (a1.1 = (v_D_ofKind (w_D_areKinds M x0 x1) x1 (0 : Int32)))) with h11 | h11
        · refine zc_neT rfl h11 ?_
          refine (zz_go 1 (fr' := (zm_D_turned, d + 4, 43, [some (.ref (194 : Nat)), none, some (.int x1), some (.int a1.1), some (.int (Int32.ofNat i1))], [.int (Int32.ofNat i1)])) (h' := (zt_T L, zt_R, (w_D_areKinds M x0 x1), J, e)) (fun _ => rfl)).trans ?_
          refine zl_retI rfl rfl ?_
          have y1 := hx6 (by simp only [g_D_turned_1, h8, h11, zk_t, zk_f, zb_t, zb_f])
          simpa only [g_D_turned_1, h8, h11, zk_t, zk_f, zb_t, zb_f] using y1
        · refine zc_neF rfl h11 ?_
          refine (zz_go 1 (fr' := (zm_D_turned, d + 4, 45, [some (.ref (194 : Nat)), none, some (.int x1), some (.int a1.1), some (.int (Int32.ofNat i1))], [.int a1.1])) (h' := (zt_T L, zt_R, (w_D_areKinds M x0 x1), J, e)) (fun _ => rfl)).trans ?_
          refine zl_st (d := d + 3) rfl rfl rfl rfl rfl rfl rfl (s_D_turns L e J (d + 1) a1.1) ?_
          show zz_D (zm_D_turned, d + 4, 48, [some (.ref (194 : Nat)), none, some (.int x1), some (.int a1.1), some (.int (Int32.ofNat i1))], [.int (v_D_turns a1.1)]) (zt_T L, zt_R, (w_D_areKinds M x0 x1), J, e) = _
          refine (zz_go 3 (fr' := (zm_D_turned, d + 4, 25, [some (.ref (194 : Nat)), none, some (.int x1), some (.int (v_D_turns a1.1)), some (.int (Int32.ofNat i1 + 1))], [])) (h' := (zt_T L, zt_R, (w_D_areKinds M x0 x1), J, e)) (fun _ => rfl)).trans ?_
          rw [zi_succ i1]
          have y1 := hx5 (by simp only [g_D_turned_1, h8, h11, zk_t, zk_f, zb_t, zb_f])
          simpa only [g_D_turned_1, h8, h11, zk_t, zk_f, zb_t, zb_f] using y1
    show (bif (zf_wh 1000 (g_D_turned_1 M x0 x1) 0 ((v_D_ofKind (w_D_areKinds M x0 x1) x0 (0 : Int32)), false, 0)).2.1 then some (.inl (some (.int (zf_wh 1000 (g_D_turned_1 M x0 x1) 0 ((v_D_ofKind (w_D_areKinds M x0 x1) x0 (0 : Int32)), false, 0)).2.2)), (zt_T L, zt_R, (w_D_areKinds M x0 x1), J, e)) else zz_D (zm_D_turned, d + 4, 55, [none, none, none, none, none], []) (zt_T L, zt_R, (w_D_areKinds M x0 x1), J, e)) = _
    refine zz_ec (fun h12 => ?_) (fun h12 => ?_)
    · skip
      first | (simp only [h1, h12, zk_t, zk_f, zb_t, zb_f]; done) | (simp only [h1, h12, zk_t, zk_f, zb_t, zb_f]; rfl) | rfl
    refine (zz_go 1 (fr' := (zm_D_turned, d + 4, 56, [none, none, none, none, none], [.int (-1 : Int32)])) (h' := (zt_T L, zt_R, (w_D_areKinds M x0 x1), J, e)) (fun _ => rfl)).trans ?_
    refine zl_retI rfl rfl ?_
    first | (simp only [h1, h12, zk_t, zk_f, zb_t, zb_f]; done) | (simp only [h1, h12, zk_t, zk_f, zb_t, zb_f]; rfl) | rfl
  · refine zo_leF rfl h1 ?_
    refine (zz_go 1 (fr' := (zm_D_turned, d + 4, 14, [some (.ref (194 : Nat)), some (.int x0), some (.int x1), none, none], [.int (0 : Int32)])) (h' := (zt_T L, zt_R, (w_D_areKinds M x0 x1), J, e)) (fun _ => rfl)).trans ?_
    refine zl_retI rfl rfl ?_
    first | (simp only [h1, zk_t, zk_f, zb_t, zb_f]; done) | (simp only [h1, zk_t, zk_f, zb_t, zb_f]; rfl) | rfl
def f_D_lie_1 (M : zMem) (x0 : Int32) (x1 : Int32) (x2 : Int32) (x3 : Int32) (i1 : Nat) (a1 : Int32) : Int32 := (a1 + (zb (bif (v_D_isOf (v_D_ofKind M x0 (0 : Int32)) (Int32.ofNat i1)) then (bif (v_D_isIn (((Int32.ofNat i1) / (4 : Int32)) + x2) (0 : Int32) (3 : Int32)) then (bif (v_D_isIn ((zrm (Int32.ofNat i1) (4 : Int32)) + x3) (0 : Int32) (3 : Int32)) then (v_D_isOf (v_D_ofKind M x1 (0 : Int32)) (((4 : Int32) * (((Int32.ofNat i1) / (4 : Int32)) + x2)) + ((zrm (Int32.ofNat i1) (4 : Int32)) + x3))) else false) else false) else false)))
def kb_D_lie_1 (M : zMem) (x0 : Int32) (x1 : Int32) (x2 : Int32) (x3 : Int32) (i1 : Nat) (a1 : Int32) : Prop := (ok_D_ofKind M x0 (0 : Int32) ∧ ((v_D_isOf (v_D_ofKind M x0 (0 : Int32)) (Int32.ofNat i1)) = true → ((v_D_isIn (((Int32.ofNat i1) / (4 : Int32)) + x2) (0 : Int32) (3 : Int32)) = true → ((v_D_isIn ((zrm (Int32.ofNat i1) (4 : Int32)) + x3) (0 : Int32) (3 : Int32)) = true → ok_D_ofKind M x1 (0 : Int32)))))
def v_D_lie (M : zMem) (x0 : Int32) (x1 : Int32) (x2 : Int32) (x3 : Int32) : Int32 := (zf_for 16 (f_D_lie_1 M x0 x1 x2 x3) (0 : Int32))
def ok_D_lie (M : zMem) (x0 : Int32) (x1 : Int32) (x2 : Int32) (x3 : Int32) : Prop := (∀ i1, i1 < 16 → kb_D_lie_1 M x0 x1 x2 x3 i1 (zf_for i1 (f_D_lie_1 M x0 x1 x2 x3) (0 : Int32)))
set_option maxRecDepth 20000 in
set_option maxHeartbeats 2000000 in
theorem s_D_lie (L e : Nat) (J : zJem) (d : Nat) (M : zMem) (x0 : Int32) (x1 : Int32) (x2 : Int32) (x3 : Int32) (k0 : ok_D_lie M x0 x1 x2 x3) : zz_D (zm_D_lie, d + 2, 0, [some (.ref (194 : Nat)), some (.int x0), some (.int x1), some (.int x2), some (.int x3), none, none, none, none], []) (zt_T L, zt_R, M, J, e) = some (.inl (some (.int (v_D_lie M x0 x1 x2 x3))), (zt_T L, zt_R, M, J, e)) := by
  unfold ok_D_lie at k0
  unfold v_D_lie
  refine (zz_go 4 (fr' := (zm_D_lie, d + 2, 6, [some (.ref (194 : Nat)), some (.int x0), some (.int x1), some (.int x2), some (.int x3), some (.int (0 : Int32)), some (.int (0 : Int32)), none, none], [])) (h' := (zt_T L, zt_R, M, J, e)) (fun _ => rfl)).trans ?_
  refine zf_forD (X := fun (i1 : Nat) (a1 : Int32) => zz_D (zm_D_lie, d + 2, 6, [some (.ref (194 : Nat)), some (.int x0), some (.int x1), some (.int x2), some (.int x3), some (.int a1), some (.int (Int32.ofNat i1)), none, none], []) (zt_T L, zt_R, M, J, e)) (f := (f_D_lie_1 M x0 x1 x2 x3)) (a := (0 : Int32)) 16 (fun i1 hi1 => ?_) ?_
  · intro hx1
    have k2 := k0 i1 hi1
    generalize zf_for i1 (f_D_lie_1 M x0 x1 x2 x3) (0 : Int32) = a1 at hx1 k2 ⊢
    show zz_D (zm_D_lie, d + 2, 6, [some (.ref (194 : Nat)), some (.int x0), some (.int x1), some (.int x2), some (.int x3), some (.int a1), some (.int (Int32.ofNat i1)), none, none], []) (zt_T L, zt_R, M, J, e) = _
    unfold kb_D_lie_1 at k2
    refine (zz_go 2 (fr' := (zm_D_lie, d + 2, 10, [some (.ref (194 : Nat)), some (.int x0), some (.int x1), some (.int x2), some (.int x3), some (.int a1), some (.int (Int32.ofNat i1)), none, none], [.int (16 : Int32), .int (Int32.ofNat i1)])) (h' := (zt_T L, zt_R, M, J, e)) (fun _ => rfl)).trans ?_
    refine zc_geF rfl (zi_ltc (n := 16) (by omega) (by decide)) ?_
    refine (zz_go 2 (fr' := (zm_D_lie, d + 2, 16, [some (.ref (194 : Nat)), some (.int x0), some (.int x1), some (.int x2), some (.int x3), some (.int a1), some (.int (Int32.ofNat i1)), none, none], [.int (4 : Int32), .int (Int32.ofNat i1)])) (h' := (zt_T L, zt_R, M, J, e)) (fun _ => rfl)).trans ?_
    refine zl_div rfl (by decide) ?_
    refine (zz_go 5 (fr' := (zm_D_lie, d + 2, 24, [some (.ref (194 : Nat)), some (.int x0), some (.int x1), some (.int x2), some (.int x3), some (.int a1), some (.int (Int32.ofNat i1)), some (.int (((Int32.ofNat i1) / (4 : Int32)) + x2)), none], [.int (4 : Int32), .int (Int32.ofNat i1)])) (h' := (zt_T L, zt_R, M, J, e)) (fun _ => rfl)).trans ?_
    refine zl_rem rfl (by decide) ?_
    refine (zz_go 7 (fr' := (zm_D_lie, d + 2, 35, [some (.ref (194 : Nat)), some (.int x0), some (.int x1), some (.int x2), some (.int x3), some (.int a1), some (.int (Int32.ofNat i1)), some (.int (((Int32.ofNat i1) / (4 : Int32)) + x2)), some (.int ((zrm (Int32.ofNat i1) (4 : Int32)) + x3))], [.int (0 : Int32), .int x0, .ref (194 : Nat), .int a1])) (h' := (zt_T L, zt_R, M, J, e)) (fun _ => rfl)).trans ?_
    obtain ⟨g3, k4⟩ := k2
    refine zl_vt (d := d + 1) rfl rfl rfl rfl rfl rfl rfl rfl rfl rfl (s_D_ofKind L e J (d + 0) M x0 (0 : Int32) g3) ?_
    show zz_D (zm_D_lie, d + 2, 38, [some (.ref (194 : Nat)), some (.int x0), some (.int x1), some (.int x2), some (.int x3), some (.int a1), some (.int (Int32.ofNat i1)), some (.int (((Int32.ofNat i1) / (4 : Int32)) + x2)), some (.int ((zrm (Int32.ofNat i1) (4 : Int32)) + x3))], [.int (v_D_ofKind M x0 (0 : Int32)), .int a1]) (zt_T L, zt_R, M, J, e) = _
    refine (zz_go 1 (fr' := (zm_D_lie, d + 2, 40, [some (.ref (194 : Nat)), some (.int x0), some (.int x1), some (.int x2), some (.int x3), some (.int a1), some (.int (Int32.ofNat i1)), some (.int (((Int32.ofNat i1) / (4 : Int32)) + x2)), some (.int ((zrm (Int32.ofNat i1) (4 : Int32)) + x3))], [.int (Int32.ofNat i1), .int (v_D_ofKind M x0 (0 : Int32)), .int a1])) (h' := (zt_T L, zt_R, M, J, e)) (fun _ => rfl)).trans ?_
    refine zl_st (d := d + 1) rfl rfl rfl rfl rfl rfl rfl (s_D_isOf L e J (d + 0) (v_D_ofKind M x0 (0 : Int32)) (Int32.ofNat i1)) ?_
    show zz_D (zm_D_lie, d + 2, 43, [some (.ref (194 : Nat)), some (.int x0), some (.int x1), some (.int x2), some (.int x3), some (.int a1), some (.int (Int32.ofNat i1)), some (.int (((Int32.ofNat i1) / (4 : Int32)) + x2)), some (.int ((zrm (Int32.ofNat i1) (4 : Int32)) + x3))], [.int (zb (v_D_isOf (v_D_ofKind M x0 (0 : Int32)) (Int32.ofNat i1))), .int a1]) (zt_T L, zt_R, M, J, e) = _
    refine zz_jn (X := zz_D (zm_D_lie, d + 2, 90, [some (.ref (194 : Nat)), some (.int x0), some (.int x1), some (.int x2), some (.int x3), none, some (.int (Int32.ofNat i1)), none, none], [.int (zb (bif (v_D_isOf (v_D_ofKind M x0 (0 : Int32)) (Int32.ofNat i1)) then (bif (v_D_isIn (((Int32.ofNat i1) / (4 : Int32)) + x2) (0 : Int32) (3 : Int32)) then (bif (v_D_isIn ((zrm (Int32.ofNat i1) (4 : Int32)) + x3) (0 : Int32) (3 : Int32)) then (v_D_isOf (v_D_ofKind M x1 (0 : Int32)) (((4 : Int32) * (((Int32.ofNat i1) / (4 : Int32)) + x2)) + ((zrm (Int32.ofNat i1) (4 : Int32)) + x3))) else false) else false) else false)), .int a1]) (zt_T L, zt_R, M, J, e)) (fun j5 => ?_) ?_
    · rcases zz_bc (v_D_isOf (v_D_ofKind M x0 (0 : Int32)) (Int32.ofNat i1)) with h6 | h6
      · refine zq_eT rfl h6 ?_
        have k7 := k4 h6
        refine (zz_go 3 (fr' := (zm_D_lie, d + 2, 50, [some (.ref (194 : Nat)), some (.int x0), some (.int x1), some (.int x2), some (.int x3), some (.int a1), some (.int (Int32.ofNat i1)), some (.int (((Int32.ofNat i1) / (4 : Int32)) + x2)), some (.int ((zrm (Int32.ofNat i1) (4 : Int32)) + x3))], [.int (3 : Int32), .int (0 : Int32), .int (((Int32.ofNat i1) / (4 : Int32)) + x2), .int a1])) (h' := (zt_T L, zt_R, M, J, e)) (fun _ => rfl)).trans ?_
        refine zl_st (d := d + 1) rfl rfl rfl rfl rfl rfl rfl (s_D_isIn L e J (d + 0) (((Int32.ofNat i1) / (4 : Int32)) + x2) (0 : Int32) (3 : Int32)) ?_
        show zz_D (zm_D_lie, d + 2, 53, [some (.ref (194 : Nat)), some (.int x0), some (.int x1), some (.int x2), some (.int x3), some (.int a1), some (.int (Int32.ofNat i1)), some (.int (((Int32.ofNat i1) / (4 : Int32)) + x2)), some (.int ((zrm (Int32.ofNat i1) (4 : Int32)) + x3))], [.int (zb (v_D_isIn (((Int32.ofNat i1) / (4 : Int32)) + x2) (0 : Int32) (3 : Int32))), .int a1]) (zt_T L, zt_R, M, J, e) = _
        refine zz_jn (X := zz_D (zm_D_lie, d + 2, 90, [some (.ref (194 : Nat)), some (.int x0), some (.int x1), some (.int x2), some (.int x3), none, some (.int (Int32.ofNat i1)), none, none], [.int (zb (bif (v_D_isIn (((Int32.ofNat i1) / (4 : Int32)) + x2) (0 : Int32) (3 : Int32)) then (bif (v_D_isIn ((zrm (Int32.ofNat i1) (4 : Int32)) + x3) (0 : Int32) (3 : Int32)) then (v_D_isOf (v_D_ofKind M x1 (0 : Int32)) (((4 : Int32) * (((Int32.ofNat i1) / (4 : Int32)) + x2)) + ((zrm (Int32.ofNat i1) (4 : Int32)) + x3))) else false) else false)), .int a1]) (zt_T L, zt_R, M, J, e)) (fun j8 => ?_) ?_
        · rcases zz_bc (v_D_isIn (((Int32.ofNat i1) / (4 : Int32)) + x2) (0 : Int32) (3 : Int32)) with h9 | h9
          · refine zq_eT rfl h9 ?_
            have k10 := k7 h9
            refine (zz_go 3 (fr' := (zm_D_lie, d + 2, 60, [some (.ref (194 : Nat)), some (.int x0), some (.int x1), some (.int x2), some (.int x3), some (.int a1), some (.int (Int32.ofNat i1)), some (.int (((Int32.ofNat i1) / (4 : Int32)) + x2)), some (.int ((zrm (Int32.ofNat i1) (4 : Int32)) + x3))], [.int (3 : Int32), .int (0 : Int32), .int ((zrm (Int32.ofNat i1) (4 : Int32)) + x3), .int a1])) (h' := (zt_T L, zt_R, M, J, e)) (fun _ => rfl)).trans ?_
            refine zl_st (d := d + 1) rfl rfl rfl rfl rfl rfl rfl (s_D_isIn L e J (d + 0) ((zrm (Int32.ofNat i1) (4 : Int32)) + x3) (0 : Int32) (3 : Int32)) ?_
            show zz_D (zm_D_lie, d + 2, 63, [some (.ref (194 : Nat)), some (.int x0), some (.int x1), some (.int x2), some (.int x3), some (.int a1), some (.int (Int32.ofNat i1)), some (.int (((Int32.ofNat i1) / (4 : Int32)) + x2)), some (.int ((zrm (Int32.ofNat i1) (4 : Int32)) + x3))], [.int (zb (v_D_isIn ((zrm (Int32.ofNat i1) (4 : Int32)) + x3) (0 : Int32) (3 : Int32))), .int a1]) (zt_T L, zt_R, M, J, e) = _
            refine zz_jn (X := zz_D (zm_D_lie, d + 2, 90, [some (.ref (194 : Nat)), some (.int x0), some (.int x1), some (.int x2), some (.int x3), none, some (.int (Int32.ofNat i1)), none, none], [.int (zb (bif (v_D_isIn ((zrm (Int32.ofNat i1) (4 : Int32)) + x3) (0 : Int32) (3 : Int32)) then (v_D_isOf (v_D_ofKind M x1 (0 : Int32)) (((4 : Int32) * (((Int32.ofNat i1) / (4 : Int32)) + x2)) + ((zrm (Int32.ofNat i1) (4 : Int32)) + x3))) else false)), .int a1]) (zt_T L, zt_R, M, J, e)) (fun j11 => ?_) ?_
            · rcases zz_bc (v_D_isIn ((zrm (Int32.ofNat i1) (4 : Int32)) + x3) (0 : Int32) (3 : Int32)) with h12 | h12
              · refine zq_eT rfl h12 ?_
                have k13 := k10 h12
                refine (zz_go 3 (fr' := (zm_D_lie, d + 2, 69, [some (.ref (194 : Nat)), some (.int x0), some (.int x1), some (.int x2), some (.int x3), some (.int a1), some (.int (Int32.ofNat i1)), some (.int (((Int32.ofNat i1) / (4 : Int32)) + x2)), some (.int ((zrm (Int32.ofNat i1) (4 : Int32)) + x3))], [.int (0 : Int32), .int x1, .ref (194 : Nat), .int a1])) (h' := (zt_T L, zt_R, M, J, e)) (fun _ => rfl)).trans ?_
                have g14 : ok_D_ofKind M x1 (0 : Int32) := k13
                refine zl_vt (d := d + 1) rfl rfl rfl rfl rfl rfl rfl rfl rfl rfl (s_D_ofKind L e J (d + 0) M x1 (0 : Int32) g14) ?_
                show zz_D (zm_D_lie, d + 2, 72, [some (.ref (194 : Nat)), some (.int x0), some (.int x1), some (.int x2), some (.int x3), some (.int a1), some (.int (Int32.ofNat i1)), some (.int (((Int32.ofNat i1) / (4 : Int32)) + x2)), some (.int ((zrm (Int32.ofNat i1) (4 : Int32)) + x3))], [.int (v_D_ofKind M x1 (0 : Int32)), .int a1]) (zt_T L, zt_R, M, J, e) = _
                refine (zz_go 5 (fr' := (zm_D_lie, d + 2, 79, [some (.ref (194 : Nat)), some (.int x0), some (.int x1), some (.int x2), some (.int x3), some (.int a1), some (.int (Int32.ofNat i1)), some (.int (((Int32.ofNat i1) / (4 : Int32)) + x2)), some (.int ((zrm (Int32.ofNat i1) (4 : Int32)) + x3))], [.int (((4 : Int32) * (((Int32.ofNat i1) / (4 : Int32)) + x2)) + ((zrm (Int32.ofNat i1) (4 : Int32)) + x3)), .int (v_D_ofKind M x1 (0 : Int32)), .int a1])) (h' := (zt_T L, zt_R, M, J, e)) (fun _ => rfl)).trans ?_
                refine zl_st (d := d + 1) rfl rfl rfl rfl rfl rfl rfl (s_D_isOf L e J (d + 0) (v_D_ofKind M x1 (0 : Int32)) (((4 : Int32) * (((Int32.ofNat i1) / (4 : Int32)) + x2)) + ((zrm (Int32.ofNat i1) (4 : Int32)) + x3))) ?_
                show zz_D (zm_D_lie, d + 2, 82, [some (.ref (194 : Nat)), some (.int x0), some (.int x1), some (.int x2), some (.int x3), some (.int a1), some (.int (Int32.ofNat i1)), some (.int (((Int32.ofNat i1) / (4 : Int32)) + x2)), some (.int ((zrm (Int32.ofNat i1) (4 : Int32)) + x3))], [.int (zb (v_D_isOf (v_D_ofKind M x1 (0 : Int32)) (((4 : Int32) * (((Int32.ofNat i1) / (4 : Int32)) + x2)) + ((zrm (Int32.ofNat i1) (4 : Int32)) + x3)))), .int a1]) (zt_T L, zt_R, M, J, e) = _
                refine zz_jn (X := zz_D (zm_D_lie, d + 2, 90, [some (.ref (194 : Nat)), some (.int x0), some (.int x1), some (.int x2), some (.int x3), none, some (.int (Int32.ofNat i1)), none, none], [.int (zb (v_D_isOf (v_D_ofKind M x1 (0 : Int32)) (((4 : Int32) * (((Int32.ofNat i1) / (4 : Int32)) + x2)) + ((zrm (Int32.ofNat i1) (4 : Int32)) + x3)))), .int a1]) (zt_T L, zt_R, M, J, e)) (fun j15 => ?_) ?_
                · rcases zz_bc (v_D_isOf (v_D_ofKind M x1 (0 : Int32)) (((4 : Int32) * (((Int32.ofNat i1) / (4 : Int32)) + x2)) + ((zrm (Int32.ofNat i1) (4 : Int32)) + x3))) with h16 | h16
                  · refine zq_eT rfl h16 ?_
                    refine (zz_go 2 (fr' := (zm_D_lie, d + 2, 90, [some (.ref (194 : Nat)), some (.int x0), some (.int x1), some (.int x2), some (.int x3), some (.int a1), some (.int (Int32.ofNat i1)), some (.int (((Int32.ofNat i1) / (4 : Int32)) + x2)), some (.int ((zrm (Int32.ofNat i1) (4 : Int32)) + x3))], [.int (1 : Int32), .int a1])) (h' := (zt_T L, zt_R, M, J, e)) (fun _ => rfl)).trans ?_
                    refine zz_weak (L := [some (.ref (194 : Nat)), some (.int x0), some (.int x1), some (.int x2), some (.int x3), none, some (.int (Int32.ofNat i1)), none, none]) ⟨Or.inl rfl, Or.inl rfl, Or.inl rfl, Or.inl rfl, Or.inl rfl, Or.inr ⟨rfl, rfl⟩, Or.inl rfl, Or.inr ⟨rfl, rfl⟩, Or.inr ⟨rfl, rfl⟩, trivial⟩ ?_
                    simpa only [h16, zk_t, zk_f, zb_t, zb_f] using j15
                  · refine zq_eF rfl h16 ?_
                    refine (zz_go 1 (fr' := (zm_D_lie, d + 2, 90, [some (.ref (194 : Nat)), some (.int x0), some (.int x1), some (.int x2), some (.int x3), some (.int a1), some (.int (Int32.ofNat i1)), some (.int (((Int32.ofNat i1) / (4 : Int32)) + x2)), some (.int ((zrm (Int32.ofNat i1) (4 : Int32)) + x3))], [.int (0 : Int32), .int a1])) (h' := (zt_T L, zt_R, M, J, e)) (fun _ => rfl)).trans ?_
                    refine zz_weak (L := [some (.ref (194 : Nat)), some (.int x0), some (.int x1), some (.int x2), some (.int x3), none, some (.int (Int32.ofNat i1)), none, none]) ⟨Or.inl rfl, Or.inl rfl, Or.inl rfl, Or.inl rfl, Or.inl rfl, Or.inr ⟨rfl, rfl⟩, Or.inl rfl, Or.inr ⟨rfl, rfl⟩, Or.inr ⟨rfl, rfl⟩, trivial⟩ ?_
                    simpa only [h16, zk_t, zk_f, zb_t, zb_f] using j15
                simpa only [h12, zk_t, zk_f, zb_t, zb_f] using j11
              · refine zq_eF rfl h12 ?_
                refine (zz_go 1 (fr' := (zm_D_lie, d + 2, 90, [some (.ref (194 : Nat)), some (.int x0), some (.int x1), some (.int x2), some (.int x3), some (.int a1), some (.int (Int32.ofNat i1)), some (.int (((Int32.ofNat i1) / (4 : Int32)) + x2)), some (.int ((zrm (Int32.ofNat i1) (4 : Int32)) + x3))], [.int (0 : Int32), .int a1])) (h' := (zt_T L, zt_R, M, J, e)) (fun _ => rfl)).trans ?_
                refine zz_weak (L := [some (.ref (194 : Nat)), some (.int x0), some (.int x1), some (.int x2), some (.int x3), none, some (.int (Int32.ofNat i1)), none, none]) ⟨Or.inl rfl, Or.inl rfl, Or.inl rfl, Or.inl rfl, Or.inl rfl, Or.inr ⟨rfl, rfl⟩, Or.inl rfl, Or.inr ⟨rfl, rfl⟩, Or.inr ⟨rfl, rfl⟩, trivial⟩ ?_
                simpa only [h12, zk_t, zk_f, zb_t, zb_f] using j11
            simpa only [h9, zk_t, zk_f, zb_t, zb_f] using j8
          · refine zq_eF rfl h9 ?_
            refine (zz_go 1 (fr' := (zm_D_lie, d + 2, 90, [some (.ref (194 : Nat)), some (.int x0), some (.int x1), some (.int x2), some (.int x3), some (.int a1), some (.int (Int32.ofNat i1)), some (.int (((Int32.ofNat i1) / (4 : Int32)) + x2)), some (.int ((zrm (Int32.ofNat i1) (4 : Int32)) + x3))], [.int (0 : Int32), .int a1])) (h' := (zt_T L, zt_R, M, J, e)) (fun _ => rfl)).trans ?_
            refine zz_weak (L := [some (.ref (194 : Nat)), some (.int x0), some (.int x1), some (.int x2), some (.int x3), none, some (.int (Int32.ofNat i1)), none, none]) ⟨Or.inl rfl, Or.inl rfl, Or.inl rfl, Or.inl rfl, Or.inl rfl, Or.inr ⟨rfl, rfl⟩, Or.inl rfl, Or.inr ⟨rfl, rfl⟩, Or.inr ⟨rfl, rfl⟩, trivial⟩ ?_
            simpa only [h9, zk_t, zk_f, zb_t, zb_f] using j8
        simpa only [h6, zk_t, zk_f, zb_t, zb_f] using j5
      · refine zq_eF rfl h6 ?_
        refine (zz_go 1 (fr' := (zm_D_lie, d + 2, 90, [some (.ref (194 : Nat)), some (.int x0), some (.int x1), some (.int x2), some (.int x3), some (.int a1), some (.int (Int32.ofNat i1)), some (.int (((Int32.ofNat i1) / (4 : Int32)) + x2)), some (.int ((zrm (Int32.ofNat i1) (4 : Int32)) + x3))], [.int (0 : Int32), .int a1])) (h' := (zt_T L, zt_R, M, J, e)) (fun _ => rfl)).trans ?_
        refine zz_weak (L := [some (.ref (194 : Nat)), some (.int x0), some (.int x1), some (.int x2), some (.int x3), none, some (.int (Int32.ofNat i1)), none, none]) ⟨Or.inl rfl, Or.inl rfl, Or.inl rfl, Or.inl rfl, Or.inl rfl, Or.inr ⟨rfl, rfl⟩, Or.inl rfl, Or.inr ⟨rfl, rfl⟩, Or.inr ⟨rfl, rfl⟩, trivial⟩ ?_
        simpa only [h6, zk_t, zk_f, zb_t, zb_f] using j5
    refine (zz_go 4 (fr' := (zm_D_lie, d + 2, 6, [some (.ref (194 : Nat)), some (.int x0), some (.int x1), some (.int x2), some (.int x3), some (.int (a1 + (zb (bif (v_D_isOf (v_D_ofKind M x0 (0 : Int32)) (Int32.ofNat i1)) then (bif (v_D_isIn (((Int32.ofNat i1) / (4 : Int32)) + x2) (0 : Int32) (3 : Int32)) then (bif (v_D_isIn ((zrm (Int32.ofNat i1) (4 : Int32)) + x3) (0 : Int32) (3 : Int32)) then (v_D_isOf (v_D_ofKind M x1 (0 : Int32)) (((4 : Int32) * (((Int32.ofNat i1) / (4 : Int32)) + x2)) + ((zrm (Int32.ofNat i1) (4 : Int32)) + x3))) else false) else false) else false)))), some (.int (Int32.ofNat i1 + 1)), none, none], [])) (h' := (zt_T L, zt_R, M, J, e)) (fun _ => rfl)).trans ?_
    rw [zi_succ i1]
    simpa only [f_D_lie_1] using hx1
  show zz_D (zm_D_lie, d + 2, 6, [some (.ref (194 : Nat)), some (.int x0), some (.int x1), some (.int x2), some (.int x3), some (.int (zf_for 16 (f_D_lie_1 M x0 x1 x2 x3) (0 : Int32))), some (.int (Int32.ofNat 16)), none, none], []) (zt_T L, zt_R, M, J, e) = _
  refine (zz_go 2 (fr' := (zm_D_lie, d + 2, 10, [some (.ref (194 : Nat)), some (.int x0), some (.int x1), some (.int x2), some (.int x3), some (.int (zf_for 16 (f_D_lie_1 M x0 x1 x2 x3) (0 : Int32))), some (.int (Int32.ofNat 16)), none, none], [.int (16 : Int32), .int (Int32.ofNat 16)])) (h' := (zt_T L, zt_R, M, J, e)) (fun _ => rfl)).trans ?_
  refine zc_geT rfl (by decide) ?_
  refine zz_weak (L := [none, none, none, none, none, some (.int (zf_for 16 (f_D_lie_1 M x0 x1 x2 x3) (0 : Int32))), none, none, none]) ⟨Or.inr ⟨rfl, rfl⟩, Or.inr ⟨rfl, rfl⟩, Or.inr ⟨rfl, rfl⟩, Or.inr ⟨rfl, rfl⟩, Or.inr ⟨rfl, rfl⟩, Or.inl rfl, Or.inr ⟨rfl, rfl⟩, Or.inl rfl, Or.inl rfl, trivial⟩ ?_
  refine (zz_go 1 (fr' := (zm_D_lie, d + 2, 101, [none, none, none, none, none, some (.int (zf_for 16 (f_D_lie_1 M x0 x1 x2 x3) (0 : Int32))), none, none, none], [.int (zf_for 16 (f_D_lie_1 M x0 x1 x2 x3) (0 : Int32))])) (h' := (zt_T L, zt_R, M, J, e)) (fun _ => rfl)).trans ?_
  refine zl_retI rfl rfl ?_
  rfl
