/-! THE LAW'S WRAPPERS: a call of the class, its exceptions as numbers. -/
def zcf : List Nat → Nat → Int32 → Int32
  | [], _, _ => 0
  | a :: r, j, k => bif Nat.beq a j then k else zcf r j (k + 1)
/-- the number of an end: 0, or the place of the exception among those that are caught -/
def zcd (l : List Nat) (t : Nat) : Int32 := match t with
  | 0 => 0
  | j + 1 => zcf l j 1
def zj (t : Nat) (J : zJem) (v : Int64) : zJem := match t with
  | 0 => zz_up J 204 0 v
  | _ + 1 => J
def zbl (b : Bool) : Int64 := bif b then Int64.ofNat 1 else Int64.ofNat 0
theorem zl_hn {m : zz_M} {d pc np j hp np2 a b x : Nat} {k : Int32} {L L2 : List (Option Value)} {st : List Value} {v : Option Value} {h : zz_H} {z : Option zz_R} (h1 : zz_hand m.2.2 pc j = some hp) (h2 : zz_find m.1 hp = some (.astore x, np2, a, b, k)) (h3 : (zz_st1 L a .null).isSome = true) (h4 : L.set a none = L2) (hz : zz_D (m, d, np2, L2, []) h = z) : zz_after zz_D m d pc np L st (some (zx_o (j + 1) v, h)) = z := by
  subst h4
  rw [← hz]
  show zz_thrown zz_D m d pc L j h = _
  unfold zz_thrown
  rw [h1]
  dsimp only
  rw [h2]
  dsimp only
  cases e : zz_st1 L a .null with
  | none => rw [e] at h3; cases h3
  | some y => rfl
theorem zl_hnn {m : zz_M} {d pc np j hp np2 a b : Nat} {x : Fin 4} {k : Int32} {L L2 : List (Option Value)} {st : List Value} {v : Option Value} {h : zz_H} {z : Option zz_R} (h1 : zz_hand m.2.2 pc j = some hp) (h2 : zz_find m.1 hp = some (.astore_n x, np2, a, b, k)) (h3 : (zz_st1 L a .null).isSome = true) (h4 : L.set a none = L2) (hz : zz_D (m, d, np2, L2, []) h = z) : zz_after zz_D m d pc np L st (some (zx_o (j + 1) v, h)) = z := by
  subst h4
  rw [← hz]
  show zz_thrown zz_D m d pc L j h = _
  unfold zz_thrown
  rw [h1]
  dsimp only
  rw [h2]
  dsimp only
  cases e : zz_st1 L a .null with
  | none => rw [e] at h3; cases h3
  | some y => rfl
set_option maxRecDepth 20000 in
theorem s_W_shop (L e : Nat) (J : zJem) (d : Nat) (M : zMem) (k0 : ok_N_shop M) (ht : (t_N_shop M) = 0 ∨ (t_N_shop M) = 1 ∨ (t_N_shop M) = 2) : zz_D (zm_W_shop, d + 14, 0, [some (.ref (1 : Nat)), some (.ref (204 : Nat)), none], []) (zt_T L, zt_R, M, J, e) = some (.inl (some (.int (zcd [0, 1] (t_N_shop M)))), (zt_T L, zt_R, (w_N_shop M), (zj (t_N_shop M) J ((v_N_shop M)).toInt64), zx_e (t_N_shop M) e)) := by
  refine (zz_go 3 (fr' := (zm_W_shop, d + 14, 3, [some (.ref (1 : Nat)), some (.ref (204 : Nat)), none], [.ref (1 : Nat), .int (0 : Int32), .ref (204 : Nat)])) (h' := (zt_T L, zt_R, M, J, e)) (fun _ => rfl)).trans ?_
  refine zl_vt (d := d + 13) rfl rfl rfl rfl rfl rfl rfl rfl rfl rfl (s_N_shop L e J d M k0) ?_
  rcases ht with h0 | h0 | h0
  · rw [h0]
    show zz_D (zm_W_shop, d + 14, 6, [some (.ref (1 : Nat)), some (.ref (204 : Nat)), none], [.int (v_N_shop M), .int (0 : Int32), .ref (204 : Nat)]) (zt_T L, zt_R, (w_N_shop M), J, e) = _
    refine (zz_go 1 (fr' := (zm_W_shop, d + 14, 7, [some (.ref (1 : Nat)), some (.ref (204 : Nat)), none], [.long ((v_N_shop M)).toInt64, .int (0 : Int32), .ref (204 : Nat)])) (h' := (zt_T L, zt_R, (w_N_shop M), J, e)) (fun _ => rfl)).trans ?_
    refine zl_lastore (i := 0) rfl rfl (by decide) rfl (by decide) ?_
    refine (zz_go 2 (fr' := (zm_W_shop, d + 14, 18, [some (.ref (1 : Nat)), some (.ref (204 : Nat)), none], [.int (0 : Int32)])) (h' := (zt_T L, zt_R, (w_N_shop M), (zz_up J 204 0 ((v_N_shop M)).toInt64), e)) (fun _ => rfl)).trans ?_
    refine zl_retI rfl rfl ?_
    rfl
  · rw [h0]
    refine zl_hnn (L2 := [some (.ref (1 : Nat)), some (.ref (204 : Nat)), none]) rfl rfl rfl rfl ?_
    refine (zz_go 1 (fr' := (zm_W_shop, d + 14, 13, [some (.ref (1 : Nat)), some (.ref (204 : Nat)), none], [.int (1 : Int32)])) (h' := (zt_T L, zt_R, (w_N_shop M), J, (e + 1))) (fun _ => rfl)).trans ?_
    refine zl_retI rfl rfl ?_
    rfl
  · rw [h0]
    refine zl_hnn (L2 := [some (.ref (1 : Nat)), some (.ref (204 : Nat)), none]) rfl rfl rfl rfl ?_
    refine (zz_go 1 (fr' := (zm_W_shop, d + 14, 16, [some (.ref (1 : Nat)), some (.ref (204 : Nat)), none], [.int (2 : Int32)])) (h' := (zt_T L, zt_R, (w_N_shop M), J, (e + 1))) (fun _ => rfl)).trans ?_
    refine zl_retI rfl rfl ?_
    rfl
set_option maxRecDepth 20000 in
theorem s_W_law_0 (L e : Nat) (J : zJem) (d : Nat) (M : zMem) (k0 : ok_N_law M) (ht : (t_N_law M) = 0 ∨ (t_N_law M) = 1) : zz_D (zm_W_law_0, d + 187, 0, [some (.ref (1 : Nat)), some (.ref (204 : Nat)), none], []) (zt_T L, zt_R, M, J, e) = some (.inl (some (.int (zcd [0] (t_N_law M)))), (zt_T L, zt_R, (w_N_law M), (zj (t_N_law M) J ((v_N_law M)).toInt64), zx_e (t_N_law M) e)) := by
  refine (zz_go 3 (fr' := (zm_W_law_0, d + 187, 3, [some (.ref (1 : Nat)), some (.ref (204 : Nat)), none], [.ref (1 : Nat), .int (0 : Int32), .ref (204 : Nat)])) (h' := (zt_T L, zt_R, M, J, e)) (fun _ => rfl)).trans ?_
  refine zl_vt (d := d + 186) rfl rfl rfl rfl rfl rfl rfl rfl rfl rfl (s_N_law L e J d M k0) ?_
  rcases ht with h0 | h0
  · rw [h0]
    show zz_D (zm_W_law_0, d + 187, 6, [some (.ref (1 : Nat)), some (.ref (204 : Nat)), none], [.int (v_N_law M), .int (0 : Int32), .ref (204 : Nat)]) (zt_T L, zt_R, (w_N_law M), J, e) = _
    refine (zz_go 1 (fr' := (zm_W_law_0, d + 187, 7, [some (.ref (1 : Nat)), some (.ref (204 : Nat)), none], [.long ((v_N_law M)).toInt64, .int (0 : Int32), .ref (204 : Nat)])) (h' := (zt_T L, zt_R, (w_N_law M), J, e)) (fun _ => rfl)).trans ?_
    refine zl_lastore (i := 0) rfl rfl (by decide) rfl (by decide) ?_
    refine (zz_go 2 (fr' := (zm_W_law_0, d + 187, 15, [some (.ref (1 : Nat)), some (.ref (204 : Nat)), none], [.int (0 : Int32)])) (h' := (zt_T L, zt_R, (w_N_law M), (zz_up J 204 0 ((v_N_law M)).toInt64), e)) (fun _ => rfl)).trans ?_
    refine zl_retI rfl rfl ?_
    rfl
  · rw [h0]
    refine zl_hnn (L2 := [some (.ref (1 : Nat)), some (.ref (204 : Nat)), none]) rfl rfl rfl rfl ?_
    refine (zz_go 1 (fr' := (zm_W_law_0, d + 187, 13, [some (.ref (1 : Nat)), some (.ref (204 : Nat)), none], [.int (1 : Int32)])) (h' := (zt_T L, zt_R, (w_N_law M), J, (e + 1))) (fun _ => rfl)).trans ?_
    refine zl_retI rfl rfl ?_
    rfl
set_option maxRecDepth 20000 in
theorem s_W_kind (L e : Nat) (J : zJem) (d : Nat) (M : zMem) (x0 : Int32) (x1 : Int32) (k0 : ok_N_kind M x0 x1) (ht : (t_N_kind M x0 x1) = 0 ∨ (t_N_kind M x0 x1) = 3 ∨ (t_N_kind M x0 x1) = 4) : zz_D (zm_W_kind, d + 10, 0, [some (.ref (1 : Nat)), some (.int x0), some (.int x1), some (.ref (204 : Nat)), none], []) (zt_T L, zt_R, M, J, e) = some (.inl (some (.int (zcd [2, 3] (t_N_kind M x0 x1)))), (zt_T L, zt_R, (w_N_kind M x0 x1), (zj (t_N_kind M x0 x1) J ((v_N_kind M x0 x1)).toInt64), zx_e (t_N_kind M x0 x1) e)) := by
  refine (zz_go 5 (fr' := (zm_W_kind, d + 10, 5, [some (.ref (1 : Nat)), some (.int x0), some (.int x1), some (.ref (204 : Nat)), none], [.int x1, .int x0, .ref (1 : Nat), .int (0 : Int32), .ref (204 : Nat)])) (h' := (zt_T L, zt_R, M, J, e)) (fun _ => rfl)).trans ?_
  refine zl_vt (d := d + 9) rfl rfl rfl rfl rfl rfl rfl rfl rfl rfl (s_N_kind L e J d M x0 x1 k0) ?_
  rcases ht with h0 | h0 | h0
  · rw [h0]
    show zz_D (zm_W_kind, d + 10, 8, [some (.ref (1 : Nat)), some (.int x0), some (.int x1), some (.ref (204 : Nat)), none], [.int (v_N_kind M x0 x1), .int (0 : Int32), .ref (204 : Nat)]) (zt_T L, zt_R, (w_N_kind M x0 x1), J, e) = _
    refine (zz_go 1 (fr' := (zm_W_kind, d + 10, 9, [some (.ref (1 : Nat)), some (.int x0), some (.int x1), some (.ref (204 : Nat)), none], [.long ((v_N_kind M x0 x1)).toInt64, .int (0 : Int32), .ref (204 : Nat)])) (h' := (zt_T L, zt_R, (w_N_kind M x0 x1), J, e)) (fun _ => rfl)).trans ?_
    refine zl_lastore (i := 0) rfl rfl (by decide) rfl (by decide) ?_
    refine (zz_go 2 (fr' := (zm_W_kind, d + 10, 22, [some (.ref (1 : Nat)), some (.int x0), some (.int x1), some (.ref (204 : Nat)), none], [.int (0 : Int32)])) (h' := (zt_T L, zt_R, (w_N_kind M x0 x1), (zz_up J 204 0 ((v_N_kind M x0 x1)).toInt64), e)) (fun _ => rfl)).trans ?_
    refine zl_retI rfl rfl ?_
    rfl
  · rw [h0]
    refine zl_hn (L2 := [some (.ref (1 : Nat)), some (.int x0), some (.int x1), some (.ref (204 : Nat)), none]) rfl rfl rfl rfl ?_
    refine (zz_go 1 (fr' := (zm_W_kind, d + 10, 16, [some (.ref (1 : Nat)), some (.int x0), some (.int x1), some (.ref (204 : Nat)), none], [.int (1 : Int32)])) (h' := (zt_T L, zt_R, (w_N_kind M x0 x1), J, (e + 1))) (fun _ => rfl)).trans ?_
    refine zl_retI rfl rfl ?_
    rfl
  · rw [h0]
    refine zl_hn (L2 := [some (.ref (1 : Nat)), some (.int x0), some (.int x1), some (.ref (204 : Nat)), none]) rfl rfl rfl rfl ?_
    refine (zz_go 1 (fr' := (zm_W_kind, d + 10, 20, [some (.ref (1 : Nat)), some (.int x0), some (.int x1), some (.ref (204 : Nat)), none], [.int (2 : Int32)])) (h' := (zt_T L, zt_R, (w_N_kind M x0 x1), J, (e + 1))) (fun _ => rfl)).trans ?_
    refine zl_retI rfl rfl ?_
    rfl
set_option maxRecDepth 20000 in
theorem s_W_person (L e : Nat) (J : zJem) (d : Nat) (M : zMem) (x0 : Int32) (x1 : Int32) (k0 : ok_N_person M x0 x1) (ht : (t_N_person M x0 x1) = 0 ∨ (t_N_person M x0 x1) = 3 ∨ (t_N_person M x0 x1) = 4) : zz_D (zm_W_person, d + 11, 0, [some (.ref (1 : Nat)), some (.int x0), some (.int x1), some (.ref (204 : Nat)), none], []) (zt_T L, zt_R, M, J, e) = some (.inl (some (.int (zcd [2, 3] (t_N_person M x0 x1)))), (zt_T L, zt_R, (w_N_person M x0 x1), (zj (t_N_person M x0 x1) J ((v_N_person M x0 x1)).toInt64), zx_e (t_N_person M x0 x1) e)) := by
  refine (zz_go 5 (fr' := (zm_W_person, d + 11, 5, [some (.ref (1 : Nat)), some (.int x0), some (.int x1), some (.ref (204 : Nat)), none], [.int x1, .int x0, .ref (1 : Nat), .int (0 : Int32), .ref (204 : Nat)])) (h' := (zt_T L, zt_R, M, J, e)) (fun _ => rfl)).trans ?_
  refine zl_vt (d := d + 10) rfl rfl rfl rfl rfl rfl rfl rfl rfl rfl (s_N_person L e J d M x0 x1 k0) ?_
  rcases ht with h0 | h0 | h0
  · rw [h0]
    show zz_D (zm_W_person, d + 11, 8, [some (.ref (1 : Nat)), some (.int x0), some (.int x1), some (.ref (204 : Nat)), none], [.int (v_N_person M x0 x1), .int (0 : Int32), .ref (204 : Nat)]) (zt_T L, zt_R, (w_N_person M x0 x1), J, e) = _
    refine (zz_go 1 (fr' := (zm_W_person, d + 11, 9, [some (.ref (1 : Nat)), some (.int x0), some (.int x1), some (.ref (204 : Nat)), none], [.long ((v_N_person M x0 x1)).toInt64, .int (0 : Int32), .ref (204 : Nat)])) (h' := (zt_T L, zt_R, (w_N_person M x0 x1), J, e)) (fun _ => rfl)).trans ?_
    refine zl_lastore (i := 0) rfl rfl (by decide) rfl (by decide) ?_
    refine (zz_go 2 (fr' := (zm_W_person, d + 11, 22, [some (.ref (1 : Nat)), some (.int x0), some (.int x1), some (.ref (204 : Nat)), none], [.int (0 : Int32)])) (h' := (zt_T L, zt_R, (w_N_person M x0 x1), (zz_up J 204 0 ((v_N_person M x0 x1)).toInt64), e)) (fun _ => rfl)).trans ?_
    refine zl_retI rfl rfl ?_
    rfl
  · rw [h0]
    refine zl_hn (L2 := [some (.ref (1 : Nat)), some (.int x0), some (.int x1), some (.ref (204 : Nat)), none]) rfl rfl rfl rfl ?_
    refine (zz_go 1 (fr' := (zm_W_person, d + 11, 16, [some (.ref (1 : Nat)), some (.int x0), some (.int x1), some (.ref (204 : Nat)), none], [.int (1 : Int32)])) (h' := (zt_T L, zt_R, (w_N_person M x0 x1), J, (e + 1))) (fun _ => rfl)).trans ?_
    refine zl_retI rfl rfl ?_
    rfl
  · rw [h0]
    refine zl_hn (L2 := [some (.ref (1 : Nat)), some (.int x0), some (.int x1), some (.ref (204 : Nat)), none]) rfl rfl rfl rfl ?_
    refine (zz_go 1 (fr' := (zm_W_person, d + 11, 20, [some (.ref (1 : Nat)), some (.int x0), some (.int x1), some (.ref (204 : Nat)), none], [.int (2 : Int32)])) (h' := (zt_T L, zt_R, (w_N_person M x0 x1), J, (e + 1))) (fun _ => rfl)).trans ?_
    refine zl_retI rfl rfl ?_
    rfl
set_option maxRecDepth 20000 in
theorem s_W_mark (L e : Nat) (J : zJem) (d : Nat) (M : zMem) (x0 : Int32) (x1 : Int32) (k0 : ok_N_mark M x0 x1) (ht : (t_N_mark M x0 x1) = 0 ∨ (t_N_mark M x0 x1) = 3) : zz_D (zm_W_mark, d + 10, 0, [some (.ref (1 : Nat)), some (.int x0), some (.int x1), some (.ref (204 : Nat)), none], []) (zt_T L, zt_R, M, J, e) = some (.inl (some (.int (zcd [2] (t_N_mark M x0 x1)))), (zt_T L, zt_R, M, (zj (t_N_mark M x0 x1) J (zbl (v_N_mark M x0 x1))), zx_e (t_N_mark M x0 x1) e)) := by
  refine (zz_go 5 (fr' := (zm_W_mark, d + 10, 5, [some (.ref (1 : Nat)), some (.int x0), some (.int x1), some (.ref (204 : Nat)), none], [.int x1, .int x0, .ref (1 : Nat), .int (0 : Int32), .ref (204 : Nat)])) (h' := (zt_T L, zt_R, M, J, e)) (fun _ => rfl)).trans ?_
  refine zl_vt (d := d + 9) rfl rfl rfl rfl rfl rfl rfl rfl rfl rfl (s_N_mark L e J d M x0 x1 k0) ?_
  rcases ht with h0 | h0
  · rw [h0]
    show zz_D (zm_W_mark, d + 10, 8, [some (.ref (1 : Nat)), some (.int x0), some (.int x1), some (.ref (204 : Nat)), none], [.int (zb (v_N_mark M x0 x1)), .int (0 : Int32), .ref (204 : Nat)]) (zt_T L, zt_R, M, J, e) = _
    rcases zz_bc (v_N_mark M x0 x1) with h1 | h1
    · refine zq_eT rfl h1 ?_
      refine (zz_go 2 (fr' := (zm_W_mark, d + 10, 16, [some (.ref (1 : Nat)), some (.int x0), some (.int x1), some (.ref (204 : Nat)), none], [.long (Int64.ofNat 1), .int (0 : Int32), .ref (204 : Nat)])) (h' := (zt_T L, zt_R, M, J, e)) (fun _ => rfl)).trans ?_
      refine zl_lastore (i := 0) rfl rfl (by decide) rfl (by decide) ?_
      refine (zz_go 2 (fr' := (zm_W_mark, d + 10, 25, [some (.ref (1 : Nat)), some (.int x0), some (.int x1), some (.ref (204 : Nat)), none], [.int (0 : Int32)])) (h' := (zt_T L, zt_R, M, (zz_up J 204 0 (Int64.ofNat 1)), e)) (fun _ => rfl)).trans ?_
      refine zl_retI rfl rfl ?_
      rw [h1]
      rfl
    · refine zq_eF rfl h1 ?_
      refine (zz_go 1 (fr' := (zm_W_mark, d + 10, 16, [some (.ref (1 : Nat)), some (.int x0), some (.int x1), some (.ref (204 : Nat)), none], [.long (Int64.ofNat 0), .int (0 : Int32), .ref (204 : Nat)])) (h' := (zt_T L, zt_R, M, J, e)) (fun _ => rfl)).trans ?_
      refine zl_lastore (i := 0) rfl rfl (by decide) rfl (by decide) ?_
      refine (zz_go 2 (fr' := (zm_W_mark, d + 10, 25, [some (.ref (1 : Nat)), some (.int x0), some (.int x1), some (.ref (204 : Nat)), none], [.int (0 : Int32)])) (h' := (zt_T L, zt_R, M, (zz_up J 204 0 (Int64.ofNat 0)), e)) (fun _ => rfl)).trans ?_
      refine zl_retI rfl rfl ?_
      rw [h1]
      rfl
  · rw [h0]
    refine zl_hn (L2 := [some (.ref (1 : Nat)), some (.int x0), some (.int x1), some (.ref (204 : Nat)), none]) rfl rfl rfl rfl ?_
    refine (zz_go 1 (fr' := (zm_W_mark, d + 10, 23, [some (.ref (1 : Nat)), some (.int x0), some (.int x1), some (.ref (204 : Nat)), none], [.int (1 : Int32)])) (h' := (zt_T L, zt_R, M, J, (e + 1))) (fun _ => rfl)).trans ?_
    refine zl_retI rfl rfl ?_
    rfl
set_option maxRecDepth 20000 in
theorem s_W_years (L e : Nat) (J : zJem) (d : Nat) (M : zMem) (x0 : Int32) (k0 : ok_N_years M x0) (ht : (t_N_years M x0) = 0 ∨ (t_N_years M x0) = 1) : zz_D (zm_W_years, d + 11, 0, [some (.ref (1 : Nat)), some (.int x0), some (.ref (204 : Nat)), none], []) (zt_T L, zt_R, M, J, e) = some (.inl (some (.int (zcd [0] (t_N_years M x0)))), (zt_T L, zt_R, (w_N_years M x0), (zj (t_N_years M x0) J ((v_N_years M x0)).toInt64), zx_e (t_N_years M x0) e)) := by
  refine (zz_go 4 (fr' := (zm_W_years, d + 11, 4, [some (.ref (1 : Nat)), some (.int x0), some (.ref (204 : Nat)), none], [.int x0, .ref (1 : Nat), .int (0 : Int32), .ref (204 : Nat)])) (h' := (zt_T L, zt_R, M, J, e)) (fun _ => rfl)).trans ?_
  refine zl_vt (d := d + 10) rfl rfl rfl rfl rfl rfl rfl rfl rfl rfl (s_N_years L e J d M x0 k0) ?_
  rcases ht with h0 | h0
  · rw [h0]
    show zz_D (zm_W_years, d + 11, 7, [some (.ref (1 : Nat)), some (.int x0), some (.ref (204 : Nat)), none], [.int (v_N_years M x0), .int (0 : Int32), .ref (204 : Nat)]) (zt_T L, zt_R, (w_N_years M x0), J, e) = _
    refine (zz_go 1 (fr' := (zm_W_years, d + 11, 8, [some (.ref (1 : Nat)), some (.int x0), some (.ref (204 : Nat)), none], [.long ((v_N_years M x0)).toInt64, .int (0 : Int32), .ref (204 : Nat)])) (h' := (zt_T L, zt_R, (w_N_years M x0), J, e)) (fun _ => rfl)).trans ?_
    refine zl_lastore (i := 0) rfl rfl (by decide) rfl (by decide) ?_
    refine (zz_go 2 (fr' := (zm_W_years, d + 11, 16, [some (.ref (1 : Nat)), some (.int x0), some (.ref (204 : Nat)), none], [.int (0 : Int32)])) (h' := (zt_T L, zt_R, (w_N_years M x0), (zz_up J 204 0 ((v_N_years M x0)).toInt64), e)) (fun _ => rfl)).trans ?_
    refine zl_retI rfl rfl ?_
    rfl
  · rw [h0]
    refine zl_hnn (L2 := [some (.ref (1 : Nat)), some (.int x0), some (.ref (204 : Nat)), none]) rfl rfl rfl rfl ?_
    refine (zz_go 1 (fr' := (zm_W_years, d + 11, 14, [some (.ref (1 : Nat)), some (.int x0), some (.ref (204 : Nat)), none], [.int (1 : Int32)])) (h' := (zt_T L, zt_R, (w_N_years M x0), J, (e + 1))) (fun _ => rfl)).trans ?_
    refine zl_retI rfl rfl ?_
    rfl
set_option maxRecDepth 20000 in
theorem s_W_rub (L e : Nat) (J : zJem) (d : Nat) (M : zMem) (x0 : Int32) (x1 : Int32) (k0 : ok_N_rub M x0 x1) (ht : (t_N_rub M x0 x1) = 0 ∨ (t_N_rub M x0 x1) = 3 ∨ (t_N_rub M x0 x1) = 5) : zz_D (zm_W_rub, d + 11, 0, [some (.ref (1 : Nat)), some (.int x0), some (.int x1), some (.ref (204 : Nat)), none], []) (zt_T L, zt_R, M, J, e) = some (.inl (some (.int (zcd [2, 4] (t_N_rub M x0 x1)))), (zt_T L, zt_R, (w_N_rub M x0 x1), (zj (t_N_rub M x0 x1) J (zbl (v_N_rub M x0 x1))), zx_e (t_N_rub M x0 x1) e)) := by
  refine (zz_go 5 (fr' := (zm_W_rub, d + 11, 5, [some (.ref (1 : Nat)), some (.int x0), some (.int x1), some (.ref (204 : Nat)), none], [.int x1, .int x0, .ref (1 : Nat), .int (0 : Int32), .ref (204 : Nat)])) (h' := (zt_T L, zt_R, M, J, e)) (fun _ => rfl)).trans ?_
  refine zl_vt (d := d + 10) rfl rfl rfl rfl rfl rfl rfl rfl rfl rfl (s_N_rub L e J d M x0 x1 k0) ?_
  rcases ht with h0 | h0 | h0
  · rw [h0]
    show zz_D (zm_W_rub, d + 11, 8, [some (.ref (1 : Nat)), some (.int x0), some (.int x1), some (.ref (204 : Nat)), none], [.int (zb (v_N_rub M x0 x1)), .int (0 : Int32), .ref (204 : Nat)]) (zt_T L, zt_R, (w_N_rub M x0 x1), J, e) = _
    rcases zz_bc (v_N_rub M x0 x1) with h1 | h1
    · refine zq_eT rfl h1 ?_
      refine (zz_go 2 (fr' := (zm_W_rub, d + 11, 16, [some (.ref (1 : Nat)), some (.int x0), some (.int x1), some (.ref (204 : Nat)), none], [.long (Int64.ofNat 1), .int (0 : Int32), .ref (204 : Nat)])) (h' := (zt_T L, zt_R, (w_N_rub M x0 x1), J, e)) (fun _ => rfl)).trans ?_
      refine zl_lastore (i := 0) rfl rfl (by decide) rfl (by decide) ?_
      refine (zz_go 2 (fr' := (zm_W_rub, d + 11, 29, [some (.ref (1 : Nat)), some (.int x0), some (.int x1), some (.ref (204 : Nat)), none], [.int (0 : Int32)])) (h' := (zt_T L, zt_R, (w_N_rub M x0 x1), (zz_up J 204 0 (Int64.ofNat 1)), e)) (fun _ => rfl)).trans ?_
      refine zl_retI rfl rfl ?_
      rw [h1]
      rfl
    · refine zq_eF rfl h1 ?_
      refine (zz_go 1 (fr' := (zm_W_rub, d + 11, 16, [some (.ref (1 : Nat)), some (.int x0), some (.int x1), some (.ref (204 : Nat)), none], [.long (Int64.ofNat 0), .int (0 : Int32), .ref (204 : Nat)])) (h' := (zt_T L, zt_R, (w_N_rub M x0 x1), J, e)) (fun _ => rfl)).trans ?_
      refine zl_lastore (i := 0) rfl rfl (by decide) rfl (by decide) ?_
      refine (zz_go 2 (fr' := (zm_W_rub, d + 11, 29, [some (.ref (1 : Nat)), some (.int x0), some (.int x1), some (.ref (204 : Nat)), none], [.int (0 : Int32)])) (h' := (zt_T L, zt_R, (w_N_rub M x0 x1), (zz_up J 204 0 (Int64.ofNat 0)), e)) (fun _ => rfl)).trans ?_
      refine zl_retI rfl rfl ?_
      rw [h1]
      rfl
  · rw [h0]
    refine zl_hn (L2 := [some (.ref (1 : Nat)), some (.int x0), some (.int x1), some (.ref (204 : Nat)), none]) rfl rfl rfl rfl ?_
    refine (zz_go 1 (fr' := (zm_W_rub, d + 11, 23, [some (.ref (1 : Nat)), some (.int x0), some (.int x1), some (.ref (204 : Nat)), none], [.int (1 : Int32)])) (h' := (zt_T L, zt_R, (w_N_rub M x0 x1), J, (e + 1))) (fun _ => rfl)).trans ?_
    refine zl_retI rfl rfl ?_
    rfl
  · rw [h0]
    refine zl_hn (L2 := [some (.ref (1 : Nat)), some (.int x0), some (.int x1), some (.ref (204 : Nat)), none]) rfl rfl rfl rfl ?_
    refine (zz_go 1 (fr' := (zm_W_rub, d + 11, 27, [some (.ref (1 : Nat)), some (.int x0), some (.int x1), some (.ref (204 : Nat)), none], [.int (2 : Int32)])) (h' := (zt_T L, zt_R, (w_N_rub M x0 x1), J, (e + 1))) (fun _ => rfl)).trans ?_
    refine zl_retI rfl rfl ?_
    rfl
set_option maxRecDepth 20000 in
theorem s_W_ink (L e : Nat) (J : zJem) (d : Nat) (M : zMem) (x0 : Int32) (x1 : Int32) (k0 : ok_N_ink M x0 x1) (ht : (t_N_ink M x0 x1) = 0 ∨ (t_N_ink M x0 x1) = 3 ∨ (t_N_ink M x0 x1) = 5) : zz_D (zm_W_ink, d + 11, 0, [some (.ref (1 : Nat)), some (.int x0), some (.int x1), some (.ref (204 : Nat)), none], []) (zt_T L, zt_R, M, J, e) = some (.inl (some (.int (zcd [2, 4] (t_N_ink M x0 x1)))), (zt_T L, zt_R, (w_N_ink M x0 x1), (zj (t_N_ink M x0 x1) J ((v_N_ink M x0 x1)).toInt64), zx_e (t_N_ink M x0 x1) e)) := by
  refine (zz_go 5 (fr' := (zm_W_ink, d + 11, 5, [some (.ref (1 : Nat)), some (.int x0), some (.int x1), some (.ref (204 : Nat)), none], [.int x1, .int x0, .ref (1 : Nat), .int (0 : Int32), .ref (204 : Nat)])) (h' := (zt_T L, zt_R, M, J, e)) (fun _ => rfl)).trans ?_
  refine zl_vt (d := d + 10) rfl rfl rfl rfl rfl rfl rfl rfl rfl rfl (s_N_ink L e J d M x0 x1 k0) ?_
  rcases ht with h0 | h0 | h0
  · rw [h0]
    show zz_D (zm_W_ink, d + 11, 8, [some (.ref (1 : Nat)), some (.int x0), some (.int x1), some (.ref (204 : Nat)), none], [.int (v_N_ink M x0 x1), .int (0 : Int32), .ref (204 : Nat)]) (zt_T L, zt_R, (w_N_ink M x0 x1), J, e) = _
    refine (zz_go 1 (fr' := (zm_W_ink, d + 11, 9, [some (.ref (1 : Nat)), some (.int x0), some (.int x1), some (.ref (204 : Nat)), none], [.long ((v_N_ink M x0 x1)).toInt64, .int (0 : Int32), .ref (204 : Nat)])) (h' := (zt_T L, zt_R, (w_N_ink M x0 x1), J, e)) (fun _ => rfl)).trans ?_
    refine zl_lastore (i := 0) rfl rfl (by decide) rfl (by decide) ?_
    refine (zz_go 2 (fr' := (zm_W_ink, d + 11, 22, [some (.ref (1 : Nat)), some (.int x0), some (.int x1), some (.ref (204 : Nat)), none], [.int (0 : Int32)])) (h' := (zt_T L, zt_R, (w_N_ink M x0 x1), (zz_up J 204 0 ((v_N_ink M x0 x1)).toInt64), e)) (fun _ => rfl)).trans ?_
    refine zl_retI rfl rfl ?_
    rfl
  · rw [h0]
    refine zl_hn (L2 := [some (.ref (1 : Nat)), some (.int x0), some (.int x1), some (.ref (204 : Nat)), none]) rfl rfl rfl rfl ?_
    refine (zz_go 1 (fr' := (zm_W_ink, d + 11, 16, [some (.ref (1 : Nat)), some (.int x0), some (.int x1), some (.ref (204 : Nat)), none], [.int (1 : Int32)])) (h' := (zt_T L, zt_R, (w_N_ink M x0 x1), J, (e + 1))) (fun _ => rfl)).trans ?_
    refine zl_retI rfl rfl ?_
    rfl
  · rw [h0]
    refine zl_hn (L2 := [some (.ref (1 : Nat)), some (.int x0), some (.int x1), some (.ref (204 : Nat)), none]) rfl rfl rfl rfl ?_
    refine (zz_go 1 (fr' := (zm_W_ink, d + 11, 20, [some (.ref (1 : Nat)), some (.int x0), some (.int x1), some (.ref (204 : Nat)), none], [.int (2 : Int32)])) (h' := (zt_T L, zt_R, (w_N_ink M x0 x1), J, (e + 1))) (fun _ => rfl)).trans ?_
    refine zl_retI rfl rfl ?_
    rfl
set_option maxRecDepth 20000 in
theorem s_W_wash (L e : Nat) (J : zJem) (d : Nat) (M : zMem) (x0 : Int32) (k0 : ok_N_wash M x0) (ht : (t_N_wash M x0) = 0 ∨ (t_N_wash M x0) = 3) : zz_D (zm_W_wash, d + 11, 0, [some (.ref (1 : Nat)), some (.int x0), some (.ref (204 : Nat)), none], []) (zt_T L, zt_R, M, J, e) = some (.inl (some (.int (zcd [2] (t_N_wash M x0)))), (zt_T L, zt_R, (w_N_wash M x0), (zj (t_N_wash M x0) J ((v_N_wash M x0)).toInt64), zx_e (t_N_wash M x0) e)) := by
  refine (zz_go 4 (fr' := (zm_W_wash, d + 11, 4, [some (.ref (1 : Nat)), some (.int x0), some (.ref (204 : Nat)), none], [.int x0, .ref (1 : Nat), .int (0 : Int32), .ref (204 : Nat)])) (h' := (zt_T L, zt_R, M, J, e)) (fun _ => rfl)).trans ?_
  refine zl_vt (d := d + 10) rfl rfl rfl rfl rfl rfl rfl rfl rfl rfl (s_N_wash L e J d M x0 k0) ?_
  rcases ht with h0 | h0
  · rw [h0]
    show zz_D (zm_W_wash, d + 11, 7, [some (.ref (1 : Nat)), some (.int x0), some (.ref (204 : Nat)), none], [.int (v_N_wash M x0), .int (0 : Int32), .ref (204 : Nat)]) (zt_T L, zt_R, (w_N_wash M x0), J, e) = _
    refine (zz_go 1 (fr' := (zm_W_wash, d + 11, 8, [some (.ref (1 : Nat)), some (.int x0), some (.ref (204 : Nat)), none], [.long ((v_N_wash M x0)).toInt64, .int (0 : Int32), .ref (204 : Nat)])) (h' := (zt_T L, zt_R, (w_N_wash M x0), J, e)) (fun _ => rfl)).trans ?_
    refine zl_lastore (i := 0) rfl rfl (by decide) rfl (by decide) ?_
    refine (zz_go 2 (fr' := (zm_W_wash, d + 11, 16, [some (.ref (1 : Nat)), some (.int x0), some (.ref (204 : Nat)), none], [.int (0 : Int32)])) (h' := (zt_T L, zt_R, (w_N_wash M x0), (zz_up J 204 0 ((v_N_wash M x0)).toInt64), e)) (fun _ => rfl)).trans ?_
    refine zl_retI rfl rfl ?_
    rfl
  · rw [h0]
    refine zl_hnn (L2 := [some (.ref (1 : Nat)), some (.int x0), some (.ref (204 : Nat)), none]) rfl rfl rfl rfl ?_
    refine (zz_go 1 (fr' := (zm_W_wash, d + 11, 14, [some (.ref (1 : Nat)), some (.int x0), some (.ref (204 : Nat)), none], [.int (1 : Int32)])) (h' := (zt_T L, zt_R, (w_N_wash M x0), J, (e + 1))) (fun _ => rfl)).trans ?_
    refine zl_retI rfl rfl ?_
    rfl
set_option maxRecDepth 20000 in
theorem s_W_told (L e : Nat) (J : zJem) (d : Nat) (M : zMem) (x0 : Int32) (x1 : Int32) (k0 : ok_N_told M x0 x1) (ht : (t_N_told M x0 x1) = 0 ∨ (t_N_told M x0 x1) = 3) : zz_D (zm_W_told, d + 11, 0, [some (.ref (1 : Nat)), some (.int x0), some (.int x1), some (.ref (204 : Nat)), none], []) (zt_T L, zt_R, M, J, e) = some (.inl (some (.int (zcd [2] (t_N_told M x0 x1)))), (zt_T L, zt_R, (w_N_told M x0 x1), (zj (t_N_told M x0 x1) J ((v_N_told M x0 x1)).toInt64), zx_e (t_N_told M x0 x1) e)) := by
  refine (zz_go 5 (fr' := (zm_W_told, d + 11, 5, [some (.ref (1 : Nat)), some (.int x0), some (.int x1), some (.ref (204 : Nat)), none], [.int x1, .int x0, .ref (1 : Nat), .int (0 : Int32), .ref (204 : Nat)])) (h' := (zt_T L, zt_R, M, J, e)) (fun _ => rfl)).trans ?_
  refine zl_vt (d := d + 10) rfl rfl rfl rfl rfl rfl rfl rfl rfl rfl (s_N_told L e J d M x0 x1 k0) ?_
  rcases ht with h0 | h0
  · rw [h0]
    show zz_D (zm_W_told, d + 11, 8, [some (.ref (1 : Nat)), some (.int x0), some (.int x1), some (.ref (204 : Nat)), none], [.int (v_N_told M x0 x1), .int (0 : Int32), .ref (204 : Nat)]) (zt_T L, zt_R, (w_N_told M x0 x1), J, e) = _
    refine (zz_go 1 (fr' := (zm_W_told, d + 11, 9, [some (.ref (1 : Nat)), some (.int x0), some (.int x1), some (.ref (204 : Nat)), none], [.long ((v_N_told M x0 x1)).toInt64, .int (0 : Int32), .ref (204 : Nat)])) (h' := (zt_T L, zt_R, (w_N_told M x0 x1), J, e)) (fun _ => rfl)).trans ?_
    refine zl_lastore (i := 0) rfl rfl (by decide) rfl (by decide) ?_
    refine (zz_go 2 (fr' := (zm_W_told, d + 11, 18, [some (.ref (1 : Nat)), some (.int x0), some (.int x1), some (.ref (204 : Nat)), none], [.int (0 : Int32)])) (h' := (zt_T L, zt_R, (w_N_told M x0 x1), (zz_up J 204 0 ((v_N_told M x0 x1)).toInt64), e)) (fun _ => rfl)).trans ?_
    refine zl_retI rfl rfl ?_
    rfl
  · rw [h0]
    refine zl_hn (L2 := [some (.ref (1 : Nat)), some (.int x0), some (.int x1), some (.ref (204 : Nat)), none]) rfl rfl rfl rfl ?_
    refine (zz_go 1 (fr' := (zm_W_told, d + 11, 16, [some (.ref (1 : Nat)), some (.int x0), some (.int x1), some (.ref (204 : Nat)), none], [.int (1 : Int32)])) (h' := (zt_T L, zt_R, (w_N_told M x0 x1), J, (e + 1))) (fun _ => rfl)).trans ?_
    refine zl_retI rfl rfl ?_
    rfl
set_option maxRecDepth 20000 in
theorem s_W_hold (L e : Nat) (J : zJem) (d : Nat) (M : zMem) (x0 : Int32) (x1 : Int32) (k0 : ok_N_hold M x0 x1) (ht : (t_N_hold M x0 x1) = 0 ∨ (t_N_hold M x0 x1) = 3) : zz_D (zm_W_hold, d + 11, 0, [some (.ref (1 : Nat)), some (.int x0), some (.int x1), some (.ref (204 : Nat)), none], []) (zt_T L, zt_R, M, J, e) = some (.inl (some (.int (zcd [2] (t_N_hold M x0 x1)))), (zt_T L, zt_R, (w_N_hold M x0 x1), (zj (t_N_hold M x0 x1) J ((v_N_hold M x0 x1)).toInt64), zx_e (t_N_hold M x0 x1) e)) := by
  refine (zz_go 5 (fr' := (zm_W_hold, d + 11, 5, [some (.ref (1 : Nat)), some (.int x0), some (.int x1), some (.ref (204 : Nat)), none], [.int x1, .int x0, .ref (1 : Nat), .int (0 : Int32), .ref (204 : Nat)])) (h' := (zt_T L, zt_R, M, J, e)) (fun _ => rfl)).trans ?_
  refine zl_vt (d := d + 10) rfl rfl rfl rfl rfl rfl rfl rfl rfl rfl (s_N_hold L e J d M x0 x1 k0) ?_
  rcases ht with h0 | h0
  · rw [h0]
    show zz_D (zm_W_hold, d + 11, 8, [some (.ref (1 : Nat)), some (.int x0), some (.int x1), some (.ref (204 : Nat)), none], [.int (v_N_hold M x0 x1), .int (0 : Int32), .ref (204 : Nat)]) (zt_T L, zt_R, (w_N_hold M x0 x1), J, e) = _
    refine (zz_go 1 (fr' := (zm_W_hold, d + 11, 9, [some (.ref (1 : Nat)), some (.int x0), some (.int x1), some (.ref (204 : Nat)), none], [.long ((v_N_hold M x0 x1)).toInt64, .int (0 : Int32), .ref (204 : Nat)])) (h' := (zt_T L, zt_R, (w_N_hold M x0 x1), J, e)) (fun _ => rfl)).trans ?_
    refine zl_lastore (i := 0) rfl rfl (by decide) rfl (by decide) ?_
    refine (zz_go 2 (fr' := (zm_W_hold, d + 11, 18, [some (.ref (1 : Nat)), some (.int x0), some (.int x1), some (.ref (204 : Nat)), none], [.int (0 : Int32)])) (h' := (zt_T L, zt_R, (w_N_hold M x0 x1), (zz_up J 204 0 ((v_N_hold M x0 x1)).toInt64), e)) (fun _ => rfl)).trans ?_
    refine zl_retI rfl rfl ?_
    rfl
  · rw [h0]
    refine zl_hn (L2 := [some (.ref (1 : Nat)), some (.int x0), some (.int x1), some (.ref (204 : Nat)), none]) rfl rfl rfl rfl ?_
    refine (zz_go 1 (fr' := (zm_W_hold, d + 11, 16, [some (.ref (1 : Nat)), some (.int x0), some (.int x1), some (.ref (204 : Nat)), none], [.int (1 : Int32)])) (h' := (zt_T L, zt_R, (w_N_hold M x0 x1), J, (e + 1))) (fun _ => rfl)).trans ?_
    refine zl_retI rfl rfl ?_
    rfl
set_option maxRecDepth 20000 in
theorem s_W_does (L e : Nat) (J : zJem) (d : Nat) (M : zMem) (x0 : Int32) (x1 : Int32) (k0 : ok_N_does M x0 x1) (ht : (t_N_does M x0 x1) = 0 ∨ (t_N_does M x0 x1) = 3 ∨ (t_N_does M x0 x1) = 5) : zz_D (zm_W_does, d + 11, 0, [some (.ref (1 : Nat)), some (.int x0), some (.int x1), some (.ref (204 : Nat)), none], []) (zt_T L, zt_R, M, J, e) = some (.inl (some (.int (zcd [2, 4] (t_N_does M x0 x1)))), (zt_T L, zt_R, (w_N_does M x0 x1), (zj (t_N_does M x0 x1) J ((v_N_does M x0 x1)).toInt64), zx_e (t_N_does M x0 x1) e)) := by
  refine (zz_go 5 (fr' := (zm_W_does, d + 11, 5, [some (.ref (1 : Nat)), some (.int x0), some (.int x1), some (.ref (204 : Nat)), none], [.int x1, .int x0, .ref (1 : Nat), .int (0 : Int32), .ref (204 : Nat)])) (h' := (zt_T L, zt_R, M, J, e)) (fun _ => rfl)).trans ?_
  refine zl_vt (d := d + 10) rfl rfl rfl rfl rfl rfl rfl rfl rfl rfl (s_N_does L e J d M x0 x1 k0) ?_
  rcases ht with h0 | h0 | h0
  · rw [h0]
    show zz_D (zm_W_does, d + 11, 8, [some (.ref (1 : Nat)), some (.int x0), some (.int x1), some (.ref (204 : Nat)), none], [.int (v_N_does M x0 x1), .int (0 : Int32), .ref (204 : Nat)]) (zt_T L, zt_R, (w_N_does M x0 x1), J, e) = _
    refine (zz_go 1 (fr' := (zm_W_does, d + 11, 9, [some (.ref (1 : Nat)), some (.int x0), some (.int x1), some (.ref (204 : Nat)), none], [.long ((v_N_does M x0 x1)).toInt64, .int (0 : Int32), .ref (204 : Nat)])) (h' := (zt_T L, zt_R, (w_N_does M x0 x1), J, e)) (fun _ => rfl)).trans ?_
    refine zl_lastore (i := 0) rfl rfl (by decide) rfl (by decide) ?_
    refine (zz_go 2 (fr' := (zm_W_does, d + 11, 22, [some (.ref (1 : Nat)), some (.int x0), some (.int x1), some (.ref (204 : Nat)), none], [.int (0 : Int32)])) (h' := (zt_T L, zt_R, (w_N_does M x0 x1), (zz_up J 204 0 ((v_N_does M x0 x1)).toInt64), e)) (fun _ => rfl)).trans ?_
    refine zl_retI rfl rfl ?_
    rfl
  · rw [h0]
    refine zl_hn (L2 := [some (.ref (1 : Nat)), some (.int x0), some (.int x1), some (.ref (204 : Nat)), none]) rfl rfl rfl rfl ?_
    refine (zz_go 1 (fr' := (zm_W_does, d + 11, 16, [some (.ref (1 : Nat)), some (.int x0), some (.int x1), some (.ref (204 : Nat)), none], [.int (1 : Int32)])) (h' := (zt_T L, zt_R, (w_N_does M x0 x1), J, (e + 1))) (fun _ => rfl)).trans ?_
    refine zl_retI rfl rfl ?_
    rfl
  · rw [h0]
    refine zl_hn (L2 := [some (.ref (1 : Nat)), some (.int x0), some (.int x1), some (.ref (204 : Nat)), none]) rfl rfl rfl rfl ?_
    refine (zz_go 1 (fr' := (zm_W_does, d + 11, 20, [some (.ref (1 : Nat)), some (.int x0), some (.int x1), some (.ref (204 : Nat)), none], [.int (2 : Int32)])) (h' := (zt_T L, zt_R, (w_N_does M x0 x1), J, (e + 1))) (fun _ => rfl)).trans ?_
    refine zl_retI rfl rfl ?_
    rfl
set_option maxRecDepth 20000 in
theorem s_W_luck (L e : Nat) (J : zJem) (d : Nat) (M : zMem) (x0 : Int32) (x1 : Int32) (k0 : ok_N_luck M x0 x1) (ht : (t_N_luck M x0 x1) = 0 ∨ (t_N_luck M x0 x1) = 3 ∨ (t_N_luck M x0 x1) = 1) : zz_D (zm_W_luck, d + 11, 0, [some (.ref (1 : Nat)), some (.int x0), some (.int x1), some (.ref (204 : Nat)), none], []) (zt_T L, zt_R, M, J, e) = some (.inl (some (.int (zcd [2, 0] (t_N_luck M x0 x1)))), (zt_T L, zt_R, (w_N_luck M x0 x1), (zj (t_N_luck M x0 x1) J ((v_N_luck M x0 x1)).toInt64), zx_e (t_N_luck M x0 x1) e)) := by
  refine (zz_go 5 (fr' := (zm_W_luck, d + 11, 5, [some (.ref (1 : Nat)), some (.int x0), some (.int x1), some (.ref (204 : Nat)), none], [.int x1, .int x0, .ref (1 : Nat), .int (0 : Int32), .ref (204 : Nat)])) (h' := (zt_T L, zt_R, M, J, e)) (fun _ => rfl)).trans ?_
  refine zl_vt (d := d + 10) rfl rfl rfl rfl rfl rfl rfl rfl rfl rfl (s_N_luck L e J d M x0 x1 k0) ?_
  rcases ht with h0 | h0 | h0
  · rw [h0]
    show zz_D (zm_W_luck, d + 11, 8, [some (.ref (1 : Nat)), some (.int x0), some (.int x1), some (.ref (204 : Nat)), none], [.int (v_N_luck M x0 x1), .int (0 : Int32), .ref (204 : Nat)]) (zt_T L, zt_R, (w_N_luck M x0 x1), J, e) = _
    refine (zz_go 1 (fr' := (zm_W_luck, d + 11, 9, [some (.ref (1 : Nat)), some (.int x0), some (.int x1), some (.ref (204 : Nat)), none], [.long ((v_N_luck M x0 x1)).toInt64, .int (0 : Int32), .ref (204 : Nat)])) (h' := (zt_T L, zt_R, (w_N_luck M x0 x1), J, e)) (fun _ => rfl)).trans ?_
    refine zl_lastore (i := 0) rfl rfl (by decide) rfl (by decide) ?_
    refine (zz_go 2 (fr' := (zm_W_luck, d + 11, 22, [some (.ref (1 : Nat)), some (.int x0), some (.int x1), some (.ref (204 : Nat)), none], [.int (0 : Int32)])) (h' := (zt_T L, zt_R, (w_N_luck M x0 x1), (zz_up J 204 0 ((v_N_luck M x0 x1)).toInt64), e)) (fun _ => rfl)).trans ?_
    refine zl_retI rfl rfl ?_
    rfl
  · rw [h0]
    refine zl_hn (L2 := [some (.ref (1 : Nat)), some (.int x0), some (.int x1), some (.ref (204 : Nat)), none]) rfl rfl rfl rfl ?_
    refine (zz_go 1 (fr' := (zm_W_luck, d + 11, 16, [some (.ref (1 : Nat)), some (.int x0), some (.int x1), some (.ref (204 : Nat)), none], [.int (1 : Int32)])) (h' := (zt_T L, zt_R, (w_N_luck M x0 x1), J, (e + 1))) (fun _ => rfl)).trans ?_
    refine zl_retI rfl rfl ?_
    rfl
  · rw [h0]
    refine zl_hn (L2 := [some (.ref (1 : Nat)), some (.int x0), some (.int x1), some (.ref (204 : Nat)), none]) rfl rfl rfl rfl ?_
    refine (zz_go 1 (fr' := (zm_W_luck, d + 11, 20, [some (.ref (1 : Nat)), some (.int x0), some (.int x1), some (.ref (204 : Nat)), none], [.int (2 : Int32)])) (h' := (zt_T L, zt_R, (w_N_luck M x0 x1), J, (e + 1))) (fun _ => rfl)).trans ?_
    refine zl_retI rfl rfl ?_
    rfl
set_option maxRecDepth 20000 in
theorem s_W_fill (L e : Nat) (J : zJem) (d : Nat) (M : zMem) (x0 : Int32) (k0 : ok_N_fill M x0) (ht : (t_N_fill M x0) = 0 ∨ (t_N_fill M x0) = 1) : zz_D (zm_W_fill, d + 11, 0, [some (.ref (1 : Nat)), some (.int x0), some (.ref (204 : Nat)), none], []) (zt_T L, zt_R, M, J, e) = some (.inl (some (.int (zcd [0] (t_N_fill M x0)))), (zt_T L, zt_R, (w_N_fill M x0), (zj (t_N_fill M x0) J ((v_N_fill M x0)).toInt64), zx_e (t_N_fill M x0) e)) := by
  refine (zz_go 4 (fr' := (zm_W_fill, d + 11, 4, [some (.ref (1 : Nat)), some (.int x0), some (.ref (204 : Nat)), none], [.int x0, .ref (1 : Nat), .int (0 : Int32), .ref (204 : Nat)])) (h' := (zt_T L, zt_R, M, J, e)) (fun _ => rfl)).trans ?_
  refine zl_vt (d := d + 10) rfl rfl rfl rfl rfl rfl rfl rfl rfl rfl (s_N_fill L e J d M x0 k0) ?_
  rcases ht with h0 | h0
  · rw [h0]
    show zz_D (zm_W_fill, d + 11, 7, [some (.ref (1 : Nat)), some (.int x0), some (.ref (204 : Nat)), none], [.int (v_N_fill M x0), .int (0 : Int32), .ref (204 : Nat)]) (zt_T L, zt_R, (w_N_fill M x0), J, e) = _
    refine (zz_go 1 (fr' := (zm_W_fill, d + 11, 8, [some (.ref (1 : Nat)), some (.int x0), some (.ref (204 : Nat)), none], [.long ((v_N_fill M x0)).toInt64, .int (0 : Int32), .ref (204 : Nat)])) (h' := (zt_T L, zt_R, (w_N_fill M x0), J, e)) (fun _ => rfl)).trans ?_
    refine zl_lastore (i := 0) rfl rfl (by decide) rfl (by decide) ?_
    refine (zz_go 2 (fr' := (zm_W_fill, d + 11, 16, [some (.ref (1 : Nat)), some (.int x0), some (.ref (204 : Nat)), none], [.int (0 : Int32)])) (h' := (zt_T L, zt_R, (w_N_fill M x0), (zz_up J 204 0 ((v_N_fill M x0)).toInt64), e)) (fun _ => rfl)).trans ?_
    refine zl_retI rfl rfl ?_
    rfl
  · rw [h0]
    refine zl_hnn (L2 := [some (.ref (1 : Nat)), some (.int x0), some (.ref (204 : Nat)), none]) rfl rfl rfl rfl ?_
    refine (zz_go 1 (fr' := (zm_W_fill, d + 11, 14, [some (.ref (1 : Nat)), some (.int x0), some (.ref (204 : Nat)), none], [.int (1 : Int32)])) (h' := (zt_T L, zt_R, (w_N_fill M x0), J, (e + 1))) (fun _ => rfl)).trans ?_
    refine zl_retI rfl rfl ?_
    rfl
set_option maxRecDepth 20000 in
theorem s_W_blank (L e : Nat) (J : zJem) (d : Nat) (M : zMem) (x0 : Int32) (k0 : ok_N_blank M x0) (ht : (t_N_blank M x0) = 0 ∨ (t_N_blank M x0) = 3) : zz_D (zm_W_blank, d + 10, 0, [some (.ref (1 : Nat)), some (.int x0), some (.ref (204 : Nat)), none], []) (zt_T L, zt_R, M, J, e) = some (.inl (some (.int (zcd [2] (t_N_blank M x0)))), (zt_T L, zt_R, M, (zj (t_N_blank M x0) J (zbl (v_N_blank M x0))), zx_e (t_N_blank M x0) e)) := by
  refine (zz_go 4 (fr' := (zm_W_blank, d + 10, 4, [some (.ref (1 : Nat)), some (.int x0), some (.ref (204 : Nat)), none], [.int x0, .ref (1 : Nat), .int (0 : Int32), .ref (204 : Nat)])) (h' := (zt_T L, zt_R, M, J, e)) (fun _ => rfl)).trans ?_
  refine zl_vt (d := d + 9) rfl rfl rfl rfl rfl rfl rfl rfl rfl rfl (s_N_blank L e J d M x0 k0) ?_
  rcases ht with h0 | h0
  · rw [h0]
    show zz_D (zm_W_blank, d + 10, 7, [some (.ref (1 : Nat)), some (.int x0), some (.ref (204 : Nat)), none], [.int (zb (v_N_blank M x0)), .int (0 : Int32), .ref (204 : Nat)]) (zt_T L, zt_R, M, J, e) = _
    rcases zz_bc (v_N_blank M x0) with h1 | h1
    · refine zq_eT rfl h1 ?_
      refine (zz_go 2 (fr' := (zm_W_blank, d + 10, 15, [some (.ref (1 : Nat)), some (.int x0), some (.ref (204 : Nat)), none], [.long (Int64.ofNat 1), .int (0 : Int32), .ref (204 : Nat)])) (h' := (zt_T L, zt_R, M, J, e)) (fun _ => rfl)).trans ?_
      refine zl_lastore (i := 0) rfl rfl (by decide) rfl (by decide) ?_
      refine (zz_go 2 (fr' := (zm_W_blank, d + 10, 23, [some (.ref (1 : Nat)), some (.int x0), some (.ref (204 : Nat)), none], [.int (0 : Int32)])) (h' := (zt_T L, zt_R, M, (zz_up J 204 0 (Int64.ofNat 1)), e)) (fun _ => rfl)).trans ?_
      refine zl_retI rfl rfl ?_
      rw [h1]
      rfl
    · refine zq_eF rfl h1 ?_
      refine (zz_go 1 (fr' := (zm_W_blank, d + 10, 15, [some (.ref (1 : Nat)), some (.int x0), some (.ref (204 : Nat)), none], [.long (Int64.ofNat 0), .int (0 : Int32), .ref (204 : Nat)])) (h' := (zt_T L, zt_R, M, J, e)) (fun _ => rfl)).trans ?_
      refine zl_lastore (i := 0) rfl rfl (by decide) rfl (by decide) ?_
      refine (zz_go 2 (fr' := (zm_W_blank, d + 10, 23, [some (.ref (1 : Nat)), some (.int x0), some (.ref (204 : Nat)), none], [.int (0 : Int32)])) (h' := (zt_T L, zt_R, M, (zz_up J 204 0 (Int64.ofNat 0)), e)) (fun _ => rfl)).trans ?_
      refine zl_retI rfl rfl ?_
      rw [h1]
      rfl
  · rw [h0]
    refine zl_hnn (L2 := [some (.ref (1 : Nat)), some (.int x0), some (.ref (204 : Nat)), none]) rfl rfl rfl rfl ?_
    refine (zz_go 1 (fr' := (zm_W_blank, d + 10, 21, [some (.ref (1 : Nat)), some (.int x0), some (.ref (204 : Nat)), none], [.int (1 : Int32)])) (h' := (zt_T L, zt_R, M, J, (e + 1))) (fun _ => rfl)).trans ?_
    refine zl_retI rfl rfl ?_
    rfl
set_option maxRecDepth 20000 in
theorem s_W_reach (L e : Nat) (J : zJem) (d : Nat) (M : zMem) (x0 : Int32) (x1 : Int32) (x2 : Int32) (k0 : ok_N_reach M x0 x1 x2) (ht : (t_N_reach M x0 x1 x2) = 0 ∨ (t_N_reach M x0 x1 x2) = 3) : zz_D (zm_W_reach, d + 10, 0, [some (.ref (1 : Nat)), some (.int x0), some (.int x1), some (.int x2), some (.ref (204 : Nat)), none], []) (zt_T L, zt_R, M, J, e) = some (.inl (some (.int (zcd [2] (t_N_reach M x0 x1 x2)))), (zt_T L, zt_R, M, (zj (t_N_reach M x0 x1 x2) J ((v_N_reach M x0 x1 x2)).toInt64), zx_e (t_N_reach M x0 x1 x2) e)) := by
  refine (zz_go 6 (fr' := (zm_W_reach, d + 10, 7, [some (.ref (1 : Nat)), some (.int x0), some (.int x1), some (.int x2), some (.ref (204 : Nat)), none], [.int x2, .int x1, .int x0, .ref (1 : Nat), .int (0 : Int32), .ref (204 : Nat)])) (h' := (zt_T L, zt_R, M, J, e)) (fun _ => rfl)).trans ?_
  refine zl_vt (d := d + 9) rfl rfl rfl rfl rfl rfl rfl rfl rfl rfl (s_N_reach L e J d M x0 x1 x2 k0) ?_
  rcases ht with h0 | h0
  · rw [h0]
    show zz_D (zm_W_reach, d + 10, 10, [some (.ref (1 : Nat)), some (.int x0), some (.int x1), some (.int x2), some (.ref (204 : Nat)), none], [.int (v_N_reach M x0 x1 x2), .int (0 : Int32), .ref (204 : Nat)]) (zt_T L, zt_R, M, J, e) = _
    refine (zz_go 1 (fr' := (zm_W_reach, d + 10, 11, [some (.ref (1 : Nat)), some (.int x0), some (.int x1), some (.int x2), some (.ref (204 : Nat)), none], [.long ((v_N_reach M x0 x1 x2)).toInt64, .int (0 : Int32), .ref (204 : Nat)])) (h' := (zt_T L, zt_R, M, J, e)) (fun _ => rfl)).trans ?_
    refine zl_lastore (i := 0) rfl rfl (by decide) rfl (by decide) ?_
    refine (zz_go 2 (fr' := (zm_W_reach, d + 10, 20, [some (.ref (1 : Nat)), some (.int x0), some (.int x1), some (.int x2), some (.ref (204 : Nat)), none], [.int (0 : Int32)])) (h' := (zt_T L, zt_R, M, (zz_up J 204 0 ((v_N_reach M x0 x1 x2)).toInt64), e)) (fun _ => rfl)).trans ?_
    refine zl_retI rfl rfl ?_
    rfl
  · rw [h0]
    refine zl_hn (L2 := [some (.ref (1 : Nat)), some (.int x0), some (.int x1), some (.int x2), some (.ref (204 : Nat)), none]) rfl rfl rfl rfl ?_
    refine (zz_go 1 (fr' := (zm_W_reach, d + 10, 18, [some (.ref (1 : Nat)), some (.int x0), some (.int x1), some (.int x2), some (.ref (204 : Nat)), none], [.int (1 : Int32)])) (h' := (zt_T L, zt_R, M, J, (e + 1))) (fun _ => rfl)).trans ?_
    refine zl_retI rfl rfl ?_
    rfl
set_option maxRecDepth 20000 in
theorem s_W_turned (L e : Nat) (J : zJem) (d : Nat) (M : zMem) (x0 : Int32) (x1 : Int32) (k0 : ok_N_turned M x0 x1) (ht : (t_N_turned M x0 x1) = 0 ∨ (t_N_turned M x0 x1) = 3) : zz_D (zm_W_turned, d + 10, 0, [some (.ref (1 : Nat)), some (.int x0), some (.int x1), some (.ref (204 : Nat)), none], []) (zt_T L, zt_R, M, J, e) = some (.inl (some (.int (zcd [2] (t_N_turned M x0 x1)))), (zt_T L, zt_R, M, (zj (t_N_turned M x0 x1) J ((v_N_turned M x0 x1)).toInt64), zx_e (t_N_turned M x0 x1) e)) := by
  refine (zz_go 5 (fr' := (zm_W_turned, d + 10, 5, [some (.ref (1 : Nat)), some (.int x0), some (.int x1), some (.ref (204 : Nat)), none], [.int x1, .int x0, .ref (1 : Nat), .int (0 : Int32), .ref (204 : Nat)])) (h' := (zt_T L, zt_R, M, J, e)) (fun _ => rfl)).trans ?_
  refine zl_vt (d := d + 9) rfl rfl rfl rfl rfl rfl rfl rfl rfl rfl (s_N_turned L e J d M x0 x1 k0) ?_
  rcases ht with h0 | h0
  · rw [h0]
    show zz_D (zm_W_turned, d + 10, 8, [some (.ref (1 : Nat)), some (.int x0), some (.int x1), some (.ref (204 : Nat)), none], [.int (v_N_turned M x0 x1), .int (0 : Int32), .ref (204 : Nat)]) (zt_T L, zt_R, M, J, e) = _
    refine (zz_go 1 (fr' := (zm_W_turned, d + 10, 9, [some (.ref (1 : Nat)), some (.int x0), some (.int x1), some (.ref (204 : Nat)), none], [.long ((v_N_turned M x0 x1)).toInt64, .int (0 : Int32), .ref (204 : Nat)])) (h' := (zt_T L, zt_R, M, J, e)) (fun _ => rfl)).trans ?_
    refine zl_lastore (i := 0) rfl rfl (by decide) rfl (by decide) ?_
    refine (zz_go 2 (fr' := (zm_W_turned, d + 10, 18, [some (.ref (1 : Nat)), some (.int x0), some (.int x1), some (.ref (204 : Nat)), none], [.int (0 : Int32)])) (h' := (zt_T L, zt_R, M, (zz_up J 204 0 ((v_N_turned M x0 x1)).toInt64), e)) (fun _ => rfl)).trans ?_
    refine zl_retI rfl rfl ?_
    rfl
  · rw [h0]
    refine zl_hn (L2 := [some (.ref (1 : Nat)), some (.int x0), some (.int x1), some (.ref (204 : Nat)), none]) rfl rfl rfl rfl ?_
    refine (zz_go 1 (fr' := (zm_W_turned, d + 10, 16, [some (.ref (1 : Nat)), some (.int x0), some (.int x1), some (.ref (204 : Nat)), none], [.int (1 : Int32)])) (h' := (zt_T L, zt_R, M, J, (e + 1))) (fun _ => rfl)).trans ?_
    refine zl_retI rfl rfl ?_
    rfl
set_option maxRecDepth 20000 in
theorem s_W_shifts (L e : Nat) (J : zJem) (d : Nat) (M : zMem) (x0 : Int32) (x1 : Int32) (b2 : Bool) (k0 : ok_N_shifts M x0 x1 b2) (ht : (t_N_shifts M x0 x1 b2) = 0 ∨ (t_N_shifts M x0 x1 b2) = 3) : zz_D (zm_W_shifts, d + 10, 0, [some (.ref (1 : Nat)), some (.int x0), some (.int x1), some (.int (zb b2)), some (.ref (204 : Nat)), none], []) (zt_T L, zt_R, M, J, e) = some (.inl (some (.int (zcd [2] (t_N_shifts M x0 x1 b2)))), (zt_T L, zt_R, M, (zj (t_N_shifts M x0 x1 b2) J ((v_N_shifts M x0 x1 b2)).toInt64), zx_e (t_N_shifts M x0 x1 b2) e)) := by
  refine (zz_go 6 (fr' := (zm_W_shifts, d + 10, 7, [some (.ref (1 : Nat)), some (.int x0), some (.int x1), some (.int (zb b2)), some (.ref (204 : Nat)), none], [.int (zb b2), .int x1, .int x0, .ref (1 : Nat), .int (0 : Int32), .ref (204 : Nat)])) (h' := (zt_T L, zt_R, M, J, e)) (fun _ => rfl)).trans ?_
  refine zl_vt (d := d + 9) rfl rfl rfl rfl rfl rfl rfl rfl rfl rfl (s_N_shifts L e J d M x0 x1 b2 k0) ?_
  rcases ht with h0 | h0
  · rw [h0]
    show zz_D (zm_W_shifts, d + 10, 10, [some (.ref (1 : Nat)), some (.int x0), some (.int x1), some (.int (zb b2)), some (.ref (204 : Nat)), none], [.int (v_N_shifts M x0 x1 b2), .int (0 : Int32), .ref (204 : Nat)]) (zt_T L, zt_R, M, J, e) = _
    refine (zz_go 1 (fr' := (zm_W_shifts, d + 10, 11, [some (.ref (1 : Nat)), some (.int x0), some (.int x1), some (.int (zb b2)), some (.ref (204 : Nat)), none], [.long ((v_N_shifts M x0 x1 b2)).toInt64, .int (0 : Int32), .ref (204 : Nat)])) (h' := (zt_T L, zt_R, M, J, e)) (fun _ => rfl)).trans ?_
    refine zl_lastore (i := 0) rfl rfl (by decide) rfl (by decide) ?_
    refine (zz_go 2 (fr' := (zm_W_shifts, d + 10, 20, [some (.ref (1 : Nat)), some (.int x0), some (.int x1), some (.int (zb b2)), some (.ref (204 : Nat)), none], [.int (0 : Int32)])) (h' := (zt_T L, zt_R, M, (zz_up J 204 0 ((v_N_shifts M x0 x1 b2)).toInt64), e)) (fun _ => rfl)).trans ?_
    refine zl_retI rfl rfl ?_
    rfl
  · rw [h0]
    refine zl_hn (L2 := [some (.ref (1 : Nat)), some (.int x0), some (.int x1), some (.int (zb b2)), some (.ref (204 : Nat)), none]) rfl rfl rfl rfl ?_
    refine (zz_go 1 (fr' := (zm_W_shifts, d + 10, 18, [some (.ref (1 : Nat)), some (.int x0), some (.int x1), some (.int (zb b2)), some (.ref (204 : Nat)), none], [.int (1 : Int32)])) (h' := (zt_T L, zt_R, M, J, (e + 1))) (fun _ => rfl)).trans ?_
    refine zl_retI rfl rfl ?_
    rfl
set_option maxRecDepth 20000 in
theorem s_W_ring (L e : Nat) (J : zJem) (d : Nat) (M : zMem) (x0 : Int32) (k0 : ok_N_ring M x0) (ht : (t_N_ring M x0) = 0 ∨ (t_N_ring M x0) = 3) : zz_D (zm_W_ring, d + 10, 0, [some (.ref (1 : Nat)), some (.int x0), some (.ref (204 : Nat)), none], []) (zt_T L, zt_R, M, J, e) = some (.inl (some (.int (zcd [2] (t_N_ring M x0)))), (zt_T L, zt_R, M, (zj (t_N_ring M x0) J (zbl (v_N_ring M x0))), zx_e (t_N_ring M x0) e)) := by
  refine (zz_go 4 (fr' := (zm_W_ring, d + 10, 4, [some (.ref (1 : Nat)), some (.int x0), some (.ref (204 : Nat)), none], [.int x0, .ref (1 : Nat), .int (0 : Int32), .ref (204 : Nat)])) (h' := (zt_T L, zt_R, M, J, e)) (fun _ => rfl)).trans ?_
  refine zl_vt (d := d + 9) rfl rfl rfl rfl rfl rfl rfl rfl rfl rfl (s_N_ring L e J d M x0 k0) ?_
  rcases ht with h0 | h0
  · rw [h0]
    show zz_D (zm_W_ring, d + 10, 7, [some (.ref (1 : Nat)), some (.int x0), some (.ref (204 : Nat)), none], [.int (zb (v_N_ring M x0)), .int (0 : Int32), .ref (204 : Nat)]) (zt_T L, zt_R, M, J, e) = _
    rcases zz_bc (v_N_ring M x0) with h1 | h1
    · refine zq_eT rfl h1 ?_
      refine (zz_go 2 (fr' := (zm_W_ring, d + 10, 15, [some (.ref (1 : Nat)), some (.int x0), some (.ref (204 : Nat)), none], [.long (Int64.ofNat 1), .int (0 : Int32), .ref (204 : Nat)])) (h' := (zt_T L, zt_R, M, J, e)) (fun _ => rfl)).trans ?_
      refine zl_lastore (i := 0) rfl rfl (by decide) rfl (by decide) ?_
      refine (zz_go 2 (fr' := (zm_W_ring, d + 10, 23, [some (.ref (1 : Nat)), some (.int x0), some (.ref (204 : Nat)), none], [.int (0 : Int32)])) (h' := (zt_T L, zt_R, M, (zz_up J 204 0 (Int64.ofNat 1)), e)) (fun _ => rfl)).trans ?_
      refine zl_retI rfl rfl ?_
      rw [h1]
      rfl
    · refine zq_eF rfl h1 ?_
      refine (zz_go 1 (fr' := (zm_W_ring, d + 10, 15, [some (.ref (1 : Nat)), some (.int x0), some (.ref (204 : Nat)), none], [.long (Int64.ofNat 0), .int (0 : Int32), .ref (204 : Nat)])) (h' := (zt_T L, zt_R, M, J, e)) (fun _ => rfl)).trans ?_
      refine zl_lastore (i := 0) rfl rfl (by decide) rfl (by decide) ?_
      refine (zz_go 2 (fr' := (zm_W_ring, d + 10, 23, [some (.ref (1 : Nat)), some (.int x0), some (.ref (204 : Nat)), none], [.int (0 : Int32)])) (h' := (zt_T L, zt_R, M, (zz_up J 204 0 (Int64.ofNat 0)), e)) (fun _ => rfl)).trans ?_
      refine zl_retI rfl rfl ?_
      rw [h1]
      rfl
  · rw [h0]
    refine zl_hnn (L2 := [some (.ref (1 : Nat)), some (.int x0), some (.ref (204 : Nat)), none]) rfl rfl rfl rfl ?_
    refine (zz_go 1 (fr' := (zm_W_ring, d + 10, 21, [some (.ref (1 : Nat)), some (.int x0), some (.ref (204 : Nat)), none], [.int (1 : Int32)])) (h' := (zt_T L, zt_R, M, J, (e + 1))) (fun _ => rfl)).trans ?_
    refine zl_retI rfl rfl ?_
    rfl
set_option maxRecDepth 20000 in
theorem s_W_rules (L e : Nat) (J : zJem) (d : Nat) (M : zMem) (b0 : Bool) (k0 : ok_N_rules M b0) (ht : (t_N_rules M b0) = 0 ∨ (t_N_rules M b0) = 1) : zz_D (zm_W_rules, d + 10, 0, [some (.ref (1 : Nat)), some (.int (zb b0)), some (.ref (204 : Nat)), none], []) (zt_T L, zt_R, M, J, e) = some (.inl (some (.int (zcd [0] (t_N_rules M b0)))), (zt_T L, zt_R, (w_N_rules M b0), (zj (t_N_rules M b0) J ((v_N_rules M b0)).toInt64), zx_e (t_N_rules M b0) e)) := by
  refine (zz_go 4 (fr' := (zm_W_rules, d + 10, 4, [some (.ref (1 : Nat)), some (.int (zb b0)), some (.ref (204 : Nat)), none], [.int (zb b0), .ref (1 : Nat), .int (0 : Int32), .ref (204 : Nat)])) (h' := (zt_T L, zt_R, M, J, e)) (fun _ => rfl)).trans ?_
  refine zl_vt (d := d + 9) rfl rfl rfl rfl rfl rfl rfl rfl rfl rfl (s_N_rules L e J d M b0 k0) ?_
  rcases ht with h0 | h0
  · rw [h0]
    show zz_D (zm_W_rules, d + 10, 7, [some (.ref (1 : Nat)), some (.int (zb b0)), some (.ref (204 : Nat)), none], [.int (v_N_rules M b0), .int (0 : Int32), .ref (204 : Nat)]) (zt_T L, zt_R, (w_N_rules M b0), J, e) = _
    refine (zz_go 1 (fr' := (zm_W_rules, d + 10, 8, [some (.ref (1 : Nat)), some (.int (zb b0)), some (.ref (204 : Nat)), none], [.long ((v_N_rules M b0)).toInt64, .int (0 : Int32), .ref (204 : Nat)])) (h' := (zt_T L, zt_R, (w_N_rules M b0), J, e)) (fun _ => rfl)).trans ?_
    refine zl_lastore (i := 0) rfl rfl (by decide) rfl (by decide) ?_
    refine (zz_go 2 (fr' := (zm_W_rules, d + 10, 16, [some (.ref (1 : Nat)), some (.int (zb b0)), some (.ref (204 : Nat)), none], [.int (0 : Int32)])) (h' := (zt_T L, zt_R, (w_N_rules M b0), (zz_up J 204 0 ((v_N_rules M b0)).toInt64), e)) (fun _ => rfl)).trans ?_
    refine zl_retI rfl rfl ?_
    rfl
  · rw [h0]
    refine zl_hnn (L2 := [some (.ref (1 : Nat)), some (.int (zb b0)), some (.ref (204 : Nat)), none]) rfl rfl rfl rfl ?_
    refine (zz_go 1 (fr' := (zm_W_rules, d + 10, 14, [some (.ref (1 : Nat)), some (.int (zb b0)), some (.ref (204 : Nat)), none], [.int (1 : Int32)])) (h' := (zt_T L, zt_R, (w_N_rules M b0), J, (e + 1))) (fun _ => rfl)).trans ?_
    refine zl_retI rfl rfl ?_
    rfl
set_option maxRecDepth 20000 in
theorem s_W_ask (L e : Nat) (J : zJem) (d : Nat) (M : zMem) (k0 : ok_N_ask M) (ht : (t_N_ask M) = 0 ∨ (t_N_ask M) = 1) : zz_D (zm_W_ask, d + 10, 0, [some (.ref (1 : Nat)), some (.ref (204 : Nat)), none], []) (zt_T L, zt_R, M, J, e) = some (.inl (some (.int (zcd [0] (t_N_ask M)))), (zt_T L, zt_R, (w_N_ask M), (zj (t_N_ask M) J ((v_N_ask M)).toInt64), zx_e (t_N_ask M) e)) := by
  refine (zz_go 3 (fr' := (zm_W_ask, d + 10, 3, [some (.ref (1 : Nat)), some (.ref (204 : Nat)), none], [.ref (1 : Nat), .int (0 : Int32), .ref (204 : Nat)])) (h' := (zt_T L, zt_R, M, J, e)) (fun _ => rfl)).trans ?_
  refine zl_vt (d := d + 9) rfl rfl rfl rfl rfl rfl rfl rfl rfl rfl (s_N_ask L e J d M k0) ?_
  rcases ht with h0 | h0
  · rw [h0]
    show zz_D (zm_W_ask, d + 10, 6, [some (.ref (1 : Nat)), some (.ref (204 : Nat)), none], [.int (v_N_ask M), .int (0 : Int32), .ref (204 : Nat)]) (zt_T L, zt_R, (w_N_ask M), J, e) = _
    refine (zz_go 1 (fr' := (zm_W_ask, d + 10, 7, [some (.ref (1 : Nat)), some (.ref (204 : Nat)), none], [.long ((v_N_ask M)).toInt64, .int (0 : Int32), .ref (204 : Nat)])) (h' := (zt_T L, zt_R, (w_N_ask M), J, e)) (fun _ => rfl)).trans ?_
    refine zl_lastore (i := 0) rfl rfl (by decide) rfl (by decide) ?_
    refine (zz_go 2 (fr' := (zm_W_ask, d + 10, 15, [some (.ref (1 : Nat)), some (.ref (204 : Nat)), none], [.int (0 : Int32)])) (h' := (zt_T L, zt_R, (w_N_ask M), (zz_up J 204 0 ((v_N_ask M)).toInt64), e)) (fun _ => rfl)).trans ?_
    refine zl_retI rfl rfl ?_
    rfl
  · rw [h0]
    refine zl_hnn (L2 := [some (.ref (1 : Nat)), some (.ref (204 : Nat)), none]) rfl rfl rfl rfl ?_
    refine (zz_go 1 (fr' := (zm_W_ask, d + 10, 13, [some (.ref (1 : Nat)), some (.ref (204 : Nat)), none], [.int (1 : Int32)])) (h' := (zt_T L, zt_R, (w_N_ask M), J, (e + 1))) (fun _ => rfl)).trans ?_
    refine zl_retI rfl rfl ?_
    rfl
set_option maxRecDepth 20000 in
theorem s_W_berths (L e : Nat) (J : zJem) (d : Nat) (M : zMem) (x0 : Int32) (k0 : ok_N_berths M x0) (ht : (t_N_berths M x0) = 0 ∨ (t_N_berths M x0) = 1) : zz_D (zm_W_berths, d + 10, 0, [some (.ref (1 : Nat)), some (.int x0), some (.ref (204 : Nat)), none], []) (zt_T L, zt_R, M, J, e) = some (.inl (some (.int (zcd [0] (t_N_berths M x0)))), (zt_T L, zt_R, (w_N_berths M x0), (zj (t_N_berths M x0) J ((v_N_berths M x0)).toInt64), zx_e (t_N_berths M x0) e)) := by
  refine (zz_go 4 (fr' := (zm_W_berths, d + 10, 4, [some (.ref (1 : Nat)), some (.int x0), some (.ref (204 : Nat)), none], [.int x0, .ref (1 : Nat), .int (0 : Int32), .ref (204 : Nat)])) (h' := (zt_T L, zt_R, M, J, e)) (fun _ => rfl)).trans ?_
  refine zl_vt (d := d + 9) rfl rfl rfl rfl rfl rfl rfl rfl rfl rfl (s_N_berths L e J d M x0 k0) ?_
  rcases ht with h0 | h0
  · rw [h0]
    show zz_D (zm_W_berths, d + 10, 7, [some (.ref (1 : Nat)), some (.int x0), some (.ref (204 : Nat)), none], [.int (v_N_berths M x0), .int (0 : Int32), .ref (204 : Nat)]) (zt_T L, zt_R, (w_N_berths M x0), J, e) = _
    refine (zz_go 1 (fr' := (zm_W_berths, d + 10, 8, [some (.ref (1 : Nat)), some (.int x0), some (.ref (204 : Nat)), none], [.long ((v_N_berths M x0)).toInt64, .int (0 : Int32), .ref (204 : Nat)])) (h' := (zt_T L, zt_R, (w_N_berths M x0), J, e)) (fun _ => rfl)).trans ?_
    refine zl_lastore (i := 0) rfl rfl (by decide) rfl (by decide) ?_
    refine (zz_go 2 (fr' := (zm_W_berths, d + 10, 16, [some (.ref (1 : Nat)), some (.int x0), some (.ref (204 : Nat)), none], [.int (0 : Int32)])) (h' := (zt_T L, zt_R, (w_N_berths M x0), (zz_up J 204 0 ((v_N_berths M x0)).toInt64), e)) (fun _ => rfl)).trans ?_
    refine zl_retI rfl rfl ?_
    rfl
  · rw [h0]
    refine zl_hnn (L2 := [some (.ref (1 : Nat)), some (.int x0), some (.ref (204 : Nat)), none]) rfl rfl rfl rfl ?_
    refine (zz_go 1 (fr' := (zm_W_berths, d + 10, 14, [some (.ref (1 : Nat)), some (.int x0), some (.ref (204 : Nat)), none], [.int (1 : Int32)])) (h' := (zt_T L, zt_R, (w_N_berths M x0), J, (e + 1))) (fun _ => rfl)).trans ?_
    refine zl_retI rfl rfl ?_
    rfl
set_option maxRecDepth 20000 in
theorem s_W_old (L e : Nat) (J : zJem) (d : Nat) (M : zMem) (x0 : Int32) (k0 : ok_N_old M x0) (ht : (t_N_old M x0) = 0 ∨ (t_N_old M x0) = 1) : zz_D (zm_W_old, d + 9, 0, [some (.ref (1 : Nat)), some (.int x0), some (.ref (204 : Nat)), none], []) (zt_T L, zt_R, M, J, e) = some (.inl (some (.int (zcd [0] (t_N_old M x0)))), (zt_T L, zt_R, M, (zj (t_N_old M x0) J ((v_N_old M x0)).toInt64), zx_e (t_N_old M x0) e)) := by
  refine (zz_go 4 (fr' := (zm_W_old, d + 9, 4, [some (.ref (1 : Nat)), some (.int x0), some (.ref (204 : Nat)), none], [.int x0, .ref (1 : Nat), .int (0 : Int32), .ref (204 : Nat)])) (h' := (zt_T L, zt_R, M, J, e)) (fun _ => rfl)).trans ?_
  refine zl_vt (d := d + 8) rfl rfl rfl rfl rfl rfl rfl rfl rfl rfl (s_N_old L e J d M x0 k0) ?_
  rcases ht with h0 | h0
  · rw [h0]
    show zz_D (zm_W_old, d + 9, 7, [some (.ref (1 : Nat)), some (.int x0), some (.ref (204 : Nat)), none], [.int (v_N_old M x0), .int (0 : Int32), .ref (204 : Nat)]) (zt_T L, zt_R, M, J, e) = _
    refine (zz_go 1 (fr' := (zm_W_old, d + 9, 8, [some (.ref (1 : Nat)), some (.int x0), some (.ref (204 : Nat)), none], [.long ((v_N_old M x0)).toInt64, .int (0 : Int32), .ref (204 : Nat)])) (h' := (zt_T L, zt_R, M, J, e)) (fun _ => rfl)).trans ?_
    refine zl_lastore (i := 0) rfl rfl (by decide) rfl (by decide) ?_
    refine (zz_go 2 (fr' := (zm_W_old, d + 9, 16, [some (.ref (1 : Nat)), some (.int x0), some (.ref (204 : Nat)), none], [.int (0 : Int32)])) (h' := (zt_T L, zt_R, M, (zz_up J 204 0 ((v_N_old M x0)).toInt64), e)) (fun _ => rfl)).trans ?_
    refine zl_retI rfl rfl ?_
    rfl
  · rw [h0]
    refine zl_hnn (L2 := [some (.ref (1 : Nat)), some (.int x0), some (.ref (204 : Nat)), none]) rfl rfl rfl rfl ?_
    refine (zz_go 1 (fr' := (zm_W_old, d + 9, 14, [some (.ref (1 : Nat)), some (.int x0), some (.ref (204 : Nat)), none], [.int (1 : Int32)])) (h' := (zt_T L, zt_R, M, J, (e + 1))) (fun _ => rfl)).trans ?_
    refine zl_retI rfl rfl ?_
    rfl
set_option maxRecDepth 20000 in
theorem s_W_clash (L e : Nat) (J : zJem) (d : Nat) (M : zMem) (k0 : ok_N_clash M) (ht : (t_N_clash M) = 0 ∨ (t_N_clash M) = 1) : zz_D (zm_W_clash, d + 10, 0, [some (.ref (1 : Nat)), some (.ref (204 : Nat)), none], []) (zt_T L, zt_R, M, J, e) = some (.inl (some (.int (zcd [0] (t_N_clash M)))), (zt_T L, zt_R, (w_N_clash M), (zj (t_N_clash M) J ((v_N_clash M)).toInt64), zx_e (t_N_clash M) e)) := by
  refine (zz_go 3 (fr' := (zm_W_clash, d + 10, 3, [some (.ref (1 : Nat)), some (.ref (204 : Nat)), none], [.ref (1 : Nat), .int (0 : Int32), .ref (204 : Nat)])) (h' := (zt_T L, zt_R, M, J, e)) (fun _ => rfl)).trans ?_
  refine zl_vt (d := d + 9) rfl rfl rfl rfl rfl rfl rfl rfl rfl rfl (s_N_clash L e J d M k0) ?_
  rcases ht with h0 | h0
  · rw [h0]
    show zz_D (zm_W_clash, d + 10, 6, [some (.ref (1 : Nat)), some (.ref (204 : Nat)), none], [.int (v_N_clash M), .int (0 : Int32), .ref (204 : Nat)]) (zt_T L, zt_R, (w_N_clash M), J, e) = _
    refine (zz_go 1 (fr' := (zm_W_clash, d + 10, 7, [some (.ref (1 : Nat)), some (.ref (204 : Nat)), none], [.long ((v_N_clash M)).toInt64, .int (0 : Int32), .ref (204 : Nat)])) (h' := (zt_T L, zt_R, (w_N_clash M), J, e)) (fun _ => rfl)).trans ?_
    refine zl_lastore (i := 0) rfl rfl (by decide) rfl (by decide) ?_
    refine (zz_go 2 (fr' := (zm_W_clash, d + 10, 15, [some (.ref (1 : Nat)), some (.ref (204 : Nat)), none], [.int (0 : Int32)])) (h' := (zt_T L, zt_R, (w_N_clash M), (zz_up J 204 0 ((v_N_clash M)).toInt64), e)) (fun _ => rfl)).trans ?_
    refine zl_retI rfl rfl ?_
    rfl
  · rw [h0]
    refine zl_hnn (L2 := [some (.ref (1 : Nat)), some (.ref (204 : Nat)), none]) rfl rfl rfl rfl ?_
    refine (zz_go 1 (fr' := (zm_W_clash, d + 10, 13, [some (.ref (1 : Nat)), some (.ref (204 : Nat)), none], [.int (1 : Int32)])) (h' := (zt_T L, zt_R, (w_N_clash M), J, (e + 1))) (fun _ => rfl)).trans ?_
    refine zl_retI rfl rfl ?_
    rfl
set_option maxRecDepth 20000 in
theorem s_W_pairs (L e : Nat) (J : zJem) (d : Nat) (M : zMem) (x0 : Int32) (k0 : ok_N_pairs M x0) (ht : (t_N_pairs M x0) = 0 ∨ (t_N_pairs M x0) = 3) : zz_D (zm_W_pairs, d + 10, 0, [some (.ref (1 : Nat)), some (.int x0), some (.ref (204 : Nat)), none], []) (zt_T L, zt_R, M, J, e) = some (.inl (some (.int (zcd [2] (t_N_pairs M x0)))), (zt_T L, zt_R, (w_N_pairs M x0), (zj (t_N_pairs M x0) J ((v_N_pairs M x0)).toInt64), zx_e (t_N_pairs M x0) e)) := by
  refine (zz_go 4 (fr' := (zm_W_pairs, d + 10, 4, [some (.ref (1 : Nat)), some (.int x0), some (.ref (204 : Nat)), none], [.int x0, .ref (1 : Nat), .int (0 : Int32), .ref (204 : Nat)])) (h' := (zt_T L, zt_R, M, J, e)) (fun _ => rfl)).trans ?_
  refine zl_vt (d := d + 9) rfl rfl rfl rfl rfl rfl rfl rfl rfl rfl (s_N_pairs L e J d M x0 k0) ?_
  rcases ht with h0 | h0
  · rw [h0]
    show zz_D (zm_W_pairs, d + 10, 7, [some (.ref (1 : Nat)), some (.int x0), some (.ref (204 : Nat)), none], [.int (v_N_pairs M x0), .int (0 : Int32), .ref (204 : Nat)]) (zt_T L, zt_R, (w_N_pairs M x0), J, e) = _
    refine (zz_go 1 (fr' := (zm_W_pairs, d + 10, 8, [some (.ref (1 : Nat)), some (.int x0), some (.ref (204 : Nat)), none], [.long ((v_N_pairs M x0)).toInt64, .int (0 : Int32), .ref (204 : Nat)])) (h' := (zt_T L, zt_R, (w_N_pairs M x0), J, e)) (fun _ => rfl)).trans ?_
    refine zl_lastore (i := 0) rfl rfl (by decide) rfl (by decide) ?_
    refine (zz_go 2 (fr' := (zm_W_pairs, d + 10, 16, [some (.ref (1 : Nat)), some (.int x0), some (.ref (204 : Nat)), none], [.int (0 : Int32)])) (h' := (zt_T L, zt_R, (w_N_pairs M x0), (zz_up J 204 0 ((v_N_pairs M x0)).toInt64), e)) (fun _ => rfl)).trans ?_
    refine zl_retI rfl rfl ?_
    rfl
  · rw [h0]
    refine zl_hnn (L2 := [some (.ref (1 : Nat)), some (.int x0), some (.ref (204 : Nat)), none]) rfl rfl rfl rfl ?_
    refine (zz_go 1 (fr' := (zm_W_pairs, d + 10, 14, [some (.ref (1 : Nat)), some (.int x0), some (.ref (204 : Nat)), none], [.int (1 : Int32)])) (h' := (zt_T L, zt_R, (w_N_pairs M x0), J, (e + 1))) (fun _ => rfl)).trans ?_
    refine zl_retI rfl rfl ?_
    rfl
set_option maxRecDepth 20000 in
theorem s_W_kin (L e : Nat) (J : zJem) (d : Nat) (M : zMem) (x0 : Int32) (x1 : Int32) (k0 : ok_N_kin M x0 x1) (ht : (t_N_kin M x0 x1) = 0 ∨ (t_N_kin M x0 x1) = 3 ∨ (t_N_kin M x0 x1) = 1) : zz_D (zm_W_kin, d + 10, 0, [some (.ref (1 : Nat)), some (.int x0), some (.int x1), some (.ref (204 : Nat)), none], []) (zt_T L, zt_R, M, J, e) = some (.inl (some (.int (zcd [2, 0] (t_N_kin M x0 x1)))), (zt_T L, zt_R, M, (zj (t_N_kin M x0 x1) J ((v_N_kin M x0 x1)).toInt64), zx_e (t_N_kin M x0 x1) e)) := by
  refine (zz_go 5 (fr' := (zm_W_kin, d + 10, 5, [some (.ref (1 : Nat)), some (.int x0), some (.int x1), some (.ref (204 : Nat)), none], [.int x1, .int x0, .ref (1 : Nat), .int (0 : Int32), .ref (204 : Nat)])) (h' := (zt_T L, zt_R, M, J, e)) (fun _ => rfl)).trans ?_
  refine zl_vt (d := d + 9) rfl rfl rfl rfl rfl rfl rfl rfl rfl rfl (s_N_kin L e J d M x0 x1 k0) ?_
  rcases ht with h0 | h0 | h0
  · rw [h0]
    show zz_D (zm_W_kin, d + 10, 8, [some (.ref (1 : Nat)), some (.int x0), some (.int x1), some (.ref (204 : Nat)), none], [.int (v_N_kin M x0 x1), .int (0 : Int32), .ref (204 : Nat)]) (zt_T L, zt_R, M, J, e) = _
    refine (zz_go 1 (fr' := (zm_W_kin, d + 10, 9, [some (.ref (1 : Nat)), some (.int x0), some (.int x1), some (.ref (204 : Nat)), none], [.long ((v_N_kin M x0 x1)).toInt64, .int (0 : Int32), .ref (204 : Nat)])) (h' := (zt_T L, zt_R, M, J, e)) (fun _ => rfl)).trans ?_
    refine zl_lastore (i := 0) rfl rfl (by decide) rfl (by decide) ?_
    refine (zz_go 2 (fr' := (zm_W_kin, d + 10, 22, [some (.ref (1 : Nat)), some (.int x0), some (.int x1), some (.ref (204 : Nat)), none], [.int (0 : Int32)])) (h' := (zt_T L, zt_R, M, (zz_up J 204 0 ((v_N_kin M x0 x1)).toInt64), e)) (fun _ => rfl)).trans ?_
    refine zl_retI rfl rfl ?_
    rfl
  · rw [h0]
    refine zl_hn (L2 := [some (.ref (1 : Nat)), some (.int x0), some (.int x1), some (.ref (204 : Nat)), none]) rfl rfl rfl rfl ?_
    refine (zz_go 1 (fr' := (zm_W_kin, d + 10, 16, [some (.ref (1 : Nat)), some (.int x0), some (.int x1), some (.ref (204 : Nat)), none], [.int (1 : Int32)])) (h' := (zt_T L, zt_R, M, J, (e + 1))) (fun _ => rfl)).trans ?_
    refine zl_retI rfl rfl ?_
    rfl
  · rw [h0]
    refine zl_hn (L2 := [some (.ref (1 : Nat)), some (.int x0), some (.int x1), some (.ref (204 : Nat)), none]) rfl rfl rfl rfl ?_
    refine (zz_go 1 (fr' := (zm_W_kin, d + 10, 20, [some (.ref (1 : Nat)), some (.int x0), some (.int x1), some (.ref (204 : Nat)), none], [.int (2 : Int32)])) (h' := (zt_T L, zt_R, M, J, (e + 1))) (fun _ => rfl)).trans ?_
    refine zl_retI rfl rfl ?_
    rfl
set_option maxRecDepth 20000 in
theorem s_W_rests (L e : Nat) (J : zJem) (d : Nat) (M : zMem) (x0 : Int32) (k0 : ok_N_rests M x0) (ht : (t_N_rests M x0) = 0 ∨ (t_N_rests M x0) = 3) : zz_D (zm_W_rests, d + 10, 0, [some (.ref (1 : Nat)), some (.int x0), some (.ref (204 : Nat)), none], []) (zt_T L, zt_R, M, J, e) = some (.inl (some (.int (zcd [2] (t_N_rests M x0)))), (zt_T L, zt_R, M, (zj (t_N_rests M x0) J ((v_N_rests M x0)).toInt64), zx_e (t_N_rests M x0) e)) := by
  refine (zz_go 4 (fr' := (zm_W_rests, d + 10, 4, [some (.ref (1 : Nat)), some (.int x0), some (.ref (204 : Nat)), none], [.int x0, .ref (1 : Nat), .int (0 : Int32), .ref (204 : Nat)])) (h' := (zt_T L, zt_R, M, J, e)) (fun _ => rfl)).trans ?_
  refine zl_vt (d := d + 9) rfl rfl rfl rfl rfl rfl rfl rfl rfl rfl (s_N_rests L e J d M x0 k0) ?_
  rcases ht with h0 | h0
  · rw [h0]
    show zz_D (zm_W_rests, d + 10, 7, [some (.ref (1 : Nat)), some (.int x0), some (.ref (204 : Nat)), none], [.int (v_N_rests M x0), .int (0 : Int32), .ref (204 : Nat)]) (zt_T L, zt_R, M, J, e) = _
    refine (zz_go 1 (fr' := (zm_W_rests, d + 10, 8, [some (.ref (1 : Nat)), some (.int x0), some (.ref (204 : Nat)), none], [.long ((v_N_rests M x0)).toInt64, .int (0 : Int32), .ref (204 : Nat)])) (h' := (zt_T L, zt_R, M, J, e)) (fun _ => rfl)).trans ?_
    refine zl_lastore (i := 0) rfl rfl (by decide) rfl (by decide) ?_
    refine (zz_go 2 (fr' := (zm_W_rests, d + 10, 16, [some (.ref (1 : Nat)), some (.int x0), some (.ref (204 : Nat)), none], [.int (0 : Int32)])) (h' := (zt_T L, zt_R, M, (zz_up J 204 0 ((v_N_rests M x0)).toInt64), e)) (fun _ => rfl)).trans ?_
    refine zl_retI rfl rfl ?_
    rfl
  · rw [h0]
    refine zl_hnn (L2 := [some (.ref (1 : Nat)), some (.int x0), some (.ref (204 : Nat)), none]) rfl rfl rfl rfl ?_
    refine (zz_go 1 (fr' := (zm_W_rests, d + 10, 14, [some (.ref (1 : Nat)), some (.int x0), some (.ref (204 : Nat)), none], [.int (1 : Int32)])) (h' := (zt_T L, zt_R, M, J, (e + 1))) (fun _ => rfl)).trans ?_
    refine zl_retI rfl rfl ?_
    rfl
set_option maxRecDepth 20000 in
theorem s_W_odds (L e : Nat) (J : zJem) (d : Nat) (M : zMem) (x0 : Int32) (x1 : Int32) (k0 : ok_N_odds M x0 x1) (ht : (t_N_odds M x0 x1) = 0 ∨ (t_N_odds M x0 x1) = 3 ∨ (t_N_odds M x0 x1) = 1) : zz_D (zm_W_odds, d + 10, 0, [some (.ref (1 : Nat)), some (.int x0), some (.int x1), some (.ref (204 : Nat)), none], []) (zt_T L, zt_R, M, J, e) = some (.inl (some (.int (zcd [2, 0] (t_N_odds M x0 x1)))), (zt_T L, zt_R, (w_N_odds M x0 x1), (zj (t_N_odds M x0 x1) J ((v_N_odds M x0 x1)).toInt64), zx_e (t_N_odds M x0 x1) e)) := by
  refine (zz_go 5 (fr' := (zm_W_odds, d + 10, 5, [some (.ref (1 : Nat)), some (.int x0), some (.int x1), some (.ref (204 : Nat)), none], [.int x1, .int x0, .ref (1 : Nat), .int (0 : Int32), .ref (204 : Nat)])) (h' := (zt_T L, zt_R, M, J, e)) (fun _ => rfl)).trans ?_
  refine zl_vt (d := d + 9) rfl rfl rfl rfl rfl rfl rfl rfl rfl rfl (s_N_odds L e J d M x0 x1 k0) ?_
  rcases ht with h0 | h0 | h0
  · rw [h0]
    show zz_D (zm_W_odds, d + 10, 8, [some (.ref (1 : Nat)), some (.int x0), some (.int x1), some (.ref (204 : Nat)), none], [.int (v_N_odds M x0 x1), .int (0 : Int32), .ref (204 : Nat)]) (zt_T L, zt_R, (w_N_odds M x0 x1), J, e) = _
    refine (zz_go 1 (fr' := (zm_W_odds, d + 10, 9, [some (.ref (1 : Nat)), some (.int x0), some (.int x1), some (.ref (204 : Nat)), none], [.long ((v_N_odds M x0 x1)).toInt64, .int (0 : Int32), .ref (204 : Nat)])) (h' := (zt_T L, zt_R, (w_N_odds M x0 x1), J, e)) (fun _ => rfl)).trans ?_
    refine zl_lastore (i := 0) rfl rfl (by decide) rfl (by decide) ?_
    refine (zz_go 2 (fr' := (zm_W_odds, d + 10, 22, [some (.ref (1 : Nat)), some (.int x0), some (.int x1), some (.ref (204 : Nat)), none], [.int (0 : Int32)])) (h' := (zt_T L, zt_R, (w_N_odds M x0 x1), (zz_up J 204 0 ((v_N_odds M x0 x1)).toInt64), e)) (fun _ => rfl)).trans ?_
    refine zl_retI rfl rfl ?_
    rfl
  · rw [h0]
    refine zl_hn (L2 := [some (.ref (1 : Nat)), some (.int x0), some (.int x1), some (.ref (204 : Nat)), none]) rfl rfl rfl rfl ?_
    refine (zz_go 1 (fr' := (zm_W_odds, d + 10, 16, [some (.ref (1 : Nat)), some (.int x0), some (.int x1), some (.ref (204 : Nat)), none], [.int (1 : Int32)])) (h' := (zt_T L, zt_R, (w_N_odds M x0 x1), J, (e + 1))) (fun _ => rfl)).trans ?_
    refine zl_retI rfl rfl ?_
    rfl
  · rw [h0]
    refine zl_hn (L2 := [some (.ref (1 : Nat)), some (.int x0), some (.int x1), some (.ref (204 : Nat)), none]) rfl rfl rfl rfl ?_
    refine (zz_go 1 (fr' := (zm_W_odds, d + 10, 20, [some (.ref (1 : Nat)), some (.int x0), some (.int x1), some (.ref (204 : Nat)), none], [.int (2 : Int32)])) (h' := (zt_T L, zt_R, (w_N_odds M x0 x1), J, (e + 1))) (fun _ => rfl)).trans ?_
    refine zl_retI rfl rfl ?_
    rfl
set_option maxRecDepth 20000 in
theorem s_W_tellers (L e : Nat) (J : zJem) (d : Nat) (M : zMem) (x0 : Int32) (ht : (t_N_tellers M x0) = 0 ∨ (t_N_tellers M x0) = 3) : zz_D (zm_W_tellers, d + 10, 0, [some (.ref (1 : Nat)), some (.int x0), some (.ref (204 : Nat)), none], []) (zt_T L, zt_R, M, J, e) = some (.inl (some (.int (zcd [2] (t_N_tellers M x0)))), (zt_T L, zt_R, M, (zj (t_N_tellers M x0) J ((v_N_tellers M x0)).toInt64), zx_e (t_N_tellers M x0) e)) := by
  refine (zz_go 4 (fr' := (zm_W_tellers, d + 10, 4, [some (.ref (1 : Nat)), some (.int x0), some (.ref (204 : Nat)), none], [.int x0, .ref (1 : Nat), .int (0 : Int32), .ref (204 : Nat)])) (h' := (zt_T L, zt_R, M, J, e)) (fun _ => rfl)).trans ?_
  refine zl_vt (d := d + 9) rfl rfl rfl rfl rfl rfl rfl rfl rfl rfl (s_N_tellers L e J d M x0) ?_
  rcases ht with h0 | h0
  · rw [h0]
    show zz_D (zm_W_tellers, d + 10, 7, [some (.ref (1 : Nat)), some (.int x0), some (.ref (204 : Nat)), none], [.int (v_N_tellers M x0), .int (0 : Int32), .ref (204 : Nat)]) (zt_T L, zt_R, M, J, e) = _
    refine (zz_go 1 (fr' := (zm_W_tellers, d + 10, 8, [some (.ref (1 : Nat)), some (.int x0), some (.ref (204 : Nat)), none], [.long ((v_N_tellers M x0)).toInt64, .int (0 : Int32), .ref (204 : Nat)])) (h' := (zt_T L, zt_R, M, J, e)) (fun _ => rfl)).trans ?_
    refine zl_lastore (i := 0) rfl rfl (by decide) rfl (by decide) ?_
    refine (zz_go 2 (fr' := (zm_W_tellers, d + 10, 16, [some (.ref (1 : Nat)), some (.int x0), some (.ref (204 : Nat)), none], [.int (0 : Int32)])) (h' := (zt_T L, zt_R, M, (zz_up J 204 0 ((v_N_tellers M x0)).toInt64), e)) (fun _ => rfl)).trans ?_
    refine zl_retI rfl rfl ?_
    rfl
  · rw [h0]
    refine zl_hnn (L2 := [some (.ref (1 : Nat)), some (.int x0), some (.ref (204 : Nat)), none]) rfl rfl rfl rfl ?_
    refine (zz_go 1 (fr' := (zm_W_tellers, d + 10, 14, [some (.ref (1 : Nat)), some (.int x0), some (.ref (204 : Nat)), none], [.int (1 : Int32)])) (h' := (zt_T L, zt_R, M, J, (e + 1))) (fun _ => rfl)).trans ?_
    refine zl_retI rfl rfl ?_
    rfl
set_option maxRecDepth 20000 in
theorem s_W_ahead (L e : Nat) (J : zJem) (d : Nat) (M : zMem) (x0 : Int32) (x1 : Int32) (x2 : Int32) (k0 : ok_N_ahead M x0 x1 x2) (ht : (t_N_ahead M x0 x1 x2) = 0 ∨ (t_N_ahead M x0 x1 x2) = 3 ∨ (t_N_ahead M x0 x1 x2) = 1 ∨ (t_N_ahead M x0 x1 x2) = 4) : zz_D (zm_W_ahead, d + 10, 0, [some (.ref (1 : Nat)), some (.int x0), some (.int x1), some (.int x2), some (.ref (204 : Nat)), none], []) (zt_T L, zt_R, M, J, e) = some (.inl (some (.int (zcd [2, 0, 3] (t_N_ahead M x0 x1 x2)))), (zt_T L, zt_R, (w_N_ahead M x0 x1 x2), (zj (t_N_ahead M x0 x1 x2) J ((v_N_ahead M x0 x1 x2)).toInt64), zx_e (t_N_ahead M x0 x1 x2) e)) := by
  refine (zz_go 6 (fr' := (zm_W_ahead, d + 10, 7, [some (.ref (1 : Nat)), some (.int x0), some (.int x1), some (.int x2), some (.ref (204 : Nat)), none], [.int x2, .int x1, .int x0, .ref (1 : Nat), .int (0 : Int32), .ref (204 : Nat)])) (h' := (zt_T L, zt_R, M, J, e)) (fun _ => rfl)).trans ?_
  refine zl_vt (d := d + 9) rfl rfl rfl rfl rfl rfl rfl rfl rfl rfl (s_N_ahead L e J d M x0 x1 x2 k0) ?_
  rcases ht with h0 | h0 | h0 | h0
  · rw [h0]
    show zz_D (zm_W_ahead, d + 10, 10, [some (.ref (1 : Nat)), some (.int x0), some (.int x1), some (.int x2), some (.ref (204 : Nat)), none], [.int (v_N_ahead M x0 x1 x2), .int (0 : Int32), .ref (204 : Nat)]) (zt_T L, zt_R, (w_N_ahead M x0 x1 x2), J, e) = _
    refine (zz_go 1 (fr' := (zm_W_ahead, d + 10, 11, [some (.ref (1 : Nat)), some (.int x0), some (.int x1), some (.int x2), some (.ref (204 : Nat)), none], [.long ((v_N_ahead M x0 x1 x2)).toInt64, .int (0 : Int32), .ref (204 : Nat)])) (h' := (zt_T L, zt_R, (w_N_ahead M x0 x1 x2), J, e)) (fun _ => rfl)).trans ?_
    refine zl_lastore (i := 0) rfl rfl (by decide) rfl (by decide) ?_
    refine (zz_go 2 (fr' := (zm_W_ahead, d + 10, 28, [some (.ref (1 : Nat)), some (.int x0), some (.int x1), some (.int x2), some (.ref (204 : Nat)), none], [.int (0 : Int32)])) (h' := (zt_T L, zt_R, (w_N_ahead M x0 x1 x2), (zz_up J 204 0 ((v_N_ahead M x0 x1 x2)).toInt64), e)) (fun _ => rfl)).trans ?_
    refine zl_retI rfl rfl ?_
    rfl
  · rw [h0]
    refine zl_hn (L2 := [some (.ref (1 : Nat)), some (.int x0), some (.int x1), some (.int x2), some (.ref (204 : Nat)), none]) rfl rfl rfl rfl ?_
    refine (zz_go 1 (fr' := (zm_W_ahead, d + 10, 18, [some (.ref (1 : Nat)), some (.int x0), some (.int x1), some (.int x2), some (.ref (204 : Nat)), none], [.int (1 : Int32)])) (h' := (zt_T L, zt_R, (w_N_ahead M x0 x1 x2), J, (e + 1))) (fun _ => rfl)).trans ?_
    refine zl_retI rfl rfl ?_
    rfl
  · rw [h0]
    refine zl_hn (L2 := [some (.ref (1 : Nat)), some (.int x0), some (.int x1), some (.int x2), some (.ref (204 : Nat)), none]) rfl rfl rfl rfl ?_
    refine (zz_go 1 (fr' := (zm_W_ahead, d + 10, 22, [some (.ref (1 : Nat)), some (.int x0), some (.int x1), some (.int x2), some (.ref (204 : Nat)), none], [.int (2 : Int32)])) (h' := (zt_T L, zt_R, (w_N_ahead M x0 x1 x2), J, (e + 1))) (fun _ => rfl)).trans ?_
    refine zl_retI rfl rfl ?_
    rfl
  · rw [h0]
    refine zl_hn (L2 := [some (.ref (1 : Nat)), some (.int x0), some (.int x1), some (.int x2), some (.ref (204 : Nat)), none]) rfl rfl rfl rfl ?_
    refine (zz_go 1 (fr' := (zm_W_ahead, d + 10, 26, [some (.ref (1 : Nat)), some (.int x0), some (.int x1), some (.int x2), some (.ref (204 : Nat)), none], [.int (3 : Int32)])) (h' := (zt_T L, zt_R, (w_N_ahead M x0 x1 x2), J, (e + 1))) (fun _ => rfl)).trans ?_
    refine zl_retI rfl rfl ?_
    rfl
set_option maxRecDepth 20000 in
theorem s_W_trial (L e : Nat) (J : zJem) (d : Nat) (M : zMem) (x0 : Int32) (b1 : Bool) (k0 : ok_N_trial M x0 b1) (ht : (t_N_trial M x0 b1) = 0 ∨ (t_N_trial M x0 b1) = 1) : zz_D (zm_W_trial, d + 11, 0, [some (.ref (1 : Nat)), some (.int x0), some (.int (zb b1)), some (.ref (204 : Nat)), none], []) (zt_T L, zt_R, M, J, e) = some (.inl (some (.int (zcd [0] (t_N_trial M x0 b1)))), (zt_T L, zt_R, (w_N_trial M x0 b1), (zj (t_N_trial M x0 b1) J ((v_N_trial M x0 b1)).toInt64), zx_e (t_N_trial M x0 b1) e)) := by
  refine (zz_go 5 (fr' := (zm_W_trial, d + 11, 5, [some (.ref (1 : Nat)), some (.int x0), some (.int (zb b1)), some (.ref (204 : Nat)), none], [.int (zb b1), .int x0, .ref (1 : Nat), .int (0 : Int32), .ref (204 : Nat)])) (h' := (zt_T L, zt_R, M, J, e)) (fun _ => rfl)).trans ?_
  refine zl_vt (d := d + 10) rfl rfl rfl rfl rfl rfl rfl rfl rfl rfl (s_N_trial L e J d M x0 b1 k0) ?_
  rcases ht with h0 | h0
  · rw [h0]
    show zz_D (zm_W_trial, d + 11, 8, [some (.ref (1 : Nat)), some (.int x0), some (.int (zb b1)), some (.ref (204 : Nat)), none], [.int (v_N_trial M x0 b1), .int (0 : Int32), .ref (204 : Nat)]) (zt_T L, zt_R, (w_N_trial M x0 b1), J, e) = _
    refine (zz_go 1 (fr' := (zm_W_trial, d + 11, 9, [some (.ref (1 : Nat)), some (.int x0), some (.int (zb b1)), some (.ref (204 : Nat)), none], [.long ((v_N_trial M x0 b1)).toInt64, .int (0 : Int32), .ref (204 : Nat)])) (h' := (zt_T L, zt_R, (w_N_trial M x0 b1), J, e)) (fun _ => rfl)).trans ?_
    refine zl_lastore (i := 0) rfl rfl (by decide) rfl (by decide) ?_
    refine (zz_go 2 (fr' := (zm_W_trial, d + 11, 18, [some (.ref (1 : Nat)), some (.int x0), some (.int (zb b1)), some (.ref (204 : Nat)), none], [.int (0 : Int32)])) (h' := (zt_T L, zt_R, (w_N_trial M x0 b1), (zz_up J 204 0 ((v_N_trial M x0 b1)).toInt64), e)) (fun _ => rfl)).trans ?_
    refine zl_retI rfl rfl ?_
    rfl
  · rw [h0]
    refine zl_hn (L2 := [some (.ref (1 : Nat)), some (.int x0), some (.int (zb b1)), some (.ref (204 : Nat)), none]) rfl rfl rfl rfl ?_
    refine (zz_go 1 (fr' := (zm_W_trial, d + 11, 16, [some (.ref (1 : Nat)), some (.int x0), some (.int (zb b1)), some (.ref (204 : Nat)), none], [.int (1 : Int32)])) (h' := (zt_T L, zt_R, (w_N_trial M x0 b1), J, (e + 1))) (fun _ => rfl)).trans ?_
    refine zl_retI rfl rfl ?_
    rfl
set_option maxRecDepth 20000 in
theorem s_W_span (L e : Nat) (J : zJem) (d : Nat) (M : zMem) (x0 : Int32) (b1 : Bool) (k0 : ok_N_span M x0 b1) (ht : (t_N_span M x0 b1) = 0 ∨ (t_N_span M x0 b1) = 1) : zz_D (zm_W_span, d + 11, 0, [some (.ref (1 : Nat)), some (.int x0), some (.int (zb b1)), some (.ref (204 : Nat)), none], []) (zt_T L, zt_R, M, J, e) = some (.inl (some (.int (zcd [0] (t_N_span M x0 b1)))), (zt_T L, zt_R, (w_N_span M x0 b1), (zj (t_N_span M x0 b1) J ((v_N_span M x0 b1)).toInt64), zx_e (t_N_span M x0 b1) e)) := by
  refine (zz_go 5 (fr' := (zm_W_span, d + 11, 5, [some (.ref (1 : Nat)), some (.int x0), some (.int (zb b1)), some (.ref (204 : Nat)), none], [.int (zb b1), .int x0, .ref (1 : Nat), .int (0 : Int32), .ref (204 : Nat)])) (h' := (zt_T L, zt_R, M, J, e)) (fun _ => rfl)).trans ?_
  refine zl_vt (d := d + 10) rfl rfl rfl rfl rfl rfl rfl rfl rfl rfl (s_N_span L e J d M x0 b1 k0) ?_
  rcases ht with h0 | h0
  · rw [h0]
    show zz_D (zm_W_span, d + 11, 8, [some (.ref (1 : Nat)), some (.int x0), some (.int (zb b1)), some (.ref (204 : Nat)), none], [.int (v_N_span M x0 b1), .int (0 : Int32), .ref (204 : Nat)]) (zt_T L, zt_R, (w_N_span M x0 b1), J, e) = _
    refine (zz_go 1 (fr' := (zm_W_span, d + 11, 9, [some (.ref (1 : Nat)), some (.int x0), some (.int (zb b1)), some (.ref (204 : Nat)), none], [.long ((v_N_span M x0 b1)).toInt64, .int (0 : Int32), .ref (204 : Nat)])) (h' := (zt_T L, zt_R, (w_N_span M x0 b1), J, e)) (fun _ => rfl)).trans ?_
    refine zl_lastore (i := 0) rfl rfl (by decide) rfl (by decide) ?_
    refine (zz_go 2 (fr' := (zm_W_span, d + 11, 18, [some (.ref (1 : Nat)), some (.int x0), some (.int (zb b1)), some (.ref (204 : Nat)), none], [.int (0 : Int32)])) (h' := (zt_T L, zt_R, (w_N_span M x0 b1), (zz_up J 204 0 ((v_N_span M x0 b1)).toInt64), e)) (fun _ => rfl)).trans ?_
    refine zl_retI rfl rfl ?_
    rfl
  · rw [h0]
    refine zl_hn (L2 := [some (.ref (1 : Nat)), some (.int x0), some (.int (zb b1)), some (.ref (204 : Nat)), none]) rfl rfl rfl rfl ?_
    refine (zz_go 1 (fr' := (zm_W_span, d + 11, 16, [some (.ref (1 : Nat)), some (.int x0), some (.int (zb b1)), some (.ref (204 : Nat)), none], [.int (1 : Int32)])) (h' := (zt_T L, zt_R, (w_N_span M x0 b1), J, (e + 1))) (fun _ => rfl)).trans ?_
    refine zl_retI rfl rfl ?_
    rfl
set_option maxRecDepth 20000 in
theorem s_W_led (L e : Nat) (J : zJem) (d : Nat) (M : zMem) (x0 : Int32) (b1 : Bool) (k0 : ok_N_led M x0 b1) (ht : (t_N_led M x0 b1) = 0 ∨ (t_N_led M x0 b1) = 3) : zz_D (zm_W_led, d + 10, 0, [some (.ref (1 : Nat)), some (.int x0), some (.int (zb b1)), some (.ref (204 : Nat)), none], []) (zt_T L, zt_R, M, J, e) = some (.inl (some (.int (zcd [2] (t_N_led M x0 b1)))), (zt_T L, zt_R, M, (zj (t_N_led M x0 b1) J ((v_N_led M x0 b1)).toInt64), zx_e (t_N_led M x0 b1) e)) := by
  refine (zz_go 5 (fr' := (zm_W_led, d + 10, 5, [some (.ref (1 : Nat)), some (.int x0), some (.int (zb b1)), some (.ref (204 : Nat)), none], [.int (zb b1), .int x0, .ref (1 : Nat), .int (0 : Int32), .ref (204 : Nat)])) (h' := (zt_T L, zt_R, M, J, e)) (fun _ => rfl)).trans ?_
  refine zl_vt (d := d + 9) rfl rfl rfl rfl rfl rfl rfl rfl rfl rfl (s_N_led L e J d M x0 b1 k0) ?_
  rcases ht with h0 | h0
  · rw [h0]
    show zz_D (zm_W_led, d + 10, 8, [some (.ref (1 : Nat)), some (.int x0), some (.int (zb b1)), some (.ref (204 : Nat)), none], [.int (v_N_led M x0 b1), .int (0 : Int32), .ref (204 : Nat)]) (zt_T L, zt_R, M, J, e) = _
    refine (zz_go 1 (fr' := (zm_W_led, d + 10, 9, [some (.ref (1 : Nat)), some (.int x0), some (.int (zb b1)), some (.ref (204 : Nat)), none], [.long ((v_N_led M x0 b1)).toInt64, .int (0 : Int32), .ref (204 : Nat)])) (h' := (zt_T L, zt_R, M, J, e)) (fun _ => rfl)).trans ?_
    refine zl_lastore (i := 0) rfl rfl (by decide) rfl (by decide) ?_
    refine (zz_go 2 (fr' := (zm_W_led, d + 10, 18, [some (.ref (1 : Nat)), some (.int x0), some (.int (zb b1)), some (.ref (204 : Nat)), none], [.int (0 : Int32)])) (h' := (zt_T L, zt_R, M, (zz_up J 204 0 ((v_N_led M x0 b1)).toInt64), e)) (fun _ => rfl)).trans ?_
    refine zl_retI rfl rfl ?_
    rfl
  · rw [h0]
    refine zl_hn (L2 := [some (.ref (1 : Nat)), some (.int x0), some (.int (zb b1)), some (.ref (204 : Nat)), none]) rfl rfl rfl rfl ?_
    refine (zz_go 1 (fr' := (zm_W_led, d + 10, 16, [some (.ref (1 : Nat)), some (.int x0), some (.int (zb b1)), some (.ref (204 : Nat)), none], [.int (1 : Int32)])) (h' := (zt_T L, zt_R, M, J, (e + 1))) (fun _ => rfl)).trans ?_
    refine zl_retI rfl rfl ?_
    rfl
set_option maxRecDepth 20000 in
theorem s_W_log (L e : Nat) (J : zJem) (d : Nat) (M : zMem) (x0 : Int32) (x1 : Int32) (k0 : ok_N_log M x0 x1) (ht : (t_N_log M x0 x1) = 0 ∨ (t_N_log M x0 x1) = 4) : zz_D (zm_W_log, d + 9, 0, [some (.ref (1 : Nat)), some (.int x0), some (.int x1), some (.ref (204 : Nat)), none], []) (zt_T L, zt_R, M, J, e) = some (.inl (some (.int (zcd [3] (t_N_log M x0 x1)))), (zt_T L, zt_R, M, (zj (t_N_log M x0 x1) J ((v_N_log M x0 x1)).toInt64), zx_e (t_N_log M x0 x1) e)) := by
  refine (zz_go 5 (fr' := (zm_W_log, d + 9, 5, [some (.ref (1 : Nat)), some (.int x0), some (.int x1), some (.ref (204 : Nat)), none], [.int x1, .int x0, .ref (1 : Nat), .int (0 : Int32), .ref (204 : Nat)])) (h' := (zt_T L, zt_R, M, J, e)) (fun _ => rfl)).trans ?_
  refine zl_vt (d := d + 8) rfl rfl rfl rfl rfl rfl rfl rfl rfl rfl (s_N_log L e J d M x0 x1 k0) ?_
  rcases ht with h0 | h0
  · rw [h0]
    show zz_D (zm_W_log, d + 9, 8, [some (.ref (1 : Nat)), some (.int x0), some (.int x1), some (.ref (204 : Nat)), none], [.int (v_N_log M x0 x1), .int (0 : Int32), .ref (204 : Nat)]) (zt_T L, zt_R, M, J, e) = _
    refine (zz_go 1 (fr' := (zm_W_log, d + 9, 9, [some (.ref (1 : Nat)), some (.int x0), some (.int x1), some (.ref (204 : Nat)), none], [.long ((v_N_log M x0 x1)).toInt64, .int (0 : Int32), .ref (204 : Nat)])) (h' := (zt_T L, zt_R, M, J, e)) (fun _ => rfl)).trans ?_
    refine zl_lastore (i := 0) rfl rfl (by decide) rfl (by decide) ?_
    refine (zz_go 2 (fr' := (zm_W_log, d + 9, 18, [some (.ref (1 : Nat)), some (.int x0), some (.int x1), some (.ref (204 : Nat)), none], [.int (0 : Int32)])) (h' := (zt_T L, zt_R, M, (zz_up J 204 0 ((v_N_log M x0 x1)).toInt64), e)) (fun _ => rfl)).trans ?_
    refine zl_retI rfl rfl ?_
    rfl
  · rw [h0]
    refine zl_hn (L2 := [some (.ref (1 : Nat)), some (.int x0), some (.int x1), some (.ref (204 : Nat)), none]) rfl rfl rfl rfl ?_
    refine (zz_go 1 (fr' := (zm_W_log, d + 9, 16, [some (.ref (1 : Nat)), some (.int x0), some (.int x1), some (.ref (204 : Nat)), none], [.int (1 : Int32)])) (h' := (zt_T L, zt_R, M, J, (e + 1))) (fun _ => rfl)).trans ?_
    refine zl_retI rfl rfl ?_
    rfl
