set_option maxRecDepth 40000 in
theorem ic_1 (L : Nat) (xs : Nat → Int32) (d : Nat) : zz_D (zm_T_init, d + 8, 0, [some (.ref (2 : Nat))], []) (zi_H L xs 3 0 0) = some (.inl none, (zi_H L xs 4 1 1)) := by
  refine (zz_go 4 (fr' := (zm_T_init, d + 8, 8, [some (.ref (2 : Nat))], [.int (400 : Int32), .ref (2 : Nat)])) (h' := (zi_H L xs 3 0 0)) (fun _ => rfl)).trans ?_
  refine zi_newa (c := 400) rfl rfl rfl rfl rfl rfl rfl ?_
  refine zi_putR rfl rfl rfl rfl ?_
  refine (zz_go 2 (fr' := (zm_T_init, d + 8, 15, [some (.ref (2 : Nat))], [.int (-1 : Int32), .ref (2 : Nat)])) (h' := (zi_H L xs 4 1 0)) (fun _ => rfl)).trans ?_
  refine zi_putI rfl rfl rfl rfl rfl ?_
  exact zz_end 1 (fun _ => rfl)
set_option maxRecDepth 40000 in
theorem ic_2 (L : Nat) (xs : Nat → Int32) (d : Nat) : zz_D (zm_S_init, d + 8, 0, [some (.ref (4 : Nat)), none], []) (zi_H L xs 5 2 2) = some (.inl none, (zi_H L xs 15 12 20)) := by
  refine (zz_go 4 (fr' := (zm_S_init, d + 8, 7, [some (.ref (4 : Nat)), none], [.int (8 : Int32), .ref (4 : Nat)])) (h' := (zi_H L xs 5 2 2)) (fun _ => rfl)).trans ?_
  refine zi_newa (c := 8) rfl rfl rfl rfl rfl rfl rfl ?_
  refine zi_putR rfl rfl rfl rfl ?_
  refine (zz_go 2 (fr' := (zm_S_init, d + 8, 15, [some (.ref (4 : Nat)), none], [.int (8 : Int32), .ref (4 : Nat)])) (h' := (zi_H L xs 6 3 2)) (fun _ => rfl)).trans ?_
  refine zi_newa (c := 8) rfl rfl rfl rfl rfl rfl rfl ?_
  refine zi_putR rfl rfl rfl rfl ?_
  refine (zz_go 2 (fr' := (zm_S_init, d + 8, 23, [some (.ref (4 : Nat)), none], [.int (8 : Int32), .ref (4 : Nat)])) (h' := (zi_H L xs 7 4 2)) (fun _ => rfl)).trans ?_
  refine zi_newa (c := 8) rfl rfl rfl rfl rfl rfl rfl ?_
  refine zi_putR rfl rfl rfl rfl ?_
  refine (zz_go 2 (fr' := (zm_S_init, d + 8, 31, [some (.ref (4 : Nat)), none], [.int (6 : Int32), .ref (4 : Nat)])) (h' := (zi_H L xs 8 5 2)) (fun _ => rfl)).trans ?_
  refine zi_newa (c := 6) rfl rfl rfl rfl rfl rfl rfl ?_
  refine zi_putR rfl rfl rfl rfl ?_
  refine (zz_go 2 (fr' := (zm_S_init, d + 8, 39, [some (.ref (4 : Nat)), none], [.int (6 : Int32), .ref (4 : Nat)])) (h' := (zi_H L xs 9 6 2)) (fun _ => rfl)).trans ?_
  refine zi_newa (c := 6) rfl rfl rfl rfl rfl rfl rfl ?_
  refine zi_putR rfl rfl rfl rfl ?_
  refine (zz_go 2 (fr' := (zm_S_init, d + 8, 47, [some (.ref (4 : Nat)), none], [.int (6 : Int32), .ref (4 : Nat)])) (h' := (zi_H L xs 10 7 2)) (fun _ => rfl)).trans ?_
  refine zi_newa (c := 6) rfl rfl rfl rfl rfl rfl rfl ?_
  refine zi_putR rfl rfl rfl rfl ?_
  refine (zz_go 2 (fr' := (zm_S_init, d + 8, 55, [some (.ref (4 : Nat)), none], [.int (6 : Int32), .ref (4 : Nat)])) (h' := (zi_H L xs 11 8 2)) (fun _ => rfl)).trans ?_
  refine zi_newa (c := 6) rfl rfl rfl rfl rfl rfl rfl ?_
  refine zi_putR rfl rfl rfl rfl ?_
  refine (zz_go 2 (fr' := (zm_S_init, d + 8, 63, [some (.ref (4 : Nat)), none], [.int (6 : Int32), .ref (4 : Nat)])) (h' := (zi_H L xs 12 9 2)) (fun _ => rfl)).trans ?_
  refine zi_newa (c := 6) rfl rfl rfl rfl rfl rfl rfl ?_
  refine zi_putR rfl rfl rfl rfl ?_
  refine (zz_go 2 (fr' := (zm_S_init, d + 8, 71, [some (.ref (4 : Nat)), none], [.int (6 : Int32), .ref (4 : Nat)])) (h' := (zi_H L xs 13 10 2)) (fun _ => rfl)).trans ?_
  refine zi_newa (c := 6) rfl rfl rfl rfl rfl rfl rfl ?_
  refine zi_putR rfl rfl rfl rfl ?_
  refine (zz_go 2 (fr' := (zm_S_init, d + 8, 79, [some (.ref (4 : Nat)), none], [.int (60 : Int32), .ref (4 : Nat)])) (h' := (zi_H L xs 14 11 2)) (fun _ => rfl)).trans ?_
  refine zi_newa (c := 60) rfl rfl rfl rfl rfl rfl rfl ?_
  refine zi_putR rfl rfl rfl rfl ?_
  refine (zz_go 6 (fr' := (zm_S_init, d + 8, 93, [some (.ref (4 : Nat)), some (.int (0 : Int32))], [.ref (4 : Nat)])) (h' := (zi_H L xs 15 12 2)) (fun _ => rfl)).trans ?_
  refine zl_getR (r := 6) rfl rfl rfl ?_
  show zz_D (zm_S_init, d + 8, 96, [some (.ref (4 : Nat)), some (.int (0 : Int32))], [.ref (6 : Nat)]) (zi_H L xs 15 12 2) = _
  refine (zz_go 2 (fr' := (zm_S_init, d + 8, 98, [some (.ref (4 : Nat)), some (.int (0 : Int32))], [.int (0 : Int32), .int (0 : Int32), .ref (6 : Nat)])) (h' := (zi_H L xs 15 12 2)) (fun _ => rfl)).trans ?_
  refine zi_ast (i := 0) rfl rfl (by decide) (by decide) rfl rfl ?_
  refine (zz_go 1 (fr' := (zm_S_init, d + 8, 100, [some (.ref (4 : Nat)), some (.int (0 : Int32))], [.ref (4 : Nat)])) (h' := (zi_H L xs 15 12 3)) (fun _ => rfl)).trans ?_
  refine zl_getR (r := 7) rfl rfl rfl ?_
  show zz_D (zm_S_init, d + 8, 103, [some (.ref (4 : Nat)), some (.int (0 : Int32))], [.ref (7 : Nat)]) (zi_H L xs 15 12 3) = _
  refine (zz_go 2 (fr' := (zm_S_init, d + 8, 105, [some (.ref (4 : Nat)), some (.int (0 : Int32))], [.int (-1 : Int32), .int (0 : Int32), .ref (7 : Nat)])) (h' := (zi_H L xs 15 12 3)) (fun _ => rfl)).trans ?_
  refine zi_ast (i := 0) rfl rfl (by decide) (by decide) rfl rfl ?_
  refine (zz_go 6 (fr' := (zm_S_init, d + 8, 93, [some (.ref (4 : Nat)), some (.int (1 : Int32))], [.ref (4 : Nat)])) (h' := (zi_H L xs 15 12 4)) (fun _ => rfl)).trans ?_
  refine zl_getR (r := 6) rfl rfl rfl ?_
  show zz_D (zm_S_init, d + 8, 96, [some (.ref (4 : Nat)), some (.int (1 : Int32))], [.ref (6 : Nat)]) (zi_H L xs 15 12 4) = _
  refine (zz_go 2 (fr' := (zm_S_init, d + 8, 98, [some (.ref (4 : Nat)), some (.int (1 : Int32))], [.int (1 : Int32), .int (1 : Int32), .ref (6 : Nat)])) (h' := (zi_H L xs 15 12 4)) (fun _ => rfl)).trans ?_
  refine zi_ast (i := 1) rfl rfl (by decide) (by decide) rfl rfl ?_
  refine (zz_go 1 (fr' := (zm_S_init, d + 8, 100, [some (.ref (4 : Nat)), some (.int (1 : Int32))], [.ref (4 : Nat)])) (h' := (zi_H L xs 15 12 5)) (fun _ => rfl)).trans ?_
  refine zl_getR (r := 7) rfl rfl rfl ?_
  show zz_D (zm_S_init, d + 8, 103, [some (.ref (4 : Nat)), some (.int (1 : Int32))], [.ref (7 : Nat)]) (zi_H L xs 15 12 5) = _
  refine (zz_go 2 (fr' := (zm_S_init, d + 8, 105, [some (.ref (4 : Nat)), some (.int (1 : Int32))], [.int (-1 : Int32), .int (1 : Int32), .ref (7 : Nat)])) (h' := (zi_H L xs 15 12 5)) (fun _ => rfl)).trans ?_
  refine zi_ast (i := 1) rfl rfl (by decide) (by decide) rfl rfl ?_
  refine (zz_go 6 (fr' := (zm_S_init, d + 8, 93, [some (.ref (4 : Nat)), some (.int (2 : Int32))], [.ref (4 : Nat)])) (h' := (zi_H L xs 15 12 6)) (fun _ => rfl)).trans ?_
  refine zl_getR (r := 6) rfl rfl rfl ?_
  show zz_D (zm_S_init, d + 8, 96, [some (.ref (4 : Nat)), some (.int (2 : Int32))], [.ref (6 : Nat)]) (zi_H L xs 15 12 6) = _
  refine (zz_go 2 (fr' := (zm_S_init, d + 8, 98, [some (.ref (4 : Nat)), some (.int (2 : Int32))], [.int (2 : Int32), .int (2 : Int32), .ref (6 : Nat)])) (h' := (zi_H L xs 15 12 6)) (fun _ => rfl)).trans ?_
  refine zi_ast (i := 2) rfl rfl (by decide) (by decide) rfl rfl ?_
  refine (zz_go 1 (fr' := (zm_S_init, d + 8, 100, [some (.ref (4 : Nat)), some (.int (2 : Int32))], [.ref (4 : Nat)])) (h' := (zi_H L xs 15 12 7)) (fun _ => rfl)).trans ?_
  refine zl_getR (r := 7) rfl rfl rfl ?_
  show zz_D (zm_S_init, d + 8, 103, [some (.ref (4 : Nat)), some (.int (2 : Int32))], [.ref (7 : Nat)]) (zi_H L xs 15 12 7) = _
  refine (zz_go 2 (fr' := (zm_S_init, d + 8, 105, [some (.ref (4 : Nat)), some (.int (2 : Int32))], [.int (-1 : Int32), .int (2 : Int32), .ref (7 : Nat)])) (h' := (zi_H L xs 15 12 7)) (fun _ => rfl)).trans ?_
  refine zi_ast (i := 2) rfl rfl (by decide) (by decide) rfl rfl ?_
  refine (zz_go 6 (fr' := (zm_S_init, d + 8, 93, [some (.ref (4 : Nat)), some (.int (3 : Int32))], [.ref (4 : Nat)])) (h' := (zi_H L xs 15 12 8)) (fun _ => rfl)).trans ?_
  refine zl_getR (r := 6) rfl rfl rfl ?_
  show zz_D (zm_S_init, d + 8, 96, [some (.ref (4 : Nat)), some (.int (3 : Int32))], [.ref (6 : Nat)]) (zi_H L xs 15 12 8) = _
  refine (zz_go 2 (fr' := (zm_S_init, d + 8, 98, [some (.ref (4 : Nat)), some (.int (3 : Int32))], [.int (3 : Int32), .int (3 : Int32), .ref (6 : Nat)])) (h' := (zi_H L xs 15 12 8)) (fun _ => rfl)).trans ?_
  refine zi_ast (i := 3) rfl rfl (by decide) (by decide) rfl rfl ?_
  refine (zz_go 1 (fr' := (zm_S_init, d + 8, 100, [some (.ref (4 : Nat)), some (.int (3 : Int32))], [.ref (4 : Nat)])) (h' := (zi_H L xs 15 12 9)) (fun _ => rfl)).trans ?_
  refine zl_getR (r := 7) rfl rfl rfl ?_
  show zz_D (zm_S_init, d + 8, 103, [some (.ref (4 : Nat)), some (.int (3 : Int32))], [.ref (7 : Nat)]) (zi_H L xs 15 12 9) = _
  refine (zz_go 2 (fr' := (zm_S_init, d + 8, 105, [some (.ref (4 : Nat)), some (.int (3 : Int32))], [.int (-1 : Int32), .int (3 : Int32), .ref (7 : Nat)])) (h' := (zi_H L xs 15 12 9)) (fun _ => rfl)).trans ?_
  refine zi_ast (i := 3) rfl rfl (by decide) (by decide) rfl rfl ?_
  refine (zz_go 6 (fr' := (zm_S_init, d + 8, 93, [some (.ref (4 : Nat)), some (.int (4 : Int32))], [.ref (4 : Nat)])) (h' := (zi_H L xs 15 12 10)) (fun _ => rfl)).trans ?_
  refine zl_getR (r := 6) rfl rfl rfl ?_
  show zz_D (zm_S_init, d + 8, 96, [some (.ref (4 : Nat)), some (.int (4 : Int32))], [.ref (6 : Nat)]) (zi_H L xs 15 12 10) = _
  refine (zz_go 2 (fr' := (zm_S_init, d + 8, 98, [some (.ref (4 : Nat)), some (.int (4 : Int32))], [.int (4 : Int32), .int (4 : Int32), .ref (6 : Nat)])) (h' := (zi_H L xs 15 12 10)) (fun _ => rfl)).trans ?_
  refine zi_ast (i := 4) rfl rfl (by decide) (by decide) rfl rfl ?_
  refine (zz_go 1 (fr' := (zm_S_init, d + 8, 100, [some (.ref (4 : Nat)), some (.int (4 : Int32))], [.ref (4 : Nat)])) (h' := (zi_H L xs 15 12 11)) (fun _ => rfl)).trans ?_
  refine zl_getR (r := 7) rfl rfl rfl ?_
  show zz_D (zm_S_init, d + 8, 103, [some (.ref (4 : Nat)), some (.int (4 : Int32))], [.ref (7 : Nat)]) (zi_H L xs 15 12 11) = _
  refine (zz_go 2 (fr' := (zm_S_init, d + 8, 105, [some (.ref (4 : Nat)), some (.int (4 : Int32))], [.int (-1 : Int32), .int (4 : Int32), .ref (7 : Nat)])) (h' := (zi_H L xs 15 12 11)) (fun _ => rfl)).trans ?_
  refine zi_ast (i := 4) rfl rfl (by decide) (by decide) rfl rfl ?_
  refine (zz_go 6 (fr' := (zm_S_init, d + 8, 93, [some (.ref (4 : Nat)), some (.int (5 : Int32))], [.ref (4 : Nat)])) (h' := (zi_H L xs 15 12 12)) (fun _ => rfl)).trans ?_
  refine zl_getR (r := 6) rfl rfl rfl ?_
  show zz_D (zm_S_init, d + 8, 96, [some (.ref (4 : Nat)), some (.int (5 : Int32))], [.ref (6 : Nat)]) (zi_H L xs 15 12 12) = _
  refine (zz_go 2 (fr' := (zm_S_init, d + 8, 98, [some (.ref (4 : Nat)), some (.int (5 : Int32))], [.int (5 : Int32), .int (5 : Int32), .ref (6 : Nat)])) (h' := (zi_H L xs 15 12 12)) (fun _ => rfl)).trans ?_
  refine zi_ast (i := 5) rfl rfl (by decide) (by decide) rfl rfl ?_
  refine (zz_go 1 (fr' := (zm_S_init, d + 8, 100, [some (.ref (4 : Nat)), some (.int (5 : Int32))], [.ref (4 : Nat)])) (h' := (zi_H L xs 15 12 13)) (fun _ => rfl)).trans ?_
  refine zl_getR (r := 7) rfl rfl rfl ?_
  show zz_D (zm_S_init, d + 8, 103, [some (.ref (4 : Nat)), some (.int (5 : Int32))], [.ref (7 : Nat)]) (zi_H L xs 15 12 13) = _
  refine (zz_go 2 (fr' := (zm_S_init, d + 8, 105, [some (.ref (4 : Nat)), some (.int (5 : Int32))], [.int (-1 : Int32), .int (5 : Int32), .ref (7 : Nat)])) (h' := (zi_H L xs 15 12 13)) (fun _ => rfl)).trans ?_
  refine zi_ast (i := 5) rfl rfl (by decide) (by decide) rfl rfl ?_
  refine (zz_go 6 (fr' := (zm_S_init, d + 8, 93, [some (.ref (4 : Nat)), some (.int (6 : Int32))], [.ref (4 : Nat)])) (h' := (zi_H L xs 15 12 14)) (fun _ => rfl)).trans ?_
  refine zl_getR (r := 6) rfl rfl rfl ?_
  show zz_D (zm_S_init, d + 8, 96, [some (.ref (4 : Nat)), some (.int (6 : Int32))], [.ref (6 : Nat)]) (zi_H L xs 15 12 14) = _
  refine (zz_go 2 (fr' := (zm_S_init, d + 8, 98, [some (.ref (4 : Nat)), some (.int (6 : Int32))], [.int (6 : Int32), .int (6 : Int32), .ref (6 : Nat)])) (h' := (zi_H L xs 15 12 14)) (fun _ => rfl)).trans ?_
  refine zi_ast (i := 6) rfl rfl (by decide) (by decide) rfl rfl ?_
  refine (zz_go 1 (fr' := (zm_S_init, d + 8, 100, [some (.ref (4 : Nat)), some (.int (6 : Int32))], [.ref (4 : Nat)])) (h' := (zi_H L xs 15 12 15)) (fun _ => rfl)).trans ?_
  refine zl_getR (r := 7) rfl rfl rfl ?_
  show zz_D (zm_S_init, d + 8, 103, [some (.ref (4 : Nat)), some (.int (6 : Int32))], [.ref (7 : Nat)]) (zi_H L xs 15 12 15) = _
  refine (zz_go 2 (fr' := (zm_S_init, d + 8, 105, [some (.ref (4 : Nat)), some (.int (6 : Int32))], [.int (-1 : Int32), .int (6 : Int32), .ref (7 : Nat)])) (h' := (zi_H L xs 15 12 15)) (fun _ => rfl)).trans ?_
  refine zi_ast (i := 6) rfl rfl (by decide) (by decide) rfl rfl ?_
  refine (zz_go 6 (fr' := (zm_S_init, d + 8, 93, [some (.ref (4 : Nat)), some (.int (7 : Int32))], [.ref (4 : Nat)])) (h' := (zi_H L xs 15 12 16)) (fun _ => rfl)).trans ?_
  refine zl_getR (r := 6) rfl rfl rfl ?_
  show zz_D (zm_S_init, d + 8, 96, [some (.ref (4 : Nat)), some (.int (7 : Int32))], [.ref (6 : Nat)]) (zi_H L xs 15 12 16) = _
  refine (zz_go 2 (fr' := (zm_S_init, d + 8, 98, [some (.ref (4 : Nat)), some (.int (7 : Int32))], [.int (7 : Int32), .int (7 : Int32), .ref (6 : Nat)])) (h' := (zi_H L xs 15 12 16)) (fun _ => rfl)).trans ?_
  refine zi_ast (i := 7) rfl rfl (by decide) (by decide) rfl rfl ?_
  refine (zz_go 1 (fr' := (zm_S_init, d + 8, 100, [some (.ref (4 : Nat)), some (.int (7 : Int32))], [.ref (4 : Nat)])) (h' := (zi_H L xs 15 12 17)) (fun _ => rfl)).trans ?_
  refine zl_getR (r := 7) rfl rfl rfl ?_
  show zz_D (zm_S_init, d + 8, 103, [some (.ref (4 : Nat)), some (.int (7 : Int32))], [.ref (7 : Nat)]) (zi_H L xs 15 12 17) = _
  refine (zz_go 2 (fr' := (zm_S_init, d + 8, 105, [some (.ref (4 : Nat)), some (.int (7 : Int32))], [.int (-1 : Int32), .int (7 : Int32), .ref (7 : Nat)])) (h' := (zi_H L xs 15 12 17)) (fun _ => rfl)).trans ?_
  refine zi_ast (i := 7) rfl rfl (by decide) (by decide) rfl rfl ?_
  refine (zz_go 7 (fr' := (zm_S_init, d + 8, 115, [some (.ref (4 : Nat)), some (.int (8 : Int32))], [.int (100 : Int32), .ref (4 : Nat)])) (h' := (zi_H L xs 15 12 18)) (fun _ => rfl)).trans ?_
  refine zi_putI rfl rfl rfl rfl rfl ?_
  refine (zz_go 2 (fr' := (zm_S_init, d + 8, 120, [some (.ref (4 : Nat)), some (.int (8 : Int32))], [.int (1 : Int32), .ref (4 : Nat)])) (h' := (zi_H L xs 15 12 19)) (fun _ => rfl)).trans ?_
  refine zi_putI rfl rfl rfl rfl rfl ?_
  exact zz_end 1 (fun _ => rfl)
set_option maxRecDepth 40000 in
theorem ic_3 (L : Nat) (xs : Nat → Int32) (d : Nat) : zz_D (zm_S_init, d + 8, 0, [some (.ref (15 : Nat)), none], []) (zi_H L xs 16 13 20) = some (.inl none, (zi_H L xs 26 23 38)) := by
  refine (zz_go 4 (fr' := (zm_S_init, d + 8, 7, [some (.ref (15 : Nat)), none], [.int (8 : Int32), .ref (15 : Nat)])) (h' := (zi_H L xs 16 13 20)) (fun _ => rfl)).trans ?_
  refine zi_newa (c := 8) rfl rfl rfl rfl rfl rfl rfl ?_
  refine zi_putR rfl rfl rfl rfl ?_
  refine (zz_go 2 (fr' := (zm_S_init, d + 8, 15, [some (.ref (15 : Nat)), none], [.int (8 : Int32), .ref (15 : Nat)])) (h' := (zi_H L xs 17 14 20)) (fun _ => rfl)).trans ?_
  refine zi_newa (c := 8) rfl rfl rfl rfl rfl rfl rfl ?_
  refine zi_putR rfl rfl rfl rfl ?_
  refine (zz_go 2 (fr' := (zm_S_init, d + 8, 23, [some (.ref (15 : Nat)), none], [.int (8 : Int32), .ref (15 : Nat)])) (h' := (zi_H L xs 18 15 20)) (fun _ => rfl)).trans ?_
  refine zi_newa (c := 8) rfl rfl rfl rfl rfl rfl rfl ?_
  refine zi_putR rfl rfl rfl rfl ?_
  refine (zz_go 2 (fr' := (zm_S_init, d + 8, 31, [some (.ref (15 : Nat)), none], [.int (6 : Int32), .ref (15 : Nat)])) (h' := (zi_H L xs 19 16 20)) (fun _ => rfl)).trans ?_
  refine zi_newa (c := 6) rfl rfl rfl rfl rfl rfl rfl ?_
  refine zi_putR rfl rfl rfl rfl ?_
  refine (zz_go 2 (fr' := (zm_S_init, d + 8, 39, [some (.ref (15 : Nat)), none], [.int (6 : Int32), .ref (15 : Nat)])) (h' := (zi_H L xs 20 17 20)) (fun _ => rfl)).trans ?_
  refine zi_newa (c := 6) rfl rfl rfl rfl rfl rfl rfl ?_
  refine zi_putR rfl rfl rfl rfl ?_
  refine (zz_go 2 (fr' := (zm_S_init, d + 8, 47, [some (.ref (15 : Nat)), none], [.int (6 : Int32), .ref (15 : Nat)])) (h' := (zi_H L xs 21 18 20)) (fun _ => rfl)).trans ?_
  refine zi_newa (c := 6) rfl rfl rfl rfl rfl rfl rfl ?_
  refine zi_putR rfl rfl rfl rfl ?_
  refine (zz_go 2 (fr' := (zm_S_init, d + 8, 55, [some (.ref (15 : Nat)), none], [.int (6 : Int32), .ref (15 : Nat)])) (h' := (zi_H L xs 22 19 20)) (fun _ => rfl)).trans ?_
  refine zi_newa (c := 6) rfl rfl rfl rfl rfl rfl rfl ?_
  refine zi_putR rfl rfl rfl rfl ?_
  refine (zz_go 2 (fr' := (zm_S_init, d + 8, 63, [some (.ref (15 : Nat)), none], [.int (6 : Int32), .ref (15 : Nat)])) (h' := (zi_H L xs 23 20 20)) (fun _ => rfl)).trans ?_
  refine zi_newa (c := 6) rfl rfl rfl rfl rfl rfl rfl ?_
  refine zi_putR rfl rfl rfl rfl ?_
  refine (zz_go 2 (fr' := (zm_S_init, d + 8, 71, [some (.ref (15 : Nat)), none], [.int (6 : Int32), .ref (15 : Nat)])) (h' := (zi_H L xs 24 21 20)) (fun _ => rfl)).trans ?_
  refine zi_newa (c := 6) rfl rfl rfl rfl rfl rfl rfl ?_
  refine zi_putR rfl rfl rfl rfl ?_
  refine (zz_go 2 (fr' := (zm_S_init, d + 8, 79, [some (.ref (15 : Nat)), none], [.int (60 : Int32), .ref (15 : Nat)])) (h' := (zi_H L xs 25 22 20)) (fun _ => rfl)).trans ?_
  refine zi_newa (c := 60) rfl rfl rfl rfl rfl rfl rfl ?_
  refine zi_putR rfl rfl rfl rfl ?_
  refine (zz_go 6 (fr' := (zm_S_init, d + 8, 93, [some (.ref (15 : Nat)), some (.int (0 : Int32))], [.ref (15 : Nat)])) (h' := (zi_H L xs 26 23 20)) (fun _ => rfl)).trans ?_
  refine zl_getR (r := 17) rfl rfl rfl ?_
  show zz_D (zm_S_init, d + 8, 96, [some (.ref (15 : Nat)), some (.int (0 : Int32))], [.ref (17 : Nat)]) (zi_H L xs 26 23 20) = _
  refine (zz_go 2 (fr' := (zm_S_init, d + 8, 98, [some (.ref (15 : Nat)), some (.int (0 : Int32))], [.int (0 : Int32), .int (0 : Int32), .ref (17 : Nat)])) (h' := (zi_H L xs 26 23 20)) (fun _ => rfl)).trans ?_
  refine zi_ast (i := 0) rfl rfl (by decide) (by decide) rfl rfl ?_
  refine (zz_go 1 (fr' := (zm_S_init, d + 8, 100, [some (.ref (15 : Nat)), some (.int (0 : Int32))], [.ref (15 : Nat)])) (h' := (zi_H L xs 26 23 21)) (fun _ => rfl)).trans ?_
  refine zl_getR (r := 18) rfl rfl rfl ?_
  show zz_D (zm_S_init, d + 8, 103, [some (.ref (15 : Nat)), some (.int (0 : Int32))], [.ref (18 : Nat)]) (zi_H L xs 26 23 21) = _
  refine (zz_go 2 (fr' := (zm_S_init, d + 8, 105, [some (.ref (15 : Nat)), some (.int (0 : Int32))], [.int (-1 : Int32), .int (0 : Int32), .ref (18 : Nat)])) (h' := (zi_H L xs 26 23 21)) (fun _ => rfl)).trans ?_
  refine zi_ast (i := 0) rfl rfl (by decide) (by decide) rfl rfl ?_
  refine (zz_go 6 (fr' := (zm_S_init, d + 8, 93, [some (.ref (15 : Nat)), some (.int (1 : Int32))], [.ref (15 : Nat)])) (h' := (zi_H L xs 26 23 22)) (fun _ => rfl)).trans ?_
  refine zl_getR (r := 17) rfl rfl rfl ?_
  show zz_D (zm_S_init, d + 8, 96, [some (.ref (15 : Nat)), some (.int (1 : Int32))], [.ref (17 : Nat)]) (zi_H L xs 26 23 22) = _
  refine (zz_go 2 (fr' := (zm_S_init, d + 8, 98, [some (.ref (15 : Nat)), some (.int (1 : Int32))], [.int (1 : Int32), .int (1 : Int32), .ref (17 : Nat)])) (h' := (zi_H L xs 26 23 22)) (fun _ => rfl)).trans ?_
  refine zi_ast (i := 1) rfl rfl (by decide) (by decide) rfl rfl ?_
  refine (zz_go 1 (fr' := (zm_S_init, d + 8, 100, [some (.ref (15 : Nat)), some (.int (1 : Int32))], [.ref (15 : Nat)])) (h' := (zi_H L xs 26 23 23)) (fun _ => rfl)).trans ?_
  refine zl_getR (r := 18) rfl rfl rfl ?_
  show zz_D (zm_S_init, d + 8, 103, [some (.ref (15 : Nat)), some (.int (1 : Int32))], [.ref (18 : Nat)]) (zi_H L xs 26 23 23) = _
  refine (zz_go 2 (fr' := (zm_S_init, d + 8, 105, [some (.ref (15 : Nat)), some (.int (1 : Int32))], [.int (-1 : Int32), .int (1 : Int32), .ref (18 : Nat)])) (h' := (zi_H L xs 26 23 23)) (fun _ => rfl)).trans ?_
  refine zi_ast (i := 1) rfl rfl (by decide) (by decide) rfl rfl ?_
  refine (zz_go 6 (fr' := (zm_S_init, d + 8, 93, [some (.ref (15 : Nat)), some (.int (2 : Int32))], [.ref (15 : Nat)])) (h' := (zi_H L xs 26 23 24)) (fun _ => rfl)).trans ?_
  refine zl_getR (r := 17) rfl rfl rfl ?_
  show zz_D (zm_S_init, d + 8, 96, [some (.ref (15 : Nat)), some (.int (2 : Int32))], [.ref (17 : Nat)]) (zi_H L xs 26 23 24) = _
  refine (zz_go 2 (fr' := (zm_S_init, d + 8, 98, [some (.ref (15 : Nat)), some (.int (2 : Int32))], [.int (2 : Int32), .int (2 : Int32), .ref (17 : Nat)])) (h' := (zi_H L xs 26 23 24)) (fun _ => rfl)).trans ?_
  refine zi_ast (i := 2) rfl rfl (by decide) (by decide) rfl rfl ?_
  refine (zz_go 1 (fr' := (zm_S_init, d + 8, 100, [some (.ref (15 : Nat)), some (.int (2 : Int32))], [.ref (15 : Nat)])) (h' := (zi_H L xs 26 23 25)) (fun _ => rfl)).trans ?_
  refine zl_getR (r := 18) rfl rfl rfl ?_
  show zz_D (zm_S_init, d + 8, 103, [some (.ref (15 : Nat)), some (.int (2 : Int32))], [.ref (18 : Nat)]) (zi_H L xs 26 23 25) = _
  refine (zz_go 2 (fr' := (zm_S_init, d + 8, 105, [some (.ref (15 : Nat)), some (.int (2 : Int32))], [.int (-1 : Int32), .int (2 : Int32), .ref (18 : Nat)])) (h' := (zi_H L xs 26 23 25)) (fun _ => rfl)).trans ?_
  refine zi_ast (i := 2) rfl rfl (by decide) (by decide) rfl rfl ?_
  refine (zz_go 6 (fr' := (zm_S_init, d + 8, 93, [some (.ref (15 : Nat)), some (.int (3 : Int32))], [.ref (15 : Nat)])) (h' := (zi_H L xs 26 23 26)) (fun _ => rfl)).trans ?_
  refine zl_getR (r := 17) rfl rfl rfl ?_
  show zz_D (zm_S_init, d + 8, 96, [some (.ref (15 : Nat)), some (.int (3 : Int32))], [.ref (17 : Nat)]) (zi_H L xs 26 23 26) = _
  refine (zz_go 2 (fr' := (zm_S_init, d + 8, 98, [some (.ref (15 : Nat)), some (.int (3 : Int32))], [.int (3 : Int32), .int (3 : Int32), .ref (17 : Nat)])) (h' := (zi_H L xs 26 23 26)) (fun _ => rfl)).trans ?_
  refine zi_ast (i := 3) rfl rfl (by decide) (by decide) rfl rfl ?_
  refine (zz_go 1 (fr' := (zm_S_init, d + 8, 100, [some (.ref (15 : Nat)), some (.int (3 : Int32))], [.ref (15 : Nat)])) (h' := (zi_H L xs 26 23 27)) (fun _ => rfl)).trans ?_
  refine zl_getR (r := 18) rfl rfl rfl ?_
  show zz_D (zm_S_init, d + 8, 103, [some (.ref (15 : Nat)), some (.int (3 : Int32))], [.ref (18 : Nat)]) (zi_H L xs 26 23 27) = _
  refine (zz_go 2 (fr' := (zm_S_init, d + 8, 105, [some (.ref (15 : Nat)), some (.int (3 : Int32))], [.int (-1 : Int32), .int (3 : Int32), .ref (18 : Nat)])) (h' := (zi_H L xs 26 23 27)) (fun _ => rfl)).trans ?_
  refine zi_ast (i := 3) rfl rfl (by decide) (by decide) rfl rfl ?_
  refine (zz_go 6 (fr' := (zm_S_init, d + 8, 93, [some (.ref (15 : Nat)), some (.int (4 : Int32))], [.ref (15 : Nat)])) (h' := (zi_H L xs 26 23 28)) (fun _ => rfl)).trans ?_
  refine zl_getR (r := 17) rfl rfl rfl ?_
  show zz_D (zm_S_init, d + 8, 96, [some (.ref (15 : Nat)), some (.int (4 : Int32))], [.ref (17 : Nat)]) (zi_H L xs 26 23 28) = _
  refine (zz_go 2 (fr' := (zm_S_init, d + 8, 98, [some (.ref (15 : Nat)), some (.int (4 : Int32))], [.int (4 : Int32), .int (4 : Int32), .ref (17 : Nat)])) (h' := (zi_H L xs 26 23 28)) (fun _ => rfl)).trans ?_
  refine zi_ast (i := 4) rfl rfl (by decide) (by decide) rfl rfl ?_
  refine (zz_go 1 (fr' := (zm_S_init, d + 8, 100, [some (.ref (15 : Nat)), some (.int (4 : Int32))], [.ref (15 : Nat)])) (h' := (zi_H L xs 26 23 29)) (fun _ => rfl)).trans ?_
  refine zl_getR (r := 18) rfl rfl rfl ?_
  show zz_D (zm_S_init, d + 8, 103, [some (.ref (15 : Nat)), some (.int (4 : Int32))], [.ref (18 : Nat)]) (zi_H L xs 26 23 29) = _
  refine (zz_go 2 (fr' := (zm_S_init, d + 8, 105, [some (.ref (15 : Nat)), some (.int (4 : Int32))], [.int (-1 : Int32), .int (4 : Int32), .ref (18 : Nat)])) (h' := (zi_H L xs 26 23 29)) (fun _ => rfl)).trans ?_
  refine zi_ast (i := 4) rfl rfl (by decide) (by decide) rfl rfl ?_
  refine (zz_go 6 (fr' := (zm_S_init, d + 8, 93, [some (.ref (15 : Nat)), some (.int (5 : Int32))], [.ref (15 : Nat)])) (h' := (zi_H L xs 26 23 30)) (fun _ => rfl)).trans ?_
  refine zl_getR (r := 17) rfl rfl rfl ?_
  show zz_D (zm_S_init, d + 8, 96, [some (.ref (15 : Nat)), some (.int (5 : Int32))], [.ref (17 : Nat)]) (zi_H L xs 26 23 30) = _
  refine (zz_go 2 (fr' := (zm_S_init, d + 8, 98, [some (.ref (15 : Nat)), some (.int (5 : Int32))], [.int (5 : Int32), .int (5 : Int32), .ref (17 : Nat)])) (h' := (zi_H L xs 26 23 30)) (fun _ => rfl)).trans ?_
  refine zi_ast (i := 5) rfl rfl (by decide) (by decide) rfl rfl ?_
  refine (zz_go 1 (fr' := (zm_S_init, d + 8, 100, [some (.ref (15 : Nat)), some (.int (5 : Int32))], [.ref (15 : Nat)])) (h' := (zi_H L xs 26 23 31)) (fun _ => rfl)).trans ?_
  refine zl_getR (r := 18) rfl rfl rfl ?_
  show zz_D (zm_S_init, d + 8, 103, [some (.ref (15 : Nat)), some (.int (5 : Int32))], [.ref (18 : Nat)]) (zi_H L xs 26 23 31) = _
  refine (zz_go 2 (fr' := (zm_S_init, d + 8, 105, [some (.ref (15 : Nat)), some (.int (5 : Int32))], [.int (-1 : Int32), .int (5 : Int32), .ref (18 : Nat)])) (h' := (zi_H L xs 26 23 31)) (fun _ => rfl)).trans ?_
  refine zi_ast (i := 5) rfl rfl (by decide) (by decide) rfl rfl ?_
  refine (zz_go 6 (fr' := (zm_S_init, d + 8, 93, [some (.ref (15 : Nat)), some (.int (6 : Int32))], [.ref (15 : Nat)])) (h' := (zi_H L xs 26 23 32)) (fun _ => rfl)).trans ?_
  refine zl_getR (r := 17) rfl rfl rfl ?_
  show zz_D (zm_S_init, d + 8, 96, [some (.ref (15 : Nat)), some (.int (6 : Int32))], [.ref (17 : Nat)]) (zi_H L xs 26 23 32) = _
  refine (zz_go 2 (fr' := (zm_S_init, d + 8, 98, [some (.ref (15 : Nat)), some (.int (6 : Int32))], [.int (6 : Int32), .int (6 : Int32), .ref (17 : Nat)])) (h' := (zi_H L xs 26 23 32)) (fun _ => rfl)).trans ?_
  refine zi_ast (i := 6) rfl rfl (by decide) (by decide) rfl rfl ?_
  refine (zz_go 1 (fr' := (zm_S_init, d + 8, 100, [some (.ref (15 : Nat)), some (.int (6 : Int32))], [.ref (15 : Nat)])) (h' := (zi_H L xs 26 23 33)) (fun _ => rfl)).trans ?_
  refine zl_getR (r := 18) rfl rfl rfl ?_
  show zz_D (zm_S_init, d + 8, 103, [some (.ref (15 : Nat)), some (.int (6 : Int32))], [.ref (18 : Nat)]) (zi_H L xs 26 23 33) = _
  refine (zz_go 2 (fr' := (zm_S_init, d + 8, 105, [some (.ref (15 : Nat)), some (.int (6 : Int32))], [.int (-1 : Int32), .int (6 : Int32), .ref (18 : Nat)])) (h' := (zi_H L xs 26 23 33)) (fun _ => rfl)).trans ?_
  refine zi_ast (i := 6) rfl rfl (by decide) (by decide) rfl rfl ?_
  refine (zz_go 6 (fr' := (zm_S_init, d + 8, 93, [some (.ref (15 : Nat)), some (.int (7 : Int32))], [.ref (15 : Nat)])) (h' := (zi_H L xs 26 23 34)) (fun _ => rfl)).trans ?_
  refine zl_getR (r := 17) rfl rfl rfl ?_
  show zz_D (zm_S_init, d + 8, 96, [some (.ref (15 : Nat)), some (.int (7 : Int32))], [.ref (17 : Nat)]) (zi_H L xs 26 23 34) = _
  refine (zz_go 2 (fr' := (zm_S_init, d + 8, 98, [some (.ref (15 : Nat)), some (.int (7 : Int32))], [.int (7 : Int32), .int (7 : Int32), .ref (17 : Nat)])) (h' := (zi_H L xs 26 23 34)) (fun _ => rfl)).trans ?_
  refine zi_ast (i := 7) rfl rfl (by decide) (by decide) rfl rfl ?_
  refine (zz_go 1 (fr' := (zm_S_init, d + 8, 100, [some (.ref (15 : Nat)), some (.int (7 : Int32))], [.ref (15 : Nat)])) (h' := (zi_H L xs 26 23 35)) (fun _ => rfl)).trans ?_
  refine zl_getR (r := 18) rfl rfl rfl ?_
  show zz_D (zm_S_init, d + 8, 103, [some (.ref (15 : Nat)), some (.int (7 : Int32))], [.ref (18 : Nat)]) (zi_H L xs 26 23 35) = _
  refine (zz_go 2 (fr' := (zm_S_init, d + 8, 105, [some (.ref (15 : Nat)), some (.int (7 : Int32))], [.int (-1 : Int32), .int (7 : Int32), .ref (18 : Nat)])) (h' := (zi_H L xs 26 23 35)) (fun _ => rfl)).trans ?_
  refine zi_ast (i := 7) rfl rfl (by decide) (by decide) rfl rfl ?_
  refine (zz_go 7 (fr' := (zm_S_init, d + 8, 115, [some (.ref (15 : Nat)), some (.int (8 : Int32))], [.int (100 : Int32), .ref (15 : Nat)])) (h' := (zi_H L xs 26 23 36)) (fun _ => rfl)).trans ?_
  refine zi_putI rfl rfl rfl rfl rfl ?_
  refine (zz_go 2 (fr' := (zm_S_init, d + 8, 120, [some (.ref (15 : Nat)), some (.int (8 : Int32))], [.int (1 : Int32), .ref (15 : Nat)])) (h' := (zi_H L xs 26 23 37)) (fun _ => rfl)).trans ?_
  refine zi_putI rfl rfl rfl rfl rfl ?_
  exact zz_end 1 (fun _ => rfl)
set_option maxRecDepth 40000 in
theorem ic_4 (L : Nat) (xs : Nat → Int32) (d : Nat) : zz_D (zm_S_init, d + 8, 0, [some (.ref (26 : Nat)), none], []) (zi_H L xs 27 24 38) = some (.inl none, (zi_H L xs 37 34 56)) := by
  refine (zz_go 4 (fr' := (zm_S_init, d + 8, 7, [some (.ref (26 : Nat)), none], [.int (8 : Int32), .ref (26 : Nat)])) (h' := (zi_H L xs 27 24 38)) (fun _ => rfl)).trans ?_
  refine zi_newa (c := 8) rfl rfl rfl rfl rfl rfl rfl ?_
  refine zi_putR rfl rfl rfl rfl ?_
  refine (zz_go 2 (fr' := (zm_S_init, d + 8, 15, [some (.ref (26 : Nat)), none], [.int (8 : Int32), .ref (26 : Nat)])) (h' := (zi_H L xs 28 25 38)) (fun _ => rfl)).trans ?_
  refine zi_newa (c := 8) rfl rfl rfl rfl rfl rfl rfl ?_
  refine zi_putR rfl rfl rfl rfl ?_
  refine (zz_go 2 (fr' := (zm_S_init, d + 8, 23, [some (.ref (26 : Nat)), none], [.int (8 : Int32), .ref (26 : Nat)])) (h' := (zi_H L xs 29 26 38)) (fun _ => rfl)).trans ?_
  refine zi_newa (c := 8) rfl rfl rfl rfl rfl rfl rfl ?_
  refine zi_putR rfl rfl rfl rfl ?_
  refine (zz_go 2 (fr' := (zm_S_init, d + 8, 31, [some (.ref (26 : Nat)), none], [.int (6 : Int32), .ref (26 : Nat)])) (h' := (zi_H L xs 30 27 38)) (fun _ => rfl)).trans ?_
  refine zi_newa (c := 6) rfl rfl rfl rfl rfl rfl rfl ?_
  refine zi_putR rfl rfl rfl rfl ?_
  refine (zz_go 2 (fr' := (zm_S_init, d + 8, 39, [some (.ref (26 : Nat)), none], [.int (6 : Int32), .ref (26 : Nat)])) (h' := (zi_H L xs 31 28 38)) (fun _ => rfl)).trans ?_
  refine zi_newa (c := 6) rfl rfl rfl rfl rfl rfl rfl ?_
  refine zi_putR rfl rfl rfl rfl ?_
  refine (zz_go 2 (fr' := (zm_S_init, d + 8, 47, [some (.ref (26 : Nat)), none], [.int (6 : Int32), .ref (26 : Nat)])) (h' := (zi_H L xs 32 29 38)) (fun _ => rfl)).trans ?_
  refine zi_newa (c := 6) rfl rfl rfl rfl rfl rfl rfl ?_
  refine zi_putR rfl rfl rfl rfl ?_
  refine (zz_go 2 (fr' := (zm_S_init, d + 8, 55, [some (.ref (26 : Nat)), none], [.int (6 : Int32), .ref (26 : Nat)])) (h' := (zi_H L xs 33 30 38)) (fun _ => rfl)).trans ?_
  refine zi_newa (c := 6) rfl rfl rfl rfl rfl rfl rfl ?_
  refine zi_putR rfl rfl rfl rfl ?_
  refine (zz_go 2 (fr' := (zm_S_init, d + 8, 63, [some (.ref (26 : Nat)), none], [.int (6 : Int32), .ref (26 : Nat)])) (h' := (zi_H L xs 34 31 38)) (fun _ => rfl)).trans ?_
  refine zi_newa (c := 6) rfl rfl rfl rfl rfl rfl rfl ?_
  refine zi_putR rfl rfl rfl rfl ?_
  refine (zz_go 2 (fr' := (zm_S_init, d + 8, 71, [some (.ref (26 : Nat)), none], [.int (6 : Int32), .ref (26 : Nat)])) (h' := (zi_H L xs 35 32 38)) (fun _ => rfl)).trans ?_
  refine zi_newa (c := 6) rfl rfl rfl rfl rfl rfl rfl ?_
  refine zi_putR rfl rfl rfl rfl ?_
  refine (zz_go 2 (fr' := (zm_S_init, d + 8, 79, [some (.ref (26 : Nat)), none], [.int (60 : Int32), .ref (26 : Nat)])) (h' := (zi_H L xs 36 33 38)) (fun _ => rfl)).trans ?_
  refine zi_newa (c := 60) rfl rfl rfl rfl rfl rfl rfl ?_
  refine zi_putR rfl rfl rfl rfl ?_
  refine (zz_go 6 (fr' := (zm_S_init, d + 8, 93, [some (.ref (26 : Nat)), some (.int (0 : Int32))], [.ref (26 : Nat)])) (h' := (zi_H L xs 37 34 38)) (fun _ => rfl)).trans ?_
  refine zl_getR (r := 28) rfl rfl rfl ?_
  show zz_D (zm_S_init, d + 8, 96, [some (.ref (26 : Nat)), some (.int (0 : Int32))], [.ref (28 : Nat)]) (zi_H L xs 37 34 38) = _
  refine (zz_go 2 (fr' := (zm_S_init, d + 8, 98, [some (.ref (26 : Nat)), some (.int (0 : Int32))], [.int (0 : Int32), .int (0 : Int32), .ref (28 : Nat)])) (h' := (zi_H L xs 37 34 38)) (fun _ => rfl)).trans ?_
  refine zi_ast (i := 0) rfl rfl (by decide) (by decide) rfl rfl ?_
  refine (zz_go 1 (fr' := (zm_S_init, d + 8, 100, [some (.ref (26 : Nat)), some (.int (0 : Int32))], [.ref (26 : Nat)])) (h' := (zi_H L xs 37 34 39)) (fun _ => rfl)).trans ?_
  refine zl_getR (r := 29) rfl rfl rfl ?_
  show zz_D (zm_S_init, d + 8, 103, [some (.ref (26 : Nat)), some (.int (0 : Int32))], [.ref (29 : Nat)]) (zi_H L xs 37 34 39) = _
  refine (zz_go 2 (fr' := (zm_S_init, d + 8, 105, [some (.ref (26 : Nat)), some (.int (0 : Int32))], [.int (-1 : Int32), .int (0 : Int32), .ref (29 : Nat)])) (h' := (zi_H L xs 37 34 39)) (fun _ => rfl)).trans ?_
  refine zi_ast (i := 0) rfl rfl (by decide) (by decide) rfl rfl ?_
  refine (zz_go 6 (fr' := (zm_S_init, d + 8, 93, [some (.ref (26 : Nat)), some (.int (1 : Int32))], [.ref (26 : Nat)])) (h' := (zi_H L xs 37 34 40)) (fun _ => rfl)).trans ?_
  refine zl_getR (r := 28) rfl rfl rfl ?_
  show zz_D (zm_S_init, d + 8, 96, [some (.ref (26 : Nat)), some (.int (1 : Int32))], [.ref (28 : Nat)]) (zi_H L xs 37 34 40) = _
  refine (zz_go 2 (fr' := (zm_S_init, d + 8, 98, [some (.ref (26 : Nat)), some (.int (1 : Int32))], [.int (1 : Int32), .int (1 : Int32), .ref (28 : Nat)])) (h' := (zi_H L xs 37 34 40)) (fun _ => rfl)).trans ?_
  refine zi_ast (i := 1) rfl rfl (by decide) (by decide) rfl rfl ?_
  refine (zz_go 1 (fr' := (zm_S_init, d + 8, 100, [some (.ref (26 : Nat)), some (.int (1 : Int32))], [.ref (26 : Nat)])) (h' := (zi_H L xs 37 34 41)) (fun _ => rfl)).trans ?_
  refine zl_getR (r := 29) rfl rfl rfl ?_
  show zz_D (zm_S_init, d + 8, 103, [some (.ref (26 : Nat)), some (.int (1 : Int32))], [.ref (29 : Nat)]) (zi_H L xs 37 34 41) = _
  refine (zz_go 2 (fr' := (zm_S_init, d + 8, 105, [some (.ref (26 : Nat)), some (.int (1 : Int32))], [.int (-1 : Int32), .int (1 : Int32), .ref (29 : Nat)])) (h' := (zi_H L xs 37 34 41)) (fun _ => rfl)).trans ?_
  refine zi_ast (i := 1) rfl rfl (by decide) (by decide) rfl rfl ?_
  refine (zz_go 6 (fr' := (zm_S_init, d + 8, 93, [some (.ref (26 : Nat)), some (.int (2 : Int32))], [.ref (26 : Nat)])) (h' := (zi_H L xs 37 34 42)) (fun _ => rfl)).trans ?_
  refine zl_getR (r := 28) rfl rfl rfl ?_
  show zz_D (zm_S_init, d + 8, 96, [some (.ref (26 : Nat)), some (.int (2 : Int32))], [.ref (28 : Nat)]) (zi_H L xs 37 34 42) = _
  refine (zz_go 2 (fr' := (zm_S_init, d + 8, 98, [some (.ref (26 : Nat)), some (.int (2 : Int32))], [.int (2 : Int32), .int (2 : Int32), .ref (28 : Nat)])) (h' := (zi_H L xs 37 34 42)) (fun _ => rfl)).trans ?_
  refine zi_ast (i := 2) rfl rfl (by decide) (by decide) rfl rfl ?_
  refine (zz_go 1 (fr' := (zm_S_init, d + 8, 100, [some (.ref (26 : Nat)), some (.int (2 : Int32))], [.ref (26 : Nat)])) (h' := (zi_H L xs 37 34 43)) (fun _ => rfl)).trans ?_
  refine zl_getR (r := 29) rfl rfl rfl ?_
  show zz_D (zm_S_init, d + 8, 103, [some (.ref (26 : Nat)), some (.int (2 : Int32))], [.ref (29 : Nat)]) (zi_H L xs 37 34 43) = _
  refine (zz_go 2 (fr' := (zm_S_init, d + 8, 105, [some (.ref (26 : Nat)), some (.int (2 : Int32))], [.int (-1 : Int32), .int (2 : Int32), .ref (29 : Nat)])) (h' := (zi_H L xs 37 34 43)) (fun _ => rfl)).trans ?_
  refine zi_ast (i := 2) rfl rfl (by decide) (by decide) rfl rfl ?_
  refine (zz_go 6 (fr' := (zm_S_init, d + 8, 93, [some (.ref (26 : Nat)), some (.int (3 : Int32))], [.ref (26 : Nat)])) (h' := (zi_H L xs 37 34 44)) (fun _ => rfl)).trans ?_
  refine zl_getR (r := 28) rfl rfl rfl ?_
  show zz_D (zm_S_init, d + 8, 96, [some (.ref (26 : Nat)), some (.int (3 : Int32))], [.ref (28 : Nat)]) (zi_H L xs 37 34 44) = _
  refine (zz_go 2 (fr' := (zm_S_init, d + 8, 98, [some (.ref (26 : Nat)), some (.int (3 : Int32))], [.int (3 : Int32), .int (3 : Int32), .ref (28 : Nat)])) (h' := (zi_H L xs 37 34 44)) (fun _ => rfl)).trans ?_
  refine zi_ast (i := 3) rfl rfl (by decide) (by decide) rfl rfl ?_
  refine (zz_go 1 (fr' := (zm_S_init, d + 8, 100, [some (.ref (26 : Nat)), some (.int (3 : Int32))], [.ref (26 : Nat)])) (h' := (zi_H L xs 37 34 45)) (fun _ => rfl)).trans ?_
  refine zl_getR (r := 29) rfl rfl rfl ?_
  show zz_D (zm_S_init, d + 8, 103, [some (.ref (26 : Nat)), some (.int (3 : Int32))], [.ref (29 : Nat)]) (zi_H L xs 37 34 45) = _
  refine (zz_go 2 (fr' := (zm_S_init, d + 8, 105, [some (.ref (26 : Nat)), some (.int (3 : Int32))], [.int (-1 : Int32), .int (3 : Int32), .ref (29 : Nat)])) (h' := (zi_H L xs 37 34 45)) (fun _ => rfl)).trans ?_
  refine zi_ast (i := 3) rfl rfl (by decide) (by decide) rfl rfl ?_
  refine (zz_go 6 (fr' := (zm_S_init, d + 8, 93, [some (.ref (26 : Nat)), some (.int (4 : Int32))], [.ref (26 : Nat)])) (h' := (zi_H L xs 37 34 46)) (fun _ => rfl)).trans ?_
  refine zl_getR (r := 28) rfl rfl rfl ?_
  show zz_D (zm_S_init, d + 8, 96, [some (.ref (26 : Nat)), some (.int (4 : Int32))], [.ref (28 : Nat)]) (zi_H L xs 37 34 46) = _
  refine (zz_go 2 (fr' := (zm_S_init, d + 8, 98, [some (.ref (26 : Nat)), some (.int (4 : Int32))], [.int (4 : Int32), .int (4 : Int32), .ref (28 : Nat)])) (h' := (zi_H L xs 37 34 46)) (fun _ => rfl)).trans ?_
  refine zi_ast (i := 4) rfl rfl (by decide) (by decide) rfl rfl ?_
  refine (zz_go 1 (fr' := (zm_S_init, d + 8, 100, [some (.ref (26 : Nat)), some (.int (4 : Int32))], [.ref (26 : Nat)])) (h' := (zi_H L xs 37 34 47)) (fun _ => rfl)).trans ?_
  refine zl_getR (r := 29) rfl rfl rfl ?_
  show zz_D (zm_S_init, d + 8, 103, [some (.ref (26 : Nat)), some (.int (4 : Int32))], [.ref (29 : Nat)]) (zi_H L xs 37 34 47) = _
  refine (zz_go 2 (fr' := (zm_S_init, d + 8, 105, [some (.ref (26 : Nat)), some (.int (4 : Int32))], [.int (-1 : Int32), .int (4 : Int32), .ref (29 : Nat)])) (h' := (zi_H L xs 37 34 47)) (fun _ => rfl)).trans ?_
  refine zi_ast (i := 4) rfl rfl (by decide) (by decide) rfl rfl ?_
  refine (zz_go 6 (fr' := (zm_S_init, d + 8, 93, [some (.ref (26 : Nat)), some (.int (5 : Int32))], [.ref (26 : Nat)])) (h' := (zi_H L xs 37 34 48)) (fun _ => rfl)).trans ?_
  refine zl_getR (r := 28) rfl rfl rfl ?_
  show zz_D (zm_S_init, d + 8, 96, [some (.ref (26 : Nat)), some (.int (5 : Int32))], [.ref (28 : Nat)]) (zi_H L xs 37 34 48) = _
  refine (zz_go 2 (fr' := (zm_S_init, d + 8, 98, [some (.ref (26 : Nat)), some (.int (5 : Int32))], [.int (5 : Int32), .int (5 : Int32), .ref (28 : Nat)])) (h' := (zi_H L xs 37 34 48)) (fun _ => rfl)).trans ?_
  refine zi_ast (i := 5) rfl rfl (by decide) (by decide) rfl rfl ?_
  refine (zz_go 1 (fr' := (zm_S_init, d + 8, 100, [some (.ref (26 : Nat)), some (.int (5 : Int32))], [.ref (26 : Nat)])) (h' := (zi_H L xs 37 34 49)) (fun _ => rfl)).trans ?_
  refine zl_getR (r := 29) rfl rfl rfl ?_
  show zz_D (zm_S_init, d + 8, 103, [some (.ref (26 : Nat)), some (.int (5 : Int32))], [.ref (29 : Nat)]) (zi_H L xs 37 34 49) = _
  refine (zz_go 2 (fr' := (zm_S_init, d + 8, 105, [some (.ref (26 : Nat)), some (.int (5 : Int32))], [.int (-1 : Int32), .int (5 : Int32), .ref (29 : Nat)])) (h' := (zi_H L xs 37 34 49)) (fun _ => rfl)).trans ?_
  refine zi_ast (i := 5) rfl rfl (by decide) (by decide) rfl rfl ?_
  refine (zz_go 6 (fr' := (zm_S_init, d + 8, 93, [some (.ref (26 : Nat)), some (.int (6 : Int32))], [.ref (26 : Nat)])) (h' := (zi_H L xs 37 34 50)) (fun _ => rfl)).trans ?_
  refine zl_getR (r := 28) rfl rfl rfl ?_
  show zz_D (zm_S_init, d + 8, 96, [some (.ref (26 : Nat)), some (.int (6 : Int32))], [.ref (28 : Nat)]) (zi_H L xs 37 34 50) = _
  refine (zz_go 2 (fr' := (zm_S_init, d + 8, 98, [some (.ref (26 : Nat)), some (.int (6 : Int32))], [.int (6 : Int32), .int (6 : Int32), .ref (28 : Nat)])) (h' := (zi_H L xs 37 34 50)) (fun _ => rfl)).trans ?_
  refine zi_ast (i := 6) rfl rfl (by decide) (by decide) rfl rfl ?_
  refine (zz_go 1 (fr' := (zm_S_init, d + 8, 100, [some (.ref (26 : Nat)), some (.int (6 : Int32))], [.ref (26 : Nat)])) (h' := (zi_H L xs 37 34 51)) (fun _ => rfl)).trans ?_
  refine zl_getR (r := 29) rfl rfl rfl ?_
  show zz_D (zm_S_init, d + 8, 103, [some (.ref (26 : Nat)), some (.int (6 : Int32))], [.ref (29 : Nat)]) (zi_H L xs 37 34 51) = _
  refine (zz_go 2 (fr' := (zm_S_init, d + 8, 105, [some (.ref (26 : Nat)), some (.int (6 : Int32))], [.int (-1 : Int32), .int (6 : Int32), .ref (29 : Nat)])) (h' := (zi_H L xs 37 34 51)) (fun _ => rfl)).trans ?_
  refine zi_ast (i := 6) rfl rfl (by decide) (by decide) rfl rfl ?_
  refine (zz_go 6 (fr' := (zm_S_init, d + 8, 93, [some (.ref (26 : Nat)), some (.int (7 : Int32))], [.ref (26 : Nat)])) (h' := (zi_H L xs 37 34 52)) (fun _ => rfl)).trans ?_
  refine zl_getR (r := 28) rfl rfl rfl ?_
  show zz_D (zm_S_init, d + 8, 96, [some (.ref (26 : Nat)), some (.int (7 : Int32))], [.ref (28 : Nat)]) (zi_H L xs 37 34 52) = _
  refine (zz_go 2 (fr' := (zm_S_init, d + 8, 98, [some (.ref (26 : Nat)), some (.int (7 : Int32))], [.int (7 : Int32), .int (7 : Int32), .ref (28 : Nat)])) (h' := (zi_H L xs 37 34 52)) (fun _ => rfl)).trans ?_
  refine zi_ast (i := 7) rfl rfl (by decide) (by decide) rfl rfl ?_
  refine (zz_go 1 (fr' := (zm_S_init, d + 8, 100, [some (.ref (26 : Nat)), some (.int (7 : Int32))], [.ref (26 : Nat)])) (h' := (zi_H L xs 37 34 53)) (fun _ => rfl)).trans ?_
  refine zl_getR (r := 29) rfl rfl rfl ?_
  show zz_D (zm_S_init, d + 8, 103, [some (.ref (26 : Nat)), some (.int (7 : Int32))], [.ref (29 : Nat)]) (zi_H L xs 37 34 53) = _
  refine (zz_go 2 (fr' := (zm_S_init, d + 8, 105, [some (.ref (26 : Nat)), some (.int (7 : Int32))], [.int (-1 : Int32), .int (7 : Int32), .ref (29 : Nat)])) (h' := (zi_H L xs 37 34 53)) (fun _ => rfl)).trans ?_
  refine zi_ast (i := 7) rfl rfl (by decide) (by decide) rfl rfl ?_
  refine (zz_go 7 (fr' := (zm_S_init, d + 8, 115, [some (.ref (26 : Nat)), some (.int (8 : Int32))], [.int (100 : Int32), .ref (26 : Nat)])) (h' := (zi_H L xs 37 34 54)) (fun _ => rfl)).trans ?_
  refine zi_putI rfl rfl rfl rfl rfl ?_
  refine (zz_go 2 (fr' := (zm_S_init, d + 8, 120, [some (.ref (26 : Nat)), some (.int (8 : Int32))], [.int (1 : Int32), .ref (26 : Nat)])) (h' := (zi_H L xs 37 34 55)) (fun _ => rfl)).trans ?_
  refine zi_putI rfl rfl rfl rfl rfl ?_
  exact zz_end 1 (fun _ => rfl)
set_option maxRecDepth 40000 in
theorem ic_5 (L : Nat) (xs : Nat → Int32) (d : Nat) : zz_D (zm_L_init, d + 8, 0, [some (.ref (37 : Nat))], []) (zi_H L xs 38 35 56) = some (.inl none, (zi_H L xs 44 41 57)) := by
  refine (zz_go 4 (fr' := (zm_L_init, d + 8, 6, [some (.ref (37 : Nat))], [.int (-1 : Int32), .ref (37 : Nat)])) (h' := (zi_H L xs 38 35 56)) (fun _ => rfl)).trans ?_
  refine zi_putI rfl rfl rfl rfl rfl ?_
  refine (zz_go 2 (fr' := (zm_L_init, d + 8, 12, [some (.ref (37 : Nat))], [.int (12 : Int32), .ref (37 : Nat)])) (h' := (zi_H L xs 38 35 57)) (fun _ => rfl)).trans ?_
  refine zi_newa (c := 12) rfl rfl rfl rfl rfl rfl rfl ?_
  refine zi_putR rfl rfl rfl rfl ?_
  refine (zz_go 2 (fr' := (zm_L_init, d + 8, 20, [some (.ref (37 : Nat))], [.int (12 : Int32), .ref (37 : Nat)])) (h' := (zi_H L xs 39 36 57)) (fun _ => rfl)).trans ?_
  refine zi_newa (c := 12) rfl rfl rfl rfl rfl rfl rfl ?_
  refine zi_putR rfl rfl rfl rfl ?_
  refine (zz_go 2 (fr' := (zm_L_init, d + 8, 28, [some (.ref (37 : Nat))], [.int (12 : Int32), .ref (37 : Nat)])) (h' := (zi_H L xs 40 37 57)) (fun _ => rfl)).trans ?_
  refine zi_newa (c := 12) rfl rfl rfl rfl rfl rfl rfl ?_
  refine zi_putR rfl rfl rfl rfl ?_
  refine (zz_go 2 (fr' := (zm_L_init, d + 8, 37, [some (.ref (37 : Nat))], [.int (400 : Int32), .ref (37 : Nat)])) (h' := (zi_H L xs 41 38 57)) (fun _ => rfl)).trans ?_
  refine zi_newa (c := 400) rfl rfl rfl rfl rfl rfl rfl ?_
  refine zi_putR rfl rfl rfl rfl ?_
  refine (zz_go 2 (fr' := (zm_L_init, d + 8, 45, [some (.ref (37 : Nat))], [.int (10 : Int32), .ref (37 : Nat)])) (h' := (zi_H L xs 42 39 57)) (fun _ => rfl)).trans ?_
  refine zi_newa (c := 10) rfl rfl rfl rfl rfl rfl rfl ?_
  refine zi_putR rfl rfl rfl rfl ?_
  refine (zz_go 2 (fr' := (zm_L_init, d + 8, 53, [some (.ref (37 : Nat))], [.int (24 : Int32), .ref (37 : Nat)])) (h' := (zi_H L xs 43 40 57)) (fun _ => rfl)).trans ?_
  refine zi_newa (c := 24) rfl rfl rfl rfl rfl rfl rfl ?_
  refine zi_putR rfl rfl rfl rfl ?_
  exact zz_end 1 (fun _ => rfl)
set_option maxRecDepth 40000 in
theorem ic_6 (L : Nat) (xs : Nat → Int32) (d : Nat) : zz_D (zm_L_init, d + 8, 0, [some (.ref (44 : Nat))], []) (zi_H L xs 45 42 57) = some (.inl none, (zi_H L xs 51 48 58)) := by
  refine (zz_go 4 (fr' := (zm_L_init, d + 8, 6, [some (.ref (44 : Nat))], [.int (-1 : Int32), .ref (44 : Nat)])) (h' := (zi_H L xs 45 42 57)) (fun _ => rfl)).trans ?_
  refine zi_putI rfl rfl rfl rfl rfl ?_
  refine (zz_go 2 (fr' := (zm_L_init, d + 8, 12, [some (.ref (44 : Nat))], [.int (12 : Int32), .ref (44 : Nat)])) (h' := (zi_H L xs 45 42 58)) (fun _ => rfl)).trans ?_
  refine zi_newa (c := 12) rfl rfl rfl rfl rfl rfl rfl ?_
  refine zi_putR rfl rfl rfl rfl ?_
  refine (zz_go 2 (fr' := (zm_L_init, d + 8, 20, [some (.ref (44 : Nat))], [.int (12 : Int32), .ref (44 : Nat)])) (h' := (zi_H L xs 46 43 58)) (fun _ => rfl)).trans ?_
  refine zi_newa (c := 12) rfl rfl rfl rfl rfl rfl rfl ?_
  refine zi_putR rfl rfl rfl rfl ?_
  refine (zz_go 2 (fr' := (zm_L_init, d + 8, 28, [some (.ref (44 : Nat))], [.int (12 : Int32), .ref (44 : Nat)])) (h' := (zi_H L xs 47 44 58)) (fun _ => rfl)).trans ?_
  refine zi_newa (c := 12) rfl rfl rfl rfl rfl rfl rfl ?_
  refine zi_putR rfl rfl rfl rfl ?_
  refine (zz_go 2 (fr' := (zm_L_init, d + 8, 37, [some (.ref (44 : Nat))], [.int (400 : Int32), .ref (44 : Nat)])) (h' := (zi_H L xs 48 45 58)) (fun _ => rfl)).trans ?_
  refine zi_newa (c := 400) rfl rfl rfl rfl rfl rfl rfl ?_
  refine zi_putR rfl rfl rfl rfl ?_
  refine (zz_go 2 (fr' := (zm_L_init, d + 8, 45, [some (.ref (44 : Nat))], [.int (10 : Int32), .ref (44 : Nat)])) (h' := (zi_H L xs 49 46 58)) (fun _ => rfl)).trans ?_
  refine zi_newa (c := 10) rfl rfl rfl rfl rfl rfl rfl ?_
  refine zi_putR rfl rfl rfl rfl ?_
  refine (zz_go 2 (fr' := (zm_L_init, d + 8, 53, [some (.ref (44 : Nat))], [.int (24 : Int32), .ref (44 : Nat)])) (h' := (zi_H L xs 50 47 58)) (fun _ => rfl)).trans ?_
  refine zi_newa (c := 24) rfl rfl rfl rfl rfl rfl rfl ?_
  refine zi_putR rfl rfl rfl rfl ?_
  exact zz_end 1 (fun _ => rfl)
set_option maxRecDepth 40000 in
theorem ic_7 (L : Nat) (xs : Nat → Int32) (d : Nat) : zz_D (zm_L_init, d + 8, 0, [some (.ref (51 : Nat))], []) (zi_H L xs 52 49 58) = some (.inl none, (zi_H L xs 58 55 59)) := by
  refine (zz_go 4 (fr' := (zm_L_init, d + 8, 6, [some (.ref (51 : Nat))], [.int (-1 : Int32), .ref (51 : Nat)])) (h' := (zi_H L xs 52 49 58)) (fun _ => rfl)).trans ?_
  refine zi_putI rfl rfl rfl rfl rfl ?_
  refine (zz_go 2 (fr' := (zm_L_init, d + 8, 12, [some (.ref (51 : Nat))], [.int (12 : Int32), .ref (51 : Nat)])) (h' := (zi_H L xs 52 49 59)) (fun _ => rfl)).trans ?_
  refine zi_newa (c := 12) rfl rfl rfl rfl rfl rfl rfl ?_
  refine zi_putR rfl rfl rfl rfl ?_
  refine (zz_go 2 (fr' := (zm_L_init, d + 8, 20, [some (.ref (51 : Nat))], [.int (12 : Int32), .ref (51 : Nat)])) (h' := (zi_H L xs 53 50 59)) (fun _ => rfl)).trans ?_
  refine zi_newa (c := 12) rfl rfl rfl rfl rfl rfl rfl ?_
  refine zi_putR rfl rfl rfl rfl ?_
  refine (zz_go 2 (fr' := (zm_L_init, d + 8, 28, [some (.ref (51 : Nat))], [.int (12 : Int32), .ref (51 : Nat)])) (h' := (zi_H L xs 54 51 59)) (fun _ => rfl)).trans ?_
  refine zi_newa (c := 12) rfl rfl rfl rfl rfl rfl rfl ?_
  refine zi_putR rfl rfl rfl rfl ?_
  refine (zz_go 2 (fr' := (zm_L_init, d + 8, 37, [some (.ref (51 : Nat))], [.int (400 : Int32), .ref (51 : Nat)])) (h' := (zi_H L xs 55 52 59)) (fun _ => rfl)).trans ?_
  refine zi_newa (c := 400) rfl rfl rfl rfl rfl rfl rfl ?_
  refine zi_putR rfl rfl rfl rfl ?_
  refine (zz_go 2 (fr' := (zm_L_init, d + 8, 45, [some (.ref (51 : Nat))], [.int (10 : Int32), .ref (51 : Nat)])) (h' := (zi_H L xs 56 53 59)) (fun _ => rfl)).trans ?_
  refine zi_newa (c := 10) rfl rfl rfl rfl rfl rfl rfl ?_
  refine zi_putR rfl rfl rfl rfl ?_
  refine (zz_go 2 (fr' := (zm_L_init, d + 8, 53, [some (.ref (51 : Nat))], [.int (24 : Int32), .ref (51 : Nat)])) (h' := (zi_H L xs 57 54 59)) (fun _ => rfl)).trans ?_
  refine zi_newa (c := 24) rfl rfl rfl rfl rfl rfl rfl ?_
  refine zi_putR rfl rfl rfl rfl ?_
  exact zz_end 1 (fun _ => rfl)
set_option maxRecDepth 40000 in
theorem ic_8 (L : Nat) (xs : Nat → Int32) (d : Nat) : zz_D (zm_S_init, d + 8, 0, [some (.ref (60 : Nat)), none], []) (zi_H L xs 61 57 60) = some (.inl none, (zi_H L xs 71 67 78)) := by
  refine (zz_go 4 (fr' := (zm_S_init, d + 8, 7, [some (.ref (60 : Nat)), none], [.int (8 : Int32), .ref (60 : Nat)])) (h' := (zi_H L xs 61 57 60)) (fun _ => rfl)).trans ?_
  refine zi_newa (c := 8) rfl rfl rfl rfl rfl rfl rfl ?_
  refine zi_putR rfl rfl rfl rfl ?_
  refine (zz_go 2 (fr' := (zm_S_init, d + 8, 15, [some (.ref (60 : Nat)), none], [.int (8 : Int32), .ref (60 : Nat)])) (h' := (zi_H L xs 62 58 60)) (fun _ => rfl)).trans ?_
  refine zi_newa (c := 8) rfl rfl rfl rfl rfl rfl rfl ?_
  refine zi_putR rfl rfl rfl rfl ?_
  refine (zz_go 2 (fr' := (zm_S_init, d + 8, 23, [some (.ref (60 : Nat)), none], [.int (8 : Int32), .ref (60 : Nat)])) (h' := (zi_H L xs 63 59 60)) (fun _ => rfl)).trans ?_
  refine zi_newa (c := 8) rfl rfl rfl rfl rfl rfl rfl ?_
  refine zi_putR rfl rfl rfl rfl ?_
  refine (zz_go 2 (fr' := (zm_S_init, d + 8, 31, [some (.ref (60 : Nat)), none], [.int (6 : Int32), .ref (60 : Nat)])) (h' := (zi_H L xs 64 60 60)) (fun _ => rfl)).trans ?_
  refine zi_newa (c := 6) rfl rfl rfl rfl rfl rfl rfl ?_
  refine zi_putR rfl rfl rfl rfl ?_
  refine (zz_go 2 (fr' := (zm_S_init, d + 8, 39, [some (.ref (60 : Nat)), none], [.int (6 : Int32), .ref (60 : Nat)])) (h' := (zi_H L xs 65 61 60)) (fun _ => rfl)).trans ?_
  refine zi_newa (c := 6) rfl rfl rfl rfl rfl rfl rfl ?_
  refine zi_putR rfl rfl rfl rfl ?_
  refine (zz_go 2 (fr' := (zm_S_init, d + 8, 47, [some (.ref (60 : Nat)), none], [.int (6 : Int32), .ref (60 : Nat)])) (h' := (zi_H L xs 66 62 60)) (fun _ => rfl)).trans ?_
  refine zi_newa (c := 6) rfl rfl rfl rfl rfl rfl rfl ?_
  refine zi_putR rfl rfl rfl rfl ?_
  refine (zz_go 2 (fr' := (zm_S_init, d + 8, 55, [some (.ref (60 : Nat)), none], [.int (6 : Int32), .ref (60 : Nat)])) (h' := (zi_H L xs 67 63 60)) (fun _ => rfl)).trans ?_
  refine zi_newa (c := 6) rfl rfl rfl rfl rfl rfl rfl ?_
  refine zi_putR rfl rfl rfl rfl ?_
  refine (zz_go 2 (fr' := (zm_S_init, d + 8, 63, [some (.ref (60 : Nat)), none], [.int (6 : Int32), .ref (60 : Nat)])) (h' := (zi_H L xs 68 64 60)) (fun _ => rfl)).trans ?_
  refine zi_newa (c := 6) rfl rfl rfl rfl rfl rfl rfl ?_
  refine zi_putR rfl rfl rfl rfl ?_
  refine (zz_go 2 (fr' := (zm_S_init, d + 8, 71, [some (.ref (60 : Nat)), none], [.int (6 : Int32), .ref (60 : Nat)])) (h' := (zi_H L xs 69 65 60)) (fun _ => rfl)).trans ?_
  refine zi_newa (c := 6) rfl rfl rfl rfl rfl rfl rfl ?_
  refine zi_putR rfl rfl rfl rfl ?_
  refine (zz_go 2 (fr' := (zm_S_init, d + 8, 79, [some (.ref (60 : Nat)), none], [.int (60 : Int32), .ref (60 : Nat)])) (h' := (zi_H L xs 70 66 60)) (fun _ => rfl)).trans ?_
  refine zi_newa (c := 60) rfl rfl rfl rfl rfl rfl rfl ?_
  refine zi_putR rfl rfl rfl rfl ?_
  refine (zz_go 6 (fr' := (zm_S_init, d + 8, 93, [some (.ref (60 : Nat)), some (.int (0 : Int32))], [.ref (60 : Nat)])) (h' := (zi_H L xs 71 67 60)) (fun _ => rfl)).trans ?_
  refine zl_getR (r := 62) rfl rfl rfl ?_
  show zz_D (zm_S_init, d + 8, 96, [some (.ref (60 : Nat)), some (.int (0 : Int32))], [.ref (62 : Nat)]) (zi_H L xs 71 67 60) = _
  refine (zz_go 2 (fr' := (zm_S_init, d + 8, 98, [some (.ref (60 : Nat)), some (.int (0 : Int32))], [.int (0 : Int32), .int (0 : Int32), .ref (62 : Nat)])) (h' := (zi_H L xs 71 67 60)) (fun _ => rfl)).trans ?_
  refine zi_ast (i := 0) rfl rfl (by decide) (by decide) rfl rfl ?_
  refine (zz_go 1 (fr' := (zm_S_init, d + 8, 100, [some (.ref (60 : Nat)), some (.int (0 : Int32))], [.ref (60 : Nat)])) (h' := (zi_H L xs 71 67 61)) (fun _ => rfl)).trans ?_
  refine zl_getR (r := 63) rfl rfl rfl ?_
  show zz_D (zm_S_init, d + 8, 103, [some (.ref (60 : Nat)), some (.int (0 : Int32))], [.ref (63 : Nat)]) (zi_H L xs 71 67 61) = _
  refine (zz_go 2 (fr' := (zm_S_init, d + 8, 105, [some (.ref (60 : Nat)), some (.int (0 : Int32))], [.int (-1 : Int32), .int (0 : Int32), .ref (63 : Nat)])) (h' := (zi_H L xs 71 67 61)) (fun _ => rfl)).trans ?_
  refine zi_ast (i := 0) rfl rfl (by decide) (by decide) rfl rfl ?_
  refine (zz_go 6 (fr' := (zm_S_init, d + 8, 93, [some (.ref (60 : Nat)), some (.int (1 : Int32))], [.ref (60 : Nat)])) (h' := (zi_H L xs 71 67 62)) (fun _ => rfl)).trans ?_
  refine zl_getR (r := 62) rfl rfl rfl ?_
  show zz_D (zm_S_init, d + 8, 96, [some (.ref (60 : Nat)), some (.int (1 : Int32))], [.ref (62 : Nat)]) (zi_H L xs 71 67 62) = _
  refine (zz_go 2 (fr' := (zm_S_init, d + 8, 98, [some (.ref (60 : Nat)), some (.int (1 : Int32))], [.int (1 : Int32), .int (1 : Int32), .ref (62 : Nat)])) (h' := (zi_H L xs 71 67 62)) (fun _ => rfl)).trans ?_
  refine zi_ast (i := 1) rfl rfl (by decide) (by decide) rfl rfl ?_
  refine (zz_go 1 (fr' := (zm_S_init, d + 8, 100, [some (.ref (60 : Nat)), some (.int (1 : Int32))], [.ref (60 : Nat)])) (h' := (zi_H L xs 71 67 63)) (fun _ => rfl)).trans ?_
  refine zl_getR (r := 63) rfl rfl rfl ?_
  show zz_D (zm_S_init, d + 8, 103, [some (.ref (60 : Nat)), some (.int (1 : Int32))], [.ref (63 : Nat)]) (zi_H L xs 71 67 63) = _
  refine (zz_go 2 (fr' := (zm_S_init, d + 8, 105, [some (.ref (60 : Nat)), some (.int (1 : Int32))], [.int (-1 : Int32), .int (1 : Int32), .ref (63 : Nat)])) (h' := (zi_H L xs 71 67 63)) (fun _ => rfl)).trans ?_
  refine zi_ast (i := 1) rfl rfl (by decide) (by decide) rfl rfl ?_
  refine (zz_go 6 (fr' := (zm_S_init, d + 8, 93, [some (.ref (60 : Nat)), some (.int (2 : Int32))], [.ref (60 : Nat)])) (h' := (zi_H L xs 71 67 64)) (fun _ => rfl)).trans ?_
  refine zl_getR (r := 62) rfl rfl rfl ?_
  show zz_D (zm_S_init, d + 8, 96, [some (.ref (60 : Nat)), some (.int (2 : Int32))], [.ref (62 : Nat)]) (zi_H L xs 71 67 64) = _
  refine (zz_go 2 (fr' := (zm_S_init, d + 8, 98, [some (.ref (60 : Nat)), some (.int (2 : Int32))], [.int (2 : Int32), .int (2 : Int32), .ref (62 : Nat)])) (h' := (zi_H L xs 71 67 64)) (fun _ => rfl)).trans ?_
  refine zi_ast (i := 2) rfl rfl (by decide) (by decide) rfl rfl ?_
  refine (zz_go 1 (fr' := (zm_S_init, d + 8, 100, [some (.ref (60 : Nat)), some (.int (2 : Int32))], [.ref (60 : Nat)])) (h' := (zi_H L xs 71 67 65)) (fun _ => rfl)).trans ?_
  refine zl_getR (r := 63) rfl rfl rfl ?_
  show zz_D (zm_S_init, d + 8, 103, [some (.ref (60 : Nat)), some (.int (2 : Int32))], [.ref (63 : Nat)]) (zi_H L xs 71 67 65) = _
  refine (zz_go 2 (fr' := (zm_S_init, d + 8, 105, [some (.ref (60 : Nat)), some (.int (2 : Int32))], [.int (-1 : Int32), .int (2 : Int32), .ref (63 : Nat)])) (h' := (zi_H L xs 71 67 65)) (fun _ => rfl)).trans ?_
  refine zi_ast (i := 2) rfl rfl (by decide) (by decide) rfl rfl ?_
  refine (zz_go 6 (fr' := (zm_S_init, d + 8, 93, [some (.ref (60 : Nat)), some (.int (3 : Int32))], [.ref (60 : Nat)])) (h' := (zi_H L xs 71 67 66)) (fun _ => rfl)).trans ?_
  refine zl_getR (r := 62) rfl rfl rfl ?_
  show zz_D (zm_S_init, d + 8, 96, [some (.ref (60 : Nat)), some (.int (3 : Int32))], [.ref (62 : Nat)]) (zi_H L xs 71 67 66) = _
  refine (zz_go 2 (fr' := (zm_S_init, d + 8, 98, [some (.ref (60 : Nat)), some (.int (3 : Int32))], [.int (3 : Int32), .int (3 : Int32), .ref (62 : Nat)])) (h' := (zi_H L xs 71 67 66)) (fun _ => rfl)).trans ?_
  refine zi_ast (i := 3) rfl rfl (by decide) (by decide) rfl rfl ?_
  refine (zz_go 1 (fr' := (zm_S_init, d + 8, 100, [some (.ref (60 : Nat)), some (.int (3 : Int32))], [.ref (60 : Nat)])) (h' := (zi_H L xs 71 67 67)) (fun _ => rfl)).trans ?_
  refine zl_getR (r := 63) rfl rfl rfl ?_
  show zz_D (zm_S_init, d + 8, 103, [some (.ref (60 : Nat)), some (.int (3 : Int32))], [.ref (63 : Nat)]) (zi_H L xs 71 67 67) = _
  refine (zz_go 2 (fr' := (zm_S_init, d + 8, 105, [some (.ref (60 : Nat)), some (.int (3 : Int32))], [.int (-1 : Int32), .int (3 : Int32), .ref (63 : Nat)])) (h' := (zi_H L xs 71 67 67)) (fun _ => rfl)).trans ?_
  refine zi_ast (i := 3) rfl rfl (by decide) (by decide) rfl rfl ?_
  refine (zz_go 6 (fr' := (zm_S_init, d + 8, 93, [some (.ref (60 : Nat)), some (.int (4 : Int32))], [.ref (60 : Nat)])) (h' := (zi_H L xs 71 67 68)) (fun _ => rfl)).trans ?_
  refine zl_getR (r := 62) rfl rfl rfl ?_
  show zz_D (zm_S_init, d + 8, 96, [some (.ref (60 : Nat)), some (.int (4 : Int32))], [.ref (62 : Nat)]) (zi_H L xs 71 67 68) = _
  refine (zz_go 2 (fr' := (zm_S_init, d + 8, 98, [some (.ref (60 : Nat)), some (.int (4 : Int32))], [.int (4 : Int32), .int (4 : Int32), .ref (62 : Nat)])) (h' := (zi_H L xs 71 67 68)) (fun _ => rfl)).trans ?_
  refine zi_ast (i := 4) rfl rfl (by decide) (by decide) rfl rfl ?_
  refine (zz_go 1 (fr' := (zm_S_init, d + 8, 100, [some (.ref (60 : Nat)), some (.int (4 : Int32))], [.ref (60 : Nat)])) (h' := (zi_H L xs 71 67 69)) (fun _ => rfl)).trans ?_
  refine zl_getR (r := 63) rfl rfl rfl ?_
  show zz_D (zm_S_init, d + 8, 103, [some (.ref (60 : Nat)), some (.int (4 : Int32))], [.ref (63 : Nat)]) (zi_H L xs 71 67 69) = _
  refine (zz_go 2 (fr' := (zm_S_init, d + 8, 105, [some (.ref (60 : Nat)), some (.int (4 : Int32))], [.int (-1 : Int32), .int (4 : Int32), .ref (63 : Nat)])) (h' := (zi_H L xs 71 67 69)) (fun _ => rfl)).trans ?_
  refine zi_ast (i := 4) rfl rfl (by decide) (by decide) rfl rfl ?_
  refine (zz_go 6 (fr' := (zm_S_init, d + 8, 93, [some (.ref (60 : Nat)), some (.int (5 : Int32))], [.ref (60 : Nat)])) (h' := (zi_H L xs 71 67 70)) (fun _ => rfl)).trans ?_
  refine zl_getR (r := 62) rfl rfl rfl ?_
  show zz_D (zm_S_init, d + 8, 96, [some (.ref (60 : Nat)), some (.int (5 : Int32))], [.ref (62 : Nat)]) (zi_H L xs 71 67 70) = _
  refine (zz_go 2 (fr' := (zm_S_init, d + 8, 98, [some (.ref (60 : Nat)), some (.int (5 : Int32))], [.int (5 : Int32), .int (5 : Int32), .ref (62 : Nat)])) (h' := (zi_H L xs 71 67 70)) (fun _ => rfl)).trans ?_
  refine zi_ast (i := 5) rfl rfl (by decide) (by decide) rfl rfl ?_
  refine (zz_go 1 (fr' := (zm_S_init, d + 8, 100, [some (.ref (60 : Nat)), some (.int (5 : Int32))], [.ref (60 : Nat)])) (h' := (zi_H L xs 71 67 71)) (fun _ => rfl)).trans ?_
  refine zl_getR (r := 63) rfl rfl rfl ?_
  show zz_D (zm_S_init, d + 8, 103, [some (.ref (60 : Nat)), some (.int (5 : Int32))], [.ref (63 : Nat)]) (zi_H L xs 71 67 71) = _
  refine (zz_go 2 (fr' := (zm_S_init, d + 8, 105, [some (.ref (60 : Nat)), some (.int (5 : Int32))], [.int (-1 : Int32), .int (5 : Int32), .ref (63 : Nat)])) (h' := (zi_H L xs 71 67 71)) (fun _ => rfl)).trans ?_
  refine zi_ast (i := 5) rfl rfl (by decide) (by decide) rfl rfl ?_
  refine (zz_go 6 (fr' := (zm_S_init, d + 8, 93, [some (.ref (60 : Nat)), some (.int (6 : Int32))], [.ref (60 : Nat)])) (h' := (zi_H L xs 71 67 72)) (fun _ => rfl)).trans ?_
  refine zl_getR (r := 62) rfl rfl rfl ?_
  show zz_D (zm_S_init, d + 8, 96, [some (.ref (60 : Nat)), some (.int (6 : Int32))], [.ref (62 : Nat)]) (zi_H L xs 71 67 72) = _
  refine (zz_go 2 (fr' := (zm_S_init, d + 8, 98, [some (.ref (60 : Nat)), some (.int (6 : Int32))], [.int (6 : Int32), .int (6 : Int32), .ref (62 : Nat)])) (h' := (zi_H L xs 71 67 72)) (fun _ => rfl)).trans ?_
  refine zi_ast (i := 6) rfl rfl (by decide) (by decide) rfl rfl ?_
  refine (zz_go 1 (fr' := (zm_S_init, d + 8, 100, [some (.ref (60 : Nat)), some (.int (6 : Int32))], [.ref (60 : Nat)])) (h' := (zi_H L xs 71 67 73)) (fun _ => rfl)).trans ?_
  refine zl_getR (r := 63) rfl rfl rfl ?_
  show zz_D (zm_S_init, d + 8, 103, [some (.ref (60 : Nat)), some (.int (6 : Int32))], [.ref (63 : Nat)]) (zi_H L xs 71 67 73) = _
  refine (zz_go 2 (fr' := (zm_S_init, d + 8, 105, [some (.ref (60 : Nat)), some (.int (6 : Int32))], [.int (-1 : Int32), .int (6 : Int32), .ref (63 : Nat)])) (h' := (zi_H L xs 71 67 73)) (fun _ => rfl)).trans ?_
  refine zi_ast (i := 6) rfl rfl (by decide) (by decide) rfl rfl ?_
  refine (zz_go 6 (fr' := (zm_S_init, d + 8, 93, [some (.ref (60 : Nat)), some (.int (7 : Int32))], [.ref (60 : Nat)])) (h' := (zi_H L xs 71 67 74)) (fun _ => rfl)).trans ?_
  refine zl_getR (r := 62) rfl rfl rfl ?_
  show zz_D (zm_S_init, d + 8, 96, [some (.ref (60 : Nat)), some (.int (7 : Int32))], [.ref (62 : Nat)]) (zi_H L xs 71 67 74) = _
  refine (zz_go 2 (fr' := (zm_S_init, d + 8, 98, [some (.ref (60 : Nat)), some (.int (7 : Int32))], [.int (7 : Int32), .int (7 : Int32), .ref (62 : Nat)])) (h' := (zi_H L xs 71 67 74)) (fun _ => rfl)).trans ?_
  refine zi_ast (i := 7) rfl rfl (by decide) (by decide) rfl rfl ?_
  refine (zz_go 1 (fr' := (zm_S_init, d + 8, 100, [some (.ref (60 : Nat)), some (.int (7 : Int32))], [.ref (60 : Nat)])) (h' := (zi_H L xs 71 67 75)) (fun _ => rfl)).trans ?_
  refine zl_getR (r := 63) rfl rfl rfl ?_
  show zz_D (zm_S_init, d + 8, 103, [some (.ref (60 : Nat)), some (.int (7 : Int32))], [.ref (63 : Nat)]) (zi_H L xs 71 67 75) = _
  refine (zz_go 2 (fr' := (zm_S_init, d + 8, 105, [some (.ref (60 : Nat)), some (.int (7 : Int32))], [.int (-1 : Int32), .int (7 : Int32), .ref (63 : Nat)])) (h' := (zi_H L xs 71 67 75)) (fun _ => rfl)).trans ?_
  refine zi_ast (i := 7) rfl rfl (by decide) (by decide) rfl rfl ?_
  refine (zz_go 7 (fr' := (zm_S_init, d + 8, 115, [some (.ref (60 : Nat)), some (.int (8 : Int32))], [.int (100 : Int32), .ref (60 : Nat)])) (h' := (zi_H L xs 71 67 76)) (fun _ => rfl)).trans ?_
  refine zi_putI rfl rfl rfl rfl rfl ?_
  refine (zz_go 2 (fr' := (zm_S_init, d + 8, 120, [some (.ref (60 : Nat)), some (.int (8 : Int32))], [.int (1 : Int32), .ref (60 : Nat)])) (h' := (zi_H L xs 71 67 77)) (fun _ => rfl)).trans ?_
  refine zi_putI rfl rfl rfl rfl rfl ?_
  exact zz_end 1 (fun _ => rfl)
set_option maxRecDepth 40000 in
theorem ic_9 (L : Nat) (xs : Nat → Int32) (d : Nat) : zz_D (zm_S_init, d + 8, 0, [some (.ref (71 : Nat)), none], []) (zi_H L xs 72 68 78) = some (.inl none, (zi_H L xs 82 78 96)) := by
  refine (zz_go 4 (fr' := (zm_S_init, d + 8, 7, [some (.ref (71 : Nat)), none], [.int (8 : Int32), .ref (71 : Nat)])) (h' := (zi_H L xs 72 68 78)) (fun _ => rfl)).trans ?_
  refine zi_newa (c := 8) rfl rfl rfl rfl rfl rfl rfl ?_
  refine zi_putR rfl rfl rfl rfl ?_
  refine (zz_go 2 (fr' := (zm_S_init, d + 8, 15, [some (.ref (71 : Nat)), none], [.int (8 : Int32), .ref (71 : Nat)])) (h' := (zi_H L xs 73 69 78)) (fun _ => rfl)).trans ?_
  refine zi_newa (c := 8) rfl rfl rfl rfl rfl rfl rfl ?_
  refine zi_putR rfl rfl rfl rfl ?_
  refine (zz_go 2 (fr' := (zm_S_init, d + 8, 23, [some (.ref (71 : Nat)), none], [.int (8 : Int32), .ref (71 : Nat)])) (h' := (zi_H L xs 74 70 78)) (fun _ => rfl)).trans ?_
  refine zi_newa (c := 8) rfl rfl rfl rfl rfl rfl rfl ?_
  refine zi_putR rfl rfl rfl rfl ?_
  refine (zz_go 2 (fr' := (zm_S_init, d + 8, 31, [some (.ref (71 : Nat)), none], [.int (6 : Int32), .ref (71 : Nat)])) (h' := (zi_H L xs 75 71 78)) (fun _ => rfl)).trans ?_
  refine zi_newa (c := 6) rfl rfl rfl rfl rfl rfl rfl ?_
  refine zi_putR rfl rfl rfl rfl ?_
  refine (zz_go 2 (fr' := (zm_S_init, d + 8, 39, [some (.ref (71 : Nat)), none], [.int (6 : Int32), .ref (71 : Nat)])) (h' := (zi_H L xs 76 72 78)) (fun _ => rfl)).trans ?_
  refine zi_newa (c := 6) rfl rfl rfl rfl rfl rfl rfl ?_
  refine zi_putR rfl rfl rfl rfl ?_
  refine (zz_go 2 (fr' := (zm_S_init, d + 8, 47, [some (.ref (71 : Nat)), none], [.int (6 : Int32), .ref (71 : Nat)])) (h' := (zi_H L xs 77 73 78)) (fun _ => rfl)).trans ?_
  refine zi_newa (c := 6) rfl rfl rfl rfl rfl rfl rfl ?_
  refine zi_putR rfl rfl rfl rfl ?_
  refine (zz_go 2 (fr' := (zm_S_init, d + 8, 55, [some (.ref (71 : Nat)), none], [.int (6 : Int32), .ref (71 : Nat)])) (h' := (zi_H L xs 78 74 78)) (fun _ => rfl)).trans ?_
  refine zi_newa (c := 6) rfl rfl rfl rfl rfl rfl rfl ?_
  refine zi_putR rfl rfl rfl rfl ?_
  refine (zz_go 2 (fr' := (zm_S_init, d + 8, 63, [some (.ref (71 : Nat)), none], [.int (6 : Int32), .ref (71 : Nat)])) (h' := (zi_H L xs 79 75 78)) (fun _ => rfl)).trans ?_
  refine zi_newa (c := 6) rfl rfl rfl rfl rfl rfl rfl ?_
  refine zi_putR rfl rfl rfl rfl ?_
  refine (zz_go 2 (fr' := (zm_S_init, d + 8, 71, [some (.ref (71 : Nat)), none], [.int (6 : Int32), .ref (71 : Nat)])) (h' := (zi_H L xs 80 76 78)) (fun _ => rfl)).trans ?_
  refine zi_newa (c := 6) rfl rfl rfl rfl rfl rfl rfl ?_
  refine zi_putR rfl rfl rfl rfl ?_
  refine (zz_go 2 (fr' := (zm_S_init, d + 8, 79, [some (.ref (71 : Nat)), none], [.int (60 : Int32), .ref (71 : Nat)])) (h' := (zi_H L xs 81 77 78)) (fun _ => rfl)).trans ?_
  refine zi_newa (c := 60) rfl rfl rfl rfl rfl rfl rfl ?_
  refine zi_putR rfl rfl rfl rfl ?_
  refine (zz_go 6 (fr' := (zm_S_init, d + 8, 93, [some (.ref (71 : Nat)), some (.int (0 : Int32))], [.ref (71 : Nat)])) (h' := (zi_H L xs 82 78 78)) (fun _ => rfl)).trans ?_
  refine zl_getR (r := 73) rfl rfl rfl ?_
  show zz_D (zm_S_init, d + 8, 96, [some (.ref (71 : Nat)), some (.int (0 : Int32))], [.ref (73 : Nat)]) (zi_H L xs 82 78 78) = _
  refine (zz_go 2 (fr' := (zm_S_init, d + 8, 98, [some (.ref (71 : Nat)), some (.int (0 : Int32))], [.int (0 : Int32), .int (0 : Int32), .ref (73 : Nat)])) (h' := (zi_H L xs 82 78 78)) (fun _ => rfl)).trans ?_
  refine zi_ast (i := 0) rfl rfl (by decide) (by decide) rfl rfl ?_
  refine (zz_go 1 (fr' := (zm_S_init, d + 8, 100, [some (.ref (71 : Nat)), some (.int (0 : Int32))], [.ref (71 : Nat)])) (h' := (zi_H L xs 82 78 79)) (fun _ => rfl)).trans ?_
  refine zl_getR (r := 74) rfl rfl rfl ?_
  show zz_D (zm_S_init, d + 8, 103, [some (.ref (71 : Nat)), some (.int (0 : Int32))], [.ref (74 : Nat)]) (zi_H L xs 82 78 79) = _
  refine (zz_go 2 (fr' := (zm_S_init, d + 8, 105, [some (.ref (71 : Nat)), some (.int (0 : Int32))], [.int (-1 : Int32), .int (0 : Int32), .ref (74 : Nat)])) (h' := (zi_H L xs 82 78 79)) (fun _ => rfl)).trans ?_
  refine zi_ast (i := 0) rfl rfl (by decide) (by decide) rfl rfl ?_
  refine (zz_go 6 (fr' := (zm_S_init, d + 8, 93, [some (.ref (71 : Nat)), some (.int (1 : Int32))], [.ref (71 : Nat)])) (h' := (zi_H L xs 82 78 80)) (fun _ => rfl)).trans ?_
  refine zl_getR (r := 73) rfl rfl rfl ?_
  show zz_D (zm_S_init, d + 8, 96, [some (.ref (71 : Nat)), some (.int (1 : Int32))], [.ref (73 : Nat)]) (zi_H L xs 82 78 80) = _
  refine (zz_go 2 (fr' := (zm_S_init, d + 8, 98, [some (.ref (71 : Nat)), some (.int (1 : Int32))], [.int (1 : Int32), .int (1 : Int32), .ref (73 : Nat)])) (h' := (zi_H L xs 82 78 80)) (fun _ => rfl)).trans ?_
  refine zi_ast (i := 1) rfl rfl (by decide) (by decide) rfl rfl ?_
  refine (zz_go 1 (fr' := (zm_S_init, d + 8, 100, [some (.ref (71 : Nat)), some (.int (1 : Int32))], [.ref (71 : Nat)])) (h' := (zi_H L xs 82 78 81)) (fun _ => rfl)).trans ?_
  refine zl_getR (r := 74) rfl rfl rfl ?_
  show zz_D (zm_S_init, d + 8, 103, [some (.ref (71 : Nat)), some (.int (1 : Int32))], [.ref (74 : Nat)]) (zi_H L xs 82 78 81) = _
  refine (zz_go 2 (fr' := (zm_S_init, d + 8, 105, [some (.ref (71 : Nat)), some (.int (1 : Int32))], [.int (-1 : Int32), .int (1 : Int32), .ref (74 : Nat)])) (h' := (zi_H L xs 82 78 81)) (fun _ => rfl)).trans ?_
  refine zi_ast (i := 1) rfl rfl (by decide) (by decide) rfl rfl ?_
  refine (zz_go 6 (fr' := (zm_S_init, d + 8, 93, [some (.ref (71 : Nat)), some (.int (2 : Int32))], [.ref (71 : Nat)])) (h' := (zi_H L xs 82 78 82)) (fun _ => rfl)).trans ?_
  refine zl_getR (r := 73) rfl rfl rfl ?_
  show zz_D (zm_S_init, d + 8, 96, [some (.ref (71 : Nat)), some (.int (2 : Int32))], [.ref (73 : Nat)]) (zi_H L xs 82 78 82) = _
  refine (zz_go 2 (fr' := (zm_S_init, d + 8, 98, [some (.ref (71 : Nat)), some (.int (2 : Int32))], [.int (2 : Int32), .int (2 : Int32), .ref (73 : Nat)])) (h' := (zi_H L xs 82 78 82)) (fun _ => rfl)).trans ?_
  refine zi_ast (i := 2) rfl rfl (by decide) (by decide) rfl rfl ?_
  refine (zz_go 1 (fr' := (zm_S_init, d + 8, 100, [some (.ref (71 : Nat)), some (.int (2 : Int32))], [.ref (71 : Nat)])) (h' := (zi_H L xs 82 78 83)) (fun _ => rfl)).trans ?_
  refine zl_getR (r := 74) rfl rfl rfl ?_
  show zz_D (zm_S_init, d + 8, 103, [some (.ref (71 : Nat)), some (.int (2 : Int32))], [.ref (74 : Nat)]) (zi_H L xs 82 78 83) = _
  refine (zz_go 2 (fr' := (zm_S_init, d + 8, 105, [some (.ref (71 : Nat)), some (.int (2 : Int32))], [.int (-1 : Int32), .int (2 : Int32), .ref (74 : Nat)])) (h' := (zi_H L xs 82 78 83)) (fun _ => rfl)).trans ?_
  refine zi_ast (i := 2) rfl rfl (by decide) (by decide) rfl rfl ?_
  refine (zz_go 6 (fr' := (zm_S_init, d + 8, 93, [some (.ref (71 : Nat)), some (.int (3 : Int32))], [.ref (71 : Nat)])) (h' := (zi_H L xs 82 78 84)) (fun _ => rfl)).trans ?_
  refine zl_getR (r := 73) rfl rfl rfl ?_
  show zz_D (zm_S_init, d + 8, 96, [some (.ref (71 : Nat)), some (.int (3 : Int32))], [.ref (73 : Nat)]) (zi_H L xs 82 78 84) = _
  refine (zz_go 2 (fr' := (zm_S_init, d + 8, 98, [some (.ref (71 : Nat)), some (.int (3 : Int32))], [.int (3 : Int32), .int (3 : Int32), .ref (73 : Nat)])) (h' := (zi_H L xs 82 78 84)) (fun _ => rfl)).trans ?_
  refine zi_ast (i := 3) rfl rfl (by decide) (by decide) rfl rfl ?_
  refine (zz_go 1 (fr' := (zm_S_init, d + 8, 100, [some (.ref (71 : Nat)), some (.int (3 : Int32))], [.ref (71 : Nat)])) (h' := (zi_H L xs 82 78 85)) (fun _ => rfl)).trans ?_
  refine zl_getR (r := 74) rfl rfl rfl ?_
  show zz_D (zm_S_init, d + 8, 103, [some (.ref (71 : Nat)), some (.int (3 : Int32))], [.ref (74 : Nat)]) (zi_H L xs 82 78 85) = _
  refine (zz_go 2 (fr' := (zm_S_init, d + 8, 105, [some (.ref (71 : Nat)), some (.int (3 : Int32))], [.int (-1 : Int32), .int (3 : Int32), .ref (74 : Nat)])) (h' := (zi_H L xs 82 78 85)) (fun _ => rfl)).trans ?_
  refine zi_ast (i := 3) rfl rfl (by decide) (by decide) rfl rfl ?_
  refine (zz_go 6 (fr' := (zm_S_init, d + 8, 93, [some (.ref (71 : Nat)), some (.int (4 : Int32))], [.ref (71 : Nat)])) (h' := (zi_H L xs 82 78 86)) (fun _ => rfl)).trans ?_
  refine zl_getR (r := 73) rfl rfl rfl ?_
  show zz_D (zm_S_init, d + 8, 96, [some (.ref (71 : Nat)), some (.int (4 : Int32))], [.ref (73 : Nat)]) (zi_H L xs 82 78 86) = _
  refine (zz_go 2 (fr' := (zm_S_init, d + 8, 98, [some (.ref (71 : Nat)), some (.int (4 : Int32))], [.int (4 : Int32), .int (4 : Int32), .ref (73 : Nat)])) (h' := (zi_H L xs 82 78 86)) (fun _ => rfl)).trans ?_
  refine zi_ast (i := 4) rfl rfl (by decide) (by decide) rfl rfl ?_
  refine (zz_go 1 (fr' := (zm_S_init, d + 8, 100, [some (.ref (71 : Nat)), some (.int (4 : Int32))], [.ref (71 : Nat)])) (h' := (zi_H L xs 82 78 87)) (fun _ => rfl)).trans ?_
  refine zl_getR (r := 74) rfl rfl rfl ?_
  show zz_D (zm_S_init, d + 8, 103, [some (.ref (71 : Nat)), some (.int (4 : Int32))], [.ref (74 : Nat)]) (zi_H L xs 82 78 87) = _
  refine (zz_go 2 (fr' := (zm_S_init, d + 8, 105, [some (.ref (71 : Nat)), some (.int (4 : Int32))], [.int (-1 : Int32), .int (4 : Int32), .ref (74 : Nat)])) (h' := (zi_H L xs 82 78 87)) (fun _ => rfl)).trans ?_
  refine zi_ast (i := 4) rfl rfl (by decide) (by decide) rfl rfl ?_
  refine (zz_go 6 (fr' := (zm_S_init, d + 8, 93, [some (.ref (71 : Nat)), some (.int (5 : Int32))], [.ref (71 : Nat)])) (h' := (zi_H L xs 82 78 88)) (fun _ => rfl)).trans ?_
  refine zl_getR (r := 73) rfl rfl rfl ?_
  show zz_D (zm_S_init, d + 8, 96, [some (.ref (71 : Nat)), some (.int (5 : Int32))], [.ref (73 : Nat)]) (zi_H L xs 82 78 88) = _
  refine (zz_go 2 (fr' := (zm_S_init, d + 8, 98, [some (.ref (71 : Nat)), some (.int (5 : Int32))], [.int (5 : Int32), .int (5 : Int32), .ref (73 : Nat)])) (h' := (zi_H L xs 82 78 88)) (fun _ => rfl)).trans ?_
  refine zi_ast (i := 5) rfl rfl (by decide) (by decide) rfl rfl ?_
  refine (zz_go 1 (fr' := (zm_S_init, d + 8, 100, [some (.ref (71 : Nat)), some (.int (5 : Int32))], [.ref (71 : Nat)])) (h' := (zi_H L xs 82 78 89)) (fun _ => rfl)).trans ?_
  refine zl_getR (r := 74) rfl rfl rfl ?_
  show zz_D (zm_S_init, d + 8, 103, [some (.ref (71 : Nat)), some (.int (5 : Int32))], [.ref (74 : Nat)]) (zi_H L xs 82 78 89) = _
  refine (zz_go 2 (fr' := (zm_S_init, d + 8, 105, [some (.ref (71 : Nat)), some (.int (5 : Int32))], [.int (-1 : Int32), .int (5 : Int32), .ref (74 : Nat)])) (h' := (zi_H L xs 82 78 89)) (fun _ => rfl)).trans ?_
  refine zi_ast (i := 5) rfl rfl (by decide) (by decide) rfl rfl ?_
  refine (zz_go 6 (fr' := (zm_S_init, d + 8, 93, [some (.ref (71 : Nat)), some (.int (6 : Int32))], [.ref (71 : Nat)])) (h' := (zi_H L xs 82 78 90)) (fun _ => rfl)).trans ?_
  refine zl_getR (r := 73) rfl rfl rfl ?_
  show zz_D (zm_S_init, d + 8, 96, [some (.ref (71 : Nat)), some (.int (6 : Int32))], [.ref (73 : Nat)]) (zi_H L xs 82 78 90) = _
  refine (zz_go 2 (fr' := (zm_S_init, d + 8, 98, [some (.ref (71 : Nat)), some (.int (6 : Int32))], [.int (6 : Int32), .int (6 : Int32), .ref (73 : Nat)])) (h' := (zi_H L xs 82 78 90)) (fun _ => rfl)).trans ?_
  refine zi_ast (i := 6) rfl rfl (by decide) (by decide) rfl rfl ?_
  refine (zz_go 1 (fr' := (zm_S_init, d + 8, 100, [some (.ref (71 : Nat)), some (.int (6 : Int32))], [.ref (71 : Nat)])) (h' := (zi_H L xs 82 78 91)) (fun _ => rfl)).trans ?_
  refine zl_getR (r := 74) rfl rfl rfl ?_
  show zz_D (zm_S_init, d + 8, 103, [some (.ref (71 : Nat)), some (.int (6 : Int32))], [.ref (74 : Nat)]) (zi_H L xs 82 78 91) = _
  refine (zz_go 2 (fr' := (zm_S_init, d + 8, 105, [some (.ref (71 : Nat)), some (.int (6 : Int32))], [.int (-1 : Int32), .int (6 : Int32), .ref (74 : Nat)])) (h' := (zi_H L xs 82 78 91)) (fun _ => rfl)).trans ?_
  refine zi_ast (i := 6) rfl rfl (by decide) (by decide) rfl rfl ?_
  refine (zz_go 6 (fr' := (zm_S_init, d + 8, 93, [some (.ref (71 : Nat)), some (.int (7 : Int32))], [.ref (71 : Nat)])) (h' := (zi_H L xs 82 78 92)) (fun _ => rfl)).trans ?_
  refine zl_getR (r := 73) rfl rfl rfl ?_
  show zz_D (zm_S_init, d + 8, 96, [some (.ref (71 : Nat)), some (.int (7 : Int32))], [.ref (73 : Nat)]) (zi_H L xs 82 78 92) = _
  refine (zz_go 2 (fr' := (zm_S_init, d + 8, 98, [some (.ref (71 : Nat)), some (.int (7 : Int32))], [.int (7 : Int32), .int (7 : Int32), .ref (73 : Nat)])) (h' := (zi_H L xs 82 78 92)) (fun _ => rfl)).trans ?_
  refine zi_ast (i := 7) rfl rfl (by decide) (by decide) rfl rfl ?_
  refine (zz_go 1 (fr' := (zm_S_init, d + 8, 100, [some (.ref (71 : Nat)), some (.int (7 : Int32))], [.ref (71 : Nat)])) (h' := (zi_H L xs 82 78 93)) (fun _ => rfl)).trans ?_
  refine zl_getR (r := 74) rfl rfl rfl ?_
  show zz_D (zm_S_init, d + 8, 103, [some (.ref (71 : Nat)), some (.int (7 : Int32))], [.ref (74 : Nat)]) (zi_H L xs 82 78 93) = _
  refine (zz_go 2 (fr' := (zm_S_init, d + 8, 105, [some (.ref (71 : Nat)), some (.int (7 : Int32))], [.int (-1 : Int32), .int (7 : Int32), .ref (74 : Nat)])) (h' := (zi_H L xs 82 78 93)) (fun _ => rfl)).trans ?_
  refine zi_ast (i := 7) rfl rfl (by decide) (by decide) rfl rfl ?_
  refine (zz_go 7 (fr' := (zm_S_init, d + 8, 115, [some (.ref (71 : Nat)), some (.int (8 : Int32))], [.int (100 : Int32), .ref (71 : Nat)])) (h' := (zi_H L xs 82 78 94)) (fun _ => rfl)).trans ?_
  refine zi_putI rfl rfl rfl rfl rfl ?_
  refine (zz_go 2 (fr' := (zm_S_init, d + 8, 120, [some (.ref (71 : Nat)), some (.int (8 : Int32))], [.int (1 : Int32), .ref (71 : Nat)])) (h' := (zi_H L xs 82 78 95)) (fun _ => rfl)).trans ?_
  refine zi_putI rfl rfl rfl rfl rfl ?_
  exact zz_end 1 (fun _ => rfl)
set_option maxRecDepth 40000 in
theorem ic_10 (L : Nat) (xs : Nat → Int32) (d : Nat) : zz_D (zm_S_init, d + 8, 0, [some (.ref (82 : Nat)), none], []) (zi_H L xs 83 79 96) = some (.inl none, (zi_H L xs 93 89 114)) := by
  refine (zz_go 4 (fr' := (zm_S_init, d + 8, 7, [some (.ref (82 : Nat)), none], [.int (8 : Int32), .ref (82 : Nat)])) (h' := (zi_H L xs 83 79 96)) (fun _ => rfl)).trans ?_
  refine zi_newa (c := 8) rfl rfl rfl rfl rfl rfl rfl ?_
  refine zi_putR rfl rfl rfl rfl ?_
  refine (zz_go 2 (fr' := (zm_S_init, d + 8, 15, [some (.ref (82 : Nat)), none], [.int (8 : Int32), .ref (82 : Nat)])) (h' := (zi_H L xs 84 80 96)) (fun _ => rfl)).trans ?_
  refine zi_newa (c := 8) rfl rfl rfl rfl rfl rfl rfl ?_
  refine zi_putR rfl rfl rfl rfl ?_
  refine (zz_go 2 (fr' := (zm_S_init, d + 8, 23, [some (.ref (82 : Nat)), none], [.int (8 : Int32), .ref (82 : Nat)])) (h' := (zi_H L xs 85 81 96)) (fun _ => rfl)).trans ?_
  refine zi_newa (c := 8) rfl rfl rfl rfl rfl rfl rfl ?_
  refine zi_putR rfl rfl rfl rfl ?_
  refine (zz_go 2 (fr' := (zm_S_init, d + 8, 31, [some (.ref (82 : Nat)), none], [.int (6 : Int32), .ref (82 : Nat)])) (h' := (zi_H L xs 86 82 96)) (fun _ => rfl)).trans ?_
  refine zi_newa (c := 6) rfl rfl rfl rfl rfl rfl rfl ?_
  refine zi_putR rfl rfl rfl rfl ?_
  refine (zz_go 2 (fr' := (zm_S_init, d + 8, 39, [some (.ref (82 : Nat)), none], [.int (6 : Int32), .ref (82 : Nat)])) (h' := (zi_H L xs 87 83 96)) (fun _ => rfl)).trans ?_
  refine zi_newa (c := 6) rfl rfl rfl rfl rfl rfl rfl ?_
  refine zi_putR rfl rfl rfl rfl ?_
  refine (zz_go 2 (fr' := (zm_S_init, d + 8, 47, [some (.ref (82 : Nat)), none], [.int (6 : Int32), .ref (82 : Nat)])) (h' := (zi_H L xs 88 84 96)) (fun _ => rfl)).trans ?_
  refine zi_newa (c := 6) rfl rfl rfl rfl rfl rfl rfl ?_
  refine zi_putR rfl rfl rfl rfl ?_
  refine (zz_go 2 (fr' := (zm_S_init, d + 8, 55, [some (.ref (82 : Nat)), none], [.int (6 : Int32), .ref (82 : Nat)])) (h' := (zi_H L xs 89 85 96)) (fun _ => rfl)).trans ?_
  refine zi_newa (c := 6) rfl rfl rfl rfl rfl rfl rfl ?_
  refine zi_putR rfl rfl rfl rfl ?_
  refine (zz_go 2 (fr' := (zm_S_init, d + 8, 63, [some (.ref (82 : Nat)), none], [.int (6 : Int32), .ref (82 : Nat)])) (h' := (zi_H L xs 90 86 96)) (fun _ => rfl)).trans ?_
  refine zi_newa (c := 6) rfl rfl rfl rfl rfl rfl rfl ?_
  refine zi_putR rfl rfl rfl rfl ?_
  refine (zz_go 2 (fr' := (zm_S_init, d + 8, 71, [some (.ref (82 : Nat)), none], [.int (6 : Int32), .ref (82 : Nat)])) (h' := (zi_H L xs 91 87 96)) (fun _ => rfl)).trans ?_
  refine zi_newa (c := 6) rfl rfl rfl rfl rfl rfl rfl ?_
  refine zi_putR rfl rfl rfl rfl ?_
  refine (zz_go 2 (fr' := (zm_S_init, d + 8, 79, [some (.ref (82 : Nat)), none], [.int (60 : Int32), .ref (82 : Nat)])) (h' := (zi_H L xs 92 88 96)) (fun _ => rfl)).trans ?_
  refine zi_newa (c := 60) rfl rfl rfl rfl rfl rfl rfl ?_
  refine zi_putR rfl rfl rfl rfl ?_
  refine (zz_go 6 (fr' := (zm_S_init, d + 8, 93, [some (.ref (82 : Nat)), some (.int (0 : Int32))], [.ref (82 : Nat)])) (h' := (zi_H L xs 93 89 96)) (fun _ => rfl)).trans ?_
  refine zl_getR (r := 84) rfl rfl rfl ?_
  show zz_D (zm_S_init, d + 8, 96, [some (.ref (82 : Nat)), some (.int (0 : Int32))], [.ref (84 : Nat)]) (zi_H L xs 93 89 96) = _
  refine (zz_go 2 (fr' := (zm_S_init, d + 8, 98, [some (.ref (82 : Nat)), some (.int (0 : Int32))], [.int (0 : Int32), .int (0 : Int32), .ref (84 : Nat)])) (h' := (zi_H L xs 93 89 96)) (fun _ => rfl)).trans ?_
  refine zi_ast (i := 0) rfl rfl (by decide) (by decide) rfl rfl ?_
  refine (zz_go 1 (fr' := (zm_S_init, d + 8, 100, [some (.ref (82 : Nat)), some (.int (0 : Int32))], [.ref (82 : Nat)])) (h' := (zi_H L xs 93 89 97)) (fun _ => rfl)).trans ?_
  refine zl_getR (r := 85) rfl rfl rfl ?_
  show zz_D (zm_S_init, d + 8, 103, [some (.ref (82 : Nat)), some (.int (0 : Int32))], [.ref (85 : Nat)]) (zi_H L xs 93 89 97) = _
  refine (zz_go 2 (fr' := (zm_S_init, d + 8, 105, [some (.ref (82 : Nat)), some (.int (0 : Int32))], [.int (-1 : Int32), .int (0 : Int32), .ref (85 : Nat)])) (h' := (zi_H L xs 93 89 97)) (fun _ => rfl)).trans ?_
  refine zi_ast (i := 0) rfl rfl (by decide) (by decide) rfl rfl ?_
  refine (zz_go 6 (fr' := (zm_S_init, d + 8, 93, [some (.ref (82 : Nat)), some (.int (1 : Int32))], [.ref (82 : Nat)])) (h' := (zi_H L xs 93 89 98)) (fun _ => rfl)).trans ?_
  refine zl_getR (r := 84) rfl rfl rfl ?_
  show zz_D (zm_S_init, d + 8, 96, [some (.ref (82 : Nat)), some (.int (1 : Int32))], [.ref (84 : Nat)]) (zi_H L xs 93 89 98) = _
  refine (zz_go 2 (fr' := (zm_S_init, d + 8, 98, [some (.ref (82 : Nat)), some (.int (1 : Int32))], [.int (1 : Int32), .int (1 : Int32), .ref (84 : Nat)])) (h' := (zi_H L xs 93 89 98)) (fun _ => rfl)).trans ?_
  refine zi_ast (i := 1) rfl rfl (by decide) (by decide) rfl rfl ?_
  refine (zz_go 1 (fr' := (zm_S_init, d + 8, 100, [some (.ref (82 : Nat)), some (.int (1 : Int32))], [.ref (82 : Nat)])) (h' := (zi_H L xs 93 89 99)) (fun _ => rfl)).trans ?_
  refine zl_getR (r := 85) rfl rfl rfl ?_
  show zz_D (zm_S_init, d + 8, 103, [some (.ref (82 : Nat)), some (.int (1 : Int32))], [.ref (85 : Nat)]) (zi_H L xs 93 89 99) = _
  refine (zz_go 2 (fr' := (zm_S_init, d + 8, 105, [some (.ref (82 : Nat)), some (.int (1 : Int32))], [.int (-1 : Int32), .int (1 : Int32), .ref (85 : Nat)])) (h' := (zi_H L xs 93 89 99)) (fun _ => rfl)).trans ?_
  refine zi_ast (i := 1) rfl rfl (by decide) (by decide) rfl rfl ?_
  refine (zz_go 6 (fr' := (zm_S_init, d + 8, 93, [some (.ref (82 : Nat)), some (.int (2 : Int32))], [.ref (82 : Nat)])) (h' := (zi_H L xs 93 89 100)) (fun _ => rfl)).trans ?_
  refine zl_getR (r := 84) rfl rfl rfl ?_
  show zz_D (zm_S_init, d + 8, 96, [some (.ref (82 : Nat)), some (.int (2 : Int32))], [.ref (84 : Nat)]) (zi_H L xs 93 89 100) = _
  refine (zz_go 2 (fr' := (zm_S_init, d + 8, 98, [some (.ref (82 : Nat)), some (.int (2 : Int32))], [.int (2 : Int32), .int (2 : Int32), .ref (84 : Nat)])) (h' := (zi_H L xs 93 89 100)) (fun _ => rfl)).trans ?_
  refine zi_ast (i := 2) rfl rfl (by decide) (by decide) rfl rfl ?_
  refine (zz_go 1 (fr' := (zm_S_init, d + 8, 100, [some (.ref (82 : Nat)), some (.int (2 : Int32))], [.ref (82 : Nat)])) (h' := (zi_H L xs 93 89 101)) (fun _ => rfl)).trans ?_
  refine zl_getR (r := 85) rfl rfl rfl ?_
  show zz_D (zm_S_init, d + 8, 103, [some (.ref (82 : Nat)), some (.int (2 : Int32))], [.ref (85 : Nat)]) (zi_H L xs 93 89 101) = _
  refine (zz_go 2 (fr' := (zm_S_init, d + 8, 105, [some (.ref (82 : Nat)), some (.int (2 : Int32))], [.int (-1 : Int32), .int (2 : Int32), .ref (85 : Nat)])) (h' := (zi_H L xs 93 89 101)) (fun _ => rfl)).trans ?_
  refine zi_ast (i := 2) rfl rfl (by decide) (by decide) rfl rfl ?_
  refine (zz_go 6 (fr' := (zm_S_init, d + 8, 93, [some (.ref (82 : Nat)), some (.int (3 : Int32))], [.ref (82 : Nat)])) (h' := (zi_H L xs 93 89 102)) (fun _ => rfl)).trans ?_
  refine zl_getR (r := 84) rfl rfl rfl ?_
  show zz_D (zm_S_init, d + 8, 96, [some (.ref (82 : Nat)), some (.int (3 : Int32))], [.ref (84 : Nat)]) (zi_H L xs 93 89 102) = _
  refine (zz_go 2 (fr' := (zm_S_init, d + 8, 98, [some (.ref (82 : Nat)), some (.int (3 : Int32))], [.int (3 : Int32), .int (3 : Int32), .ref (84 : Nat)])) (h' := (zi_H L xs 93 89 102)) (fun _ => rfl)).trans ?_
  refine zi_ast (i := 3) rfl rfl (by decide) (by decide) rfl rfl ?_
  refine (zz_go 1 (fr' := (zm_S_init, d + 8, 100, [some (.ref (82 : Nat)), some (.int (3 : Int32))], [.ref (82 : Nat)])) (h' := (zi_H L xs 93 89 103)) (fun _ => rfl)).trans ?_
  refine zl_getR (r := 85) rfl rfl rfl ?_
  show zz_D (zm_S_init, d + 8, 103, [some (.ref (82 : Nat)), some (.int (3 : Int32))], [.ref (85 : Nat)]) (zi_H L xs 93 89 103) = _
  refine (zz_go 2 (fr' := (zm_S_init, d + 8, 105, [some (.ref (82 : Nat)), some (.int (3 : Int32))], [.int (-1 : Int32), .int (3 : Int32), .ref (85 : Nat)])) (h' := (zi_H L xs 93 89 103)) (fun _ => rfl)).trans ?_
  refine zi_ast (i := 3) rfl rfl (by decide) (by decide) rfl rfl ?_
  refine (zz_go 6 (fr' := (zm_S_init, d + 8, 93, [some (.ref (82 : Nat)), some (.int (4 : Int32))], [.ref (82 : Nat)])) (h' := (zi_H L xs 93 89 104)) (fun _ => rfl)).trans ?_
  refine zl_getR (r := 84) rfl rfl rfl ?_
  show zz_D (zm_S_init, d + 8, 96, [some (.ref (82 : Nat)), some (.int (4 : Int32))], [.ref (84 : Nat)]) (zi_H L xs 93 89 104) = _
  refine (zz_go 2 (fr' := (zm_S_init, d + 8, 98, [some (.ref (82 : Nat)), some (.int (4 : Int32))], [.int (4 : Int32), .int (4 : Int32), .ref (84 : Nat)])) (h' := (zi_H L xs 93 89 104)) (fun _ => rfl)).trans ?_
  refine zi_ast (i := 4) rfl rfl (by decide) (by decide) rfl rfl ?_
  refine (zz_go 1 (fr' := (zm_S_init, d + 8, 100, [some (.ref (82 : Nat)), some (.int (4 : Int32))], [.ref (82 : Nat)])) (h' := (zi_H L xs 93 89 105)) (fun _ => rfl)).trans ?_
  refine zl_getR (r := 85) rfl rfl rfl ?_
  show zz_D (zm_S_init, d + 8, 103, [some (.ref (82 : Nat)), some (.int (4 : Int32))], [.ref (85 : Nat)]) (zi_H L xs 93 89 105) = _
  refine (zz_go 2 (fr' := (zm_S_init, d + 8, 105, [some (.ref (82 : Nat)), some (.int (4 : Int32))], [.int (-1 : Int32), .int (4 : Int32), .ref (85 : Nat)])) (h' := (zi_H L xs 93 89 105)) (fun _ => rfl)).trans ?_
  refine zi_ast (i := 4) rfl rfl (by decide) (by decide) rfl rfl ?_
  refine (zz_go 6 (fr' := (zm_S_init, d + 8, 93, [some (.ref (82 : Nat)), some (.int (5 : Int32))], [.ref (82 : Nat)])) (h' := (zi_H L xs 93 89 106)) (fun _ => rfl)).trans ?_
  refine zl_getR (r := 84) rfl rfl rfl ?_
  show zz_D (zm_S_init, d + 8, 96, [some (.ref (82 : Nat)), some (.int (5 : Int32))], [.ref (84 : Nat)]) (zi_H L xs 93 89 106) = _
  refine (zz_go 2 (fr' := (zm_S_init, d + 8, 98, [some (.ref (82 : Nat)), some (.int (5 : Int32))], [.int (5 : Int32), .int (5 : Int32), .ref (84 : Nat)])) (h' := (zi_H L xs 93 89 106)) (fun _ => rfl)).trans ?_
  refine zi_ast (i := 5) rfl rfl (by decide) (by decide) rfl rfl ?_
  refine (zz_go 1 (fr' := (zm_S_init, d + 8, 100, [some (.ref (82 : Nat)), some (.int (5 : Int32))], [.ref (82 : Nat)])) (h' := (zi_H L xs 93 89 107)) (fun _ => rfl)).trans ?_
  refine zl_getR (r := 85) rfl rfl rfl ?_
  show zz_D (zm_S_init, d + 8, 103, [some (.ref (82 : Nat)), some (.int (5 : Int32))], [.ref (85 : Nat)]) (zi_H L xs 93 89 107) = _
  refine (zz_go 2 (fr' := (zm_S_init, d + 8, 105, [some (.ref (82 : Nat)), some (.int (5 : Int32))], [.int (-1 : Int32), .int (5 : Int32), .ref (85 : Nat)])) (h' := (zi_H L xs 93 89 107)) (fun _ => rfl)).trans ?_
  refine zi_ast (i := 5) rfl rfl (by decide) (by decide) rfl rfl ?_
  refine (zz_go 6 (fr' := (zm_S_init, d + 8, 93, [some (.ref (82 : Nat)), some (.int (6 : Int32))], [.ref (82 : Nat)])) (h' := (zi_H L xs 93 89 108)) (fun _ => rfl)).trans ?_
  refine zl_getR (r := 84) rfl rfl rfl ?_
  show zz_D (zm_S_init, d + 8, 96, [some (.ref (82 : Nat)), some (.int (6 : Int32))], [.ref (84 : Nat)]) (zi_H L xs 93 89 108) = _
  refine (zz_go 2 (fr' := (zm_S_init, d + 8, 98, [some (.ref (82 : Nat)), some (.int (6 : Int32))], [.int (6 : Int32), .int (6 : Int32), .ref (84 : Nat)])) (h' := (zi_H L xs 93 89 108)) (fun _ => rfl)).trans ?_
  refine zi_ast (i := 6) rfl rfl (by decide) (by decide) rfl rfl ?_
  refine (zz_go 1 (fr' := (zm_S_init, d + 8, 100, [some (.ref (82 : Nat)), some (.int (6 : Int32))], [.ref (82 : Nat)])) (h' := (zi_H L xs 93 89 109)) (fun _ => rfl)).trans ?_
  refine zl_getR (r := 85) rfl rfl rfl ?_
  show zz_D (zm_S_init, d + 8, 103, [some (.ref (82 : Nat)), some (.int (6 : Int32))], [.ref (85 : Nat)]) (zi_H L xs 93 89 109) = _
  refine (zz_go 2 (fr' := (zm_S_init, d + 8, 105, [some (.ref (82 : Nat)), some (.int (6 : Int32))], [.int (-1 : Int32), .int (6 : Int32), .ref (85 : Nat)])) (h' := (zi_H L xs 93 89 109)) (fun _ => rfl)).trans ?_
  refine zi_ast (i := 6) rfl rfl (by decide) (by decide) rfl rfl ?_
  refine (zz_go 6 (fr' := (zm_S_init, d + 8, 93, [some (.ref (82 : Nat)), some (.int (7 : Int32))], [.ref (82 : Nat)])) (h' := (zi_H L xs 93 89 110)) (fun _ => rfl)).trans ?_
  refine zl_getR (r := 84) rfl rfl rfl ?_
  show zz_D (zm_S_init, d + 8, 96, [some (.ref (82 : Nat)), some (.int (7 : Int32))], [.ref (84 : Nat)]) (zi_H L xs 93 89 110) = _
  refine (zz_go 2 (fr' := (zm_S_init, d + 8, 98, [some (.ref (82 : Nat)), some (.int (7 : Int32))], [.int (7 : Int32), .int (7 : Int32), .ref (84 : Nat)])) (h' := (zi_H L xs 93 89 110)) (fun _ => rfl)).trans ?_
  refine zi_ast (i := 7) rfl rfl (by decide) (by decide) rfl rfl ?_
  refine (zz_go 1 (fr' := (zm_S_init, d + 8, 100, [some (.ref (82 : Nat)), some (.int (7 : Int32))], [.ref (82 : Nat)])) (h' := (zi_H L xs 93 89 111)) (fun _ => rfl)).trans ?_
  refine zl_getR (r := 85) rfl rfl rfl ?_
  show zz_D (zm_S_init, d + 8, 103, [some (.ref (82 : Nat)), some (.int (7 : Int32))], [.ref (85 : Nat)]) (zi_H L xs 93 89 111) = _
  refine (zz_go 2 (fr' := (zm_S_init, d + 8, 105, [some (.ref (82 : Nat)), some (.int (7 : Int32))], [.int (-1 : Int32), .int (7 : Int32), .ref (85 : Nat)])) (h' := (zi_H L xs 93 89 111)) (fun _ => rfl)).trans ?_
  refine zi_ast (i := 7) rfl rfl (by decide) (by decide) rfl rfl ?_
  refine (zz_go 7 (fr' := (zm_S_init, d + 8, 115, [some (.ref (82 : Nat)), some (.int (8 : Int32))], [.int (100 : Int32), .ref (82 : Nat)])) (h' := (zi_H L xs 93 89 112)) (fun _ => rfl)).trans ?_
  refine zi_putI rfl rfl rfl rfl rfl ?_
  refine (zz_go 2 (fr' := (zm_S_init, d + 8, 120, [some (.ref (82 : Nat)), some (.int (8 : Int32))], [.int (1 : Int32), .ref (82 : Nat)])) (h' := (zi_H L xs 93 89 113)) (fun _ => rfl)).trans ?_
  refine zi_putI rfl rfl rfl rfl rfl ?_
  exact zz_end 1 (fun _ => rfl)
set_option maxRecDepth 40000 in
theorem ic_11 (L : Nat) (xs : Nat → Int32) (d : Nat) : zz_D (zm_S_init, d + 8, 0, [some (.ref (93 : Nat)), none], []) (zi_H L xs 94 90 114) = some (.inl none, (zi_H L xs 104 100 132)) := by
  refine (zz_go 4 (fr' := (zm_S_init, d + 8, 7, [some (.ref (93 : Nat)), none], [.int (8 : Int32), .ref (93 : Nat)])) (h' := (zi_H L xs 94 90 114)) (fun _ => rfl)).trans ?_
  refine zi_newa (c := 8) rfl rfl rfl rfl rfl rfl rfl ?_
  refine zi_putR rfl rfl rfl rfl ?_
  refine (zz_go 2 (fr' := (zm_S_init, d + 8, 15, [some (.ref (93 : Nat)), none], [.int (8 : Int32), .ref (93 : Nat)])) (h' := (zi_H L xs 95 91 114)) (fun _ => rfl)).trans ?_
  refine zi_newa (c := 8) rfl rfl rfl rfl rfl rfl rfl ?_
  refine zi_putR rfl rfl rfl rfl ?_
  refine (zz_go 2 (fr' := (zm_S_init, d + 8, 23, [some (.ref (93 : Nat)), none], [.int (8 : Int32), .ref (93 : Nat)])) (h' := (zi_H L xs 96 92 114)) (fun _ => rfl)).trans ?_
  refine zi_newa (c := 8) rfl rfl rfl rfl rfl rfl rfl ?_
  refine zi_putR rfl rfl rfl rfl ?_
  refine (zz_go 2 (fr' := (zm_S_init, d + 8, 31, [some (.ref (93 : Nat)), none], [.int (6 : Int32), .ref (93 : Nat)])) (h' := (zi_H L xs 97 93 114)) (fun _ => rfl)).trans ?_
  refine zi_newa (c := 6) rfl rfl rfl rfl rfl rfl rfl ?_
  refine zi_putR rfl rfl rfl rfl ?_
  refine (zz_go 2 (fr' := (zm_S_init, d + 8, 39, [some (.ref (93 : Nat)), none], [.int (6 : Int32), .ref (93 : Nat)])) (h' := (zi_H L xs 98 94 114)) (fun _ => rfl)).trans ?_
  refine zi_newa (c := 6) rfl rfl rfl rfl rfl rfl rfl ?_
  refine zi_putR rfl rfl rfl rfl ?_
  refine (zz_go 2 (fr' := (zm_S_init, d + 8, 47, [some (.ref (93 : Nat)), none], [.int (6 : Int32), .ref (93 : Nat)])) (h' := (zi_H L xs 99 95 114)) (fun _ => rfl)).trans ?_
  refine zi_newa (c := 6) rfl rfl rfl rfl rfl rfl rfl ?_
  refine zi_putR rfl rfl rfl rfl ?_
  refine (zz_go 2 (fr' := (zm_S_init, d + 8, 55, [some (.ref (93 : Nat)), none], [.int (6 : Int32), .ref (93 : Nat)])) (h' := (zi_H L xs 100 96 114)) (fun _ => rfl)).trans ?_
  refine zi_newa (c := 6) rfl rfl rfl rfl rfl rfl rfl ?_
  refine zi_putR rfl rfl rfl rfl ?_
  refine (zz_go 2 (fr' := (zm_S_init, d + 8, 63, [some (.ref (93 : Nat)), none], [.int (6 : Int32), .ref (93 : Nat)])) (h' := (zi_H L xs 101 97 114)) (fun _ => rfl)).trans ?_
  refine zi_newa (c := 6) rfl rfl rfl rfl rfl rfl rfl ?_
  refine zi_putR rfl rfl rfl rfl ?_
  refine (zz_go 2 (fr' := (zm_S_init, d + 8, 71, [some (.ref (93 : Nat)), none], [.int (6 : Int32), .ref (93 : Nat)])) (h' := (zi_H L xs 102 98 114)) (fun _ => rfl)).trans ?_
  refine zi_newa (c := 6) rfl rfl rfl rfl rfl rfl rfl ?_
  refine zi_putR rfl rfl rfl rfl ?_
  refine (zz_go 2 (fr' := (zm_S_init, d + 8, 79, [some (.ref (93 : Nat)), none], [.int (60 : Int32), .ref (93 : Nat)])) (h' := (zi_H L xs 103 99 114)) (fun _ => rfl)).trans ?_
  refine zi_newa (c := 60) rfl rfl rfl rfl rfl rfl rfl ?_
  refine zi_putR rfl rfl rfl rfl ?_
  refine (zz_go 6 (fr' := (zm_S_init, d + 8, 93, [some (.ref (93 : Nat)), some (.int (0 : Int32))], [.ref (93 : Nat)])) (h' := (zi_H L xs 104 100 114)) (fun _ => rfl)).trans ?_
  refine zl_getR (r := 95) rfl rfl rfl ?_
  show zz_D (zm_S_init, d + 8, 96, [some (.ref (93 : Nat)), some (.int (0 : Int32))], [.ref (95 : Nat)]) (zi_H L xs 104 100 114) = _
  refine (zz_go 2 (fr' := (zm_S_init, d + 8, 98, [some (.ref (93 : Nat)), some (.int (0 : Int32))], [.int (0 : Int32), .int (0 : Int32), .ref (95 : Nat)])) (h' := (zi_H L xs 104 100 114)) (fun _ => rfl)).trans ?_
  refine zi_ast (i := 0) rfl rfl (by decide) (by decide) rfl rfl ?_
  refine (zz_go 1 (fr' := (zm_S_init, d + 8, 100, [some (.ref (93 : Nat)), some (.int (0 : Int32))], [.ref (93 : Nat)])) (h' := (zi_H L xs 104 100 115)) (fun _ => rfl)).trans ?_
  refine zl_getR (r := 96) rfl rfl rfl ?_
  show zz_D (zm_S_init, d + 8, 103, [some (.ref (93 : Nat)), some (.int (0 : Int32))], [.ref (96 : Nat)]) (zi_H L xs 104 100 115) = _
  refine (zz_go 2 (fr' := (zm_S_init, d + 8, 105, [some (.ref (93 : Nat)), some (.int (0 : Int32))], [.int (-1 : Int32), .int (0 : Int32), .ref (96 : Nat)])) (h' := (zi_H L xs 104 100 115)) (fun _ => rfl)).trans ?_
  refine zi_ast (i := 0) rfl rfl (by decide) (by decide) rfl rfl ?_
  refine (zz_go 6 (fr' := (zm_S_init, d + 8, 93, [some (.ref (93 : Nat)), some (.int (1 : Int32))], [.ref (93 : Nat)])) (h' := (zi_H L xs 104 100 116)) (fun _ => rfl)).trans ?_
  refine zl_getR (r := 95) rfl rfl rfl ?_
  show zz_D (zm_S_init, d + 8, 96, [some (.ref (93 : Nat)), some (.int (1 : Int32))], [.ref (95 : Nat)]) (zi_H L xs 104 100 116) = _
  refine (zz_go 2 (fr' := (zm_S_init, d + 8, 98, [some (.ref (93 : Nat)), some (.int (1 : Int32))], [.int (1 : Int32), .int (1 : Int32), .ref (95 : Nat)])) (h' := (zi_H L xs 104 100 116)) (fun _ => rfl)).trans ?_
  refine zi_ast (i := 1) rfl rfl (by decide) (by decide) rfl rfl ?_
  refine (zz_go 1 (fr' := (zm_S_init, d + 8, 100, [some (.ref (93 : Nat)), some (.int (1 : Int32))], [.ref (93 : Nat)])) (h' := (zi_H L xs 104 100 117)) (fun _ => rfl)).trans ?_
  refine zl_getR (r := 96) rfl rfl rfl ?_
  show zz_D (zm_S_init, d + 8, 103, [some (.ref (93 : Nat)), some (.int (1 : Int32))], [.ref (96 : Nat)]) (zi_H L xs 104 100 117) = _
  refine (zz_go 2 (fr' := (zm_S_init, d + 8, 105, [some (.ref (93 : Nat)), some (.int (1 : Int32))], [.int (-1 : Int32), .int (1 : Int32), .ref (96 : Nat)])) (h' := (zi_H L xs 104 100 117)) (fun _ => rfl)).trans ?_
  refine zi_ast (i := 1) rfl rfl (by decide) (by decide) rfl rfl ?_
  refine (zz_go 6 (fr' := (zm_S_init, d + 8, 93, [some (.ref (93 : Nat)), some (.int (2 : Int32))], [.ref (93 : Nat)])) (h' := (zi_H L xs 104 100 118)) (fun _ => rfl)).trans ?_
  refine zl_getR (r := 95) rfl rfl rfl ?_
  show zz_D (zm_S_init, d + 8, 96, [some (.ref (93 : Nat)), some (.int (2 : Int32))], [.ref (95 : Nat)]) (zi_H L xs 104 100 118) = _
  refine (zz_go 2 (fr' := (zm_S_init, d + 8, 98, [some (.ref (93 : Nat)), some (.int (2 : Int32))], [.int (2 : Int32), .int (2 : Int32), .ref (95 : Nat)])) (h' := (zi_H L xs 104 100 118)) (fun _ => rfl)).trans ?_
  refine zi_ast (i := 2) rfl rfl (by decide) (by decide) rfl rfl ?_
  refine (zz_go 1 (fr' := (zm_S_init, d + 8, 100, [some (.ref (93 : Nat)), some (.int (2 : Int32))], [.ref (93 : Nat)])) (h' := (zi_H L xs 104 100 119)) (fun _ => rfl)).trans ?_
  refine zl_getR (r := 96) rfl rfl rfl ?_
  show zz_D (zm_S_init, d + 8, 103, [some (.ref (93 : Nat)), some (.int (2 : Int32))], [.ref (96 : Nat)]) (zi_H L xs 104 100 119) = _
  refine (zz_go 2 (fr' := (zm_S_init, d + 8, 105, [some (.ref (93 : Nat)), some (.int (2 : Int32))], [.int (-1 : Int32), .int (2 : Int32), .ref (96 : Nat)])) (h' := (zi_H L xs 104 100 119)) (fun _ => rfl)).trans ?_
  refine zi_ast (i := 2) rfl rfl (by decide) (by decide) rfl rfl ?_
  refine (zz_go 6 (fr' := (zm_S_init, d + 8, 93, [some (.ref (93 : Nat)), some (.int (3 : Int32))], [.ref (93 : Nat)])) (h' := (zi_H L xs 104 100 120)) (fun _ => rfl)).trans ?_
  refine zl_getR (r := 95) rfl rfl rfl ?_
  show zz_D (zm_S_init, d + 8, 96, [some (.ref (93 : Nat)), some (.int (3 : Int32))], [.ref (95 : Nat)]) (zi_H L xs 104 100 120) = _
  refine (zz_go 2 (fr' := (zm_S_init, d + 8, 98, [some (.ref (93 : Nat)), some (.int (3 : Int32))], [.int (3 : Int32), .int (3 : Int32), .ref (95 : Nat)])) (h' := (zi_H L xs 104 100 120)) (fun _ => rfl)).trans ?_
  refine zi_ast (i := 3) rfl rfl (by decide) (by decide) rfl rfl ?_
  refine (zz_go 1 (fr' := (zm_S_init, d + 8, 100, [some (.ref (93 : Nat)), some (.int (3 : Int32))], [.ref (93 : Nat)])) (h' := (zi_H L xs 104 100 121)) (fun _ => rfl)).trans ?_
  refine zl_getR (r := 96) rfl rfl rfl ?_
  show zz_D (zm_S_init, d + 8, 103, [some (.ref (93 : Nat)), some (.int (3 : Int32))], [.ref (96 : Nat)]) (zi_H L xs 104 100 121) = _
  refine (zz_go 2 (fr' := (zm_S_init, d + 8, 105, [some (.ref (93 : Nat)), some (.int (3 : Int32))], [.int (-1 : Int32), .int (3 : Int32), .ref (96 : Nat)])) (h' := (zi_H L xs 104 100 121)) (fun _ => rfl)).trans ?_
  refine zi_ast (i := 3) rfl rfl (by decide) (by decide) rfl rfl ?_
  refine (zz_go 6 (fr' := (zm_S_init, d + 8, 93, [some (.ref (93 : Nat)), some (.int (4 : Int32))], [.ref (93 : Nat)])) (h' := (zi_H L xs 104 100 122)) (fun _ => rfl)).trans ?_
  refine zl_getR (r := 95) rfl rfl rfl ?_
  show zz_D (zm_S_init, d + 8, 96, [some (.ref (93 : Nat)), some (.int (4 : Int32))], [.ref (95 : Nat)]) (zi_H L xs 104 100 122) = _
  refine (zz_go 2 (fr' := (zm_S_init, d + 8, 98, [some (.ref (93 : Nat)), some (.int (4 : Int32))], [.int (4 : Int32), .int (4 : Int32), .ref (95 : Nat)])) (h' := (zi_H L xs 104 100 122)) (fun _ => rfl)).trans ?_
  refine zi_ast (i := 4) rfl rfl (by decide) (by decide) rfl rfl ?_
  refine (zz_go 1 (fr' := (zm_S_init, d + 8, 100, [some (.ref (93 : Nat)), some (.int (4 : Int32))], [.ref (93 : Nat)])) (h' := (zi_H L xs 104 100 123)) (fun _ => rfl)).trans ?_
  refine zl_getR (r := 96) rfl rfl rfl ?_
  show zz_D (zm_S_init, d + 8, 103, [some (.ref (93 : Nat)), some (.int (4 : Int32))], [.ref (96 : Nat)]) (zi_H L xs 104 100 123) = _
  refine (zz_go 2 (fr' := (zm_S_init, d + 8, 105, [some (.ref (93 : Nat)), some (.int (4 : Int32))], [.int (-1 : Int32), .int (4 : Int32), .ref (96 : Nat)])) (h' := (zi_H L xs 104 100 123)) (fun _ => rfl)).trans ?_
  refine zi_ast (i := 4) rfl rfl (by decide) (by decide) rfl rfl ?_
  refine (zz_go 6 (fr' := (zm_S_init, d + 8, 93, [some (.ref (93 : Nat)), some (.int (5 : Int32))], [.ref (93 : Nat)])) (h' := (zi_H L xs 104 100 124)) (fun _ => rfl)).trans ?_
  refine zl_getR (r := 95) rfl rfl rfl ?_
  show zz_D (zm_S_init, d + 8, 96, [some (.ref (93 : Nat)), some (.int (5 : Int32))], [.ref (95 : Nat)]) (zi_H L xs 104 100 124) = _
  refine (zz_go 2 (fr' := (zm_S_init, d + 8, 98, [some (.ref (93 : Nat)), some (.int (5 : Int32))], [.int (5 : Int32), .int (5 : Int32), .ref (95 : Nat)])) (h' := (zi_H L xs 104 100 124)) (fun _ => rfl)).trans ?_
  refine zi_ast (i := 5) rfl rfl (by decide) (by decide) rfl rfl ?_
  refine (zz_go 1 (fr' := (zm_S_init, d + 8, 100, [some (.ref (93 : Nat)), some (.int (5 : Int32))], [.ref (93 : Nat)])) (h' := (zi_H L xs 104 100 125)) (fun _ => rfl)).trans ?_
  refine zl_getR (r := 96) rfl rfl rfl ?_
  show zz_D (zm_S_init, d + 8, 103, [some (.ref (93 : Nat)), some (.int (5 : Int32))], [.ref (96 : Nat)]) (zi_H L xs 104 100 125) = _
  refine (zz_go 2 (fr' := (zm_S_init, d + 8, 105, [some (.ref (93 : Nat)), some (.int (5 : Int32))], [.int (-1 : Int32), .int (5 : Int32), .ref (96 : Nat)])) (h' := (zi_H L xs 104 100 125)) (fun _ => rfl)).trans ?_
  refine zi_ast (i := 5) rfl rfl (by decide) (by decide) rfl rfl ?_
  refine (zz_go 6 (fr' := (zm_S_init, d + 8, 93, [some (.ref (93 : Nat)), some (.int (6 : Int32))], [.ref (93 : Nat)])) (h' := (zi_H L xs 104 100 126)) (fun _ => rfl)).trans ?_
  refine zl_getR (r := 95) rfl rfl rfl ?_
  show zz_D (zm_S_init, d + 8, 96, [some (.ref (93 : Nat)), some (.int (6 : Int32))], [.ref (95 : Nat)]) (zi_H L xs 104 100 126) = _
  refine (zz_go 2 (fr' := (zm_S_init, d + 8, 98, [some (.ref (93 : Nat)), some (.int (6 : Int32))], [.int (6 : Int32), .int (6 : Int32), .ref (95 : Nat)])) (h' := (zi_H L xs 104 100 126)) (fun _ => rfl)).trans ?_
  refine zi_ast (i := 6) rfl rfl (by decide) (by decide) rfl rfl ?_
  refine (zz_go 1 (fr' := (zm_S_init, d + 8, 100, [some (.ref (93 : Nat)), some (.int (6 : Int32))], [.ref (93 : Nat)])) (h' := (zi_H L xs 104 100 127)) (fun _ => rfl)).trans ?_
  refine zl_getR (r := 96) rfl rfl rfl ?_
  show zz_D (zm_S_init, d + 8, 103, [some (.ref (93 : Nat)), some (.int (6 : Int32))], [.ref (96 : Nat)]) (zi_H L xs 104 100 127) = _
  refine (zz_go 2 (fr' := (zm_S_init, d + 8, 105, [some (.ref (93 : Nat)), some (.int (6 : Int32))], [.int (-1 : Int32), .int (6 : Int32), .ref (96 : Nat)])) (h' := (zi_H L xs 104 100 127)) (fun _ => rfl)).trans ?_
  refine zi_ast (i := 6) rfl rfl (by decide) (by decide) rfl rfl ?_
  refine (zz_go 6 (fr' := (zm_S_init, d + 8, 93, [some (.ref (93 : Nat)), some (.int (7 : Int32))], [.ref (93 : Nat)])) (h' := (zi_H L xs 104 100 128)) (fun _ => rfl)).trans ?_
  refine zl_getR (r := 95) rfl rfl rfl ?_
  show zz_D (zm_S_init, d + 8, 96, [some (.ref (93 : Nat)), some (.int (7 : Int32))], [.ref (95 : Nat)]) (zi_H L xs 104 100 128) = _
  refine (zz_go 2 (fr' := (zm_S_init, d + 8, 98, [some (.ref (93 : Nat)), some (.int (7 : Int32))], [.int (7 : Int32), .int (7 : Int32), .ref (95 : Nat)])) (h' := (zi_H L xs 104 100 128)) (fun _ => rfl)).trans ?_
  refine zi_ast (i := 7) rfl rfl (by decide) (by decide) rfl rfl ?_
  refine (zz_go 1 (fr' := (zm_S_init, d + 8, 100, [some (.ref (93 : Nat)), some (.int (7 : Int32))], [.ref (93 : Nat)])) (h' := (zi_H L xs 104 100 129)) (fun _ => rfl)).trans ?_
  refine zl_getR (r := 96) rfl rfl rfl ?_
  show zz_D (zm_S_init, d + 8, 103, [some (.ref (93 : Nat)), some (.int (7 : Int32))], [.ref (96 : Nat)]) (zi_H L xs 104 100 129) = _
  refine (zz_go 2 (fr' := (zm_S_init, d + 8, 105, [some (.ref (93 : Nat)), some (.int (7 : Int32))], [.int (-1 : Int32), .int (7 : Int32), .ref (96 : Nat)])) (h' := (zi_H L xs 104 100 129)) (fun _ => rfl)).trans ?_
  refine zi_ast (i := 7) rfl rfl (by decide) (by decide) rfl rfl ?_
  refine (zz_go 7 (fr' := (zm_S_init, d + 8, 115, [some (.ref (93 : Nat)), some (.int (8 : Int32))], [.int (100 : Int32), .ref (93 : Nat)])) (h' := (zi_H L xs 104 100 130)) (fun _ => rfl)).trans ?_
  refine zi_putI rfl rfl rfl rfl rfl ?_
  refine (zz_go 2 (fr' := (zm_S_init, d + 8, 120, [some (.ref (93 : Nat)), some (.int (8 : Int32))], [.int (1 : Int32), .ref (93 : Nat)])) (h' := (zi_H L xs 104 100 131)) (fun _ => rfl)).trans ?_
  refine zi_putI rfl rfl rfl rfl rfl ?_
  exact zz_end 1 (fun _ => rfl)
set_option maxRecDepth 40000 in
theorem ic_12 (L : Nat) (xs : Nat → Int32) (d : Nat) : zz_D (zm_S_init, d + 8, 0, [some (.ref (104 : Nat)), none], []) (zi_H L xs 105 101 132) = some (.inl none, (zi_H L xs 115 111 150)) := by
  refine (zz_go 4 (fr' := (zm_S_init, d + 8, 7, [some (.ref (104 : Nat)), none], [.int (8 : Int32), .ref (104 : Nat)])) (h' := (zi_H L xs 105 101 132)) (fun _ => rfl)).trans ?_
  refine zi_newa (c := 8) rfl rfl rfl rfl rfl rfl rfl ?_
  refine zi_putR rfl rfl rfl rfl ?_
  refine (zz_go 2 (fr' := (zm_S_init, d + 8, 15, [some (.ref (104 : Nat)), none], [.int (8 : Int32), .ref (104 : Nat)])) (h' := (zi_H L xs 106 102 132)) (fun _ => rfl)).trans ?_
  refine zi_newa (c := 8) rfl rfl rfl rfl rfl rfl rfl ?_
  refine zi_putR rfl rfl rfl rfl ?_
  refine (zz_go 2 (fr' := (zm_S_init, d + 8, 23, [some (.ref (104 : Nat)), none], [.int (8 : Int32), .ref (104 : Nat)])) (h' := (zi_H L xs 107 103 132)) (fun _ => rfl)).trans ?_
  refine zi_newa (c := 8) rfl rfl rfl rfl rfl rfl rfl ?_
  refine zi_putR rfl rfl rfl rfl ?_
  refine (zz_go 2 (fr' := (zm_S_init, d + 8, 31, [some (.ref (104 : Nat)), none], [.int (6 : Int32), .ref (104 : Nat)])) (h' := (zi_H L xs 108 104 132)) (fun _ => rfl)).trans ?_
  refine zi_newa (c := 6) rfl rfl rfl rfl rfl rfl rfl ?_
  refine zi_putR rfl rfl rfl rfl ?_
  refine (zz_go 2 (fr' := (zm_S_init, d + 8, 39, [some (.ref (104 : Nat)), none], [.int (6 : Int32), .ref (104 : Nat)])) (h' := (zi_H L xs 109 105 132)) (fun _ => rfl)).trans ?_
  refine zi_newa (c := 6) rfl rfl rfl rfl rfl rfl rfl ?_
  refine zi_putR rfl rfl rfl rfl ?_
  refine (zz_go 2 (fr' := (zm_S_init, d + 8, 47, [some (.ref (104 : Nat)), none], [.int (6 : Int32), .ref (104 : Nat)])) (h' := (zi_H L xs 110 106 132)) (fun _ => rfl)).trans ?_
  refine zi_newa (c := 6) rfl rfl rfl rfl rfl rfl rfl ?_
  refine zi_putR rfl rfl rfl rfl ?_
  refine (zz_go 2 (fr' := (zm_S_init, d + 8, 55, [some (.ref (104 : Nat)), none], [.int (6 : Int32), .ref (104 : Nat)])) (h' := (zi_H L xs 111 107 132)) (fun _ => rfl)).trans ?_
  refine zi_newa (c := 6) rfl rfl rfl rfl rfl rfl rfl ?_
  refine zi_putR rfl rfl rfl rfl ?_
  refine (zz_go 2 (fr' := (zm_S_init, d + 8, 63, [some (.ref (104 : Nat)), none], [.int (6 : Int32), .ref (104 : Nat)])) (h' := (zi_H L xs 112 108 132)) (fun _ => rfl)).trans ?_
  refine zi_newa (c := 6) rfl rfl rfl rfl rfl rfl rfl ?_
  refine zi_putR rfl rfl rfl rfl ?_
  refine (zz_go 2 (fr' := (zm_S_init, d + 8, 71, [some (.ref (104 : Nat)), none], [.int (6 : Int32), .ref (104 : Nat)])) (h' := (zi_H L xs 113 109 132)) (fun _ => rfl)).trans ?_
  refine zi_newa (c := 6) rfl rfl rfl rfl rfl rfl rfl ?_
  refine zi_putR rfl rfl rfl rfl ?_
  refine (zz_go 2 (fr' := (zm_S_init, d + 8, 79, [some (.ref (104 : Nat)), none], [.int (60 : Int32), .ref (104 : Nat)])) (h' := (zi_H L xs 114 110 132)) (fun _ => rfl)).trans ?_
  refine zi_newa (c := 60) rfl rfl rfl rfl rfl rfl rfl ?_
  refine zi_putR rfl rfl rfl rfl ?_
  refine (zz_go 6 (fr' := (zm_S_init, d + 8, 93, [some (.ref (104 : Nat)), some (.int (0 : Int32))], [.ref (104 : Nat)])) (h' := (zi_H L xs 115 111 132)) (fun _ => rfl)).trans ?_
  refine zl_getR (r := 106) rfl rfl rfl ?_
  show zz_D (zm_S_init, d + 8, 96, [some (.ref (104 : Nat)), some (.int (0 : Int32))], [.ref (106 : Nat)]) (zi_H L xs 115 111 132) = _
  refine (zz_go 2 (fr' := (zm_S_init, d + 8, 98, [some (.ref (104 : Nat)), some (.int (0 : Int32))], [.int (0 : Int32), .int (0 : Int32), .ref (106 : Nat)])) (h' := (zi_H L xs 115 111 132)) (fun _ => rfl)).trans ?_
  refine zi_ast (i := 0) rfl rfl (by decide) (by decide) rfl rfl ?_
  refine (zz_go 1 (fr' := (zm_S_init, d + 8, 100, [some (.ref (104 : Nat)), some (.int (0 : Int32))], [.ref (104 : Nat)])) (h' := (zi_H L xs 115 111 133)) (fun _ => rfl)).trans ?_
  refine zl_getR (r := 107) rfl rfl rfl ?_
  show zz_D (zm_S_init, d + 8, 103, [some (.ref (104 : Nat)), some (.int (0 : Int32))], [.ref (107 : Nat)]) (zi_H L xs 115 111 133) = _
  refine (zz_go 2 (fr' := (zm_S_init, d + 8, 105, [some (.ref (104 : Nat)), some (.int (0 : Int32))], [.int (-1 : Int32), .int (0 : Int32), .ref (107 : Nat)])) (h' := (zi_H L xs 115 111 133)) (fun _ => rfl)).trans ?_
  refine zi_ast (i := 0) rfl rfl (by decide) (by decide) rfl rfl ?_
  refine (zz_go 6 (fr' := (zm_S_init, d + 8, 93, [some (.ref (104 : Nat)), some (.int (1 : Int32))], [.ref (104 : Nat)])) (h' := (zi_H L xs 115 111 134)) (fun _ => rfl)).trans ?_
  refine zl_getR (r := 106) rfl rfl rfl ?_
  show zz_D (zm_S_init, d + 8, 96, [some (.ref (104 : Nat)), some (.int (1 : Int32))], [.ref (106 : Nat)]) (zi_H L xs 115 111 134) = _
  refine (zz_go 2 (fr' := (zm_S_init, d + 8, 98, [some (.ref (104 : Nat)), some (.int (1 : Int32))], [.int (1 : Int32), .int (1 : Int32), .ref (106 : Nat)])) (h' := (zi_H L xs 115 111 134)) (fun _ => rfl)).trans ?_
  refine zi_ast (i := 1) rfl rfl (by decide) (by decide) rfl rfl ?_
  refine (zz_go 1 (fr' := (zm_S_init, d + 8, 100, [some (.ref (104 : Nat)), some (.int (1 : Int32))], [.ref (104 : Nat)])) (h' := (zi_H L xs 115 111 135)) (fun _ => rfl)).trans ?_
  refine zl_getR (r := 107) rfl rfl rfl ?_
  show zz_D (zm_S_init, d + 8, 103, [some (.ref (104 : Nat)), some (.int (1 : Int32))], [.ref (107 : Nat)]) (zi_H L xs 115 111 135) = _
  refine (zz_go 2 (fr' := (zm_S_init, d + 8, 105, [some (.ref (104 : Nat)), some (.int (1 : Int32))], [.int (-1 : Int32), .int (1 : Int32), .ref (107 : Nat)])) (h' := (zi_H L xs 115 111 135)) (fun _ => rfl)).trans ?_
  refine zi_ast (i := 1) rfl rfl (by decide) (by decide) rfl rfl ?_
  refine (zz_go 6 (fr' := (zm_S_init, d + 8, 93, [some (.ref (104 : Nat)), some (.int (2 : Int32))], [.ref (104 : Nat)])) (h' := (zi_H L xs 115 111 136)) (fun _ => rfl)).trans ?_
  refine zl_getR (r := 106) rfl rfl rfl ?_
  show zz_D (zm_S_init, d + 8, 96, [some (.ref (104 : Nat)), some (.int (2 : Int32))], [.ref (106 : Nat)]) (zi_H L xs 115 111 136) = _
  refine (zz_go 2 (fr' := (zm_S_init, d + 8, 98, [some (.ref (104 : Nat)), some (.int (2 : Int32))], [.int (2 : Int32), .int (2 : Int32), .ref (106 : Nat)])) (h' := (zi_H L xs 115 111 136)) (fun _ => rfl)).trans ?_
  refine zi_ast (i := 2) rfl rfl (by decide) (by decide) rfl rfl ?_
  refine (zz_go 1 (fr' := (zm_S_init, d + 8, 100, [some (.ref (104 : Nat)), some (.int (2 : Int32))], [.ref (104 : Nat)])) (h' := (zi_H L xs 115 111 137)) (fun _ => rfl)).trans ?_
  refine zl_getR (r := 107) rfl rfl rfl ?_
  show zz_D (zm_S_init, d + 8, 103, [some (.ref (104 : Nat)), some (.int (2 : Int32))], [.ref (107 : Nat)]) (zi_H L xs 115 111 137) = _
  refine (zz_go 2 (fr' := (zm_S_init, d + 8, 105, [some (.ref (104 : Nat)), some (.int (2 : Int32))], [.int (-1 : Int32), .int (2 : Int32), .ref (107 : Nat)])) (h' := (zi_H L xs 115 111 137)) (fun _ => rfl)).trans ?_
  refine zi_ast (i := 2) rfl rfl (by decide) (by decide) rfl rfl ?_
  refine (zz_go 6 (fr' := (zm_S_init, d + 8, 93, [some (.ref (104 : Nat)), some (.int (3 : Int32))], [.ref (104 : Nat)])) (h' := (zi_H L xs 115 111 138)) (fun _ => rfl)).trans ?_
  refine zl_getR (r := 106) rfl rfl rfl ?_
  show zz_D (zm_S_init, d + 8, 96, [some (.ref (104 : Nat)), some (.int (3 : Int32))], [.ref (106 : Nat)]) (zi_H L xs 115 111 138) = _
  refine (zz_go 2 (fr' := (zm_S_init, d + 8, 98, [some (.ref (104 : Nat)), some (.int (3 : Int32))], [.int (3 : Int32), .int (3 : Int32), .ref (106 : Nat)])) (h' := (zi_H L xs 115 111 138)) (fun _ => rfl)).trans ?_
  refine zi_ast (i := 3) rfl rfl (by decide) (by decide) rfl rfl ?_
  refine (zz_go 1 (fr' := (zm_S_init, d + 8, 100, [some (.ref (104 : Nat)), some (.int (3 : Int32))], [.ref (104 : Nat)])) (h' := (zi_H L xs 115 111 139)) (fun _ => rfl)).trans ?_
  refine zl_getR (r := 107) rfl rfl rfl ?_
  show zz_D (zm_S_init, d + 8, 103, [some (.ref (104 : Nat)), some (.int (3 : Int32))], [.ref (107 : Nat)]) (zi_H L xs 115 111 139) = _
  refine (zz_go 2 (fr' := (zm_S_init, d + 8, 105, [some (.ref (104 : Nat)), some (.int (3 : Int32))], [.int (-1 : Int32), .int (3 : Int32), .ref (107 : Nat)])) (h' := (zi_H L xs 115 111 139)) (fun _ => rfl)).trans ?_
  refine zi_ast (i := 3) rfl rfl (by decide) (by decide) rfl rfl ?_
  refine (zz_go 6 (fr' := (zm_S_init, d + 8, 93, [some (.ref (104 : Nat)), some (.int (4 : Int32))], [.ref (104 : Nat)])) (h' := (zi_H L xs 115 111 140)) (fun _ => rfl)).trans ?_
  refine zl_getR (r := 106) rfl rfl rfl ?_
  show zz_D (zm_S_init, d + 8, 96, [some (.ref (104 : Nat)), some (.int (4 : Int32))], [.ref (106 : Nat)]) (zi_H L xs 115 111 140) = _
  refine (zz_go 2 (fr' := (zm_S_init, d + 8, 98, [some (.ref (104 : Nat)), some (.int (4 : Int32))], [.int (4 : Int32), .int (4 : Int32), .ref (106 : Nat)])) (h' := (zi_H L xs 115 111 140)) (fun _ => rfl)).trans ?_
  refine zi_ast (i := 4) rfl rfl (by decide) (by decide) rfl rfl ?_
  refine (zz_go 1 (fr' := (zm_S_init, d + 8, 100, [some (.ref (104 : Nat)), some (.int (4 : Int32))], [.ref (104 : Nat)])) (h' := (zi_H L xs 115 111 141)) (fun _ => rfl)).trans ?_
  refine zl_getR (r := 107) rfl rfl rfl ?_
  show zz_D (zm_S_init, d + 8, 103, [some (.ref (104 : Nat)), some (.int (4 : Int32))], [.ref (107 : Nat)]) (zi_H L xs 115 111 141) = _
  refine (zz_go 2 (fr' := (zm_S_init, d + 8, 105, [some (.ref (104 : Nat)), some (.int (4 : Int32))], [.int (-1 : Int32), .int (4 : Int32), .ref (107 : Nat)])) (h' := (zi_H L xs 115 111 141)) (fun _ => rfl)).trans ?_
  refine zi_ast (i := 4) rfl rfl (by decide) (by decide) rfl rfl ?_
  refine (zz_go 6 (fr' := (zm_S_init, d + 8, 93, [some (.ref (104 : Nat)), some (.int (5 : Int32))], [.ref (104 : Nat)])) (h' := (zi_H L xs 115 111 142)) (fun _ => rfl)).trans ?_
  refine zl_getR (r := 106) rfl rfl rfl ?_
  show zz_D (zm_S_init, d + 8, 96, [some (.ref (104 : Nat)), some (.int (5 : Int32))], [.ref (106 : Nat)]) (zi_H L xs 115 111 142) = _
  refine (zz_go 2 (fr' := (zm_S_init, d + 8, 98, [some (.ref (104 : Nat)), some (.int (5 : Int32))], [.int (5 : Int32), .int (5 : Int32), .ref (106 : Nat)])) (h' := (zi_H L xs 115 111 142)) (fun _ => rfl)).trans ?_
  refine zi_ast (i := 5) rfl rfl (by decide) (by decide) rfl rfl ?_
  refine (zz_go 1 (fr' := (zm_S_init, d + 8, 100, [some (.ref (104 : Nat)), some (.int (5 : Int32))], [.ref (104 : Nat)])) (h' := (zi_H L xs 115 111 143)) (fun _ => rfl)).trans ?_
  refine zl_getR (r := 107) rfl rfl rfl ?_
  show zz_D (zm_S_init, d + 8, 103, [some (.ref (104 : Nat)), some (.int (5 : Int32))], [.ref (107 : Nat)]) (zi_H L xs 115 111 143) = _
  refine (zz_go 2 (fr' := (zm_S_init, d + 8, 105, [some (.ref (104 : Nat)), some (.int (5 : Int32))], [.int (-1 : Int32), .int (5 : Int32), .ref (107 : Nat)])) (h' := (zi_H L xs 115 111 143)) (fun _ => rfl)).trans ?_
  refine zi_ast (i := 5) rfl rfl (by decide) (by decide) rfl rfl ?_
  refine (zz_go 6 (fr' := (zm_S_init, d + 8, 93, [some (.ref (104 : Nat)), some (.int (6 : Int32))], [.ref (104 : Nat)])) (h' := (zi_H L xs 115 111 144)) (fun _ => rfl)).trans ?_
  refine zl_getR (r := 106) rfl rfl rfl ?_
  show zz_D (zm_S_init, d + 8, 96, [some (.ref (104 : Nat)), some (.int (6 : Int32))], [.ref (106 : Nat)]) (zi_H L xs 115 111 144) = _
  refine (zz_go 2 (fr' := (zm_S_init, d + 8, 98, [some (.ref (104 : Nat)), some (.int (6 : Int32))], [.int (6 : Int32), .int (6 : Int32), .ref (106 : Nat)])) (h' := (zi_H L xs 115 111 144)) (fun _ => rfl)).trans ?_
  refine zi_ast (i := 6) rfl rfl (by decide) (by decide) rfl rfl ?_
  refine (zz_go 1 (fr' := (zm_S_init, d + 8, 100, [some (.ref (104 : Nat)), some (.int (6 : Int32))], [.ref (104 : Nat)])) (h' := (zi_H L xs 115 111 145)) (fun _ => rfl)).trans ?_
  refine zl_getR (r := 107) rfl rfl rfl ?_
  show zz_D (zm_S_init, d + 8, 103, [some (.ref (104 : Nat)), some (.int (6 : Int32))], [.ref (107 : Nat)]) (zi_H L xs 115 111 145) = _
  refine (zz_go 2 (fr' := (zm_S_init, d + 8, 105, [some (.ref (104 : Nat)), some (.int (6 : Int32))], [.int (-1 : Int32), .int (6 : Int32), .ref (107 : Nat)])) (h' := (zi_H L xs 115 111 145)) (fun _ => rfl)).trans ?_
  refine zi_ast (i := 6) rfl rfl (by decide) (by decide) rfl rfl ?_
  refine (zz_go 6 (fr' := (zm_S_init, d + 8, 93, [some (.ref (104 : Nat)), some (.int (7 : Int32))], [.ref (104 : Nat)])) (h' := (zi_H L xs 115 111 146)) (fun _ => rfl)).trans ?_
  refine zl_getR (r := 106) rfl rfl rfl ?_
  show zz_D (zm_S_init, d + 8, 96, [some (.ref (104 : Nat)), some (.int (7 : Int32))], [.ref (106 : Nat)]) (zi_H L xs 115 111 146) = _
  refine (zz_go 2 (fr' := (zm_S_init, d + 8, 98, [some (.ref (104 : Nat)), some (.int (7 : Int32))], [.int (7 : Int32), .int (7 : Int32), .ref (106 : Nat)])) (h' := (zi_H L xs 115 111 146)) (fun _ => rfl)).trans ?_
  refine zi_ast (i := 7) rfl rfl (by decide) (by decide) rfl rfl ?_
  refine (zz_go 1 (fr' := (zm_S_init, d + 8, 100, [some (.ref (104 : Nat)), some (.int (7 : Int32))], [.ref (104 : Nat)])) (h' := (zi_H L xs 115 111 147)) (fun _ => rfl)).trans ?_
  refine zl_getR (r := 107) rfl rfl rfl ?_
  show zz_D (zm_S_init, d + 8, 103, [some (.ref (104 : Nat)), some (.int (7 : Int32))], [.ref (107 : Nat)]) (zi_H L xs 115 111 147) = _
  refine (zz_go 2 (fr' := (zm_S_init, d + 8, 105, [some (.ref (104 : Nat)), some (.int (7 : Int32))], [.int (-1 : Int32), .int (7 : Int32), .ref (107 : Nat)])) (h' := (zi_H L xs 115 111 147)) (fun _ => rfl)).trans ?_
  refine zi_ast (i := 7) rfl rfl (by decide) (by decide) rfl rfl ?_
  refine (zz_go 7 (fr' := (zm_S_init, d + 8, 115, [some (.ref (104 : Nat)), some (.int (8 : Int32))], [.int (100 : Int32), .ref (104 : Nat)])) (h' := (zi_H L xs 115 111 148)) (fun _ => rfl)).trans ?_
  refine zi_putI rfl rfl rfl rfl rfl ?_
  refine (zz_go 2 (fr' := (zm_S_init, d + 8, 120, [some (.ref (104 : Nat)), some (.int (8 : Int32))], [.int (1 : Int32), .ref (104 : Nat)])) (h' := (zi_H L xs 115 111 149)) (fun _ => rfl)).trans ?_
  refine zi_putI rfl rfl rfl rfl rfl ?_
  exact zz_end 1 (fun _ => rfl)
set_option maxRecDepth 40000 in
theorem ic_13 (L : Nat) (xs : Nat → Int32) (d : Nat) : zz_D (zm_S_init, d + 8, 0, [some (.ref (115 : Nat)), none], []) (zi_H L xs 116 112 150) = some (.inl none, (zi_H L xs 126 122 168)) := by
  refine (zz_go 4 (fr' := (zm_S_init, d + 8, 7, [some (.ref (115 : Nat)), none], [.int (8 : Int32), .ref (115 : Nat)])) (h' := (zi_H L xs 116 112 150)) (fun _ => rfl)).trans ?_
  refine zi_newa (c := 8) rfl rfl rfl rfl rfl rfl rfl ?_
  refine zi_putR rfl rfl rfl rfl ?_
  refine (zz_go 2 (fr' := (zm_S_init, d + 8, 15, [some (.ref (115 : Nat)), none], [.int (8 : Int32), .ref (115 : Nat)])) (h' := (zi_H L xs 117 113 150)) (fun _ => rfl)).trans ?_
  refine zi_newa (c := 8) rfl rfl rfl rfl rfl rfl rfl ?_
  refine zi_putR rfl rfl rfl rfl ?_
  refine (zz_go 2 (fr' := (zm_S_init, d + 8, 23, [some (.ref (115 : Nat)), none], [.int (8 : Int32), .ref (115 : Nat)])) (h' := (zi_H L xs 118 114 150)) (fun _ => rfl)).trans ?_
  refine zi_newa (c := 8) rfl rfl rfl rfl rfl rfl rfl ?_
  refine zi_putR rfl rfl rfl rfl ?_
  refine (zz_go 2 (fr' := (zm_S_init, d + 8, 31, [some (.ref (115 : Nat)), none], [.int (6 : Int32), .ref (115 : Nat)])) (h' := (zi_H L xs 119 115 150)) (fun _ => rfl)).trans ?_
  refine zi_newa (c := 6) rfl rfl rfl rfl rfl rfl rfl ?_
  refine zi_putR rfl rfl rfl rfl ?_
  refine (zz_go 2 (fr' := (zm_S_init, d + 8, 39, [some (.ref (115 : Nat)), none], [.int (6 : Int32), .ref (115 : Nat)])) (h' := (zi_H L xs 120 116 150)) (fun _ => rfl)).trans ?_
  refine zi_newa (c := 6) rfl rfl rfl rfl rfl rfl rfl ?_
  refine zi_putR rfl rfl rfl rfl ?_
  refine (zz_go 2 (fr' := (zm_S_init, d + 8, 47, [some (.ref (115 : Nat)), none], [.int (6 : Int32), .ref (115 : Nat)])) (h' := (zi_H L xs 121 117 150)) (fun _ => rfl)).trans ?_
  refine zi_newa (c := 6) rfl rfl rfl rfl rfl rfl rfl ?_
  refine zi_putR rfl rfl rfl rfl ?_
  refine (zz_go 2 (fr' := (zm_S_init, d + 8, 55, [some (.ref (115 : Nat)), none], [.int (6 : Int32), .ref (115 : Nat)])) (h' := (zi_H L xs 122 118 150)) (fun _ => rfl)).trans ?_
  refine zi_newa (c := 6) rfl rfl rfl rfl rfl rfl rfl ?_
  refine zi_putR rfl rfl rfl rfl ?_
  refine (zz_go 2 (fr' := (zm_S_init, d + 8, 63, [some (.ref (115 : Nat)), none], [.int (6 : Int32), .ref (115 : Nat)])) (h' := (zi_H L xs 123 119 150)) (fun _ => rfl)).trans ?_
  refine zi_newa (c := 6) rfl rfl rfl rfl rfl rfl rfl ?_
  refine zi_putR rfl rfl rfl rfl ?_
  refine (zz_go 2 (fr' := (zm_S_init, d + 8, 71, [some (.ref (115 : Nat)), none], [.int (6 : Int32), .ref (115 : Nat)])) (h' := (zi_H L xs 124 120 150)) (fun _ => rfl)).trans ?_
  refine zi_newa (c := 6) rfl rfl rfl rfl rfl rfl rfl ?_
  refine zi_putR rfl rfl rfl rfl ?_
  refine (zz_go 2 (fr' := (zm_S_init, d + 8, 79, [some (.ref (115 : Nat)), none], [.int (60 : Int32), .ref (115 : Nat)])) (h' := (zi_H L xs 125 121 150)) (fun _ => rfl)).trans ?_
  refine zi_newa (c := 60) rfl rfl rfl rfl rfl rfl rfl ?_
  refine zi_putR rfl rfl rfl rfl ?_
  refine (zz_go 6 (fr' := (zm_S_init, d + 8, 93, [some (.ref (115 : Nat)), some (.int (0 : Int32))], [.ref (115 : Nat)])) (h' := (zi_H L xs 126 122 150)) (fun _ => rfl)).trans ?_
  refine zl_getR (r := 117) rfl rfl rfl ?_
  show zz_D (zm_S_init, d + 8, 96, [some (.ref (115 : Nat)), some (.int (0 : Int32))], [.ref (117 : Nat)]) (zi_H L xs 126 122 150) = _
  refine (zz_go 2 (fr' := (zm_S_init, d + 8, 98, [some (.ref (115 : Nat)), some (.int (0 : Int32))], [.int (0 : Int32), .int (0 : Int32), .ref (117 : Nat)])) (h' := (zi_H L xs 126 122 150)) (fun _ => rfl)).trans ?_
  refine zi_ast (i := 0) rfl rfl (by decide) (by decide) rfl rfl ?_
  refine (zz_go 1 (fr' := (zm_S_init, d + 8, 100, [some (.ref (115 : Nat)), some (.int (0 : Int32))], [.ref (115 : Nat)])) (h' := (zi_H L xs 126 122 151)) (fun _ => rfl)).trans ?_
  refine zl_getR (r := 118) rfl rfl rfl ?_
  show zz_D (zm_S_init, d + 8, 103, [some (.ref (115 : Nat)), some (.int (0 : Int32))], [.ref (118 : Nat)]) (zi_H L xs 126 122 151) = _
  refine (zz_go 2 (fr' := (zm_S_init, d + 8, 105, [some (.ref (115 : Nat)), some (.int (0 : Int32))], [.int (-1 : Int32), .int (0 : Int32), .ref (118 : Nat)])) (h' := (zi_H L xs 126 122 151)) (fun _ => rfl)).trans ?_
  refine zi_ast (i := 0) rfl rfl (by decide) (by decide) rfl rfl ?_
  refine (zz_go 6 (fr' := (zm_S_init, d + 8, 93, [some (.ref (115 : Nat)), some (.int (1 : Int32))], [.ref (115 : Nat)])) (h' := (zi_H L xs 126 122 152)) (fun _ => rfl)).trans ?_
  refine zl_getR (r := 117) rfl rfl rfl ?_
  show zz_D (zm_S_init, d + 8, 96, [some (.ref (115 : Nat)), some (.int (1 : Int32))], [.ref (117 : Nat)]) (zi_H L xs 126 122 152) = _
  refine (zz_go 2 (fr' := (zm_S_init, d + 8, 98, [some (.ref (115 : Nat)), some (.int (1 : Int32))], [.int (1 : Int32), .int (1 : Int32), .ref (117 : Nat)])) (h' := (zi_H L xs 126 122 152)) (fun _ => rfl)).trans ?_
  refine zi_ast (i := 1) rfl rfl (by decide) (by decide) rfl rfl ?_
  refine (zz_go 1 (fr' := (zm_S_init, d + 8, 100, [some (.ref (115 : Nat)), some (.int (1 : Int32))], [.ref (115 : Nat)])) (h' := (zi_H L xs 126 122 153)) (fun _ => rfl)).trans ?_
  refine zl_getR (r := 118) rfl rfl rfl ?_
  show zz_D (zm_S_init, d + 8, 103, [some (.ref (115 : Nat)), some (.int (1 : Int32))], [.ref (118 : Nat)]) (zi_H L xs 126 122 153) = _
  refine (zz_go 2 (fr' := (zm_S_init, d + 8, 105, [some (.ref (115 : Nat)), some (.int (1 : Int32))], [.int (-1 : Int32), .int (1 : Int32), .ref (118 : Nat)])) (h' := (zi_H L xs 126 122 153)) (fun _ => rfl)).trans ?_
  refine zi_ast (i := 1) rfl rfl (by decide) (by decide) rfl rfl ?_
  refine (zz_go 6 (fr' := (zm_S_init, d + 8, 93, [some (.ref (115 : Nat)), some (.int (2 : Int32))], [.ref (115 : Nat)])) (h' := (zi_H L xs 126 122 154)) (fun _ => rfl)).trans ?_
  refine zl_getR (r := 117) rfl rfl rfl ?_
  show zz_D (zm_S_init, d + 8, 96, [some (.ref (115 : Nat)), some (.int (2 : Int32))], [.ref (117 : Nat)]) (zi_H L xs 126 122 154) = _
  refine (zz_go 2 (fr' := (zm_S_init, d + 8, 98, [some (.ref (115 : Nat)), some (.int (2 : Int32))], [.int (2 : Int32), .int (2 : Int32), .ref (117 : Nat)])) (h' := (zi_H L xs 126 122 154)) (fun _ => rfl)).trans ?_
  refine zi_ast (i := 2) rfl rfl (by decide) (by decide) rfl rfl ?_
  refine (zz_go 1 (fr' := (zm_S_init, d + 8, 100, [some (.ref (115 : Nat)), some (.int (2 : Int32))], [.ref (115 : Nat)])) (h' := (zi_H L xs 126 122 155)) (fun _ => rfl)).trans ?_
  refine zl_getR (r := 118) rfl rfl rfl ?_
  show zz_D (zm_S_init, d + 8, 103, [some (.ref (115 : Nat)), some (.int (2 : Int32))], [.ref (118 : Nat)]) (zi_H L xs 126 122 155) = _
  refine (zz_go 2 (fr' := (zm_S_init, d + 8, 105, [some (.ref (115 : Nat)), some (.int (2 : Int32))], [.int (-1 : Int32), .int (2 : Int32), .ref (118 : Nat)])) (h' := (zi_H L xs 126 122 155)) (fun _ => rfl)).trans ?_
  refine zi_ast (i := 2) rfl rfl (by decide) (by decide) rfl rfl ?_
  refine (zz_go 6 (fr' := (zm_S_init, d + 8, 93, [some (.ref (115 : Nat)), some (.int (3 : Int32))], [.ref (115 : Nat)])) (h' := (zi_H L xs 126 122 156)) (fun _ => rfl)).trans ?_
  refine zl_getR (r := 117) rfl rfl rfl ?_
  show zz_D (zm_S_init, d + 8, 96, [some (.ref (115 : Nat)), some (.int (3 : Int32))], [.ref (117 : Nat)]) (zi_H L xs 126 122 156) = _
  refine (zz_go 2 (fr' := (zm_S_init, d + 8, 98, [some (.ref (115 : Nat)), some (.int (3 : Int32))], [.int (3 : Int32), .int (3 : Int32), .ref (117 : Nat)])) (h' := (zi_H L xs 126 122 156)) (fun _ => rfl)).trans ?_
  refine zi_ast (i := 3) rfl rfl (by decide) (by decide) rfl rfl ?_
  refine (zz_go 1 (fr' := (zm_S_init, d + 8, 100, [some (.ref (115 : Nat)), some (.int (3 : Int32))], [.ref (115 : Nat)])) (h' := (zi_H L xs 126 122 157)) (fun _ => rfl)).trans ?_
  refine zl_getR (r := 118) rfl rfl rfl ?_
  show zz_D (zm_S_init, d + 8, 103, [some (.ref (115 : Nat)), some (.int (3 : Int32))], [.ref (118 : Nat)]) (zi_H L xs 126 122 157) = _
  refine (zz_go 2 (fr' := (zm_S_init, d + 8, 105, [some (.ref (115 : Nat)), some (.int (3 : Int32))], [.int (-1 : Int32), .int (3 : Int32), .ref (118 : Nat)])) (h' := (zi_H L xs 126 122 157)) (fun _ => rfl)).trans ?_
  refine zi_ast (i := 3) rfl rfl (by decide) (by decide) rfl rfl ?_
  refine (zz_go 6 (fr' := (zm_S_init, d + 8, 93, [some (.ref (115 : Nat)), some (.int (4 : Int32))], [.ref (115 : Nat)])) (h' := (zi_H L xs 126 122 158)) (fun _ => rfl)).trans ?_
  refine zl_getR (r := 117) rfl rfl rfl ?_
  show zz_D (zm_S_init, d + 8, 96, [some (.ref (115 : Nat)), some (.int (4 : Int32))], [.ref (117 : Nat)]) (zi_H L xs 126 122 158) = _
  refine (zz_go 2 (fr' := (zm_S_init, d + 8, 98, [some (.ref (115 : Nat)), some (.int (4 : Int32))], [.int (4 : Int32), .int (4 : Int32), .ref (117 : Nat)])) (h' := (zi_H L xs 126 122 158)) (fun _ => rfl)).trans ?_
  refine zi_ast (i := 4) rfl rfl (by decide) (by decide) rfl rfl ?_
  refine (zz_go 1 (fr' := (zm_S_init, d + 8, 100, [some (.ref (115 : Nat)), some (.int (4 : Int32))], [.ref (115 : Nat)])) (h' := (zi_H L xs 126 122 159)) (fun _ => rfl)).trans ?_
  refine zl_getR (r := 118) rfl rfl rfl ?_
  show zz_D (zm_S_init, d + 8, 103, [some (.ref (115 : Nat)), some (.int (4 : Int32))], [.ref (118 : Nat)]) (zi_H L xs 126 122 159) = _
  refine (zz_go 2 (fr' := (zm_S_init, d + 8, 105, [some (.ref (115 : Nat)), some (.int (4 : Int32))], [.int (-1 : Int32), .int (4 : Int32), .ref (118 : Nat)])) (h' := (zi_H L xs 126 122 159)) (fun _ => rfl)).trans ?_
  refine zi_ast (i := 4) rfl rfl (by decide) (by decide) rfl rfl ?_
  refine (zz_go 6 (fr' := (zm_S_init, d + 8, 93, [some (.ref (115 : Nat)), some (.int (5 : Int32))], [.ref (115 : Nat)])) (h' := (zi_H L xs 126 122 160)) (fun _ => rfl)).trans ?_
  refine zl_getR (r := 117) rfl rfl rfl ?_
  show zz_D (zm_S_init, d + 8, 96, [some (.ref (115 : Nat)), some (.int (5 : Int32))], [.ref (117 : Nat)]) (zi_H L xs 126 122 160) = _
  refine (zz_go 2 (fr' := (zm_S_init, d + 8, 98, [some (.ref (115 : Nat)), some (.int (5 : Int32))], [.int (5 : Int32), .int (5 : Int32), .ref (117 : Nat)])) (h' := (zi_H L xs 126 122 160)) (fun _ => rfl)).trans ?_
  refine zi_ast (i := 5) rfl rfl (by decide) (by decide) rfl rfl ?_
  refine (zz_go 1 (fr' := (zm_S_init, d + 8, 100, [some (.ref (115 : Nat)), some (.int (5 : Int32))], [.ref (115 : Nat)])) (h' := (zi_H L xs 126 122 161)) (fun _ => rfl)).trans ?_
  refine zl_getR (r := 118) rfl rfl rfl ?_
  show zz_D (zm_S_init, d + 8, 103, [some (.ref (115 : Nat)), some (.int (5 : Int32))], [.ref (118 : Nat)]) (zi_H L xs 126 122 161) = _
  refine (zz_go 2 (fr' := (zm_S_init, d + 8, 105, [some (.ref (115 : Nat)), some (.int (5 : Int32))], [.int (-1 : Int32), .int (5 : Int32), .ref (118 : Nat)])) (h' := (zi_H L xs 126 122 161)) (fun _ => rfl)).trans ?_
  refine zi_ast (i := 5) rfl rfl (by decide) (by decide) rfl rfl ?_
  refine (zz_go 6 (fr' := (zm_S_init, d + 8, 93, [some (.ref (115 : Nat)), some (.int (6 : Int32))], [.ref (115 : Nat)])) (h' := (zi_H L xs 126 122 162)) (fun _ => rfl)).trans ?_
  refine zl_getR (r := 117) rfl rfl rfl ?_
  show zz_D (zm_S_init, d + 8, 96, [some (.ref (115 : Nat)), some (.int (6 : Int32))], [.ref (117 : Nat)]) (zi_H L xs 126 122 162) = _
  refine (zz_go 2 (fr' := (zm_S_init, d + 8, 98, [some (.ref (115 : Nat)), some (.int (6 : Int32))], [.int (6 : Int32), .int (6 : Int32), .ref (117 : Nat)])) (h' := (zi_H L xs 126 122 162)) (fun _ => rfl)).trans ?_
  refine zi_ast (i := 6) rfl rfl (by decide) (by decide) rfl rfl ?_
  refine (zz_go 1 (fr' := (zm_S_init, d + 8, 100, [some (.ref (115 : Nat)), some (.int (6 : Int32))], [.ref (115 : Nat)])) (h' := (zi_H L xs 126 122 163)) (fun _ => rfl)).trans ?_
  refine zl_getR (r := 118) rfl rfl rfl ?_
  show zz_D (zm_S_init, d + 8, 103, [some (.ref (115 : Nat)), some (.int (6 : Int32))], [.ref (118 : Nat)]) (zi_H L xs 126 122 163) = _
  refine (zz_go 2 (fr' := (zm_S_init, d + 8, 105, [some (.ref (115 : Nat)), some (.int (6 : Int32))], [.int (-1 : Int32), .int (6 : Int32), .ref (118 : Nat)])) (h' := (zi_H L xs 126 122 163)) (fun _ => rfl)).trans ?_
  refine zi_ast (i := 6) rfl rfl (by decide) (by decide) rfl rfl ?_
  refine (zz_go 6 (fr' := (zm_S_init, d + 8, 93, [some (.ref (115 : Nat)), some (.int (7 : Int32))], [.ref (115 : Nat)])) (h' := (zi_H L xs 126 122 164)) (fun _ => rfl)).trans ?_
  refine zl_getR (r := 117) rfl rfl rfl ?_
  show zz_D (zm_S_init, d + 8, 96, [some (.ref (115 : Nat)), some (.int (7 : Int32))], [.ref (117 : Nat)]) (zi_H L xs 126 122 164) = _
  refine (zz_go 2 (fr' := (zm_S_init, d + 8, 98, [some (.ref (115 : Nat)), some (.int (7 : Int32))], [.int (7 : Int32), .int (7 : Int32), .ref (117 : Nat)])) (h' := (zi_H L xs 126 122 164)) (fun _ => rfl)).trans ?_
  refine zi_ast (i := 7) rfl rfl (by decide) (by decide) rfl rfl ?_
  refine (zz_go 1 (fr' := (zm_S_init, d + 8, 100, [some (.ref (115 : Nat)), some (.int (7 : Int32))], [.ref (115 : Nat)])) (h' := (zi_H L xs 126 122 165)) (fun _ => rfl)).trans ?_
  refine zl_getR (r := 118) rfl rfl rfl ?_
  show zz_D (zm_S_init, d + 8, 103, [some (.ref (115 : Nat)), some (.int (7 : Int32))], [.ref (118 : Nat)]) (zi_H L xs 126 122 165) = _
  refine (zz_go 2 (fr' := (zm_S_init, d + 8, 105, [some (.ref (115 : Nat)), some (.int (7 : Int32))], [.int (-1 : Int32), .int (7 : Int32), .ref (118 : Nat)])) (h' := (zi_H L xs 126 122 165)) (fun _ => rfl)).trans ?_
  refine zi_ast (i := 7) rfl rfl (by decide) (by decide) rfl rfl ?_
  refine (zz_go 7 (fr' := (zm_S_init, d + 8, 115, [some (.ref (115 : Nat)), some (.int (8 : Int32))], [.int (100 : Int32), .ref (115 : Nat)])) (h' := (zi_H L xs 126 122 166)) (fun _ => rfl)).trans ?_
  refine zi_putI rfl rfl rfl rfl rfl ?_
  refine (zz_go 2 (fr' := (zm_S_init, d + 8, 120, [some (.ref (115 : Nat)), some (.int (8 : Int32))], [.int (1 : Int32), .ref (115 : Nat)])) (h' := (zi_H L xs 126 122 167)) (fun _ => rfl)).trans ?_
  refine zi_putI rfl rfl rfl rfl rfl ?_
  exact zz_end 1 (fun _ => rfl)
set_option maxRecDepth 40000 in
theorem ic_14 (L : Nat) (xs : Nat → Int32) (d : Nat) : zz_D (zm_S_init, d + 8, 0, [some (.ref (126 : Nat)), none], []) (zi_H L xs 127 123 168) = some (.inl none, (zi_H L xs 137 133 186)) := by
  refine (zz_go 4 (fr' := (zm_S_init, d + 8, 7, [some (.ref (126 : Nat)), none], [.int (8 : Int32), .ref (126 : Nat)])) (h' := (zi_H L xs 127 123 168)) (fun _ => rfl)).trans ?_
  refine zi_newa (c := 8) rfl rfl rfl rfl rfl rfl rfl ?_
  refine zi_putR rfl rfl rfl rfl ?_
  refine (zz_go 2 (fr' := (zm_S_init, d + 8, 15, [some (.ref (126 : Nat)), none], [.int (8 : Int32), .ref (126 : Nat)])) (h' := (zi_H L xs 128 124 168)) (fun _ => rfl)).trans ?_
  refine zi_newa (c := 8) rfl rfl rfl rfl rfl rfl rfl ?_
  refine zi_putR rfl rfl rfl rfl ?_
  refine (zz_go 2 (fr' := (zm_S_init, d + 8, 23, [some (.ref (126 : Nat)), none], [.int (8 : Int32), .ref (126 : Nat)])) (h' := (zi_H L xs 129 125 168)) (fun _ => rfl)).trans ?_
  refine zi_newa (c := 8) rfl rfl rfl rfl rfl rfl rfl ?_
  refine zi_putR rfl rfl rfl rfl ?_
  refine (zz_go 2 (fr' := (zm_S_init, d + 8, 31, [some (.ref (126 : Nat)), none], [.int (6 : Int32), .ref (126 : Nat)])) (h' := (zi_H L xs 130 126 168)) (fun _ => rfl)).trans ?_
  refine zi_newa (c := 6) rfl rfl rfl rfl rfl rfl rfl ?_
  refine zi_putR rfl rfl rfl rfl ?_
  refine (zz_go 2 (fr' := (zm_S_init, d + 8, 39, [some (.ref (126 : Nat)), none], [.int (6 : Int32), .ref (126 : Nat)])) (h' := (zi_H L xs 131 127 168)) (fun _ => rfl)).trans ?_
  refine zi_newa (c := 6) rfl rfl rfl rfl rfl rfl rfl ?_
  refine zi_putR rfl rfl rfl rfl ?_
  refine (zz_go 2 (fr' := (zm_S_init, d + 8, 47, [some (.ref (126 : Nat)), none], [.int (6 : Int32), .ref (126 : Nat)])) (h' := (zi_H L xs 132 128 168)) (fun _ => rfl)).trans ?_
  refine zi_newa (c := 6) rfl rfl rfl rfl rfl rfl rfl ?_
  refine zi_putR rfl rfl rfl rfl ?_
  refine (zz_go 2 (fr' := (zm_S_init, d + 8, 55, [some (.ref (126 : Nat)), none], [.int (6 : Int32), .ref (126 : Nat)])) (h' := (zi_H L xs 133 129 168)) (fun _ => rfl)).trans ?_
  refine zi_newa (c := 6) rfl rfl rfl rfl rfl rfl rfl ?_
  refine zi_putR rfl rfl rfl rfl ?_
  refine (zz_go 2 (fr' := (zm_S_init, d + 8, 63, [some (.ref (126 : Nat)), none], [.int (6 : Int32), .ref (126 : Nat)])) (h' := (zi_H L xs 134 130 168)) (fun _ => rfl)).trans ?_
  refine zi_newa (c := 6) rfl rfl rfl rfl rfl rfl rfl ?_
  refine zi_putR rfl rfl rfl rfl ?_
  refine (zz_go 2 (fr' := (zm_S_init, d + 8, 71, [some (.ref (126 : Nat)), none], [.int (6 : Int32), .ref (126 : Nat)])) (h' := (zi_H L xs 135 131 168)) (fun _ => rfl)).trans ?_
  refine zi_newa (c := 6) rfl rfl rfl rfl rfl rfl rfl ?_
  refine zi_putR rfl rfl rfl rfl ?_
  refine (zz_go 2 (fr' := (zm_S_init, d + 8, 79, [some (.ref (126 : Nat)), none], [.int (60 : Int32), .ref (126 : Nat)])) (h' := (zi_H L xs 136 132 168)) (fun _ => rfl)).trans ?_
  refine zi_newa (c := 60) rfl rfl rfl rfl rfl rfl rfl ?_
  refine zi_putR rfl rfl rfl rfl ?_
  refine (zz_go 6 (fr' := (zm_S_init, d + 8, 93, [some (.ref (126 : Nat)), some (.int (0 : Int32))], [.ref (126 : Nat)])) (h' := (zi_H L xs 137 133 168)) (fun _ => rfl)).trans ?_
  refine zl_getR (r := 128) rfl rfl rfl ?_
  show zz_D (zm_S_init, d + 8, 96, [some (.ref (126 : Nat)), some (.int (0 : Int32))], [.ref (128 : Nat)]) (zi_H L xs 137 133 168) = _
  refine (zz_go 2 (fr' := (zm_S_init, d + 8, 98, [some (.ref (126 : Nat)), some (.int (0 : Int32))], [.int (0 : Int32), .int (0 : Int32), .ref (128 : Nat)])) (h' := (zi_H L xs 137 133 168)) (fun _ => rfl)).trans ?_
  refine zi_ast (i := 0) rfl rfl (by decide) (by decide) rfl rfl ?_
  refine (zz_go 1 (fr' := (zm_S_init, d + 8, 100, [some (.ref (126 : Nat)), some (.int (0 : Int32))], [.ref (126 : Nat)])) (h' := (zi_H L xs 137 133 169)) (fun _ => rfl)).trans ?_
  refine zl_getR (r := 129) rfl rfl rfl ?_
  show zz_D (zm_S_init, d + 8, 103, [some (.ref (126 : Nat)), some (.int (0 : Int32))], [.ref (129 : Nat)]) (zi_H L xs 137 133 169) = _
  refine (zz_go 2 (fr' := (zm_S_init, d + 8, 105, [some (.ref (126 : Nat)), some (.int (0 : Int32))], [.int (-1 : Int32), .int (0 : Int32), .ref (129 : Nat)])) (h' := (zi_H L xs 137 133 169)) (fun _ => rfl)).trans ?_
  refine zi_ast (i := 0) rfl rfl (by decide) (by decide) rfl rfl ?_
  refine (zz_go 6 (fr' := (zm_S_init, d + 8, 93, [some (.ref (126 : Nat)), some (.int (1 : Int32))], [.ref (126 : Nat)])) (h' := (zi_H L xs 137 133 170)) (fun _ => rfl)).trans ?_
  refine zl_getR (r := 128) rfl rfl rfl ?_
  show zz_D (zm_S_init, d + 8, 96, [some (.ref (126 : Nat)), some (.int (1 : Int32))], [.ref (128 : Nat)]) (zi_H L xs 137 133 170) = _
  refine (zz_go 2 (fr' := (zm_S_init, d + 8, 98, [some (.ref (126 : Nat)), some (.int (1 : Int32))], [.int (1 : Int32), .int (1 : Int32), .ref (128 : Nat)])) (h' := (zi_H L xs 137 133 170)) (fun _ => rfl)).trans ?_
  refine zi_ast (i := 1) rfl rfl (by decide) (by decide) rfl rfl ?_
  refine (zz_go 1 (fr' := (zm_S_init, d + 8, 100, [some (.ref (126 : Nat)), some (.int (1 : Int32))], [.ref (126 : Nat)])) (h' := (zi_H L xs 137 133 171)) (fun _ => rfl)).trans ?_
  refine zl_getR (r := 129) rfl rfl rfl ?_
  show zz_D (zm_S_init, d + 8, 103, [some (.ref (126 : Nat)), some (.int (1 : Int32))], [.ref (129 : Nat)]) (zi_H L xs 137 133 171) = _
  refine (zz_go 2 (fr' := (zm_S_init, d + 8, 105, [some (.ref (126 : Nat)), some (.int (1 : Int32))], [.int (-1 : Int32), .int (1 : Int32), .ref (129 : Nat)])) (h' := (zi_H L xs 137 133 171)) (fun _ => rfl)).trans ?_
  refine zi_ast (i := 1) rfl rfl (by decide) (by decide) rfl rfl ?_
  refine (zz_go 6 (fr' := (zm_S_init, d + 8, 93, [some (.ref (126 : Nat)), some (.int (2 : Int32))], [.ref (126 : Nat)])) (h' := (zi_H L xs 137 133 172)) (fun _ => rfl)).trans ?_
  refine zl_getR (r := 128) rfl rfl rfl ?_
  show zz_D (zm_S_init, d + 8, 96, [some (.ref (126 : Nat)), some (.int (2 : Int32))], [.ref (128 : Nat)]) (zi_H L xs 137 133 172) = _
  refine (zz_go 2 (fr' := (zm_S_init, d + 8, 98, [some (.ref (126 : Nat)), some (.int (2 : Int32))], [.int (2 : Int32), .int (2 : Int32), .ref (128 : Nat)])) (h' := (zi_H L xs 137 133 172)) (fun _ => rfl)).trans ?_
  refine zi_ast (i := 2) rfl rfl (by decide) (by decide) rfl rfl ?_
  refine (zz_go 1 (fr' := (zm_S_init, d + 8, 100, [some (.ref (126 : Nat)), some (.int (2 : Int32))], [.ref (126 : Nat)])) (h' := (zi_H L xs 137 133 173)) (fun _ => rfl)).trans ?_
  refine zl_getR (r := 129) rfl rfl rfl ?_
  show zz_D (zm_S_init, d + 8, 103, [some (.ref (126 : Nat)), some (.int (2 : Int32))], [.ref (129 : Nat)]) (zi_H L xs 137 133 173) = _
  refine (zz_go 2 (fr' := (zm_S_init, d + 8, 105, [some (.ref (126 : Nat)), some (.int (2 : Int32))], [.int (-1 : Int32), .int (2 : Int32), .ref (129 : Nat)])) (h' := (zi_H L xs 137 133 173)) (fun _ => rfl)).trans ?_
  refine zi_ast (i := 2) rfl rfl (by decide) (by decide) rfl rfl ?_
  refine (zz_go 6 (fr' := (zm_S_init, d + 8, 93, [some (.ref (126 : Nat)), some (.int (3 : Int32))], [.ref (126 : Nat)])) (h' := (zi_H L xs 137 133 174)) (fun _ => rfl)).trans ?_
  refine zl_getR (r := 128) rfl rfl rfl ?_
  show zz_D (zm_S_init, d + 8, 96, [some (.ref (126 : Nat)), some (.int (3 : Int32))], [.ref (128 : Nat)]) (zi_H L xs 137 133 174) = _
  refine (zz_go 2 (fr' := (zm_S_init, d + 8, 98, [some (.ref (126 : Nat)), some (.int (3 : Int32))], [.int (3 : Int32), .int (3 : Int32), .ref (128 : Nat)])) (h' := (zi_H L xs 137 133 174)) (fun _ => rfl)).trans ?_
  refine zi_ast (i := 3) rfl rfl (by decide) (by decide) rfl rfl ?_
  refine (zz_go 1 (fr' := (zm_S_init, d + 8, 100, [some (.ref (126 : Nat)), some (.int (3 : Int32))], [.ref (126 : Nat)])) (h' := (zi_H L xs 137 133 175)) (fun _ => rfl)).trans ?_
  refine zl_getR (r := 129) rfl rfl rfl ?_
  show zz_D (zm_S_init, d + 8, 103, [some (.ref (126 : Nat)), some (.int (3 : Int32))], [.ref (129 : Nat)]) (zi_H L xs 137 133 175) = _
  refine (zz_go 2 (fr' := (zm_S_init, d + 8, 105, [some (.ref (126 : Nat)), some (.int (3 : Int32))], [.int (-1 : Int32), .int (3 : Int32), .ref (129 : Nat)])) (h' := (zi_H L xs 137 133 175)) (fun _ => rfl)).trans ?_
  refine zi_ast (i := 3) rfl rfl (by decide) (by decide) rfl rfl ?_
  refine (zz_go 6 (fr' := (zm_S_init, d + 8, 93, [some (.ref (126 : Nat)), some (.int (4 : Int32))], [.ref (126 : Nat)])) (h' := (zi_H L xs 137 133 176)) (fun _ => rfl)).trans ?_
  refine zl_getR (r := 128) rfl rfl rfl ?_
  show zz_D (zm_S_init, d + 8, 96, [some (.ref (126 : Nat)), some (.int (4 : Int32))], [.ref (128 : Nat)]) (zi_H L xs 137 133 176) = _
  refine (zz_go 2 (fr' := (zm_S_init, d + 8, 98, [some (.ref (126 : Nat)), some (.int (4 : Int32))], [.int (4 : Int32), .int (4 : Int32), .ref (128 : Nat)])) (h' := (zi_H L xs 137 133 176)) (fun _ => rfl)).trans ?_
  refine zi_ast (i := 4) rfl rfl (by decide) (by decide) rfl rfl ?_
  refine (zz_go 1 (fr' := (zm_S_init, d + 8, 100, [some (.ref (126 : Nat)), some (.int (4 : Int32))], [.ref (126 : Nat)])) (h' := (zi_H L xs 137 133 177)) (fun _ => rfl)).trans ?_
  refine zl_getR (r := 129) rfl rfl rfl ?_
  show zz_D (zm_S_init, d + 8, 103, [some (.ref (126 : Nat)), some (.int (4 : Int32))], [.ref (129 : Nat)]) (zi_H L xs 137 133 177) = _
  refine (zz_go 2 (fr' := (zm_S_init, d + 8, 105, [some (.ref (126 : Nat)), some (.int (4 : Int32))], [.int (-1 : Int32), .int (4 : Int32), .ref (129 : Nat)])) (h' := (zi_H L xs 137 133 177)) (fun _ => rfl)).trans ?_
  refine zi_ast (i := 4) rfl rfl (by decide) (by decide) rfl rfl ?_
  refine (zz_go 6 (fr' := (zm_S_init, d + 8, 93, [some (.ref (126 : Nat)), some (.int (5 : Int32))], [.ref (126 : Nat)])) (h' := (zi_H L xs 137 133 178)) (fun _ => rfl)).trans ?_
  refine zl_getR (r := 128) rfl rfl rfl ?_
  show zz_D (zm_S_init, d + 8, 96, [some (.ref (126 : Nat)), some (.int (5 : Int32))], [.ref (128 : Nat)]) (zi_H L xs 137 133 178) = _
  refine (zz_go 2 (fr' := (zm_S_init, d + 8, 98, [some (.ref (126 : Nat)), some (.int (5 : Int32))], [.int (5 : Int32), .int (5 : Int32), .ref (128 : Nat)])) (h' := (zi_H L xs 137 133 178)) (fun _ => rfl)).trans ?_
  refine zi_ast (i := 5) rfl rfl (by decide) (by decide) rfl rfl ?_
  refine (zz_go 1 (fr' := (zm_S_init, d + 8, 100, [some (.ref (126 : Nat)), some (.int (5 : Int32))], [.ref (126 : Nat)])) (h' := (zi_H L xs 137 133 179)) (fun _ => rfl)).trans ?_
  refine zl_getR (r := 129) rfl rfl rfl ?_
  show zz_D (zm_S_init, d + 8, 103, [some (.ref (126 : Nat)), some (.int (5 : Int32))], [.ref (129 : Nat)]) (zi_H L xs 137 133 179) = _
  refine (zz_go 2 (fr' := (zm_S_init, d + 8, 105, [some (.ref (126 : Nat)), some (.int (5 : Int32))], [.int (-1 : Int32), .int (5 : Int32), .ref (129 : Nat)])) (h' := (zi_H L xs 137 133 179)) (fun _ => rfl)).trans ?_
  refine zi_ast (i := 5) rfl rfl (by decide) (by decide) rfl rfl ?_
  refine (zz_go 6 (fr' := (zm_S_init, d + 8, 93, [some (.ref (126 : Nat)), some (.int (6 : Int32))], [.ref (126 : Nat)])) (h' := (zi_H L xs 137 133 180)) (fun _ => rfl)).trans ?_
  refine zl_getR (r := 128) rfl rfl rfl ?_
  show zz_D (zm_S_init, d + 8, 96, [some (.ref (126 : Nat)), some (.int (6 : Int32))], [.ref (128 : Nat)]) (zi_H L xs 137 133 180) = _
  refine (zz_go 2 (fr' := (zm_S_init, d + 8, 98, [some (.ref (126 : Nat)), some (.int (6 : Int32))], [.int (6 : Int32), .int (6 : Int32), .ref (128 : Nat)])) (h' := (zi_H L xs 137 133 180)) (fun _ => rfl)).trans ?_
  refine zi_ast (i := 6) rfl rfl (by decide) (by decide) rfl rfl ?_
  refine (zz_go 1 (fr' := (zm_S_init, d + 8, 100, [some (.ref (126 : Nat)), some (.int (6 : Int32))], [.ref (126 : Nat)])) (h' := (zi_H L xs 137 133 181)) (fun _ => rfl)).trans ?_
  refine zl_getR (r := 129) rfl rfl rfl ?_
  show zz_D (zm_S_init, d + 8, 103, [some (.ref (126 : Nat)), some (.int (6 : Int32))], [.ref (129 : Nat)]) (zi_H L xs 137 133 181) = _
  refine (zz_go 2 (fr' := (zm_S_init, d + 8, 105, [some (.ref (126 : Nat)), some (.int (6 : Int32))], [.int (-1 : Int32), .int (6 : Int32), .ref (129 : Nat)])) (h' := (zi_H L xs 137 133 181)) (fun _ => rfl)).trans ?_
  refine zi_ast (i := 6) rfl rfl (by decide) (by decide) rfl rfl ?_
  refine (zz_go 6 (fr' := (zm_S_init, d + 8, 93, [some (.ref (126 : Nat)), some (.int (7 : Int32))], [.ref (126 : Nat)])) (h' := (zi_H L xs 137 133 182)) (fun _ => rfl)).trans ?_
  refine zl_getR (r := 128) rfl rfl rfl ?_
  show zz_D (zm_S_init, d + 8, 96, [some (.ref (126 : Nat)), some (.int (7 : Int32))], [.ref (128 : Nat)]) (zi_H L xs 137 133 182) = _
  refine (zz_go 2 (fr' := (zm_S_init, d + 8, 98, [some (.ref (126 : Nat)), some (.int (7 : Int32))], [.int (7 : Int32), .int (7 : Int32), .ref (128 : Nat)])) (h' := (zi_H L xs 137 133 182)) (fun _ => rfl)).trans ?_
  refine zi_ast (i := 7) rfl rfl (by decide) (by decide) rfl rfl ?_
  refine (zz_go 1 (fr' := (zm_S_init, d + 8, 100, [some (.ref (126 : Nat)), some (.int (7 : Int32))], [.ref (126 : Nat)])) (h' := (zi_H L xs 137 133 183)) (fun _ => rfl)).trans ?_
  refine zl_getR (r := 129) rfl rfl rfl ?_
  show zz_D (zm_S_init, d + 8, 103, [some (.ref (126 : Nat)), some (.int (7 : Int32))], [.ref (129 : Nat)]) (zi_H L xs 137 133 183) = _
  refine (zz_go 2 (fr' := (zm_S_init, d + 8, 105, [some (.ref (126 : Nat)), some (.int (7 : Int32))], [.int (-1 : Int32), .int (7 : Int32), .ref (129 : Nat)])) (h' := (zi_H L xs 137 133 183)) (fun _ => rfl)).trans ?_
  refine zi_ast (i := 7) rfl rfl (by decide) (by decide) rfl rfl ?_
  refine (zz_go 7 (fr' := (zm_S_init, d + 8, 115, [some (.ref (126 : Nat)), some (.int (8 : Int32))], [.int (100 : Int32), .ref (126 : Nat)])) (h' := (zi_H L xs 137 133 184)) (fun _ => rfl)).trans ?_
  refine zi_putI rfl rfl rfl rfl rfl ?_
  refine (zz_go 2 (fr' := (zm_S_init, d + 8, 120, [some (.ref (126 : Nat)), some (.int (8 : Int32))], [.int (1 : Int32), .ref (126 : Nat)])) (h' := (zi_H L xs 137 133 185)) (fun _ => rfl)).trans ?_
  refine zi_putI rfl rfl rfl rfl rfl ?_
  exact zz_end 1 (fun _ => rfl)
set_option maxRecDepth 40000 in
theorem ic_15 (L : Nat) (xs : Nat → Int32) (d : Nat) : zz_D (zm_S_init, d + 8, 0, [some (.ref (137 : Nat)), none], []) (zi_H L xs 138 134 186) = some (.inl none, (zi_H L xs 148 144 204)) := by
  refine (zz_go 4 (fr' := (zm_S_init, d + 8, 7, [some (.ref (137 : Nat)), none], [.int (8 : Int32), .ref (137 : Nat)])) (h' := (zi_H L xs 138 134 186)) (fun _ => rfl)).trans ?_
  refine zi_newa (c := 8) rfl rfl rfl rfl rfl rfl rfl ?_
  refine zi_putR rfl rfl rfl rfl ?_
  refine (zz_go 2 (fr' := (zm_S_init, d + 8, 15, [some (.ref (137 : Nat)), none], [.int (8 : Int32), .ref (137 : Nat)])) (h' := (zi_H L xs 139 135 186)) (fun _ => rfl)).trans ?_
  refine zi_newa (c := 8) rfl rfl rfl rfl rfl rfl rfl ?_
  refine zi_putR rfl rfl rfl rfl ?_
  refine (zz_go 2 (fr' := (zm_S_init, d + 8, 23, [some (.ref (137 : Nat)), none], [.int (8 : Int32), .ref (137 : Nat)])) (h' := (zi_H L xs 140 136 186)) (fun _ => rfl)).trans ?_
  refine zi_newa (c := 8) rfl rfl rfl rfl rfl rfl rfl ?_
  refine zi_putR rfl rfl rfl rfl ?_
  refine (zz_go 2 (fr' := (zm_S_init, d + 8, 31, [some (.ref (137 : Nat)), none], [.int (6 : Int32), .ref (137 : Nat)])) (h' := (zi_H L xs 141 137 186)) (fun _ => rfl)).trans ?_
  refine zi_newa (c := 6) rfl rfl rfl rfl rfl rfl rfl ?_
  refine zi_putR rfl rfl rfl rfl ?_
  refine (zz_go 2 (fr' := (zm_S_init, d + 8, 39, [some (.ref (137 : Nat)), none], [.int (6 : Int32), .ref (137 : Nat)])) (h' := (zi_H L xs 142 138 186)) (fun _ => rfl)).trans ?_
  refine zi_newa (c := 6) rfl rfl rfl rfl rfl rfl rfl ?_
  refine zi_putR rfl rfl rfl rfl ?_
  refine (zz_go 2 (fr' := (zm_S_init, d + 8, 47, [some (.ref (137 : Nat)), none], [.int (6 : Int32), .ref (137 : Nat)])) (h' := (zi_H L xs 143 139 186)) (fun _ => rfl)).trans ?_
  refine zi_newa (c := 6) rfl rfl rfl rfl rfl rfl rfl ?_
  refine zi_putR rfl rfl rfl rfl ?_
  refine (zz_go 2 (fr' := (zm_S_init, d + 8, 55, [some (.ref (137 : Nat)), none], [.int (6 : Int32), .ref (137 : Nat)])) (h' := (zi_H L xs 144 140 186)) (fun _ => rfl)).trans ?_
  refine zi_newa (c := 6) rfl rfl rfl rfl rfl rfl rfl ?_
  refine zi_putR rfl rfl rfl rfl ?_
  refine (zz_go 2 (fr' := (zm_S_init, d + 8, 63, [some (.ref (137 : Nat)), none], [.int (6 : Int32), .ref (137 : Nat)])) (h' := (zi_H L xs 145 141 186)) (fun _ => rfl)).trans ?_
  refine zi_newa (c := 6) rfl rfl rfl rfl rfl rfl rfl ?_
  refine zi_putR rfl rfl rfl rfl ?_
  refine (zz_go 2 (fr' := (zm_S_init, d + 8, 71, [some (.ref (137 : Nat)), none], [.int (6 : Int32), .ref (137 : Nat)])) (h' := (zi_H L xs 146 142 186)) (fun _ => rfl)).trans ?_
  refine zi_newa (c := 6) rfl rfl rfl rfl rfl rfl rfl ?_
  refine zi_putR rfl rfl rfl rfl ?_
  refine (zz_go 2 (fr' := (zm_S_init, d + 8, 79, [some (.ref (137 : Nat)), none], [.int (60 : Int32), .ref (137 : Nat)])) (h' := (zi_H L xs 147 143 186)) (fun _ => rfl)).trans ?_
  refine zi_newa (c := 60) rfl rfl rfl rfl rfl rfl rfl ?_
  refine zi_putR rfl rfl rfl rfl ?_
  refine (zz_go 6 (fr' := (zm_S_init, d + 8, 93, [some (.ref (137 : Nat)), some (.int (0 : Int32))], [.ref (137 : Nat)])) (h' := (zi_H L xs 148 144 186)) (fun _ => rfl)).trans ?_
  refine zl_getR (r := 139) rfl rfl rfl ?_
  show zz_D (zm_S_init, d + 8, 96, [some (.ref (137 : Nat)), some (.int (0 : Int32))], [.ref (139 : Nat)]) (zi_H L xs 148 144 186) = _
  refine (zz_go 2 (fr' := (zm_S_init, d + 8, 98, [some (.ref (137 : Nat)), some (.int (0 : Int32))], [.int (0 : Int32), .int (0 : Int32), .ref (139 : Nat)])) (h' := (zi_H L xs 148 144 186)) (fun _ => rfl)).trans ?_
  refine zi_ast (i := 0) rfl rfl (by decide) (by decide) rfl rfl ?_
  refine (zz_go 1 (fr' := (zm_S_init, d + 8, 100, [some (.ref (137 : Nat)), some (.int (0 : Int32))], [.ref (137 : Nat)])) (h' := (zi_H L xs 148 144 187)) (fun _ => rfl)).trans ?_
  refine zl_getR (r := 140) rfl rfl rfl ?_
  show zz_D (zm_S_init, d + 8, 103, [some (.ref (137 : Nat)), some (.int (0 : Int32))], [.ref (140 : Nat)]) (zi_H L xs 148 144 187) = _
  refine (zz_go 2 (fr' := (zm_S_init, d + 8, 105, [some (.ref (137 : Nat)), some (.int (0 : Int32))], [.int (-1 : Int32), .int (0 : Int32), .ref (140 : Nat)])) (h' := (zi_H L xs 148 144 187)) (fun _ => rfl)).trans ?_
  refine zi_ast (i := 0) rfl rfl (by decide) (by decide) rfl rfl ?_
  refine (zz_go 6 (fr' := (zm_S_init, d + 8, 93, [some (.ref (137 : Nat)), some (.int (1 : Int32))], [.ref (137 : Nat)])) (h' := (zi_H L xs 148 144 188)) (fun _ => rfl)).trans ?_
  refine zl_getR (r := 139) rfl rfl rfl ?_
  show zz_D (zm_S_init, d + 8, 96, [some (.ref (137 : Nat)), some (.int (1 : Int32))], [.ref (139 : Nat)]) (zi_H L xs 148 144 188) = _
  refine (zz_go 2 (fr' := (zm_S_init, d + 8, 98, [some (.ref (137 : Nat)), some (.int (1 : Int32))], [.int (1 : Int32), .int (1 : Int32), .ref (139 : Nat)])) (h' := (zi_H L xs 148 144 188)) (fun _ => rfl)).trans ?_
  refine zi_ast (i := 1) rfl rfl (by decide) (by decide) rfl rfl ?_
  refine (zz_go 1 (fr' := (zm_S_init, d + 8, 100, [some (.ref (137 : Nat)), some (.int (1 : Int32))], [.ref (137 : Nat)])) (h' := (zi_H L xs 148 144 189)) (fun _ => rfl)).trans ?_
  refine zl_getR (r := 140) rfl rfl rfl ?_
  show zz_D (zm_S_init, d + 8, 103, [some (.ref (137 : Nat)), some (.int (1 : Int32))], [.ref (140 : Nat)]) (zi_H L xs 148 144 189) = _
  refine (zz_go 2 (fr' := (zm_S_init, d + 8, 105, [some (.ref (137 : Nat)), some (.int (1 : Int32))], [.int (-1 : Int32), .int (1 : Int32), .ref (140 : Nat)])) (h' := (zi_H L xs 148 144 189)) (fun _ => rfl)).trans ?_
  refine zi_ast (i := 1) rfl rfl (by decide) (by decide) rfl rfl ?_
  refine (zz_go 6 (fr' := (zm_S_init, d + 8, 93, [some (.ref (137 : Nat)), some (.int (2 : Int32))], [.ref (137 : Nat)])) (h' := (zi_H L xs 148 144 190)) (fun _ => rfl)).trans ?_
  refine zl_getR (r := 139) rfl rfl rfl ?_
  show zz_D (zm_S_init, d + 8, 96, [some (.ref (137 : Nat)), some (.int (2 : Int32))], [.ref (139 : Nat)]) (zi_H L xs 148 144 190) = _
  refine (zz_go 2 (fr' := (zm_S_init, d + 8, 98, [some (.ref (137 : Nat)), some (.int (2 : Int32))], [.int (2 : Int32), .int (2 : Int32), .ref (139 : Nat)])) (h' := (zi_H L xs 148 144 190)) (fun _ => rfl)).trans ?_
  refine zi_ast (i := 2) rfl rfl (by decide) (by decide) rfl rfl ?_
  refine (zz_go 1 (fr' := (zm_S_init, d + 8, 100, [some (.ref (137 : Nat)), some (.int (2 : Int32))], [.ref (137 : Nat)])) (h' := (zi_H L xs 148 144 191)) (fun _ => rfl)).trans ?_
  refine zl_getR (r := 140) rfl rfl rfl ?_
  show zz_D (zm_S_init, d + 8, 103, [some (.ref (137 : Nat)), some (.int (2 : Int32))], [.ref (140 : Nat)]) (zi_H L xs 148 144 191) = _
  refine (zz_go 2 (fr' := (zm_S_init, d + 8, 105, [some (.ref (137 : Nat)), some (.int (2 : Int32))], [.int (-1 : Int32), .int (2 : Int32), .ref (140 : Nat)])) (h' := (zi_H L xs 148 144 191)) (fun _ => rfl)).trans ?_
  refine zi_ast (i := 2) rfl rfl (by decide) (by decide) rfl rfl ?_
  refine (zz_go 6 (fr' := (zm_S_init, d + 8, 93, [some (.ref (137 : Nat)), some (.int (3 : Int32))], [.ref (137 : Nat)])) (h' := (zi_H L xs 148 144 192)) (fun _ => rfl)).trans ?_
  refine zl_getR (r := 139) rfl rfl rfl ?_
  show zz_D (zm_S_init, d + 8, 96, [some (.ref (137 : Nat)), some (.int (3 : Int32))], [.ref (139 : Nat)]) (zi_H L xs 148 144 192) = _
  refine (zz_go 2 (fr' := (zm_S_init, d + 8, 98, [some (.ref (137 : Nat)), some (.int (3 : Int32))], [.int (3 : Int32), .int (3 : Int32), .ref (139 : Nat)])) (h' := (zi_H L xs 148 144 192)) (fun _ => rfl)).trans ?_
  refine zi_ast (i := 3) rfl rfl (by decide) (by decide) rfl rfl ?_
  refine (zz_go 1 (fr' := (zm_S_init, d + 8, 100, [some (.ref (137 : Nat)), some (.int (3 : Int32))], [.ref (137 : Nat)])) (h' := (zi_H L xs 148 144 193)) (fun _ => rfl)).trans ?_
  refine zl_getR (r := 140) rfl rfl rfl ?_
  show zz_D (zm_S_init, d + 8, 103, [some (.ref (137 : Nat)), some (.int (3 : Int32))], [.ref (140 : Nat)]) (zi_H L xs 148 144 193) = _
  refine (zz_go 2 (fr' := (zm_S_init, d + 8, 105, [some (.ref (137 : Nat)), some (.int (3 : Int32))], [.int (-1 : Int32), .int (3 : Int32), .ref (140 : Nat)])) (h' := (zi_H L xs 148 144 193)) (fun _ => rfl)).trans ?_
  refine zi_ast (i := 3) rfl rfl (by decide) (by decide) rfl rfl ?_
  refine (zz_go 6 (fr' := (zm_S_init, d + 8, 93, [some (.ref (137 : Nat)), some (.int (4 : Int32))], [.ref (137 : Nat)])) (h' := (zi_H L xs 148 144 194)) (fun _ => rfl)).trans ?_
  refine zl_getR (r := 139) rfl rfl rfl ?_
  show zz_D (zm_S_init, d + 8, 96, [some (.ref (137 : Nat)), some (.int (4 : Int32))], [.ref (139 : Nat)]) (zi_H L xs 148 144 194) = _
  refine (zz_go 2 (fr' := (zm_S_init, d + 8, 98, [some (.ref (137 : Nat)), some (.int (4 : Int32))], [.int (4 : Int32), .int (4 : Int32), .ref (139 : Nat)])) (h' := (zi_H L xs 148 144 194)) (fun _ => rfl)).trans ?_
  refine zi_ast (i := 4) rfl rfl (by decide) (by decide) rfl rfl ?_
  refine (zz_go 1 (fr' := (zm_S_init, d + 8, 100, [some (.ref (137 : Nat)), some (.int (4 : Int32))], [.ref (137 : Nat)])) (h' := (zi_H L xs 148 144 195)) (fun _ => rfl)).trans ?_
  refine zl_getR (r := 140) rfl rfl rfl ?_
  show zz_D (zm_S_init, d + 8, 103, [some (.ref (137 : Nat)), some (.int (4 : Int32))], [.ref (140 : Nat)]) (zi_H L xs 148 144 195) = _
  refine (zz_go 2 (fr' := (zm_S_init, d + 8, 105, [some (.ref (137 : Nat)), some (.int (4 : Int32))], [.int (-1 : Int32), .int (4 : Int32), .ref (140 : Nat)])) (h' := (zi_H L xs 148 144 195)) (fun _ => rfl)).trans ?_
  refine zi_ast (i := 4) rfl rfl (by decide) (by decide) rfl rfl ?_
  refine (zz_go 6 (fr' := (zm_S_init, d + 8, 93, [some (.ref (137 : Nat)), some (.int (5 : Int32))], [.ref (137 : Nat)])) (h' := (zi_H L xs 148 144 196)) (fun _ => rfl)).trans ?_
  refine zl_getR (r := 139) rfl rfl rfl ?_
  show zz_D (zm_S_init, d + 8, 96, [some (.ref (137 : Nat)), some (.int (5 : Int32))], [.ref (139 : Nat)]) (zi_H L xs 148 144 196) = _
  refine (zz_go 2 (fr' := (zm_S_init, d + 8, 98, [some (.ref (137 : Nat)), some (.int (5 : Int32))], [.int (5 : Int32), .int (5 : Int32), .ref (139 : Nat)])) (h' := (zi_H L xs 148 144 196)) (fun _ => rfl)).trans ?_
  refine zi_ast (i := 5) rfl rfl (by decide) (by decide) rfl rfl ?_
  refine (zz_go 1 (fr' := (zm_S_init, d + 8, 100, [some (.ref (137 : Nat)), some (.int (5 : Int32))], [.ref (137 : Nat)])) (h' := (zi_H L xs 148 144 197)) (fun _ => rfl)).trans ?_
  refine zl_getR (r := 140) rfl rfl rfl ?_
  show zz_D (zm_S_init, d + 8, 103, [some (.ref (137 : Nat)), some (.int (5 : Int32))], [.ref (140 : Nat)]) (zi_H L xs 148 144 197) = _
  refine (zz_go 2 (fr' := (zm_S_init, d + 8, 105, [some (.ref (137 : Nat)), some (.int (5 : Int32))], [.int (-1 : Int32), .int (5 : Int32), .ref (140 : Nat)])) (h' := (zi_H L xs 148 144 197)) (fun _ => rfl)).trans ?_
  refine zi_ast (i := 5) rfl rfl (by decide) (by decide) rfl rfl ?_
  refine (zz_go 6 (fr' := (zm_S_init, d + 8, 93, [some (.ref (137 : Nat)), some (.int (6 : Int32))], [.ref (137 : Nat)])) (h' := (zi_H L xs 148 144 198)) (fun _ => rfl)).trans ?_
  refine zl_getR (r := 139) rfl rfl rfl ?_
  show zz_D (zm_S_init, d + 8, 96, [some (.ref (137 : Nat)), some (.int (6 : Int32))], [.ref (139 : Nat)]) (zi_H L xs 148 144 198) = _
  refine (zz_go 2 (fr' := (zm_S_init, d + 8, 98, [some (.ref (137 : Nat)), some (.int (6 : Int32))], [.int (6 : Int32), .int (6 : Int32), .ref (139 : Nat)])) (h' := (zi_H L xs 148 144 198)) (fun _ => rfl)).trans ?_
  refine zi_ast (i := 6) rfl rfl (by decide) (by decide) rfl rfl ?_
  refine (zz_go 1 (fr' := (zm_S_init, d + 8, 100, [some (.ref (137 : Nat)), some (.int (6 : Int32))], [.ref (137 : Nat)])) (h' := (zi_H L xs 148 144 199)) (fun _ => rfl)).trans ?_
  refine zl_getR (r := 140) rfl rfl rfl ?_
  show zz_D (zm_S_init, d + 8, 103, [some (.ref (137 : Nat)), some (.int (6 : Int32))], [.ref (140 : Nat)]) (zi_H L xs 148 144 199) = _
  refine (zz_go 2 (fr' := (zm_S_init, d + 8, 105, [some (.ref (137 : Nat)), some (.int (6 : Int32))], [.int (-1 : Int32), .int (6 : Int32), .ref (140 : Nat)])) (h' := (zi_H L xs 148 144 199)) (fun _ => rfl)).trans ?_
  refine zi_ast (i := 6) rfl rfl (by decide) (by decide) rfl rfl ?_
  refine (zz_go 6 (fr' := (zm_S_init, d + 8, 93, [some (.ref (137 : Nat)), some (.int (7 : Int32))], [.ref (137 : Nat)])) (h' := (zi_H L xs 148 144 200)) (fun _ => rfl)).trans ?_
  refine zl_getR (r := 139) rfl rfl rfl ?_
  show zz_D (zm_S_init, d + 8, 96, [some (.ref (137 : Nat)), some (.int (7 : Int32))], [.ref (139 : Nat)]) (zi_H L xs 148 144 200) = _
  refine (zz_go 2 (fr' := (zm_S_init, d + 8, 98, [some (.ref (137 : Nat)), some (.int (7 : Int32))], [.int (7 : Int32), .int (7 : Int32), .ref (139 : Nat)])) (h' := (zi_H L xs 148 144 200)) (fun _ => rfl)).trans ?_
  refine zi_ast (i := 7) rfl rfl (by decide) (by decide) rfl rfl ?_
  refine (zz_go 1 (fr' := (zm_S_init, d + 8, 100, [some (.ref (137 : Nat)), some (.int (7 : Int32))], [.ref (137 : Nat)])) (h' := (zi_H L xs 148 144 201)) (fun _ => rfl)).trans ?_
  refine zl_getR (r := 140) rfl rfl rfl ?_
  show zz_D (zm_S_init, d + 8, 103, [some (.ref (137 : Nat)), some (.int (7 : Int32))], [.ref (140 : Nat)]) (zi_H L xs 148 144 201) = _
  refine (zz_go 2 (fr' := (zm_S_init, d + 8, 105, [some (.ref (137 : Nat)), some (.int (7 : Int32))], [.int (-1 : Int32), .int (7 : Int32), .ref (140 : Nat)])) (h' := (zi_H L xs 148 144 201)) (fun _ => rfl)).trans ?_
  refine zi_ast (i := 7) rfl rfl (by decide) (by decide) rfl rfl ?_
  refine (zz_go 7 (fr' := (zm_S_init, d + 8, 115, [some (.ref (137 : Nat)), some (.int (8 : Int32))], [.int (100 : Int32), .ref (137 : Nat)])) (h' := (zi_H L xs 148 144 202)) (fun _ => rfl)).trans ?_
  refine zi_putI rfl rfl rfl rfl rfl ?_
  refine (zz_go 2 (fr' := (zm_S_init, d + 8, 120, [some (.ref (137 : Nat)), some (.int (8 : Int32))], [.int (1 : Int32), .ref (137 : Nat)])) (h' := (zi_H L xs 148 144 203)) (fun _ => rfl)).trans ?_
  refine zi_putI rfl rfl rfl rfl rfl ?_
  exact zz_end 1 (fun _ => rfl)
set_option maxRecDepth 40000 in
theorem ic_16 (L : Nat) (xs : Nat → Int32) (d : Nat) : zz_D (zm_S_init, d + 8, 0, [some (.ref (148 : Nat)), none], []) (zi_H L xs 149 145 204) = some (.inl none, (zi_H L xs 159 155 222)) := by
  refine (zz_go 4 (fr' := (zm_S_init, d + 8, 7, [some (.ref (148 : Nat)), none], [.int (8 : Int32), .ref (148 : Nat)])) (h' := (zi_H L xs 149 145 204)) (fun _ => rfl)).trans ?_
  refine zi_newa (c := 8) rfl rfl rfl rfl rfl rfl rfl ?_
  refine zi_putR rfl rfl rfl rfl ?_
  refine (zz_go 2 (fr' := (zm_S_init, d + 8, 15, [some (.ref (148 : Nat)), none], [.int (8 : Int32), .ref (148 : Nat)])) (h' := (zi_H L xs 150 146 204)) (fun _ => rfl)).trans ?_
  refine zi_newa (c := 8) rfl rfl rfl rfl rfl rfl rfl ?_
  refine zi_putR rfl rfl rfl rfl ?_
  refine (zz_go 2 (fr' := (zm_S_init, d + 8, 23, [some (.ref (148 : Nat)), none], [.int (8 : Int32), .ref (148 : Nat)])) (h' := (zi_H L xs 151 147 204)) (fun _ => rfl)).trans ?_
  refine zi_newa (c := 8) rfl rfl rfl rfl rfl rfl rfl ?_
  refine zi_putR rfl rfl rfl rfl ?_
  refine (zz_go 2 (fr' := (zm_S_init, d + 8, 31, [some (.ref (148 : Nat)), none], [.int (6 : Int32), .ref (148 : Nat)])) (h' := (zi_H L xs 152 148 204)) (fun _ => rfl)).trans ?_
  refine zi_newa (c := 6) rfl rfl rfl rfl rfl rfl rfl ?_
  refine zi_putR rfl rfl rfl rfl ?_
  refine (zz_go 2 (fr' := (zm_S_init, d + 8, 39, [some (.ref (148 : Nat)), none], [.int (6 : Int32), .ref (148 : Nat)])) (h' := (zi_H L xs 153 149 204)) (fun _ => rfl)).trans ?_
  refine zi_newa (c := 6) rfl rfl rfl rfl rfl rfl rfl ?_
  refine zi_putR rfl rfl rfl rfl ?_
  refine (zz_go 2 (fr' := (zm_S_init, d + 8, 47, [some (.ref (148 : Nat)), none], [.int (6 : Int32), .ref (148 : Nat)])) (h' := (zi_H L xs 154 150 204)) (fun _ => rfl)).trans ?_
  refine zi_newa (c := 6) rfl rfl rfl rfl rfl rfl rfl ?_
  refine zi_putR rfl rfl rfl rfl ?_
  refine (zz_go 2 (fr' := (zm_S_init, d + 8, 55, [some (.ref (148 : Nat)), none], [.int (6 : Int32), .ref (148 : Nat)])) (h' := (zi_H L xs 155 151 204)) (fun _ => rfl)).trans ?_
  refine zi_newa (c := 6) rfl rfl rfl rfl rfl rfl rfl ?_
  refine zi_putR rfl rfl rfl rfl ?_
  refine (zz_go 2 (fr' := (zm_S_init, d + 8, 63, [some (.ref (148 : Nat)), none], [.int (6 : Int32), .ref (148 : Nat)])) (h' := (zi_H L xs 156 152 204)) (fun _ => rfl)).trans ?_
  refine zi_newa (c := 6) rfl rfl rfl rfl rfl rfl rfl ?_
  refine zi_putR rfl rfl rfl rfl ?_
  refine (zz_go 2 (fr' := (zm_S_init, d + 8, 71, [some (.ref (148 : Nat)), none], [.int (6 : Int32), .ref (148 : Nat)])) (h' := (zi_H L xs 157 153 204)) (fun _ => rfl)).trans ?_
  refine zi_newa (c := 6) rfl rfl rfl rfl rfl rfl rfl ?_
  refine zi_putR rfl rfl rfl rfl ?_
  refine (zz_go 2 (fr' := (zm_S_init, d + 8, 79, [some (.ref (148 : Nat)), none], [.int (60 : Int32), .ref (148 : Nat)])) (h' := (zi_H L xs 158 154 204)) (fun _ => rfl)).trans ?_
  refine zi_newa (c := 60) rfl rfl rfl rfl rfl rfl rfl ?_
  refine zi_putR rfl rfl rfl rfl ?_
  refine (zz_go 6 (fr' := (zm_S_init, d + 8, 93, [some (.ref (148 : Nat)), some (.int (0 : Int32))], [.ref (148 : Nat)])) (h' := (zi_H L xs 159 155 204)) (fun _ => rfl)).trans ?_
  refine zl_getR (r := 150) rfl rfl rfl ?_
  show zz_D (zm_S_init, d + 8, 96, [some (.ref (148 : Nat)), some (.int (0 : Int32))], [.ref (150 : Nat)]) (zi_H L xs 159 155 204) = _
  refine (zz_go 2 (fr' := (zm_S_init, d + 8, 98, [some (.ref (148 : Nat)), some (.int (0 : Int32))], [.int (0 : Int32), .int (0 : Int32), .ref (150 : Nat)])) (h' := (zi_H L xs 159 155 204)) (fun _ => rfl)).trans ?_
  refine zi_ast (i := 0) rfl rfl (by decide) (by decide) rfl rfl ?_
  refine (zz_go 1 (fr' := (zm_S_init, d + 8, 100, [some (.ref (148 : Nat)), some (.int (0 : Int32))], [.ref (148 : Nat)])) (h' := (zi_H L xs 159 155 205)) (fun _ => rfl)).trans ?_
  refine zl_getR (r := 151) rfl rfl rfl ?_
  show zz_D (zm_S_init, d + 8, 103, [some (.ref (148 : Nat)), some (.int (0 : Int32))], [.ref (151 : Nat)]) (zi_H L xs 159 155 205) = _
  refine (zz_go 2 (fr' := (zm_S_init, d + 8, 105, [some (.ref (148 : Nat)), some (.int (0 : Int32))], [.int (-1 : Int32), .int (0 : Int32), .ref (151 : Nat)])) (h' := (zi_H L xs 159 155 205)) (fun _ => rfl)).trans ?_
  refine zi_ast (i := 0) rfl rfl (by decide) (by decide) rfl rfl ?_
  refine (zz_go 6 (fr' := (zm_S_init, d + 8, 93, [some (.ref (148 : Nat)), some (.int (1 : Int32))], [.ref (148 : Nat)])) (h' := (zi_H L xs 159 155 206)) (fun _ => rfl)).trans ?_
  refine zl_getR (r := 150) rfl rfl rfl ?_
  show zz_D (zm_S_init, d + 8, 96, [some (.ref (148 : Nat)), some (.int (1 : Int32))], [.ref (150 : Nat)]) (zi_H L xs 159 155 206) = _
  refine (zz_go 2 (fr' := (zm_S_init, d + 8, 98, [some (.ref (148 : Nat)), some (.int (1 : Int32))], [.int (1 : Int32), .int (1 : Int32), .ref (150 : Nat)])) (h' := (zi_H L xs 159 155 206)) (fun _ => rfl)).trans ?_
  refine zi_ast (i := 1) rfl rfl (by decide) (by decide) rfl rfl ?_
  refine (zz_go 1 (fr' := (zm_S_init, d + 8, 100, [some (.ref (148 : Nat)), some (.int (1 : Int32))], [.ref (148 : Nat)])) (h' := (zi_H L xs 159 155 207)) (fun _ => rfl)).trans ?_
  refine zl_getR (r := 151) rfl rfl rfl ?_
  show zz_D (zm_S_init, d + 8, 103, [some (.ref (148 : Nat)), some (.int (1 : Int32))], [.ref (151 : Nat)]) (zi_H L xs 159 155 207) = _
  refine (zz_go 2 (fr' := (zm_S_init, d + 8, 105, [some (.ref (148 : Nat)), some (.int (1 : Int32))], [.int (-1 : Int32), .int (1 : Int32), .ref (151 : Nat)])) (h' := (zi_H L xs 159 155 207)) (fun _ => rfl)).trans ?_
  refine zi_ast (i := 1) rfl rfl (by decide) (by decide) rfl rfl ?_
  refine (zz_go 6 (fr' := (zm_S_init, d + 8, 93, [some (.ref (148 : Nat)), some (.int (2 : Int32))], [.ref (148 : Nat)])) (h' := (zi_H L xs 159 155 208)) (fun _ => rfl)).trans ?_
  refine zl_getR (r := 150) rfl rfl rfl ?_
  show zz_D (zm_S_init, d + 8, 96, [some (.ref (148 : Nat)), some (.int (2 : Int32))], [.ref (150 : Nat)]) (zi_H L xs 159 155 208) = _
  refine (zz_go 2 (fr' := (zm_S_init, d + 8, 98, [some (.ref (148 : Nat)), some (.int (2 : Int32))], [.int (2 : Int32), .int (2 : Int32), .ref (150 : Nat)])) (h' := (zi_H L xs 159 155 208)) (fun _ => rfl)).trans ?_
  refine zi_ast (i := 2) rfl rfl (by decide) (by decide) rfl rfl ?_
  refine (zz_go 1 (fr' := (zm_S_init, d + 8, 100, [some (.ref (148 : Nat)), some (.int (2 : Int32))], [.ref (148 : Nat)])) (h' := (zi_H L xs 159 155 209)) (fun _ => rfl)).trans ?_
  refine zl_getR (r := 151) rfl rfl rfl ?_
  show zz_D (zm_S_init, d + 8, 103, [some (.ref (148 : Nat)), some (.int (2 : Int32))], [.ref (151 : Nat)]) (zi_H L xs 159 155 209) = _
  refine (zz_go 2 (fr' := (zm_S_init, d + 8, 105, [some (.ref (148 : Nat)), some (.int (2 : Int32))], [.int (-1 : Int32), .int (2 : Int32), .ref (151 : Nat)])) (h' := (zi_H L xs 159 155 209)) (fun _ => rfl)).trans ?_
  refine zi_ast (i := 2) rfl rfl (by decide) (by decide) rfl rfl ?_
  refine (zz_go 6 (fr' := (zm_S_init, d + 8, 93, [some (.ref (148 : Nat)), some (.int (3 : Int32))], [.ref (148 : Nat)])) (h' := (zi_H L xs 159 155 210)) (fun _ => rfl)).trans ?_
  refine zl_getR (r := 150) rfl rfl rfl ?_
  show zz_D (zm_S_init, d + 8, 96, [some (.ref (148 : Nat)), some (.int (3 : Int32))], [.ref (150 : Nat)]) (zi_H L xs 159 155 210) = _
  refine (zz_go 2 (fr' := (zm_S_init, d + 8, 98, [some (.ref (148 : Nat)), some (.int (3 : Int32))], [.int (3 : Int32), .int (3 : Int32), .ref (150 : Nat)])) (h' := (zi_H L xs 159 155 210)) (fun _ => rfl)).trans ?_
  refine zi_ast (i := 3) rfl rfl (by decide) (by decide) rfl rfl ?_
  refine (zz_go 1 (fr' := (zm_S_init, d + 8, 100, [some (.ref (148 : Nat)), some (.int (3 : Int32))], [.ref (148 : Nat)])) (h' := (zi_H L xs 159 155 211)) (fun _ => rfl)).trans ?_
  refine zl_getR (r := 151) rfl rfl rfl ?_
  show zz_D (zm_S_init, d + 8, 103, [some (.ref (148 : Nat)), some (.int (3 : Int32))], [.ref (151 : Nat)]) (zi_H L xs 159 155 211) = _
  refine (zz_go 2 (fr' := (zm_S_init, d + 8, 105, [some (.ref (148 : Nat)), some (.int (3 : Int32))], [.int (-1 : Int32), .int (3 : Int32), .ref (151 : Nat)])) (h' := (zi_H L xs 159 155 211)) (fun _ => rfl)).trans ?_
  refine zi_ast (i := 3) rfl rfl (by decide) (by decide) rfl rfl ?_
  refine (zz_go 6 (fr' := (zm_S_init, d + 8, 93, [some (.ref (148 : Nat)), some (.int (4 : Int32))], [.ref (148 : Nat)])) (h' := (zi_H L xs 159 155 212)) (fun _ => rfl)).trans ?_
  refine zl_getR (r := 150) rfl rfl rfl ?_
  show zz_D (zm_S_init, d + 8, 96, [some (.ref (148 : Nat)), some (.int (4 : Int32))], [.ref (150 : Nat)]) (zi_H L xs 159 155 212) = _
  refine (zz_go 2 (fr' := (zm_S_init, d + 8, 98, [some (.ref (148 : Nat)), some (.int (4 : Int32))], [.int (4 : Int32), .int (4 : Int32), .ref (150 : Nat)])) (h' := (zi_H L xs 159 155 212)) (fun _ => rfl)).trans ?_
  refine zi_ast (i := 4) rfl rfl (by decide) (by decide) rfl rfl ?_
  refine (zz_go 1 (fr' := (zm_S_init, d + 8, 100, [some (.ref (148 : Nat)), some (.int (4 : Int32))], [.ref (148 : Nat)])) (h' := (zi_H L xs 159 155 213)) (fun _ => rfl)).trans ?_
  refine zl_getR (r := 151) rfl rfl rfl ?_
  show zz_D (zm_S_init, d + 8, 103, [some (.ref (148 : Nat)), some (.int (4 : Int32))], [.ref (151 : Nat)]) (zi_H L xs 159 155 213) = _
  refine (zz_go 2 (fr' := (zm_S_init, d + 8, 105, [some (.ref (148 : Nat)), some (.int (4 : Int32))], [.int (-1 : Int32), .int (4 : Int32), .ref (151 : Nat)])) (h' := (zi_H L xs 159 155 213)) (fun _ => rfl)).trans ?_
  refine zi_ast (i := 4) rfl rfl (by decide) (by decide) rfl rfl ?_
  refine (zz_go 6 (fr' := (zm_S_init, d + 8, 93, [some (.ref (148 : Nat)), some (.int (5 : Int32))], [.ref (148 : Nat)])) (h' := (zi_H L xs 159 155 214)) (fun _ => rfl)).trans ?_
  refine zl_getR (r := 150) rfl rfl rfl ?_
  show zz_D (zm_S_init, d + 8, 96, [some (.ref (148 : Nat)), some (.int (5 : Int32))], [.ref (150 : Nat)]) (zi_H L xs 159 155 214) = _
  refine (zz_go 2 (fr' := (zm_S_init, d + 8, 98, [some (.ref (148 : Nat)), some (.int (5 : Int32))], [.int (5 : Int32), .int (5 : Int32), .ref (150 : Nat)])) (h' := (zi_H L xs 159 155 214)) (fun _ => rfl)).trans ?_
  refine zi_ast (i := 5) rfl rfl (by decide) (by decide) rfl rfl ?_
  refine (zz_go 1 (fr' := (zm_S_init, d + 8, 100, [some (.ref (148 : Nat)), some (.int (5 : Int32))], [.ref (148 : Nat)])) (h' := (zi_H L xs 159 155 215)) (fun _ => rfl)).trans ?_
  refine zl_getR (r := 151) rfl rfl rfl ?_
  show zz_D (zm_S_init, d + 8, 103, [some (.ref (148 : Nat)), some (.int (5 : Int32))], [.ref (151 : Nat)]) (zi_H L xs 159 155 215) = _
  refine (zz_go 2 (fr' := (zm_S_init, d + 8, 105, [some (.ref (148 : Nat)), some (.int (5 : Int32))], [.int (-1 : Int32), .int (5 : Int32), .ref (151 : Nat)])) (h' := (zi_H L xs 159 155 215)) (fun _ => rfl)).trans ?_
  refine zi_ast (i := 5) rfl rfl (by decide) (by decide) rfl rfl ?_
  refine (zz_go 6 (fr' := (zm_S_init, d + 8, 93, [some (.ref (148 : Nat)), some (.int (6 : Int32))], [.ref (148 : Nat)])) (h' := (zi_H L xs 159 155 216)) (fun _ => rfl)).trans ?_
  refine zl_getR (r := 150) rfl rfl rfl ?_
  show zz_D (zm_S_init, d + 8, 96, [some (.ref (148 : Nat)), some (.int (6 : Int32))], [.ref (150 : Nat)]) (zi_H L xs 159 155 216) = _
  refine (zz_go 2 (fr' := (zm_S_init, d + 8, 98, [some (.ref (148 : Nat)), some (.int (6 : Int32))], [.int (6 : Int32), .int (6 : Int32), .ref (150 : Nat)])) (h' := (zi_H L xs 159 155 216)) (fun _ => rfl)).trans ?_
  refine zi_ast (i := 6) rfl rfl (by decide) (by decide) rfl rfl ?_
  refine (zz_go 1 (fr' := (zm_S_init, d + 8, 100, [some (.ref (148 : Nat)), some (.int (6 : Int32))], [.ref (148 : Nat)])) (h' := (zi_H L xs 159 155 217)) (fun _ => rfl)).trans ?_
  refine zl_getR (r := 151) rfl rfl rfl ?_
  show zz_D (zm_S_init, d + 8, 103, [some (.ref (148 : Nat)), some (.int (6 : Int32))], [.ref (151 : Nat)]) (zi_H L xs 159 155 217) = _
  refine (zz_go 2 (fr' := (zm_S_init, d + 8, 105, [some (.ref (148 : Nat)), some (.int (6 : Int32))], [.int (-1 : Int32), .int (6 : Int32), .ref (151 : Nat)])) (h' := (zi_H L xs 159 155 217)) (fun _ => rfl)).trans ?_
  refine zi_ast (i := 6) rfl rfl (by decide) (by decide) rfl rfl ?_
  refine (zz_go 6 (fr' := (zm_S_init, d + 8, 93, [some (.ref (148 : Nat)), some (.int (7 : Int32))], [.ref (148 : Nat)])) (h' := (zi_H L xs 159 155 218)) (fun _ => rfl)).trans ?_
  refine zl_getR (r := 150) rfl rfl rfl ?_
  show zz_D (zm_S_init, d + 8, 96, [some (.ref (148 : Nat)), some (.int (7 : Int32))], [.ref (150 : Nat)]) (zi_H L xs 159 155 218) = _
  refine (zz_go 2 (fr' := (zm_S_init, d + 8, 98, [some (.ref (148 : Nat)), some (.int (7 : Int32))], [.int (7 : Int32), .int (7 : Int32), .ref (150 : Nat)])) (h' := (zi_H L xs 159 155 218)) (fun _ => rfl)).trans ?_
  refine zi_ast (i := 7) rfl rfl (by decide) (by decide) rfl rfl ?_
  refine (zz_go 1 (fr' := (zm_S_init, d + 8, 100, [some (.ref (148 : Nat)), some (.int (7 : Int32))], [.ref (148 : Nat)])) (h' := (zi_H L xs 159 155 219)) (fun _ => rfl)).trans ?_
  refine zl_getR (r := 151) rfl rfl rfl ?_
  show zz_D (zm_S_init, d + 8, 103, [some (.ref (148 : Nat)), some (.int (7 : Int32))], [.ref (151 : Nat)]) (zi_H L xs 159 155 219) = _
  refine (zz_go 2 (fr' := (zm_S_init, d + 8, 105, [some (.ref (148 : Nat)), some (.int (7 : Int32))], [.int (-1 : Int32), .int (7 : Int32), .ref (151 : Nat)])) (h' := (zi_H L xs 159 155 219)) (fun _ => rfl)).trans ?_
  refine zi_ast (i := 7) rfl rfl (by decide) (by decide) rfl rfl ?_
  refine (zz_go 7 (fr' := (zm_S_init, d + 8, 115, [some (.ref (148 : Nat)), some (.int (8 : Int32))], [.int (100 : Int32), .ref (148 : Nat)])) (h' := (zi_H L xs 159 155 220)) (fun _ => rfl)).trans ?_
  refine zi_putI rfl rfl rfl rfl rfl ?_
  refine (zz_go 2 (fr' := (zm_S_init, d + 8, 120, [some (.ref (148 : Nat)), some (.int (8 : Int32))], [.int (1 : Int32), .ref (148 : Nat)])) (h' := (zi_H L xs 159 155 221)) (fun _ => rfl)).trans ?_
  refine zi_putI rfl rfl rfl rfl rfl ?_
  exact zz_end 1 (fun _ => rfl)
set_option maxRecDepth 40000 in
theorem ic_17 (L : Nat) (xs : Nat → Int32) (d : Nat) : zz_D (zm_S_init, d + 8, 0, [some (.ref (159 : Nat)), none], []) (zi_H L xs 160 156 222) = some (.inl none, (zi_H L xs 170 166 240)) := by
  refine (zz_go 4 (fr' := (zm_S_init, d + 8, 7, [some (.ref (159 : Nat)), none], [.int (8 : Int32), .ref (159 : Nat)])) (h' := (zi_H L xs 160 156 222)) (fun _ => rfl)).trans ?_
  refine zi_newa (c := 8) rfl rfl rfl rfl rfl rfl rfl ?_
  refine zi_putR rfl rfl rfl rfl ?_
  refine (zz_go 2 (fr' := (zm_S_init, d + 8, 15, [some (.ref (159 : Nat)), none], [.int (8 : Int32), .ref (159 : Nat)])) (h' := (zi_H L xs 161 157 222)) (fun _ => rfl)).trans ?_
  refine zi_newa (c := 8) rfl rfl rfl rfl rfl rfl rfl ?_
  refine zi_putR rfl rfl rfl rfl ?_
  refine (zz_go 2 (fr' := (zm_S_init, d + 8, 23, [some (.ref (159 : Nat)), none], [.int (8 : Int32), .ref (159 : Nat)])) (h' := (zi_H L xs 162 158 222)) (fun _ => rfl)).trans ?_
  refine zi_newa (c := 8) rfl rfl rfl rfl rfl rfl rfl ?_
  refine zi_putR rfl rfl rfl rfl ?_
  refine (zz_go 2 (fr' := (zm_S_init, d + 8, 31, [some (.ref (159 : Nat)), none], [.int (6 : Int32), .ref (159 : Nat)])) (h' := (zi_H L xs 163 159 222)) (fun _ => rfl)).trans ?_
  refine zi_newa (c := 6) rfl rfl rfl rfl rfl rfl rfl ?_
  refine zi_putR rfl rfl rfl rfl ?_
  refine (zz_go 2 (fr' := (zm_S_init, d + 8, 39, [some (.ref (159 : Nat)), none], [.int (6 : Int32), .ref (159 : Nat)])) (h' := (zi_H L xs 164 160 222)) (fun _ => rfl)).trans ?_
  refine zi_newa (c := 6) rfl rfl rfl rfl rfl rfl rfl ?_
  refine zi_putR rfl rfl rfl rfl ?_
  refine (zz_go 2 (fr' := (zm_S_init, d + 8, 47, [some (.ref (159 : Nat)), none], [.int (6 : Int32), .ref (159 : Nat)])) (h' := (zi_H L xs 165 161 222)) (fun _ => rfl)).trans ?_
  refine zi_newa (c := 6) rfl rfl rfl rfl rfl rfl rfl ?_
  refine zi_putR rfl rfl rfl rfl ?_
  refine (zz_go 2 (fr' := (zm_S_init, d + 8, 55, [some (.ref (159 : Nat)), none], [.int (6 : Int32), .ref (159 : Nat)])) (h' := (zi_H L xs 166 162 222)) (fun _ => rfl)).trans ?_
  refine zi_newa (c := 6) rfl rfl rfl rfl rfl rfl rfl ?_
  refine zi_putR rfl rfl rfl rfl ?_
  refine (zz_go 2 (fr' := (zm_S_init, d + 8, 63, [some (.ref (159 : Nat)), none], [.int (6 : Int32), .ref (159 : Nat)])) (h' := (zi_H L xs 167 163 222)) (fun _ => rfl)).trans ?_
  refine zi_newa (c := 6) rfl rfl rfl rfl rfl rfl rfl ?_
  refine zi_putR rfl rfl rfl rfl ?_
  refine (zz_go 2 (fr' := (zm_S_init, d + 8, 71, [some (.ref (159 : Nat)), none], [.int (6 : Int32), .ref (159 : Nat)])) (h' := (zi_H L xs 168 164 222)) (fun _ => rfl)).trans ?_
  refine zi_newa (c := 6) rfl rfl rfl rfl rfl rfl rfl ?_
  refine zi_putR rfl rfl rfl rfl ?_
  refine (zz_go 2 (fr' := (zm_S_init, d + 8, 79, [some (.ref (159 : Nat)), none], [.int (60 : Int32), .ref (159 : Nat)])) (h' := (zi_H L xs 169 165 222)) (fun _ => rfl)).trans ?_
  refine zi_newa (c := 60) rfl rfl rfl rfl rfl rfl rfl ?_
  refine zi_putR rfl rfl rfl rfl ?_
  refine (zz_go 6 (fr' := (zm_S_init, d + 8, 93, [some (.ref (159 : Nat)), some (.int (0 : Int32))], [.ref (159 : Nat)])) (h' := (zi_H L xs 170 166 222)) (fun _ => rfl)).trans ?_
  refine zl_getR (r := 161) rfl rfl rfl ?_
  show zz_D (zm_S_init, d + 8, 96, [some (.ref (159 : Nat)), some (.int (0 : Int32))], [.ref (161 : Nat)]) (zi_H L xs 170 166 222) = _
  refine (zz_go 2 (fr' := (zm_S_init, d + 8, 98, [some (.ref (159 : Nat)), some (.int (0 : Int32))], [.int (0 : Int32), .int (0 : Int32), .ref (161 : Nat)])) (h' := (zi_H L xs 170 166 222)) (fun _ => rfl)).trans ?_
  refine zi_ast (i := 0) rfl rfl (by decide) (by decide) rfl rfl ?_
  refine (zz_go 1 (fr' := (zm_S_init, d + 8, 100, [some (.ref (159 : Nat)), some (.int (0 : Int32))], [.ref (159 : Nat)])) (h' := (zi_H L xs 170 166 223)) (fun _ => rfl)).trans ?_
  refine zl_getR (r := 162) rfl rfl rfl ?_
  show zz_D (zm_S_init, d + 8, 103, [some (.ref (159 : Nat)), some (.int (0 : Int32))], [.ref (162 : Nat)]) (zi_H L xs 170 166 223) = _
  refine (zz_go 2 (fr' := (zm_S_init, d + 8, 105, [some (.ref (159 : Nat)), some (.int (0 : Int32))], [.int (-1 : Int32), .int (0 : Int32), .ref (162 : Nat)])) (h' := (zi_H L xs 170 166 223)) (fun _ => rfl)).trans ?_
  refine zi_ast (i := 0) rfl rfl (by decide) (by decide) rfl rfl ?_
  refine (zz_go 6 (fr' := (zm_S_init, d + 8, 93, [some (.ref (159 : Nat)), some (.int (1 : Int32))], [.ref (159 : Nat)])) (h' := (zi_H L xs 170 166 224)) (fun _ => rfl)).trans ?_
  refine zl_getR (r := 161) rfl rfl rfl ?_
  show zz_D (zm_S_init, d + 8, 96, [some (.ref (159 : Nat)), some (.int (1 : Int32))], [.ref (161 : Nat)]) (zi_H L xs 170 166 224) = _
  refine (zz_go 2 (fr' := (zm_S_init, d + 8, 98, [some (.ref (159 : Nat)), some (.int (1 : Int32))], [.int (1 : Int32), .int (1 : Int32), .ref (161 : Nat)])) (h' := (zi_H L xs 170 166 224)) (fun _ => rfl)).trans ?_
  refine zi_ast (i := 1) rfl rfl (by decide) (by decide) rfl rfl ?_
  refine (zz_go 1 (fr' := (zm_S_init, d + 8, 100, [some (.ref (159 : Nat)), some (.int (1 : Int32))], [.ref (159 : Nat)])) (h' := (zi_H L xs 170 166 225)) (fun _ => rfl)).trans ?_
  refine zl_getR (r := 162) rfl rfl rfl ?_
  show zz_D (zm_S_init, d + 8, 103, [some (.ref (159 : Nat)), some (.int (1 : Int32))], [.ref (162 : Nat)]) (zi_H L xs 170 166 225) = _
  refine (zz_go 2 (fr' := (zm_S_init, d + 8, 105, [some (.ref (159 : Nat)), some (.int (1 : Int32))], [.int (-1 : Int32), .int (1 : Int32), .ref (162 : Nat)])) (h' := (zi_H L xs 170 166 225)) (fun _ => rfl)).trans ?_
  refine zi_ast (i := 1) rfl rfl (by decide) (by decide) rfl rfl ?_
  refine (zz_go 6 (fr' := (zm_S_init, d + 8, 93, [some (.ref (159 : Nat)), some (.int (2 : Int32))], [.ref (159 : Nat)])) (h' := (zi_H L xs 170 166 226)) (fun _ => rfl)).trans ?_
  refine zl_getR (r := 161) rfl rfl rfl ?_
  show zz_D (zm_S_init, d + 8, 96, [some (.ref (159 : Nat)), some (.int (2 : Int32))], [.ref (161 : Nat)]) (zi_H L xs 170 166 226) = _
  refine (zz_go 2 (fr' := (zm_S_init, d + 8, 98, [some (.ref (159 : Nat)), some (.int (2 : Int32))], [.int (2 : Int32), .int (2 : Int32), .ref (161 : Nat)])) (h' := (zi_H L xs 170 166 226)) (fun _ => rfl)).trans ?_
  refine zi_ast (i := 2) rfl rfl (by decide) (by decide) rfl rfl ?_
  refine (zz_go 1 (fr' := (zm_S_init, d + 8, 100, [some (.ref (159 : Nat)), some (.int (2 : Int32))], [.ref (159 : Nat)])) (h' := (zi_H L xs 170 166 227)) (fun _ => rfl)).trans ?_
  refine zl_getR (r := 162) rfl rfl rfl ?_
  show zz_D (zm_S_init, d + 8, 103, [some (.ref (159 : Nat)), some (.int (2 : Int32))], [.ref (162 : Nat)]) (zi_H L xs 170 166 227) = _
  refine (zz_go 2 (fr' := (zm_S_init, d + 8, 105, [some (.ref (159 : Nat)), some (.int (2 : Int32))], [.int (-1 : Int32), .int (2 : Int32), .ref (162 : Nat)])) (h' := (zi_H L xs 170 166 227)) (fun _ => rfl)).trans ?_
  refine zi_ast (i := 2) rfl rfl (by decide) (by decide) rfl rfl ?_
  refine (zz_go 6 (fr' := (zm_S_init, d + 8, 93, [some (.ref (159 : Nat)), some (.int (3 : Int32))], [.ref (159 : Nat)])) (h' := (zi_H L xs 170 166 228)) (fun _ => rfl)).trans ?_
  refine zl_getR (r := 161) rfl rfl rfl ?_
  show zz_D (zm_S_init, d + 8, 96, [some (.ref (159 : Nat)), some (.int (3 : Int32))], [.ref (161 : Nat)]) (zi_H L xs 170 166 228) = _
  refine (zz_go 2 (fr' := (zm_S_init, d + 8, 98, [some (.ref (159 : Nat)), some (.int (3 : Int32))], [.int (3 : Int32), .int (3 : Int32), .ref (161 : Nat)])) (h' := (zi_H L xs 170 166 228)) (fun _ => rfl)).trans ?_
  refine zi_ast (i := 3) rfl rfl (by decide) (by decide) rfl rfl ?_
  refine (zz_go 1 (fr' := (zm_S_init, d + 8, 100, [some (.ref (159 : Nat)), some (.int (3 : Int32))], [.ref (159 : Nat)])) (h' := (zi_H L xs 170 166 229)) (fun _ => rfl)).trans ?_
  refine zl_getR (r := 162) rfl rfl rfl ?_
  show zz_D (zm_S_init, d + 8, 103, [some (.ref (159 : Nat)), some (.int (3 : Int32))], [.ref (162 : Nat)]) (zi_H L xs 170 166 229) = _
  refine (zz_go 2 (fr' := (zm_S_init, d + 8, 105, [some (.ref (159 : Nat)), some (.int (3 : Int32))], [.int (-1 : Int32), .int (3 : Int32), .ref (162 : Nat)])) (h' := (zi_H L xs 170 166 229)) (fun _ => rfl)).trans ?_
  refine zi_ast (i := 3) rfl rfl (by decide) (by decide) rfl rfl ?_
  refine (zz_go 6 (fr' := (zm_S_init, d + 8, 93, [some (.ref (159 : Nat)), some (.int (4 : Int32))], [.ref (159 : Nat)])) (h' := (zi_H L xs 170 166 230)) (fun _ => rfl)).trans ?_
  refine zl_getR (r := 161) rfl rfl rfl ?_
  show zz_D (zm_S_init, d + 8, 96, [some (.ref (159 : Nat)), some (.int (4 : Int32))], [.ref (161 : Nat)]) (zi_H L xs 170 166 230) = _
  refine (zz_go 2 (fr' := (zm_S_init, d + 8, 98, [some (.ref (159 : Nat)), some (.int (4 : Int32))], [.int (4 : Int32), .int (4 : Int32), .ref (161 : Nat)])) (h' := (zi_H L xs 170 166 230)) (fun _ => rfl)).trans ?_
  refine zi_ast (i := 4) rfl rfl (by decide) (by decide) rfl rfl ?_
  refine (zz_go 1 (fr' := (zm_S_init, d + 8, 100, [some (.ref (159 : Nat)), some (.int (4 : Int32))], [.ref (159 : Nat)])) (h' := (zi_H L xs 170 166 231)) (fun _ => rfl)).trans ?_
  refine zl_getR (r := 162) rfl rfl rfl ?_
  show zz_D (zm_S_init, d + 8, 103, [some (.ref (159 : Nat)), some (.int (4 : Int32))], [.ref (162 : Nat)]) (zi_H L xs 170 166 231) = _
  refine (zz_go 2 (fr' := (zm_S_init, d + 8, 105, [some (.ref (159 : Nat)), some (.int (4 : Int32))], [.int (-1 : Int32), .int (4 : Int32), .ref (162 : Nat)])) (h' := (zi_H L xs 170 166 231)) (fun _ => rfl)).trans ?_
  refine zi_ast (i := 4) rfl rfl (by decide) (by decide) rfl rfl ?_
  refine (zz_go 6 (fr' := (zm_S_init, d + 8, 93, [some (.ref (159 : Nat)), some (.int (5 : Int32))], [.ref (159 : Nat)])) (h' := (zi_H L xs 170 166 232)) (fun _ => rfl)).trans ?_
  refine zl_getR (r := 161) rfl rfl rfl ?_
  show zz_D (zm_S_init, d + 8, 96, [some (.ref (159 : Nat)), some (.int (5 : Int32))], [.ref (161 : Nat)]) (zi_H L xs 170 166 232) = _
  refine (zz_go 2 (fr' := (zm_S_init, d + 8, 98, [some (.ref (159 : Nat)), some (.int (5 : Int32))], [.int (5 : Int32), .int (5 : Int32), .ref (161 : Nat)])) (h' := (zi_H L xs 170 166 232)) (fun _ => rfl)).trans ?_
  refine zi_ast (i := 5) rfl rfl (by decide) (by decide) rfl rfl ?_
  refine (zz_go 1 (fr' := (zm_S_init, d + 8, 100, [some (.ref (159 : Nat)), some (.int (5 : Int32))], [.ref (159 : Nat)])) (h' := (zi_H L xs 170 166 233)) (fun _ => rfl)).trans ?_
  refine zl_getR (r := 162) rfl rfl rfl ?_
  show zz_D (zm_S_init, d + 8, 103, [some (.ref (159 : Nat)), some (.int (5 : Int32))], [.ref (162 : Nat)]) (zi_H L xs 170 166 233) = _
  refine (zz_go 2 (fr' := (zm_S_init, d + 8, 105, [some (.ref (159 : Nat)), some (.int (5 : Int32))], [.int (-1 : Int32), .int (5 : Int32), .ref (162 : Nat)])) (h' := (zi_H L xs 170 166 233)) (fun _ => rfl)).trans ?_
  refine zi_ast (i := 5) rfl rfl (by decide) (by decide) rfl rfl ?_
  refine (zz_go 6 (fr' := (zm_S_init, d + 8, 93, [some (.ref (159 : Nat)), some (.int (6 : Int32))], [.ref (159 : Nat)])) (h' := (zi_H L xs 170 166 234)) (fun _ => rfl)).trans ?_
  refine zl_getR (r := 161) rfl rfl rfl ?_
  show zz_D (zm_S_init, d + 8, 96, [some (.ref (159 : Nat)), some (.int (6 : Int32))], [.ref (161 : Nat)]) (zi_H L xs 170 166 234) = _
  refine (zz_go 2 (fr' := (zm_S_init, d + 8, 98, [some (.ref (159 : Nat)), some (.int (6 : Int32))], [.int (6 : Int32), .int (6 : Int32), .ref (161 : Nat)])) (h' := (zi_H L xs 170 166 234)) (fun _ => rfl)).trans ?_
  refine zi_ast (i := 6) rfl rfl (by decide) (by decide) rfl rfl ?_
  refine (zz_go 1 (fr' := (zm_S_init, d + 8, 100, [some (.ref (159 : Nat)), some (.int (6 : Int32))], [.ref (159 : Nat)])) (h' := (zi_H L xs 170 166 235)) (fun _ => rfl)).trans ?_
  refine zl_getR (r := 162) rfl rfl rfl ?_
  show zz_D (zm_S_init, d + 8, 103, [some (.ref (159 : Nat)), some (.int (6 : Int32))], [.ref (162 : Nat)]) (zi_H L xs 170 166 235) = _
  refine (zz_go 2 (fr' := (zm_S_init, d + 8, 105, [some (.ref (159 : Nat)), some (.int (6 : Int32))], [.int (-1 : Int32), .int (6 : Int32), .ref (162 : Nat)])) (h' := (zi_H L xs 170 166 235)) (fun _ => rfl)).trans ?_
  refine zi_ast (i := 6) rfl rfl (by decide) (by decide) rfl rfl ?_
  refine (zz_go 6 (fr' := (zm_S_init, d + 8, 93, [some (.ref (159 : Nat)), some (.int (7 : Int32))], [.ref (159 : Nat)])) (h' := (zi_H L xs 170 166 236)) (fun _ => rfl)).trans ?_
  refine zl_getR (r := 161) rfl rfl rfl ?_
  show zz_D (zm_S_init, d + 8, 96, [some (.ref (159 : Nat)), some (.int (7 : Int32))], [.ref (161 : Nat)]) (zi_H L xs 170 166 236) = _
  refine (zz_go 2 (fr' := (zm_S_init, d + 8, 98, [some (.ref (159 : Nat)), some (.int (7 : Int32))], [.int (7 : Int32), .int (7 : Int32), .ref (161 : Nat)])) (h' := (zi_H L xs 170 166 236)) (fun _ => rfl)).trans ?_
  refine zi_ast (i := 7) rfl rfl (by decide) (by decide) rfl rfl ?_
  refine (zz_go 1 (fr' := (zm_S_init, d + 8, 100, [some (.ref (159 : Nat)), some (.int (7 : Int32))], [.ref (159 : Nat)])) (h' := (zi_H L xs 170 166 237)) (fun _ => rfl)).trans ?_
  refine zl_getR (r := 162) rfl rfl rfl ?_
  show zz_D (zm_S_init, d + 8, 103, [some (.ref (159 : Nat)), some (.int (7 : Int32))], [.ref (162 : Nat)]) (zi_H L xs 170 166 237) = _
  refine (zz_go 2 (fr' := (zm_S_init, d + 8, 105, [some (.ref (159 : Nat)), some (.int (7 : Int32))], [.int (-1 : Int32), .int (7 : Int32), .ref (162 : Nat)])) (h' := (zi_H L xs 170 166 237)) (fun _ => rfl)).trans ?_
  refine zi_ast (i := 7) rfl rfl (by decide) (by decide) rfl rfl ?_
  refine (zz_go 7 (fr' := (zm_S_init, d + 8, 115, [some (.ref (159 : Nat)), some (.int (8 : Int32))], [.int (100 : Int32), .ref (159 : Nat)])) (h' := (zi_H L xs 170 166 238)) (fun _ => rfl)).trans ?_
  refine zi_putI rfl rfl rfl rfl rfl ?_
  refine (zz_go 2 (fr' := (zm_S_init, d + 8, 120, [some (.ref (159 : Nat)), some (.int (8 : Int32))], [.int (1 : Int32), .ref (159 : Nat)])) (h' := (zi_H L xs 170 166 239)) (fun _ => rfl)).trans ?_
  refine zi_putI rfl rfl rfl rfl rfl ?_
  exact zz_end 1 (fun _ => rfl)
set_option maxRecDepth 40000 in
theorem ic_18 (L : Nat) (xs : Nat → Int32) (d : Nat) : zz_D (zm_S_init, d + 8, 0, [some (.ref (170 : Nat)), none], []) (zi_H L xs 171 167 240) = some (.inl none, (zi_H L xs 181 177 258)) := by
  refine (zz_go 4 (fr' := (zm_S_init, d + 8, 7, [some (.ref (170 : Nat)), none], [.int (8 : Int32), .ref (170 : Nat)])) (h' := (zi_H L xs 171 167 240)) (fun _ => rfl)).trans ?_
  refine zi_newa (c := 8) rfl rfl rfl rfl rfl rfl rfl ?_
  refine zi_putR rfl rfl rfl rfl ?_
  refine (zz_go 2 (fr' := (zm_S_init, d + 8, 15, [some (.ref (170 : Nat)), none], [.int (8 : Int32), .ref (170 : Nat)])) (h' := (zi_H L xs 172 168 240)) (fun _ => rfl)).trans ?_
  refine zi_newa (c := 8) rfl rfl rfl rfl rfl rfl rfl ?_
  refine zi_putR rfl rfl rfl rfl ?_
  refine (zz_go 2 (fr' := (zm_S_init, d + 8, 23, [some (.ref (170 : Nat)), none], [.int (8 : Int32), .ref (170 : Nat)])) (h' := (zi_H L xs 173 169 240)) (fun _ => rfl)).trans ?_
  refine zi_newa (c := 8) rfl rfl rfl rfl rfl rfl rfl ?_
  refine zi_putR rfl rfl rfl rfl ?_
  refine (zz_go 2 (fr' := (zm_S_init, d + 8, 31, [some (.ref (170 : Nat)), none], [.int (6 : Int32), .ref (170 : Nat)])) (h' := (zi_H L xs 174 170 240)) (fun _ => rfl)).trans ?_
  refine zi_newa (c := 6) rfl rfl rfl rfl rfl rfl rfl ?_
  refine zi_putR rfl rfl rfl rfl ?_
  refine (zz_go 2 (fr' := (zm_S_init, d + 8, 39, [some (.ref (170 : Nat)), none], [.int (6 : Int32), .ref (170 : Nat)])) (h' := (zi_H L xs 175 171 240)) (fun _ => rfl)).trans ?_
  refine zi_newa (c := 6) rfl rfl rfl rfl rfl rfl rfl ?_
  refine zi_putR rfl rfl rfl rfl ?_
  refine (zz_go 2 (fr' := (zm_S_init, d + 8, 47, [some (.ref (170 : Nat)), none], [.int (6 : Int32), .ref (170 : Nat)])) (h' := (zi_H L xs 176 172 240)) (fun _ => rfl)).trans ?_
  refine zi_newa (c := 6) rfl rfl rfl rfl rfl rfl rfl ?_
  refine zi_putR rfl rfl rfl rfl ?_
  refine (zz_go 2 (fr' := (zm_S_init, d + 8, 55, [some (.ref (170 : Nat)), none], [.int (6 : Int32), .ref (170 : Nat)])) (h' := (zi_H L xs 177 173 240)) (fun _ => rfl)).trans ?_
  refine zi_newa (c := 6) rfl rfl rfl rfl rfl rfl rfl ?_
  refine zi_putR rfl rfl rfl rfl ?_
  refine (zz_go 2 (fr' := (zm_S_init, d + 8, 63, [some (.ref (170 : Nat)), none], [.int (6 : Int32), .ref (170 : Nat)])) (h' := (zi_H L xs 178 174 240)) (fun _ => rfl)).trans ?_
  refine zi_newa (c := 6) rfl rfl rfl rfl rfl rfl rfl ?_
  refine zi_putR rfl rfl rfl rfl ?_
  refine (zz_go 2 (fr' := (zm_S_init, d + 8, 71, [some (.ref (170 : Nat)), none], [.int (6 : Int32), .ref (170 : Nat)])) (h' := (zi_H L xs 179 175 240)) (fun _ => rfl)).trans ?_
  refine zi_newa (c := 6) rfl rfl rfl rfl rfl rfl rfl ?_
  refine zi_putR rfl rfl rfl rfl ?_
  refine (zz_go 2 (fr' := (zm_S_init, d + 8, 79, [some (.ref (170 : Nat)), none], [.int (60 : Int32), .ref (170 : Nat)])) (h' := (zi_H L xs 180 176 240)) (fun _ => rfl)).trans ?_
  refine zi_newa (c := 60) rfl rfl rfl rfl rfl rfl rfl ?_
  refine zi_putR rfl rfl rfl rfl ?_
  refine (zz_go 6 (fr' := (zm_S_init, d + 8, 93, [some (.ref (170 : Nat)), some (.int (0 : Int32))], [.ref (170 : Nat)])) (h' := (zi_H L xs 181 177 240)) (fun _ => rfl)).trans ?_
  refine zl_getR (r := 172) rfl rfl rfl ?_
  show zz_D (zm_S_init, d + 8, 96, [some (.ref (170 : Nat)), some (.int (0 : Int32))], [.ref (172 : Nat)]) (zi_H L xs 181 177 240) = _
  refine (zz_go 2 (fr' := (zm_S_init, d + 8, 98, [some (.ref (170 : Nat)), some (.int (0 : Int32))], [.int (0 : Int32), .int (0 : Int32), .ref (172 : Nat)])) (h' := (zi_H L xs 181 177 240)) (fun _ => rfl)).trans ?_
  refine zi_ast (i := 0) rfl rfl (by decide) (by decide) rfl rfl ?_
  refine (zz_go 1 (fr' := (zm_S_init, d + 8, 100, [some (.ref (170 : Nat)), some (.int (0 : Int32))], [.ref (170 : Nat)])) (h' := (zi_H L xs 181 177 241)) (fun _ => rfl)).trans ?_
  refine zl_getR (r := 173) rfl rfl rfl ?_
  show zz_D (zm_S_init, d + 8, 103, [some (.ref (170 : Nat)), some (.int (0 : Int32))], [.ref (173 : Nat)]) (zi_H L xs 181 177 241) = _
  refine (zz_go 2 (fr' := (zm_S_init, d + 8, 105, [some (.ref (170 : Nat)), some (.int (0 : Int32))], [.int (-1 : Int32), .int (0 : Int32), .ref (173 : Nat)])) (h' := (zi_H L xs 181 177 241)) (fun _ => rfl)).trans ?_
  refine zi_ast (i := 0) rfl rfl (by decide) (by decide) rfl rfl ?_
  refine (zz_go 6 (fr' := (zm_S_init, d + 8, 93, [some (.ref (170 : Nat)), some (.int (1 : Int32))], [.ref (170 : Nat)])) (h' := (zi_H L xs 181 177 242)) (fun _ => rfl)).trans ?_
  refine zl_getR (r := 172) rfl rfl rfl ?_
  show zz_D (zm_S_init, d + 8, 96, [some (.ref (170 : Nat)), some (.int (1 : Int32))], [.ref (172 : Nat)]) (zi_H L xs 181 177 242) = _
  refine (zz_go 2 (fr' := (zm_S_init, d + 8, 98, [some (.ref (170 : Nat)), some (.int (1 : Int32))], [.int (1 : Int32), .int (1 : Int32), .ref (172 : Nat)])) (h' := (zi_H L xs 181 177 242)) (fun _ => rfl)).trans ?_
  refine zi_ast (i := 1) rfl rfl (by decide) (by decide) rfl rfl ?_
  refine (zz_go 1 (fr' := (zm_S_init, d + 8, 100, [some (.ref (170 : Nat)), some (.int (1 : Int32))], [.ref (170 : Nat)])) (h' := (zi_H L xs 181 177 243)) (fun _ => rfl)).trans ?_
  refine zl_getR (r := 173) rfl rfl rfl ?_
  show zz_D (zm_S_init, d + 8, 103, [some (.ref (170 : Nat)), some (.int (1 : Int32))], [.ref (173 : Nat)]) (zi_H L xs 181 177 243) = _
  refine (zz_go 2 (fr' := (zm_S_init, d + 8, 105, [some (.ref (170 : Nat)), some (.int (1 : Int32))], [.int (-1 : Int32), .int (1 : Int32), .ref (173 : Nat)])) (h' := (zi_H L xs 181 177 243)) (fun _ => rfl)).trans ?_
  refine zi_ast (i := 1) rfl rfl (by decide) (by decide) rfl rfl ?_
  refine (zz_go 6 (fr' := (zm_S_init, d + 8, 93, [some (.ref (170 : Nat)), some (.int (2 : Int32))], [.ref (170 : Nat)])) (h' := (zi_H L xs 181 177 244)) (fun _ => rfl)).trans ?_
  refine zl_getR (r := 172) rfl rfl rfl ?_
  show zz_D (zm_S_init, d + 8, 96, [some (.ref (170 : Nat)), some (.int (2 : Int32))], [.ref (172 : Nat)]) (zi_H L xs 181 177 244) = _
  refine (zz_go 2 (fr' := (zm_S_init, d + 8, 98, [some (.ref (170 : Nat)), some (.int (2 : Int32))], [.int (2 : Int32), .int (2 : Int32), .ref (172 : Nat)])) (h' := (zi_H L xs 181 177 244)) (fun _ => rfl)).trans ?_
  refine zi_ast (i := 2) rfl rfl (by decide) (by decide) rfl rfl ?_
  refine (zz_go 1 (fr' := (zm_S_init, d + 8, 100, [some (.ref (170 : Nat)), some (.int (2 : Int32))], [.ref (170 : Nat)])) (h' := (zi_H L xs 181 177 245)) (fun _ => rfl)).trans ?_
  refine zl_getR (r := 173) rfl rfl rfl ?_
  show zz_D (zm_S_init, d + 8, 103, [some (.ref (170 : Nat)), some (.int (2 : Int32))], [.ref (173 : Nat)]) (zi_H L xs 181 177 245) = _
  refine (zz_go 2 (fr' := (zm_S_init, d + 8, 105, [some (.ref (170 : Nat)), some (.int (2 : Int32))], [.int (-1 : Int32), .int (2 : Int32), .ref (173 : Nat)])) (h' := (zi_H L xs 181 177 245)) (fun _ => rfl)).trans ?_
  refine zi_ast (i := 2) rfl rfl (by decide) (by decide) rfl rfl ?_
  refine (zz_go 6 (fr' := (zm_S_init, d + 8, 93, [some (.ref (170 : Nat)), some (.int (3 : Int32))], [.ref (170 : Nat)])) (h' := (zi_H L xs 181 177 246)) (fun _ => rfl)).trans ?_
  refine zl_getR (r := 172) rfl rfl rfl ?_
  show zz_D (zm_S_init, d + 8, 96, [some (.ref (170 : Nat)), some (.int (3 : Int32))], [.ref (172 : Nat)]) (zi_H L xs 181 177 246) = _
  refine (zz_go 2 (fr' := (zm_S_init, d + 8, 98, [some (.ref (170 : Nat)), some (.int (3 : Int32))], [.int (3 : Int32), .int (3 : Int32), .ref (172 : Nat)])) (h' := (zi_H L xs 181 177 246)) (fun _ => rfl)).trans ?_
  refine zi_ast (i := 3) rfl rfl (by decide) (by decide) rfl rfl ?_
  refine (zz_go 1 (fr' := (zm_S_init, d + 8, 100, [some (.ref (170 : Nat)), some (.int (3 : Int32))], [.ref (170 : Nat)])) (h' := (zi_H L xs 181 177 247)) (fun _ => rfl)).trans ?_
  refine zl_getR (r := 173) rfl rfl rfl ?_
  show zz_D (zm_S_init, d + 8, 103, [some (.ref (170 : Nat)), some (.int (3 : Int32))], [.ref (173 : Nat)]) (zi_H L xs 181 177 247) = _
  refine (zz_go 2 (fr' := (zm_S_init, d + 8, 105, [some (.ref (170 : Nat)), some (.int (3 : Int32))], [.int (-1 : Int32), .int (3 : Int32), .ref (173 : Nat)])) (h' := (zi_H L xs 181 177 247)) (fun _ => rfl)).trans ?_
  refine zi_ast (i := 3) rfl rfl (by decide) (by decide) rfl rfl ?_
  refine (zz_go 6 (fr' := (zm_S_init, d + 8, 93, [some (.ref (170 : Nat)), some (.int (4 : Int32))], [.ref (170 : Nat)])) (h' := (zi_H L xs 181 177 248)) (fun _ => rfl)).trans ?_
  refine zl_getR (r := 172) rfl rfl rfl ?_
  show zz_D (zm_S_init, d + 8, 96, [some (.ref (170 : Nat)), some (.int (4 : Int32))], [.ref (172 : Nat)]) (zi_H L xs 181 177 248) = _
  refine (zz_go 2 (fr' := (zm_S_init, d + 8, 98, [some (.ref (170 : Nat)), some (.int (4 : Int32))], [.int (4 : Int32), .int (4 : Int32), .ref (172 : Nat)])) (h' := (zi_H L xs 181 177 248)) (fun _ => rfl)).trans ?_
  refine zi_ast (i := 4) rfl rfl (by decide) (by decide) rfl rfl ?_
  refine (zz_go 1 (fr' := (zm_S_init, d + 8, 100, [some (.ref (170 : Nat)), some (.int (4 : Int32))], [.ref (170 : Nat)])) (h' := (zi_H L xs 181 177 249)) (fun _ => rfl)).trans ?_
  refine zl_getR (r := 173) rfl rfl rfl ?_
  show zz_D (zm_S_init, d + 8, 103, [some (.ref (170 : Nat)), some (.int (4 : Int32))], [.ref (173 : Nat)]) (zi_H L xs 181 177 249) = _
  refine (zz_go 2 (fr' := (zm_S_init, d + 8, 105, [some (.ref (170 : Nat)), some (.int (4 : Int32))], [.int (-1 : Int32), .int (4 : Int32), .ref (173 : Nat)])) (h' := (zi_H L xs 181 177 249)) (fun _ => rfl)).trans ?_
  refine zi_ast (i := 4) rfl rfl (by decide) (by decide) rfl rfl ?_
  refine (zz_go 6 (fr' := (zm_S_init, d + 8, 93, [some (.ref (170 : Nat)), some (.int (5 : Int32))], [.ref (170 : Nat)])) (h' := (zi_H L xs 181 177 250)) (fun _ => rfl)).trans ?_
  refine zl_getR (r := 172) rfl rfl rfl ?_
  show zz_D (zm_S_init, d + 8, 96, [some (.ref (170 : Nat)), some (.int (5 : Int32))], [.ref (172 : Nat)]) (zi_H L xs 181 177 250) = _
  refine (zz_go 2 (fr' := (zm_S_init, d + 8, 98, [some (.ref (170 : Nat)), some (.int (5 : Int32))], [.int (5 : Int32), .int (5 : Int32), .ref (172 : Nat)])) (h' := (zi_H L xs 181 177 250)) (fun _ => rfl)).trans ?_
  refine zi_ast (i := 5) rfl rfl (by decide) (by decide) rfl rfl ?_
  refine (zz_go 1 (fr' := (zm_S_init, d + 8, 100, [some (.ref (170 : Nat)), some (.int (5 : Int32))], [.ref (170 : Nat)])) (h' := (zi_H L xs 181 177 251)) (fun _ => rfl)).trans ?_
  refine zl_getR (r := 173) rfl rfl rfl ?_
  show zz_D (zm_S_init, d + 8, 103, [some (.ref (170 : Nat)), some (.int (5 : Int32))], [.ref (173 : Nat)]) (zi_H L xs 181 177 251) = _
  refine (zz_go 2 (fr' := (zm_S_init, d + 8, 105, [some (.ref (170 : Nat)), some (.int (5 : Int32))], [.int (-1 : Int32), .int (5 : Int32), .ref (173 : Nat)])) (h' := (zi_H L xs 181 177 251)) (fun _ => rfl)).trans ?_
  refine zi_ast (i := 5) rfl rfl (by decide) (by decide) rfl rfl ?_
  refine (zz_go 6 (fr' := (zm_S_init, d + 8, 93, [some (.ref (170 : Nat)), some (.int (6 : Int32))], [.ref (170 : Nat)])) (h' := (zi_H L xs 181 177 252)) (fun _ => rfl)).trans ?_
  refine zl_getR (r := 172) rfl rfl rfl ?_
  show zz_D (zm_S_init, d + 8, 96, [some (.ref (170 : Nat)), some (.int (6 : Int32))], [.ref (172 : Nat)]) (zi_H L xs 181 177 252) = _
  refine (zz_go 2 (fr' := (zm_S_init, d + 8, 98, [some (.ref (170 : Nat)), some (.int (6 : Int32))], [.int (6 : Int32), .int (6 : Int32), .ref (172 : Nat)])) (h' := (zi_H L xs 181 177 252)) (fun _ => rfl)).trans ?_
  refine zi_ast (i := 6) rfl rfl (by decide) (by decide) rfl rfl ?_
  refine (zz_go 1 (fr' := (zm_S_init, d + 8, 100, [some (.ref (170 : Nat)), some (.int (6 : Int32))], [.ref (170 : Nat)])) (h' := (zi_H L xs 181 177 253)) (fun _ => rfl)).trans ?_
  refine zl_getR (r := 173) rfl rfl rfl ?_
  show zz_D (zm_S_init, d + 8, 103, [some (.ref (170 : Nat)), some (.int (6 : Int32))], [.ref (173 : Nat)]) (zi_H L xs 181 177 253) = _
  refine (zz_go 2 (fr' := (zm_S_init, d + 8, 105, [some (.ref (170 : Nat)), some (.int (6 : Int32))], [.int (-1 : Int32), .int (6 : Int32), .ref (173 : Nat)])) (h' := (zi_H L xs 181 177 253)) (fun _ => rfl)).trans ?_
  refine zi_ast (i := 6) rfl rfl (by decide) (by decide) rfl rfl ?_
  refine (zz_go 6 (fr' := (zm_S_init, d + 8, 93, [some (.ref (170 : Nat)), some (.int (7 : Int32))], [.ref (170 : Nat)])) (h' := (zi_H L xs 181 177 254)) (fun _ => rfl)).trans ?_
  refine zl_getR (r := 172) rfl rfl rfl ?_
  show zz_D (zm_S_init, d + 8, 96, [some (.ref (170 : Nat)), some (.int (7 : Int32))], [.ref (172 : Nat)]) (zi_H L xs 181 177 254) = _
  refine (zz_go 2 (fr' := (zm_S_init, d + 8, 98, [some (.ref (170 : Nat)), some (.int (7 : Int32))], [.int (7 : Int32), .int (7 : Int32), .ref (172 : Nat)])) (h' := (zi_H L xs 181 177 254)) (fun _ => rfl)).trans ?_
  refine zi_ast (i := 7) rfl rfl (by decide) (by decide) rfl rfl ?_
  refine (zz_go 1 (fr' := (zm_S_init, d + 8, 100, [some (.ref (170 : Nat)), some (.int (7 : Int32))], [.ref (170 : Nat)])) (h' := (zi_H L xs 181 177 255)) (fun _ => rfl)).trans ?_
  refine zl_getR (r := 173) rfl rfl rfl ?_
  show zz_D (zm_S_init, d + 8, 103, [some (.ref (170 : Nat)), some (.int (7 : Int32))], [.ref (173 : Nat)]) (zi_H L xs 181 177 255) = _
  refine (zz_go 2 (fr' := (zm_S_init, d + 8, 105, [some (.ref (170 : Nat)), some (.int (7 : Int32))], [.int (-1 : Int32), .int (7 : Int32), .ref (173 : Nat)])) (h' := (zi_H L xs 181 177 255)) (fun _ => rfl)).trans ?_
  refine zi_ast (i := 7) rfl rfl (by decide) (by decide) rfl rfl ?_
  refine (zz_go 7 (fr' := (zm_S_init, d + 8, 115, [some (.ref (170 : Nat)), some (.int (8 : Int32))], [.int (100 : Int32), .ref (170 : Nat)])) (h' := (zi_H L xs 181 177 256)) (fun _ => rfl)).trans ?_
  refine zi_putI rfl rfl rfl rfl rfl ?_
  refine (zz_go 2 (fr' := (zm_S_init, d + 8, 120, [some (.ref (170 : Nat)), some (.int (8 : Int32))], [.int (1 : Int32), .ref (170 : Nat)])) (h' := (zi_H L xs 181 177 257)) (fun _ => rfl)).trans ?_
  refine zi_putI rfl rfl rfl rfl rfl ?_
  exact zz_end 1 (fun _ => rfl)
set_option maxRecDepth 40000 in
theorem ic_19 (L : Nat) (xs : Nat → Int32) (d : Nat) : zz_D (zm_S_init, d + 8, 0, [some (.ref (181 : Nat)), none], []) (zi_H L xs 182 178 258) = some (.inl none, (zi_H L xs 192 188 276)) := by
  refine (zz_go 4 (fr' := (zm_S_init, d + 8, 7, [some (.ref (181 : Nat)), none], [.int (8 : Int32), .ref (181 : Nat)])) (h' := (zi_H L xs 182 178 258)) (fun _ => rfl)).trans ?_
  refine zi_newa (c := 8) rfl rfl rfl rfl rfl rfl rfl ?_
  refine zi_putR rfl rfl rfl rfl ?_
  refine (zz_go 2 (fr' := (zm_S_init, d + 8, 15, [some (.ref (181 : Nat)), none], [.int (8 : Int32), .ref (181 : Nat)])) (h' := (zi_H L xs 183 179 258)) (fun _ => rfl)).trans ?_
  refine zi_newa (c := 8) rfl rfl rfl rfl rfl rfl rfl ?_
  refine zi_putR rfl rfl rfl rfl ?_
  refine (zz_go 2 (fr' := (zm_S_init, d + 8, 23, [some (.ref (181 : Nat)), none], [.int (8 : Int32), .ref (181 : Nat)])) (h' := (zi_H L xs 184 180 258)) (fun _ => rfl)).trans ?_
  refine zi_newa (c := 8) rfl rfl rfl rfl rfl rfl rfl ?_
  refine zi_putR rfl rfl rfl rfl ?_
  refine (zz_go 2 (fr' := (zm_S_init, d + 8, 31, [some (.ref (181 : Nat)), none], [.int (6 : Int32), .ref (181 : Nat)])) (h' := (zi_H L xs 185 181 258)) (fun _ => rfl)).trans ?_
  refine zi_newa (c := 6) rfl rfl rfl rfl rfl rfl rfl ?_
  refine zi_putR rfl rfl rfl rfl ?_
  refine (zz_go 2 (fr' := (zm_S_init, d + 8, 39, [some (.ref (181 : Nat)), none], [.int (6 : Int32), .ref (181 : Nat)])) (h' := (zi_H L xs 186 182 258)) (fun _ => rfl)).trans ?_
  refine zi_newa (c := 6) rfl rfl rfl rfl rfl rfl rfl ?_
  refine zi_putR rfl rfl rfl rfl ?_
  refine (zz_go 2 (fr' := (zm_S_init, d + 8, 47, [some (.ref (181 : Nat)), none], [.int (6 : Int32), .ref (181 : Nat)])) (h' := (zi_H L xs 187 183 258)) (fun _ => rfl)).trans ?_
  refine zi_newa (c := 6) rfl rfl rfl rfl rfl rfl rfl ?_
  refine zi_putR rfl rfl rfl rfl ?_
  refine (zz_go 2 (fr' := (zm_S_init, d + 8, 55, [some (.ref (181 : Nat)), none], [.int (6 : Int32), .ref (181 : Nat)])) (h' := (zi_H L xs 188 184 258)) (fun _ => rfl)).trans ?_
  refine zi_newa (c := 6) rfl rfl rfl rfl rfl rfl rfl ?_
  refine zi_putR rfl rfl rfl rfl ?_
  refine (zz_go 2 (fr' := (zm_S_init, d + 8, 63, [some (.ref (181 : Nat)), none], [.int (6 : Int32), .ref (181 : Nat)])) (h' := (zi_H L xs 189 185 258)) (fun _ => rfl)).trans ?_
  refine zi_newa (c := 6) rfl rfl rfl rfl rfl rfl rfl ?_
  refine zi_putR rfl rfl rfl rfl ?_
  refine (zz_go 2 (fr' := (zm_S_init, d + 8, 71, [some (.ref (181 : Nat)), none], [.int (6 : Int32), .ref (181 : Nat)])) (h' := (zi_H L xs 190 186 258)) (fun _ => rfl)).trans ?_
  refine zi_newa (c := 6) rfl rfl rfl rfl rfl rfl rfl ?_
  refine zi_putR rfl rfl rfl rfl ?_
  refine (zz_go 2 (fr' := (zm_S_init, d + 8, 79, [some (.ref (181 : Nat)), none], [.int (60 : Int32), .ref (181 : Nat)])) (h' := (zi_H L xs 191 187 258)) (fun _ => rfl)).trans ?_
  refine zi_newa (c := 60) rfl rfl rfl rfl rfl rfl rfl ?_
  refine zi_putR rfl rfl rfl rfl ?_
  refine (zz_go 6 (fr' := (zm_S_init, d + 8, 93, [some (.ref (181 : Nat)), some (.int (0 : Int32))], [.ref (181 : Nat)])) (h' := (zi_H L xs 192 188 258)) (fun _ => rfl)).trans ?_
  refine zl_getR (r := 183) rfl rfl rfl ?_
  show zz_D (zm_S_init, d + 8, 96, [some (.ref (181 : Nat)), some (.int (0 : Int32))], [.ref (183 : Nat)]) (zi_H L xs 192 188 258) = _
  refine (zz_go 2 (fr' := (zm_S_init, d + 8, 98, [some (.ref (181 : Nat)), some (.int (0 : Int32))], [.int (0 : Int32), .int (0 : Int32), .ref (183 : Nat)])) (h' := (zi_H L xs 192 188 258)) (fun _ => rfl)).trans ?_
  refine zi_ast (i := 0) rfl rfl (by decide) (by decide) rfl rfl ?_
  refine (zz_go 1 (fr' := (zm_S_init, d + 8, 100, [some (.ref (181 : Nat)), some (.int (0 : Int32))], [.ref (181 : Nat)])) (h' := (zi_H L xs 192 188 259)) (fun _ => rfl)).trans ?_
  refine zl_getR (r := 184) rfl rfl rfl ?_
  show zz_D (zm_S_init, d + 8, 103, [some (.ref (181 : Nat)), some (.int (0 : Int32))], [.ref (184 : Nat)]) (zi_H L xs 192 188 259) = _
  refine (zz_go 2 (fr' := (zm_S_init, d + 8, 105, [some (.ref (181 : Nat)), some (.int (0 : Int32))], [.int (-1 : Int32), .int (0 : Int32), .ref (184 : Nat)])) (h' := (zi_H L xs 192 188 259)) (fun _ => rfl)).trans ?_
  refine zi_ast (i := 0) rfl rfl (by decide) (by decide) rfl rfl ?_
  refine (zz_go 6 (fr' := (zm_S_init, d + 8, 93, [some (.ref (181 : Nat)), some (.int (1 : Int32))], [.ref (181 : Nat)])) (h' := (zi_H L xs 192 188 260)) (fun _ => rfl)).trans ?_
  refine zl_getR (r := 183) rfl rfl rfl ?_
  show zz_D (zm_S_init, d + 8, 96, [some (.ref (181 : Nat)), some (.int (1 : Int32))], [.ref (183 : Nat)]) (zi_H L xs 192 188 260) = _
  refine (zz_go 2 (fr' := (zm_S_init, d + 8, 98, [some (.ref (181 : Nat)), some (.int (1 : Int32))], [.int (1 : Int32), .int (1 : Int32), .ref (183 : Nat)])) (h' := (zi_H L xs 192 188 260)) (fun _ => rfl)).trans ?_
  refine zi_ast (i := 1) rfl rfl (by decide) (by decide) rfl rfl ?_
  refine (zz_go 1 (fr' := (zm_S_init, d + 8, 100, [some (.ref (181 : Nat)), some (.int (1 : Int32))], [.ref (181 : Nat)])) (h' := (zi_H L xs 192 188 261)) (fun _ => rfl)).trans ?_
  refine zl_getR (r := 184) rfl rfl rfl ?_
  show zz_D (zm_S_init, d + 8, 103, [some (.ref (181 : Nat)), some (.int (1 : Int32))], [.ref (184 : Nat)]) (zi_H L xs 192 188 261) = _
  refine (zz_go 2 (fr' := (zm_S_init, d + 8, 105, [some (.ref (181 : Nat)), some (.int (1 : Int32))], [.int (-1 : Int32), .int (1 : Int32), .ref (184 : Nat)])) (h' := (zi_H L xs 192 188 261)) (fun _ => rfl)).trans ?_
  refine zi_ast (i := 1) rfl rfl (by decide) (by decide) rfl rfl ?_
  refine (zz_go 6 (fr' := (zm_S_init, d + 8, 93, [some (.ref (181 : Nat)), some (.int (2 : Int32))], [.ref (181 : Nat)])) (h' := (zi_H L xs 192 188 262)) (fun _ => rfl)).trans ?_
  refine zl_getR (r := 183) rfl rfl rfl ?_
  show zz_D (zm_S_init, d + 8, 96, [some (.ref (181 : Nat)), some (.int (2 : Int32))], [.ref (183 : Nat)]) (zi_H L xs 192 188 262) = _
  refine (zz_go 2 (fr' := (zm_S_init, d + 8, 98, [some (.ref (181 : Nat)), some (.int (2 : Int32))], [.int (2 : Int32), .int (2 : Int32), .ref (183 : Nat)])) (h' := (zi_H L xs 192 188 262)) (fun _ => rfl)).trans ?_
  refine zi_ast (i := 2) rfl rfl (by decide) (by decide) rfl rfl ?_
  refine (zz_go 1 (fr' := (zm_S_init, d + 8, 100, [some (.ref (181 : Nat)), some (.int (2 : Int32))], [.ref (181 : Nat)])) (h' := (zi_H L xs 192 188 263)) (fun _ => rfl)).trans ?_
  refine zl_getR (r := 184) rfl rfl rfl ?_
  show zz_D (zm_S_init, d + 8, 103, [some (.ref (181 : Nat)), some (.int (2 : Int32))], [.ref (184 : Nat)]) (zi_H L xs 192 188 263) = _
  refine (zz_go 2 (fr' := (zm_S_init, d + 8, 105, [some (.ref (181 : Nat)), some (.int (2 : Int32))], [.int (-1 : Int32), .int (2 : Int32), .ref (184 : Nat)])) (h' := (zi_H L xs 192 188 263)) (fun _ => rfl)).trans ?_
  refine zi_ast (i := 2) rfl rfl (by decide) (by decide) rfl rfl ?_
  refine (zz_go 6 (fr' := (zm_S_init, d + 8, 93, [some (.ref (181 : Nat)), some (.int (3 : Int32))], [.ref (181 : Nat)])) (h' := (zi_H L xs 192 188 264)) (fun _ => rfl)).trans ?_
  refine zl_getR (r := 183) rfl rfl rfl ?_
  show zz_D (zm_S_init, d + 8, 96, [some (.ref (181 : Nat)), some (.int (3 : Int32))], [.ref (183 : Nat)]) (zi_H L xs 192 188 264) = _
  refine (zz_go 2 (fr' := (zm_S_init, d + 8, 98, [some (.ref (181 : Nat)), some (.int (3 : Int32))], [.int (3 : Int32), .int (3 : Int32), .ref (183 : Nat)])) (h' := (zi_H L xs 192 188 264)) (fun _ => rfl)).trans ?_
  refine zi_ast (i := 3) rfl rfl (by decide) (by decide) rfl rfl ?_
  refine (zz_go 1 (fr' := (zm_S_init, d + 8, 100, [some (.ref (181 : Nat)), some (.int (3 : Int32))], [.ref (181 : Nat)])) (h' := (zi_H L xs 192 188 265)) (fun _ => rfl)).trans ?_
  refine zl_getR (r := 184) rfl rfl rfl ?_
  show zz_D (zm_S_init, d + 8, 103, [some (.ref (181 : Nat)), some (.int (3 : Int32))], [.ref (184 : Nat)]) (zi_H L xs 192 188 265) = _
  refine (zz_go 2 (fr' := (zm_S_init, d + 8, 105, [some (.ref (181 : Nat)), some (.int (3 : Int32))], [.int (-1 : Int32), .int (3 : Int32), .ref (184 : Nat)])) (h' := (zi_H L xs 192 188 265)) (fun _ => rfl)).trans ?_
  refine zi_ast (i := 3) rfl rfl (by decide) (by decide) rfl rfl ?_
  refine (zz_go 6 (fr' := (zm_S_init, d + 8, 93, [some (.ref (181 : Nat)), some (.int (4 : Int32))], [.ref (181 : Nat)])) (h' := (zi_H L xs 192 188 266)) (fun _ => rfl)).trans ?_
  refine zl_getR (r := 183) rfl rfl rfl ?_
  show zz_D (zm_S_init, d + 8, 96, [some (.ref (181 : Nat)), some (.int (4 : Int32))], [.ref (183 : Nat)]) (zi_H L xs 192 188 266) = _
  refine (zz_go 2 (fr' := (zm_S_init, d + 8, 98, [some (.ref (181 : Nat)), some (.int (4 : Int32))], [.int (4 : Int32), .int (4 : Int32), .ref (183 : Nat)])) (h' := (zi_H L xs 192 188 266)) (fun _ => rfl)).trans ?_
  refine zi_ast (i := 4) rfl rfl (by decide) (by decide) rfl rfl ?_
  refine (zz_go 1 (fr' := (zm_S_init, d + 8, 100, [some (.ref (181 : Nat)), some (.int (4 : Int32))], [.ref (181 : Nat)])) (h' := (zi_H L xs 192 188 267)) (fun _ => rfl)).trans ?_
  refine zl_getR (r := 184) rfl rfl rfl ?_
  show zz_D (zm_S_init, d + 8, 103, [some (.ref (181 : Nat)), some (.int (4 : Int32))], [.ref (184 : Nat)]) (zi_H L xs 192 188 267) = _
  refine (zz_go 2 (fr' := (zm_S_init, d + 8, 105, [some (.ref (181 : Nat)), some (.int (4 : Int32))], [.int (-1 : Int32), .int (4 : Int32), .ref (184 : Nat)])) (h' := (zi_H L xs 192 188 267)) (fun _ => rfl)).trans ?_
  refine zi_ast (i := 4) rfl rfl (by decide) (by decide) rfl rfl ?_
  refine (zz_go 6 (fr' := (zm_S_init, d + 8, 93, [some (.ref (181 : Nat)), some (.int (5 : Int32))], [.ref (181 : Nat)])) (h' := (zi_H L xs 192 188 268)) (fun _ => rfl)).trans ?_
  refine zl_getR (r := 183) rfl rfl rfl ?_
  show zz_D (zm_S_init, d + 8, 96, [some (.ref (181 : Nat)), some (.int (5 : Int32))], [.ref (183 : Nat)]) (zi_H L xs 192 188 268) = _
  refine (zz_go 2 (fr' := (zm_S_init, d + 8, 98, [some (.ref (181 : Nat)), some (.int (5 : Int32))], [.int (5 : Int32), .int (5 : Int32), .ref (183 : Nat)])) (h' := (zi_H L xs 192 188 268)) (fun _ => rfl)).trans ?_
  refine zi_ast (i := 5) rfl rfl (by decide) (by decide) rfl rfl ?_
  refine (zz_go 1 (fr' := (zm_S_init, d + 8, 100, [some (.ref (181 : Nat)), some (.int (5 : Int32))], [.ref (181 : Nat)])) (h' := (zi_H L xs 192 188 269)) (fun _ => rfl)).trans ?_
  refine zl_getR (r := 184) rfl rfl rfl ?_
  show zz_D (zm_S_init, d + 8, 103, [some (.ref (181 : Nat)), some (.int (5 : Int32))], [.ref (184 : Nat)]) (zi_H L xs 192 188 269) = _
  refine (zz_go 2 (fr' := (zm_S_init, d + 8, 105, [some (.ref (181 : Nat)), some (.int (5 : Int32))], [.int (-1 : Int32), .int (5 : Int32), .ref (184 : Nat)])) (h' := (zi_H L xs 192 188 269)) (fun _ => rfl)).trans ?_
  refine zi_ast (i := 5) rfl rfl (by decide) (by decide) rfl rfl ?_
  refine (zz_go 6 (fr' := (zm_S_init, d + 8, 93, [some (.ref (181 : Nat)), some (.int (6 : Int32))], [.ref (181 : Nat)])) (h' := (zi_H L xs 192 188 270)) (fun _ => rfl)).trans ?_
  refine zl_getR (r := 183) rfl rfl rfl ?_
  show zz_D (zm_S_init, d + 8, 96, [some (.ref (181 : Nat)), some (.int (6 : Int32))], [.ref (183 : Nat)]) (zi_H L xs 192 188 270) = _
  refine (zz_go 2 (fr' := (zm_S_init, d + 8, 98, [some (.ref (181 : Nat)), some (.int (6 : Int32))], [.int (6 : Int32), .int (6 : Int32), .ref (183 : Nat)])) (h' := (zi_H L xs 192 188 270)) (fun _ => rfl)).trans ?_
  refine zi_ast (i := 6) rfl rfl (by decide) (by decide) rfl rfl ?_
  refine (zz_go 1 (fr' := (zm_S_init, d + 8, 100, [some (.ref (181 : Nat)), some (.int (6 : Int32))], [.ref (181 : Nat)])) (h' := (zi_H L xs 192 188 271)) (fun _ => rfl)).trans ?_
  refine zl_getR (r := 184) rfl rfl rfl ?_
  show zz_D (zm_S_init, d + 8, 103, [some (.ref (181 : Nat)), some (.int (6 : Int32))], [.ref (184 : Nat)]) (zi_H L xs 192 188 271) = _
  refine (zz_go 2 (fr' := (zm_S_init, d + 8, 105, [some (.ref (181 : Nat)), some (.int (6 : Int32))], [.int (-1 : Int32), .int (6 : Int32), .ref (184 : Nat)])) (h' := (zi_H L xs 192 188 271)) (fun _ => rfl)).trans ?_
  refine zi_ast (i := 6) rfl rfl (by decide) (by decide) rfl rfl ?_
  refine (zz_go 6 (fr' := (zm_S_init, d + 8, 93, [some (.ref (181 : Nat)), some (.int (7 : Int32))], [.ref (181 : Nat)])) (h' := (zi_H L xs 192 188 272)) (fun _ => rfl)).trans ?_
  refine zl_getR (r := 183) rfl rfl rfl ?_
  show zz_D (zm_S_init, d + 8, 96, [some (.ref (181 : Nat)), some (.int (7 : Int32))], [.ref (183 : Nat)]) (zi_H L xs 192 188 272) = _
  refine (zz_go 2 (fr' := (zm_S_init, d + 8, 98, [some (.ref (181 : Nat)), some (.int (7 : Int32))], [.int (7 : Int32), .int (7 : Int32), .ref (183 : Nat)])) (h' := (zi_H L xs 192 188 272)) (fun _ => rfl)).trans ?_
  refine zi_ast (i := 7) rfl rfl (by decide) (by decide) rfl rfl ?_
  refine (zz_go 1 (fr' := (zm_S_init, d + 8, 100, [some (.ref (181 : Nat)), some (.int (7 : Int32))], [.ref (181 : Nat)])) (h' := (zi_H L xs 192 188 273)) (fun _ => rfl)).trans ?_
  refine zl_getR (r := 184) rfl rfl rfl ?_
  show zz_D (zm_S_init, d + 8, 103, [some (.ref (181 : Nat)), some (.int (7 : Int32))], [.ref (184 : Nat)]) (zi_H L xs 192 188 273) = _
  refine (zz_go 2 (fr' := (zm_S_init, d + 8, 105, [some (.ref (181 : Nat)), some (.int (7 : Int32))], [.int (-1 : Int32), .int (7 : Int32), .ref (184 : Nat)])) (h' := (zi_H L xs 192 188 273)) (fun _ => rfl)).trans ?_
  refine zi_ast (i := 7) rfl rfl (by decide) (by decide) rfl rfl ?_
  refine (zz_go 7 (fr' := (zm_S_init, d + 8, 115, [some (.ref (181 : Nat)), some (.int (8 : Int32))], [.int (100 : Int32), .ref (181 : Nat)])) (h' := (zi_H L xs 192 188 274)) (fun _ => rfl)).trans ?_
  refine zi_putI rfl rfl rfl rfl rfl ?_
  refine (zz_go 2 (fr' := (zm_S_init, d + 8, 120, [some (.ref (181 : Nat)), some (.int (8 : Int32))], [.int (1 : Int32), .ref (181 : Nat)])) (h' := (zi_H L xs 192 188 275)) (fun _ => rfl)).trans ?_
  refine zi_putI rfl rfl rfl rfl rfl ?_
  exact zz_end 1 (fun _ => rfl)
set_option maxRecDepth 40000 in
theorem ic_20 (L : Nat) (xs : Nat → Int32) (d : Nat) : zz_D (zm_A_init, d + 9, 0, [some (.ref (58 : Nat)), none], []) (zi_H L xs 59 56 60) = some (.inl none, (zi_H L xs 192 189 276)) := by
  refine (zz_go 4 (fr' := (zm_A_init, d + 9, 7, [some (.ref (58 : Nat)), none], [.int (12 : Int32), .ref (58 : Nat)])) (h' := (zi_H L xs 59 56 60)) (fun _ => rfl)).trans ?_
  refine zi_anew (c := 12) rfl rfl rfl rfl rfl rfl rfl ?_
  refine zi_putR rfl rfl rfl rfl ?_
  refine (zz_go 6 (fr' := (zm_A_init, d + 9, 22, [some (.ref (58 : Nat)), some (.int (0 : Int32))], [.ref (58 : Nat)])) (h' := (zi_H L xs 60 57 60)) (fun _ => rfl)).trans ?_
  refine zl_getR (r := 59) rfl rfl rfl ?_
  show zz_D (zm_A_init, d + 9, 25, [some (.ref (58 : Nat)), some (.int (0 : Int32))], [.ref (59 : Nat)]) (zi_H L xs 60 57 60) = _
  refine (zz_go 1 (fr' := (zm_A_init, d + 9, 26, [some (.ref (58 : Nat)), some (.int (0 : Int32))], [.int (0 : Int32), .ref (59 : Nat)])) (h' := (zi_H L xs 60 57 60)) (fun _ => rfl)).trans ?_
  refine zi_new rfl rfl rfl rfl rfl rfl ?_
  refine (zz_go 1 (fr' := (zm_A_init, d + 9, 30, [some (.ref (58 : Nat)), some (.int (0 : Int32))], [.ref (60 : Nat), .ref (60 : Nat), .int (0 : Int32), .ref (59 : Nat)])) (h' := (zi_H L xs 61 57 60)) (fun _ => rfl)).trans ?_
  refine zi_sp (d := d + 8) rfl rfl rfl rfl rfl rfl rfl rfl rfl rfl (ic_8 L xs (d + 0)) ?_
  refine zi_aast (i := 0) rfl rfl rfl (by decide) (by decide) rfl rfl rfl ?_
  refine (zz_go 6 (fr' := (zm_A_init, d + 9, 22, [some (.ref (58 : Nat)), some (.int (1 : Int32))], [.ref (58 : Nat)])) (h' := (zi_H L xs 71 68 78)) (fun _ => rfl)).trans ?_
  refine zl_getR (r := 59) rfl rfl rfl ?_
  show zz_D (zm_A_init, d + 9, 25, [some (.ref (58 : Nat)), some (.int (1 : Int32))], [.ref (59 : Nat)]) (zi_H L xs 71 68 78) = _
  refine (zz_go 1 (fr' := (zm_A_init, d + 9, 26, [some (.ref (58 : Nat)), some (.int (1 : Int32))], [.int (1 : Int32), .ref (59 : Nat)])) (h' := (zi_H L xs 71 68 78)) (fun _ => rfl)).trans ?_
  refine zi_new rfl rfl rfl rfl rfl rfl ?_
  refine (zz_go 1 (fr' := (zm_A_init, d + 9, 30, [some (.ref (58 : Nat)), some (.int (1 : Int32))], [.ref (71 : Nat), .ref (71 : Nat), .int (1 : Int32), .ref (59 : Nat)])) (h' := (zi_H L xs 72 68 78)) (fun _ => rfl)).trans ?_
  refine zi_sp (d := d + 8) rfl rfl rfl rfl rfl rfl rfl rfl rfl rfl (ic_9 L xs (d + 0)) ?_
  refine zi_aast (i := 1) rfl rfl rfl (by decide) (by decide) rfl rfl rfl ?_
  refine (zz_go 6 (fr' := (zm_A_init, d + 9, 22, [some (.ref (58 : Nat)), some (.int (2 : Int32))], [.ref (58 : Nat)])) (h' := (zi_H L xs 82 79 96)) (fun _ => rfl)).trans ?_
  refine zl_getR (r := 59) rfl rfl rfl ?_
  show zz_D (zm_A_init, d + 9, 25, [some (.ref (58 : Nat)), some (.int (2 : Int32))], [.ref (59 : Nat)]) (zi_H L xs 82 79 96) = _
  refine (zz_go 1 (fr' := (zm_A_init, d + 9, 26, [some (.ref (58 : Nat)), some (.int (2 : Int32))], [.int (2 : Int32), .ref (59 : Nat)])) (h' := (zi_H L xs 82 79 96)) (fun _ => rfl)).trans ?_
  refine zi_new rfl rfl rfl rfl rfl rfl ?_
  refine (zz_go 1 (fr' := (zm_A_init, d + 9, 30, [some (.ref (58 : Nat)), some (.int (2 : Int32))], [.ref (82 : Nat), .ref (82 : Nat), .int (2 : Int32), .ref (59 : Nat)])) (h' := (zi_H L xs 83 79 96)) (fun _ => rfl)).trans ?_
  refine zi_sp (d := d + 8) rfl rfl rfl rfl rfl rfl rfl rfl rfl rfl (ic_10 L xs (d + 0)) ?_
  refine zi_aast (i := 2) rfl rfl rfl (by decide) (by decide) rfl rfl rfl ?_
  refine (zz_go 6 (fr' := (zm_A_init, d + 9, 22, [some (.ref (58 : Nat)), some (.int (3 : Int32))], [.ref (58 : Nat)])) (h' := (zi_H L xs 93 90 114)) (fun _ => rfl)).trans ?_
  refine zl_getR (r := 59) rfl rfl rfl ?_
  show zz_D (zm_A_init, d + 9, 25, [some (.ref (58 : Nat)), some (.int (3 : Int32))], [.ref (59 : Nat)]) (zi_H L xs 93 90 114) = _
  refine (zz_go 1 (fr' := (zm_A_init, d + 9, 26, [some (.ref (58 : Nat)), some (.int (3 : Int32))], [.int (3 : Int32), .ref (59 : Nat)])) (h' := (zi_H L xs 93 90 114)) (fun _ => rfl)).trans ?_
  refine zi_new rfl rfl rfl rfl rfl rfl ?_
  refine (zz_go 1 (fr' := (zm_A_init, d + 9, 30, [some (.ref (58 : Nat)), some (.int (3 : Int32))], [.ref (93 : Nat), .ref (93 : Nat), .int (3 : Int32), .ref (59 : Nat)])) (h' := (zi_H L xs 94 90 114)) (fun _ => rfl)).trans ?_
  refine zi_sp (d := d + 8) rfl rfl rfl rfl rfl rfl rfl rfl rfl rfl (ic_11 L xs (d + 0)) ?_
  refine zi_aast (i := 3) rfl rfl rfl (by decide) (by decide) rfl rfl rfl ?_
  refine (zz_go 6 (fr' := (zm_A_init, d + 9, 22, [some (.ref (58 : Nat)), some (.int (4 : Int32))], [.ref (58 : Nat)])) (h' := (zi_H L xs 104 101 132)) (fun _ => rfl)).trans ?_
  refine zl_getR (r := 59) rfl rfl rfl ?_
  show zz_D (zm_A_init, d + 9, 25, [some (.ref (58 : Nat)), some (.int (4 : Int32))], [.ref (59 : Nat)]) (zi_H L xs 104 101 132) = _
  refine (zz_go 1 (fr' := (zm_A_init, d + 9, 26, [some (.ref (58 : Nat)), some (.int (4 : Int32))], [.int (4 : Int32), .ref (59 : Nat)])) (h' := (zi_H L xs 104 101 132)) (fun _ => rfl)).trans ?_
  refine zi_new rfl rfl rfl rfl rfl rfl ?_
  refine (zz_go 1 (fr' := (zm_A_init, d + 9, 30, [some (.ref (58 : Nat)), some (.int (4 : Int32))], [.ref (104 : Nat), .ref (104 : Nat), .int (4 : Int32), .ref (59 : Nat)])) (h' := (zi_H L xs 105 101 132)) (fun _ => rfl)).trans ?_
  refine zi_sp (d := d + 8) rfl rfl rfl rfl rfl rfl rfl rfl rfl rfl (ic_12 L xs (d + 0)) ?_
  refine zi_aast (i := 4) rfl rfl rfl (by decide) (by decide) rfl rfl rfl ?_
  refine (zz_go 6 (fr' := (zm_A_init, d + 9, 22, [some (.ref (58 : Nat)), some (.int (5 : Int32))], [.ref (58 : Nat)])) (h' := (zi_H L xs 115 112 150)) (fun _ => rfl)).trans ?_
  refine zl_getR (r := 59) rfl rfl rfl ?_
  show zz_D (zm_A_init, d + 9, 25, [some (.ref (58 : Nat)), some (.int (5 : Int32))], [.ref (59 : Nat)]) (zi_H L xs 115 112 150) = _
  refine (zz_go 1 (fr' := (zm_A_init, d + 9, 26, [some (.ref (58 : Nat)), some (.int (5 : Int32))], [.int (5 : Int32), .ref (59 : Nat)])) (h' := (zi_H L xs 115 112 150)) (fun _ => rfl)).trans ?_
  refine zi_new rfl rfl rfl rfl rfl rfl ?_
  refine (zz_go 1 (fr' := (zm_A_init, d + 9, 30, [some (.ref (58 : Nat)), some (.int (5 : Int32))], [.ref (115 : Nat), .ref (115 : Nat), .int (5 : Int32), .ref (59 : Nat)])) (h' := (zi_H L xs 116 112 150)) (fun _ => rfl)).trans ?_
  refine zi_sp (d := d + 8) rfl rfl rfl rfl rfl rfl rfl rfl rfl rfl (ic_13 L xs (d + 0)) ?_
  refine zi_aast (i := 5) rfl rfl rfl (by decide) (by decide) rfl rfl rfl ?_
  refine (zz_go 6 (fr' := (zm_A_init, d + 9, 22, [some (.ref (58 : Nat)), some (.int (6 : Int32))], [.ref (58 : Nat)])) (h' := (zi_H L xs 126 123 168)) (fun _ => rfl)).trans ?_
  refine zl_getR (r := 59) rfl rfl rfl ?_
  show zz_D (zm_A_init, d + 9, 25, [some (.ref (58 : Nat)), some (.int (6 : Int32))], [.ref (59 : Nat)]) (zi_H L xs 126 123 168) = _
  refine (zz_go 1 (fr' := (zm_A_init, d + 9, 26, [some (.ref (58 : Nat)), some (.int (6 : Int32))], [.int (6 : Int32), .ref (59 : Nat)])) (h' := (zi_H L xs 126 123 168)) (fun _ => rfl)).trans ?_
  refine zi_new rfl rfl rfl rfl rfl rfl ?_
  refine (zz_go 1 (fr' := (zm_A_init, d + 9, 30, [some (.ref (58 : Nat)), some (.int (6 : Int32))], [.ref (126 : Nat), .ref (126 : Nat), .int (6 : Int32), .ref (59 : Nat)])) (h' := (zi_H L xs 127 123 168)) (fun _ => rfl)).trans ?_
  refine zi_sp (d := d + 8) rfl rfl rfl rfl rfl rfl rfl rfl rfl rfl (ic_14 L xs (d + 0)) ?_
  refine zi_aast (i := 6) rfl rfl rfl (by decide) (by decide) rfl rfl rfl ?_
  refine (zz_go 6 (fr' := (zm_A_init, d + 9, 22, [some (.ref (58 : Nat)), some (.int (7 : Int32))], [.ref (58 : Nat)])) (h' := (zi_H L xs 137 134 186)) (fun _ => rfl)).trans ?_
  refine zl_getR (r := 59) rfl rfl rfl ?_
  show zz_D (zm_A_init, d + 9, 25, [some (.ref (58 : Nat)), some (.int (7 : Int32))], [.ref (59 : Nat)]) (zi_H L xs 137 134 186) = _
  refine (zz_go 1 (fr' := (zm_A_init, d + 9, 26, [some (.ref (58 : Nat)), some (.int (7 : Int32))], [.int (7 : Int32), .ref (59 : Nat)])) (h' := (zi_H L xs 137 134 186)) (fun _ => rfl)).trans ?_
  refine zi_new rfl rfl rfl rfl rfl rfl ?_
  refine (zz_go 1 (fr' := (zm_A_init, d + 9, 30, [some (.ref (58 : Nat)), some (.int (7 : Int32))], [.ref (137 : Nat), .ref (137 : Nat), .int (7 : Int32), .ref (59 : Nat)])) (h' := (zi_H L xs 138 134 186)) (fun _ => rfl)).trans ?_
  refine zi_sp (d := d + 8) rfl rfl rfl rfl rfl rfl rfl rfl rfl rfl (ic_15 L xs (d + 0)) ?_
  refine zi_aast (i := 7) rfl rfl rfl (by decide) (by decide) rfl rfl rfl ?_
  refine (zz_go 6 (fr' := (zm_A_init, d + 9, 22, [some (.ref (58 : Nat)), some (.int (8 : Int32))], [.ref (58 : Nat)])) (h' := (zi_H L xs 148 145 204)) (fun _ => rfl)).trans ?_
  refine zl_getR (r := 59) rfl rfl rfl ?_
  show zz_D (zm_A_init, d + 9, 25, [some (.ref (58 : Nat)), some (.int (8 : Int32))], [.ref (59 : Nat)]) (zi_H L xs 148 145 204) = _
  refine (zz_go 1 (fr' := (zm_A_init, d + 9, 26, [some (.ref (58 : Nat)), some (.int (8 : Int32))], [.int (8 : Int32), .ref (59 : Nat)])) (h' := (zi_H L xs 148 145 204)) (fun _ => rfl)).trans ?_
  refine zi_new rfl rfl rfl rfl rfl rfl ?_
  refine (zz_go 1 (fr' := (zm_A_init, d + 9, 30, [some (.ref (58 : Nat)), some (.int (8 : Int32))], [.ref (148 : Nat), .ref (148 : Nat), .int (8 : Int32), .ref (59 : Nat)])) (h' := (zi_H L xs 149 145 204)) (fun _ => rfl)).trans ?_
  refine zi_sp (d := d + 8) rfl rfl rfl rfl rfl rfl rfl rfl rfl rfl (ic_16 L xs (d + 0)) ?_
  refine zi_aast (i := 8) rfl rfl rfl (by decide) (by decide) rfl rfl rfl ?_
  refine (zz_go 6 (fr' := (zm_A_init, d + 9, 22, [some (.ref (58 : Nat)), some (.int (9 : Int32))], [.ref (58 : Nat)])) (h' := (zi_H L xs 159 156 222)) (fun _ => rfl)).trans ?_
  refine zl_getR (r := 59) rfl rfl rfl ?_
  show zz_D (zm_A_init, d + 9, 25, [some (.ref (58 : Nat)), some (.int (9 : Int32))], [.ref (59 : Nat)]) (zi_H L xs 159 156 222) = _
  refine (zz_go 1 (fr' := (zm_A_init, d + 9, 26, [some (.ref (58 : Nat)), some (.int (9 : Int32))], [.int (9 : Int32), .ref (59 : Nat)])) (h' := (zi_H L xs 159 156 222)) (fun _ => rfl)).trans ?_
  refine zi_new rfl rfl rfl rfl rfl rfl ?_
  refine (zz_go 1 (fr' := (zm_A_init, d + 9, 30, [some (.ref (58 : Nat)), some (.int (9 : Int32))], [.ref (159 : Nat), .ref (159 : Nat), .int (9 : Int32), .ref (59 : Nat)])) (h' := (zi_H L xs 160 156 222)) (fun _ => rfl)).trans ?_
  refine zi_sp (d := d + 8) rfl rfl rfl rfl rfl rfl rfl rfl rfl rfl (ic_17 L xs (d + 0)) ?_
  refine zi_aast (i := 9) rfl rfl rfl (by decide) (by decide) rfl rfl rfl ?_
  refine (zz_go 6 (fr' := (zm_A_init, d + 9, 22, [some (.ref (58 : Nat)), some (.int (10 : Int32))], [.ref (58 : Nat)])) (h' := (zi_H L xs 170 167 240)) (fun _ => rfl)).trans ?_
  refine zl_getR (r := 59) rfl rfl rfl ?_
  show zz_D (zm_A_init, d + 9, 25, [some (.ref (58 : Nat)), some (.int (10 : Int32))], [.ref (59 : Nat)]) (zi_H L xs 170 167 240) = _
  refine (zz_go 1 (fr' := (zm_A_init, d + 9, 26, [some (.ref (58 : Nat)), some (.int (10 : Int32))], [.int (10 : Int32), .ref (59 : Nat)])) (h' := (zi_H L xs 170 167 240)) (fun _ => rfl)).trans ?_
  refine zi_new rfl rfl rfl rfl rfl rfl ?_
  refine (zz_go 1 (fr' := (zm_A_init, d + 9, 30, [some (.ref (58 : Nat)), some (.int (10 : Int32))], [.ref (170 : Nat), .ref (170 : Nat), .int (10 : Int32), .ref (59 : Nat)])) (h' := (zi_H L xs 171 167 240)) (fun _ => rfl)).trans ?_
  refine zi_sp (d := d + 8) rfl rfl rfl rfl rfl rfl rfl rfl rfl rfl (ic_18 L xs (d + 0)) ?_
  refine zi_aast (i := 10) rfl rfl rfl (by decide) (by decide) rfl rfl rfl ?_
  refine (zz_go 6 (fr' := (zm_A_init, d + 9, 22, [some (.ref (58 : Nat)), some (.int (11 : Int32))], [.ref (58 : Nat)])) (h' := (zi_H L xs 181 178 258)) (fun _ => rfl)).trans ?_
  refine zl_getR (r := 59) rfl rfl rfl ?_
  show zz_D (zm_A_init, d + 9, 25, [some (.ref (58 : Nat)), some (.int (11 : Int32))], [.ref (59 : Nat)]) (zi_H L xs 181 178 258) = _
  refine (zz_go 1 (fr' := (zm_A_init, d + 9, 26, [some (.ref (58 : Nat)), some (.int (11 : Int32))], [.int (11 : Int32), .ref (59 : Nat)])) (h' := (zi_H L xs 181 178 258)) (fun _ => rfl)).trans ?_
  refine zi_new rfl rfl rfl rfl rfl rfl ?_
  refine (zz_go 1 (fr' := (zm_A_init, d + 9, 30, [some (.ref (58 : Nat)), some (.int (11 : Int32))], [.ref (181 : Nat), .ref (181 : Nat), .int (11 : Int32), .ref (59 : Nat)])) (h' := (zi_H L xs 182 178 258)) (fun _ => rfl)).trans ?_
  refine zi_sp (d := d + 8) rfl rfl rfl rfl rfl rfl rfl rfl rfl rfl (ic_19 L xs (d + 0)) ?_
  refine zi_aast (i := 11) rfl rfl rfl (by decide) (by decide) rfl rfl rfl ?_
  refine (zz_go 5 (fr' := (zm_A_init, d + 9, 40, [some (.ref (58 : Nat)), some (.int (12 : Int32))], [])) (h' := (zi_H L xs 192 189 276)) (fun _ => rfl)).trans ?_
  exact zz_end 1 (fun _ => rfl)
set_option maxRecDepth 40000 in
theorem ic_21 (L : Nat) (xs : Nat → Int32) (d : Nat) : zz_D (zm_G_init, d + 8, 0, [some (.ref (192 : Nat))], []) (zi_H L xs 193 190 276) = some (.inl none, (zi_H L xs 194 191 276)) := by
  refine (zz_go 4 (fr' := (zm_G_init, d + 8, 8, [some (.ref (192 : Nat))], [.int (448 : Int32), .ref (192 : Nat)])) (h' := (zi_H L xs 193 190 276)) (fun _ => rfl)).trans ?_
  refine zi_newa (c := 448) rfl rfl rfl rfl rfl rfl rfl ?_
  refine zi_putR rfl rfl rfl rfl ?_
  exact zz_end 1 (fun _ => rfl)
set_option maxRecDepth 40000 in
theorem ic_22 (L : Nat) (xs : Nat → Int32) (d : Nat) : zz_D (zm_N_init, d + 10, 0, [some (.ref (1 : Nat))], []) (zi_H L xs 2 0 0) = some (.inl none, (zi_H L xs 194 192 276)) := by
  refine (zz_go 3 (fr' := (zm_N_init, d + 10, 5, [some (.ref (1 : Nat))], [.ref (1 : Nat)])) (h' := (zi_H L xs 2 0 0)) (fun _ => rfl)).trans ?_
  refine zi_new rfl rfl rfl rfl rfl rfl ?_
  refine (zz_go 1 (fr' := (zm_N_init, d + 10, 9, [some (.ref (1 : Nat))], [.ref (2 : Nat), .ref (2 : Nat), .ref (1 : Nat)])) (h' := (zi_H L xs 3 0 0)) (fun _ => rfl)).trans ?_
  refine zi_sp (d := d + 9) rfl rfl rfl rfl rfl rfl rfl rfl rfl rfl (ic_1 L xs (d + 1)) ?_
  refine zi_putR rfl rfl rfl rfl ?_
  refine (zz_go 2 (fr' := (zm_N_init, d + 10, 17, [some (.ref (1 : Nat))], [.int (-1 : Int32), .ref (1 : Nat)])) (h' := (zi_H L xs 4 2 1)) (fun _ => rfl)).trans ?_
  refine zi_putI rfl rfl rfl rfl rfl ?_
  refine (zz_go 1 (fr' := (zm_N_init, d + 10, 21, [some (.ref (1 : Nat))], [.ref (1 : Nat)])) (h' := (zi_H L xs 4 2 2)) (fun _ => rfl)).trans ?_
  refine zi_new rfl rfl rfl rfl rfl rfl ?_
  refine (zz_go 1 (fr' := (zm_N_init, d + 10, 25, [some (.ref (1 : Nat))], [.ref (4 : Nat), .ref (4 : Nat), .ref (1 : Nat)])) (h' := (zi_H L xs 5 2 2)) (fun _ => rfl)).trans ?_
  refine zi_sp (d := d + 9) rfl rfl rfl rfl rfl rfl rfl rfl rfl rfl (ic_2 L xs (d + 1)) ?_
  refine zi_putR rfl rfl rfl rfl ?_
  refine (zz_go 1 (fr' := (zm_N_init, d + 10, 32, [some (.ref (1 : Nat))], [.ref (1 : Nat)])) (h' := (zi_H L xs 15 13 20)) (fun _ => rfl)).trans ?_
  refine zi_new rfl rfl rfl rfl rfl rfl ?_
  refine (zz_go 1 (fr' := (zm_N_init, d + 10, 36, [some (.ref (1 : Nat))], [.ref (15 : Nat), .ref (15 : Nat), .ref (1 : Nat)])) (h' := (zi_H L xs 16 13 20)) (fun _ => rfl)).trans ?_
  refine zi_sp (d := d + 9) rfl rfl rfl rfl rfl rfl rfl rfl rfl rfl (ic_3 L xs (d + 1)) ?_
  refine zi_putR rfl rfl rfl rfl ?_
  refine (zz_go 1 (fr' := (zm_N_init, d + 10, 43, [some (.ref (1 : Nat))], [.ref (1 : Nat)])) (h' := (zi_H L xs 26 24 38)) (fun _ => rfl)).trans ?_
  refine zi_new rfl rfl rfl rfl rfl rfl ?_
  refine (zz_go 1 (fr' := (zm_N_init, d + 10, 47, [some (.ref (1 : Nat))], [.ref (26 : Nat), .ref (26 : Nat), .ref (1 : Nat)])) (h' := (zi_H L xs 27 24 38)) (fun _ => rfl)).trans ?_
  refine zi_sp (d := d + 9) rfl rfl rfl rfl rfl rfl rfl rfl rfl rfl (ic_4 L xs (d + 1)) ?_
  refine zi_putR rfl rfl rfl rfl ?_
  refine (zz_go 1 (fr' := (zm_N_init, d + 10, 54, [some (.ref (1 : Nat))], [.ref (1 : Nat)])) (h' := (zi_H L xs 37 35 56)) (fun _ => rfl)).trans ?_
  refine zi_new rfl rfl rfl rfl rfl rfl ?_
  refine (zz_go 1 (fr' := (zm_N_init, d + 10, 58, [some (.ref (1 : Nat))], [.ref (37 : Nat), .ref (37 : Nat), .ref (1 : Nat)])) (h' := (zi_H L xs 38 35 56)) (fun _ => rfl)).trans ?_
  refine zi_sp (d := d + 9) rfl rfl rfl rfl rfl rfl rfl rfl rfl rfl (ic_5 L xs (d + 1)) ?_
  refine zi_putR rfl rfl rfl rfl ?_
  refine (zz_go 1 (fr' := (zm_N_init, d + 10, 65, [some (.ref (1 : Nat))], [.ref (1 : Nat)])) (h' := (zi_H L xs 44 42 57)) (fun _ => rfl)).trans ?_
  refine zi_new rfl rfl rfl rfl rfl rfl ?_
  refine (zz_go 1 (fr' := (zm_N_init, d + 10, 69, [some (.ref (1 : Nat))], [.ref (44 : Nat), .ref (44 : Nat), .ref (1 : Nat)])) (h' := (zi_H L xs 45 42 57)) (fun _ => rfl)).trans ?_
  refine zi_sp (d := d + 9) rfl rfl rfl rfl rfl rfl rfl rfl rfl rfl (ic_6 L xs (d + 1)) ?_
  refine zi_putR rfl rfl rfl rfl ?_
  refine (zz_go 1 (fr' := (zm_N_init, d + 10, 76, [some (.ref (1 : Nat))], [.ref (1 : Nat)])) (h' := (zi_H L xs 51 49 58)) (fun _ => rfl)).trans ?_
  refine zi_new rfl rfl rfl rfl rfl rfl ?_
  refine (zz_go 1 (fr' := (zm_N_init, d + 10, 80, [some (.ref (1 : Nat))], [.ref (51 : Nat), .ref (51 : Nat), .ref (1 : Nat)])) (h' := (zi_H L xs 52 49 58)) (fun _ => rfl)).trans ?_
  refine zi_sp (d := d + 9) rfl rfl rfl rfl rfl rfl rfl rfl rfl rfl (ic_7 L xs (d + 1)) ?_
  refine zi_putR rfl rfl rfl rfl ?_
  refine (zz_go 2 (fr' := (zm_N_init, d + 10, 88, [some (.ref (1 : Nat))], [.int (0 : Int32), .ref (1 : Nat)])) (h' := (zi_H L xs 58 56 59)) (fun _ => rfl)).trans ?_
  refine zi_putI rfl rfl rfl rfl rfl ?_
  refine (zz_go 1 (fr' := (zm_N_init, d + 10, 92, [some (.ref (1 : Nat))], [.ref (1 : Nat)])) (h' := (zi_H L xs 58 56 60)) (fun _ => rfl)).trans ?_
  refine zi_new rfl rfl rfl rfl rfl rfl ?_
  refine (zz_go 1 (fr' := (zm_N_init, d + 10, 96, [some (.ref (1 : Nat))], [.ref (58 : Nat), .ref (58 : Nat), .ref (1 : Nat)])) (h' := (zi_H L xs 59 56 60)) (fun _ => rfl)).trans ?_
  refine zi_sp (d := d + 9) rfl rfl rfl rfl rfl rfl rfl rfl rfl rfl (ic_20 L xs (d + 0)) ?_
  refine zi_putR rfl rfl rfl rfl ?_
  refine (zz_go 1 (fr' := (zm_N_init, d + 10, 103, [some (.ref (1 : Nat))], [.ref (1 : Nat)])) (h' := (zi_H L xs 192 190 276)) (fun _ => rfl)).trans ?_
  refine zi_new rfl rfl rfl rfl rfl rfl ?_
  refine (zz_go 1 (fr' := (zm_N_init, d + 10, 107, [some (.ref (1 : Nat))], [.ref (192 : Nat), .ref (192 : Nat), .ref (1 : Nat)])) (h' := (zi_H L xs 193 190 276)) (fun _ => rfl)).trans ?_
  refine zi_sp (d := d + 9) rfl rfl rfl rfl rfl rfl rfl rfl rfl rfl (ic_21 L xs (d + 1)) ?_
  refine zi_putR rfl rfl rfl rfl ?_
  exact zz_end 1 (fun _ => rfl)
set_option maxRecDepth 40000 in
theorem ic_23 (L : Nat) (xs : Nat → Int32) (d : Nat) : zz_D (zm_D_init, d + 8, 0, [some (.ref (194 : Nat)), none], []) (zi_H L xs 195 192 276) = some (.inl none, (zi_H L xs 204 201 296)) := by
  refine (zz_go 4 (fr' := (zm_D_init, d + 8, 8, [some (.ref (194 : Nat)), none], [.int (709 : Int32), .ref (194 : Nat)])) (h' := (zi_H L xs 195 192 276)) (fun _ => rfl)).trans ?_
  refine zi_newa (c := 709) rfl rfl rfl rfl rfl rfl rfl ?_
  refine zi_putR rfl rfl rfl rfl ?_
  refine (zz_go 2 (fr' := (zm_D_init, d + 8, 17, [some (.ref (194 : Nat)), none], [.int (709 : Int32), .ref (194 : Nat)])) (h' := (zi_H L xs 196 193 276)) (fun _ => rfl)).trans ?_
  refine zi_newa (c := 709) rfl rfl rfl rfl rfl rfl rfl ?_
  refine zi_putR rfl rfl rfl rfl ?_
  refine (zz_go 2 (fr' := (zm_D_init, d + 8, 26, [some (.ref (194 : Nat)), none], [.int (309 : Int32), .ref (194 : Nat)])) (h' := (zi_H L xs 197 194 276)) (fun _ => rfl)).trans ?_
  refine zi_newa (c := 309) rfl rfl rfl rfl rfl rfl rfl ?_
  refine zi_putR rfl rfl rfl rfl ?_
  refine (zz_go 2 (fr' := (zm_D_init, d + 8, 35, [some (.ref (194 : Nat)), none], [.int (3708 : Int32), .ref (194 : Nat)])) (h' := (zi_H L xs 198 195 276)) (fun _ => rfl)).trans ?_
  refine zi_newa (c := 3708) rfl rfl rfl rfl rfl rfl rfl ?_
  refine zi_putR rfl rfl rfl rfl ?_
  refine (zz_go 2 (fr' := (zm_D_init, d + 8, 44, [some (.ref (194 : Nat)), none], [.int (400 : Int32), .ref (194 : Nat)])) (h' := (zi_H L xs 199 196 276)) (fun _ => rfl)).trans ?_
  refine zi_newa (c := 400) rfl rfl rfl rfl rfl rfl rfl ?_
  refine zi_putR rfl rfl rfl rfl ?_
  refine (zz_go 2 (fr' := (zm_D_init, d + 8, 51, [some (.ref (194 : Nat)), none], [.int (-1 : Int32), .ref (194 : Nat)])) (h' := (zi_H L xs 200 197 276)) (fun _ => rfl)).trans ?_
  refine zi_putI rfl rfl rfl rfl rfl ?_
  refine (zz_go 2 (fr' := (zm_D_init, d + 8, 57, [some (.ref (194 : Nat)), none], [.int (8 : Int32), .ref (194 : Nat)])) (h' := (zi_H L xs 200 197 277)) (fun _ => rfl)).trans ?_
  refine zi_newa (c := 8) rfl rfl rfl rfl rfl rfl rfl ?_
  refine zi_putR rfl rfl rfl rfl ?_
  refine (zz_go 2 (fr' := (zm_D_init, d + 8, 65, [some (.ref (194 : Nat)), none], [.int (64 : Int32), .ref (194 : Nat)])) (h' := (zi_H L xs 201 198 277)) (fun _ => rfl)).trans ?_
  refine zi_newa (c := 64) rfl rfl rfl rfl rfl rfl rfl ?_
  refine zi_putR rfl rfl rfl rfl ?_
  refine (zz_go 2 (fr' := (zm_D_init, d + 8, 74, [some (.ref (194 : Nat)), none], [.int (448 : Int32), .ref (194 : Nat)])) (h' := (zi_H L xs 202 199 277)) (fun _ => rfl)).trans ?_
  refine zi_newa (c := 448) rfl rfl rfl rfl rfl rfl rfl ?_
  refine zi_putR rfl rfl rfl rfl ?_
  refine (zz_go 2 (fr' := (zm_D_init, d + 8, 82, [some (.ref (194 : Nat)), none], [.int (64 : Int32), .ref (194 : Nat)])) (h' := (zi_H L xs 203 200 277)) (fun _ => rfl)).trans ?_
  refine zi_newa (c := 64) rfl rfl rfl rfl rfl rfl rfl ?_
  refine zi_putR rfl rfl rfl rfl ?_
  refine (zz_go 1 (fr' := (zm_D_init, d + 8, 88, [some (.ref (194 : Nat)), none], [.ref (194 : Nat)])) (h' := (zi_H L xs 204 201 277)) (fun _ => rfl)).trans ?_
  refine zl_getR (r := 195) rfl rfl rfl ?_
  show zz_D (zm_D_init, d + 8, 91, [some (.ref (194 : Nat)), none], [.ref (195 : Nat)]) (zi_H L xs 204 201 277) = _
  refine (zz_go 2 (fr' := (zm_D_init, d + 8, 93, [some (.ref (194 : Nat)), none], [.int (-1 : Int32), .int (1 : Int32), .ref (195 : Nat)])) (h' := (zi_H L xs 204 201 277)) (fun _ => rfl)).trans ?_
  refine zi_ast (i := 1) rfl rfl (by decide) (by decide) rfl rfl ?_
  refine (zz_go 1 (fr' := (zm_D_init, d + 8, 95, [some (.ref (194 : Nat)), none], [.ref (194 : Nat)])) (h' := (zi_H L xs 204 201 278)) (fun _ => rfl)).trans ?_
  refine zl_getR (r := 195) rfl rfl rfl ?_
  show zz_D (zm_D_init, d + 8, 98, [some (.ref (194 : Nat)), none], [.ref (195 : Nat)]) (zi_H L xs 204 201 278) = _
  refine (zz_go 2 (fr' := (zm_D_init, d + 8, 102, [some (.ref (194 : Nat)), none], [.int (100 : Int32), .int (6 : Int32), .ref (195 : Nat)])) (h' := (zi_H L xs 204 201 278)) (fun _ => rfl)).trans ?_
  refine zi_ast (i := 6) rfl rfl (by decide) (by decide) rfl rfl ?_
  refine (zz_go 1 (fr' := (zm_D_init, d + 8, 104, [some (.ref (194 : Nat)), none], [.ref (194 : Nat)])) (h' := (zi_H L xs 204 201 279)) (fun _ => rfl)).trans ?_
  refine zl_getR (r := 195) rfl rfl rfl ?_
  show zz_D (zm_D_init, d + 8, 107, [some (.ref (194 : Nat)), none], [.ref (195 : Nat)]) (zi_H L xs 204 201 279) = _
  refine (zz_go 2 (fr' := (zm_D_init, d + 8, 110, [some (.ref (194 : Nat)), none], [.int (1 : Int32), .int (8 : Int32), .ref (195 : Nat)])) (h' := (zi_H L xs 204 201 279)) (fun _ => rfl)).trans ?_
  refine zi_ast (i := 8) rfl rfl (by decide) (by decide) rfl rfl ?_
  refine (zz_go 6 (fr' := (zm_D_init, d + 8, 120, [some (.ref (194 : Nat)), some (.int (0 : Int32))], [.ref (194 : Nat)])) (h' := (zi_H L xs 204 201 280)) (fun _ => rfl)).trans ?_
  refine zl_getR (r := 195) rfl rfl rfl ?_
  show zz_D (zm_D_init, d + 8, 123, [some (.ref (194 : Nat)), some (.int (0 : Int32))], [.ref (195 : Nat)]) (zi_H L xs 204 201 280) = _
  refine (zz_go 8 (fr' := (zm_D_init, d + 8, 132, [some (.ref (194 : Nat)), some (.int (0 : Int32))], [.int (0 : Int32), .int (10 : Int32), .ref (195 : Nat)])) (h' := (zi_H L xs 204 201 280)) (fun _ => rfl)).trans ?_
  refine zi_ast (i := 10) rfl rfl (by decide) (by decide) rfl rfl ?_
  refine (zz_go 1 (fr' := (zm_D_init, d + 8, 134, [some (.ref (194 : Nat)), some (.int (0 : Int32))], [.ref (194 : Nat)])) (h' := (zi_H L xs 204 201 281)) (fun _ => rfl)).trans ?_
  refine zl_getR (r := 195) rfl rfl rfl ?_
  show zz_D (zm_D_init, d + 8, 137, [some (.ref (194 : Nat)), some (.int (0 : Int32))], [.ref (195 : Nat)]) (zi_H L xs 204 201 281) = _
  refine (zz_go 8 (fr' := (zm_D_init, d + 8, 146, [some (.ref (194 : Nat)), some (.int (0 : Int32))], [.int (-1 : Int32), .int (11 : Int32), .ref (195 : Nat)])) (h' := (zi_H L xs 204 201 281)) (fun _ => rfl)).trans ?_
  refine zi_ast (i := 11) rfl rfl (by decide) (by decide) rfl rfl ?_
  refine (zz_go 6 (fr' := (zm_D_init, d + 8, 120, [some (.ref (194 : Nat)), some (.int (1 : Int32))], [.ref (194 : Nat)])) (h' := (zi_H L xs 204 201 282)) (fun _ => rfl)).trans ?_
  refine zl_getR (r := 195) rfl rfl rfl ?_
  show zz_D (zm_D_init, d + 8, 123, [some (.ref (194 : Nat)), some (.int (1 : Int32))], [.ref (195 : Nat)]) (zi_H L xs 204 201 282) = _
  refine (zz_go 8 (fr' := (zm_D_init, d + 8, 132, [some (.ref (194 : Nat)), some (.int (1 : Int32))], [.int (1 : Int32), .int (13 : Int32), .ref (195 : Nat)])) (h' := (zi_H L xs 204 201 282)) (fun _ => rfl)).trans ?_
  refine zi_ast (i := 13) rfl rfl (by decide) (by decide) rfl rfl ?_
  refine (zz_go 1 (fr' := (zm_D_init, d + 8, 134, [some (.ref (194 : Nat)), some (.int (1 : Int32))], [.ref (194 : Nat)])) (h' := (zi_H L xs 204 201 283)) (fun _ => rfl)).trans ?_
  refine zl_getR (r := 195) rfl rfl rfl ?_
  show zz_D (zm_D_init, d + 8, 137, [some (.ref (194 : Nat)), some (.int (1 : Int32))], [.ref (195 : Nat)]) (zi_H L xs 204 201 283) = _
  refine (zz_go 8 (fr' := (zm_D_init, d + 8, 146, [some (.ref (194 : Nat)), some (.int (1 : Int32))], [.int (-1 : Int32), .int (14 : Int32), .ref (195 : Nat)])) (h' := (zi_H L xs 204 201 283)) (fun _ => rfl)).trans ?_
  refine zi_ast (i := 14) rfl rfl (by decide) (by decide) rfl rfl ?_
  refine (zz_go 6 (fr' := (zm_D_init, d + 8, 120, [some (.ref (194 : Nat)), some (.int (2 : Int32))], [.ref (194 : Nat)])) (h' := (zi_H L xs 204 201 284)) (fun _ => rfl)).trans ?_
  refine zl_getR (r := 195) rfl rfl rfl ?_
  show zz_D (zm_D_init, d + 8, 123, [some (.ref (194 : Nat)), some (.int (2 : Int32))], [.ref (195 : Nat)]) (zi_H L xs 204 201 284) = _
  refine (zz_go 8 (fr' := (zm_D_init, d + 8, 132, [some (.ref (194 : Nat)), some (.int (2 : Int32))], [.int (2 : Int32), .int (16 : Int32), .ref (195 : Nat)])) (h' := (zi_H L xs 204 201 284)) (fun _ => rfl)).trans ?_
  refine zi_ast (i := 16) rfl rfl (by decide) (by decide) rfl rfl ?_
  refine (zz_go 1 (fr' := (zm_D_init, d + 8, 134, [some (.ref (194 : Nat)), some (.int (2 : Int32))], [.ref (194 : Nat)])) (h' := (zi_H L xs 204 201 285)) (fun _ => rfl)).trans ?_
  refine zl_getR (r := 195) rfl rfl rfl ?_
  show zz_D (zm_D_init, d + 8, 137, [some (.ref (194 : Nat)), some (.int (2 : Int32))], [.ref (195 : Nat)]) (zi_H L xs 204 201 285) = _
  refine (zz_go 8 (fr' := (zm_D_init, d + 8, 146, [some (.ref (194 : Nat)), some (.int (2 : Int32))], [.int (-1 : Int32), .int (17 : Int32), .ref (195 : Nat)])) (h' := (zi_H L xs 204 201 285)) (fun _ => rfl)).trans ?_
  refine zi_ast (i := 17) rfl rfl (by decide) (by decide) rfl rfl ?_
  refine (zz_go 6 (fr' := (zm_D_init, d + 8, 120, [some (.ref (194 : Nat)), some (.int (3 : Int32))], [.ref (194 : Nat)])) (h' := (zi_H L xs 204 201 286)) (fun _ => rfl)).trans ?_
  refine zl_getR (r := 195) rfl rfl rfl ?_
  show zz_D (zm_D_init, d + 8, 123, [some (.ref (194 : Nat)), some (.int (3 : Int32))], [.ref (195 : Nat)]) (zi_H L xs 204 201 286) = _
  refine (zz_go 8 (fr' := (zm_D_init, d + 8, 132, [some (.ref (194 : Nat)), some (.int (3 : Int32))], [.int (3 : Int32), .int (19 : Int32), .ref (195 : Nat)])) (h' := (zi_H L xs 204 201 286)) (fun _ => rfl)).trans ?_
  refine zi_ast (i := 19) rfl rfl (by decide) (by decide) rfl rfl ?_
  refine (zz_go 1 (fr' := (zm_D_init, d + 8, 134, [some (.ref (194 : Nat)), some (.int (3 : Int32))], [.ref (194 : Nat)])) (h' := (zi_H L xs 204 201 287)) (fun _ => rfl)).trans ?_
  refine zl_getR (r := 195) rfl rfl rfl ?_
  show zz_D (zm_D_init, d + 8, 137, [some (.ref (194 : Nat)), some (.int (3 : Int32))], [.ref (195 : Nat)]) (zi_H L xs 204 201 287) = _
  refine (zz_go 8 (fr' := (zm_D_init, d + 8, 146, [some (.ref (194 : Nat)), some (.int (3 : Int32))], [.int (-1 : Int32), .int (20 : Int32), .ref (195 : Nat)])) (h' := (zi_H L xs 204 201 287)) (fun _ => rfl)).trans ?_
  refine zi_ast (i := 20) rfl rfl (by decide) (by decide) rfl rfl ?_
  refine (zz_go 6 (fr' := (zm_D_init, d + 8, 120, [some (.ref (194 : Nat)), some (.int (4 : Int32))], [.ref (194 : Nat)])) (h' := (zi_H L xs 204 201 288)) (fun _ => rfl)).trans ?_
  refine zl_getR (r := 195) rfl rfl rfl ?_
  show zz_D (zm_D_init, d + 8, 123, [some (.ref (194 : Nat)), some (.int (4 : Int32))], [.ref (195 : Nat)]) (zi_H L xs 204 201 288) = _
  refine (zz_go 8 (fr' := (zm_D_init, d + 8, 132, [some (.ref (194 : Nat)), some (.int (4 : Int32))], [.int (4 : Int32), .int (22 : Int32), .ref (195 : Nat)])) (h' := (zi_H L xs 204 201 288)) (fun _ => rfl)).trans ?_
  refine zi_ast (i := 22) rfl rfl (by decide) (by decide) rfl rfl ?_
  refine (zz_go 1 (fr' := (zm_D_init, d + 8, 134, [some (.ref (194 : Nat)), some (.int (4 : Int32))], [.ref (194 : Nat)])) (h' := (zi_H L xs 204 201 289)) (fun _ => rfl)).trans ?_
  refine zl_getR (r := 195) rfl rfl rfl ?_
  show zz_D (zm_D_init, d + 8, 137, [some (.ref (194 : Nat)), some (.int (4 : Int32))], [.ref (195 : Nat)]) (zi_H L xs 204 201 289) = _
  refine (zz_go 8 (fr' := (zm_D_init, d + 8, 146, [some (.ref (194 : Nat)), some (.int (4 : Int32))], [.int (-1 : Int32), .int (23 : Int32), .ref (195 : Nat)])) (h' := (zi_H L xs 204 201 289)) (fun _ => rfl)).trans ?_
  refine zi_ast (i := 23) rfl rfl (by decide) (by decide) rfl rfl ?_
  refine (zz_go 6 (fr' := (zm_D_init, d + 8, 120, [some (.ref (194 : Nat)), some (.int (5 : Int32))], [.ref (194 : Nat)])) (h' := (zi_H L xs 204 201 290)) (fun _ => rfl)).trans ?_
  refine zl_getR (r := 195) rfl rfl rfl ?_
  show zz_D (zm_D_init, d + 8, 123, [some (.ref (194 : Nat)), some (.int (5 : Int32))], [.ref (195 : Nat)]) (zi_H L xs 204 201 290) = _
  refine (zz_go 8 (fr' := (zm_D_init, d + 8, 132, [some (.ref (194 : Nat)), some (.int (5 : Int32))], [.int (5 : Int32), .int (25 : Int32), .ref (195 : Nat)])) (h' := (zi_H L xs 204 201 290)) (fun _ => rfl)).trans ?_
  refine zi_ast (i := 25) rfl rfl (by decide) (by decide) rfl rfl ?_
  refine (zz_go 1 (fr' := (zm_D_init, d + 8, 134, [some (.ref (194 : Nat)), some (.int (5 : Int32))], [.ref (194 : Nat)])) (h' := (zi_H L xs 204 201 291)) (fun _ => rfl)).trans ?_
  refine zl_getR (r := 195) rfl rfl rfl ?_
  show zz_D (zm_D_init, d + 8, 137, [some (.ref (194 : Nat)), some (.int (5 : Int32))], [.ref (195 : Nat)]) (zi_H L xs 204 201 291) = _
  refine (zz_go 8 (fr' := (zm_D_init, d + 8, 146, [some (.ref (194 : Nat)), some (.int (5 : Int32))], [.int (-1 : Int32), .int (26 : Int32), .ref (195 : Nat)])) (h' := (zi_H L xs 204 201 291)) (fun _ => rfl)).trans ?_
  refine zi_ast (i := 26) rfl rfl (by decide) (by decide) rfl rfl ?_
  refine (zz_go 6 (fr' := (zm_D_init, d + 8, 120, [some (.ref (194 : Nat)), some (.int (6 : Int32))], [.ref (194 : Nat)])) (h' := (zi_H L xs 204 201 292)) (fun _ => rfl)).trans ?_
  refine zl_getR (r := 195) rfl rfl rfl ?_
  show zz_D (zm_D_init, d + 8, 123, [some (.ref (194 : Nat)), some (.int (6 : Int32))], [.ref (195 : Nat)]) (zi_H L xs 204 201 292) = _
  refine (zz_go 8 (fr' := (zm_D_init, d + 8, 132, [some (.ref (194 : Nat)), some (.int (6 : Int32))], [.int (6 : Int32), .int (28 : Int32), .ref (195 : Nat)])) (h' := (zi_H L xs 204 201 292)) (fun _ => rfl)).trans ?_
  refine zi_ast (i := 28) rfl rfl (by decide) (by decide) rfl rfl ?_
  refine (zz_go 1 (fr' := (zm_D_init, d + 8, 134, [some (.ref (194 : Nat)), some (.int (6 : Int32))], [.ref (194 : Nat)])) (h' := (zi_H L xs 204 201 293)) (fun _ => rfl)).trans ?_
  refine zl_getR (r := 195) rfl rfl rfl ?_
  show zz_D (zm_D_init, d + 8, 137, [some (.ref (194 : Nat)), some (.int (6 : Int32))], [.ref (195 : Nat)]) (zi_H L xs 204 201 293) = _
  refine (zz_go 8 (fr' := (zm_D_init, d + 8, 146, [some (.ref (194 : Nat)), some (.int (6 : Int32))], [.int (-1 : Int32), .int (29 : Int32), .ref (195 : Nat)])) (h' := (zi_H L xs 204 201 293)) (fun _ => rfl)).trans ?_
  refine zi_ast (i := 29) rfl rfl (by decide) (by decide) rfl rfl ?_
  refine (zz_go 6 (fr' := (zm_D_init, d + 8, 120, [some (.ref (194 : Nat)), some (.int (7 : Int32))], [.ref (194 : Nat)])) (h' := (zi_H L xs 204 201 294)) (fun _ => rfl)).trans ?_
  refine zl_getR (r := 195) rfl rfl rfl ?_
  show zz_D (zm_D_init, d + 8, 123, [some (.ref (194 : Nat)), some (.int (7 : Int32))], [.ref (195 : Nat)]) (zi_H L xs 204 201 294) = _
  refine (zz_go 8 (fr' := (zm_D_init, d + 8, 132, [some (.ref (194 : Nat)), some (.int (7 : Int32))], [.int (7 : Int32), .int (31 : Int32), .ref (195 : Nat)])) (h' := (zi_H L xs 204 201 294)) (fun _ => rfl)).trans ?_
  refine zi_ast (i := 31) rfl rfl (by decide) (by decide) rfl rfl ?_
  refine (zz_go 1 (fr' := (zm_D_init, d + 8, 134, [some (.ref (194 : Nat)), some (.int (7 : Int32))], [.ref (194 : Nat)])) (h' := (zi_H L xs 204 201 295)) (fun _ => rfl)).trans ?_
  refine zl_getR (r := 195) rfl rfl rfl ?_
  show zz_D (zm_D_init, d + 8, 137, [some (.ref (194 : Nat)), some (.int (7 : Int32))], [.ref (195 : Nat)]) (zi_H L xs 204 201 295) = _
  refine (zz_go 8 (fr' := (zm_D_init, d + 8, 146, [some (.ref (194 : Nat)), some (.int (7 : Int32))], [.int (-1 : Int32), .int (32 : Int32), .ref (195 : Nat)])) (h' := (zi_H L xs 204 201 295)) (fun _ => rfl)).trans ?_
  refine zi_ast (i := 32) rfl rfl (by decide) (by decide) rfl rfl ?_
  refine (zz_go 5 (fr' := (zm_D_init, d + 8, 153, [some (.ref (194 : Nat)), some (.int (8 : Int32))], [])) (h' := (zi_H L xs 204 201 296)) (fun _ => rfl)).trans ?_
  exact zz_end 1 (fun _ => rfl)
set_option maxRecDepth 40000 in
theorem ic_main (L : Nat) (xs : Nat → Int32) (d : Nat) {z : Option zz_R} (hz : zz_D (zm_W_law_1, d + 193, 23, [some (.ref (0 : Nat)), some (.ref (1 : Nat)), some (.ref (194 : Nat)), some (.ref (204 : Nat)), some (.int (0 : Int32)), none, none], []) (zi_H L xs 205 201 296) = z) : zz_D (zm_W_law_1, d + 193, 0, [some (.ref (0 : Nat)), none, none, none, none, none, none], []) (zi_H L xs 1 0 0) = z := by
  refine zi_new rfl rfl rfl rfl rfl rfl ?_
  refine (zz_go 1 (fr' := (zm_W_law_1, d + 193, 4, [some (.ref (0 : Nat)), none, none, none, none, none, none], [.ref (1 : Nat), .ref (1 : Nat)])) (h' := (zi_H L xs 2 0 0)) (fun _ => rfl)).trans ?_
  refine zi_sp (d := d + 192) rfl rfl rfl rfl rfl rfl rfl rfl rfl rfl (ic_22 L xs (d + 182)) ?_
  refine (zz_go 1 (fr' := (zm_W_law_1, d + 193, 8, [some (.ref (0 : Nat)), some (.ref (1 : Nat)), none, none, none, none, none], [])) (h' := (zi_H L xs 194 192 276)) (fun _ => rfl)).trans ?_
  refine zi_new rfl rfl rfl rfl rfl rfl ?_
  refine (zz_go 1 (fr' := (zm_W_law_1, d + 193, 12, [some (.ref (0 : Nat)), some (.ref (1 : Nat)), none, none, none, none, none], [.ref (194 : Nat), .ref (194 : Nat)])) (h' := (zi_H L xs 195 192 276)) (fun _ => rfl)).trans ?_
  refine zi_sp (d := d + 192) rfl rfl rfl rfl rfl rfl rfl rfl rfl rfl (ic_23 L xs (d + 184)) ?_
  refine (zz_go 2 (fr' := (zm_W_law_1, d + 193, 17, [some (.ref (0 : Nat)), some (.ref (1 : Nat)), some (.ref (194 : Nat)), none, none, none, none], [.int (1 : Int32)])) (h' := (zi_H L xs 204 201 296)) (fun _ => rfl)).trans ?_
  refine zi_newa (c := 1) rfl rfl rfl rfl rfl rfl rfl ?_
  refine (zz_go 3 (fr' := (zm_W_law_1, d + 193, 23, [some (.ref (0 : Nat)), some (.ref (1 : Nat)), some (.ref (194 : Nat)), some (.ref (204 : Nat)), some (.int (0 : Int32)), none, none], [])) (h' := (zi_H L xs 205 201 296)) (fun _ => rfl)).trans ?_
  exact hz
