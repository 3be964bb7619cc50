/-! THE LAW'S LOOP -/
def zo_all (Inv : zMem → Prop) : Prop := zo_0 Inv ∧ zo_1 Inv ∧ zo_2 Inv ∧ zo_3 Inv ∧ zo_4 Inv ∧ zo_5 Inv ∧ zo_6 Inv ∧ zo_7 Inv ∧ zo_8 Inv ∧ zo_9 Inv ∧ zo_10 Inv ∧ zo_11 Inv ∧ zo_12 Inv ∧ zo_13 Inv ∧ zo_14 Inv ∧ zo_15 Inv ∧ zo_16 Inv ∧ zo_17 Inv ∧ zo_18 Inv ∧ zo_19 Inv ∧ zo_20 Inv ∧ zo_21 Inv ∧ zo_22 Inv ∧ zo_23 Inv ∧ zo_24 Inv ∧ zo_25 Inv ∧ zo_26 Inv ∧ zo_27 Inv ∧ zo_28 Inv ∧ zo_29 Inv ∧ zo_30 Inv ∧ zo_31 Inv ∧ zo_32 Inv ∧ zo_33 Inv ∧ zo_34 Inv ∧ zo_35 Inv ∧ zo_36 Inv ∧ zo_37 Inv ∧ zo_38 Inv ∧ zo_39 Inv ∧ zo_40 Inv ∧ zo_41 Inv ∧ zo_42 Inv ∧ zo_43 Inv ∧ zo_44 Inv ∧ zo_45 Inv ∧ zo_46 Inv ∧ zo_47 Inv ∧ zo_48 Inv ∧ zo_49 Inv ∧ zo_50 Inv ∧ zo_51 Inv
theorem ml_in {j L : Nat} (h6 : 6 * j + 6 ≤ L) (hL : L ≤ 3072) : zz_in (Int32.ofNat (6 * j)) L = true := zi_in (by omega) (by omega)
theorem ml_and {y : Int32} (h : ∀ k : Nat, k < 52 → y ≠ Int32.ofNat k) (h63 : ∃ x : Int32, y = x &&& 63) : (decide (y.toInt < 0) || decide (51 < y.toInt)) = true := by
  rw [Bool.or_eq_true, decide_eq_true_eq, decide_eq_true_eq]
  by_cases h1 : y.toInt < 0
  · exact Or.inl h1
  · refine Or.inr ?_
    have h2 : ¬ y.toInt ≤ 51 := by
      intro h3
      have h4 := h y.toInt.toNat (by omega)
      apply h4
      apply Int32.toInt_inj.mp
      rw [zi_val (by omega)]
      omega
    omega
set_option maxRecDepth 40000 in
theorem ml_sw (L e : Nat) (J : zJem) (d j : Nat) (M : zMem) (h6 : 6 * j + 6 ≤ L) (hL : L ≤ 3072) {z : Option zz_R} (hz : zz_D (zm_W_law_1, d + 193, 40, [some (.ref (0 : Nat)), some (.ref (1 : Nat)), some (.ref (194 : Nat)), some (.ref (204 : Nat)), some (.int (Int32.ofNat (6 * j))), none, none], [.int ((M 0 (6 * j)) &&& (63 : Int32))]) (zt_T L, zt_R, M, J, e) = z) : zz_D (zm_W_law_1, d + 193, 33, [some (.ref (0 : Nat)), some (.ref (1 : Nat)), some (.ref (194 : Nat)), some (.ref (204 : Nat)), some (.int (Int32.ofNat (6 * j))), none, none], []) (zt_T L, zt_R, M, J, e) = z := by
  refine (zz_go 2 (fr' := (zm_W_law_1, d + 193, 36, [some (.ref (0 : Nat)), some (.ref (1 : Nat)), some (.ref (194 : Nat)), some (.ref (204 : Nat)), some (.int (Int32.ofNat (6 * j))), none, none], [.int (Int32.ofNat (6 * j)), .ref (0 : Nat)])) (h' := (zt_T L, zt_R, M, J, e)) (fun _ => rfl)).trans ?_
  refine zl_iaN (v := (M 0 (6 * j))) (6 * j) rfl rfl (ml_in h6 hL) (zi_nat (by omega)) rfl ?_
  exact (zz_go 2 (fr' := (zm_W_law_1, d + 193, 40, [some (.ref (0 : Nat)), some (.ref (1 : Nat)), some (.ref (194 : Nat)), some (.ref (204 : Nat)), some (.int (Int32.ofNat (6 * j))), none, none], [.int ((M 0 (6 * j)) &&& (63 : Int32))])) (h' := (zt_T L, zt_R, M, J, e)) (fun _ => rfl)).trans hz
set_option maxRecDepth 40000 in
set_option maxHeartbeats 4000000 in
theorem ml_body (Inv : zMem → Prop) (ho : zo_all Inv) (L e : Nat) (J : zJem) (d j : Nat) (M : zMem) (h6 : 6 * j + 6 ≤ L) (hL : L ≤ 3072) (hI : Inv M) : ∃ (M2 : zMem) (J2 : zJem) (e2 : Nat), Inv M2 ∧ e2 ≤ e + 1 ∧ ∀ z, zz_D (zm_W_law_1, d + 193, 2844, [some (.ref (0 : Nat)), some (.ref (1 : Nat)), some (.ref (194 : Nat)), some (.ref (204 : Nat)), some (.int (Int32.ofNat (6 * j))), none, none], []) (zt_T L, zt_R, M2, J2, e2) = some z → zz_D (zm_W_law_1, d + 193, 33, [some (.ref (0 : Nat)), some (.ref (1 : Nat)), some (.ref (194 : Nat)), some (.ref (204 : Nat)), some (.int (Int32.ofNat (6 * j))), none, none], []) (zt_T L, zt_R, M, J, e) = some z := by
  obtain ⟨o0, o1, o2, o3, o4, o5, o6, o7, o8, o9, o10, o11, o12, o13, o14, o15, o16, o17, o18, o19, o20, o21, o22, o23, o24, o25, o26, o27, o28, o29, o30, o31, o32, o33, o34, o35, o36, o37, o38, o39, o40, o41, o42, o43, o44, o45, o46, o47, o48, o49, o50, o51⟩ := ho
  have hk : ∀ k : Nat, k < 52 → ((M 0 (6 * j)) &&& (63 : Int32)) = Int32.ofNat k → ∃ (M2 : zMem) (J2 : zJem) (e2 : Nat), Inv M2 ∧ e2 ≤ e + 1 ∧ ∀ z, zz_D (zm_W_law_1, d + 193, 2844, [some (.ref (0 : Nat)), some (.ref (1 : Nat)), some (.ref (194 : Nat)), some (.ref (204 : Nat)), some (.int (Int32.ofNat (6 * j))), none, none], []) (zt_T L, zt_R, M2, J2, e2) = some z → zz_D (zm_W_law_1, d + 193, 40, [some (.ref (0 : Nat)), some (.ref (1 : Nat)), some (.ref (194 : Nat)), some (.ref (204 : Nat)), some (.int (Int32.ofNat (6 * j))), none, none], [.int ((M 0 (6 * j)) &&& (63 : Int32))]) (zt_T L, zt_R, M, J, e) = some z := by
    intro k hk hx
    rw [hx]
    match k, hk with
    | 0, _ =>
      obtain ⟨M2, J2, e2, a, b, c⟩ := mc_0 Inv o0 L e J d j M h6 hL hI
      exact ⟨M2, J2, e2, a, b, fun z hz => (zz_go 1 (fr' := (zm_W_law_1, d + 193, 264, [some (.ref (0 : Nat)), some (.ref (1 : Nat)), some (.ref (194 : Nat)), some (.ref (204 : Nat)), some (.int (Int32.ofNat (6 * j))), none, none], [])) (h' := (zt_T L, zt_R, M, J, e)) (fun _ => rfl)).trans (c z hz)⟩
    | 1, _ =>
      obtain ⟨M2, J2, e2, a, b, c⟩ := mc_1 Inv o1 L e J d j M h6 hL hI
      exact ⟨M2, J2, e2, a, b, fun z hz => (zz_go 1 (fr' := (zm_W_law_1, d + 193, 337, [some (.ref (0 : Nat)), some (.ref (1 : Nat)), some (.ref (194 : Nat)), some (.ref (204 : Nat)), some (.int (Int32.ofNat (6 * j))), none, none], [])) (h' := (zt_T L, zt_R, M, J, e)) (fun _ => rfl)).trans (c z hz)⟩
    | 2, _ =>
      obtain ⟨M2, J2, e2, a, b, c⟩ := mc_2 Inv o2 L e J d j M h6 hL hI
      exact ⟨M2, J2, e2, a, b, fun z hz => (zz_go 1 (fr' := (zm_W_law_1, d + 193, 362, [some (.ref (0 : Nat)), some (.ref (1 : Nat)), some (.ref (194 : Nat)), some (.ref (204 : Nat)), some (.int (Int32.ofNat (6 * j))), none, none], [])) (h' := (zt_T L, zt_R, M, J, e)) (fun _ => rfl)).trans (c z hz)⟩
    | 3, _ =>
      obtain ⟨M2, J2, e2, a, b, c⟩ := mc_3 Inv o3 L e J d j M h6 hL hI
      exact ⟨M2, J2, e2, a, b, fun z hz => (zz_go 1 (fr' := (zm_W_law_1, d + 193, 406, [some (.ref (0 : Nat)), some (.ref (1 : Nat)), some (.ref (194 : Nat)), some (.ref (204 : Nat)), some (.int (Int32.ofNat (6 * j))), none, none], [])) (h' := (zt_T L, zt_R, M, J, e)) (fun _ => rfl)).trans (c z hz)⟩
    | 4, _ =>
      obtain ⟨M2, J2, e2, a, b, c⟩ := mc_4 Inv o4 L e J d j M h6 hL hI
      exact ⟨M2, J2, e2, a, b, fun z hz => (zz_go 1 (fr' := (zm_W_law_1, d + 193, 450, [some (.ref (0 : Nat)), some (.ref (1 : Nat)), some (.ref (194 : Nat)), some (.ref (204 : Nat)), some (.int (Int32.ofNat (6 * j))), none, none], [])) (h' := (zt_T L, zt_R, M, J, e)) (fun _ => rfl)).trans (c z hz)⟩
    | 5, _ =>
      obtain ⟨M2, J2, e2, a, b, c⟩ := mc_5 Inv o5 L e J d j M h6 hL hI
      exact ⟨M2, J2, e2, a, b, fun z hz => (zz_go 1 (fr' := (zm_W_law_1, d + 193, 463, [some (.ref (0 : Nat)), some (.ref (1 : Nat)), some (.ref (194 : Nat)), some (.ref (204 : Nat)), some (.int (Int32.ofNat (6 * j))), none, none], [])) (h' := (zt_T L, zt_R, M, J, e)) (fun _ => rfl)).trans (c z hz)⟩
    | 6, _ =>
      obtain ⟨M2, J2, e2, a, b, c⟩ := mc_6 Inv o6 L e J d j M h6 hL hI
      exact ⟨M2, J2, e2, a, b, fun z hz => (zz_go 1 (fr' := (zm_W_law_1, d + 193, 531, [some (.ref (0 : Nat)), some (.ref (1 : Nat)), some (.ref (194 : Nat)), some (.ref (204 : Nat)), some (.int (Int32.ofNat (6 * j))), none, none], [])) (h' := (zt_T L, zt_R, M, J, e)) (fun _ => rfl)).trans (c z hz)⟩
    | 7, _ =>
      obtain ⟨M2, J2, e2, a, b, c⟩ := mc_7 Inv o7 L e J d j M h6 hL hI
      exact ⟨M2, J2, e2, a, b, fun z hz => (zz_go 1 (fr' := (zm_W_law_1, d + 193, 599, [some (.ref (0 : Nat)), some (.ref (1 : Nat)), some (.ref (194 : Nat)), some (.ref (204 : Nat)), some (.int (Int32.ofNat (6 * j))), none, none], [])) (h' := (zt_T L, zt_R, M, J, e)) (fun _ => rfl)).trans (c z hz)⟩
    | 8, _ =>
      obtain ⟨M2, J2, e2, a, b, c⟩ := mc_8 Inv o8 L e J d j M h6 hL hI
      exact ⟨M2, J2, e2, a, b, fun z hz => (zz_go 1 (fr' := (zm_W_law_1, d + 193, 674, [some (.ref (0 : Nat)), some (.ref (1 : Nat)), some (.ref (194 : Nat)), some (.ref (204 : Nat)), some (.int (Int32.ofNat (6 * j))), none, none], [])) (h' := (zt_T L, zt_R, M, J, e)) (fun _ => rfl)).trans (c z hz)⟩
    | 9, _ =>
      obtain ⟨M2, J2, e2, a, b, c⟩ := mc_9 Inv o9 L e J d j M h6 hL hI
      exact ⟨M2, J2, e2, a, b, fun z hz => (zz_go 1 (fr' := (zm_W_law_1, d + 193, 730, [some (.ref (0 : Nat)), some (.ref (1 : Nat)), some (.ref (194 : Nat)), some (.ref (204 : Nat)), some (.int (Int32.ofNat (6 * j))), none, none], [])) (h' := (zt_T L, zt_R, M, J, e)) (fun _ => rfl)).trans (c z hz)⟩
    | 10, _ =>
      obtain ⟨M2, J2, e2, a, b, c⟩ := mc_10 Inv o10 L e J d j M h6 hL hI
      exact ⟨M2, J2, e2, a, b, fun z hz => (zz_go 1 (fr' := (zm_W_law_1, d + 193, 805, [some (.ref (0 : Nat)), some (.ref (1 : Nat)), some (.ref (194 : Nat)), some (.ref (204 : Nat)), some (.int (Int32.ofNat (6 * j))), none, none], [])) (h' := (zt_T L, zt_R, M, J, e)) (fun _ => rfl)).trans (c z hz)⟩
    | 11, _ =>
      obtain ⟨M2, J2, e2, a, b, c⟩ := mc_11 Inv o11 L e J d j M h6 hL hI
      exact ⟨M2, J2, e2, a, b, fun z hz => (zz_go 1 (fr' := (zm_W_law_1, d + 193, 873, [some (.ref (0 : Nat)), some (.ref (1 : Nat)), some (.ref (194 : Nat)), some (.ref (204 : Nat)), some (.int (Int32.ofNat (6 * j))), none, none], [])) (h' := (zt_T L, zt_R, M, J, e)) (fun _ => rfl)).trans (c z hz)⟩
    | 12, _ =>
      obtain ⟨M2, J2, e2, a, b, c⟩ := mc_12 Inv o12 L e J d j M h6 hL hI
      exact ⟨M2, J2, e2, a, b, fun z hz => (zz_go 1 (fr' := (zm_W_law_1, d + 193, 929, [some (.ref (0 : Nat)), some (.ref (1 : Nat)), some (.ref (194 : Nat)), some (.ref (204 : Nat)), some (.int (Int32.ofNat (6 * j))), none, none], [])) (h' := (zt_T L, zt_R, M, J, e)) (fun _ => rfl)).trans (c z hz)⟩
    | 13, _ =>
      obtain ⟨M2, J2, e2, a, b, c⟩ := mc_13 Inv o13 L e J d j M h6 hL hI
      exact ⟨M2, J2, e2, a, b, fun z hz => (zz_go 1 (fr' := (zm_W_law_1, d + 193, 997, [some (.ref (0 : Nat)), some (.ref (1 : Nat)), some (.ref (194 : Nat)), some (.ref (204 : Nat)), some (.int (Int32.ofNat (6 * j))), none, none], [])) (h' := (zt_T L, zt_R, M, J, e)) (fun _ => rfl)).trans (c z hz)⟩
    | 14, _ =>
      obtain ⟨M2, J2, e2, a, b, c⟩ := mc_14 Inv o14 L e J d j M h6 hL hI
      exact ⟨M2, J2, e2, a, b, fun z hz => (zz_go 1 (fr' := (zm_W_law_1, d + 193, 1065, [some (.ref (0 : Nat)), some (.ref (1 : Nat)), some (.ref (194 : Nat)), some (.ref (204 : Nat)), some (.int (Int32.ofNat (6 * j))), none, none], [])) (h' := (zt_T L, zt_R, M, J, e)) (fun _ => rfl)).trans (c z hz)⟩
    | 15, _ =>
      obtain ⟨M2, J2, e2, a, b, c⟩ := mc_15 Inv o15 L e J d j M h6 hL hI
      exact ⟨M2, J2, e2, a, b, fun z hz => (zz_go 1 (fr' := (zm_W_law_1, d + 193, 1133, [some (.ref (0 : Nat)), some (.ref (1 : Nat)), some (.ref (194 : Nat)), some (.ref (204 : Nat)), some (.int (Int32.ofNat (6 * j))), none, none], [])) (h' := (zt_T L, zt_R, M, J, e)) (fun _ => rfl)).trans (c z hz)⟩
    | 16, _ =>
      obtain ⟨M2, J2, e2, a, b, c⟩ := mc_16 Inv o16 L e J d j M h6 hL hI
      exact ⟨M2, J2, e2, a, b, fun z hz => (zz_go 1 (fr' := (zm_W_law_1, d + 193, 1201, [some (.ref (0 : Nat)), some (.ref (1 : Nat)), some (.ref (194 : Nat)), some (.ref (204 : Nat)), some (.int (Int32.ofNat (6 * j))), none, none], [])) (h' := (zt_T L, zt_R, M, J, e)) (fun _ => rfl)).trans (c z hz)⟩
    | 17, _ =>
      obtain ⟨M2, J2, e2, a, b, c⟩ := mc_17 Inv o17 L e J d j M h6 hL hI
      exact ⟨M2, J2, e2, a, b, fun z hz => (zz_go 1 (fr' := (zm_W_law_1, d + 193, 1257, [some (.ref (0 : Nat)), some (.ref (1 : Nat)), some (.ref (194 : Nat)), some (.ref (204 : Nat)), some (.int (Int32.ofNat (6 * j))), none, none], [])) (h' := (zt_T L, zt_R, M, J, e)) (fun _ => rfl)).trans (c z hz)⟩
    | 18, _ =>
      obtain ⟨M2, J2, e2, a, b, c⟩ := mc_18 Inv o18 L e J d j M h6 hL hI
      exact ⟨M2, J2, e2, a, b, fun z hz => (zz_go 1 (fr' := (zm_W_law_1, d + 193, 1320, [some (.ref (0 : Nat)), some (.ref (1 : Nat)), some (.ref (194 : Nat)), some (.ref (204 : Nat)), some (.int (Int32.ofNat (6 * j))), none, none], [])) (h' := (zt_T L, zt_R, M, J, e)) (fun _ => rfl)).trans (c z hz)⟩
    | 19, _ =>
      obtain ⟨M2, J2, e2, a, b, c⟩ := mc_19 Inv o19 L e J d j M h6 hL hI
      exact ⟨M2, J2, e2, a, b, fun z hz => (zz_go 1 (fr' := (zm_W_law_1, d + 193, 1400, [some (.ref (0 : Nat)), some (.ref (1 : Nat)), some (.ref (194 : Nat)), some (.ref (204 : Nat)), some (.int (Int32.ofNat (6 * j))), none, none], [])) (h' := (zt_T L, zt_R, M, J, e)) (fun _ => rfl)).trans (c z hz)⟩
    | 20, _ =>
      obtain ⟨M2, J2, e2, a, b, c⟩ := mc_20 Inv o20 L e J d j M h6 hL hI
      exact ⟨M2, J2, e2, a, b, fun z hz => (zz_go 1 (fr' := (zm_W_law_1, d + 193, 1468, [some (.ref (0 : Nat)), some (.ref (1 : Nat)), some (.ref (194 : Nat)), some (.ref (204 : Nat)), some (.int (Int32.ofNat (6 * j))), none, none], [])) (h' := (zt_T L, zt_R, M, J, e)) (fun _ => rfl)).trans (c z hz)⟩
    | 21, _ =>
      obtain ⟨M2, J2, e2, a, b, c⟩ := mc_21 Inv o21 L e J d j M h6 hL hI
      exact ⟨M2, J2, e2, a, b, fun z hz => (zz_go 1 (fr' := (zm_W_law_1, d + 193, 1564, [some (.ref (0 : Nat)), some (.ref (1 : Nat)), some (.ref (194 : Nat)), some (.ref (204 : Nat)), some (.int (Int32.ofNat (6 * j))), none, none], [])) (h' := (zt_T L, zt_R, M, J, e)) (fun _ => rfl)).trans (c z hz)⟩
    | 22, _ =>
      obtain ⟨M2, J2, e2, a, b, c⟩ := mc_22 Inv o22 L e J d j M h6 hL hI
      exact ⟨M2, J2, e2, a, b, fun z hz => (zz_go 1 (fr' := (zm_W_law_1, d + 193, 1627, [some (.ref (0 : Nat)), some (.ref (1 : Nat)), some (.ref (194 : Nat)), some (.ref (204 : Nat)), some (.int (Int32.ofNat (6 * j))), none, none], [])) (h' := (zt_T L, zt_R, M, J, e)) (fun _ => rfl)).trans (c z hz)⟩
    | 23, _ =>
      obtain ⟨M2, J2, e2, a, b, c⟩ := mc_23 Inv o23 L e J d j M h6 hL hI
      exact ⟨M2, J2, e2, a, b, fun z hz => (zz_go 1 (fr' := (zm_W_law_1, d + 193, 1640, [some (.ref (0 : Nat)), some (.ref (1 : Nat)), some (.ref (194 : Nat)), some (.ref (204 : Nat)), some (.int (Int32.ofNat (6 * j))), none, none], [])) (h' := (zt_T L, zt_R, M, J, e)) (fun _ => rfl)).trans (c z hz)⟩
    | 24, _ =>
      obtain ⟨M2, J2, e2, a, b, c⟩ := mc_24 Inv o24 L e J d j M h6 hL hI
      exact ⟨M2, J2, e2, a, b, fun z hz => (zz_go 1 (fr' := (zm_W_law_1, d + 193, 1712, [some (.ref (0 : Nat)), some (.ref (1 : Nat)), some (.ref (194 : Nat)), some (.ref (204 : Nat)), some (.int (Int32.ofNat (6 * j))), none, none], [])) (h' := (zt_T L, zt_R, M, J, e)) (fun _ => rfl)).trans (c z hz)⟩
    | 25, _ =>
      obtain ⟨M2, J2, e2, a, b, c⟩ := mc_25 Inv o25 L e J d j M h6 hL hI
      exact ⟨M2, J2, e2, a, b, fun z hz => (zz_go 1 (fr' := (zm_W_law_1, d + 193, 1756, [some (.ref (0 : Nat)), some (.ref (1 : Nat)), some (.ref (194 : Nat)), some (.ref (204 : Nat)), some (.int (Int32.ofNat (6 * j))), none, none], [])) (h' := (zt_T L, zt_R, M, J, e)) (fun _ => rfl)).trans (c z hz)⟩
    | 26, _ =>
      obtain ⟨M2, J2, e2, a, b, c⟩ := mc_26 Inv o26 L e J d j M h6 hL hI
      exact ⟨M2, J2, e2, a, b, fun z hz => (zz_go 1 (fr' := (zm_W_law_1, d + 193, 1769, [some (.ref (0 : Nat)), some (.ref (1 : Nat)), some (.ref (194 : Nat)), some (.ref (204 : Nat)), some (.int (Int32.ofNat (6 * j))), none, none], [])) (h' := (zt_T L, zt_R, M, J, e)) (fun _ => rfl)).trans (c z hz)⟩
    | 27, _ =>
      obtain ⟨M2, J2, e2, a, b, c⟩ := mc_27 Inv o27 L e J d j M h6 hL hI
      exact ⟨M2, J2, e2, a, b, fun z hz => (zz_go 1 (fr' := (zm_W_law_1, d + 193, 1794, [some (.ref (0 : Nat)), some (.ref (1 : Nat)), some (.ref (194 : Nat)), some (.ref (204 : Nat)), some (.int (Int32.ofNat (6 * j))), none, none], [])) (h' := (zt_T L, zt_R, M, J, e)) (fun _ => rfl)).trans (c z hz)⟩
    | 28, _ =>
      obtain ⟨M2, J2, e2, a, b, c⟩ := mc_28 Inv o28 L e J d j M h6 hL hI
      exact ⟨M2, J2, e2, a, b, fun z hz => (zz_go 1 (fr' := (zm_W_law_1, d + 193, 1850, [some (.ref (0 : Nat)), some (.ref (1 : Nat)), some (.ref (194 : Nat)), some (.ref (204 : Nat)), some (.int (Int32.ofNat (6 * j))), none, none], [])) (h' := (zt_T L, zt_R, M, J, e)) (fun _ => rfl)).trans (c z hz)⟩
    | 29, _ =>
      obtain ⟨M2, J2, e2, a, b, c⟩ := mc_29 Inv o29 L e J d j M h6 hL hI
      exact ⟨M2, J2, e2, a, b, fun z hz => (zz_go 1 (fr' := (zm_W_law_1, d + 193, 1875, [some (.ref (0 : Nat)), some (.ref (1 : Nat)), some (.ref (194 : Nat)), some (.ref (204 : Nat)), some (.int (Int32.ofNat (6 * j))), none, none], [])) (h' := (zt_T L, zt_R, M, J, e)) (fun _ => rfl)).trans (c z hz)⟩
    | 30, _ =>
      obtain ⟨M2, J2, e2, a, b, c⟩ := mc_30 Inv o30 L e J d j M h6 hL hI
      exact ⟨M2, J2, e2, a, b, fun z hz => (zz_go 1 (fr' := (zm_W_law_1, d + 193, 1931, [some (.ref (0 : Nat)), some (.ref (1 : Nat)), some (.ref (194 : Nat)), some (.ref (204 : Nat)), some (.int (Int32.ofNat (6 * j))), none, none], [])) (h' := (zt_T L, zt_R, M, J, e)) (fun _ => rfl)).trans (c z hz)⟩
    | 31, _ =>
      obtain ⟨M2, J2, e2, a, b, c⟩ := mc_31 Inv o31 L e J d j M h6 hL hI
      exact ⟨M2, J2, e2, a, b, fun z hz => (zz_go 1 (fr' := (zm_W_law_1, d + 193, 1975, [some (.ref (0 : Nat)), some (.ref (1 : Nat)), some (.ref (194 : Nat)), some (.ref (204 : Nat)), some (.int (Int32.ofNat (6 * j))), none, none], [])) (h' := (zt_T L, zt_R, M, J, e)) (fun _ => rfl)).trans (c z hz)⟩
    | 32, _ =>
      obtain ⟨M2, J2, e2, a, b, c⟩ := mc_32 Inv o32 L e J d j M h6 hL hI
      exact ⟨M2, J2, e2, a, b, fun z hz => (zz_go 1 (fr' := (zm_W_law_1, d + 193, 2031, [some (.ref (0 : Nat)), some (.ref (1 : Nat)), some (.ref (194 : Nat)), some (.ref (204 : Nat)), some (.int (Int32.ofNat (6 * j))), none, none], [])) (h' := (zt_T L, zt_R, M, J, e)) (fun _ => rfl)).trans (c z hz)⟩
    | 33, _ =>
      obtain ⟨M2, J2, e2, a, b, c⟩ := mc_33 Inv o33 L e J d j M h6 hL hI
      exact ⟨M2, J2, e2, a, b, fun z hz => (zz_go 1 (fr' := (zm_W_law_1, d + 193, 2099, [some (.ref (0 : Nat)), some (.ref (1 : Nat)), some (.ref (194 : Nat)), some (.ref (204 : Nat)), some (.int (Int32.ofNat (6 * j))), none, none], [])) (h' := (zt_T L, zt_R, M, J, e)) (fun _ => rfl)).trans (c z hz)⟩
    | 34, _ =>
      obtain ⟨M2, J2, e2, a, b, c⟩ := mc_34 Inv o34 L e J d j M h6 hL hI
      exact ⟨M2, J2, e2, a, b, fun z hz => (zz_go 1 (fr' := (zm_W_law_1, d + 193, 2155, [some (.ref (0 : Nat)), some (.ref (1 : Nat)), some (.ref (194 : Nat)), some (.ref (204 : Nat)), some (.int (Int32.ofNat (6 * j))), none, none], [])) (h' := (zt_T L, zt_R, M, J, e)) (fun _ => rfl)).trans (c z hz)⟩
    | 35, _ =>
      obtain ⟨M2, J2, e2, a, b, c⟩ := mc_35 Inv o35 L e J d j M h6 hL hI
      exact ⟨M2, J2, e2, a, b, fun z hz => (zz_go 1 (fr' := (zm_W_law_1, d + 193, 2223, [some (.ref (0 : Nat)), some (.ref (1 : Nat)), some (.ref (194 : Nat)), some (.ref (204 : Nat)), some (.int (Int32.ofNat (6 * j))), none, none], [])) (h' := (zt_T L, zt_R, M, J, e)) (fun _ => rfl)).trans (c z hz)⟩
    | 36, _ =>
      obtain ⟨M2, J2, e2, a, b, c⟩ := mc_36 Inv o36 L e J d j M h6 hL hI
      exact ⟨M2, J2, e2, a, b, fun z hz => (zz_go 1 (fr' := (zm_W_law_1, d + 193, 2236, [some (.ref (0 : Nat)), some (.ref (1 : Nat)), some (.ref (194 : Nat)), some (.ref (204 : Nat)), some (.int (Int32.ofNat (6 * j))), none, none], [])) (h' := (zt_T L, zt_R, M, J, e)) (fun _ => rfl)).trans (c z hz)⟩
    | 37, _ =>
      obtain ⟨M2, J2, e2, a, b, c⟩ := mc_37 Inv o37 L e J d j M h6 hL hI
      exact ⟨M2, J2, e2, a, b, fun z hz => (zz_go 1 (fr' := (zm_W_law_1, d + 193, 2249, [some (.ref (0 : Nat)), some (.ref (1 : Nat)), some (.ref (194 : Nat)), some (.ref (204 : Nat)), some (.int (Int32.ofNat (6 * j))), none, none], [])) (h' := (zt_T L, zt_R, M, J, e)) (fun _ => rfl)).trans (c z hz)⟩
    | 38, _ =>
      obtain ⟨M2, J2, e2, a, b, c⟩ := mc_38 Inv o38 L e J d j M h6 hL hI
      exact ⟨M2, J2, e2, a, b, fun z hz => (zz_go 1 (fr' := (zm_W_law_1, d + 193, 2262, [some (.ref (0 : Nat)), some (.ref (1 : Nat)), some (.ref (194 : Nat)), some (.ref (204 : Nat)), some (.int (Int32.ofNat (6 * j))), none, none], [])) (h' := (zt_T L, zt_R, M, J, e)) (fun _ => rfl)).trans (c z hz)⟩
    | 39, _ =>
      obtain ⟨M2, J2, e2, a, b, c⟩ := mc_39 Inv o39 L e J d j M h6 hL hI
      exact ⟨M2, J2, e2, a, b, fun z hz => (zz_go 1 (fr' := (zm_W_law_1, d + 193, 2275, [some (.ref (0 : Nat)), some (.ref (1 : Nat)), some (.ref (194 : Nat)), some (.ref (204 : Nat)), some (.int (Int32.ofNat (6 * j))), none, none], [])) (h' := (zt_T L, zt_R, M, J, e)) (fun _ => rfl)).trans (c z hz)⟩
    | 40, _ =>
      obtain ⟨M2, J2, e2, a, b, c⟩ := mc_40 Inv o40 L e J d j M h6 hL hI
      exact ⟨M2, J2, e2, a, b, fun z hz => (zz_go 1 (fr' := (zm_W_law_1, d + 193, 2288, [some (.ref (0 : Nat)), some (.ref (1 : Nat)), some (.ref (194 : Nat)), some (.ref (204 : Nat)), some (.int (Int32.ofNat (6 * j))), none, none], [])) (h' := (zt_T L, zt_R, M, J, e)) (fun _ => rfl)).trans (c z hz)⟩
    | 41, _ =>
      obtain ⟨M2, J2, e2, a, b, c⟩ := mc_41 Inv o41 L e J d j M h6 hL hI
      exact ⟨M2, J2, e2, a, b, fun z hz => (zz_go 1 (fr' := (zm_W_law_1, d + 193, 2301, [some (.ref (0 : Nat)), some (.ref (1 : Nat)), some (.ref (194 : Nat)), some (.ref (204 : Nat)), some (.int (Int32.ofNat (6 * j))), none, none], [])) (h' := (zt_T L, zt_R, M, J, e)) (fun _ => rfl)).trans (c z hz)⟩
    | 42, _ =>
      obtain ⟨M2, J2, e2, a, b, c⟩ := mc_42 Inv o42 L e J d j M h6 hL hI
      exact ⟨M2, J2, e2, a, b, fun z hz => (zz_go 1 (fr' := (zm_W_law_1, d + 193, 2357, [some (.ref (0 : Nat)), some (.ref (1 : Nat)), some (.ref (194 : Nat)), some (.ref (204 : Nat)), some (.int (Int32.ofNat (6 * j))), none, none], [])) (h' := (zt_T L, zt_R, M, J, e)) (fun _ => rfl)).trans (c z hz)⟩
    | 43, _ =>
      obtain ⟨M2, J2, e2, a, b, c⟩ := mc_43 Inv o43 L e J d j M h6 hL hI
      exact ⟨M2, J2, e2, a, b, fun z hz => (zz_go 1 (fr' := (zm_W_law_1, d + 193, 2437, [some (.ref (0 : Nat)), some (.ref (1 : Nat)), some (.ref (194 : Nat)), some (.ref (204 : Nat)), some (.int (Int32.ofNat (6 * j))), none, none], [])) (h' := (zt_T L, zt_R, M, J, e)) (fun _ => rfl)).trans (c z hz)⟩
    | 44, _ =>
      obtain ⟨M2, J2, e2, a, b, c⟩ := mc_44 Inv o44 L e J d j M h6 hL hI
      exact ⟨M2, J2, e2, a, b, fun z hz => (zz_go 1 (fr' := (zm_W_law_1, d + 193, 2521, [some (.ref (0 : Nat)), some (.ref (1 : Nat)), some (.ref (194 : Nat)), some (.ref (204 : Nat)), some (.int (Int32.ofNat (6 * j))), none, none], [])) (h' := (zt_T L, zt_R, M, J, e)) (fun _ => rfl)).trans (c z hz)⟩
    | 45, _ =>
      obtain ⟨M2, J2, e2, a, b, c⟩ := mc_45 Inv o45 L e J d j M h6 hL hI
      exact ⟨M2, J2, e2, a, b, fun z hz => (zz_go 1 (fr' := (zm_W_law_1, d + 193, 2605, [some (.ref (0 : Nat)), some (.ref (1 : Nat)), some (.ref (194 : Nat)), some (.ref (204 : Nat)), some (.int (Int32.ofNat (6 * j))), none, none], [])) (h' := (zt_T L, zt_R, M, J, e)) (fun _ => rfl)).trans (c z hz)⟩
    | 46, _ =>
      obtain ⟨M2, J2, e2, a, b, c⟩ := mc_46 Inv o46 L e J d j M h6 hL hI
      exact ⟨M2, J2, e2, a, b, fun z hz => (zz_go 1 (fr' := (zm_W_law_1, d + 193, 2689, [some (.ref (0 : Nat)), some (.ref (1 : Nat)), some (.ref (194 : Nat)), some (.ref (204 : Nat)), some (.int (Int32.ofNat (6 * j))), none, none], [])) (h' := (zt_T L, zt_R, M, J, e)) (fun _ => rfl)).trans (c z hz)⟩
    | 47, _ =>
      obtain ⟨M2, J2, e2, a, b, c⟩ := mc_47 Inv o47 L e J d j M h6 hL hI
      exact ⟨M2, J2, e2, a, b, fun z hz => (zz_go 1 (fr' := (zm_W_law_1, d + 193, 2757, [some (.ref (0 : Nat)), some (.ref (1 : Nat)), some (.ref (194 : Nat)), some (.ref (204 : Nat)), some (.int (Int32.ofNat (6 * j))), none, none], [])) (h' := (zt_T L, zt_R, M, J, e)) (fun _ => rfl)).trans (c z hz)⟩
    | 48, _ =>
      obtain ⟨M2, J2, e2, a, b, c⟩ := mc_48 Inv o48 L e J d j M h6 hL hI
      exact ⟨M2, J2, e2, a, b, fun z hz => (zz_go 1 (fr' := (zm_W_law_1, d + 193, 2782, [some (.ref (0 : Nat)), some (.ref (1 : Nat)), some (.ref (194 : Nat)), some (.ref (204 : Nat)), some (.int (Int32.ofNat (6 * j))), none, none], [])) (h' := (zt_T L, zt_R, M, J, e)) (fun _ => rfl)).trans (c z hz)⟩
    | 49, _ =>
      obtain ⟨M2, J2, e2, a, b, c⟩ := mc_49 Inv o49 L e J d j M h6 hL hI
      exact ⟨M2, J2, e2, a, b, fun z hz => (zz_go 1 (fr' := (zm_W_law_1, d + 193, 2795, [some (.ref (0 : Nat)), some (.ref (1 : Nat)), some (.ref (194 : Nat)), some (.ref (204 : Nat)), some (.int (Int32.ofNat (6 * j))), none, none], [])) (h' := (zt_T L, zt_R, M, J, e)) (fun _ => rfl)).trans (c z hz)⟩
    | 50, _ =>
      obtain ⟨M2, J2, e2, a, b, c⟩ := mc_50 Inv o50 L e J d j M h6 hL hI
      exact ⟨M2, J2, e2, a, b, fun z hz => (zz_go 1 (fr' := (zm_W_law_1, d + 193, 2806, [some (.ref (0 : Nat)), some (.ref (1 : Nat)), some (.ref (194 : Nat)), some (.ref (204 : Nat)), some (.int (Int32.ofNat (6 * j))), none, none], [])) (h' := (zt_T L, zt_R, M, J, e)) (fun _ => rfl)).trans (c z hz)⟩
    | 51, _ =>
      obtain ⟨M2, J2, e2, a, b, c⟩ := mc_51 Inv o51 L e J d j M h6 hL hI
      exact ⟨M2, J2, e2, a, b, fun z hz => (zz_go 1 (fr' := (zm_W_law_1, d + 193, 2819, [some (.ref (0 : Nat)), some (.ref (1 : Nat)), some (.ref (194 : Nat)), some (.ref (204 : Nat)), some (.int (Int32.ofNat (6 * j))), none, none], [])) (h' := (zt_T L, zt_R, M, J, e)) (fun _ => rfl)).trans (c z hz)⟩
    | k + 52, hk => exact absurd hk (by omega)
  by_cases hh : ∃ k : Nat, k < 52 ∧ ((M 0 (6 * j)) &&& (63 : Int32)) = Int32.ofNat k
  · obtain ⟨k, hk1, hk2⟩ := hh
    obtain ⟨M2, J2, e2, a, b, c⟩ := hk k hk1 hk2
    exact ⟨M2, J2, e2, a, b, fun z hz => ml_sw L e J d j M h6 hL (c z hz)⟩
  · refine ⟨M, J, e, hI, Nat.le_succ e, fun z hz => ml_sw L e J d j M h6 hL ?_⟩
    exact zl_swd rfl (ml_and (fun k h1 h2 => hh ⟨k, h1, h2⟩) ⟨_, rfl⟩) rfl hz
theorem ml_lt {j L : Nat} (hL : L ≤ 3072) (hj : 6 * j ≤ L + 6) : decide (Int32.ofNat L - 6 < Int32.ofNat (6 * j)) = decide (L < 6 * j + 6) := by
  have e1 : (Int32.ofNat L - 6).toInt = (L : Int) - 6 := by
    rw [Int32.toInt_sub, zi_val (by omega)]
    show ((L : Int) - 6).bmod (2 ^ 32) = _
    rw [Int.bmod_eq_of_le (by omega) (by omega)]
  have e2 : (Int32.ofNat (6 * j)).toInt = (6 * j : Nat) := zi_val (by omega)
  refine decide_eq_decide.mpr ?_
  rw [Int32.lt_iff_toInt_lt, e1, e2]
  omega
set_option maxRecDepth 40000 in
theorem ml_loop (Inv : zMem → Prop) (ho : zo_all Inv) (L d : Nat) (hL : L ≤ 3072) : ∀ (n j e : Nat) (J : zJem) (M : zMem), L < 6 * j + 6 + 6 * n → 6 * j ≤ L + 6 → Inv M → ∃ (M2 : zMem) (J2 : zJem) (e2 : Nat), e2 ≤ e + n ∧ zz_D (zm_W_law_1, d + 193, 23, [some (.ref (0 : Nat)), some (.ref (1 : Nat)), some (.ref (194 : Nat)), some (.ref (204 : Nat)), some (.int (Int32.ofNat (6 * j))), none, none], []) (zt_T L, zt_R, M, J, e) = some (.inl (some (.int 1)), (zt_T L, zt_R, M2, J2, e2)) := by
  intro n
  induction n with
  | zero =>
    intro j e J M h1 h2 hI
    refine ⟨M, J, e, Nat.le_refl _, ?_⟩
    refine (zz_go 2 (fr' := (zm_W_law_1, d + 193, 26, [some (.ref (0 : Nat)), some (.ref (1 : Nat)), some (.ref (194 : Nat)), some (.ref (204 : Nat)), some (.int (Int32.ofNat (6 * j))), none, none], [.ref (0 : Nat), .int (Int32.ofNat (6 * j))])) (h' := (zt_T L, zt_R, M, J, e)) (fun _ => rfl)).trans ?_
    refine zl_len rfl rfl ?_
    refine (zz_go 2 (fr' := (zm_W_law_1, d + 193, 30, [some (.ref (0 : Nat)), some (.ref (1 : Nat)), some (.ref (194 : Nat)), some (.ref (204 : Nat)), some (.int (Int32.ofNat (6 * j))), none, none], [.int (Int32.ofNat L - (6 : Int32)), .int (Int32.ofNat (6 * j))])) (h' := (zt_T L, zt_R, M, J, e)) (fun _ => rfl)).trans ?_
    refine zc_gtT rfl (by rw [ml_lt hL h2]; exact decide_eq_true (by omega)) ?_
    refine (zz_go 1 (fr' := (zm_W_law_1, d + 193, 2851, [some (.ref (0 : Nat)), some (.ref (1 : Nat)), some (.ref (194 : Nat)), some (.ref (204 : Nat)), some (.int (Int32.ofNat (6 * j))), none, none], [.int 1])) (h' := (zt_T L, zt_R, M, J, e)) (fun _ => rfl)).trans ?_
    exact zl_retI rfl rfl rfl
  | succ n ih =>
    intro j e J M h1 h2 hI
    by_cases h3 : L < 6 * j + 6
    · refine ⟨M, J, e, by omega, ?_⟩
      refine (zz_go 2 (fr' := (zm_W_law_1, d + 193, 26, [some (.ref (0 : Nat)), some (.ref (1 : Nat)), some (.ref (194 : Nat)), some (.ref (204 : Nat)), some (.int (Int32.ofNat (6 * j))), none, none], [.ref (0 : Nat), .int (Int32.ofNat (6 * j))])) (h' := (zt_T L, zt_R, M, J, e)) (fun _ => rfl)).trans ?_
      refine zl_len rfl rfl ?_
      refine (zz_go 2 (fr' := (zm_W_law_1, d + 193, 30, [some (.ref (0 : Nat)), some (.ref (1 : Nat)), some (.ref (194 : Nat)), some (.ref (204 : Nat)), some (.int (Int32.ofNat (6 * j))), none, none], [.int (Int32.ofNat L - (6 : Int32)), .int (Int32.ofNat (6 * j))])) (h' := (zt_T L, zt_R, M, J, e)) (fun _ => rfl)).trans ?_
      refine zc_gtT rfl (by rw [ml_lt hL h2]; exact decide_eq_true h3) ?_
      refine (zz_go 1 (fr' := (zm_W_law_1, d + 193, 2851, [some (.ref (0 : Nat)), some (.ref (1 : Nat)), some (.ref (194 : Nat)), some (.ref (204 : Nat)), some (.int (Int32.ofNat (6 * j))), none, none], [.int 1])) (h' := (zt_T L, zt_R, M, J, e)) (fun _ => rfl)).trans ?_
      exact zl_retI rfl rfl rfl
    · obtain ⟨M2, J2, e2, a, b, c⟩ := ml_body Inv ho L e J d j M (by omega) hL hI
      obtain ⟨M3, J3, e3, b3, c3⟩ := ih (j + 1) e2 J2 M2 (by omega) (by omega) a
      refine ⟨M3, J3, e3, by omega, ?_⟩
      refine (zz_go 2 (fr' := (zm_W_law_1, d + 193, 26, [some (.ref (0 : Nat)), some (.ref (1 : Nat)), some (.ref (194 : Nat)), some (.ref (204 : Nat)), some (.int (Int32.ofNat (6 * j))), none, none], [.ref (0 : Nat), .int (Int32.ofNat (6 * j))])) (h' := (zt_T L, zt_R, M, J, e)) (fun _ => rfl)).trans ?_
      refine zl_len rfl rfl ?_
      refine (zz_go 2 (fr' := (zm_W_law_1, d + 193, 30, [some (.ref (0 : Nat)), some (.ref (1 : Nat)), some (.ref (194 : Nat)), some (.ref (204 : Nat)), some (.int (Int32.ofNat (6 * j))), none, none], [.int (Int32.ofNat L - (6 : Int32)), .int (Int32.ofNat (6 * j))])) (h' := (zt_T L, zt_R, M, J, e)) (fun _ => rfl)).trans ?_
      refine zc_gtF rfl (by rw [ml_lt hL h2]; exact decide_eq_false h3) ?_
      refine c _ ?_
      refine (zz_go 2 (fr' := (zm_W_law_1, d + 193, 23, [some (.ref (0 : Nat)), some (.ref (1 : Nat)), some (.ref (194 : Nat)), some (.ref (204 : Nat)), some (.int (Int32.ofNat (6 * j) + 6)), none, none], [])) (h' := (zt_T L, zt_R, M2, J2, e2)) (fun _ => rfl)).trans ?_
      have e1 : Int32.ofNat (6 * j) + 6 = Int32.ofNat (6 * (j + 1)) := by
        rw [Nat.mul_add, Int32.ofNat_add]
        rfl
      rw [e1]
      exact c3
/-- what is left of the machine: the constructors -/
def zo_init (Inv : zMem → Prop) : Prop := ∀ (L : Nat) (xs : Nat → Int32), L ≤ 3072 → ∃ (M : zMem) (J : zJem), Inv M ∧ ∀ z, zz_D (zm_W_law_1, 807 + 193, 23, [some (.ref (0 : Nat)), some (.ref (1 : Nat)), some (.ref (194 : Nat)), some (.ref (204 : Nat)), some (.int (Int32.ofNat (6 * 0))), none, none], []) (zt_T L, zt_R, M, J, 0) = some z → zz_D (zm_W_law_1, 1000, 0, zz_args 7 [.ref 0], []) (zb_h0 L xs) = some z
theorem zo_E (Inv : zMem → Prop) (ho : zo_all Inv) (hi : zo_init Inv) : zz_E := by
  intro L xs hL
  obtain ⟨M, J, hI, hz⟩ := hi L xs hL
  obtain ⟨M2, J2, e2, he, h⟩ := ml_loop Inv ho L 807 hL 512 0 0 J M (by omega) (by omega) hI
  refine ⟨(zt_T L, zt_R, M2, J2, e2), zz_D_iff.mp (hz _ h), ?_, ?_⟩
  · have e1 : zt_Tl.length = 204 := by decide +kernel
    show (zt_T L).length + e2 ≤ 601000
    unfold zt_T
    rw [List.length_cons, e1]
    omega
  · have e1 : zz_us1 zt_Tl ≤ 20000 := by decide +kernel
    show zz_us1 (zt_T L) + 6 * e2 ≤ 7293000
    unfold zt_T
    have e2 : zz_us1 ((100, L) :: zt_Tl) = L + zz_us1 zt_Tl := rfl
    rw [e2]
    omega
