/-! a line of the shop -/
def zcT (M : zMem) : zMem := (bif (v_T_takeWord M 8) then (zz_up (w_T_takeNumber (w_T_takeWord M 8) (100 : Int32)) 15 11 (v_T_takeNumber (w_T_takeWord M 8) (100 : Int32))) else (bif (v_T_takeWord (w_T_takeWord M 8) 9) then (zz_up (w_T_takeNumber (w_T_takeWord (w_T_takeWord M 8) 9) (999 : Int32)) 15 13 (v_T_takeNumber (w_T_takeWord (w_T_takeWord M 8) 9) (999 : Int32))) else (bif (v_T_takeWord (w_T_takeWord (w_T_takeWord M 8) 9) 10) then (zz_up (w_T_takeNumber (w_T_takeWord (w_T_takeWord (w_T_takeWord M 8) 9) 10) (999 : Int32)) 15 12 (v_T_takeNumber (w_T_takeWord (w_T_takeWord (w_T_takeWord M 8) 9) 10) (999 : Int32))) else (w_T_fail (w_T_takeWord (w_T_takeWord (w_T_takeWord M 8) 9) 10)))))
def zcTo (M : zMem) : Prop := (ok_T_takeWord M 8 ∧ (((v_T_takeWord M 8) = true → ok_T_takeNumber (w_T_takeWord M 8) (100 : Int32)) ∧ ((v_T_takeWord M 8) = false → (ok_T_takeWord (w_T_takeWord M 8) 9 ∧ (((v_T_takeWord (w_T_takeWord M 8) 9) = true → ok_T_takeNumber (w_T_takeWord (w_T_takeWord M 8) 9) (999 : Int32)) ∧ ((v_T_takeWord (w_T_takeWord M 8) 9) = false → (ok_T_takeWord (w_T_takeWord (w_T_takeWord M 8) 9) 10 ∧ ((v_T_takeWord (w_T_takeWord (w_T_takeWord M 8) 9) 10) = true → ok_T_takeNumber (w_T_takeWord (w_T_takeWord (w_T_takeWord M 8) 9) 10) (999 : Int32)))))))))
def zdT (M : zMem) : zMem := (bif (v_D_has M 68) then (w_D_tells (w_D_has M 68) (5 : Int32) (0 : Int32) (100 : Int32)) else (bif (v_D_has (w_D_has M 68) 69) then (w_D_tells (w_D_has (w_D_has M 68) 69) (6 : Int32) (0 : Int32) (999 : Int32)) else (bif (v_D_has (w_D_has (w_D_has M 68) 69) 61) then (w_D_tells (w_D_has (w_D_has (w_D_has M 68) 69) 61) (4 : Int32) (0 : Int32) (999 : Int32)) else (w_D_wrong (w_D_has (w_D_has (w_D_has M 68) 69) 61) ((w_D_has (w_D_has (w_D_has M 68) 69) 61) 194 11)))))
def zdTo (M : zMem) : Prop := (ok_D_has M 68 ∧ (((v_D_has M 68) = true → ok_D_tells (w_D_has M 68) (5 : Int32) (0 : Int32) (100 : Int32)) ∧ ((v_D_has M 68) = false → (ok_D_has (w_D_has M 68) 69 ∧ (((v_D_has (w_D_has M 68) 69) = true → ok_D_tells (w_D_has (w_D_has M 68) 69) (6 : Int32) (0 : Int32) (999 : Int32)) ∧ ((v_D_has (w_D_has M 68) 69) = false → (ok_D_has (w_D_has (w_D_has M 68) 69) 61 ∧ ((v_D_has (w_D_has (w_D_has M 68) 69) 61) = true → ok_D_tells (w_D_has (w_D_has (w_D_has M 68) 69) 61) (4 : Int32) (0 : Int32) (999 : Int32)))))))))
theorem zcLe (M : zMem) : w_H_readLine M = (bif (v_T_takeWord M 0) then (w_H_readKind (w_T_takeWord M 0)) else (bif (decide ((6 : Int32) ≤ ((w_T_takeWord M 0) 15 10))) then (zcT (w_T_takeWord M 0)) else (bif (v_T_takeWord (w_T_takeWord M 0) 4) then (w_H_readPerson (w_T_takeWord (w_T_takeWord M 0) 4)) else (zcT (w_T_takeWord (w_T_takeWord M 0) 4))))) := by
  unfold w_H_readLine zcT
  rfl
theorem zcLo (M : zMem) : ok_H_readLine M = (ok_T_takeWord M 0 ∧ (((v_T_takeWord M 0) = true → ok_H_readKind (w_T_takeWord M 0)) ∧ ((v_T_takeWord M 0) = false → (((decide ((6 : Int32) ≤ ((w_T_takeWord M 0) 15 10))) = true → zcTo (w_T_takeWord M 0)) ∧ ((decide ((6 : Int32) ≤ ((w_T_takeWord M 0) 15 10))) = false → (ok_T_takeWord (w_T_takeWord M 0) 4 ∧ (((v_T_takeWord (w_T_takeWord M 0) 4) = true → ok_H_readPerson (w_T_takeWord (w_T_takeWord M 0) 4)) ∧ ((v_T_takeWord (w_T_takeWord M 0) 4) = false → zcTo (w_T_takeWord (w_T_takeWord M 0) 4))))))))) := by
  unfold ok_H_readLine zcTo
  rfl
theorem zdLe (M : zMem) : w_D_shopLine M = (bif (v_D_has (w_D_here M) 55) then (w_D_kindLine (w_D_has (w_D_here M) 55)) else (bif (v_D_has (w_D_has (w_D_here M) 55) 54) then (w_D_personLine (w_D_has (w_D_has (w_D_here M) 55) 54) (v_D_here M)) else (zdT (w_D_has (w_D_has (w_D_here M) 55) 54)))) := by
  unfold w_D_shopLine zdT
  rfl
theorem zdLo (M : zMem) : ok_D_shopLine M = (ok_D_here M ∧ (ok_D_has (w_D_here M) 55 ∧ (((v_D_has (w_D_here M) 55) = true → ok_D_kindLine (w_D_has (w_D_here M) 55)) ∧ ((v_D_has (w_D_here M) 55) = false → (ok_D_has (w_D_has (w_D_here M) 55) 54 ∧ (((v_D_has (w_D_has (w_D_here M) 55) 54) = true → ok_D_personLine (w_D_has (w_D_has (w_D_here M) 55) 54) (v_D_here M)) ∧ ((v_D_has (w_D_has (w_D_here M) 55) 54) = false → zdTo (w_D_has (w_D_has (w_D_here M) 55) 54)))))))) := by
  unfold ok_D_shopLine zdTo
  rfl
theorem zSs_tr {N N1 R R1 N' R' : zMem} {t : Nat → Int32} {n : Nat} {s' : Nat × Int32} (hN : ∀ a i, ¬ (a = 2 ∧ (i = 3 ∨ i = 4)) → N1 a i = N a i) (hR : zRf R R1) (h : zSs N1 R1 N' R' t n s') : zSs N R N' R' t n s' := by
  obtain ⟨a, b, c, d, e, f⟩ := h
  exact ⟨a, b, c, fun x i h1 h2 => (d x i h1 h2).trans (hN x i h2), fun x i h1 h2 => (e x i h1 h2).trans (hR x i h2), f⟩
theorem zS_mv {N N1 R R1 : zMem} (hN : ∀ a i, ¬ (a = 2 ∧ (i = 3 ∨ i = 4)) → N1 a i = N a i) (hR : zRf R R1) (hS : zc_St N 15 (R 195)) : zc_St N1 15 (R1 195) := zc_pt (fun a i h1 h2 h3 => hN a i (by omega)) (fun i hi => hR 195 i (by omega)) hS
theorem zS_tell {N R : zMem} {t : Nat → Int32} {n : Nat} {s : Nat × Int32} (hi : Int32) (f c : Nat) (hf : 10 ≤ f) (hc : 3 ≤ c ∧ c < 309) (upd : ∀ (N R : zMem), zc_St N 15 (R 195) → ∀ v, zrg 0 hi.toInt v → zc_St (zz_up N 15 f v) 15 ((zz_up R 195 c v) 195)) (hs2 : s.2 = -1) (hT : zT N t n s) (hR : zR R t n s 0) (hS : zc_St N 15 (R 195)) : ∃ s', zSs N R (zz_up (w_T_takeNumber N hi) 15 f (v_T_takeNumber N hi)) (w_D_tells R (Int32.ofNat c) (0 : Int32) hi) t n s' ∧ ok_T_takeNumber N hi ∧ ok_D_tells R (Int32.ofNat c) (0 : Int32) hi := by
  obtain ⟨a1, a2, a3, a4⟩ := zT_nm hT hi
  obtain ⟨b1, b2, b3, b4⟩ := zRn' hR hi
  have hn := hT.2.1
  have hs := hT.2.2.2.2.1
  have hE : ¬ (zpNum t n hi s).2.2 = -1 → (zpNum t n hi s).2.1 = n := zpNm_e (fun hh => absurd hs2 hh)
  refine ⟨(zpNum t n hi s).2, ?_, a3, b1, fun _ => zi_in (by omega) (by omega)⟩
  have hTk : zT (zz_up (w_T_takeNumber N hi) 15 f (v_T_takeNumber N hi)) t n (zpNum t n hi s).2 := zT_fr a2 (fun a i h => zu_o (by omega))
  have hfN : ∀ a i, ¬ (15 ≤ a ∧ a ≤ 25) → ¬ (a = 2 ∧ (i = 3 ∨ i = 4)) → zz_up (w_T_takeNumber N hi) 15 f (v_T_takeNumber N hi) a i = N a i := fun a i h1 h2 => by
    rw [zu_o (by omega)]; exact a4 a i h2
  unfold w_D_tells
  rw [b3.2.1]
  by_cases c : (zpNum t n hi s).2.2 = -1
  · rw [decide_eq_true c, zk_t, zi_nat (by omega), b4 c]
    rw [a1] at hTk hfN ⊢
    exact ⟨hTk, zR_fr b3 (fun a i h => zu_o (by omega)), fun _ => upd _ _ (zS_mv a4 b2 hS) _ (zpNm_r hn hs c), hfN, fun a i h1 h2 => by rw [zu_o (by omega)]; exact b2 a i h2, hE⟩
  · rw [decide_eq_false c, zk_f]
    exact ⟨hTk, b3, fun hh => absurd hh c, hfN, fun a i h1 h2 => b2 a i h2, hE⟩
theorem zS_tail {N R : zMem} {t : Nat → Int32} {n : Nat} {s : Nat × Int32} (hs : s.2 = -1) (hT : zT N t n s) (hR : zR R t n s 0) (hS : zc_St N 15 (R 195)) : ∃ s', zSs N R (zcT N) (zdT R) t n s' ∧ zcTo N ∧ zdTo R := by
  obtain ⟨a1, a2, a3, a4⟩ := zT_wd hT 8 (by decide)
  obtain ⟨b1, b2, b3, b4, b5⟩ := zR_wd hR hs 8 68 rfl (by decide)
  unfold zcT zcTo zdT zdTo
  rw [a1, b1]
  cases h8 : zpHas t n 8 s with
  | true =>
    rw [h8, zk_t] at a2 a4
    have fN : ∀ a i, ¬ (a = 2 ∧ (i = 3 ∨ i = 4)) → w_T_takeWord N 8 a i = N a i := fun a i h => by rw [a2, zu_o (by omega)]
    obtain ⟨s', q1, q2, q3⟩ := zS_tell (s := zpAft t n 8 s) (100 : Int32) 11 5 (by omega) (by omega) (fun N R h v hv => zc_uF11 h hv) hs a4 (b3 h8) (zS_mv fN b5 hS)
    rw [zk_t, zk_t]
    exact ⟨s', zSs_tr fN b5 q1, ⟨a3, fun _ => q2, (fun hh => by cases hh)⟩, ⟨b2, fun _ => q3, (fun hh => by cases hh)⟩⟩
  | false =>
    rw [h8, zk_f] at a2 a4
    obtain ⟨d0, -⟩ := b4 h8
    obtain ⟨c1, c2, c3, c4⟩ := zT_wd hT 9 (by decide)
    obtain ⟨d1, d2, d3, d4, d5⟩ := zR_wd d0 hs 9 69 rfl (by decide)
    have b5' := zRf_tr b5 d5
    rw [zk_f, zk_f, a2, c1, d1]
    cases h9 : zpHas t n 9 s with
    | true =>
      rw [h9, zk_t] at c2 c4
      have fN : ∀ a i, ¬ (a = 2 ∧ (i = 3 ∨ i = 4)) → w_T_takeWord N 9 a i = N a i := fun a i h => by rw [c2, zu_o (by omega)]
      obtain ⟨s', q1, q2, q3⟩ := zS_tell (s := zpAft t n 9 s) (999 : Int32) 13 6 (by omega) (by omega) (fun N R h v hv => zc_uF13 h ⟨hv.1, Int.le_trans hv.2 (by decide)⟩) hs c4 (d3 h9) (zS_mv fN b5' hS)
      rw [zk_t, zk_t]
      exact ⟨s', zSs_tr fN b5' q1, ⟨a3, (fun hh => by cases hh), fun _ => ⟨c3, fun _ => q2, (fun hh => by cases hh)⟩⟩, ⟨b2, (fun hh => by cases hh), fun _ => ⟨d2, fun _ => q3, (fun hh => by cases hh)⟩⟩⟩
    | false =>
      rw [h9, zk_f] at c2 c4
      obtain ⟨f0, -⟩ := d4 h9
      obtain ⟨e1, e2, e3, e4⟩ := zT_wd hT 10 (by decide)
      obtain ⟨f1, f2, f3, f4, f5⟩ := zR_wd f0 hs 10 61 rfl (by decide)
      have b6 := zRf_tr b5' f5
      rw [zk_f, zk_f, c2, e1, f1]
      cases h10 : zpHas t n 10 s with
      | true =>
        rw [h10, zk_t] at e2 e4
        have fN : ∀ a i, ¬ (a = 2 ∧ (i = 3 ∨ i = 4)) → w_T_takeWord N 10 a i = N a i := fun a i h => by rw [e2, zu_o (by omega)]
        obtain ⟨s', q1, q2, q3⟩ := zS_tell (s := zpAft t n 10 s) (999 : Int32) 12 4 (by omega) (by omega) (fun N R h v hv => zc_uF12 h ⟨hv.1, Int.le_trans hv.2 (by decide)⟩) hs e4 (f3 h10) (zS_mv fN b6 hS)
        rw [zk_t, zk_t]
        exact ⟨s', zSs_tr fN b6 q1, ⟨a3, (fun hh => by cases hh), fun _ => ⟨c3, (fun hh => by cases hh), fun _ => ⟨e3, fun _ => q2⟩⟩⟩, ⟨b2, (fun hh => by cases hh), fun _ => ⟨d2, (fun hh => by cases hh), fun _ => ⟨f2, fun _ => q3⟩⟩⟩⟩
      | false =>
        rw [h10, zk_f] at e2 e4
        obtain ⟨g0, g1⟩ := f4 h10
        obtain ⟨w1, w2⟩ := zR_wr (p := s.1) g0 hs rfl
        obtain ⟨t1, t2⟩ := zT_fl hT
        rw [zk_f, zk_f, e2, g1]
        refine ⟨zpFail n s, ⟨t2, w1, fun hh => absurd hh (zpFl_ne hT.2.1 hT.2.2.2.2.1), fun a i h1 h2 => ?_, fun a i h1 h2 => zRf_tr b6 w2 a i h2, fun _ => rfl⟩, ⟨a3, (fun hh => by cases hh), fun _ => ⟨c3, (fun hh => by cases hh), fun _ => ⟨e3, (fun hh => by cases hh)⟩⟩⟩, ⟨b2, (fun hh => by cases hh), fun _ => ⟨d2, (fun hh => by cases hh), fun _ => ⟨f2, (fun hh => by cases hh)⟩⟩⟩⟩
        rw [t1, zu_o (by omega), zu_o (by omega)]
/-- a seventh person is wrong where its line begins -/
theorem zS_p7 {N R : zMem} {t : Nat → Int32} {n p : Nat} {s s1 : Nat × Int32} (hs : s.2 = -1) (hs1 : s1.2 = -1) (hp : p = s.1) (h4 : zpHas t n 4 s = true) (hT : zT N t n s) (hR : zR R t n s1 0) (h3 : R 195 3 = (6 : Int32)) : ∃ s', zSs N R (zcT N) (w_D_personLine R (Int32.ofNat p)) t n s' ∧ zcTo N ∧ ok_D_personLine R (Int32.ofNat p) := by
  have hn := hT.2.1
  have hsn := hT.2.2.2.2.1
  obtain ⟨a1, a2, a3, a4⟩ := zT_wd hT 8 (by decide)
  obtain ⟨c1, c2, c3, c4⟩ := zT_wd hT 9 (by decide)
  obtain ⟨e1, e2, e3, e4⟩ := zT_wd hT 10 (by decide)
  rw [zpHas_u (b := 8) (by decide) h4] at a1 a2
  rw [zpHas_u (b := 9) (by decide) h4] at c1 c2
  rw [zpHas_u (b := 10) (by decide) h4] at e1 e2
  rw [zk_f] at a2 c2 e2
  obtain ⟨t1, t2⟩ := zT_fl hT
  have eC : zcT N = w_T_fail N := by
    unfold zcT
    rw [a1, zk_f, a2, c1, zk_f, c2, e1, zk_f, e2]
  have oC : zcTo N := by
    unfold zcTo
    rw [a1, a2, c1, c2, e1]
    exact ⟨a3, (fun hh => by cases hh), fun _ => ⟨c3, (fun hh => by cases hh), fun _ => ⟨e3, (fun hh => by cases hh)⟩⟩⟩
  have eF : zpFail n s = (n, Int32.ofNat p) := by
    unfold zpFail
    rw [decide_eq_true hs, zk_t, hp]
  have hbad : ¬ Int32.ofNat p = (-1 : Int32) := zne1 (by omega)
  obtain ⟨w1, w2⟩ := zR_wr2 hR hs1 p (by omega) n
  have eB : (bif (decide ((R 195 3) = (6 : Int32))) then (w_D_wrong R (Int32.ofNat p)) else R) = w_D_wrong R (Int32.ofNat p) := by rw [decide_eq_true h3, zk_t]
  obtain ⟨r1, r2, r3, -⟩ := zRa' w1 5 56 rfl (by decide) 99
  obtain ⟨x1, x2, x3, -⟩ := zRa' r3 6 57 rfl (by decide) 9
  have b1 : (zpNum t n 99 (zpNW t n 5 (n, Int32.ofNat p))).2.2 = Int32.ofNat p := by
    have q := zpNW_b (t := t) (n := n) (k := 5) (s := (n, Int32.ofNat p)) hbad
    rw [zpNm_b (by rw [q]; exact hbad)]; exact q
  have b2 : (zpNum t n 9 (zpNW t n 6 (zpNum t n 99 (zpNW t n 5 (n, Int32.ofNat p))).2)).2.2 = Int32.ofNat p := by
    have q := zpNW_b (t := t) (n := n) (k := 6) (s := (zpNum t n 99 (zpNW t n 5 (n, Int32.ofNat p))).2) (by rw [b1]; exact hbad)
    rw [zpNm_b (by rw [q, b1]; exact hbad), q]; exact b1
  have eA2 : w_D_after (w_D_after (w_D_wrong R (Int32.ofNat p)) 56 (0 : Int32) 99) 57 (0 : Int32) 9 = zdA2 R (Int32.ofNat p) := by
    unfold zdA2
    rw [eB]
  rw [eA2] at x2 x3
  have d12 : decide ((zdA2 R (Int32.ofNat p)) 194 12 = (-1 : Int32)) = false := by rw [x3.2.1, b2]; exact decide_eq_false hbad
  have eX : zdXu R (Int32.ofNat p) = zdA2 R (Int32.ofNat p) := by
    unfold zdXu
    rw [d12]
    exact zk_f _ _
  have eW : w_D_personLine R (Int32.ofNat p) = zdA2 R (Int32.ofNat p) := by
    rw [zdPe, eX, d12]
    exact zk_f _ _
  have oD : ok_D_personLine R (Int32.ofNat p) := by
    rw [zdPo, eX, d12, eB]
    exact ⟨r1, x1, (fun hh => by cases hh), (fun hh => by cases hh)⟩
  refine ⟨(n, Int32.ofNat p), ?_, oC, oD⟩
  rw [eC, eW]
  rw [eF] at t1 t2
  refine ⟨t2, zR_bad x3 (by rw [b2]; exact hbad) b2.symm, fun hh => absurd hh hbad, fun a i h1 h2 => ?_, fun a i h1 h2 => zRf_tr w2 (zRf_tr r2 x2) a i h2, fun _ => rfl⟩
  rw [t1, zu_o (by omega), zu_o (by omega)]
/-- a line of the shop, both sides -/
theorem zS_line {N R : zMem} {t : Nat → Int32} {n : Nat} {s : Nat × Int32} (hs : s.2 = -1) (hT : zT N t n s) (hR : zR R t n s 0) (hS : zc_St N 15 (R 195)) : ∃ s', zSs N R (w_H_readLine N) (w_D_shopLine R) t n s' ∧ ok_H_readLine N ∧ ok_D_shopLine R := by
  obtain ⟨k1, k2, k3, -⟩ := zR_sk hR
  obtain ⟨at1, -, -⟩ := zR_at hR hs
  obtain ⟨p, hp6, hp⟩ : ∃ p, p ≤ 6 ∧ N 15 10 = Int32.ofNat p := by
    obtain ⟨q1, q2⟩ := hS.2.2.1.2.1
    exact ⟨(N 15 10).toInt.toNat, by omega, zi_eq (by rw [zi_val (by omega)]; omega)⟩
  obtain ⟨a1, a2, a3, a4⟩ := zT_wd hT 0 (by decide)
  obtain ⟨b1, b2, b3, b4, b5⟩ := zR_wd k1 hs 0 55 rfl (by decide)
  have f1 := zRf_tr k3 b5
  have eh : w_D_here R = w_D_skip R := rfl
  have ev : v_D_here R = Int32.ofNat s.1 := at1
  rw [zcLe, zcLo, zdLe, zdLo, eh, ev, a1, b1]
  cases h0 : zpHas t n 0 s with
  | true =>
    rw [h0, zk_t] at a2 a4
    have fN : ∀ a i, ¬ (a = 2 ∧ (i = 3 ∨ i = 4)) → w_T_takeWord N 0 a i = N a i := fun a i h => by rw [a2, zu_o (by omega)]
    obtain ⟨s', q1, q2, q3⟩ := zS_kind (s := zpAft t n 0 s) hs a4 (b3 h0) (zS_mv fN f1 hS)
    rw [zk_t, zk_t]
    exact ⟨s', zSs_tr fN f1 q1, ⟨a3, fun _ => q2, (fun hh => by cases hh)⟩, ⟨k2, b2, fun _ => q3, (fun hh => by cases hh)⟩⟩
  | false =>
    rw [h0, zk_f] at a2 a4
    obtain ⟨d0, -⟩ := b4 h0
    obtain ⟨c1, c2, c3, c4⟩ := zT_wd hT 4 (by decide)
    obtain ⟨d1, d2, d3, d4, d5⟩ := zR_wd d0 hs 4 54 rfl (by decide)
    have f2 := zRf_tr f1 d5
    have e6 : decide ((6 : Int32) ≤ N 15 10) = decide (6 ≤ p) := by rw [hp]; exact zi_len (n := 6) (by omega) (by omega)
    rw [zk_f, zk_f, a2, c1, d1, e6]
    have fr0 : ∀ a i, ¬ (a = 2 ∧ (i = 3 ∨ i = 4)) → N a i = N a i := fun _ _ _ => rfl
    by_cases c6 : 6 ≤ p
    · have hp' : p = 6 := by omega
      rw [decide_eq_true c6, zk_t]
      cases h4 : zpHas t n 4 s with
      | true =>
        rw [zk_t]
        have h3 : (w_D_has (w_D_has (w_D_skip R) 55) 54) 195 3 = (6 : Int32) := by
          rw [f2 195 3 (by omega)]
          refine hS.2.2.1.1.1.symm.trans ?_
          rw [hp, hp']; rfl
        obtain ⟨s', q1, q2, q3⟩ := zS_p7 (p := s.1) hs (s1 := zpAft t n 4 s) hs rfl h4 hT (d3 h4) h3
        exact ⟨s', zSs_tr fr0 f2 q1, ⟨a3, (fun hh => by cases hh), fun _ => ⟨fun _ => q2, (fun hh => by cases hh)⟩⟩, ⟨k2, b2, (fun hh => by cases hh), fun _ => ⟨d2, fun _ => q3, (fun hh => by cases hh)⟩⟩⟩
      | false =>
        rw [zk_f]
        obtain ⟨s', q1, q2, q3⟩ := zS_tail hs hT (d4 h4).1 (zS_mv fr0 f2 hS)
        exact ⟨s', zSs_tr fr0 f2 q1, ⟨a3, (fun hh => by cases hh), fun _ => ⟨fun _ => q2, (fun hh => by cases hh)⟩⟩, ⟨k2, b2, (fun hh => by cases hh), fun _ => ⟨d2, (fun hh => by cases hh), fun _ => q3⟩⟩⟩
    · rw [decide_eq_false c6, zk_f]
      cases h4 : zpHas t n 4 s with
      | true =>
        rw [h4, zk_t] at c2 c4
        have fN : ∀ a i, ¬ (a = 2 ∧ (i = 3 ∨ i = 4)) → w_T_takeWord N 4 a i = N a i := fun a i h => by rw [c2, zu_o (by omega)]
        obtain ⟨s', q1, q2, q3⟩ := zS_pers (p := p) (s := zpAft t n 4 s) (Int32.ofNat s.1) hs c4 (d3 h4) (zS_mv fN f2 hS) (by omega) (by rw [fN 15 10 (by omega)]; exact hp)
        rw [zk_t, zk_t]
        exact ⟨s', zSs_tr fN f2 q1, ⟨a3, (fun hh => by cases hh), fun _ => ⟨(fun hh => by cases hh), fun _ => ⟨c3, fun _ => q2, (fun hh => by cases hh)⟩⟩⟩, ⟨k2, b2, (fun hh => by cases hh), fun _ => ⟨d2, fun _ => q3, (fun hh => by cases hh)⟩⟩⟩
      | false =>
        rw [h4, zk_f] at c2 c4
        rw [zk_f, zk_f, c2]
        obtain ⟨s', q1, q2, q3⟩ := zS_tail hs hT (d4 h4).1 (zS_mv fr0 f2 hS)
        exact ⟨s', zSs_tr fr0 f2 q1, ⟨a3, (fun hh => by cases hh), fun _ => ⟨(fun hh => by cases hh), fun _ => ⟨c3, (fun hh => by cases hh), fun _ => q2⟩⟩⟩, ⟨k2, b2, (fun hh => by cases hh), fun _ => ⟨d2, (fun hh => by cases hh), fun _ => q3⟩⟩⟩
