/-! ROWS on the tape; call 30 -/
theorem zv_use {M M' : zMem} (hI : zv_Inv M) (h : ∀ a i, zs_scr a i = false → ¬ (a = 2 ∧ i = 1) → ¬ (a = 194 ∧ i = 8) → M' a i = M a i) (h0 : M' 2 1 = 0) (h8 : M' 194 8 = 0) (h15 : M' 194 15 = M 194 15) (h16 : M' 194 16 = M 194 16) : zv_Inv M' := by
  obtain ⟨t1, t2, t3⟩ := zv_Tp hI
  refine zv_tp hI (fun a i hs a1 a2 a3 a4 => h a i hs a1 a4) ⟨?_, ?_, fun i hi => ?_⟩ h15 h16
  · show M' 2 1 = M' 194 8
    rw [h0, h8]
  · show zrg 0 400 (M' 2 1)
    rw [h0]; exact ⟨by decide, by decide⟩
  · show M' 3 i = M' 199 i ∧ zrg 0 255 (M' 3 i)
    rw [h 3 i rfl (by omega) (by omega), h 199 i rfl (by omega) (by omega)]
    exact t3 i hi
theorem zby_at {N : zMem} {i : Nat} (hi : i < 400) : v_T_byteAt N (Int32.ofNat i) = N 3 i ∧ ok_T_byteAt N (Int32.ofNat i) := by
  have e0 : decide (Int32.ofNat i < 0) = false := by
    rw [zg_lt0, zi_val (by omega)]; exact decide_eq_false (by omega)
  have e4 : decide (Int32.ofNat i < (400 : Int32)) = true := by
    rw [show (400 : Int32) = Int32.ofNat 400 from rfl, zi_lt' (by omega) (by omega)]; exact decide_eq_true hi
  refine ⟨?_, fun _ _ => zi_in hi (by omega)⟩
  unfold v_T_byteAt
  rw [e0, e4, zk_f, zk_t, zi_nat (by omega)]
def zRG (B : Nat → Int32) (x1 x2 : Int32) (i : Nat) : Prop := ∀ j, j < i → (B (2 * j)).toInt < x1.toInt ∧ (B (2 * j + 1)).toInt < x2.toInt
theorem zad2 (i : Nat) : Int32.ofNat i + (2 : Int32) = Int32.ofNat (i + 2) := zi_ad i 2
theorem zR_need {N : zMem} {n : Nat} (x1 x2 : Int32) (hn : n ≤ 20) : ((zf_wh 1000 (g_N_needRows_1 N (Int32.ofNat (2 * n)) x1 x2) 0 ((0 : Int32), false)).2 = false ↔ zRG (N 3) x1 x2 n) ∧ zf_wk 1000 (g_N_needRows_1 N (Int32.ofNat (2 * n)) x1 x2) (kb_N_needRows_1 N (Int32.ofNat (2 * n)) x1 x2) 0 ((0 : Int32), false) := by
  refine zf_wq (g := g_N_needRows_1 N (Int32.ofNat (2 * n)) x1 x2) (k := kb_N_needRows_1 N (Int32.ofNat (2 * n)) x1 x2) (fun i (s : Int32 × Bool) => i ≤ n ∧ s.1 = Int32.ofNat (2 * i) ∧ zRG (N 3) x1 x2 i) (fun (s : Int32 × Bool) => (s.2 = false ↔ zRG (N 3) x1 x2 n)) n (fun i s ⟨hi, h1, h2⟩ => ?_) 1000 0 ((0 : Int32), false) ⟨by omega, rfl, fun j hj => by omega⟩ (by omega)
  obtain ⟨a1, a2⟩ := zby_at (N := N) (i := 2 * i) (by omega)
  obtain ⟨b1, b2⟩ := zby_at (N := N) (i := 2 * i + 1) (by omega)
  unfold g_N_needRows_1 kb_N_needRows_1
  rw [h1, zi_succ (2 * i), zad2 (2 * i), a1, b1, zi_le (by omega) (by omega), zi_lei x1, zi_lti _ x2]
  by_cases c : i = n
  · subst c
    rw [decide_eq_true (show 2 * i ≤ 2 * i + 1 by omega)]
    exact ⟨hi, (fun h => by cases h), (fun h => by cases h), fun _ => ⟨fun _ => h2, fun _ => rfl⟩⟩
  · rw [decide_eq_false (show ¬ 2 * n ≤ 2 * i + 1 by omega)]
    by_cases d1 : x1.toInt ≤ (N 3 (2 * i)).toInt
    · rw [decide_eq_true d1]
      refine ⟨hi, fun _ => ⟨a2, fun h => by cases h⟩, (fun h => by cases h), fun _ => ⟨(fun h => by cases h), fun h => ?_⟩⟩
      have := (h i (by omega)).1
      omega
    · rw [decide_eq_false d1]
      by_cases d2 : (N 3 (2 * i + 1)).toInt < x2.toInt
      · rw [decide_eq_true d2]
        refine ⟨hi, fun _ => ⟨a2, fun _ => b2⟩, fun _ => ⟨by omega, ?_, fun j hj => ?_⟩, (fun h => by cases h)⟩
        · show (bif false then Int32.ofNat (2 * i) else (bif false then Int32.ofNat (2 * i) else (bif true then Int32.ofNat (2 * i + 2) else Int32.ofNat (2 * i)))) = _
          rw [zk_f, zk_f, zk_t, show 2 * i + 2 = 2 * (i + 1) by omega]
        · by_cases e : j = i
          · subst e; exact ⟨by omega, d2⟩
          · exact h2 j (by omega)
      · rw [decide_eq_false d2]
        refine ⟨hi, fun _ => ⟨a2, fun _ => b2⟩, (fun h => by cases h), fun _ => ⟨(fun h => by cases h), fun h => ?_⟩⟩
        exact absurd (h i (by omega)).2 d2
theorem zn40 : ∀ n, n < 401 → decide ((40 : Int32) < Int32.ofNat n) = decide (40 < n) ∧ decide (zrm (Int32.ofNat n) (2 : Int32) = 0) = decide (n % 2 = 0) := by decide +kernel
def zb40 (x : Int32) : Bool := bif (decide ((zrm x (2 : Int32)) = 0)) then (bif (decide ((40 : Int32) < x)) then false else true) else false
theorem zR_t {N : zMem} {z : Nat} (hz : z ≤ 400) (x1 x2 : Int32) : (∃ n, z = 2 * n ∧ n ≤ 20 ∧ (zRG (N 3) x1 x2 n → t_N_needRows N (Int32.ofNat z) x1 x2 = 0) ∧ (¬ zRG (N 3) x1 x2 n → t_N_needRows N (Int32.ofNat z) x1 x2 = 1) ∧ ok_N_needRows N (Int32.ofNat z) x1 x2 ∧ zb40 (Int32.ofNat z) = true) ∨ (t_N_needRows N (Int32.ofNat z) x1 x2 = 1 ∧ ok_N_needRows N (Int32.ofNat z) x1 x2 ∧ zb40 (Int32.ofNat z) = false) := by
  obtain ⟨e1, e2⟩ := zn40 z (by omega)
  unfold t_N_needRows ok_N_needRows zb40
  rw [e1, e2]
  by_cases c1 : 40 < z
  · rw [decide_eq_true c1]
    refine Or.inr ⟨rfl, (fun h => by cases h), ?_⟩
    cases decide (z % 2 = 0) <;> rfl
  · rw [decide_eq_false c1]
    by_cases c2 : z % 2 = 0
    · obtain ⟨n, hn⟩ : ∃ n, z = 2 * n := ⟨z / 2, by omega⟩
      subst hn
      obtain ⟨q1, q2⟩ := zR_need (N := N) (n := n) x1 x2 (by omega)
      rw [decide_eq_true c2]
      refine Or.inl ⟨n, rfl, by omega, fun h => ?_, fun h => ?_, fun _ _ => q2, rfl⟩
      · rw [zk_f, zk_t, q1.mpr h]; rfl
      · rw [zk_f, zk_t]
        cases hc : (zf_wh 1000 (g_N_needRows_1 N (Int32.ofNat (2 * n)) x1 x2) 0 ((0 : Int32), false)).2 with
        | false => exact absurd (q1.mp hc) h
        | true => rfl
    · rw [decide_eq_false c2]
      exact Or.inr ⟨rfl, (fun _ h => by cases h), rfl⟩
theorem zR_cl1 {N : zMem} {n : Nat} (hn : n ≤ 20) (h8 : N 194 8 = Int32.ofNat (2 * n)) : ((zf_wh 1000 (g_D_clash_1 N) 0 (true, (0 : Int32))).1 = true ↔ zRG (N 199) (N 195 3) 2 n) ∧ zf_wk 1000 (g_D_clash_1 N) (kb_D_clash_1 N) 0 (true, (0 : Int32)) := by
  refine zf_wq (g := g_D_clash_1 N) (k := kb_D_clash_1 N) (fun i (s : Bool × Int32) => i ≤ n ∧ s.2 = Int32.ofNat (2 * i) ∧ (s.1 = true ↔ zRG (N 199) (N 195 3) 2 i)) (fun (s : Bool × Int32) => (s.1 = true ↔ zRG (N 199) (N 195 3) 2 n)) n (fun i s ⟨hi, h1, h2⟩ => ?_) 1000 0 (true, (0 : Int32)) ⟨by omega, rfl, fun _ j hj => by omega, fun _ => rfl⟩ (by omega)
  unfold g_D_clash_1 kb_D_clash_1
  rw [h1, h8, zi_succ (2 * i), zad2 (2 * i), zi_nat (by omega), zi_nat (by omega), zi_le (by omega) (by omega), zi_lei (N 195 3), zi_lei 2]
  by_cases c : i = n
  · subst c
    rw [decide_eq_true (show 2 * i ≤ 2 * i by omega)]
    exact ⟨hi, (fun h => by cases h), (fun h => by cases h), fun _ => h2⟩
  · rw [decide_eq_false (show ¬ 2 * n ≤ 2 * i by omega)]
    cases hb : s.1 with
    | false =>
      refine ⟨hi, (fun _ h => by cases h), (fun h => by cases h), fun _ => ⟨(fun h => by cases h), fun h => ?_⟩⟩
      rw [hb] at h2
      exact absurd (h2.mpr (fun j hj => h j (by omega))) (by decide)
    | true =>
      have h3 := h2.mp hb
      refine ⟨hi, fun _ _ => ⟨zi_in (by omega) (by omega), fun _ => zi_in (by omega) (by omega)⟩, fun _ => ⟨by omega, ?_, ?_⟩, (fun h => by cases h)⟩
      · show (bif false then Int32.ofNat (2 * i) else (bif true then Int32.ofNat (2 * i + 2) else Int32.ofNat (2 * i))) = _
        rw [zk_f, zk_t, show 2 * i + 2 = 2 * (i + 1) by omega]
      · show (bif false then true else (bif true then (bif decide ((N 195 3).toInt ≤ (N 199 (2 * i)).toInt) then false else (bif decide ((2 : Int32).toInt ≤ (N 199 (2 * i + 1)).toInt) then false else true)) else true)) = true ↔ _
        rw [zk_f, zk_t]
        by_cases d1 : (N 195 3).toInt ≤ (N 199 (2 * i)).toInt
        · rw [decide_eq_true d1, zk_t]
          refine ⟨(fun h => by cases h), fun h => ?_⟩
          have := (h i (by omega)).1
          omega
        · rw [decide_eq_false d1, zk_f]
          by_cases d2 : (2 : Int32).toInt ≤ (N 199 (2 * i + 1)).toInt
          · rw [decide_eq_true d2, zk_t]
            refine ⟨(fun h => by cases h), fun h => ?_⟩
            have := (h i (by omega)).2
            omega
          · rw [decide_eq_false d2, zk_f]
            refine ⟨fun _ j hj => ?_, fun _ => rfl⟩
            by_cases e : j = i
            · subst e; exact ⟨by omega, by omega⟩
            · exact h3 j (by omega)
theorem zR_cl0 (N : zMem) : (zf_wh 1000 (g_D_clash_1 N) 0 (false, (0 : Int32))).1 = false ∧ zf_wk 1000 (g_D_clash_1 N) (kb_D_clash_1 N) 0 (false, (0 : Int32)) := by
  have e : ∃ x, g_D_clash_1 N 0 (false, (0 : Int32)) = (false, (false, x)) := by
    unfold g_D_clash_1
    cases decide (N 194 8 ≤ ((false, (0 : Int32)) : Bool × Int32).2) <;> exact ⟨_, rfl⟩
  obtain ⟨x, e⟩ := e
  refine ⟨by rw [show (1000 : Nat) = 999 + 1 from rfl, zf_w0 e], zf_k0 e (fun _ h => by cases h)⟩
theorem zRG_eq {B B' : Nat → Int32} {x1 x2 : Int32} {n : Nat} (hn : n ≤ 20) (h : ∀ i, i < 400 → B i = B' i) : zRG B x1 x2 n ↔ zRG B' x1 x2 n := by
  refine ⟨fun hh j hj => ?_, fun hh j hj => ?_⟩
  · rw [← h (2 * j) (by omega), ← h (2 * j + 1) (by omega)]; exact hh j hj
  · rw [h (2 * j) (by omega), h (2 * j + 1) (by omega)]; exact hh j hj
theorem zo30 : zo_30 zv_Inv := by
  intro M hI
  obtain ⟨t1, t2, t3⟩ := zv_Tp hI
  obtain ⟨z, z1, z2, -⟩ := zr_ex t2
  have z1 : z ≤ 400 := by omega
  have e8 : (w_T_useUp M) 194 8 = Int32.ofNat z := by rw [← z2]; exact t1.symm
  have hS : ∀ R : zMem, R 195 = M 195 → zc_St (w_T_useUp M) 4 (R 195) := fun R hR => zc_cg (fun j hj => by
    funext i
    exact zu_o (by omega)) (fun i _ => by rw [hR]) (zv_St hI)
  have hp6 := (zv_F hI).2.1.2
  have hInv : ∀ x, zv_Inv (zz_up (zz_up (w_T_useUp M) 194 8 (0 : Int32)) 194 0 x) := fun x => zv_use hI (fun a i hs a1 a2 => by
    have h9 := zs_o hs
    rw [zu_o (by omega), zu_o (by omega)]
    exact zu_o (by omega)) rfl rfl rfl rfl
  have hu : v_T_useUp M = Int32.ofNat z := z2
  have h410 : (w_T_useUp M) 4 10 = (w_T_useUp M) 195 3 := (zv_F hI).1.1
  unfold ok_N_clash t_N_clash ok_D_clash v_N_clash v_D_clash w_D_clash
  have ew : w_N_clash M = w_T_useUp M := rfl
  rw [ew, h410, hu, e8]
  have h199 : ∀ i, i < 400 → (w_T_useUp M) 3 i = (w_T_useUp M) 199 i := fun i hi => (t3 i hi).1
  have hb0 : (bif (decide ((zrm (Int32.ofNat z) (2 : Int32)) = 0)) then (bif (decide ((40 : Int32) < (Int32.ofNat z))) then false else true) else false) = zb40 (Int32.ofNat z) := rfl
  rw [hb0]
  rcases zR_t (N := w_T_useUp M) z1 ((w_T_useUp M) 195 3) 2 with ⟨n, zn, hn, g1, g2, g3, g4⟩ | ⟨g1, g2, g3⟩
  · rw [g4]
    subst zn
    obtain ⟨q1, q2⟩ := zR_cl1 hn e8
    by_cases hg : zRG ((w_T_useUp M) 3) ((w_T_useUp M) 195 3) 2 n
    · have hg2 := (zRG_eq hn h199).mp hg
      have hg3 := q1.mpr hg2
      rw [g1 hg, hg3]
      -- the second loops
      have key : ∀ i (s : Int32 × Int32), (i ≤ n ∧ s.2 = Int32.ofNat (2 * i)) → g_N_clash_1 M i s = g_D_clash_2 (w_T_useUp M) i s ∧ (kb_N_clash_1 M i s ∧ kb_D_clash_2 (w_T_useUp M) i s) ∧ ((g_N_clash_1 M i s).1 = true → (i + 1 ≤ n ∧ (g_N_clash_1 M i s).2.2 = Int32.ofNat (2 * (i + 1)))) := by
        intro i s ⟨hi, hs⟩
        unfold g_N_clash_1 g_D_clash_2 kb_N_clash_1 kb_D_clash_2
        rw [hu, e8, hb0, g4, hg3, hs, zi_succ (2 * i), zad2 (2 * i), zi_nat (by omega), zi_nat (by omega), zi_le (by omega) (by omega), zi_le (by omega) (by omega)]
        by_cases c : i = n
        · rw [decide_eq_true (show 2 * n ≤ 2 * i + 1 by omega), decide_eq_true (show 2 * n ≤ 2 * i by omega)]
          exact ⟨by simp only [zk_t], ⟨(fun h => by cases h), (fun h => by cases h)⟩, (fun h => by cases h)⟩
        · rw [decide_eq_false (show ¬ 2 * n ≤ 2 * i + 1 by omega), decide_eq_false (show ¬ 2 * n ≤ 2 * i by omega)]
          obtain ⟨a1, a2⟩ := zby_at (N := w_T_useUp M) (i := 2 * i) (by omega)
          obtain ⟨b1, b2⟩ := zby_at (N := w_T_useUp M) (i := 2 * i + 1) (by omega)
          obtain ⟨c1, c2⟩ := t3 (2 * i) (by omega)
          have hlt := (hg i (by omega)).1
          have hle : ((w_T_useUp M) 195 3).toInt ≤ 6 := by rw [← h410]; exact hp6
          obtain ⟨p, p1, p2, p3⟩ := zr_ex c2
          have p2 : (w_T_useUp M) 3 (2 * i) = Int32.ofNat p := p2
          have p6 : p < 6 := by
            rw [p2, zi_val (by omega)] at hlt
            omega
          have p4 : (w_T_useUp M) 199 (2 * i) = Int32.ofNat p := by rw [← h199 _ (by omega)]; exact p2
          rw [a1, b1, h199 (2 * i + 1) (by omega), p2, p4]
          have hR := hS (zz_up (zz_up (w_T_useUp M) 194 8 (0 : Int32)) 194 0 (zb (bif true then false else true))) rfl
          obtain ⟨d1, d2⟩ := zh_hd hR p6
          have ok := zh_pok hR p6
          have okk := zh_ok (zz_up (zz_up (w_T_useUp M) 194 8 (0 : Int32)) 194 0 (zb (bif true then false else true))) p6
          rw [d1]
          refine ⟨rfl, ⟨fun _ => ⟨a2, d2, b2⟩, fun _ => ⟨zi_in (by omega) (by omega), ok.2.1, fun _ => ⟨okk.2.2.2.2.1, ok.2.2.2.1⟩, zi_in (by omega) (by omega)⟩⟩, fun _ => ⟨by omega, ?_⟩⟩
          show (bif false then Int32.ofNat (2 * i) else Int32.ofNat (2 * i + 2)) = _
          rw [zk_f, show 2 * i + 2 = 2 * (i + 1) by omega]
      have l1 := zf_wcg (fun i (s : Int32 × Int32) => i ≤ n ∧ s.2 = Int32.ofNat (2 * i)) (fun i s h => ⟨(key i s h).1, (key i s h).2.2⟩) 1000 0 ((0 : Int32), (0 : Int32)) ⟨by omega, rfl⟩
      have l2 := zf_wke (k := kb_N_clash_1 M) (fun i (s : Int32 × Int32) => i ≤ n ∧ s.2 = Int32.ofNat (2 * i)) n (fun i s h => h.1) (fun i s h => ⟨(key i s h).2.1.1, (key i s h).2.2⟩) 1000 0 ((0 : Int32), (0 : Int32)) ⟨by omega, rfl⟩ (by omega)
      have l3 := zf_wke (g := g_D_clash_2 (w_T_useUp M)) (k := kb_D_clash_2 (w_T_useUp M)) (fun i (s : Int32 × Int32) => i ≤ n ∧ s.2 = Int32.ofNat (2 * i)) n (fun i s h => h.1) (fun i s h => ⟨(key i s h).2.1.2, by rw [← (key i s h).1]; exact (key i s h).2.2⟩) 1000 0 ((0 : Int32), (0 : Int32)) ⟨by omega, rfl⟩ (by omega)
      refine ⟨⟨g3, fun _ => l2⟩, fun i => rfl, Or.inl rfl, ⟨q2, fun _ => l3⟩, rfl, fun _ => ?_, hInv _⟩
      show (zf_wh 1000 (g_N_clash_1 M) 0 ((0 : Int32), (0 : Int32))).1 = (zf_wh 1000 (g_D_clash_2 (w_T_useUp M)) 0 ((0 : Int32), (0 : Int32))).1
      rw [l1]
    · have hg3 : (zf_wh 1000 (g_D_clash_1 (w_T_useUp M)) 0 (true, (0 : Int32))).1 = false := by
        cases hc : (zf_wh 1000 (g_D_clash_1 (w_T_useUp M)) 0 (true, (0 : Int32))).1 with
        | false => rfl
        | true => exact absurd ((zRG_eq hn h199).mpr (q1.mp hc)) hg
      rw [g2 hg, hg3]
      exact ⟨⟨g3, (fun h => by cases h)⟩, fun i => rfl, Or.inr rfl, ⟨q2, (fun h => by cases h)⟩, rfl, (fun h => by cases h), hInv _⟩
  · rw [g3, g1]
    obtain ⟨q1, q2⟩ := zR_cl0 (w_T_useUp M)
    rw [q1]
    exact ⟨⟨g2, (fun h => by cases h)⟩, fun i => rfl, Or.inr rfl, ⟨q2, (fun h => by cases h)⟩, rfl, (fun h => by cases h), hInv _⟩
