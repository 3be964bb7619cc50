/-! call 45 -/
theorem zo45 : zo_45 zv_Inv := by
  intro M x b hI
  have e0 : (0 : Int32).toInt = 0 := rfl
  have e1 : (1 : Int32).toInt = 1 := rfl
  have hF := zv_F hI
  have hc := hF.1.2.2.2.2.2.2
  have c1 := hF.2.2.2.2.2.2.1
  obtain ⟨c, d1, d2, -⟩ := zr_ex c1
  have hcI : (M 4 16).toInt = c := by rw [d2, zi_val (by omega)]
  unfold ok_N_led t_N_led ok_D_led v_N_led v_D_led w_D_led
  rcases zg_p hI (M' := M) rfl x with ⟨p, hp, e, en, t, i⟩ | ⟨t, i⟩
  · have hg : ∀ j (a : Int32 × Int32 × Int32), (j ≤ c ∧ a.2.2.toInt = (c : Int) - 1 - j) → (g_N_led_1 M x b j a = g_D_led_1 M x b j a ∧ ((g_N_led_1 M x b j a).1 = true → (j + 1 ≤ c ∧ (g_N_led_1 M x b j a).2.2.2.toInt = (c : Int) - 1 - (j + 1 : Nat)))) ∧ kb_N_led_1 M x b j a ∧ kb_D_led_1 M x b j a := by
      intro j a ⟨j1, j2⟩
      unfold g_N_led_1 g_D_led_1 kb_N_led_1 kb_D_led_1
      rw [i]
      by_cases h0 : a.2.2.toInt < 0
      · have hd : decide (a.2.2 < 0) = true := by rw [zg_lt0]; exact decide_eq_true h0
        rw [hd]
        simp only [zk_t]
        exact ⟨⟨trivial, (fun h => by cases h)⟩, (fun h => by cases h), (fun h => by cases h)⟩
      · have hd : decide (a.2.2 < 0) = false := by rw [zg_lt0]; exact decide_eq_false h0
        obtain ⟨g, g1, g2, -⟩ := zr_ex (x := a.2.2) (hi := (c : Int) - 1) ⟨by omega, by omega⟩
        have r1 := zq_row hI (g := g) (by omega) 1 (by omega)
        have r0 := zq_row hI (g := g) (by omega) 0 (by omega)
        have l1 := zl_lx g (by omega) 1 (by omega)
        have l0 := zl_lx g (by omega) 0 (by omega)
        have w1 : v_D_logged (zz_up M 194 0 (zb (bif true then false else true))) (Int32.ofNat g) (1 : Int32) = M 195 (69 + 4 * g + 1) := by
          show M 195 (((69 : Int32) + ((4 : Int32) * Int32.ofNat g)) + Int32.ofNat 1).toNatClampNeg = _
          rw [l1.1]
        have w0 : v_D_logged (zz_up M 194 0 (zb (bif true then false else true))) (Int32.ofNat g) (0 : Int32) = M 195 (69 + 4 * g + 0) := by
          show M 195 (((69 : Int32) + ((4 : Int32) * Int32.ofNat g)) + Int32.ofNat 0).toNatClampNeg = _
          rw [l0.1]
        have v1 : v_S_rowPart M 4 (Int32.ofNat g) (1 : Int32) = M 195 (69 + 4 * g + 1) := r1.1
        have v0 : v_S_rowPart M 4 (Int32.ofNat g) (0 : Int32) = M 195 (69 + 4 * g + 0) := r0.1
        rw [hd, g2, w1, w0, v1, v0]
        simp only [zk_f]
        refine ⟨⟨trivial, fun _ => ⟨by omega, ?_⟩⟩, fun _ => ⟨r1.2, fun _ => r0.2⟩, fun _ => ⟨l1.2, fun _ => l0.2⟩⟩
        rw [← g2, Int32.toInt_add, show (-1 : Int32).toInt = -1 from rfl, Int.bmod_eq_of_le (by omega) (by omega)]
        omega
    have hs : ((M 4 16) - (1 : Int32)).toInt = (c : Int) - 1 - (0 : Nat) := by
      rw [zi_sub (by omega) (by omega), e1]; omega
    have k1 := zf_wcg (fun j (a : Int32 × Int32 × Int32) => j ≤ c ∧ a.2.2.toInt = (c : Int) - 1 - j) (fun j a h => (hg j a h).1) 1000 0 ((0 : Int32), (-1 : Int32), ((M 4 16) - (1 : Int32))) ⟨by omega, hs⟩
    have k2 := zf_wke (k := kb_N_led_1 M x b) (fun j (a : Int32 × Int32 × Int32) => j ≤ c ∧ a.2.2.toInt = (c : Int) - 1 - j) c (fun j a h => h.1) (fun j a h => ⟨(hg j a h).2.1, (hg j a h).1.2⟩) 1000 0 ((0 : Int32), (-1 : Int32), ((M 4 16) - (1 : Int32))) ⟨by omega, hs⟩ (by omega)
    have k3 := zf_wke (g := g_D_led_1 M x b) (k := kb_D_led_1 M x b) (fun j (a : Int32 × Int32 × Int32) => j ≤ c ∧ a.2.2.toInt = (c : Int) - 1 - j) c (fun j a h => h.1) (fun j a h => ⟨(hg j a h).2.2, by rw [← (hg j a h).1.1]; exact (hg j a h).1.2⟩) 1000 0 ((0 : Int32), (-1 : Int32), ((M 4 16) - (1 : Int32))) ⟨by omega, hs⟩ (by omega)
    rw [t, i, ← hc]
    refine ⟨fun _ => k2, Or.inl rfl, fun _ => k3, rfl, fun _ => ?_, zv_th hI _⟩
    rw [k1]
    rfl
  · rw [t, i]
    exact ⟨(fun h => by cases h), Or.inr rfl, (fun h => by cases h), rfl, (fun h => by cases h), zv_th hI _⟩
