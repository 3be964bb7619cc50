theorem zo31 : zo_31 zv_Inv := by
  intro M x0 hI
  obtain ⟨n, hn, n1, n2, n3, n4⟩ := zq_n hI
  have h64 := z264 hn
  have hpos : 0 < 2 ^ n := Nat.pow_pos (by omega)
  obtain ⟨⟨dB, -⟩, -⟩ := zq_dt (N := M) (R := M) hn n4 (zv_St hI)
  obtain ⟨⟨-, wf⟩, wok⟩ := zq_ct (R := M) hn n3 (zv_St hI) dB
  have good : w_N_pairs M x0 = w_G_pairPeople M → t_N_pairs M x0 = 0 → (v_N_pairs M x0 = (bif (decide (x0 = (-1 : Int32))) then (v_G_pairedDeeds (w_G_pairPeople M)) else (v_G_partner (w_G_pairPeople M) x0))) → (ok_G_pairPeople M → ok_G_partner (w_G_pairPeople M) x0 → ok_N_pairs M x0) → (bif (decide (x0 = (-1 : Int32))) then false else (bif (v_D_isOne (w_G_pairPeople M) x0) then false else true)) = false → (ok_N_pairs M x0 ∧ (∀ i, (w_N_pairs M x0) 0 i = M 0 i) ∧ ((t_N_pairs M x0) = 0 ∨ (t_N_pairs M x0) = 3) ∧ ok_D_pairs (w_N_pairs M x0) x0 ∧ v_D_thrown (w_D_pairs (w_N_pairs M x0) x0) = zcd [2] (t_N_pairs M x0) ∧ ((t_N_pairs M x0) = 0 → (v_N_pairs M x0) = (v_D_pairs (w_N_pairs M x0) x0)) ∧ zv_Inv (w_D_pairs (w_N_pairs M x0) x0)) := by
    intro ew et ev eok eb
    rw [ew, et, ev]
    obtain ⟨R, hR⟩ : ∃ R, R = zz_up (w_G_pairPeople M) 194 0 (zb (bif (decide (x0 = (-1 : Int32))) then false else (bif (v_D_isOne (w_G_pairPeople M) x0) then false else true))) := ⟨_, rfl⟩
    have rf : ∀ a q, ¬ (a = 194 ∧ q = 0) → a ≠ 193 → R a q = M a q := fun a q h h' => by rw [hR, zu_o h]; exact wf a q h'
    have r195 : R 195 = M 195 := funext fun q => rf 195 q (by omega) (by omega)
    have hS : zc_St M 4 (R 195) := by rw [r195]; exact zv_St hI
    have r3 : R 195 3 = Int32.ofNat n := by rw [r195]; exact n4
    obtain ⟨⟨zB, zf⟩, zok⟩ := zq_dt (N := M) (R := R) hn r3 hS
    obtain ⟨⟨wt, -⟩, -⟩ := zq_ct (R := R) hn n3 hS zB
    have hSW : zc_St (w_G_pairPeople M) 4 (R 195) := zc_cg (fun j hj => funext fun i => wf _ _ (by omega)) (fun i _ => rfl) hS
    have w10 : (w_G_pairPeople M) 4 10 = Int32.ofNat n := by rw [wf 4 10 (by omega)]; exact n3
    have hC : zqC (w_G_pairPeople M) n (fun p q => v_D_apart R (Int32.ofNat p) (Int32.ofNat q)) := ⟨hn, w10, fun p q hp hq => by
      obtain ⟨x1, x2, -, x4, x5⟩ := zq_ap hSW hp hq
      exact ⟨x1, x2, x4, x5⟩⟩
    have hz := zqB_n hn (d := fun p q => v_D_apart R (Int32.ofNat p) (Int32.ofNat q)) (fun p q hp hq => (zq_ap hSW hp hq).2.1) zB
    have eZ : zqZ (w_G_pairPeople M) x0 = w_D_allBest R := by
      unfold zqZ
      rw [hR]
    have z195 : (w_D_allBest R) 195 = R 195 := funext fun q => zf 195 q (by omega)
    have ed : (fun p q => v_D_apart (w_D_allBest R) (Int32.ofNat p) (Int32.ofNat q)) = (fun p q => v_D_apart R (Int32.ofNat p) (Int32.ofNat q)) := funext fun p => funext fun q => zap_c z195 _ _
    obtain ⟨c1, c2⟩ := zq_co x0 hC wt hz
    obtain ⟨o1, o2⟩ := zq_ro (N := M) (W := w_G_pairPeople M) (t := (w_D_allBest R) 203) (f := fun L => v_G_firstPartner (w_G_pairPeople M) (Int32.ofNat (2 ^ n - 1 - L)) (Int32.ofNat (zpl L))) x0 hn (by rw [eZ, z195]; exact r3) (by rw [eZ, z195]; exact hS) (fun L hL => by rw [eZ]) (fun L h0 hL => by
      rw [eZ, ed]
      exact (zq_cf hC h0 hL wt hz).1)
    have ea : (zsl (1 : Int32) ((w_D_allBest R) 195 3)) - (1 : Int32) = Int32.ofNat (2 ^ n - 1) := by
      rw [z195, r3]; exact (zev n hn).1
    have evd : v_D_pairs (w_G_pairPeople M) x0 = (bif (decide (x0 = (-1 : Int32))) then ((w_D_allBest R) 203 (Int32.ofNat (2 ^ n - 1)).toNatClampNeg) else (bif (zf_wh 1000 (g_D_pairs_1 (w_G_pairPeople M) x0) 0 (Int32.ofNat (2 ^ n - 1), false, 0)).2.1 then (zf_wh 1000 (g_D_pairs_1 (w_G_pairPeople M) x0) 0 (Int32.ofNat (2 ^ n - 1), false, 0)).2.2 else (-1 : Int32))) := by
      rw [zv31, eb, eZ, ea]
      exact zk_t _ _
    have ewd : w_D_pairs (w_G_pairPeople M) x0 = w_D_allBest R := by
      rw [zw31, eb, eZ]
      exact zk_t _ _
    have okD : ok_D_pairs (w_G_pairPeople M) x0 := by
      rw [zk31, eZ, ea]
      rw [hR] at zok
      exact fun _ => ⟨zok, fun _ => zi_in (by omega) (by omega), fun _ => o2⟩
    rw [evd, ewd]
    refine ⟨eok wok c2, fun i => wf 0 i (by omega), Or.inl rfl, okD, ?_, fun _ => ?_, ?_⟩
    · show (w_D_allBest R) 194 0 = 0
      rw [zf 194 0 (by omega), hR, zu_at rfl rfl, eb]
      rfl
    · by_cases hm : x0 = (-1 : Int32)
      · rw [decide_eq_true hm, zk_t, zk_t, zi_nat (by omega)]
        have := wt (2 ^ n - 1) (by omega)
        rw [Nat.sub_self] at this
        exact this
      · rw [decide_eq_false hm, zk_f, zk_f]
        unfold v_G_partner
        exact zqQ_u c1 o1
    · refine zv_sc hI (fun a i hs => ?_) ?_ ?_
      · have h9 := zs_o hs
        rw [zf a i (by omega)]
        exact rf a i (by omega) (by omega)
      · rw [zf _ _ (by omega)]; exact rf _ _ (by omega) (by omega)
      · rw [zf _ _ (by omega)]; exact rf _ _ (by omega) (by omega)
  by_cases hm : x0 = (-1 : Int32)
  · refine good ?_ ?_ ?_ (fun a b => ?_) ?_
    · unfold w_N_pairs
      rw [decide_eq_true hm, zk_t]
    · unfold t_N_pairs
      rw [decide_eq_true hm, zk_t]
    · unfold v_N_pairs
      rw [decide_eq_true hm, zk_t]
    · exact ⟨fun _ => ⟨a, fun _ => b⟩, fun _ _ => ⟨a, fun _ => b⟩⟩
    · rw [decide_eq_true hm, zk_t]
  · rcases zg_p hI (M' := w_G_pairPeople M) (funext fun q => wf 195 q (by omega)) x0 with ⟨p, p1, p2, p3, p4, p5⟩ | ⟨p4, p5⟩
    · refine good ?_ ?_ ?_ (fun a b => ?_) ?_
      · unfold w_N_pairs
        rw [decide_eq_false hm, zk_f, p4]
        exact zk_t _ _
      · unfold t_N_pairs
        rw [decide_eq_false hm, zk_f, p4]
        exact zk_t _ _
      · unfold v_N_pairs
        rw [decide_eq_false hm, zk_f, zk_f, p4]
        exact zk_t _ _
      · exact ⟨fun _ => ⟨a, fun _ => b⟩, fun _ _ => ⟨a, fun _ => b⟩⟩
      · rw [decide_eq_false hm, zk_f, p5, zk_t]
    · rcases zg_p hI (M' := M) rfl x0 with ⟨p, p1, p2, p3, q4, q5⟩ | ⟨q4, q5⟩
      · rw [q4] at p4
        cases p4
      · have ew : w_N_pairs M x0 = M := by
          unfold w_N_pairs
          rw [decide_eq_false hm, zk_f, p4]
          exact zk_f _ _
        have et : t_N_pairs M x0 = 3 := by
          unfold t_N_pairs
          rw [decide_eq_false hm, zk_f, p4]
          exact zk_f _ _
        have ewd : w_D_pairs M x0 = zz_up M 194 0 (zb true) := by
          rw [zw31, decide_eq_false hm, zk_f, q5, zk_f]
          exact zk_f _ _
        rw [ew, et, ewd]
        refine ⟨?_, fun i => rfl, Or.inr rfl, ?_, rfl, (fun h => by cases h), zv_th hI _⟩
        · unfold ok_N_pairs
          rw [decide_eq_false hm, p4]
          exact ⟨(fun h => by cases h), (fun _ h => by cases h)⟩
        · rw [zk31, decide_eq_false hm, zk_f, q5, zk_f]
          exact fun h => by cases h
