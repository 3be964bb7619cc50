/-! call 33 -/
theorem zr_0 (M M' : zMem) (x : Int32) (h3 : v_D_of M' x (3 : Int32) = M 11 x.toNatClampNeg) (h5 : v_D_of M' x (5 : Int32) = M 13 x.toNatClampNeg) : (v_S_dockerGain M 4 x (Int32.ofNat 0) = v_D_itHas M' x (Int32.ofNat 0 / (2 : Int32)) (zrm (Int32.ofNat 0) (2 : Int32)) ∧ v_S_dockerGain M 4 x (Int32.ofNat 0 ^^^ (2 : Int32)) = v_D_itHas M' x ((1 : Int32) - (Int32.ofNat 0 / (2 : Int32))) (zrm (Int32.ofNat 0) (2 : Int32))) ∧ (v_S_needleGain M 4 x (Int32.ofNat 0) = v_D_needleHas M' x (Int32.ofNat 0 / (2 : Int32)) (zrm (Int32.ofNat 0) (2 : Int32)) ∧ v_S_needleGain M 4 x (Int32.ofNat 0 ^^^ (1 : Int32)) = v_D_needleHas M' x (Int32.ofNat 0 / (2 : Int32)) ((1 : Int32) - (zrm (Int32.ofNat 0) (2 : Int32)))) := by
  have a1 : v_S_dockerGain M 4 x (Int32.ofNat 0) = M 11 x.toNatClampNeg := rfl
  have a2 : v_S_dockerGain M 4 x (Int32.ofNat 0 ^^^ (2 : Int32)) = (1 : Int32) := rfl
  have a3 : v_S_needleGain M 4 x (Int32.ofNat 0) = (5 : Int32) := rfl
  have a4 : v_S_needleGain M 4 x (Int32.ofNat 0 ^^^ (1 : Int32)) = (-(M 13 x.toNatClampNeg / (100 : Int32))) := rfl
  have b1 : v_D_itHas M' x (Int32.ofNat 0 / (2 : Int32)) (zrm (Int32.ofNat 0) (2 : Int32)) = v_D_of M' x (3 : Int32) := rfl
  have b2 : v_D_itHas M' x ((1 : Int32) - (Int32.ofNat 0 / (2 : Int32))) (zrm (Int32.ofNat 0) (2 : Int32)) = (1 : Int32) := rfl
  have b3 : v_D_needleHas M' x (Int32.ofNat 0 / (2 : Int32)) (zrm (Int32.ofNat 0) (2 : Int32)) = (5 : Int32) := rfl
  have b4 : v_D_needleHas M' x (Int32.ofNat 0 / (2 : Int32)) ((1 : Int32) - (zrm (Int32.ofNat 0) (2 : Int32))) = (-(v_D_of M' x (5 : Int32) / (100 : Int32))) := rfl
  rw [a1, a2, a3, a4, b1, b2, b3, b4]
  first | exact ⟨⟨rfl, rfl⟩, rfl, rfl⟩ | (rw [h3]; exact ⟨⟨rfl, rfl⟩, rfl, rfl⟩) | (rw [h5]; exact ⟨⟨rfl, rfl⟩, rfl, rfl⟩) | (rw [h3, h5]; exact ⟨⟨rfl, rfl⟩, rfl, rfl⟩)
theorem zr_1 (M M' : zMem) (x : Int32) (h3 : v_D_of M' x (3 : Int32) = M 11 x.toNatClampNeg) (h5 : v_D_of M' x (5 : Int32) = M 13 x.toNatClampNeg) : (v_S_dockerGain M 4 x (Int32.ofNat 1) = v_D_itHas M' x (Int32.ofNat 1 / (2 : Int32)) (zrm (Int32.ofNat 1) (2 : Int32)) ∧ v_S_dockerGain M 4 x (Int32.ofNat 1 ^^^ (2 : Int32)) = v_D_itHas M' x ((1 : Int32) - (Int32.ofNat 1 / (2 : Int32))) (zrm (Int32.ofNat 1) (2 : Int32))) ∧ (v_S_needleGain M 4 x (Int32.ofNat 1) = v_D_needleHas M' x (Int32.ofNat 1 / (2 : Int32)) (zrm (Int32.ofNat 1) (2 : Int32)) ∧ v_S_needleGain M 4 x (Int32.ofNat 1 ^^^ (1 : Int32)) = v_D_needleHas M' x (Int32.ofNat 1 / (2 : Int32)) ((1 : Int32) - (zrm (Int32.ofNat 1) (2 : Int32)))) := by
  have a1 : v_S_dockerGain M 4 x (Int32.ofNat 1) = (-3 : Int32) := rfl
  have a2 : v_S_dockerGain M 4 x (Int32.ofNat 1 ^^^ (2 : Int32)) = (2 : Int32) := rfl
  have a3 : v_S_needleGain M 4 x (Int32.ofNat 1) = (-(M 13 x.toNatClampNeg / (100 : Int32))) := rfl
  have a4 : v_S_needleGain M 4 x (Int32.ofNat 1 ^^^ (1 : Int32)) = (5 : Int32) := rfl
  have b1 : v_D_itHas M' x (Int32.ofNat 1 / (2 : Int32)) (zrm (Int32.ofNat 1) (2 : Int32)) = (-3 : Int32) := rfl
  have b2 : v_D_itHas M' x ((1 : Int32) - (Int32.ofNat 1 / (2 : Int32))) (zrm (Int32.ofNat 1) (2 : Int32)) = (2 : Int32) := rfl
  have b3 : v_D_needleHas M' x (Int32.ofNat 1 / (2 : Int32)) (zrm (Int32.ofNat 1) (2 : Int32)) = (-(v_D_of M' x (5 : Int32) / (100 : Int32))) := rfl
  have b4 : v_D_needleHas M' x (Int32.ofNat 1 / (2 : Int32)) ((1 : Int32) - (zrm (Int32.ofNat 1) (2 : Int32))) = (5 : Int32) := rfl
  rw [a1, a2, a3, a4, b1, b2, b3, b4]
  first | exact ⟨⟨rfl, rfl⟩, rfl, rfl⟩ | (rw [h3]; exact ⟨⟨rfl, rfl⟩, rfl, rfl⟩) | (rw [h5]; exact ⟨⟨rfl, rfl⟩, rfl, rfl⟩) | (rw [h3, h5]; exact ⟨⟨rfl, rfl⟩, rfl, rfl⟩)
theorem zr_2 (M M' : zMem) (x : Int32) (h3 : v_D_of M' x (3 : Int32) = M 11 x.toNatClampNeg) (h5 : v_D_of M' x (5 : Int32) = M 13 x.toNatClampNeg) : (v_S_dockerGain M 4 x (Int32.ofNat 2) = v_D_itHas M' x (Int32.ofNat 2 / (2 : Int32)) (zrm (Int32.ofNat 2) (2 : Int32)) ∧ v_S_dockerGain M 4 x (Int32.ofNat 2 ^^^ (2 : Int32)) = v_D_itHas M' x ((1 : Int32) - (Int32.ofNat 2 / (2 : Int32))) (zrm (Int32.ofNat 2) (2 : Int32))) ∧ (v_S_needleGain M 4 x (Int32.ofNat 2) = v_D_needleHas M' x (Int32.ofNat 2 / (2 : Int32)) (zrm (Int32.ofNat 2) (2 : Int32)) ∧ v_S_needleGain M 4 x (Int32.ofNat 2 ^^^ (1 : Int32)) = v_D_needleHas M' x (Int32.ofNat 2 / (2 : Int32)) ((1 : Int32) - (zrm (Int32.ofNat 2) (2 : Int32)))) := by
  have a1 : v_S_dockerGain M 4 x (Int32.ofNat 2) = (1 : Int32) := rfl
  have a2 : v_S_dockerGain M 4 x (Int32.ofNat 2 ^^^ (2 : Int32)) = M 11 x.toNatClampNeg := rfl
  have a3 : v_S_needleGain M 4 x (Int32.ofNat 2) = (2 : Int32) := rfl
  have a4 : v_S_needleGain M 4 x (Int32.ofNat 2 ^^^ (1 : Int32)) = (4 : Int32) := rfl
  have b1 : v_D_itHas M' x (Int32.ofNat 2 / (2 : Int32)) (zrm (Int32.ofNat 2) (2 : Int32)) = (1 : Int32) := rfl
  have b2 : v_D_itHas M' x ((1 : Int32) - (Int32.ofNat 2 / (2 : Int32))) (zrm (Int32.ofNat 2) (2 : Int32)) = v_D_of M' x (3 : Int32) := rfl
  have b3 : v_D_needleHas M' x (Int32.ofNat 2 / (2 : Int32)) (zrm (Int32.ofNat 2) (2 : Int32)) = (2 : Int32) := rfl
  have b4 : v_D_needleHas M' x (Int32.ofNat 2 / (2 : Int32)) ((1 : Int32) - (zrm (Int32.ofNat 2) (2 : Int32))) = (4 : Int32) := rfl
  rw [a1, a2, a3, a4, b1, b2, b3, b4]
  first | exact ⟨⟨rfl, rfl⟩, rfl, rfl⟩ | (rw [h3]; exact ⟨⟨rfl, rfl⟩, rfl, rfl⟩) | (rw [h5]; exact ⟨⟨rfl, rfl⟩, rfl, rfl⟩) | (rw [h3, h5]; exact ⟨⟨rfl, rfl⟩, rfl, rfl⟩)
theorem zr_3 (M M' : zMem) (x : Int32) (h3 : v_D_of M' x (3 : Int32) = M 11 x.toNatClampNeg) (h5 : v_D_of M' x (5 : Int32) = M 13 x.toNatClampNeg) : (v_S_dockerGain M 4 x (Int32.ofNat 3) = v_D_itHas M' x (Int32.ofNat 3 / (2 : Int32)) (zrm (Int32.ofNat 3) (2 : Int32)) ∧ v_S_dockerGain M 4 x (Int32.ofNat 3 ^^^ (2 : Int32)) = v_D_itHas M' x ((1 : Int32) - (Int32.ofNat 3 / (2 : Int32))) (zrm (Int32.ofNat 3) (2 : Int32))) ∧ (v_S_needleGain M 4 x (Int32.ofNat 3) = v_D_needleHas M' x (Int32.ofNat 3 / (2 : Int32)) (zrm (Int32.ofNat 3) (2 : Int32)) ∧ v_S_needleGain M 4 x (Int32.ofNat 3 ^^^ (1 : Int32)) = v_D_needleHas M' x (Int32.ofNat 3 / (2 : Int32)) ((1 : Int32) - (zrm (Int32.ofNat 3) (2 : Int32)))) := by
  have a1 : v_S_dockerGain M 4 x (Int32.ofNat 3) = (2 : Int32) := rfl
  have a2 : v_S_dockerGain M 4 x (Int32.ofNat 3 ^^^ (2 : Int32)) = (-3 : Int32) := rfl
  have a3 : v_S_needleGain M 4 x (Int32.ofNat 3) = (4 : Int32) := rfl
  have a4 : v_S_needleGain M 4 x (Int32.ofNat 3 ^^^ (1 : Int32)) = (2 : Int32) := rfl
  have b1 : v_D_itHas M' x (Int32.ofNat 3 / (2 : Int32)) (zrm (Int32.ofNat 3) (2 : Int32)) = (2 : Int32) := rfl
  have b2 : v_D_itHas M' x ((1 : Int32) - (Int32.ofNat 3 / (2 : Int32))) (zrm (Int32.ofNat 3) (2 : Int32)) = (-3 : Int32) := rfl
  have b3 : v_D_needleHas M' x (Int32.ofNat 3 / (2 : Int32)) (zrm (Int32.ofNat 3) (2 : Int32)) = (4 : Int32) := rfl
  have b4 : v_D_needleHas M' x (Int32.ofNat 3 / (2 : Int32)) ((1 : Int32) - (zrm (Int32.ofNat 3) (2 : Int32))) = (2 : Int32) := rfl
  rw [a1, a2, a3, a4, b1, b2, b3, b4]
  first | exact ⟨⟨rfl, rfl⟩, rfl, rfl⟩ | (rw [h3]; exact ⟨⟨rfl, rfl⟩, rfl, rfl⟩) | (rw [h5]; exact ⟨⟨rfl, rfl⟩, rfl, rfl⟩) | (rw [h3, h5]; exact ⟨⟨rfl, rfl⟩, rfl, rfl⟩)
theorem zr_sel (A B : Bool) (a b : Int32) : (bif (bif A then false else (bif B then false else true)) then (a ||| b) else a) = (bif A then a else (bif B then a else (a ||| b))) := by
  cases A <;> cases B <;> rfl
theorem zo33 : zo_33 zv_Inv := by
  intro M x hI
  unfold ok_N_rests t_N_rests ok_D_rests v_N_rests v_D_rests w_D_rests
  rcases zg_p hI (M' := M) rfl x with ⟨p, hp, e, en, t, i⟩ | ⟨t, i⟩
  · have h := zq_h M (zb (bif true then false else true))
    have h3 : v_D_of (zz_up M 194 0 (zb (bif true then false else true))) x (3 : Int32) = M 11 x.toNatClampNeg := by rw [en, e]; exact zq_of hI h hp 3 (by omega)
    have h5 : v_D_of (zz_up M 194 0 (zb (bif true then false else true))) x (5 : Int32) = M 13 x.toNatClampNeg := by rw [en, e]; exact zq_of hI h hp 5 (by omega)
    have o3 : ok_D_of (zz_up M 194 0 (zb (bif true then false else true))) x (3 : Int32) := by rw [e]; exact zd_ofk _ hp (k := 3) (by omega)
    have o5 : ok_D_of (zz_up M 194 0 (zb (bif true then false else true))) x (5 : Int32) := by rw [e]; exact zd_ofk _ hp (k := 5) (by omega)
    have hz : zz_in x 6 = true := by rw [e]; exact zq_in hp
    rw [t, i]
    refine ⟨fun _ j hj => ⟨fun _ => hz, fun _ => hz, fun _ => ⟨fun _ _ => hz, fun _ _ => hz⟩⟩, Or.inl rfl, fun _ j hj => ?_, rfl, fun _ => ?_, zv_th hI _⟩
    · unfold kb_D_rests_1
      rw [i]
      exact ⟨fun _ _ => o3, fun _ _ => o3, fun _ => ⟨fun _ _ => o5, fun _ _ => o5⟩⟩
    · show zf_for 4 (f_N_rests_1 M x) 0 = zf_for 4 (f_D_rests_1 M x) 0
      refine zf_cg 4 _ fun j hj a => ?_
      unfold f_N_rests_1 f_D_rests_1
      rw [i]
      match j, hj with
      | 0, _ =>
        obtain ⟨⟨r1, r2⟩, r3, r4⟩ := zr_0 M _ x h3 h5
        rw [r1, r2, r3, r4]; exact zr_sel _ _ _ _
      | 1, _ =>
        obtain ⟨⟨r1, r2⟩, r3, r4⟩ := zr_1 M _ x h3 h5
        rw [r1, r2, r3, r4]; exact zr_sel _ _ _ _
      | 2, _ =>
        obtain ⟨⟨r1, r2⟩, r3, r4⟩ := zr_2 M _ x h3 h5
        rw [r1, r2, r3, r4]; exact zr_sel _ _ _ _
      | 3, _ =>
        obtain ⟨⟨r1, r2⟩, r3, r4⟩ := zr_3 M _ x h3 h5
        rw [r1, r2, r3, r4]; exact zr_sel _ _ _ _
      | j + 4, hj => exact absurd hj (by omega)
  · rw [t, i]
    exact ⟨(fun h => by cases h), Or.inr rfl, (fun h => by cases h), rfl, (fun h => by cases h), zv_th hI _⟩
