/-! A THROW of the class: new, dup, the text, the constructor, athrow. -/
def zz_nm2 : List String := ["java/lang/RuntimeException", "java/lang/Exception"]
def zz_ic5 : List (Nat × Nat) := [(95, 0), (105, 1), (418, 2), (169, 3), (232, 4)]
def zz_w5 (q : Nat × Nat) : List Jvm.Cond := Cond.initialized (zz_ex q.2) :: Cond.instantiable (zz_ex q.2) 6 :: vx_atS "NeedleShop" q.1 (zz_ex q.2) zz_nm2
theorem zz_w5_in : (zz_ic5.all fun q => (zz_w5 q).all fun w => decide (w = .castable (zz_ex q.2) (zz_ex q.2)) || decide (w ∈ zz_ws)) = true := by decide +kernel
theorem zz_w5_ot : (zz_ic5.all fun q => (zz_w5 q).all vx_ot && (Bundle.fit (zz_ex q.2) && zz_nm2.all Bundle.fit)) = true := by decide +kernel
/-- the throws' instructions -/
def zz_thc (nm : zz_NM) (r : Nat × zz_I) : Bool := match r with
  | (pc, i, np, a, b, k) => match i with
    | .new _ => Nat.beq b 0 || (decide (nm.1.cls = "NeedleShop") && zz_ic5.contains (k.toNatClampNeg, a) && decide (decode nm.2.1 (pc + 3) = .ok (.dup, 1)) && zz_sk.contains (nm.1.cls, np) && (bif Nat.beq b 1 then (decide (decode nm.2.1 (pc + 4) = .ok (.ldc np, 2)) && decide (decode nm.2.1 (pc + 6) = .ok (.invokespecial k.toNatClampNeg, 3)) && decide (decode nm.2.1 (pc + 9) = .ok (.athrow, 1))) else (decide (decode nm.2.1 (pc + 4) = .ok (.ldc_w np, 3)) && decide (decode nm.2.1 (pc + 7) = .ok (.invokespecial k.toNatClampNeg, 3)) && decide (decode nm.2.1 (pc + 10) = .ok (.athrow, 1)))))
    | _ => true
def zz_thcs : List zz_M → List zz_NM → Bool
  | m :: ms, n :: ns => m.1.all (zz_thc n) && zz_thcs ms ns
  | _, _ => true
theorem zz_thcs_ok : zz_thcs zz_P zz_N = true := by decide +kernel
theorem zz_thcs_at : ∀ (P : List zz_M) (N : List zz_NM), zz_thcs P N = true → ∀ (k : Nat) (m0 : zz_M) (nm : zz_NM), P[k]? = some m0 → N[k]? = some nm → m0.1.all (zz_thc nm) = true
  | [], _, _, k, m0, nm, h1, _ => by simp at h1
  | m :: ms, [], h, k, m0, nm, _, h2 => by simp at h2
  | m :: ms, n :: ns, h, k, m0, nm, h1, h2 => by
    rw [zz_thcs, Bool.and_eq_true] at h
    cases k with
    | zero =>
      cases h1
      cases h2
      exact h.1
    | succ k => exact zz_thcs_at ms ns h.2 k m0 nm (by simpa using h1) (by simpa using h2)
set_option maxHeartbeats 1000000 in
theorem zz_throws (hrows : zz_rowsOk) (l : Launch) (hl : l.stackTraces = false) (D : va_G) (cI cZ cL cS : ClassId) (b base : Nat) (sa : Nat → Nat) (L0 : Nat) (xs0 : Nat → Int32) : zz_ThrRule l D cI cZ cL cS b base sa L0 xs0 := by
  intro k m0 nm hm hn pc ix np a b' kc hmem hb0 p e R s mid args below meth c hC hnil st h H locs cells slots mc ms ls hR hls hS hf hlo hw8 hce hsl hmc hms
  obtain ⟨hexec, hb, hml, hret, hlocks, hname, htab, hown, hts, hG⟩ := hC
  have hth := List.all_eq_true.mp (zz_thcs_at zz_P zz_N zz_thcs_ok k m0 nm hm hn) _ hmem
  obtain ⟨hdec, hword⟩ := hrows k m0 nm hm hn _ hmem
  have hth : (Nat.beq b' 0 || (decide (nm.1.cls = "NeedleShop") && zz_ic5.contains (kc.toNatClampNeg, a) && decide (decode nm.2.1 (pc + 3) = .ok (.dup, 1)) && zz_sk.contains (nm.1.cls, np) && (bif Nat.beq b' 1 then (decide (decode nm.2.1 (pc + 4) = .ok (.ldc np, 2)) && decide (decode nm.2.1 (pc + 6) = .ok (.invokespecial kc.toNatClampNeg, 3)) && decide (decode nm.2.1 (pc + 9) = .ok (.athrow, 1))) else (decide (decode nm.2.1 (pc + 4) = .ok (.ldc_w np, 3)) && decide (decode nm.2.1 (pc + 7) = .ok (.invokespecial kc.toNatClampNeg, 3)) && decide (decode nm.2.1 (pc + 10) = .ok (.athrow, 1)))))) = true := hth
  rw [Bool.or_eq_true] at hth
  have hth := hth.resolve_left (fun z => hb0 (zz_beq.mp z))
  simp only [Bool.and_eq_true, decide_eq_true_eq] at hth
  obtain ⟨⟨⟨⟨hcl, hic⟩, hd3⟩, hsk⟩, hrest⟩ := hth
  have hic : (kc.toNatClampNeg, a) ∈ zz_ic5 := List.contains_iff_mem.mp hic
  have hsk : (nm.1.cls, np) ∈ zz_sk := List.contains_iff_mem.mp hsk
  obtain ⟨j9, hj9⟩ := List.getElem?_of_mem hsk
  have hstr := (hG.2.2.2.2.2.1 j9 _ _ hj9).1
  have hin := List.all_eq_true.mp zz_w5_in _ hic
  have hot := List.all_eq_true.mp zz_w5_ot _ hic
  dsimp only at hin hot
  rw [Bool.and_eq_true, Bool.and_eq_true] at hot
  obtain ⟨hot, hfit, hfits⟩ := hot
  have w0 : Cond.instantiable (zz_ex a) 6 ∈ zz_ws := by
    have := List.all_eq_true.mp hin (Cond.instantiable (zz_ex a) 6) (List.mem_cons_of_mem _ List.mem_cons_self)
    rw [Bool.or_eq_true, decide_eq_true_eq, decide_eq_true_eq] at this
    rcases this with z | z
    · cases z
    · exact z
  obtain ⟨cX, kX, hfX, -⟩ := Cond.instantiable_spec (hts _ w0)
  have hwd : ∀ w ∈ zz_w5 (kc.toNatClampNeg, a), w.before args s = true := by
    intro w hw
    have := List.all_eq_true.mp hin w hw
    rw [Bool.or_eq_true, decide_eq_true_eq, decide_eq_true_eq] at this
    rcases this with z | z
    · rw [z]; exact zz_castE hfX
    · exact hts _ z
  have hlk : Cond.classLink nm.1.cls ix (zz_ex a) ∈ zz_ws := zz_wm (by
    obtain ⟨n9, e9⟩ := hword
    refine ⟨n9, by rw [e9]; show Cond.classLink _ _ (bif Nat.beq b' 0 then _ else zz_ex a) = _; rw [show Nat.beq b' 0 = false by rw [← Bool.not_eq_true]; exact fun z => hb0 (zz_beq.mp z)]; rfl⟩) (fun e => by cases e) rfl
  have hot2 : ∀ w ∈ Cond.classLink nm.1.cls ix (zz_ex a) :: Cond.initialized (zz_ex a) :: vx_atS nm.1.cls kc.toNatClampNeg (zz_ex a) zz_nm2, vx_ot w = true := by
    intro w hw
    rcases List.mem_cons.mp hw with e9 | hw
    · rw [e9]; rfl
    · refine List.all_eq_true.mp hot w ?_
      rcases List.mem_cons.mp hw with e9 | hw
      · rw [e9]; exact List.mem_cons_self
      · rw [hcl] at hw; exact List.mem_cons_of_mem _ (List.mem_cons_of_mem _ hw)
  have hat : ∀ w ∈ vx_atS nm.1.cls kc.toNatClampNeg (zz_ex a) zz_nm2, w.before args s = true := by
    intro w hw
    rw [hcl] at hw
    exact hwd w (List.mem_cons_of_mem _ (List.mem_cons_of_mem _ hw))
  have ha5 : a < 5 := by
    have : ∀ q ∈ zz_ic5, q.2 < 5 := by decide
    exact this _ hic
  have hout : ∀ n : Nat, ∀ x ∈ c.exceptionTable.toList, covers x n = false := by rw [htab, hnil]; intro n x hx9; cases hx9
  have hsum : ((st.map (zz_tr (zz_ra b base sa))).map fun v => v.category).sum ≤ 8 := by rw [zz_words_tr]; exact hw8
  have hxc : ∀ t : State, s.vm.Alike t.vm → H.size ≤ t.heap.size → (∀ q : Nat, q < H.size → t.heap[q]? = H[q]?) → zz_XC D cI cZ cL cS b base sa L0 xs0 (.inr a) (h.1, h.2.1, h.2.2.1, h.2.2.2.1, h.2.2.2.2 + 1) (zz_ex a) s t := by
    intro t _ hz hq
    obtain ⟨k1, k2, k3, k4, k5, k6⟩ := hR
    refine ⟨a, rfl, ha5, rfl, ⟨k1, k2, k3, Nat.le_trans k4 (by omega), fun z => by cases z, fun a9 t9 h9 ht9 => (k6 a9 t9 h9 ht9).kept (hq _ (k6 a9 t9 h9 ht9).lt) (fun _ => rfl) (fun _ => rfl) (fun _ => rfl)⟩, Nat.le_trans hS.1 hz, fun q q1 q2 => ?_⟩
    rw [hq q (Nat.lt_of_lt_of_le q1 hS.1)]
    exact hS.2.1 q q1 q2
  rcases zz_bifs hrest with ⟨hb1, hr⟩ | ⟨hb1, hr⟩
  · simp only [Bool.and_eq_true, decide_eq_true_eq] at hr
    obtain ⟨⟨d4, d6⟩, d9⟩ := hr
    exact vx_throwS hexec hb hl hown hfit (List.all_eq_true.mp hfits) (hts _ hlk) (hwd _ List.mem_cons_self) hstr hat hot2 hG.2.1 hG.2.2.1 hS (by rw [hml]; exact hls) hdec hd3 d4 d6 d9 (hout _) (by show 2 + 3 < _; omega) (by show _ + (13 * (2 + 1) + 43) ≤ _; omega) hce hsl hlocks hxc hS.2.2 (by omega) (by omega)
  · simp only [Bool.and_eq_true, decide_eq_true_eq] at hr
    obtain ⟨⟨d4, d7⟩, d10⟩ := hr
    exact vx_throwSW hexec hb hl hown hfit (List.all_eq_true.mp hfits) (hts _ hlk) (hwd _ List.mem_cons_self) hstr hat hot2 hG.2.1 hG.2.2.1 hS (by rw [hml]; exact hls) hdec hd3 d4 d7 d10 (hout _) (by show 2 + 3 < _; omega) (by show _ + (13 * (2 + 1) + 43) ≤ _; omega) hce hsl hlocks hxc hS.2.2 (by omega) (by omega)
