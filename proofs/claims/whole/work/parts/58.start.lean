/-! THE CLAIM OUT OF ONE WALK OF THE LAW'S BODY. Your part is whole_start (and what it stands on); all else here is the same for every law, but numbers. -/
def R_law : String := "NeedleShopLaw"
def lw_P (b : Addr) (xs : List Int32) (args : Array Value) (s : State) : Prop := args = #[.ref b] ∧ s.IntsAt b xs ∧ xs.length ≤ 3072 ∧ (Jvm.Cond.and given_1 narrow_1).before args s = true
def lw_Q (_ : Array Value) (s : State) (o : Outcome) (t : State) : Prop := o = .returned (some (.int 1)) ∧ Framed s o t [] 601024 7293034
def lw_Z (below : List Frame) (a : Array Value) (s : State) : State → Prop := fun t => ∃ o, t.status = .running ∧ Ended t below o ∧ lw_Q a s o t
/-- the law's own end, with 1 on the stack, nothing written that was there before, its room as the claim has it -/
theorem lw_ret {p : Program} {l : Launch} {e : Env} {s : State} {m : MethodId} {below : List Frame} {meth : Method} {c : Code} {b : Nat} (hx : p.tables.exec = Jvm.exec) (hb : c.code = code) (hr : meth.sig.returnType = ret) (hlocks : meth.locks = false) {pc : Nat} {H : Heap} {ls : Array Slot} (hdg : decode code pc = .ok (.ireturn, 1)) : W p l e room_1 s m #[Value.ref b] below meth c H [] 601024 7293034 (lw_Z below #[Value.ref b] s) (F0 m pc ls [.int 1]) := by
  intro T hT X
  obtain ⟨fs, hret, hrun, hended, hW, hframe⟩ := X.leave (v := some (.int 1)) (hlocks := hlocks) (fun h => by rw [hr] at h; cases h)
  have hmeth' : T.vm.method? m = some meth := X.method'
  refine ⟨T.setFrames fs, ?_, .returned (some (.int 1)), hrun, hended, rfl, ⟨_, rfl⟩, hW, hframe⟩
  jvm_step X.here [X.here.top, hx, hb, hdg, hmeth', hr, ret, narrow_b1]
  (try refine ⟨rfl, ?_⟩); (try refine ⟨rfl, ?_⟩)
  first | (intro acts; rw [hret _ acts rfl rfl rfl]) | rw [hret _ _ rfl rfl rfl]
  exact Steps.refl _
/-- what holds at the law's entry: the machine, the code, the tables' words (any of lw_tbl by 'hts w (by decide +kernel)'), the script of L ints xs at the cell b, what the Statement gives of the start (any of its parts by flat_of_before) -/
def lw_At (p : Program) (s : State) (m : MethodId) (meth : Method) (c : Code) (b L : Nat) (xs : Nat → Int32) : Prop :=
  p.tables.exec = Jvm.exec ∧ c.code = code ∧ meth.sig.returnType = ret ∧ c.maxLocals = 7 ∧ s.vm.findClass R_law = some m.cls ∧ (∀ w ∈ lw_tbl, w.before #[Value.ref b] s = true) ∧ va_X b L xs s s.heap ∧ b < s.heap.size ∧ meth.locks = false ∧ (Jvm.Cond.and given_1 narrow_1).before #[Value.ref b] s = true
/-! THE START: what the run's world is at the law's entry. -/
def zb_T (q : String × Nat) : Term := .string q.1 q.2
def zb_V (q : String × Nat) : Term := .field (zb_T q) "java/lang/String" "value" "[B"
def zb_El (q : String × Nat) : List Int32 → Nat → List Jvm.Cond
  | [], _ => []
  | x :: r, k => .eq (.elem (zb_V q) (.int (Int32.ofNat k))) (.int x) :: zb_El q r (k + 1)
def zb_E (q : String × Nat) (t : List Int32) : List Jvm.Cond := .exactly (zb_T q) "java/lang/String" :: .eq (.field (zb_T q) "java/lang/String" "coder" "B") (.int 0) :: .arrayOf (zb_V q) .byte :: .eq (.length (zb_V q)) (.int (Int32.ofNat t.length)) :: zb_El q t 0
def zb_all : List (String × Nat) → List (List Int32) → List Jvm.Cond
  | q :: qs, t :: ts => zb_E q t ++ zb_all qs ts
  | _, _ => []
def zb_sub : List Jvm.Cond → List Jvm.Cond → Bool
  | [], _ => true
  | _ :: _, [] => false
  | x :: xs, y :: ys => bif decide (x = y) then zb_sub xs ys else zb_sub (x :: xs) ys
theorem zb_sub_mem : ∀ (ys xs : List Jvm.Cond), zb_sub xs ys = true → ∀ x ∈ xs, x ∈ ys
  | ys, [], _, x, hx => by cases hx
  | [], x :: xs, h, _, _ => by cases h
  | y :: ys, x :: xs, h, z, hz => by
    unfold zb_sub at h
    by_cases e : x = y
    · rw [decide_eq_true e] at h
      rcases List.mem_cons.mp hz with e2 | hz
      · rw [e2, e]; exact List.mem_cons_self
      · exact List.mem_cons_of_mem _ (zb_sub_mem ys xs h z hz)
    · rw [decide_eq_false e] at h
      exact List.mem_cons_of_mem _ (zb_sub_mem ys (x :: xs) h z hz)
set_option maxRecDepth 100000 in
theorem zb_sub_ok : zb_sub (zb_all zz_sk zz_S) (flatC narrow_1) = true := by decide +kernel
theorem zb_all_mem : ∀ (qs : List (String × Nat)) (ts : List (List Int32)) (j : Nat) (q : String × Nat) (t : List Int32), qs[j]? = some q → ts[j]? = some t → ∀ w ∈ zb_E q t, w ∈ zb_all qs ts
  | [], ts, j, q, t, h, _, _, _ => by simp at h
  | q0 :: qs, [], j, q, t, _, h, _, _ => by simp at h
  | q0 :: qs, t0 :: ts, 0, q, t, h1, h2, w, hw => by
    rw [List.getElem?_cons_zero] at h1 h2
    cases h1; cases h2
    exact List.mem_append_left _ hw
  | q0 :: qs, t0 :: ts, j + 1, q, t, h1, h2, w, hw => by
    rw [List.getElem?_cons_succ] at h1 h2
    exact List.mem_append_right _ (zb_all_mem qs ts j q t h1 h2 w hw)
theorem zb_El_mem (q : String × Nat) : ∀ (t : List Int32) (k j : Nat), j < t.length → Jvm.Cond.eq (.elem (zb_V q) (.int (Int32.ofNat (k + j)))) (.int (t.getD j 0)) ∈ zb_El q t k
  | [], k, j, h => by simp at h
  | x :: r, k, 0, h => List.mem_cons_self
  | x :: r, k, j + 1, h => by
    have h2 := zb_El_mem q r (k + 1) j (by simpa using h)
    rw [show k + 1 + j = k + (j + 1) by omega] at h2
    exact List.mem_cons_of_mem _ h2
def zb_hint : List Nat := [573, 637, 647, 652, 653, 657, 658, 659, 664, 665, 666, 715, 751, 776, 778, 779, 782, 792, 802, 803, 817, 818, 819, 820, 821, 822, 823, 824, 825, 826, 852, 913, 931, 1019, 1028, 1032, 1080, 1095, 1113, 1128, 1136, 1144, 1213, 1218, 1255, 1289, 1335, 1530, 1537, 1538, 1547, 1560, 1569, 1570, 1579, 1580, 1581, 1582, 1583, 1584, 1585, 1586, 1587, 1588, 1601, 1610, 1611, 1620, 1625, 1630]
def zb_refs : List (String × Nat) → List String → List Nat → Bool
  | q :: qs, t :: ts, n :: ns => decide (zz_lk n = .stringRef q.1 q.2 t) && zb_refs qs ts ns
  | [], _, _ => true
  | _, _, _ => false
theorem zb_refs_ok : zb_refs zz_sk zz_tx zb_hint = true := by decide +kernel
theorem zb_refs_at : ∀ (qs : List (String × Nat)) (ts : List String) (ns : List Nat), zb_refs qs ts ns = true → ∀ (j : Nat) (q : String × Nat), qs[j]? = some q → ∃ n, zz_lk n = .stringRef q.1 q.2 (ts.getD j "")
  | [], ts, ns, _, j, q, h => by simp at h
  | q0 :: qs, [], ns, h0, j, q, h => by cases h0
  | q0 :: qs, t0 :: ts, [], h0, j, q, h => by cases h0
  | q0 :: qs, t0 :: ts, n0 :: ns, h0, 0, q, h => by
    rw [List.getElem?_cons_zero] at h
    cases h
    exact ⟨n0, of_decide_eq_true (Bool.and_eq_true_iff.mp h0).1⟩
  | q0 :: qs, t0 :: ts, n0 :: ns, h0, j + 1, q, h => by
    rw [List.getElem?_cons_succ] at h
    exact zb_refs_at qs ts ns (Bool.and_eq_true_iff.mp h0).2 j q h
theorem zb_nc : ∀ i, i < 5 → ∀ j, j < 5 → i ≠ j → Jvm.Cond.not (.castable (zz_ex i) (zz_ex j)) ∈ flatC narrow_1 := by decide +kernel
theorem zb_nw : Jvm.Cond.eq (.static "java/lang/String" "COMPACT_STRINGS" "Z") (.int 1) ∈ flatC narrow_1 ∧ Jvm.Cond.isRef (.static "jdk/internal/util/Preconditions" "SIOOBE_FORMATTER" "Ljava/util/function/BiFunction;") ∈ flatC narrow_1 ∧ Jvm.Cond.isRef (.static Bundle.tN "UNASSIGNED_STACK" Bundle.steD) ∈ flatC narrow_1 ∧ Jvm.Cond.isRef (.static Bundle.tN "SUPPRESSED_SENTINEL" Bundle.listD) ∈ flatC narrow_1 := by decide +kernel
theorem zb_t1 : (.laysStatic Bundle.tN "UNASSIGNED_STACK" Bundle.steD : Jvm.Cond) ∈ lw_tbl := by decide +kernel
theorem zb_t2 : (.laysStatic Bundle.tN "SUPPRESSED_SENTINEL" Bundle.listD : Jvm.Cond) ∈ lw_tbl := by decide +kernel
theorem zb_t3 : (.initialized Bundle.tN : Jvm.Cond) ∈ lw_tbl := by decide +kernel
theorem zb_t4 : (.laysStatic "java/lang/String" "COMPACT_STRINGS" "Z" : Jvm.Cond) ∈ lw_tbl := by decide +kernel
theorem zb_t5 : (.initialized "java/lang/String" : Jvm.Cond) ∈ lw_tbl := by decide +kernel
theorem zb_t6 : (.laysStatic "jdk/internal/util/Preconditions" "SIOOBE_FORMATTER" "Ljava/util/function/BiFunction;" : Jvm.Cond) ∈ lw_tbl := by decide +kernel
theorem zb_t7 : (.initialized "jdk/internal/util/Preconditions" : Jvm.Cond) ∈ lw_tbl := by decide +kernel
theorem zb_t8 : (.arrayClass .int : Jvm.Cond) ∈ lw_tbl := by decide +kernel
theorem zb_t9 : (.arrayClass .boolean : Jvm.Cond) ∈ lw_tbl := by decide +kernel
theorem zb_t10 : (.arrayClass .long : Jvm.Cond) ∈ lw_tbl := by decide +kernel
theorem zb_t11 : (.arrayOver (.object RX8) : Jvm.Cond) ∈ lw_tbl := by decide +kernel
theorem zb_G {p : Program} {s : State} {m : MethodId} {meth : Method} {c : Code} {b L : Nat} {xs : Nat → Int32} (hL : L ≤ 3072) (C0 : lw_At p s m meth c b L xs) : ∃ (D : va_G) (cI cZ cL cS : ClassId) (sa : Nat → Nat), zz_G D cI cZ cL cS b s.heap.size sa L xs s := by
  obtain ⟨hexec, hb, hr, hml, hown, hts, hX, hbl, hlocks, hgv⟩ := C0
  have hn : ∀ w ∈ flatC narrow_1, w.before #[Value.ref b] s = true := fun w hw => flat_of_before _ hgv w (by show w ∈ flatC given_1 ++ flatC narrow_1; exact List.mem_append_right _ hw)
  have hws : ∀ w ∈ zz_ws, w.before #[Value.ref b] s = true := fun w hw => hts w ((List.mem_filter.mp hw).1)
  have hA : ∀ a : Nat, a < s.heap.size → ¬ (fun z => s.heap.size ≤ z) a := fun a h => by show ¬ s.heap.size ≤ a; omega
  have h0 : ∀ c9 : Nat, ∃ q : ClassId × (Nat → Nat), ∀ v : vw_C, vwCl[c9]? = some v → u_Kn s v.1 v.2.1 v.2.2 q.1 q.2 := by
    intro c9
    by_cases h7 : c9 < 7
    · obtain ⟨C, T, N, ty, y1, -, -, -, -, -, y7, y8, -⟩ := zz_cls c9 h7
      obtain ⟨cC, iS, hk⟩ := u_known hws y7 (hws _ y8)
      exact ⟨(cC, iS), fun v hv => by rw [y1] at hv; cases hv; exact hk⟩
    · refine ⟨(0, fun _ => 0), fun v hv => ?_⟩
      rw [List.getElem?_eq_none (by show 7 ≤ c9; omega)] at hv
      cases hv
  obtain ⟨D, hD⟩ := Classical.axiomOfChoice h0
  obtain ⟨cI, kI, oI, i1, i2, i3⟩ := Cond.arrayClass_spec (args := #[Value.ref b]) (first := s) (o := none) (s := s) (idx := []) (hts _ zb_t8)
  obtain ⟨cZ, kZ, oZ, z1, z2, z3⟩ := Cond.arrayClass_spec (args := #[Value.ref b]) (first := s) (o := none) (s := s) (idx := []) (hts _ zb_t9)
  obtain ⟨cL, kL, oL, l1, l2, l3⟩ := Cond.arrayClass_spec (args := #[Value.ref b]) (first := s) (o := none) (s := s) (idx := []) (hts _ zb_t10)
  have hao : (Cond.arrayOver (.object RX8)).before #[Value.ref b] s = true := hts _ zb_t11
  obtain ⟨oS, cS, kS, s1, -, s3, s4, s5⟩ := Cond.arrayOver_spec (args := #[Value.ref b]) (first := s) (o := none) (s := s) (idx := []) hao
  have hS : ∀ j : Nat, ∃ a : Nat, ∀ (own : String) (ix : Nat), zz_sk[j]? = some (own, ix) → vk_R own ix (zz_tx.getD j "") a s ∧ zz_str s.heap.size a j s := by
    intro j
    by_cases hj : j < zz_sk.length
    · obtain ⟨⟨own, ix⟩, hq⟩ : ∃ x, zz_sk[j]? = some x := ⟨_, List.getElem?_eq_getElem hj⟩
      obtain ⟨t, htj⟩ : ∃ x, zz_S[j]? = some x := ⟨_, List.getElem?_eq_getElem (by rw [zs_lenS]; exact hj)⟩
      have htm : t ∈ zz_S := List.mem_of_getElem? htj
      have hall : ∀ w ∈ zb_E (own, ix) t, w.before #[Value.ref b] s = true := fun w hw => hn w (zb_sub_mem _ _ zb_sub_ok w (zb_all_mem _ _ j _ _ hq htj w hw))
      have hgd : zz_S.getD j [] = t := by rw [List.getD_eq_getElem?_getD, htj]; rfl
      obtain ⟨adK, adV, ⟨hk, -⟩, hev⟩ := vk_Sof (args := #[Value.ref b]) (s := s) (N := 1) (tm := fun _ => zb_T (own, ix)) (len := [t.length]) (byt := [t]) (A := fun z => s.heap.size ≤ z)
        (fun i hi => by
          have : i = 0 := by omega
          subst this
          show t.length < 2 ^ 31
          have := (zs_let t htm).1
          omega)
        (fun i hi => hall _ List.mem_cons_self)
        (fun i hi => hall _ (List.mem_cons_of_mem _ List.mem_cons_self))
        (fun i hi => hall _ (List.mem_cons_of_mem _ (List.mem_cons_of_mem _ List.mem_cons_self)))
        (fun i hi => by
          have : i = 0 := by omega
          subst this
          exact hall _ (List.mem_cons_of_mem _ (List.mem_cons_of_mem _ (List.mem_cons_of_mem _ List.mem_cons_self))))
        (fun i hi j hj => by
          have : i = 0 := by omega
          subst this
          have hm := zb_El_mem (own, ix) t 0 j hj
          rw [Nat.zero_add] at hm
          exact hall _ (List.mem_cons_of_mem _ (List.mem_cons_of_mem _ (List.mem_cons_of_mem _ (List.mem_cons_of_mem _ hm)))))
        (fun i j hi hj hne => by omega) hA
      have hk := hk 0 (by omega)
      obtain ⟨n9, hn9⟩ := zb_refs_at _ _ _ zb_refs_ok j _ hq
      have href : (Cond.stringRef own ix (zz_tx.getD j "")).before #[Value.ref b] s = true := by
        rw [← hn9]
        unfold zz_lk
        cases hq9 : Nat.beq n9 9999 with
        | true =>
          exfalso
          unfold zz_lk at hn9
          rw [hq9] at hn9
          cases hn9
        | false =>
          show (lw_tbl.getD n9 .tt).before #[Value.ref b] s = true
          rw [List.getD_eq_getElem?_getD]
          cases hg : lw_tbl[n9]? with
          | none =>
            exfalso
            unfold zz_lk at hn9
            rw [hq9] at hn9
            have hn9 : lw_tbl.getD n9 .tt = _ := hn9
            rw [List.getD_eq_getElem?_getD, hg] at hn9
            cases hn9
          | some w => exact hts w (List.mem_of_getElem? hg)
      refine ⟨adK 0, fun own' ix' h' => ?_⟩
      rw [hq] at h'
      cases h'
      refine ⟨vk_R.of href (hev 0 (by omega)), adV 0, hk.1, hk.2.1, hk.2.2.1, ?_⟩
      rw [hgd]
      exact hk.2.2.2
    · refine ⟨0, fun own ix h => ?_⟩
      rw [List.getElem?_eq_none (by omega)] at h
      cases h
  obtain ⟨sa, hsa⟩ := Classical.axiomOfChoice hS
  refine ⟨(fun c9 => (D c9).1, fun c9 => (D c9).2), cI, cZ, cL, cS, sa, ⟨fun c9 q hq => hD c9 q hq, fun k q hq => ?_⟩, vx_Zqof (hts _ zb_t1) (hts _ zb_t3) (hn _ zb_nw.2.2.1) hA, vx_Zqof (hts _ zb_t2) (hts _ zb_t3) (hn _ zb_nw.2.2.2) hA, hX, ⟨hbl, Nat.le_refl _, hL⟩, hsa, fun i j hi hj hne => va_Nc.of (hn _ (zb_nc i hi j hj hne)), va_Zof (hts _ zb_t4) (hts _ zb_t5) (va_eqt (hn _ zb_nw.1)) hA, va_Zqof (hts _ zb_t6) (hts _ zb_t7) (hn _ zb_nw.2.1) hA, va_AO.of hao⟩
  match k, hq with
  | 0, hq => cases hq; exact ⟨fun n z => ⟨fun k h => (by cases h), kI, i2, oI, i3⟩, i1⟩
  | 1, hq => cases hq; exact ⟨fun n z => ⟨fun k h => (by cases h), kZ, z2, oZ, z3⟩, z1⟩
  | 2, hq => cases hq; exact ⟨fun n z => ⟨fun k h => (by cases h), kL, l2, oL, l3⟩, l1⟩
  | 3, hq => cases hq; exact ⟨fun n z => ⟨fun k h => (by cases h), kS, s3, oS, s4⟩, kS, oS, s3, s4, s1, s5⟩
  | k + 4, hq => cases hq
def zb_h0 (L : Nat) (xs : Nat → Int32) : zz_H := ([(100, L)], fun _ _ => none, fun a i => bif Nat.beq a 0 then xs i else 0, fun _ _ => 0, 0)
/-- WHAT IS LEFT: the pure machine's own run -/
def zz_E : Prop := ∀ (L : Nat) (xs : Nat → Int32), L ≤ 3072 → ∃ h' : zz_H, zz_Ev (zm_W_law_1, 1000, 0, zz_args 7 [.ref 0], []) (zb_h0 L xs) (.inl (some (.int 1)), h') ∧ zz_uc h' ≤ 601000 ∧ zz_us h' ≤ 7293000
theorem zb_whole (hE : zz_E) {p : Program} {e : Env} {s : State} {m : MethodId} {below : List Frame} {meth : Method} {c : Code} (l : Launch) (hst : l.stackTraces = false) {b L : Nat} {xs : Nat → Int32} (hL : L ≤ 3072) (htab : c.exceptionTable.toList = []) (hname : meth.name = "law") (C0 : lw_At p s m meth c b L xs) : W p l e room_1 s m #[Value.ref b] below meth c s.heap [] 0 0 (lw_Z below #[Value.ref b] s) (entryFrame m ([Value.ref b] : List Value).toArray 7) := by
  obtain ⟨D, cI, cZ, cL, cS, sa, hG⟩ := zb_G hL C0
  obtain ⟨h', ⟨f, hf⟩, hu, hs⟩ := hE L xs hL
  obtain ⟨hexec, hb, hr, hml, hown, hts, hX, hbl, hlocks, hgv⟩ := C0
  have hBd : ∀ f, zz_Bd l D cI cZ cL cS b s.heap.size sa L xs f := by
    intro f
    induction f with
    | zero =>
      intro k m0 nm _ _ p e R s mid args below meth c _ d pc L st h r h' H locs cells slots mc ms ls hx
      cases hx
    | succ f ih => exact zz_body_step zz_rows_ok (zz_throws zz_rows_ok l hst D cI cZ cL cS b s.heap.size sa L xs) (zs_rule l D cI cZ cL cS b s.heap.size sa L xs) ih
  have hm : zz_P[357]? = some zm_W_law_1 := rfl
  have hn : zz_N[357]? = some zn_W_law_1 := rfl
  have hC : zz_Cx D cI cZ cL cS b s.heap.size sa L xs zn_W_law_1 p s m #[Value.ref b] meth c := ⟨hexec, hb, hml, hr, hlocks, hname, htab, hown, fun w hw => hts w ((List.mem_filter.mp hw).1), hG⟩
  obtain ⟨q1, q2⟩ := zz_exec_mono zz_P zz_S f _ _ _ _ hf
  have hu0 : zz_uc (zb_h0 L xs) = 1 := rfl
  have hs0 : zz_us (zb_h0 L xs) = L := by show L + 0 + 6 * 0 = L; omega
  have hR : zz_HR D cI cZ cL cS b s.heap.size sa L xs (zb_h0 L xs) s.heap := by
    refine ⟨rfl, fun j _ => rfl, by show 1 ≤ 900000; omega, by show s.heap.size + 1 ≤ s.heap.size + 1; omega, fun _ => rfl, fun a t ha ht => ?_⟩
    have h1 : a < 1 := (List.getElem?_eq_some_iff.mp ht).1
    omega
  have hx := hBd f 357 zm_W_law_1 zn_W_law_1 hm hn p e room_1 s m #[Value.ref b] below meth c hC 1000 0 (zz_args 7 [.ref 0]) [] (zb_h0 L xs) _ h' s.heap [] 0 0 (zz_uc h' - 1) (zz_us h' - L) _ hf ⟨hR, zz_LR.entry (zz_ra b s.heap.size sa) (vs := [.ref 0]) (by show 1 ≤ 7; omega), va_S.rf, ⟨by show 1000 ≤ 2048; omega, by show 64 * 1000 ≤ 84000; omega, by show _ ≤ 601024; omega, by show _ ≤ 7293034; omega⟩, 1, L, by omega, by omega, by omega, by omega⟩
  rw [lg_entry_eq]
  intro T hT X
  obtain ⟨t, a1, o, b1, b2, b3⟩ := hx T hT X
  refine ⟨t, a1, o, b1, b2, ?_⟩
  rcases b3 with ⟨⟨v, e1, e2, -, -⟩, Lc, hF, hfree⟩ | ⟨q, -, E, ce, Lc, ⟨j, e1, -⟩, -⟩
  · cases e1
    refine ⟨e2, hF.1, hF.2.1, hF.2.2.weaken (fun y hy hlt => ?_) (by omega) (by omega)⟩
    exact absurd hlt (Nat.not_lt.mpr (hfree y hy))
  · cases e1
