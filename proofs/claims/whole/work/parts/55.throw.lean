/-! A THROW of the class: new, dup, the text, the constructor, athrow. -/
def zz_nm2 : List String := ["java/lang/RuntimeException", "java/lang/Exception"]
/-- words that are no good ones, out of good ones -/
theorem zz_declE {args : Array Value} {s : State} {x : MethodName} {by9 : ByteArray} {n : Nat} {ret : Option FieldType} (hi : (Cond.instanceMethod x).before args s = true) (hc : (Cond.code x by9 n ret).before args s = true) : (Cond.declares x).before args s = true := by
  obtain ⟨m, meth, hn, hm, hst, -⟩ := Cond.instanceMethod_spec hi
  obtain ⟨meth', c9, hm', -, -, -, -, -, -, hsig⟩ := Cond.code_spec hn hc
  cases Option.some.inj (hm.symm.trans hm')
  simp [Cond.before, Cond.holds, Cond.value, hn, hm, hst, hsig]
def zz_dY : List (MethodName × ByteArray) := [(Bundle.initS "java/lang/RuntimeException", Bundle.six), (Bundle.initS "java/lang/Exception", Bundle.six), (Bundle.initS Bundle.tN, LibCode.Throwable.InitS.code)]
theorem zz_dY_in : ∀ q ∈ zz_dY, Cond.instanceMethod q.1 ∈ zz_ws ∧ Cond.code q.1 q.2 2 none ∈ zz_ws := by decide +kernel
def zz_dz (E : String) (w : Jvm.Cond) : Bool := decide (w ∈ zz_ws) || (decide (w = .castable E E) || zz_dY.any fun q => decide (w = .declares q.1))
theorem zz_dz_ok {args : Array Value} {s : State} {E : String} {k : ClassId} (hE : s.vm.findClass E = some k) (hts : ∀ w ∈ zz_ws, w.before args s = true) {w : Jvm.Cond} (h : zz_dz E w = true) : w.before args s = true := by
  unfold zz_dz at h
  rw [Bool.or_eq_true, Bool.or_eq_true, decide_eq_true_eq, decide_eq_true_eq, List.any_eq_true] at h
  rcases h with h | h | ⟨q, hq, h⟩
  · exact hts _ h
  · rw [h]; exact zz_castE hE
  · rw [of_decide_eq_true h]
    exact zz_declE (hts _ (zz_dY_in q hq).1) (hts _ (zz_dY_in q hq).2)
def zz_ic5 : List (Nat × Nat) := [(95, 0), (105, 1), (418, 2), (169, 3), (232, 4)]
def zz_ic4 : List (Nat × Nat) := [(95, 0), (105, 1), (418, 2), (232, 4)]
def zz_w5 (q : Nat × Nat) : List Jvm.Cond := Cond.initialized (zz_ex q.2) :: Cond.instantiable (zz_ex q.2) 6 :: vx_atS "NeedleShop" q.1 (zz_ex q.2) zz_nm2
theorem zz_w5_in : (zz_ic4.all fun q => (zz_w5 q).all (zz_dz (zz_ex q.2))) = true := by decide +kernel
theorem zz_w5_ins : ∀ q ∈ zz_ic5, Cond.instantiable (zz_ex q.2) 6 ∈ zz_ws := by decide +kernel
theorem zz_w5_ot : (zz_ic4.all fun q => (zz_w5 q).all vx_ot && (Bundle.fit (zz_ex q.2) && zz_nm2.all Bundle.fit)) = true := by decide +kernel
/-- the words of a constructor with a text that passes on by another index than the library's rows take -/
def zt_by : ByteArray := ⟨#[0x2a, 0x2b, 0xb7, 0x00, 0x0d, 0xb1]⟩
theorem zt_by0 : decode zt_by 0 = .ok (.aload_n 0, 1) := by decide +kernel
theorem zt_by1 : decode zt_by 1 = .ok (.aload_n 1, 1) := by decide +kernel
theorem zt_by2 : decode zt_by 2 = .ok (.invokespecial 13, 3) := by decide +kernel
theorem zt_by5 : decode zt_by 5 = .ok (.return_, 1) := by decide +kernel
def zt_A (own : String) (ic : Nat) (X Y : String) (r : List String) : List Jvm.Cond :=
  [Cond.methodLink own ic (Bundle.initS X), .instantiable X 6, .selects X Bundle.tFill0 Bundle.tFill0, .selects X Bundle.tFill Bundle.tFill, .lays X Bundle.tN "cause" "Ljava/lang/Throwable;", .lays X Bundle.tN "stackTrace" Bundle.steD, .lays X Bundle.tN "suppressedExceptions" Bundle.listD, .lays X Bundle.tN "detailMessage" "Ljava/lang/String;", .isRef (.static Bundle.tN "UNASSIGNED_STACK" Bundle.steD), .isRef (.static Bundle.tN "SUPPRESSED_SENTINEL" Bundle.listD), .fieldLink Bundle.tN 198 Bundle.tN "backtrace" "Ljava/lang/Object;", .lays Bundle.tN Bundle.tN "backtrace" "Ljava/lang/Object;", .lays X Bundle.tN "backtrace" "Ljava/lang/Object;"] ++
    (Bundle.passSAtoms X Y 13 zt_by ++ (Bundle.chainSAtoms Y r ++ (Bundle.throwableSAtoms ++ Bundle.throwableAtoms)))
def zt_X : String := "java/util/NoSuchElementException"
def zt_W : List Jvm.Cond := Cond.initialized zt_X :: (zt_A "NeedleShop" 169 zt_X "java/lang/RuntimeException" ["java/lang/Exception"]).filter vx_no
theorem zt_W_in : (zt_W.all (zz_dz zt_X)) = true := by decide +kernel
theorem zt_W_ot : (zt_W.all vx_ot && (Bundle.fit zt_X && (Bundle.fit "java/lang/RuntimeException" && Bundle.fit "java/lang/Exception"))) = true := by decide +kernel
section
variable {p : Program} {l : Launch} {e : Env} {R : Room} {s : State} {m : MethodId} {args : Array Value} {below : List Frame} {meth : Method} {c : Code} {locs : List Loc} {cells slots : Nat}
set_option maxHeartbeats 2000000 in
theorem zt_ctor {T1 : State} (S0 : Stand p l e R s m args below meth c T1 locs cells slots) (hexec : p.tables.exec = Jvm.exec) (htr : e.platform.stackTraces = false) {own X Y : String} {r : List String} {ic : Nat}
    (hown : s.vm.findClass own = some m.cls) (hX : Bundle.fit X = true) (hY : Bundle.fit Y = true) (hr : ∀ n ∈ r, Bundle.fit n = true)
    (h : ∀ w ∈ zt_A own ic X Y r, w.before args s = true) (hlocs : locs = [])
    {q : Addr} {cX : ClassId} {kX : Class} (hfX : s.vm.findClass X = some cX) (hkX : s.vm.classes[cX]? = some kX) (hcell : T1.heap[q]? = some (freshCell cX kX)) (hnew : s.heap.size ≤ q)
    {sa : Nat} {pc : Nat} {ls : Array Slot} {rest : List Value} (hsize : ls.size = c.maxLocals)
    (d6 : decode c.code pc = .ok (.invokespecial ic, 3)) (d9 : decode c.code (pc + 3) = .ok (.athrow, 1)) (hout : ∀ x ∈ c.exceptionTable.toList, covers x (pc + 3) = false)
    (hF : r.length + 4 < R.frames) (hL : (rest.map fun v => v.category).sum + 1 + (13 * (r.length + 2) + 42) ≤ R.locals) (hlocks : meth.locks = false) :
    ∃ U : State, Steps p.tables e below (T1.setTop { method := m, pc := pc, locals := ls, stack := .ref sa :: .ref q :: .ref q :: rest, locked := none }) U ∧ U.status = .running ∧ Ended U below (.threw q) ∧ s.WarmedH U.vm ∧ s.sameButNew ({ U with vm := s.vm } : State) locs cells slots ∧
      ∃ ce : Cell, U.heap[q]? = some ce ∧ ce.vm = .none ∧ ce.cls = cX := by
  have g : ∀ x, x ∈ zt_A own ic X Y r → x.holds args s none s [] = true := fun x hx => h x hx
  have hpl : e.platform.magicAccessors = ({} : Platform).magicAccessors := by rw [S0.admits.platform]
  obtain ⟨T, Z0, L, -, K⟩ := ThrowableC.of_atoms (args := args) (s := s) (pl := e.platform) (by rw [S0.admits.platform]) (by rw [S0.admits.platform]) hpl (fun x hx => h x (by simp [zt_A, hx]))
  obtain ⟨Z, M, LZ, LM, hnZ⟩ := Init0T.ofS_atoms (args := args) hpl L K (fun x hx => h x (by simp [zt_A, hx]))
  obtain ⟨P2, Ps, hlen, L2, hLs, hP2m, hlink2, hlinks⟩ := Bundle.chainS (args := args) hpl hnZ r Y hY hr (fun x hx => h x (by simp [zt_A, hx]))
  obtain ⟨P1, L1, hP1m, hP1s⟩ := PassC.ofS_atoms (args := args) (s := s) hpl (X := X) (Y := Y) (Bundle.fit_spec hX).1 (Bundle.fit_spec hY).2 zt_by0 zt_by1 zt_by2 zt_by5 (fun x hx => h x (by simp [zt_A, hx]))
  have hf1 : s.vm.findClass X = some P1.m.cls := findClass_of_methodNamed hP1m
  cases Option.some.inj (hfX.symm.trans hf1)
  obtain ⟨c1, kX', hc1, hk, hord, -, -, hn6⟩ := Cond.instantiable_spec (g (.instantiable X 6) (by simp [zt_A]))
  cases Option.some.inj (hc1.symm.trans hf1)
  cases Option.some.inj (hkX.symm.trans hk)
  have hs0 : selectMethod e.platform s.vm P1.m.cls T.fill0 = .method T.fill0 := by
    obtain ⟨c2, r2, m2, q1, q2, q3, q4, -⟩ := Cond.selects_spec (g (.selects X Bundle.tFill0 Bundle.tFill0) (by simp [zt_A]))
    cases Option.some.inj (q1.symm.trans hf1)
    cases Option.some.inj (q2.symm.trans (State.methodFound?_of_named K.fill0 (by decide)))
    cases Option.some.inj (q3.symm.trans K.fill0)
    rw [Launch.admits_selectMethod S0.admits]; exact q4
  have hs1 : selectMethod e.platform s.vm P1.m.cls T.fill = .method T.fill := by
    obtain ⟨c2, r2, m2, q1, q2, q3, q4, -⟩ := Cond.selects_spec (g (.selects X Bundle.tFill Bundle.tFill) (by simp [zt_A]))
    cases Option.some.inj (q1.symm.trans hf1)
    cases Option.some.inj (q2.symm.trans (State.methodFound?_of_named K.fill (by decide)))
    cases Option.some.inj (q3.symm.trans K.fill)
    rw [Launch.admits_selectMethod S0.admits]; exact q4
  obtain ⟨k0, hk0, hst⟩ := K.statics
  obtain ⟨u0, hu0⟩ := Cond.staticRefV K.unassigned L.unassignedStatic L.statics hk0 hst (g (.isRef (.static Bundle.tN "UNASSIGNED_STACK" Bundle.steD)) (by simp [zt_A]))
  obtain ⟨u1, hu1⟩ := Cond.staticRefV K.sentinel L.sentinelStatic L.statics hk0 hst (g (.isRef (.static Bundle.tN "SUPPRESSED_SENTINEL" Bundle.listD)) (by simp [zt_A]))
  obtain ⟨ci9, i9, fB, b1, b2, b3, b4, -, b6, b7, b8⟩ := Cond.ownField (t := .object "java/lang/Object") K.found L.cls (by decide +kernel) (g (.fieldLink Bundle.tN 198 Bundle.tN "backtrace" "Ljava/lang/Object;") (by simp [zt_A])) (g (.lays Bundle.tN Bundle.tN "backtrace" "Ljava/lang/Object;") (by simp [zt_A])) e.platform hpl
  obtain ⟨k1, hk1, hke, -, hkeep⟩ := S0.same.2.2.2.2.2 T.aS k0 hk0
  have hk1 : T1.heap[T.aS]? = some k1 := hk1
  have hno : ∀ i, (⟨T.aS, i⟩ : Loc) ∉ locs := fun i hm => by rw [hlocs] at hm; cases hm
  have hk1v : k1.vm ≠ .unknown := by
    rw [hke]; intro hu
    rw [show k0.vm = .unknown from hu] at hst
    cases hst
  have hne : T.aS ≠ q := Nat.ne_of_lt (Nat.lt_of_lt_of_le (Array.getElem?_eq_some_iff.mp hk0).1 hnew)
  obtain ⟨iM, hM⟩ := K.msg
  obtain ⟨tC, eC, hC, hCn⟩ := Cond.laysAt hf1 hk K.cause (g (.lays X Bundle.tN "cause" "Ljava/lang/Throwable;") (by simp [zt_A]))
  obtain ⟨tS, eS, hS, hSn⟩ := Cond.laysAt hf1 hk K.stack (g (.lays X Bundle.tN "stackTrace" Bundle.steD) (by simp [zt_A]))
  obtain ⟨tP, eP, hP, hPn⟩ := Cond.laysAt hf1 hk K.supp (g (.lays X Bundle.tN "suppressedExceptions" Bundle.listD) (by simp [zt_A]))
  obtain ⟨tM, eM, -, -⟩ := Cond.laysAt hf1 hk hM (g (.lays X Bundle.tN "detailMessage" "Ljava/lang/String;") (by simp [zt_A]))
  obtain ⟨tB, eB, hB, hBn⟩ := Cond.laysAt hf1 hk b8 (g (.lays X Bundle.tN "backtrace" "Ljava/lang/Object;") (by simp [zt_A]))
  have a1 := Cond.laysApart hB hC hBn hCn (by rw [b6, K.causeName]; decide)
  have a2 := Cond.laysApart hB hS hBn hSn (by rw [b6, K.stackName]; decide)
  have a3 := Cond.laysApart hB hP hBn hPn (by rw [b6, K.suppName]; decide)
  have hskip : SkipFacts T e.platform s (fun u => u) u0 ((preparedCellV T.toThrowableT (freshCell P1.m.cls kX) q u0 u1).withEntry T1.cur) :=
    ⟨{ ci198 := ci9, i198 := i9, fBack := fB }, ⟨b1, b2, b3, b4⟩, by
      have z := fresh_default (c := P1.m.cls) tB
      rw [b7] at z
      simpa [preparedCellV, Cell.setSlot, Cell.withEntry, Array.getElem?_setIfInBounds, a1, a2, a3, a1.symm, a2.symm, a3.symm, defaultValue] using z, fun _ _ => rfl⟩
  obtain ⟨tm, mC, cC, kC, v1, hnC, -, -, -, -, -, -, -, hW1, st1⟩ := Steps.initColdS (tb := p.tables) (e := e) (below := below) (s := s) (U := T1) S0.here hexec S0.warmed hpl hown (t := Bundle.initS X) rfl rfl (Bundle.fit_spec hX).2
    (g (.methodLink own ic (Bundle.initS X)) (by simp [zt_A])) (h (.instanceMethod (Bundle.initS X)) (by simp [zt_A, Bundle.passSAtoms])) (bytes := zt_by) (maxL := 2) (h (.code (Bundle.initS X) zt_by 2 none) (by simp [zt_A, Bundle.passSAtoms]))
    (f := { method := m, pc := pc, locals := ls, stack := .ref sa :: .ref q :: .ref q :: rest, locked := none }) rfl (a := q) (msg := .ref sa) (rest := .ref q :: rest) rfl d6
  cases Option.some.inj (hnC.symm.trans hP1m)
  have S1 := S0.noted hW1
  obtain ⟨v2, S2, st2⟩ := S1.ctorMessageOffV hexec (g := { method := m, pc := pc, locals := ls, stack := .ref q :: rest, locked := none }) rfl hsize T L Z LZ M LM (P1 :: P2 :: Ps)
    (fun P hP => by
      rcases List.mem_cons.mp hP with e9 | hP
      · rw [e9]; exact L1
      · rcases List.mem_cons.mp hP with e9 | hP
        · rw [e9]; exact L2
        · exact hLs P hP) ⟨Option.some.inj (hP1s.symm.trans hP2m), hlink2, hlinks⟩ (u0 := u0) (sen := u1) (self := q) (msg := .ref sa) rfl (cell := freshCell P1.m.cls kX) (cellS := k1)
    hcell (fun _ => by simp) (by simp) rfl rfl hs0 hs1 hk1 hne hk1v (by rw [hkeep _ (hno _)]; exact hu0) (by rw [hkeep _ (hno _)]; exact hu1)
    (Takes.of_laid hk hord tC (by rw [K.causeType]; rfl)) (Takes.of_laid hk hord tS (by rw [K.stackType]; exact fits_refV_array _ u0)) (Takes.of_laid hk hord tP (by rw [K.suppType]; exact fits_refV_object _ u1))
    (Takes.of_laid hk hord tM (by rw [K.msgType]; exact fits_refV_object _ ⟨.ref sa, rfl⟩)) K.objLocals hskip htr [] d6
    (by simp only [List.length_cons, hlen]; omega) (by
      simp only [List.length_cons, hlen, List.map_cons, List.sum_cons]
      have z : (Value.ref q).category = 1 := rfl
      rw [z]
      show 2 * 0 + (1 + _) + _ ≤ _
      omega)
  obtain ⟨hwalk, hrun, hend, hWU, hsame⟩ := S2.athrowLeaves hexec (g := { method := m, pc := pc + 3, locals := ls, stack := .ref q :: rest, locked := none }) rfl rfl rfl hout (a := q) (rest := rest) rfl d9
  have hlt : q < ((T1.setVm v1).setVm v2).heap.size := (Array.getElem?_eq_some_iff.mp hcell).1
  have hU := heapAt_setCell_self (s := (T1.setVm v1).setVm v2) (plainBareV T.toThrowableT (freshCell P1.m.cls kX) q u0 u1 (.ref sa)) hlt
  refine ⟨_, st1 _ (fun acts => ?_), hrun, hend, hWU, hsame.weaken (fun y hy hy' => ?_) (Nat.le_refl _) (Nat.le_refl _), _, hU, rfl, rfl⟩
  · rw [doInvoke_state]
    exact st2 _ hwalk
  · rcases List.mem_append.mp hy with h1 | h1
    · exact h1
    · exfalso
      have hb : y.base = q := by
        simp only [List.mem_cons, List.not_mem_nil, or_false] at h1
        rcases h1 with e9 | e9 | e9 | e9 | e9 <;> rw [e9]
      rw [hb] at hy'
      exact Nat.not_lt.mpr hnew hy'
variable {H : Heap} {ls : Array Slot} {rest : List Value} {Qc : Array Value → State → Outcome → State → Prop} {XC : String → State → State → Prop} {free : Addr → Prop}
set_option maxHeartbeats 1000000 in
theorem zt_throw {cc : ByteArray} {pc : Nat} (hexec : p.tables.exec = Jvm.exec) (hb : c.code = cc) (hl : l.stackTraces = false) {own X Y text : String} {r : List String} {ik is ic mc ms sa : Nat} {A : Nat → Prop}
    (hown : s.vm.findClass own = some m.cls) (hX : Bundle.fit X = true) (hY : Bundle.fit Y = true) (hr : ∀ n ∈ r, Bundle.fit n = true)
    (hk : (Cond.classLink own ik X).before args s = true) (hini : (Cond.initialized X).before args s = true) (hstr : vk_R own is text sa s) (hat : ∀ w ∈ (zt_A own ic X Y r).filter vx_no, w.before args s = true)
    (g1 : vx_ot (Cond.classLink own ik X) = true) (g2 : vx_ot (Cond.initialized X) = true) (g3 : ∀ w ∈ (zt_A own ic X Y r).filter vx_no, vx_ot w = true)
    (hU : vx_Zq Bundle.tN "UNASSIGNED_STACK" Bundle.steD A s s.heap) (hN : vx_Zq Bundle.tN "SUPPRESSED_SENTINEL" Bundle.listD A s s.heap) (hS : va_S A s.heap H locs) (hsize : ls.size = c.maxLocals)
    (d0 : decode cc pc = .ok (.new ik, 3)) (d3 : decode cc (pc + 3) = .ok (.dup, 1)) (d4 : decode cc (pc + 4) = .ok (.ldc is, 2)) (d6 : decode cc (pc + 6) = .ok (.invokespecial ic, 3)) (d9 : decode cc (pc + 9) = .ok (.athrow, 1))
    (hout : ∀ x ∈ c.exceptionTable.toList, covers x (pc + 9) = false)
    (hF : r.length + 4 < R.frames) (hL : (rest.map fun v => v.category).sum + 1 + (13 * (r.length + 2) + 42) ≤ R.locals) (hRc : cells + 1 ≤ R.cells) (hRs : slots + 6 ≤ R.slots) (hlocks : meth.locks = false)
    (hx : ∀ t : State, s.vm.Alike t.vm → H.size ≤ t.heap.size → (∀ q : Nat, q < H.size → t.heap[q]? = H[q]?) → XC X s t)
    (hf : ∀ z ∈ locs, free z.base) (hc : cells + 1 ≤ mc) (hs : slots + 6 ≤ ms) :
    W p l e R s m args below meth c H locs cells slots (vx_MQ below Qc XC args s mc ms free) (F0 m pc ls rest) := by
  intro T hT S
  have htr : e.platform.stackTraces = false := (show e.platform.stackTraces = l.stackTraces by rw [S.admits.platform]).trans hl
  have S0 := vx_rebase S (R' := { frames := R.frames, locals := R.locals, cells := 1, slots := 6 }) (Nat.le_refl _) (Nat.le_refl _) hRc hRs
  obtain ⟨u, hu⟩ : ∃ z, z = (T.setVm s.vm).setFrames (.invoking m args :: below) := ⟨_, rfl⟩
  rw [← hu] at S0
  have e1 : u.vm = s.vm := by rw [hu]; rfl
  have e2 : u.heap = H := by rw [hu]; exact hT
  have w0 : s.WarmedH u.vm := by rw [e1]; exact State.WarmedH.refl s
  have U1 : vx_Zq Bundle.tN "UNASSIGNED_STACK" Bundle.steD A u u.heap := by rw [e2]; exact vx_Zq.moved w0.alike (hU.kept hS.2.1)
  have N1 : vx_Zq Bundle.tN "SUPPRESSED_SENTINEL" Bundle.listD A u u.heap := by rw [e2]; exact vx_Zq.moved w0.alike (hN.kept hS.2.1)
  have hA : ∀ w ∈ zt_A own ic X Y r, w.before args u = true := vx_own (fun w hw => vx_ot_at w0 e1.symm (g3 w hw) (hat w hw)) (vx_isRefq U1.1) (vx_isRefq N1.1) U1.2.word N1.2.word
  have hown1 : u.vm.findClass own = some m.cls := by rw [e1]; exact hown
  obtain ⟨v1, cX, kX, hfX, hkX, -, -, S1, st1⟩ := S0.newCold hexec (own := own) (C := X) (index := ik) (n := 6) hown1 (vx_ot_at w0 e1.symm g1 hk) (hA _ (by simp [zt_A])) (vx_ot_at w0 e1.symm g2 hini)
    (g := F0 m pc ls rest) rfl (by rw [hb]; exact d0) (Nat.le_refl _) (Nat.le_refl _)
  generalize hT1 : (T.setVm v1).pushCell { cls := cX, slots := kX.instanceTypes.map defaultValue, vm := .none } = T1 at S1 st1
  have hcell : T1.heap[T.heap.size]? = some (freshCell cX kX) := by rw [← hT1]; exact State.heap_pushCell_size _ _
  have d3' : decode c.code (pc + 3) = .ok (.dup, 1) := by rw [hb]; exact d3
  have d4' : decode c.code (pc + 4) = .ok (.ldc is, 2) := by rw [hb]; exact d4
  have hstr1 : vk_R own is text sa u := vk_R.warm w0 hstr
  obtain ⟨U, hsteps, hrun, hend, hW, hsame, ce, hce, hv, hcc⟩ := zt_ctor S1 hexec htr (own := own) (X := X) (Y := Y) (r := r) (ic := ic) hown1 hX hY hr hA rfl hfX hkX hcell (by rw [e2, hT]; exact Nat.le_refl _) (sa := sa) (pc := pc + 6) (ls := ls) (rest := rest) hsize (by rw [hb]; exact d6) (by rw [hb]; exact d9) hout hF hL hlocks
  obtain ⟨f1, f2⟩ := vx_frame hsame
  rw [e2] at f1 f2
  have hWs : s.WarmedH U.vm := State.WarmedH.trans w0 hW
  have hcl : s.vm.findClass X = some ce.cls := by rw [hcc, ← e1]; exact hfX
  have hall : s.sameButNew ({ U with vm := s.vm } : State) locs mc ms := by
    subst hu
    obtain ⟨z1, z2⟩ := hsame
    rw [State.setFrames_setFrames] at z1
    have z3 : (T.setVm s.vm).sameButNew ({ U with vm := s.vm } : State) [] (0 + 1) (0 + 6) := ⟨z1, z2⟩
    have z4 := S.same.trans z3
    rw [List.append_nil] at z4
    exact z4.mono hc hs
  refine ⟨U, ?_, .threw T.heap.size, hrun, hend, Or.inr ⟨T.heap.size, rfl, X, ce, locs, hx U hWs.alike f1 (fun q hq => f2 q hq (fun z hz => nomatch hz)), hce, hv, hcl, hWs, hall, hf⟩⟩
  refine st1 _ ?_
  show Steps p.tables e below (T1.setTop { method := m, pc := pc + 3, locals := ls, stack := .ref T.heap.size :: rest, locked := none }) _
  jvm_step S1.here [S1.here.top, hexec, d3', Value.category]
  exact S1.ldcString hexec (own := own) (text := text) (index := is) (a := sa) hown1 hstr1.1 hstr1.2
    (g := { method := m, pc := pc + 4, locals := ls, stack := .ref T.heap.size :: .ref T.heap.size :: rest, locked := none }) rfl d4' _ hsteps
end
/-- the throws' instructions -/
def zz_thc (nm : zz_NM) (r : Nat × zz_I) : Bool := match r with
  | (pc, i, np, a, b, k) => match i with
    | .new _ => Nat.beq b 0 || (decide (nm.1.cls = "NeedleShop") && zz_ic5.contains (k.toNatClampNeg, a) && decide (decode nm.2.1 (pc + 3) = .ok (.dup, 1)) && (zz_sk.contains (nm.1.cls, np) && (Nat.beq b 1 || !Nat.beq a 3)) && (bif Nat.beq b 1 then (decide (decode nm.2.1 (pc + 4) = .ok (.ldc np, 2)) && decide (decode nm.2.1 (pc + 6) = .ok (.invokespecial k.toNatClampNeg, 3)) && decide (decode nm.2.1 (pc + 9) = .ok (.athrow, 1))) else (decide (decode nm.2.1 (pc + 4) = .ok (.ldc_w np, 3)) && decide (decode nm.2.1 (pc + 7) = .ok (.invokespecial k.toNatClampNeg, 3)) && decide (decode nm.2.1 (pc + 10) = .ok (.athrow, 1)))))
    | _ => true
def zz_thcs : List zz_M → List zz_NM → Bool
  | m :: ms, n :: ns => m.1.all (zz_thc n) && zz_thcs ms ns
  | _, _ => true
theorem zz_thcs_ok : zz_thcs zz_P zz_N = true := by decide +kernel
theorem zz_thcs_at : ∀ (P : List zz_M) (N : List zz_NM), zz_thcs P N = true → ∀ (k : Nat) (m0 : zz_M) (nm : zz_NM), P[k]? = some m0 → N[k]? = some nm → m0.1.all (zz_thc nm) = true
  | [], _, _, k, m0, nm, h1, _ => by simp at h1
  | m :: ms, [], h, k, m0, nm, _, h2 => by simp at h2
  | m :: ms, n :: ns, h, k, m0, nm, h1, h2 => by
    rw [zz_thcs, Bool.and_eq_true] at h
    cases k with
    | zero =>
      cases h1
      cases h2
      exact h.1
    | succ k => exact zz_thcs_at ms ns h.2 k m0 nm (by simpa using h1) (by simpa using h2)
set_option maxHeartbeats 1000000 in
theorem zz_throws (hrows : zz_rowsOk) (l : Launch) (hl : l.stackTraces = false) (D : va_G) (cI cZ cL cS : ClassId) (b base : Nat) (sa : Nat → Nat) (L0 : Nat) (xs0 : Nat → Int32) : zz_ThrRule l D cI cZ cL cS b base sa L0 xs0 := by
  intro k m0 nm hm hn pc ix np a b' kc hmem hb0 p e R s mid args below meth c hC hnil st h H locs cells slots mc ms ls hR hls hS hf hlo hw8 hce hsl hmc hms
  obtain ⟨hexec, hb, hml, hret, hlocks, hname, htab, hown, hts, hG⟩ := hC
  have hth := List.all_eq_true.mp (zz_thcs_at zz_P zz_N zz_thcs_ok k m0 nm hm hn) _ hmem
  obtain ⟨hdec, hword⟩ := hrows k m0 nm hm hn _ hmem
  have hth : (Nat.beq b' 0 || (decide (nm.1.cls = "NeedleShop") && zz_ic5.contains (kc.toNatClampNeg, a) && decide (decode nm.2.1 (pc + 3) = .ok (.dup, 1)) && (zz_sk.contains (nm.1.cls, np) && (Nat.beq b' 1 || !Nat.beq a 3)) && (bif Nat.beq b' 1 then (decide (decode nm.2.1 (pc + 4) = .ok (.ldc np, 2)) && decide (decode nm.2.1 (pc + 6) = .ok (.invokespecial kc.toNatClampNeg, 3)) && decide (decode nm.2.1 (pc + 9) = .ok (.athrow, 1))) else (decide (decode nm.2.1 (pc + 4) = .ok (.ldc_w np, 3)) && decide (decode nm.2.1 (pc + 7) = .ok (.invokespecial kc.toNatClampNeg, 3)) && decide (decode nm.2.1 (pc + 10) = .ok (.athrow, 1)))))) = true := hth
  rw [Bool.or_eq_true] at hth
  have hth := hth.resolve_left (fun z => hb0 (zz_beq.mp z))
  rw [Bool.and_eq_true, Bool.and_eq_true, Bool.and_eq_true, Bool.and_eq_true, Bool.and_eq_true, decide_eq_true_eq, decide_eq_true_eq] at hth
  obtain ⟨⟨⟨⟨hcl, hic⟩, hd3⟩, hsk, hb13⟩, hrest⟩ := hth
  have hic : (kc.toNatClampNeg, a) ∈ zz_ic5 := List.contains_iff_mem.mp hic
  have hsk : (nm.1.cls, np) ∈ zz_sk := List.contains_iff_mem.mp hsk
  obtain ⟨j9, hj9⟩ := List.getElem?_of_mem hsk
  have hstr := (hG.2.2.2.2.2.1 j9 _ _ hj9).1
  have hlk : Cond.classLink nm.1.cls ix (zz_ex a) ∈ zz_ws := zz_wm (by
    obtain ⟨n9, e9⟩ := hword
    refine ⟨n9, by rw [e9]; show Cond.classLink _ _ (bif Nat.beq b' 0 then _ else zz_ex a) = _; rw [show Nat.beq b' 0 = false by rw [← Bool.not_eq_true]; exact fun z => hb0 (zz_beq.mp z)]; rfl⟩) (fun e => by cases e) rfl
  have ha5 : a < 5 := by
    have : ∀ q ∈ zz_ic5, q.2 < 5 := by decide
    exact this _ hic
  have hout : ∀ n : Nat, ∀ x ∈ c.exceptionTable.toList, covers x n = false := by rw [htab, hnil]; intro n x hx9; cases hx9
  have hsum : ((st.map (zz_tr (zz_ra b base sa))).map fun v => v.category).sum ≤ 8 := by rw [zz_words_tr]; exact hw8
  have hxc : ∀ t : State, s.vm.Alike t.vm → H.size ≤ t.heap.size → (∀ q : Nat, q < H.size → t.heap[q]? = H[q]?) → zz_XC D cI cZ cL cS b base sa L0 xs0 (.inr a) (h.1, h.2.1, h.2.2.1, h.2.2.2.1, h.2.2.2.2 + 1) (zz_ex a) s t := by
    intro t _ hz hq
    obtain ⟨k1, k2, k3, k4, k5, k6⟩ := hR
    refine ⟨a, rfl, ha5, rfl, ⟨k1, k2, k3, Nat.le_trans k4 (Nat.add_le_add_right hz 1), fun z => absurd z (Nat.succ_ne_zero _), fun a9 t9 h9 ht9 => (k6 a9 t9 h9 ht9).kept (hq _ (k6 a9 t9 h9 ht9).lt) (fun _ => rfl) (fun _ => rfl) (fun _ => rfl)⟩, Nat.le_trans hS.1 hz, fun q q1 q2 => ?_⟩
    rw [hq q (Nat.lt_of_lt_of_le q1 hS.1)]
    exact hS.2.1 q q1 q2
  obtain ⟨cX, kX, hfX, -⟩ := Cond.instantiable_spec (hts _ (zz_w5_ins _ hic))
  have hfX : s.vm.findClass (zz_ex a) = some cX := hfX
  by_cases h3 : a = 3
  · subst h3
    have hk9 : kc.toNatClampNeg = 169 := by
      have : ∀ q ∈ zz_ic5, q.2 = 3 → q.1 = 169 := by decide
      exact this _ hic rfl
    have hb1 : Nat.beq b' 1 = true := by
      cases hq : Nat.beq b' 1 with
      | true => rfl
      | false => rw [hq] at hb13; cases hb13
    rw [hb1, hk9] at hrest
    have hrest : (decide (decode nm.2.1 (pc + 4) = .ok (.ldc np, 2)) && decide (decode nm.2.1 (pc + 6) = .ok (.invokespecial 169, 3)) && decide (decode nm.2.1 (pc + 9) = .ok (.athrow, 1))) = true := hrest
    rw [Bool.and_eq_true, Bool.and_eq_true, decide_eq_true_eq, decide_eq_true_eq, decide_eq_true_eq] at hrest
    obtain ⟨⟨d4, d6⟩, d9⟩ := hrest
    have hot := zt_W_ot
    rw [Bool.and_eq_true, Bool.and_eq_true, Bool.and_eq_true] at hot
    obtain ⟨hot, f1, f2, f3⟩ := hot
    have hin : ∀ w ∈ zt_W, w.before args s = true := fun w hw => zz_dz_ok (E := zt_X) hfX hts (List.all_eq_true.mp zt_W_in w hw)
    have hot : ∀ w ∈ zt_W, vx_ot w = true := List.all_eq_true.mp hot
    have ht : ∀ w ∈ (zt_A nm.1.cls 169 zt_X "java/lang/RuntimeException" ["java/lang/Exception"]).filter vx_no, w ∈ zt_W := by
      rw [hcl]
      intro w hw
      exact List.mem_cons_of_mem _ hw
    exact zt_throw (X := zt_X) (Y := "java/lang/RuntimeException") (r := ["java/lang/Exception"]) hexec hb hl hown f1 f2 (by intro n hn; rw [List.mem_singleton.mp hn]; exact f3) (hts _ hlk) (hin _ List.mem_cons_self) hstr (fun w hw => hin w (ht w hw)) rfl (hot _ List.mem_cons_self) (fun w hw => hot w (ht w hw)) hG.2.1 hG.2.2.1 hS (by rw [hml]; exact hls) hdec hd3 d4 d6 d9 (hout _) (by show 1 + 4 < _; omega) (by show _ + 1 + (13 * (1 + 2) + 42) ≤ _; omega) hce hsl hlocks hxc hS.2.2 (by omega) (by omega)
  · have hic4 : (kc.toNatClampNeg, a) ∈ zz_ic4 := by
      have : ∀ q ∈ zz_ic5, q.2 ≠ 3 → q ∈ zz_ic4 := by decide
      exact this _ hic h3
    have hin := List.all_eq_true.mp zz_w5_in _ hic4
    have hot := List.all_eq_true.mp zz_w5_ot _ hic4
    dsimp only at hin hot
    rw [Bool.and_eq_true, Bool.and_eq_true] at hot
    obtain ⟨hot, hfit, hfits⟩ := hot
    have hwd : ∀ w ∈ zz_w5 (kc.toNatClampNeg, a), w.before args s = true := fun w hw => zz_dz_ok hfX hts (List.all_eq_true.mp hin w hw)
    have hot2 : ∀ w ∈ Cond.classLink nm.1.cls ix (zz_ex a) :: Cond.initialized (zz_ex a) :: vx_atS nm.1.cls kc.toNatClampNeg (zz_ex a) zz_nm2, vx_ot w = true := by
      intro w hw
      rcases List.mem_cons.mp hw with e9 | hw
      · rw [e9]; rfl
      · refine List.all_eq_true.mp hot w ?_
        rcases List.mem_cons.mp hw with e9 | hw
        · rw [e9]; exact List.mem_cons_self
        · rw [hcl] at hw; exact List.mem_cons_of_mem _ (List.mem_cons_of_mem _ hw)
    have hat : ∀ w ∈ vx_atS nm.1.cls kc.toNatClampNeg (zz_ex a) zz_nm2, w.before args s = true := by
      intro w hw
      rw [hcl] at hw
      exact hwd w (List.mem_cons_of_mem _ (List.mem_cons_of_mem _ hw))
    cases hb1 : Nat.beq b' 1 with
    | true =>
      rw [hb1] at hrest
      have hrest : (decide (decode nm.2.1 (pc + 4) = .ok (.ldc np, 2)) && decide (decode nm.2.1 (pc + 6) = .ok (.invokespecial kc.toNatClampNeg, 3)) && decide (decode nm.2.1 (pc + 9) = .ok (.athrow, 1))) = true := hrest
      rw [Bool.and_eq_true, Bool.and_eq_true, decide_eq_true_eq, decide_eq_true_eq, decide_eq_true_eq] at hrest
      obtain ⟨⟨d4, d6⟩, d9⟩ := hrest
      exact vx_throwS hexec hb hl hown hfit (List.all_eq_true.mp hfits) (hts _ hlk) (hwd _ List.mem_cons_self) hstr hat hot2 hG.2.1 hG.2.2.1 hS (by rw [hml]; exact hls) hdec hd3 d4 d6 d9 (hout _) (by show 2 + 3 < _; omega) (by show _ + (13 * (2 + 1) + 43) ≤ _; omega) hce hsl hlocks hxc hS.2.2 (by omega) (by omega)
    | false =>
      rw [hb1] at hrest
      have hrest : (decide (decode nm.2.1 (pc + 4) = .ok (.ldc_w np, 3)) && decide (decode nm.2.1 (pc + 7) = .ok (.invokespecial kc.toNatClampNeg, 3)) && decide (decode nm.2.1 (pc + 10) = .ok (.athrow, 1))) = true := hrest
      rw [Bool.and_eq_true, Bool.and_eq_true, decide_eq_true_eq, decide_eq_true_eq, decide_eq_true_eq] at hrest
      obtain ⟨⟨d4, d7⟩, d10⟩ := hrest
      exact vx_throwSW hexec hb hl hown hfit (List.all_eq_true.mp hfits) (hts _ hlk) (hwd _ List.mem_cons_self) hstr hat hot2 hG.2.1 hG.2.2.1 hS (by rw [hml]; exact hls) hdec hd3 d4 d7 d10 (hout _) (by show 2 + 3 < _; omega) (by show _ + (13 * (2 + 1) + 43) ≤ _; omega) hce hsl hlocks hxc hS.2.2 (by omega) (by omega)
