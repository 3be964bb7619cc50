/-! The catch of an exception by a row of the method's own table whose class may not be resolved yet, behind rows that name other classes. -/
section ZC
variable {p : Program} {l : Launch} {e : Env} {R : Room} {s : State} {m : MethodId} {args : Array Value} {below : List Frame} {meth : Method} {c : Code} {H : Heap} {locs : List Loc} {cells slots : Nat} {Q : State → Prop}
/-- a row that covers, cold or warm: it takes the object, or the search goes on; the tables note the class -/
theorem zc_row {T : State} {f : JFrame} {a : Addr} {x : ExceptionTableEntry} {t : List ExceptionTableEntry} {k : ClassId} {ce : Cell} (hx : covers x f.pc = true) (h0 : x.catchType ≠ 0) (hl : T.vm.ClassLinks e.platform f.method.cls x.catchType k)
    (hcell : T.heap[a]? = some ce) (hv : ∀ z, ce.vm ≠ .statics z) (h1 : ∃ z, T.vm.classes[ce.cls]? = some z) (h2 : ∃ z, T.vm.classes[k]? = some z) (P : Handler → Pre) (E : CtlPost) (d : Bool) (acts : List Action) :
    wp (findHandler.go f a (x :: t)) P E e d acts T ↔ (if T.vm.assignable ce.cls k = true then P (.found x.handlerPc) d acts (T.setVm (T.vm.noted f.method.cls x.catchType (.cls k))) else wp (findHandler.go f a t) P E e d acts (T.setVm (T.vm.noted f.method.cls x.catchType (.cls k)))) := by
  have hx' := hx
  simp only [covers] at hx'
  obtain ⟨ha, ht⟩ := (resolveClass_links e.toSetting hl).op (op := VmOp.resolveClass f.method.cls x.catchType) rfl
  have hal : T.vm.Alike (T.vm.noted f.method.cls x.catchType (.cls k)) := (Vm.Alike.refl T.vm).noted _ _ _
  obtain ⟨z1, hz1⟩ := h1
  obtain ⟨z2, hz2⟩ := h2
  obtain ⟨y1, hy1, -⟩ := hal.2.2 _ _ hz1
  obtain ⟨y2, hy2, -⟩ := hal.2.2 _ _ hz2
  have has : (T.vm.noted f.method.cls x.catchType (.cls k)).assignable ce.cls k = T.vm.assignable ce.cls k := hal.assignable ..
  cases hfit : T.vm.assignable ce.cls k <;> rw [hfit] at has <;> simp [findHandler.go, hx', h0, ha, ht, hcell, hv, hy1, hy2, has, VmOp.dirties, VmOp.acts]
/-- the search through a list of rows, to the one that takes the object -/
theorem zc_list {f : JFrame} {a : Addr} {ce : Cell} {s0 : State} (hv : ∀ z, ce.vm ≠ .statics z) (h1 : ∃ z, s0.vm.classes[ce.cls]? = some z) (x : ExceptionTableEntry) (suf : List ExceptionTableEntry) (hx : covers x f.pc = true) (h0 : x.catchType ≠ 0)
    (hk : ∃ k, s0.vm.ClassLinks e.platform f.method.cls x.catchType k ∧ s0.vm.assignable ce.cls k = true) :
    ∀ (pre : List ExceptionTableEntry), (∀ z ∈ pre, covers z f.pc = true ∧ z.catchType ≠ 0 ∧ ∃ k, s0.vm.ClassLinks e.platform f.method.cls z.catchType k ∧ s0.vm.assignable ce.cls k = false) →
      ∀ (T : State), s0.WarmedH T.vm → T.heap[a]? = some ce → ∃ vm', s0.WarmedH vm' ∧ ∀ (P : Handler → Pre) (E : CtlPost) (d : Bool) (acts : List Action), wp (findHandler.go f a (pre ++ x :: suf)) P E e d acts T ↔ P (.found x.handlerPc) d acts (T.setVm vm') := by
  obtain ⟨z1, hz1⟩ := h1
  have step : ∀ (y : ExceptionTableEntry) (k : ClassId), s0.vm.ClassLinks e.platform f.method.cls y.catchType k → ∀ (T : State), s0.WarmedH T.vm → s0.WarmedH (T.vm.noted f.method.cls y.catchType (.cls k)) ∧ T.vm.ClassLinks e.platform f.method.cls y.catchType k ∧ (∃ z, T.vm.classes[ce.cls]? = some z) ∧ (∃ z, T.vm.classes[k]? = some z) ∧ T.vm.assignable ce.cls k = s0.vm.assignable ce.cls k := by
    intro y k hl T hW
    obtain ⟨dk, _, _, kt, hd, _, _, _, _, hkt, _, hopen⟩ := hl.here
    obtain ⟨y1, hy1, -⟩ := hW.alike.2.2 _ _ hz1
    obtain ⟨y2, hy2, -⟩ := hW.alike.2.2 _ _ hkt
    exact ⟨hW.noted hd hopen (State.rightAt_cls hl), hW.classLinks hl, ⟨y1, hy1⟩, ⟨y2, hy2⟩, hW.alike.assignable ..⟩
  intro pre
  induction pre with
  | nil =>
    intro _ T hW hcell
    obtain ⟨k, hl, hfit⟩ := hk
    obtain ⟨a1, a2, a3, a4, a5⟩ := step x k hl T hW
    refine ⟨_, a1, fun P E d acts => ?_⟩
    rw [List.nil_append, zc_row hx h0 a2 hcell hv a3 a4, if_pos (a5.trans hfit)]
  | cons y ys ih =>
    intro hp T hW hcell
    obtain ⟨b1, b2, k, hl, hno⟩ := hp y List.mem_cons_self
    obtain ⟨a1, a2, a3, a4, a5⟩ := step y k hl T hW
    obtain ⟨vm', hW', hq⟩ := ih (fun z hz => hp z (List.mem_cons_of_mem _ hz)) (T.setVm (T.vm.noted f.method.cls y.catchType (.cls k))) a1 hcell
    refine ⟨vm', hW', fun P E d acts => ?_⟩
    rw [List.cons_append, zc_row b1 b2 a2 hcell hv a3 a4, if_neg (by rw [a5, hno]; exact Bool.false_ne_true)]
    exact hq P E d acts
theorem zc_catch {pc : Nat} {ls : Array Slot} {rest : List Value} {own name : String} {E : String} {ce : Cell} {q : Addr} (hown : s.vm.findClass own = some m.cls) (pre : List ExceptionTableEntry) (x : ExceptionTableEntry) (suf : List ExceptionTableEntry) (hsplit : c.exceptionTable.toList = pre ++ x :: suf)
    (hpass : ∀ z ∈ pre, covers z pc = true ∧ z.catchType ≠ 0 ∧ ∃ nm : String, (Cond.classLink own z.catchType nm).before args s = true ∧ va_Nc E nm s) (hx : covers x pc = true) (h0 : x.catchType ≠ 0)
    (hlink : (Cond.classLink own x.catchType name).before args s = true) (hcast : (Cond.castable E name).before args s = true) (hcell : H[q]? = some ce) (hv : ce.vm = .none) (hcl : s.vm.findClass E = some ce.cls)
    (kk : W p l e R s m args below meth c H locs cells slots Q (F0 m x.handlerPc ls [.ref q])) : vx_W p l e R s m args below meth c H locs cells slots Q (F0 m pc ls rest) q := by
  intro T hT X
  have hpl : e.platform.magicAccessors = ({} : Platform).magicAccessors := by rw [X.admits.platform]
  obtain ⟨c3, c4, hc3, hc4, hasg⟩ := Cond.castable_spec hcast
  cases Option.some.inj (hc3.symm.trans hcl)
  obtain ⟨c5, hc5, hcl5⟩ := Cond.classLink_spec hown hlink e.platform hpl
  cases Option.some.inj (hc4.symm.trans hc5)
  have hcellT : ((T.setTop (F0 m pc ls rest)).pushFrame (.throwing q)).heap[q]? = some ce := by
    rw [Stand.throwing_heap, hT]; exact hcell
  have hWT : s.WarmedH ((T.setTop (F0 m pc ls rest)).pushFrame (.throwing q)).vm := by rw [Stand.throwing_vm]; exact X.warmed
  obtain ⟨vm', hW', hq⟩ := zc_list (e := e) (f := F0 m pc ls rest) (a := q) (ce := ce) (s0 := s) (fun z h => by rw [hv] at h; cases h) (by obtain ⟨k9, h9, -⟩ := Vm.findClass_spec hcl; exact ⟨k9, h9⟩) x suf hx h0 ⟨_, hcl5, hasg⟩ pre
    (fun z hz => by
      obtain ⟨b1, b2, nm, hl1, hn1⟩ := hpass z hz
      obtain ⟨c6, hc6, hcl6⟩ := Cond.classLink_spec hown hl1 e.platform hpl
      obtain ⟨a8, b8, h1, h2, h3⟩ := hn1
      cases Option.some.inj (h1.symm.trans hcl)
      cases Option.some.inj (h2.symm.trans hc6)
      exact ⟨b1, b2, _, hcl6, h3⟩) _ hWT hcellT
  have X' := X.noted hW'
  obtain ⟨t, a1, b1⟩ := kk (T.setVm vm') hT X'
  refine ⟨t, ?_, b1⟩
  have h := X.here
  obtain ⟨hgo, hw⟩ := At.throwing (g := F0 m pc ls rest) h q
  refine Steps.head hgo hw ?_
  have hfind : ∀ (P : Handler → Pre) (E : CtlPost) (d : Bool) (acts : List Action), wp (findHandler (F0 m pc ls rest) q) P E e d acts ((T.setTop (F0 m pc ls rest)).pushFrame (.throwing q)) ↔ P (.found x.handlerPc) d acts (((T.setTop (F0 m pc ls rest)).pushFrame (.throwing q)).setVm vm') := by
    intro P E d acts
    rw [W.findHandler_eq (meth := meth) (code := c) (by rw [Stand.throwing_vm]; exact X.method') X.code, hsplit]
    exact hq P E d acts
  have hst : (stepThrowing e ((T.setTop (F0 m pc ls rest)).pushFrame (.throwing q)) q (.java (F0 m pc ls rest) :: below)).1 = ((((T.setTop (F0 m pc ls rest)).pushFrame (.throwing q)).setVm vm').setFrames (.java { (F0 m pc ls rest) with pc := x.handlerPc, stack := [.ref q] } :: below)) := by
    simp only [stepThrowing, searchFrame, vmDo]
    generalize hr : Sem.go _ e false [] _ = res
    obtain ⟨as, rfl, ha⟩ := Sem.eq_ok_of hr (a := Handler.found x.handlerPc) (s' := ((T.setTop (F0 m pc ls rest)).pushFrame (.throwing q)).setVm vm') (acts' := []) (by simp [hfind _ _ _ _])
    rfl
  obtain ⟨g₀, hfr⟩ := X.frames_eq
  have hfr' : (T.setVm vm').frames = .java g₀ :: below := hfr
  rw [stepThread_throwing (frames_entered h.top _), hfr, List.tail_cons, hst]
  rw [State.setTop_of_frames _ hfr'] at a1
  rw [State.pushFrame, State.setTop_of_frames _ hfr]
  have e1 : ∀ (u : State) (F G : List Frame), ((u.setFrames F).setVm vm').setFrames G = (u.setVm vm').setFrames G := fun u F G => by
    show ((u.setVm vm').setFrames F).setFrames G = _
    rw [State.setFrames_setFrames]
  rw [State.setFrames_setFrames, e1]
  exact a1
end ZC
