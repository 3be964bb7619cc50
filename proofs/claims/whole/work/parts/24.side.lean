/-! SIDE CHECKS of the rows, and the words of the methods. -/
def zz_ws : List Jvm.Cond := lw_tbl.filter goodWord
theorem zz_ws_of {n : Nat} {w : Jvm.Cond} (h : zz_lk n = w) (ht : w ≠ .tt) (hg : goodWord w = true) : w ∈ zz_ws := by
  unfold zz_lk at h
  cases hb : Nat.beq n 9999 with
  | true => rw [hb] at h; exact absurd h.symm ht
  | false =>
    rw [hb] at h
    have h1 : lw_tbl.getD n .tt = w := h
    rw [List.getD_eq_getElem?_getD] at h1
    cases hn : lw_tbl[n]? with
    | none => rw [hn] at h1; exact absurd h1.symm ht
    | some x =>
      rw [hn] at h1
      have e : x = w := h1
      subst e
      exact List.mem_filter.mpr ⟨List.mem_of_getElem? hn, hg⟩
theorem zz_ws_good : GoodIn zz_ws zz_ws := fun w hw => ⟨hw, good_of_word (List.mem_filter.mp hw).2⟩
def zz_nfa (c : Nat) : Nat := match vwCl[c]? with
  | some q => q.2.2
  | none => 0
def zz_recv (i : Instr) : Nat := match i with
  | .invokestatic _ => 0
  | _ => 1
/-- what a called method must be -/
def zz_calls (i : Instr) (a b : Nat) : Bool := match zz_N[a]? with
  | some q => decide ((parseMethodDescriptor q.1.desc).map (fun d => d.parameters.length) = some (b - zz_recv i)) && Nat.ble (zz_recv i) b && (match i with
    | .invokestatic _ => q.2.2.2.2.2
    | .invokespecial _ => !q.2.2.2.2.2 && decide (q.1.name = "<init>") && decide (q.2.2.2.1 = none)
    | _ => !q.2.2.2.2.2 && !decide (q.1.name = "<init>") && decide (q.2.2.2.2.1 = []))
  | none => false
def zz_sid (nm : zz_NM) (r : Nat × zz_I) : Bool := match r with
  | (pc, i, np, a, b, k) => match i with
    | .iconst n => Nat.beq np (pc + 1) && decide (Int32.ofInt n = k)
    | .bipush n => Nat.beq np (pc + 2) && decide ((Int8.ofInt n).toInt32 = k)
    | .sipush n => Nat.beq np (pc + 3) && decide ((Int16.ofInt n).toInt32 = k)
    | .ldc _ => Nat.beq np (pc + 2) && (Nat.beq b 0 || Nat.blt a 70)
    | .ldc_w _ => Nat.beq np (pc + 3) && Nat.beq b 0
    | .ldc2_w _ => Nat.beq np (pc + 3)
    | .lconst n => Nat.beq np (pc + 1) && Nat.beq n.val a
    | .iload_n n => Nat.beq np (pc + 1) && Nat.beq n.val a
    | .aload_n n => Nat.beq np (pc + 1) && Nat.beq n.val a
    | .lload_n n => Nat.beq np (pc + 1) && Nat.beq n.val a
    | .iload n => Nat.beq np (pc + 2) && Nat.beq n a
    | .aload n => Nat.beq np (pc + 2) && Nat.beq n a
    | .lload n => Nat.beq np (pc + 2) && Nat.beq n a
    | .istore_n n => Nat.beq np (pc + 1) && Nat.beq n.val a && Nat.blt a nm.2.2.1
    | .astore_n n => Nat.beq np (pc + 1) && Nat.beq n.val a && Nat.blt a nm.2.2.1
    | .lstore_n n => Nat.beq np (pc + 1) && Nat.beq n.val a && Nat.blt (a + 1) nm.2.2.1
    | .istore n => Nat.beq np (pc + 2) && Nat.beq n a && Nat.blt a nm.2.2.1
    | .astore n => Nat.beq np (pc + 2) && Nat.beq n a && Nat.blt a nm.2.2.1
    | .lstore n => Nat.beq np (pc + 2) && Nat.beq n a && Nat.blt (a + 1) nm.2.2.1
    | .iinc i n => Nat.beq np (pc + 3) && Nat.beq i a && Nat.blt a nm.2.2.1 && decide (Int32.ofInt n = k)
    | .ifCond _ o => Nat.beq np (pc + 3) && decide ((pc : Int) + o = (a : Int))
    | .if_icmp _ o => Nat.beq np (pc + 3) && decide ((pc : Int) + o = (a : Int))
    | .goto o => Nat.beq np (pc + 3) && decide ((pc : Int) + o = (a : Int))
    | .tableswitch df _ _ offs => decide (0 ≤ (pc : Int) + df) && offs.toList.all (fun o => decide (0 ≤ (pc : Int) + o))
    | .getfield _ => Nat.beq np (pc + 3) && Nat.blt a 7 && Nat.blt b (zz_nfa a) && decide (k = Int32.ofNat (zz_kd a b))
    | .putfield _ => Nat.beq np (pc + 3) && Nat.blt a 7 && Nat.blt b (zz_nfa a) && decide (k = Int32.ofNat (zz_kd a b)) && (!(zz_fd a b).2.2.2 || (decide ((zz_fd a b).1 = nm.1.cls) && decide (nm.1.name = "<init>")))
    | .newarray t => Nat.beq np (pc + 2) && (match t with
      | .int => Nat.beq a 100
      | .boolean => Nat.beq a 101
      | .long => Nat.beq a 102
      | _ => false)
    | .anewarray _ => Nat.beq np (pc + 3)
    | .new _ => bif Nat.beq b 0 then Nat.beq np (pc + 3) && Nat.blt a 7 else Nat.blt a 5
    | .invokevirtual _ => Nat.beq np (pc + 3) && (bif Nat.blt a 1000 then zz_calls i a b else (Nat.beq a 1002 || Nat.beq a 1003))
    | .invokespecial _ => Nat.beq np (pc + 3) && (bif Nat.blt a 1000 then zz_calls i a b else Nat.beq a 1000)
    | .invokestatic _ => Nat.beq np (pc + 3) && (bif Nat.blt a 1000 then zz_calls i a b else Nat.beq a 1001)
    | .ireturn => bif decide (k = 0) then decide (nm.2.2.2.1 = some .int) else decide (nm.2.2.2.1 = some .boolean)
    | .lreturn => decide (nm.2.2.2.1 = some .long)
    | .areturn => decide (nm.2.2.2.1 = some (.object "java/lang/String"))
    | .return_ => decide (nm.2.2.2.1 = none)
    | _ => Nat.beq np (pc + 1)
def zz_sids : List zz_M → List zz_NM → Bool
  | [], [] => true
  | m :: ms, n :: ns => (m.1.all (zz_sid n) && Nat.beq m.2.1 n.2.2.1 && Nat.blt n.2.2.1 45 && plainFor n.1 && !decide (n.1.cls = "java/lang/invoke/MethodHandle") && !decide (n.1.cls = "java/lang/invoke/VarHandle") && Nat.beq m.2.2.length n.2.2.2.2.1.length) && zz_sids ms ns
  | _, _ => false
def zz_cw (nm : zz_NM) : Jvm.Cond := match nm.2.2.2.2.1 with
  | [] => .code nm.1 nm.2.1 nm.2.2.1 nm.2.2.2.1
  | q :: r => .codeWith nm.1 nm.2.1 nm.2.2.1 nm.2.2.2.1 (q :: r)
def zz_mw (nm : zz_NM) : List Jvm.Cond := [zz_cw nm, .initialized nm.1.cls] ++ (bif nm.2.2.2.2.2 then [.static nm.1] else bif nm.1.name == "<init>" then [.instanceMethod nm.1] else [.instanceMethod nm.1, .selects nm.1.cls nm.1 nm.1])
theorem zz_mw_of {nm : zz_NM} {ns : List Nat} (h : ns.map zz_lk = zz_mw nm) : ∀ w ∈ zz_mw nm, w ∈ zz_ws := by
  intro w hw
  have hw' := hw
  rw [← h] at hw'
  obtain ⟨n, -, hn⟩ := List.mem_map.mp hw'
  have key : w ≠ .tt ∧ goodWord w = true := by
    unfold zz_mw at hw
    rcases List.mem_append.mp hw with h1 | h1
    · rcases List.mem_cons.mp h1 with h2 | h2
      · subst h2
        unfold zz_cw
        split <;> exact ⟨(fun e => by cases e), rfl⟩
      · rw [List.mem_singleton.mp h2]
        exact ⟨(fun e => by cases e), rfl⟩
    · cases h3 : nm.2.2.2.2.2 with
      | true => rw [h3] at h1; rw [List.mem_singleton.mp h1]; exact ⟨(fun e => by cases e), rfl⟩
      | false =>
        rw [h3] at h1
        cases h4 : (nm.1.name == "<init>") with
        | true => rw [h4] at h1; rw [List.mem_singleton.mp h1]; exact ⟨(fun e => by cases e), rfl⟩
        | false =>
          rw [h4] at h1
          rcases List.mem_cons.mp h1 with h2 | h2
          · subst h2; exact ⟨(fun e => by cases e), rfl⟩
          · rw [List.mem_singleton.mp h2]; exact ⟨(fun e => by cases e), rfl⟩
  exact zz_ws_of hn key.1 key.2
