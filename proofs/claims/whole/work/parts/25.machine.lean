def zz_find {α : Type} : List (Nat × α) → Nat → Option α
  | [], _ => none
  | q :: r, pc => bif Nat.beq q.1 pc then some q.2 else zz_find r pc
def zz_up {α : Type} (M : Nat → Nat → α) (q k : Nat) (x : α) : Nat → Nat → α := fun a i => bif Nat.beq a q then (bif Nat.beq i k then x else M a i) else M a i
def zz_row {α : Type} (M : Nat → Nat → α) (q : Nat) (f : Nat → α) : Nat → Nat → α := fun a i => bif Nat.beq a q then f i else M a i
def zz_rf (r : Option Nat) : Value := match r with
  | none => .null
  | some a => .ref a
def zz_in (i : Int32) (n : Nat) : Bool := !decide (i < 0) && decide (i.toNatClampNeg < n)
def zz_b01 (x : Int32) : Bool := decide (x = 0) || decide (x = 1)
def zz_ge8 : Nat → Bool
  | _ + 8 => true
  | _ => false
def zz_words : List Value → Nat
  | [] => 0
  | v :: r => v.category + zz_words r
def zz_pad : Nat → List (Option Value)
  | 0 => []
  | n + 1 => none :: zz_pad n
def zz_args : Nat → List Value → List (Option Value)
  | n, [] => zz_pad n
  | n + 2, .long v :: r => some (.long v) :: none :: zz_args n r
  | n + 2, .double _ :: r => none :: none :: zz_args n r
  | n + 1, v :: r => some v :: zz_args n r
  | 0, _ :: _ => []
def zz_hand : List (Nat × Nat × Nat × Nat) → Nat → Nat → Option Nat
  | [], _, _ => none
  | q :: r, pc, j => bif (Nat.ble q.1 pc && Nat.blt pc q.2.1) && Nat.beq q.2.2.2 j then some q.2.2.1 else zz_hand r pc j
def zz_get (L : List (Option Value)) (i : Nat) : Option Value := match L[i]? with
  | some (some v) => some v
  | _ => none
def zz_isL : Option (Option Value) → Bool
  | some (some (.long _)) => true
  | some (some (.double _)) => true
  | _ => false
/-- a store of one word: never into a long's second half -/
def zz_st1 (L : List (Option Value)) (i : Nat) (v : Value) : Option (List (Option Value)) := match i with
  | 0 => some (L.set 0 (some v))
  | j + 1 => bif zz_isL L[j]? then none else some (L.set (j + 1) (some v))
def zz_st2 (L : List (Option Value)) (i : Nat) (x : Int64) : Option (List (Option Value)) := match i with
  | 0 => some ((L.set 0 (some (.long x))).set 1 none)
  | j + 1 => bif zz_isL L[j]? then none else some ((L.set (j + 1) (some (.long x))).set (j + 2) none)
/-- an exception of kind j over a frame: a handler's first instruction lays it into a local -/
def zz_thrown (rec : zz_F → zz_H → Option zz_R) (m : zz_M) (d pc : Nat) (L : List (Option Value)) (j : Nat) (h : zz_H) : Option zz_R :=
  match zz_hand m.2.2 pc j with
  | none => bif Nat.beq m.2.2.length 0 then some (.inr j, h) else none
  | some hp => match zz_find m.1 hp with
    | some (.astore_n _, np, a, _, _) => match zz_st1 L a .null with
      | some _ => rec (m, d, np, L.set a none, []) h
      | none => none
    | some (.astore _, np, a, _, _) => match zz_st1 L a .null with
      | some _ => rec (m, d, np, L.set a none, []) h
      | none => none
    | _ => none
/-- a call's end in the caller -/
def zz_after (rec : zz_F → zz_H → Option zz_R) (m : zz_M) (d pc np : Nat) (L : List (Option Value)) (st : List Value) (r : Option zz_R) : Option zz_R :=
  match r with
  | some (.inl (some v), h) => rec (m, d, np, L, v :: st) h
  | some (.inl none, h) => rec (m, d, np, L, st) h
  | some (.inr j, h) => zz_thrown rec m d pc L j h
  | none => none
/-- the class of a method's receiver; 99: none -/
def zz_RC : List Nat := [99, 99, 99, 99, 99, 99, 99, 99, 99, 99, 99, 99, 99, 99, 99, 99, 99, 99, 4, 4, 4, 4, 4, 4, 4, 4, 4, 4, 4, 4, 4, 4, 4, 4, 4, 4, 4, 4, 99, 99, 99, 99, 99, 99, 3, 3, 3, 3, 3, 3, 3, 3, 3, 3, 3, 3, 3, 3, 3, 3, 3, 3, 3, 3, 3, 3, 3, 3, 3, 3, 3, 3, 3, 3, 3, 3, 3, 3, 3, 3, 0, 0, 0, 0, 0, 0, 0, 0, 0, 0, 0, 99, 1, 1, 1, 1, 1, 2, 2, 2, 2, 2, 2, 2, 2, 2, 2, 2, 2, 2, 99, 99, 99, 99, 99, 99, 99, 99, 99, 99, 99, 99, 99, 5, 5, 5, 5, 5, 5, 5, 5, 5, 5, 5, 5, 5, 5, 5, 5, 5, 5, 5, 5, 5, 5, 5, 5, 5, 5, 5, 5, 5, 5, 5, 5, 5, 5, 5, 5, 5, 5, 5, 5, 5, 5, 5, 5, 5, 5, 5, 5, 5, 5, 5, 5, 5, 5, 99, 99, 99, 99, 5, 5, 5, 5, 6, 6, 99, 99, 99, 99, 99, 6, 6, 6, 6, 99, 6, 6, 6, 6, 6, 6, 6, 6, 6, 6, 6, 6, 6, 6, 6, 6, 6, 6, 6, 6, 6, 6, 6, 6, 6, 6, 6, 6, 6, 6, 6, 6, 6, 6, 6, 6, 6, 6, 6, 6, 6, 6, 6, 6, 6, 6, 6, 6, 99, 99, 6, 6, 6, 6, 6, 6, 6, 6, 6, 6, 6, 6, 6, 6, 6, 6, 6, 6, 6, 6, 6, 6, 6, 6, 6, 99, 6, 6, 6, 6, 6, 6, 99, 6, 6, 6, 6, 6, 6, 6, 6, 6, 6, 6, 6, 6, 6, 6, 6, 99, 6, 6, 6, 6, 6, 6, 6, 6, 6, 6, 6, 6, 6, 6, 6, 6, 6, 6, 6, 6, 6, 6, 6, 6, 6, 6, 99, 99, 99, 99, 99, 99, 99, 99, 99, 99, 99, 99, 99, 99, 99, 99, 99, 99, 99, 99, 99, 99, 99, 99, 99, 99, 99, 99, 99, 99, 99, 99, 99, 99, 99]
def zz_rcv (h : zz_H) (st : List Value) (a b : Nat) : Bool := match st[b - 1]? with
  | some (.ref q) => (match h.1[q]? with
    | some (c, _) => Nat.beq c (zz_RC.getD a 99)
    | none => false)
  | _ => false
def zz_call (P : List zz_M) (rec : zz_F → zz_H → Option zz_R) (m : zz_M) (d pc np : Nat) (L : List (Option Value)) (st : List Value) (a b : Nat) (h : zz_H) : Option zz_R :=
  bif Nat.ble b st.length && Nat.ble (zz_words (st.drop b)) 8 then
    match d, P[a]? with
    | d' + 1, some m' => bif Nat.ble (zz_words (st.take b)) m'.2.1 then zz_after rec m d pc np L (st.drop b) (rec (m', d', 0, zz_args m'.2.1 (st.take b).reverse, []) h) else none
    | _, _ => none
  else none
/-- a constructor's call: it ends without a value -/
def zz_callI (P : List zz_M) (rec : zz_F → zz_H → Option zz_R) (m : zz_M) (d np : Nat) (L : List (Option Value)) (st : List Value) (a b : Nat) (h : zz_H) : Option zz_R :=
  bif Nat.ble b st.length && Nat.ble (zz_words (st.drop b)) 8 then
    match d, P[a]? with
    | d' + 1, some m' => bif Nat.ble (zz_words (st.take b)) m'.2.1 then
        match rec (m', d', 0, zz_args m'.2.1 (st.take b).reverse, []) h with
        | some (.inl none, h1) => rec (m, d, np, L, st.drop b) h1
        | _ => none
      else none
    | _, _ => none
  else none
def zz_cmp0 (c : ClassFile.Cond) (x : Int32) : Bool := match c with
  | .eq => decide (x = 0)
  | .ne => !decide (x = 0)
  | .lt => decide (x < 0)
  | .ge => decide (0 ≤ x)
  | .gt => decide (0 < x)
  | .le => decide (x ≤ 0)
def zz_cmp (c : ClassFile.Cond) (x y : Int32) : Bool := match c with
  | .eq => decide (x = y)
  | .ne => !decide (x = y)
  | .lt => decide (x < y)
  | .ge => decide (y ≤ x)
  | .gt => decide (y < x)
  | .le => decide (x ≤ y)
def zz_bin (i : Instr) (x y : Int32) : Option Int32 := match i with
  | .iadd => some (x + y)
  | .isub => some (x - y)
  | .imul => some (x * y)
  | .iand => some (x &&& y)
  | .ior => some (x ||| y)
  | .ixor => some (x ^^^ y)
  | .ishl => some (x <<< (y &&& 31))
  | .ishr => some (x >>> (y &&& 31))
  | .iushr => some (x.toUInt32 >>> (y.toUInt32 &&& Int32.toUInt32 31)).toInt32
  | _ => none
def zz_binL (i : Instr) (x y : Int64) : Option Int64 := match i with
  | .ladd => some (x + y)
  | .lsub => some (x - y)
  | .land => some (x &&& y)
  | .lor => some (x ||| y)
  | _ => none
/-- the texts' two methods, System.arraycopy, Object's constructor -/
def zz_prim (S : zz_T) (rec : zz_F → zz_H → Option zz_R) (m : zz_M) (d np : Nat) (L : List (Option Value)) (st : List Value) (a : Nat) (h : zz_H) : Option zz_R :=
  bif zz_ge8 d then
    match a, st with
    | 1000, .ref _ :: st' => bif Nat.ble (zz_words st') 8 then rec (m, d, np, L, st') h else none
    | 1001, .int n :: .int dp :: .ref q1 :: .int sp :: .ref q0 :: st' => match h.1[q0]?, h.1[q1]? with
      | some (100, n0), some (100, n1) => bif ((Nat.blt 0 q0 && Nat.blt 0 q1) && (decide (n = Int32.ofNat n0) && decide (n = Int32.ofNat n1))) && ((decide (sp = 0) && decide (dp = 0)) && (Nat.blt n0 100000 && Nat.beq n0 n1)) && Nat.ble (zz_words st') 8 then rec (m, d, np, L, st') (h.1, h.2.1, zz_row h.2.2.1 q1 (h.2.2.1 q0), h.2.2.2) else none
      | _, _ => none
    | 1002, .ref q :: st' => match S[q - 1000000]? with
      | some t => bif Nat.ble 1000000 q && Nat.ble (zz_words st') 8 then rec (m, d, np, L, .int (Int32.ofNat t.length) :: st') h else none
      | none => none
    | 1003, .int i :: .ref q :: st' => match S[q - 1000000]? with
      | some t => bif (Nat.ble 1000000 q && zz_in i t.length) && Nat.ble (zz_words st') 8 then rec (m, d, np, L, .int (t.getD i.toNatClampNeg 0) :: st') h else none
      | none => none
    | _, _ => none
  else none
/-- one instruction -/
def zz_step (P : List zz_M) (S : zz_T) (rec : zz_F → zz_H → Option zz_R) (fr : zz_F) (h : zz_H) : Option zz_R :=
  match fr with
  | (m, d, pc, L, st) => match zz_find m.1 pc with
    | none => none
    | some (i, np, a, b, k) => match i with
      | .iconst _ => rec (m, d, np, L, .int k :: st) h
      | .bipush _ => rec (m, d, np, L, .int k :: st) h
      | .sipush _ => rec (m, d, np, L, .int k :: st) h
      | .ldc _ => match b with
        | 0 => rec (m, d, np, L, .int k :: st) h
        | _ => rec (m, d, np, L, .ref (1000000 + a) :: st) h
      | .ldc_w _ => match b with
        | 0 => rec (m, d, np, L, .int k :: st) h
        | _ => rec (m, d, np, L, .ref (1000000 + a) :: st) h
      | .ldc2_w _ => rec (m, d, np, L, .long (Int64.ofNat a) :: st) h
      | .lconst _ => rec (m, d, np, L, .long (Int64.ofNat a) :: st) h
      | .iload_n _ => match zz_get L a with
        | some (.int x) => rec (m, d, np, L, .int x :: st) h
        | _ => none
      | .iload _ => match zz_get L a with
        | some (.int x) => rec (m, d, np, L, .int x :: st) h
        | _ => none
      | .aload_n _ => match zz_get L a with
        | some (.ref x) => rec (m, d, np, L, .ref x :: st) h
        | _ => none
      | .aload _ => match zz_get L a with
        | some (.ref x) => rec (m, d, np, L, .ref x :: st) h
        | _ => none
      | .lload_n _ => match zz_get L a with
        | some (.long x) => rec (m, d, np, L, .long x :: st) h
        | _ => none
      | .lload _ => match zz_get L a with
        | some (.long x) => rec (m, d, np, L, .long x :: st) h
        | _ => none
      | .istore_n _ => match st with
        | .int x :: st' => match zz_st1 L a (.int x) with
          | some L' => rec (m, d, np, L', st') h
          | none => none
        | _ => none
      | .istore _ => match st with
        | .int x :: st' => match zz_st1 L a (.int x) with
          | some L' => rec (m, d, np, L', st') h
          | none => none
        | _ => none
      | .astore_n _ => match st with
        | .ref x :: st' => match zz_st1 L a (.ref x) with
          | some L' => rec (m, d, np, L', st') h
          | none => none
        | _ => none
      | .astore _ => match st with
        | .ref x :: st' => match zz_st1 L a (.ref x) with
          | some L' => rec (m, d, np, L', st') h
          | none => none
        | _ => none
      | .lstore_n _ => match st with
        | .long x :: st' => match zz_st2 L a x with
          | some L' => rec (m, d, np, L', st') h
          | none => none
        | _ => none
      | .lstore _ => match st with
        | .long x :: st' => match zz_st2 L a x with
          | some L' => rec (m, d, np, L', st') h
          | none => none
        | _ => none
      | .iinc _ _ => match zz_get L a with
        | some (.int x) => match zz_st1 L a (.int (x + k)) with
          | some L' => rec (m, d, np, L', st) h
          | none => none
        | _ => none
      | .ineg => match st with
        | .int x :: st' => rec (m, d, np, L, .int (-x) :: st') h
        | _ => none
      | .idiv => match st with
        | .int y :: .int x :: st' => bif decide (y = 0) then none else rec (m, d, np, L, .int (x / y) :: st') h
        | _ => none
      | .irem => match st with
        | .int y :: .int x :: st' => bif decide (y = 0) then none else rec (m, d, np, L, .int (x - x / y * y) :: st') h
        | _ => none
      | .lshl => match st with
        | .int y :: .long x :: st' => rec (m, d, np, L, .long (x <<< (y.toInt64 &&& 63)) :: st') h
        | _ => none
      | .lushr => match st with
        | .int y :: .long x :: st' => rec (m, d, np, L, .long (x.toUInt64 >>> (y.toInt64.toUInt64 &&& Int64.toUInt64 63)).toInt64 :: st') h
        | _ => none
      | .lcmp => match st with
        | .long y :: .long x :: st' => rec (m, d, np, L, .int (lg_cmp x y) :: st') h
        | _ => none
      | .i2l => match st with
        | .int x :: st' => rec (m, d, np, L, .long x.toInt64 :: st') h
        | _ => none
      | .l2i => match st with
        | .long x :: st' => rec (m, d, np, L, .int x.toInt32 :: st') h
        | _ => none
      | .dup => match st with
        | v :: st' => bif Nat.beq v.category 1 then rec (m, d, np, L, v :: v :: st') h else none
        | _ => none
      | .pop => match st with
        | v :: st' => bif Nat.beq v.category 1 then rec (m, d, np, L, st') h else none
        | _ => none
      | .dup2 => match st with
        | v :: w :: st' => bif Nat.beq v.category 1 && Nat.beq w.category 1 then rec (m, d, np, L, v :: w :: v :: w :: st') h else none
        | _ => none
      | .ifCond c _ => match st with
        | .int x :: st' => bif zz_cmp0 c x then rec (m, d, a, L, st') h else rec (m, d, np, L, st') h
        | _ => none
      | .if_icmp c _ => match st with
        | .int y :: .int x :: st' => bif zz_cmp c x y then rec (m, d, a, L, st') h else rec (m, d, np, L, st') h
        | _ => none
      | .goto _ => rec (m, d, a, L, st) h
      | .tableswitch df lo hi offs => match st with
        | .int x :: st' => bif decide (x.toInt < lo) || decide (hi < x.toInt) then rec (m, d, ((pc : Int) + df).toNat, L, st') h else match offs[(x.toInt - lo).toNat]? with
          | some o => rec (m, d, ((pc : Int) + o).toNat, L, st') h
          | none => none
        | _ => none
      | .getfield _ => match st with
        | .ref q :: st' => match h.1[q]? with
          | some (c, _) => bif Nat.beq c a then (bif decide (k = 1) then rec (m, d, np, L, zz_rf (h.2.1 q b) :: st') h else rec (m, d, np, L, .int (h.2.2.1 q b) :: st') h) else none
          | none => none
        | _ => none
      | .putfield _ => match st with
        | .int x :: .ref q :: st' => match h.1[q]? with
          | some (c, _) => bif (Nat.beq c a && Nat.blt 0 q) && (decide (k = 0) || (decide (k = 2) && zz_b01 x)) then rec (m, d, np, L, st') (h.1, h.2.1, zz_up h.2.2.1 q b x, h.2.2.2) else none
          | none => none
        | .ref r :: .ref q :: st' => match h.1[q]? with
          | some (c, _) => bif (Nat.beq c a && Nat.blt 0 q) && decide (k = 1) then rec (m, d, np, L, st') (h.1, zz_up h.2.1 q b (some r), h.2.2) else none
          | none => none
        | _ => none
      | .iaload => match st with
        | .int j :: .ref q :: st' => match h.1[q]? with
          | some (100, n) => bif zz_in j n then rec (m, d, np, L, .int (h.2.2.1 q j.toNatClampNeg) :: st') h else none
          | _ => none
        | _ => none
      | .iastore => match st with
        | .int x :: .int j :: .ref q :: st' => match h.1[q]? with
          | some (100, n) => bif zz_in j n && Nat.blt 0 q then rec (m, d, np, L, st') (h.1, h.2.1, zz_up h.2.2.1 q j.toNatClampNeg x, h.2.2.2) else none
          | _ => none
        | _ => none
      | .baload => match st with
        | .int j :: .ref q :: st' => match h.1[q]? with
          | some (101, n) => bif zz_in j n then rec (m, d, np, L, .int (h.2.2.1 q j.toNatClampNeg) :: st') h else none
          | _ => none
        | _ => none
      | .bastore => match st with
        | .int x :: .int j :: .ref q :: st' => match h.1[q]? with
          | some (101, n) => bif (zz_in j n && Nat.blt 0 q) && zz_b01 x then rec (m, d, np, L, st') (h.1, h.2.1, zz_up h.2.2.1 q j.toNatClampNeg x, h.2.2.2) else none
          | _ => none
        | _ => none
      | .laload => match st with
        | .int j :: .ref q :: st' => match h.1[q]? with
          | some (102, n) => bif zz_in j n then rec (m, d, np, L, .long (h.2.2.2.1 q j.toNatClampNeg) :: st') h else none
          | _ => none
        | _ => none
      | .lastore => match st with
        | .long x :: .int j :: .ref q :: st' => match h.1[q]? with
          | some (102, n) => bif zz_in j n && Nat.blt 0 q then rec (m, d, np, L, st') (h.1, h.2.1, h.2.2.1, zz_up h.2.2.2.1 q j.toNatClampNeg x, h.2.2.2.2) else none
          | _ => none
        | _ => none
      | .aaload => match st with
        | .int j :: .ref q :: st' => match h.1[q]? with
          | some (103, n) => bif zz_in j n then rec (m, d, np, L, zz_rf (h.2.1 q j.toNatClampNeg) :: st') h else none
          | _ => none
        | _ => none
      | .aastore => match st with
        | .ref r :: .int j :: .ref q :: st' => match h.1[q]?, h.1[r]? with
          | some (103, n), some (3, _) => bif zz_in j n && (Nat.blt 0 q && Nat.blt 0 r) then rec (m, d, np, L, st') (h.1, zz_up h.2.1 q j.toNatClampNeg (some r), h.2.2) else none
          | _, _ => none
        | _ => none
      | .arraylength => match st with
        | .ref q :: st' => match h.1[q]? with
          | some (c, n) => bif Nat.beq c 100 then rec (m, d, np, L, .int (Int32.ofNat n) :: st') h else none
          | none => none
        | _ => none
      | .newarray _ => match st with
        | .int n :: st' => bif ((Nat.beq h.2.2.2.2 0 && !decide (n < 0)) && Nat.blt n.toNatClampNeg 100000) && Nat.blt h.1.length 900000 then rec (m, d, np, L, .ref h.1.length :: st') (h.1 ++ [(a, n.toNatClampNeg)], h.2.1, zz_row h.2.2.1 h.1.length (fun _ => 0), zz_row h.2.2.2.1 h.1.length (fun _ => 0), h.2.2.2.2) else none
        | _ => none
      | .anewarray _ => match st with
        | .int n :: st' => bif ((Nat.beq h.2.2.2.2 0 && !decide (n < 0)) && Nat.blt n.toNatClampNeg 100000) && Nat.blt h.1.length 900000 then rec (m, d, np, L, .ref h.1.length :: st') (h.1 ++ [(103, n.toNatClampNeg)], zz_row h.2.1 h.1.length (fun _ => none), h.2.2) else none
        | _ => none
      | .new _ => match b with
        | 0 => bif Nat.beq h.2.2.2.2 0 && Nat.blt h.1.length 900000 then rec (m, d, np, L, .ref h.1.length :: st) (h.1 ++ [(a, 0)], zz_row h.2.1 h.1.length (fun _ => none), zz_row h.2.2.1 h.1.length (fun _ => 0), h.2.2.2) else none
        | _ => bif zz_ge8 d && (Nat.ble (zz_words st) 8 && Nat.beq m.2.2.length 0) then some (.inr a, (h.1, h.2.1, h.2.2.1, h.2.2.2.1, h.2.2.2.2 + 1)) else none
      | .invokevirtual _ => bif Nat.blt a 1000 then (bif zz_rcv h st a b then zz_call P rec m d pc np L st a b h else none) else zz_prim S rec m d np L st a h
      | .invokestatic _ => bif Nat.blt a 1000 then zz_call P rec m d pc np L st a b h else zz_prim S rec m d np L st a h
      | .invokespecial _ => bif Nat.blt a 1000 then (bif zz_rcv h st a b then zz_callI P rec m d np L st a b h else none) else zz_prim S rec m d np L st a h
      | .ireturn => match st with
        | [.int x] => bif decide (k = 0) || zz_b01 x then some (.inl (some (.int x)), h) else none
        | _ => none
      | .lreturn => match st with
        | [.long x] => some (.inl (some (.long x)), h)
        | _ => none
      | .areturn => match st with
        | [.ref x] => some (.inl (some (.ref x)), h)
        | _ => none
      | .return_ => match st with
        | [] => some (.inl none, h)
        | _ => none
      | i => match st with
        | .int y :: .int x :: st' => match zz_bin i x y with
          | some z => rec (m, d, np, L, .int z :: st') h
          | none => none
        | .long y :: .long x :: st' => match zz_binL i x y with
          | some z => rec (m, d, np, L, .long z :: st') h
          | none => none
        | _ => none
def zz_exec (P : List zz_M) (S : zz_T) : Nat → zz_F → zz_H → Option zz_R
  | 0 => fun _ _ => none
  | f + 1 => zz_step P S (zz_exec P S f)
def zz_iter (P : List zz_M) (S : zz_T) (rec : zz_F → zz_H → Option zz_R) : Nat → zz_F → zz_H → Option zz_R
  | 0 => rec
  | n + 1 => zz_step P S (zz_iter P S rec n)
