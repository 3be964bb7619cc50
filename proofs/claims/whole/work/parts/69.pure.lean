/-! A TEXT, read purely: t its bytes, n its length, p a place; a state of the reader is (place, the first wrong byte or -1). -/
def zpTx (f : Nat → Int32) (n : Nat) : Nat → Int32 := fun i => bif decide (i < n) then f i else 0
def zpSkF (t : Nat → Int32) (n : Nat) : Nat → Nat → Nat
  | 0, p => p
  | f + 1, p => bif (decide (p < n) && decide (t p = 32)) then zpSkF t n f (p + 1) else p
def zpSk (t : Nat → Int32) (n p : Nat) : Nat := zpSkF t n 1000 p
def zpRnF (t : Nat → Int32) (n : Nat) (lo hi : Int32) : Nat → Nat → Nat
  | 0, p => p
  | f + 1, p => bif (decide (p < n) && (decide (lo ≤ t p) && decide (t p ≤ hi))) then zpRnF t n lo hi f (p + 1) else p
def zpRn (t : Nat → Int32) (n : Nat) (lo hi : Int32) (p : Nat) : Nat := zpRnF t n lo hi 1000 p
/-- the word at p is just w -/
def zpEq (t : Nat → Int32) : List Int32 → Nat → Bool
  | [], _ => true
  | c :: w, p => decide (t p = c) && zpEq t w (p + 1)
def zpIs (t : Nat → Int32) (n : Nat) (w : List Int32) (p : Nat) : Bool := decide (zpRn t n 97 122 p = p + w.length) && zpEq t w p
def zpW (k : Nat) : List Int32 := zz_S.getD k []
/-- states -/
def zpFail (n : Nat) (s : Nat × Int32) : Nat × Int32 := (n, bif decide (s.2 = -1) then Int32.ofNat s.1 else s.2)
def zpHas (t : Nat → Int32) (n k : Nat) (s : Nat × Int32) : Bool := zpIs t n (zpW k) s.1
def zpAft (t : Nat → Int32) (n k : Nat) (s : Nat × Int32) : Nat × Int32 := (zpSk t n (s.1 + (zpW k).length), s.2)
def zpSg (t : Nat → Int32) (n : Nat) (c : Int32) (s : Nat × Int32) : Bool := decide (s.1 < n) && decide (t s.1 = c)
def zpNx (t : Nat → Int32) (n : Nat) (s : Nat × Int32) : Nat × Int32 := (zpSk t n (s.1 + 1), s.2)
def zpDg (t : Nat → Int32) (p : Nat) : Nat → Int32
  | 0 => 0
  | k + 1 => zpDg t p k * 10 + t (p + k) - 48
/-- a number of at most three figures -/
def zpNumOk (t : Nat → Int32) (n : Nat) (most : Int32) (p : Nat) : Bool := decide (p < zpRn t n 48 57 p) && (decide (zpRn t n 48 57 p ≤ p + 3) && decide (zpDg t p (zpRn t n 48 57 p - p) ≤ most))
def zpNum (t : Nat → Int32) (n : Nat) (most : Int32) (s : Nat × Int32) : Int32 × Nat × Int32 :=
  bif zpNumOk t n most s.1 then (zpDg t s.1 (zpRn t n 48 57 s.1 - s.1), zpSk t n (zpRn t n 48 57 s.1), s.2) else (0, zpFail n s)
/-- which word of a part -/
def zpK8 (t : Nat → Int32) (n p : Nat) : Nat := bif zpIs t n (zpW 20) p then 0 else bif zpIs t n (zpW 21) p then 1 else bif zpIs t n (zpW 22) p then 2 else bif zpIs t n (zpW 23) p then 3 else bif zpIs t n (zpW 24) p then 4 else bif zpIs t n (zpW 25) p then 5 else bif zpIs t n (zpW 26) p then 6 else bif zpIs t n (zpW 27) p then 7 else 8
/-- a part: its step -/
def zpPart (t : Nat → Int32) (n : Nat) (s : Nat × Int32) : Int32 × Nat × Int32 :=
  bif decide (s.1 < zpRn t n 48 57 s.1) then ((16 : Int32) + (zpNum t n 999 s).1, (zpNum t n 999 s).2)
  else bif decide (zpK8 t n s.1 < 8) then (Int32.ofNat (zpK8 t n s.1), zpAft t n (20 + zpK8 t n s.1) s) else (0, zpFail n s)
/-- readers give a state and steps -/
def zpSumL (t : Nat → Int32) (n : Nat) : Nat → (Nat × Int32) × List Int32 → (Nat × Int32) × List Int32
  | 0, r => r
  | f + 1, r => bif zpSg t n 43 r.1 then zpSumL t n f ((zpPart t n (zpNx t n r.1)).2, r.2 ++ [(zpPart t n (zpNx t n r.1)).1, 10]) else r
def zpSum (t : Nat → Int32) (n : Nat) (s : Nat × Int32) : (Nat × Int32) × List Int32 := zpSumL t n 400 ((zpPart t n s).2, [(zpPart t n s).1])
def zpNeed (t : Nat → Int32) (n : Nat) (c : Int32) (s : Nat × Int32) : Nat × Int32 := bif zpSg t n c s then zpNx t n s else zpFail n s
/-- found, known, or two sums -/
def zpPlain (t : Nat → Int32) (n : Nat) (s : Nat × Int32) : (Nat × Int32) × List Int32 :=
  bif zpHas t n 18 s then (zpAft t n 18 s, [8]) else bif zpHas t n 19 s then (zpAft t n 19 s, [9])
  else (fun a => (fun b => (b.1, a.2 ++ b.2 ++ [bif zpSg t n 60 a.1 then (11 : Int32) else 12])) (zpSum t n (bif zpSg t n 60 a.1 then zpNx t n a.1 else zpNeed t n 62 a.1))) (zpSum t n s)
def zpAllL (t : Nat → Int32) (n k : Nat) (st : Int32) (at' : Nat × Int32 → (Nat × Int32) × List Int32) : Nat → (Nat × Int32) × List Int32 → (Nat × Int32) × List Int32
  | 0, r => r
  | f + 1, r => bif zpHas t n k r.1 then zpAllL t n k st at' f ((at' (zpAft t n k r.1)).1, r.2 ++ (at' (zpAft t n k r.1)).2 ++ [st]) else r
def zpAll (t : Nat → Int32) (n : Nat) (at' : Nat × Int32 → (Nat × Int32) × List Int32) (s : Nat × Int32) : (Nat × Int32) × List Int32 := zpAllL t n 28 14 at' 400 (at' s)
def zpAny (t : Nat → Int32) (n : Nat) (at' : Nat × Int32 → (Nat × Int32) × List Int32) (s : Nat × Int32) : (Nat × Int32) × List Int32 := zpAllL t n 29 15 (zpAll t n at') 400 (zpAll t n at' s)
/-- r levels are left -/
def zpAtom (t : Nat → Int32) (n : Nat) : Nat → Nat × Int32 → (Nat × Int32) × List Int32
  | 0, s => zpPlain t n s
  | r + 1, s => bif zpHas t n 17 s then ((zpAtom t n r (zpAft t n 17 s)).1, (zpAtom t n r (zpAft t n 17 s)).2 ++ [13])
    else bif zpSg t n 40 s then (zpNeed t n 41 (zpAny t n (zpAtom t n r) (zpNx t n s)).1, (zpAny t n (zpAtom t n r) (zpNx t n s)).2) else zpPlain t n s
/-- a line: verb, amount, steps -/
def zpVerb (t : Nat → Int32) (n : Nat) (s : Nat × Int32) : Int32 × Nat × Int32 :=
  bif zpHas t n 13 s then (0, zpAft t n 13 s) else bif zpHas t n 14 s then (1, zpAft t n 14 s) else bif zpHas t n 15 s then (2, zpAft t n 15 s) else (-1, zpFail n s)
def zpLine (t : Nat → Int32) (n : Nat) (s : Nat × Int32) : (Nat × Int32) × Int32 × Int32 × List Int32 :=
  (fun v => (fun a => (fun c => (c.1, v.1, a.1, c.2)) (bif zpHas t n 16 a.2 then zpAny t n (zpAtom t n 6) (zpAft t n 16 a.2) else (a.2, ([] : List Int32)))) (zpNum t n 100 v.2)) (zpVerb t n s)
/-- does line i come; the state behind that -/
def zpCome (t : Nat → Int32) (n i : Nat) (s : Nat × Int32) : Bool := bif Nat.beq i 0 then decide (s.1 < n) else zpSg t n 59 s
def zpStep (t : Nat → Int32) (n i : Nat) (s : Nat × Int32) : Nat × Int32 := bif Nat.beq i 0 then s else zpNx t n s
def zpLinesL (t : Nat → Int32) (n : Nat) : Nat → Nat → (Nat × Int32) × List (Int32 × Int32 × List Int32) → (Nat × Int32) × List (Int32 × Int32 × List Int32)
  | 0, _, r => r
  | f + 1, i, r => bif zpCome t n i r.1 then
      (bif decide (i < 12) then zpLinesL t n f (i + 1) ((zpLine t n (zpStep t n i r.1)).1, r.2 ++ [(zpLine t n (zpStep t n i r.1)).2]) else (zpFail n (zpStep t n i r.1), r.2))
    else (bif decide (r.1.1 < n) then (zpFail n r.1, r.2) else r)
/-- a text of the law: the state at its end, its lines -/
def zpLaw (t : Nat → Int32) (n : Nat) : (Nat × Int32) × List (Int32 × Int32 × List Int32) := zpLinesL t n 13 0 ((zpSk t n 0, -1), [])
/-- lines as a law object has them -/
def zpCode : List (Int32 × Int32 × List Int32) → List Int32
  | [] => []
  | x :: l => x.2.2 ++ zpCode l
def zpEnc (N : Nat → Nat → Int32) (l : Nat) (L : List (Int32 × Int32 × List Int32)) : Prop :=
  (N l 0 = Int32.ofNat L.length ∧ L.length ≤ 12 ∧ N l 1 = Int32.ofNat (zpCode L).length ∧ (zpCode L).length ≤ 400) ∧
  (∀ i, i < L.length → N (l + 1) i = (L.getD i (0, 0, [])).1 ∧ N (l + 2) i = (L.getD i (0, 0, [])).2.1 ∧ N (l + 3) i = Int32.ofNat (zpCode (L.take (i + 1))).length) ∧
  (∀ j, j < (zpCode L).length → N (l + 4) j = (zpCode L).getD j 0)
/-- a law object is what the text says -/
def zpObj (N : Nat → Nat → Int32) (l : Nat) (t : Nat → Int32) (n : Nat) : Prop := (zpLaw t n).1.2 = -1 ∧ zpEnc N l (zpLaw t n).2
/-- steps run over a stack of numbers -/
def zpTake (F : Nat → Int32) (st : Int32) (s : List Int32) : List Int32 :=
  bif decide ((16 : Int32) ≤ st) then (st - 16) :: s
  else bif decide ((10 : Int32) ≤ st) then
    (bif decide (st = 13) then (match s with | [] => [] | a :: s => (1 - a) :: s) else (match s with | b :: a :: s => v_L_joined st a b :: s | s => s))
  else F st.toNatClampNeg :: s
def zpRun (F : Nat → Int32) : List Int32 → List Int32 → List Int32
  | [], s => s
  | c :: l, s => zpRun F l (zpTake F c s)
def zpHolds (F : Nat → Int32) (c : List Int32) : Bool := match zpRun F c [] with | [] => true | v :: _ => (bif decide (v = 0) then false else true)
def zpTot (F : Nat → Int32) (k : Int32) : List (Int32 × Int32 × List Int32) → Int32 → Int32
  | [], a => a
  | x :: l, a => zpTot F k l (bif decide (x.1 = k) then (bif zpHolds F x.2.2 then a + x.2.1 else a) else a)
