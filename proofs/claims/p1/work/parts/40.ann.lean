/-! THE LOOPS' ANNOTATIONS -/
def aAn144 (pc : Nat) : Option aAn := (bif Nat.beq pc 2 then some ([0, 1], [(2, 0, 126)], [(0, 43)], [], [], [], 0, true) else (bif Nat.beq pc 33 then some ([0, 1], [(2, (-1), 7)], [(0, 43)], [], [], [], 0, false) else (bif Nat.beq pc 39 then some ([0, 1, 2], [(3, 0, 7)], [(0, 43)], [], [], [], 0, true) else none)))
def aAn147 (pc : Nat) : Option aAn := (bif Nat.beq pc 6 then some ([0, 1, 2, 3, 4], [(5, 0, 7)], [], [], [], [], 0, true) else none)
def aAn237 (pc : Nat) : Option aAn := (bif Nat.beq pc 10 then some ([0, 1, 2], [(3, 0, 2000)], [(1, 1)], [], [], [], 0, true) else none)
def aAn268 (pc : Nat) : Option aAn := (bif Nat.beq pc 34 then some ([0, 1], [(2, 0, 240)], [(0, 120)], [(120, 0, 0, 240), (120, 1, 0, 240)], [], [((0, 0), (0, 1), 0), ((0, 1), (0, 0), 0), ((0, 2), (0, 0), 0), ((0, 0), (1, 1), 0)], 0, true) else none)
def aAn346 (pc : Nat) : Option aAn := (bif Nat.beq pc 2 then some ([0, 1], [(2, 0, 14)], [(0, 135)], [], [], [], 0, true) else (bif Nat.beq pc 30 then some ([0, 1], [(2, (-1), 7)], [(0, 135)], [], [], [], 0, false) else (bif Nat.beq pc 36 then some ([0, 1, 2], [(3, 0, 14)], [(0, 135)], [], [], [], 0, true) else (bif Nat.beq pc 48 then some ([0, 1, 2, 3, 4], [(5, 0, 7)], [(0, 135)], [], [], [], 0, true) else none))))
def aAn356 (pc : Nat) : Option aAn := (bif Nat.beq pc 2 then some ([0, 1, 2], [(3, 0, 4000)], [(1, 2)], [], [((1, 2), (-1), 0)], [], 0, true) else none)
def aAnP (y pc : Nat) : Option aAn := (bif Nat.blt y 268 then (bif Nat.blt y 147 then (bif Nat.beq y 144 then aAn144 pc else none) else (bif Nat.blt y 237 then (bif Nat.beq y 147 then aAn147 pc else none) else (bif Nat.beq y 237 then aAn237 pc else none))) else (bif Nat.blt y 346 then (bif Nat.beq y 268 then aAn268 pc else none) else (bif Nat.blt y 356 then (bif Nat.beq y 346 then aAn346 pc else none) else (bif Nat.beq y 356 then aAn356 pc else none))))
/-- the sizes of the cells, in groups of twelve -/
def aSz (c : aCe) : Nat := match c with
  | .inl a => a.1
  | .inr (_, fs) => fs.length
def aSum : Nat → List aCe → Nat
  | s, [] => s
  | s, c :: l => aSum (s + aSz c) l
def aGr : Nat → Nat → List (List aCe) → Bool
  | n, s, [] => Nat.beq n 0 && Nat.ble s 7302250
  | n, s, l :: ls => bif Nat.ble 12 n then Nat.beq l.length 12 && aGr (n - 12) (aSum s l) ls else Nat.ble n l.length && Nat.ble (aSum s l) 7302250
/-- every end answers 1, in cells enough -/
def aAll (l : Option (List aLf)) : Bool := match l with
  | none => false
  | some l => l.all (fun x => (match x.1 with
    | some v => aSame v (kI 1)
    | none => false) && (Nat.ble x.2.1.1 600000 && aGr x.2.1.1 0 x.2.1.2))
def aLaw (sa : aSc) (cs : aC) : Bool := aAll (aRun aAnP 40000 sa 100 [] [] (365, 0, [(0, kR 0)], []) (0, []) cs)
def aScL (L : Nat) : aSc := some (L, (L, kF, []))
