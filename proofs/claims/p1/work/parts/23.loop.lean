/-! LOOPS: at a loop's head some locals and cells become new atoms; the body is gone through once -/
/-- keep, locals, cells that may change, numbers of cells, whole rows, differences, what grows (or falls) -/
abbrev aAn : Type := List Nat × List (Nat × Int × Int) × List (Nat × Nat) × List (Nat × Nat × Int × Int) × List ((Nat × Nat) × Int × Int) × List ((Nat × Nat) × (Nat × Nat) × Int) × Nat × Bool
/-- a loop that runs: method, place, annotation, the first new atom, the locals, the cells' numbers, the heap at its head -/
abbrev aLp : Type := Nat × Nat × aAn × Nat × List (Nat × aV) × List Nat × aHe × aC
def aWithin (cs : aC) (v : aV) (lo hi : Int) : Bool := aIsI v && (match aBd cs v with
  | (l, h) => ile lo l && ile h hi)
/-- x - y is d at most, whatever the atoms are -/
def aImp (cs : aC) (x y : aV) (d : Int) : Bool := match aLe cs y x (-d - 1) with
  | [] => true
  | _ => false
def aRef (lv : List (Nat × aV)) (p : Nat × Nat) : Option Nat := match p with
  | (0, id) => some id
  | (_, k) => match alg k lv with
    | some (1, r, _, _) => bif Nat.ble 9 r then some (r - 9) else none
    | _ => none
def aRefs (lv : List (Nat × aV)) : List (Nat × Nat) → Option (List Nat)
  | [] => some []
  | p :: ps => match aRef lv p, aRefs lv ps with
    | some r, some rs => some (r :: rs)
    | _, _ => none
/-- the kept locals -/
def aKeep (lv : List (Nat × aV)) : List Nat → Option (List (Nat × aV))
  | [] => some []
  | k :: ks => match alg k lv, aKeep lv ks with
    | some v, some r => some ((k, v) :: r)
    | _, _ => none
def aVals (cs : aC) (lv : List (Nat × aV)) : List (Nat × Int × Int) → Option (List aV)
  | [] => some []
  | (k, lo, hi) :: ks => match alg k lv, aVals cs lv ks with
    | some v, some r => bif aWithin cs v lo hi then some (v :: r) else none
    | _, _ => none
def aElem (h : aHe) (c k : Nat) : Option aV := match hget h c with
  | some (.inl a) => bif Nat.blt k a.1 then some (aGetA a k) else none
  | some (.inr (_, fs)) => fs[k]?
  | none => none
def aElems (cs : aC) (h : aHe) : List (Nat × Nat × Int × Int) → Option (List aV)
  | [] => some []
  | (c, k, lo, hi) :: ks => match aElem h c k, aElems cs h ks with
    | some v, some r => bif aWithin cs v lo hi then some (v :: r) else none
    | _, _ => none
def aSetEl (h : aHe) (c k : Nat) (v : aV) : aHe := match hget h c with
  | some (.inl a) => hset h c (.inl (aSetA a k v))
  | some (.inr (ci, fs)) => hset h c (.inr (ci, fs.set k v))
  | none => h
def aSetEls (h : aHe) : Nat → List (Nat × Nat × Int × Int) → aHe
  | _, [] => h
  | j, (c, k, _, _) :: ks => aSetEls (aSetEl h c k (4, j, 0, 0)) (j + 1) ks
/-- a row whose every number lies within -/
def aRowIn (cs : aC) (h : aHe) (c : Nat) (lo hi : Int) : Option Nat := match hget h c with
  | some (.inl a) => bif aWithin cs a.2.1 lo hi && a.2.2.all (fun q => aWithin cs q.2 lo hi) then some a.1 else none
  | _ => none
def aSetRows (cs : aC) (lv : List (Nat × aV)) (h : aHe) : List ((Nat × Nat) × Int × Int) → Option aHe
  | [] => some h
  | (p, lo, hi) :: ps => match aRef lv p with
    | none => none
    | some c => match aRowIn cs h c lo hi with
      | none => none
      | some n => aSetRows cs lv (hset h c (.inl (n, (2, 0, lo, hi), []))) ps
def aNth (vs : List aV) (lv : List (Nat × aV)) (p : Nat × Nat) : Option aV := match p with
  | (0, j) => vs[j]?
  | (_, k) => alg k lv
def aDiffs (cs : aC) (vs : List aV) (lv : List (Nat × aV)) : List ((Nat × Nat) × (Nat × Nat) × Int) → Bool
  | [] => true
  | (p, q, d) :: ps => (match aNth vs lv p, aNth vs lv q with
    | some x, some y => aImp cs x y d
    | _, _ => false) && aDiffs cs vs lv ps
/-- the differences as constraints: of new atoms, and of locals that are atoms -/
def aAtom (base : Nat) (lv : List (Nat × aV)) (p : Nat × Nat) : Option Nat := match p with
  | (0, j) => some (base + j)
  | (_, k) => match alg k lv with
    | some (4, i, 0, _) => some i
    | _ => none
def aDcs (base : Nat) (lv : List (Nat × aV)) : List ((Nat × Nat) × (Nat × Nat) × Int) → Option (List (Nat × Nat × Int))
  | [] => some []
  | (p, q, d) :: ps => match aAtom base lv p, aAtom base lv q, aDcs base lv ps with
    | some i, some j, some r => some ((i, j, d) :: r)
    | _, _, _ => none
def aNewL : Nat → List (Nat × Int × Int) → List (Nat × aV)
  | _, [] => []
  | j, (k, _, _) :: ks => (k, (4, j, 0, 0)) :: aNewL (j + 1) ks
def aSide (kp : List Nat) (p : Nat × Nat) : Bool := match p with
  | (0, _) => true
  | (_, k) => kp.any (fun j => Nat.beq j k)
/-- at a loop's head for the first time: the loop, its locals, heap and constraints -/
def aHead (an : aAn) (y pc : Nat) (lv : List (Nat × aV)) (h : aHe) (cs : aC) : Option aLp := match an with
  | (kp, ls, md, els, rows, ds, _, _) => match aKeep lv kp, aVals cs lv ls, aRefs lv md, aElems cs h els with
    | some kept, some v1, some ids, some v2 => match aSetRows cs lv h rows, aDcs cs.1.length lv ds with
      | some h1, some dcs => bif aDiffs cs (v1 ++ v2) lv ds && els.all (fun q => ids.any (fun j => Nat.beq j q.1)) && rows.all (fun q => match aRef lv q.1 with
          | none => false
          | some c => ids.any (fun j => Nat.beq j c)) && ds.all (fun q => aSide kp q.1 && aSide kp q.2.1) then
          some (y, pc, an, cs.1.length, aNewL cs.1.length ls ++ kept, ids, aSetEls h1 (cs.1.length + ls.length) els, (cs.1 ++ ls.map (fun q => (q.2.1, q.2.2)) ++ els.map (fun q => (q.2.2.1, q.2.2.2)), dcs ++ cs.2)) else none
      | _, _ => none
    | _, _, _, _ => none
def aSameL : List (Nat × aV) → List (Nat × aV) → Bool
  | [], [] => true
  | (j, v) :: l, (k, w) :: m => Nat.beq j k && aSame v w && aSameL l m
  | _, _ => false
def aSameV : List aV → List aV → Bool
  | [], [] => true
  | v :: l, w :: m => aSame v w && aSameV l m
  | _, _ => false
def aSameC (a b : Option aCe) : Bool := match a, b with
  | some (.inl x), some (.inl y) => Nat.beq x.1 y.1 && aSame x.2.1 y.2.1 && aSameL x.2.2 y.2.2
  | some (.inr x), some (.inr y) => Nat.beq x.1 y.1 && aSameV x.2 y.2
  | _, _ => false
/-- back at a loop's head: it is as it was, but for the new atoms; what grows has grown -/
def aBack (L : aLp) (lv : List (Nat × aV)) (h : aHe) (cs : aC) : Bool := match L with
  | (_, _, (kp, ls, _, els, rows, ds, me, up), base, lv0, ids, h0, _) => match aKeep lv kp, aVals cs lv ls, aElems cs h els with
    | some kept, some v1, some v2 => match aSetRows cs lv h rows with
      | some h1 => aSameL (aNewL base ls ++ kept) lv0 && ids.all (fun c => aSameC (hget (aSetEls h1 (base + ls.length) els) c) (hget h0 c)) && aDiffs cs (v1 ++ v2) lv ds && (match (v1 ++ v2)[me]? with
        | some x => bif up then aImp cs (4, base + me, 0, 0) x (-1) else aImp cs x (4, base + me, 0, 0) (-1)
        | none => false)
      | none => false
    | _, _, _ => false
def aColl {α β : Type} (f : α → Option (List β)) : List α → Option (List β)
  | [] => some []
  | a :: l => match f a, aColl f l with
    | some x, some r => some (x ++ r)
    | _, _ => none
abbrev aLf : Type := Option aV × aHe × aC
def aFindL (act : List aLp) (y pc : Nat) : Option aLp := match act with
  | [] => none
  | L :: l => bif Nat.beq L.1 y && Nat.beq L.2.1 pc then some L else aFindL l y pc
def aEnt : Nat → List aV → List (Nat × aV)
  | _, [] => []
  | i, v :: vs => (i, v) :: aEnt (i + aCat v) vs
abbrev aSc : Type := Option (Nat × (Nat × aV × List (Nat × aV)))
abbrev aRec : Type := aSc → Nat → List (List Nat) → List aLp → aFr → aHe → aC → Option (List aLf)
def aIds (act : List aLp) : List (List Nat) := act.map (fun L => L.2.2.2.2.2.1)
/-- what follows a step's results -/
def aNx (rec : aRec) (sc : aSc) (d : Nat) (G : List (List Nat)) (act : List aLp) (h : aHe) (b : aC × aRs) : Option (List aLf) := match b.2 with
  | .inl (fr', h') => rec sc d G act fr' h' b.1
  | .inr (.inl (y', vs, fr')) => match d with
    | 0 => none
    | d' + 1 => match rec none d' (aIds act ++ G) [] (y', 0, aEnt 0 vs, []) h b.1 with
      | none => none
      | some lfs => aColl (fun (lf : aLf) => rec sc (d' + 1) G act (fr'.1, fr'.2.1, fr'.2.2.1, lf.1.toList ++ fr'.2.2.2) lf.2.1 lf.2.2) lfs
  | .inr (.inr r) => some [(r, h, b.1)]
def aGn (rec : aRec) (sc : aSc) (d : Nat) (G : List (List Nat)) (act : List aLp) (q : mMd) (y pc : Nat) (lv : List (Nat × aV)) (st : List aV) (h : aHe) (cs : aC) : Option (List aLf) := match aStep sc (aIds act ++ G) d q y pc lv st h cs with
  | none => none
  | some brs => aColl (aNx rec sc d G act h) brs
/-- a run: annotations, fuel, depth, loops that run in the callers, loops that run here -/
def aRun (ann : Nat → Nat → Option aAn) : Nat → aSc → Nat → List (List Nat) → List aLp → aFr → aHe → aC → Option (List aLf)
  | 0, _, _, _, _, _, _, _ => none
  | n + 1, sc, d, G, act, fr, h, cs => match mjM fr.1 with
    | none => none
    | some q => match ann fr.1 fr.2.1 with
      | none => aGn (aRun ann n) sc d G act q fr.1 fr.2.1 fr.2.2.1 fr.2.2.2 h cs
      | some an => match fr.2.2.2 with
        | [] => match aFindL act fr.1 fr.2.1 with
          | some L => bif aBack L fr.2.2.1 h cs then some [] else none
          | none => match aHead an fr.1 fr.2.1 fr.2.2.1 h cs with
            | none => none
            | some L => bif L.2.2.2.2.2.1.all (fun c => aOkW (aIds act ++ G) c) then aGn (aRun ann n) sc d G (L :: act) q fr.1 fr.2.1 L.2.2.2.2.1 [] L.2.2.2.2.2.2.1 L.2.2.2.2.2.2.2 else none
        | _ => none
def aAnN (_ _ : Nat) : Option aAn := none
/-- the law's first cells: the script as atoms, the law's opcode -/
def aSc6 (op : Int) : aSc := some (6, (6, (7, 0, op, 0), [(1, (4, 1, 0, 0)), (2, (4, 2, 0, 0)), (3, (4, 3, 0, 0)), (4, (4, 4, 0, 0)), (5, (4, 5, 0, 0))]))
def aC6 : aC := ([(-2147483648, 2147483647), (-2147483648, 2147483647), (-2147483648, 2147483647), (-2147483648, 2147483647), (-2147483648, 2147483647), (-2147483648, 2147483647)], [])
def aAll1 (l : Option (List aLf)) : Bool := match l with
  | none => false
  | some l => l.all (fun x => match x.1 with
    | some v => aSame v (kI 1)
    | none => false)
def aLawY : Nat := 365
