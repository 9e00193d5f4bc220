/-! A SMALL MACHINE over cells that are numbered: 0 the script, 1 to 8 the texts, 9 + k the k-th cell that the law made; what it does, the real machine does (part 04) -/
def mjLen : List Nat := [4, 3, 5, 4, 4, 3, 4, 2]
/-- the texts' bytes -/
def mjByt : List (List Int32) := [[112, 97, 115, 115], [109, 97, 121], [111, 114, 100, 101, 114], [98, 105, 110, 100], [121, 110, 112, 107], [107, 104, 99], [107, 118, 111, 108], [116, 115]]
abbrev mCe : Type := (Nat × (Nat → Int32)) ⊕ (Nat × List Value)
abbrev mHe : Type := List mCe
abbrev mFr : Type := Nat × Nat × List (Nat × Value) × List Value
abbrev mRes : Type := Option ((mFr × mHe) ⊕ ((Nat × List Value × mFr) ⊕ Option Value))
def mlg (i : Nat) (lv : List (Nat × Value)) : Option Value := (lv.find? (fun q => q.1 == i)).map (fun q => q.2)
def mlp (i : Nat) (v : Value) (lv : List (Nat × Value)) : List (Nat × Value) := (i, v) :: lv.filter (fun q => !(q.1 == i) && !(q.1 + 1 == i && q.2.category == 2))
def mGo (y pc : Nat) (lv : List (Nat × Value)) (st : List Value) (M : mHe) : mRes := some (.inl ((y, pc, lv, st), M))
def mTg (pc : Nat) (off : Int) : Option Nat := if 0 ≤ (pc : Int) + off then some ((pc : Int) + off).toNat else none
/-- goes to a branch's place -/
def mBr (y pc : Nat) (off : Int) (lv : List (Nat × Value)) (st : List Value) (M : mHe) : mRes := match mTg pc off with
  | none => none
  | some t => mGo y t lv st M
/-- constants and loads -/
def mOp1 (own y pc n : Nat) (lv : List (Nat × Value)) (st : List Value) (M : mHe) (i : Instr) : mRes := match i with
  | .iload_n k => match mlg k lv with
    | some (.int x) => if n = 1 then mGo y (pc + 1) lv (.int x :: st) M else none
    | _ => none
  | .aload_n k => match mlg k lv with
    | some (.ref x) => if n = 1 then mGo y (pc + 1) lv (.ref x :: st) M else none
    | _ => none
  | .lload_n k => match mlg k lv with
    | some (.long x) => if n = 1 then mGo y (pc + 1) lv (.long x :: st) M else none
    | _ => none
  | .iload k => match mlg k lv with
    | some (.int x) => if n = 2 then mGo y (pc + 2) lv (.int x :: st) M else none
    | _ => none
  | .aload k => match mlg k lv with
    | some (.ref x) => if n = 2 then mGo y (pc + 2) lv (.ref x :: st) M else none
    | _ => none
  | .lload k => match mlg k lv with
    | some (.long x) => if n = 2 then mGo y (pc + 2) lv (.long x :: st) M else none
    | _ => none
  | .iconst v => if n = 1 then mGo y (pc + 1) lv (.int (Int32.ofInt v) :: st) M else none
  | .lconst v => if n = 1 then mGo y (pc + 1) lv (.long (Int64.ofNat v) :: st) M else none
  | .bipush v => if n = 2 then mGo y (pc + 2) lv (.int (Int8.ofInt v).toInt32 :: st) M else none
  | .sipush v => if n = 3 then mGo y (pc + 3) lv (.int (Int16.ofInt v).toInt32 :: st) M else none
  | .ldc k => match mjR own k with
    | some (_, _, 7, _, v) => if n = 2 then mGo y (pc + 2) lv (.int (Int32.ofInt v) :: st) M else none
    | some (_, _, 9, a, _) => if n = 2 ∧ a < 8 then mGo y (pc + 2) lv (.ref (1 + a) :: st) M else none
    | _ => none
  | .ldc_w k => match mjR own k with
    | some (_, _, 7, _, v) => if n = 3 then mGo y (pc + 3) lv (.int (Int32.ofInt v) :: st) M else none
    | _ => none
  | .ldc2_w k => match mjR own k with
    | some (_, _, 8, _, v) => if n = 3 then mGo y (pc + 3) lv (.long (Int64.ofInt v) :: st) M else none
    | _ => none
  | _ => none
/-- stores, and the stack -/
def mOp2 (nL y pc n : Nat) (lv : List (Nat × Value)) (st : List Value) (M : mHe) (i : Instr) : mRes := match i with
  | .istore_n k => match st with
    | .int x :: st => if n = 1 ∧ k < nL then mGo y (pc + 1) (mlp k (.int x) lv) st M else none
    | _ => none
  | .istore k => match st with
    | .int x :: st => if n = 2 ∧ k < nL then mGo y (pc + 2) (mlp k (.int x) lv) st M else none
    | _ => none
  | .astore_n k => match st with
    | .ref x :: st => if n = 1 ∧ k < nL then mGo y (pc + 1) (mlp k (.ref x) lv) st M else none
    | _ => none
  | .astore k => match st with
    | .ref x :: st => if n = 2 ∧ k < nL then mGo y (pc + 2) (mlp k (.ref x) lv) st M else none
    | _ => none
  | .iinc k v => match mlg k lv with
    | some (.int x) => if n = 3 ∧ k < nL then mGo y (pc + 3) (mlp k (.int (x + Int32.ofInt v)) lv) st M else none
    | _ => none
  | .dup => match st with
    | a :: st => if n = 1 ∧ a.category = 1 then mGo y (pc + 1) lv (a :: a :: st) M else none
    | _ => none
  | .pop => match st with
    | a :: st => if n = 1 ∧ a.category = 1 then mGo y (pc + 1) lv st M else none
    | _ => none
  | .dup2 => match st with
    | a :: b :: st => if n = 1 ∧ a.category = 1 ∧ b.category = 1 then mGo y (pc + 1) lv (a :: b :: a :: b :: st) M else none
    | _ => none
  | _ => none
/-- numbers -/
def mOp3 (y pc n : Nat) (lv : List (Nat × Value)) (st : List Value) (M : mHe) (i : Instr) : mRes := if n = 1 then (match i, st with
  | .iadd, .int b :: .int a :: st => mGo y (pc + 1) lv (.int (a + b) :: st) M
  | .isub, .int b :: .int a :: st => mGo y (pc + 1) lv (.int (a - b) :: st) M
  | .imul, .int b :: .int a :: st => mGo y (pc + 1) lv (.int (a * b) :: st) M
  | .idiv, .int b :: .int a :: st => if b = 0 then none else mGo y (pc + 1) lv (.int (a / b) :: st) M
  | .irem, .int b :: .int a :: st => if b = 0 then none else mGo y (pc + 1) lv (.int (a - a / b * b) :: st) M
  | .iand, .int b :: .int a :: st => mGo y (pc + 1) lv (.int (a &&& b) :: st) M
  | .ior, .int b :: .int a :: st => mGo y (pc + 1) lv (.int (a ||| b) :: st) M
  | .ixor, .int b :: .int a :: st => mGo y (pc + 1) lv (.int (a ^^^ b) :: st) M
  | .ishl, .int b :: .int a :: st => mGo y (pc + 1) lv (.int (a <<< (b &&& 31)) :: st) M
  | .ishr, .int b :: .int a :: st => mGo y (pc + 1) lv (.int (a >>> (b &&& 31)) :: st) M
  | .iushr, .int b :: .int a :: st => mGo y (pc + 1) lv (.int (a.toUInt32 >>> (b.toUInt32 &&& Int32.toUInt32 31)).toInt32 :: st) M
  | .ineg, .int a :: st => mGo y (pc + 1) lv (.int (-a) :: st) M
  | .i2l, .int a :: st => mGo y (pc + 1) lv (.long a.toInt64 :: st) M
  | .ladd, .long b :: .long a :: st => mGo y (pc + 1) lv (.long (a + b) :: st) M
  | .lcmp, .long b :: .long a :: st => mGo y (pc + 1) lv (.int (lg_cmp a b) :: st) M
  | _, _ => none) else none
/-- which way a comparison goes -/
def mCd (k : Jvm.ClassFile.Cond) (a b : Int32) : Bool := match k with
  | .eq => a == b
  | .ne => a != b
  | .lt => decide (a < b)
  | .ge => decide (a ≥ b)
  | .gt => decide (a > b)
  | .le => decide (a ≤ b)
/-- branches and switches -/
def mOp4 (y pc n : Nat) (lv : List (Nat × Value)) (st : List Value) (M : mHe) (i : Instr) : mRes := match i with
  | .goto off => if n = 3 then mBr y pc off lv st M else none
  | .ifCond k off => match st with
    | .int a :: st => if n = 3 then (match mTg pc off with
      | none => none
      | some t => if mCd k a 0 = true then mGo y t lv st M else mGo y (pc + 3) lv st M) else none
    | _ => none
  | .if_icmp k off => match st with
    | .int b :: .int a :: st => if n = 3 then (match mTg pc off with
      | none => none
      | some t => if mCd k a b = true then mGo y t lv st M else mGo y (pc + 3) lv st M) else none
    | _ => none
  | .tableswitch d lo hi offs => match st with
    | .int a :: st => if a.toInt < lo ∨ hi < a.toInt then mBr y pc d lv st M else (match offs[(a.toInt - lo).toNat]? with
      | some off => mBr y pc off lv st M
      | none => none)
    | _ => none
  | .lookupswitch d ps => match st with
    | .int a :: st => if (ps.toList.zip (ps.toList.drop 1)).all (fun (a, next) => a.1 < next.1) = true then mBr y pc (Op.lookupswitch.offset ps.toList d a.toInt) lv st M else none
    | _ => none
  | _ => none
/-- the type of a field -/
def mTy (ci k : Nat) : Option FieldType := (mjTys[ci]?).map (fun f => f k)
def mFit (ty : FieldType) (v : Value) : Bool := match ty, v with
  | .int, .int _ => true
  | .boolean, .int x => x == 0 || x == 1
  | .object _, .ref _ => true
  | .array _, .ref _ => true
  | _, _ => false
/-- fields and arrays; ini: the method is a constructor -/
def mOp5 (sc : Option (Nat × (Nat → Int32))) (ini : Bool) (own y pc n : Nat) (lv : List (Nat × Value)) (st : List Value) (M : mHe) (i : Instr) : mRes := match i with
  | .getfield idx => match st with
    | .ref r :: st => match mjR own idx with
      | some (_, _, 0, ci, k) => if n = 3 ∧ 9 ≤ r then (match M[r - 9]?, vwCl[ci]? with
        | some (.inr (ci', fs)), some q => if ci' = ci ∧ k.toNat < q.2.2 then (match fs[k.toNat]? with
          | some v => mGo y (pc + 3) lv (v :: st) M
          | none => none) else none
        | _, _ => none) else none
      | _ => none
    | _ => none
  | .putfield idx => match st with
    | v :: .ref r :: st => match mjR own idx with
      | some (_, _, 0, ci, k) => if n = 3 ∧ 9 ≤ r then (match M[r - 9]?, vwCl[ci]?, mTy ci k.toNat with
        | some (.inr (ci', fs)), some q, some ty => if ci' = ci ∧ k.toNat < q.2.2 ∧ k.toNat < fs.length ∧ mFit ty v = true ∧ ((q.2.1 k.toNat).2.2.2 = false ∨ ((q.2.1 k.toNat).2.2.2 = true ∧ ini = true ∧ own = ci)) then mGo y (pc + 3) lv st (M.set (r - 9) (.inr (ci, fs.set k.toNat v))) else none
        | _, _, _ => none) else none
      | _ => none
    | _ => none
  | .iaload => match st with
    | .int i :: .ref r :: st => if n = 1 then (if r = 0 then (match sc with
        | some (L, xs) => if i < 0 ∨ L ≤ i.toNatClampNeg then none else mGo y (pc + 1) lv (.int (xs i.toNatClampNeg) :: st) M
        | none => none) else if 9 ≤ r then (match M[r - 9]? with
        | some (.inl (L, f)) => if i < 0 ∨ L ≤ i.toNatClampNeg then none else mGo y (pc + 1) lv (.int (f i.toNatClampNeg) :: st) M
        | _ => none) else none) else none
    | _ => none
  | .iastore => match st with
    | .int x :: .int i :: .ref r :: st => if n = 1 ∧ 9 ≤ r then (match M[r - 9]? with
        | some (.inl (L, f)) => if i < 0 ∨ L ≤ i.toNatClampNeg then none else mGo y (pc + 1) lv st (M.set (r - 9) (.inl (L, upd f i.toNatClampNeg x)))
        | _ => none) else none
    | _ => none
  | .arraylength => match st with
    | .ref r :: st => if n = 1 then (if r = 0 then (match sc with
        | some (L, _) => mGo y (pc + 1) lv (.int (Int32.ofNat L) :: st) M
        | none => none) else if 9 ≤ r then (match M[r - 9]? with
        | some (.inl (L, _)) => mGo y (pc + 1) lv (.int (Int32.ofNat L) :: st) M
        | _ => none) else none) else none
    | _ => none
  | .newarray .int => match st with
    | .int k :: st => if n = 2 ∧ ¬ k < 0 ∧ k.toNatClampNeg ≤ 100000 then mGo y (pc + 2) lv (.ref (9 + M.length) :: st) (M ++ [.inl (k.toNatClampNeg, fun _ => 0)]) else none
    | _ => none
  | .new idx => match mjR own idx with
    | some (_, _, 10, ci, _) => match vwCl[ci]?, mjTys[ci]? with
      | some q, some ty => if n = 3 then mGo y (pc + 3) lv (.ref (9 + M.length) :: st) (M ++ [.inr (ci, (List.range q.2.2).map (fun j => defaultValue (ty j)))]) else none
      | _, _ => none
    | _ => none
  | _ => none
/-- how many parameters a method has -/
def mNp (y : Nat) : Option Nat := (parseMethodDescriptor (mjY y).desc).map (fun d => d.parameters.length)
def mCat (st : List Value) : Nat := (st.map fun v => v.category).sum
def mCall (y pc : Nat) (lv : List (Nat × Value)) (rest : List Value) (M : mHe) (y' : Nat) (vs : List Value) : mRes := match mjM y' with
  | none => none
  | some q => if mCat rest ≤ 8 ∧ (lg_sl vs).length ≤ q.2.2.1 ∧ q.2.2.1 ≤ 100 ∧ q.2.2.2.2 ≠ 13 then some (.inr (.inl (y', vs, (y, pc + 3, lv, rest)))) else none
/-- calls, at depth d -/
def mOp6 (d own y pc n : Nat) (lv : List (Nat × Value)) (st : List Value) (M : mHe) (i : Instr) : mRes := match i with
  | .invokevirtual idx => if n = 3 then (match mjR own idx with
    | some (_, _, 1, y', _) => match mNp y' with
      | none => none
      | some k => match st.drop k with
        | .ref r :: rest => if 9 ≤ r ∧ k ≤ st.length then (match M[r - 9]?, mjM y' with
          | some (.inr (ci, _)), some q => if ci = q.2.2.2.2 then mCall y pc lv rest M y' (.ref r :: (st.take k).reverse) else none
          | _, _ => none) else none
        | _ => none
    | some (_, _, 11, _, _) => match st with
      | .ref r :: rest => if 1 ≤ r ∧ r < 9 ∧ mCat rest ≤ 8 ∧ 3 ≤ d then (match mjLen[r - 1]? with
        | some k => mGo y (pc + 3) lv (.int (Int32.ofNat k) :: rest) M
        | none => none) else none
      | _ => none
    | some (_, _, 12, _, _) => match st with
      | .int ix :: .ref r :: rest => if 1 ≤ r ∧ r < 9 ∧ mCat rest ≤ 8 ∧ 6 ≤ d ∧ ¬ ix < 0 then (match ((mjByt[r - 1]?).getD [])[ix.toNatClampNeg]? with
        | some b => mGo y (pc + 3) lv (.int b :: rest) M
        | none => none) else none
      | _ => none
    | _ => none) else none
  | .invokestatic idx => if n = 3 then (match mjR own idx with
    | some (_, _, 2, y', _) => match mNp y' with
      | none => none
      | some k => if k ≤ st.length then mCall y pc lv (st.drop k) M y' (st.take k).reverse else none
    | some (_, _, 3, y', _) => match mNp y' with
      | none => none
      | some k => if k ≤ st.length then mCall y pc lv (st.drop k) M y' (st.take k).reverse else none
    | some (_, _, 13, _, _) => match st with
      | .int b :: .int a :: rest => if mCat rest ≤ 8 ∧ 1 ≤ d then mGo y (pc + 3) lv (.int (if a < b then b else a) :: rest) M else none
      | _ => none
    | some (_, _, 14, _, _) => match st with
      | .int b :: .int a :: rest => if mCat rest ≤ 8 ∧ 1 ≤ d then mGo y (pc + 3) lv (.int (if b < a then b else a) :: rest) M else none
      | _ => none
    | _ => none) else none
  | .invokespecial idx => if n = 3 then (match mjR own idx with
    | some (_, _, 4, y', _) => match mNp y' with
      | none => none
      | some k => match st.drop k with
        | .ref r :: rest => if k ≤ st.length then mCall y pc lv rest M y' (.ref r :: (st.take k).reverse) else none
        | _ => none
    | some (_, _, 5, y', _) => match mNp y' with
      | none => none
      | some k => match st.drop k with
        | .ref r :: rest => if k ≤ st.length then mCall y pc lv rest M y' (.ref r :: (st.take k).reverse) else none
        | _ => none
    | some (_, _, 6, _, _) => match st with
      | .ref r :: rest => if mCat rest ≤ 8 ∧ 1 ≤ d then mGo y (pc + 3) lv rest M else none
      | _ => none
    | _ => none) else none
  | _ => none
/-- returns -/
def mOp7 (rt : Option FieldType) (n : Nat) (st : List Value) (i : Instr) : mRes := if n = 1 then (match i, st, rt with
  | .ireturn, [.int v], some ty => if narrow ty (.int v) = .int v then some (.inr (.inr (some (.int v)))) else none
  | .return_, [], none => some (.inr (.inr none))
  | .areturn, [.ref a], some (.object _) => some (.inr (.inr (some (.ref a))))
  | _, _, _ => none) else none
def mOr (a : mRes) (b : mRes) : mRes := match a with
  | some x => some x
  | none => b
def mOp (sc : Option (Nat × (Nat → Int32))) (d : Nat) (q : mMd) (y pc n : Nat) (lv : List (Nat × Value)) (st : List Value) (M : mHe) (i : Instr) : mRes :=
  mOr (mOp1 q.2.2.2.2 y pc n lv st M i) (mOr (mOp2 q.2.2.1 y pc n lv st M i) (mOr (mOp3 y pc n lv st M i) (mOr (mOp4 y pc n lv st M i) (mOr (mOp5 sc (q.1.name == "<init>") q.2.2.2.2 y pc n lv st M i) (mOr (mOp6 d q.2.2.2.2 y pc n lv st M i) (mOp7 q.2.2.2.1 n st i))))))
/-- a step -/
def mStep (sc : Option (Nat × (Nat → Int32))) (d : Nat) (fr : mFr) (M : mHe) : mRes := match mjM fr.1 with
  | none => none
  | some q => match decode q.2.1 fr.2.1 with
    | .error _ => none
    | .ok (i, n) => mOp sc d q fr.1 fr.2.1 n fr.2.2.1 fr.2.2.2 M i
/-- a method, with n steps' fuel and d calls' depth -/
def mRun (sc : Option (Nat × (Nat → Int32))) : Nat → Nat → mFr → mHe → Option (Option Value × mHe)
  | 0, _, _, _ => none
  | n + 1, d, fr, M => match mStep sc d fr M with
    | none => none
    | some (.inl (fr', M')) => mRun sc n d fr' M'
    | some (.inr (.inl (y, vs, fr'))) => match d with
      | 0 => none
      | d + 1 => match mRun none n d (y, 0, lv_args 0 vs, []) M with
        | none => none
        | some (r, M1) => mRun sc n (d + 1) (fr'.1, fr'.2.1, fr'.2.2.1, r.toList ++ fr'.2.2.2) M1
    | some (.inr (.inr r)) => some (r, M)
