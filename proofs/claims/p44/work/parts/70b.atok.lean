/-! THE INSTRUCTIONS' ROWS ARE THE CLASS FILES': each code's bytes gone through once -/
theorem ub_at {b : ByteArray} {p : Nat} {x : UInt8} {l : List UInt8} (h : b.data.toList.drop p = x :: l) : ∃ h : p < b.size, b[p] = x := by
  have h1 : b.data.toList[p]? = some x := by
    have := congrArg (fun l => l[0]?) h
    simpa using this
  obtain ⟨h2, h3⟩ := List.getElem?_eq_some_iff.mp h1
  refine ⟨?_, ?_⟩
  · show p < b.data.size
    simpa using h2
  · rw [← h3]; rfl
theorem ub_nx {b : ByteArray} {p : Nat} {x : UInt8} {l : List UInt8} (h : b.data.toList.drop p = x :: l) : b.data.toList.drop (p + 1) = l := by
  rw [← List.drop_drop, h]; rfl
abbrev dRd (α : Type) : Type := Reader DecodeError α
def dAt {α : Type} (r : dRd α) (b : ByteArray) (p : Nat) : Except DecodeError (α × Nat) := (ReaderT.run r b).run p
theorem dAt_bind {α β : Type} {r : dRd α} {f : α → dRd β} {b : ByteArray} {p p2 : Nat} {a : α} (h : dAt r b p = .ok (a, p2)) : dAt (r >>= f) b p = dAt (f a) b p2 := by
  unfold dAt at h ⊢
  rw [ReaderT.run_bind, StateT.run_bind, h]
  rfl
theorem u1_at {b : ByteArray} {p : Nat} {x : UInt8} {l : List UInt8} (h : b.data.toList.drop p = x :: l) : dAt Reader.u1 b p = .ok (x.toNat, p + 1) := by
  obtain ⟨h1, h2⟩ := ub_at h
  unfold dAt Reader.u1
  show (dite (p < b.size) (fun h => (do set (p + 1); pure b[p].toNat : Reader DecodeError Nat)) (fun _ => throw _)) b p = _
  rw [dif_pos h1, ← h2]
  rfl
theorem u2_at {b : ByteArray} {p : Nat} {x y : UInt8} {l : List UInt8} (h : b.data.toList.drop p = x :: y :: l) : dAt Reader.u2 b p = .ok (x.toNat * 256 + y.toNat, p + 2) := by
  unfold Reader.u2
  rw [dAt_bind (u1_at h), dAt_bind (u1_at (ub_nx h))]
  rfl
theorem s1_at {b : ByteArray} {p : Nat} {x : UInt8} {l : List UInt8} (h : b.data.toList.drop p = x :: l) : dAt Reader.s1 b p = .ok (Reader.signed 8 x.toNat, p + 1) := by
  have : (Reader.s1 : dRd Int) = (Reader.u1 >>= fun a => pure (Reader.signed 8 a)) := by unfold Reader.s1; exact map_eq_pure_bind _ _
  rw [this, dAt_bind (u1_at h)]
  rfl
theorem s2_at {b : ByteArray} {p : Nat} {x y : UInt8} {l : List UInt8} (h : b.data.toList.drop p = x :: y :: l) : dAt Reader.s2 b p = .ok (Reader.signed 16 (x.toNat * 256 + y.toNat), p + 2) := by
  have : (Reader.s2 : dRd Int) = (Reader.u2 >>= fun a => pure (Reader.signed 16 a)) := by unfold Reader.s2; exact map_eq_pure_bind _ _
  rw [this, dAt_bind (u2_at h)]
  rfl
theorem dec_at {b : ByteArray} {p p2 : Nat} {i : Instr} (h : dAt (Decoder.instr p) b p = .ok (i, p2)) : decode b p = .ok (i, p2 - p) := by
  unfold decode Reader.runAt
  unfold dAt at h
  rw [h]
  rfl
theorem ins_at {b : ByteArray} {p k : Nat} {x : UInt8} {l : List UInt8} {f : Nat → dRd Instr} (hf : Decoder.instr p = (Reader.u1 >>= f)) (h : b.data.toList.drop p = x :: l) (hx : x.toNat = k) : dAt (Decoder.instr p) b p = dAt (f k) b (p + 1) := by
  rw [hf, dAt_bind (u1_at h), hx]
abbrev dF : Type := List UInt8 → Option (Instr × Nat)
def dGood (e : Nat × dF) : Prop := ∀ (b : ByteArray) (p : Nat) (x : UInt8) (l : List UInt8) (r : Instr × Nat), b.data.toList.drop p = x :: l → x.toNat = e.1 → e.2 l = some r → decode b p = .ok r
def d0 (i : Instr) : dF := fun _ => some (i, 1)
def d1 (F : Nat → Instr) : dF := fun l => match l with
  | y :: _ => some (F y.toNat, 2)
  | [] => none
def d1s (F : Int → Instr) : dF := fun l => match l with
  | y :: _ => some (F (Reader.signed 8 y.toNat), 2)
  | [] => none
def d2 (F : Nat → Instr) : dF := fun l => match l with
  | y :: z :: _ => some (F (y.toNat * 256 + z.toNat), 3)
  | _ => none
def d2s (F : Int → Instr) : dF := fun l => match l with
  | y :: z :: _ => some (F (Reader.signed 16 (y.toNat * 256 + z.toNat)), 3)
  | _ => none
def dInc : dF := fun l => match l with
  | y :: z :: _ => some (.iinc y.toNat (Reader.signed 8 z.toNat), 3)
  | _ => none
def dNa : dF := fun l => match l with
  | y :: _ => bif Nat.beq y.toNat 10 then some (.newarray .int, 2) else none
  | [] => none
theorem dNo : dGood (999, fun _ => none) := fun _ _ _ _ _ _ _ h => by cases h
section DEC
variable {b : ByteArray} {p : Nat} {x : UInt8} {l : List UInt8}
theorem dg_2 : dGood (2, d0 (.iconst (-1))) := fun b p x l r h hx hr => by
  cases hr
  have h1 : dAt (Decoder.instr p) b p = .ok (.iconst (-1), p + 1) := by
    unfold Decoder.instr
    rw [dAt_bind (u1_at h), hx]
    rfl
  rw [dec_at h1, Nat.add_sub_cancel_left]
theorem dg_3 : dGood (3, d0 (.iconst 0)) := fun b p x l r h hx hr => by
  cases hr
  have h1 : dAt (Decoder.instr p) b p = .ok (.iconst 0, p + 1) := by
    unfold Decoder.instr
    rw [dAt_bind (u1_at h), hx]
    rfl
  rw [dec_at h1, Nat.add_sub_cancel_left]
theorem dg_4 : dGood (4, d0 (.iconst 1)) := fun b p x l r h hx hr => by
  cases hr
  have h1 : dAt (Decoder.instr p) b p = .ok (.iconst 1, p + 1) := by
    unfold Decoder.instr
    rw [dAt_bind (u1_at h), hx]
    rfl
  rw [dec_at h1, Nat.add_sub_cancel_left]
theorem dg_5 : dGood (5, d0 (.iconst 2)) := fun b p x l r h hx hr => by
  cases hr
  have h1 : dAt (Decoder.instr p) b p = .ok (.iconst 2, p + 1) := by
    unfold Decoder.instr
    rw [dAt_bind (u1_at h), hx]
    rfl
  rw [dec_at h1, Nat.add_sub_cancel_left]
theorem dg_6 : dGood (6, d0 (.iconst 3)) := fun b p x l r h hx hr => by
  cases hr
  have h1 : dAt (Decoder.instr p) b p = .ok (.iconst 3, p + 1) := by
    unfold Decoder.instr
    rw [dAt_bind (u1_at h), hx]
    rfl
  rw [dec_at h1, Nat.add_sub_cancel_left]
theorem dg_7 : dGood (7, d0 (.iconst 4)) := fun b p x l r h hx hr => by
  cases hr
  have h1 : dAt (Decoder.instr p) b p = .ok (.iconst 4, p + 1) := by
    unfold Decoder.instr
    rw [dAt_bind (u1_at h), hx]
    rfl
  rw [dec_at h1, Nat.add_sub_cancel_left]
theorem dg_8 : dGood (8, d0 (.iconst 5)) := fun b p x l r h hx hr => by
  cases hr
  have h1 : dAt (Decoder.instr p) b p = .ok (.iconst 5, p + 1) := by
    unfold Decoder.instr
    rw [dAt_bind (u1_at h), hx]
    rfl
  rw [dec_at h1, Nat.add_sub_cancel_left]
theorem dg_9 : dGood (9, d0 (.lconst 0)) := fun b p x l r h hx hr => by
  cases hr
  have h1 : dAt (Decoder.instr p) b p = .ok (.lconst 0, p + 1) := by
    unfold Decoder.instr
    rw [dAt_bind (u1_at h), hx]
    rfl
  rw [dec_at h1, Nat.add_sub_cancel_left]
theorem dg_10 : dGood (10, d0 (.lconst 1)) := fun b p x l r h hx hr => by
  cases hr
  have h1 : dAt (Decoder.instr p) b p = .ok (.lconst 1, p + 1) := by
    unfold Decoder.instr
    rw [dAt_bind (u1_at h), hx]
    rfl
  rw [dec_at h1, Nat.add_sub_cancel_left]
theorem dg_26 : dGood (26, d0 (.iload_n 0)) := fun b p x l r h hx hr => by
  cases hr
  have h1 : dAt (Decoder.instr p) b p = .ok (.iload_n 0, p + 1) := by
    unfold Decoder.instr
    rw [dAt_bind (u1_at h), hx]
    rfl
  rw [dec_at h1, Nat.add_sub_cancel_left]
theorem dg_27 : dGood (27, d0 (.iload_n 1)) := fun b p x l r h hx hr => by
  cases hr
  have h1 : dAt (Decoder.instr p) b p = .ok (.iload_n 1, p + 1) := by
    unfold Decoder.instr
    rw [dAt_bind (u1_at h), hx]
    rfl
  rw [dec_at h1, Nat.add_sub_cancel_left]
theorem dg_28 : dGood (28, d0 (.iload_n 2)) := fun b p x l r h hx hr => by
  cases hr
  have h1 : dAt (Decoder.instr p) b p = .ok (.iload_n 2, p + 1) := by
    unfold Decoder.instr
    rw [dAt_bind (u1_at h), hx]
    rfl
  rw [dec_at h1, Nat.add_sub_cancel_left]
theorem dg_29 : dGood (29, d0 (.iload_n 3)) := fun b p x l r h hx hr => by
  cases hr
  have h1 : dAt (Decoder.instr p) b p = .ok (.iload_n 3, p + 1) := by
    unfold Decoder.instr
    rw [dAt_bind (u1_at h), hx]
    rfl
  rw [dec_at h1, Nat.add_sub_cancel_left]
theorem dg_30 : dGood (30, d0 (.lload_n 0)) := fun b p x l r h hx hr => by
  cases hr
  have h1 : dAt (Decoder.instr p) b p = .ok (.lload_n 0, p + 1) := by
    unfold Decoder.instr
    rw [dAt_bind (u1_at h), hx]
    rfl
  rw [dec_at h1, Nat.add_sub_cancel_left]
theorem dg_31 : dGood (31, d0 (.lload_n 1)) := fun b p x l r h hx hr => by
  cases hr
  have h1 : dAt (Decoder.instr p) b p = .ok (.lload_n 1, p + 1) := by
    unfold Decoder.instr
    rw [dAt_bind (u1_at h), hx]
    rfl
  rw [dec_at h1, Nat.add_sub_cancel_left]
theorem dg_32 : dGood (32, d0 (.lload_n 2)) := fun b p x l r h hx hr => by
  cases hr
  have h1 : dAt (Decoder.instr p) b p = .ok (.lload_n 2, p + 1) := by
    unfold Decoder.instr
    rw [dAt_bind (u1_at h), hx]
    rfl
  rw [dec_at h1, Nat.add_sub_cancel_left]
theorem dg_33 : dGood (33, d0 (.lload_n 3)) := fun b p x l r h hx hr => by
  cases hr
  have h1 : dAt (Decoder.instr p) b p = .ok (.lload_n 3, p + 1) := by
    unfold Decoder.instr
    rw [dAt_bind (u1_at h), hx]
    rfl
  rw [dec_at h1, Nat.add_sub_cancel_left]
theorem dg_42 : dGood (42, d0 (.aload_n 0)) := fun b p x l r h hx hr => by
  cases hr
  have h1 : dAt (Decoder.instr p) b p = .ok (.aload_n 0, p + 1) := by
    unfold Decoder.instr
    rw [dAt_bind (u1_at h), hx]
    rfl
  rw [dec_at h1, Nat.add_sub_cancel_left]
theorem dg_43 : dGood (43, d0 (.aload_n 1)) := fun b p x l r h hx hr => by
  cases hr
  have h1 : dAt (Decoder.instr p) b p = .ok (.aload_n 1, p + 1) := by
    unfold Decoder.instr
    rw [dAt_bind (u1_at h), hx]
    rfl
  rw [dec_at h1, Nat.add_sub_cancel_left]
theorem dg_44 : dGood (44, d0 (.aload_n 2)) := fun b p x l r h hx hr => by
  cases hr
  have h1 : dAt (Decoder.instr p) b p = .ok (.aload_n 2, p + 1) := by
    unfold Decoder.instr
    rw [dAt_bind (u1_at h), hx]
    rfl
  rw [dec_at h1, Nat.add_sub_cancel_left]
theorem dg_45 : dGood (45, d0 (.aload_n 3)) := fun b p x l r h hx hr => by
  cases hr
  have h1 : dAt (Decoder.instr p) b p = .ok (.aload_n 3, p + 1) := by
    unfold Decoder.instr
    rw [dAt_bind (u1_at h), hx]
    rfl
  rw [dec_at h1, Nat.add_sub_cancel_left]
theorem dg_46 : dGood (46, d0 (.iaload)) := fun b p x l r h hx hr => by
  cases hr
  have h1 : dAt (Decoder.instr p) b p = .ok (.iaload, p + 1) := by
    unfold Decoder.instr
    rw [dAt_bind (u1_at h), hx]
    rfl
  rw [dec_at h1, Nat.add_sub_cancel_left]
theorem dg_59 : dGood (59, d0 (.istore_n 0)) := fun b p x l r h hx hr => by
  cases hr
  have h1 : dAt (Decoder.instr p) b p = .ok (.istore_n 0, p + 1) := by
    unfold Decoder.instr
    rw [dAt_bind (u1_at h), hx]
    rfl
  rw [dec_at h1, Nat.add_sub_cancel_left]
theorem dg_60 : dGood (60, d0 (.istore_n 1)) := fun b p x l r h hx hr => by
  cases hr
  have h1 : dAt (Decoder.instr p) b p = .ok (.istore_n 1, p + 1) := by
    unfold Decoder.instr
    rw [dAt_bind (u1_at h), hx]
    rfl
  rw [dec_at h1, Nat.add_sub_cancel_left]
theorem dg_61 : dGood (61, d0 (.istore_n 2)) := fun b p x l r h hx hr => by
  cases hr
  have h1 : dAt (Decoder.instr p) b p = .ok (.istore_n 2, p + 1) := by
    unfold Decoder.instr
    rw [dAt_bind (u1_at h), hx]
    rfl
  rw [dec_at h1, Nat.add_sub_cancel_left]
theorem dg_62 : dGood (62, d0 (.istore_n 3)) := fun b p x l r h hx hr => by
  cases hr
  have h1 : dAt (Decoder.instr p) b p = .ok (.istore_n 3, p + 1) := by
    unfold Decoder.instr
    rw [dAt_bind (u1_at h), hx]
    rfl
  rw [dec_at h1, Nat.add_sub_cancel_left]
theorem dg_75 : dGood (75, d0 (.astore_n 0)) := fun b p x l r h hx hr => by
  cases hr
  have h1 : dAt (Decoder.instr p) b p = .ok (.astore_n 0, p + 1) := by
    unfold Decoder.instr
    rw [dAt_bind (u1_at h), hx]
    rfl
  rw [dec_at h1, Nat.add_sub_cancel_left]
theorem dg_76 : dGood (76, d0 (.astore_n 1)) := fun b p x l r h hx hr => by
  cases hr
  have h1 : dAt (Decoder.instr p) b p = .ok (.astore_n 1, p + 1) := by
    unfold Decoder.instr
    rw [dAt_bind (u1_at h), hx]
    rfl
  rw [dec_at h1, Nat.add_sub_cancel_left]
theorem dg_77 : dGood (77, d0 (.astore_n 2)) := fun b p x l r h hx hr => by
  cases hr
  have h1 : dAt (Decoder.instr p) b p = .ok (.astore_n 2, p + 1) := by
    unfold Decoder.instr
    rw [dAt_bind (u1_at h), hx]
    rfl
  rw [dec_at h1, Nat.add_sub_cancel_left]
theorem dg_78 : dGood (78, d0 (.astore_n 3)) := fun b p x l r h hx hr => by
  cases hr
  have h1 : dAt (Decoder.instr p) b p = .ok (.astore_n 3, p + 1) := by
    unfold Decoder.instr
    rw [dAt_bind (u1_at h), hx]
    rfl
  rw [dec_at h1, Nat.add_sub_cancel_left]
theorem dg_79 : dGood (79, d0 (.iastore)) := fun b p x l r h hx hr => by
  cases hr
  have h1 : dAt (Decoder.instr p) b p = .ok (.iastore, p + 1) := by
    unfold Decoder.instr
    rw [dAt_bind (u1_at h), hx]
    rfl
  rw [dec_at h1, Nat.add_sub_cancel_left]
theorem dg_87 : dGood (87, d0 (.pop)) := fun b p x l r h hx hr => by
  cases hr
  have h1 : dAt (Decoder.instr p) b p = .ok (.pop, p + 1) := by
    unfold Decoder.instr
    rw [dAt_bind (u1_at h), hx]
    rfl
  rw [dec_at h1, Nat.add_sub_cancel_left]
theorem dg_89 : dGood (89, d0 (.dup)) := fun b p x l r h hx hr => by
  cases hr
  have h1 : dAt (Decoder.instr p) b p = .ok (.dup, p + 1) := by
    unfold Decoder.instr
    rw [dAt_bind (u1_at h), hx]
    rfl
  rw [dec_at h1, Nat.add_sub_cancel_left]
theorem dg_92 : dGood (92, d0 (.dup2)) := fun b p x l r h hx hr => by
  cases hr
  have h1 : dAt (Decoder.instr p) b p = .ok (.dup2, p + 1) := by
    unfold Decoder.instr
    rw [dAt_bind (u1_at h), hx]
    rfl
  rw [dec_at h1, Nat.add_sub_cancel_left]
theorem dg_96 : dGood (96, d0 (.iadd)) := fun b p x l r h hx hr => by
  cases hr
  have h1 : dAt (Decoder.instr p) b p = .ok (.iadd, p + 1) := by
    unfold Decoder.instr
    rw [dAt_bind (u1_at h), hx]
    rfl
  rw [dec_at h1, Nat.add_sub_cancel_left]
theorem dg_97 : dGood (97, d0 (.ladd)) := fun b p x l r h hx hr => by
  cases hr
  have h1 : dAt (Decoder.instr p) b p = .ok (.ladd, p + 1) := by
    unfold Decoder.instr
    rw [dAt_bind (u1_at h), hx]
    rfl
  rw [dec_at h1, Nat.add_sub_cancel_left]
theorem dg_100 : dGood (100, d0 (.isub)) := fun b p x l r h hx hr => by
  cases hr
  have h1 : dAt (Decoder.instr p) b p = .ok (.isub, p + 1) := by
    unfold Decoder.instr
    rw [dAt_bind (u1_at h), hx]
    rfl
  rw [dec_at h1, Nat.add_sub_cancel_left]
theorem dg_104 : dGood (104, d0 (.imul)) := fun b p x l r h hx hr => by
  cases hr
  have h1 : dAt (Decoder.instr p) b p = .ok (.imul, p + 1) := by
    unfold Decoder.instr
    rw [dAt_bind (u1_at h), hx]
    rfl
  rw [dec_at h1, Nat.add_sub_cancel_left]
theorem dg_108 : dGood (108, d0 (.idiv)) := fun b p x l r h hx hr => by
  cases hr
  have h1 : dAt (Decoder.instr p) b p = .ok (.idiv, p + 1) := by
    unfold Decoder.instr
    rw [dAt_bind (u1_at h), hx]
    rfl
  rw [dec_at h1, Nat.add_sub_cancel_left]
theorem dg_112 : dGood (112, d0 (.irem)) := fun b p x l r h hx hr => by
  cases hr
  have h1 : dAt (Decoder.instr p) b p = .ok (.irem, p + 1) := by
    unfold Decoder.instr
    rw [dAt_bind (u1_at h), hx]
    rfl
  rw [dec_at h1, Nat.add_sub_cancel_left]
theorem dg_116 : dGood (116, d0 (.ineg)) := fun b p x l r h hx hr => by
  cases hr
  have h1 : dAt (Decoder.instr p) b p = .ok (.ineg, p + 1) := by
    unfold Decoder.instr
    rw [dAt_bind (u1_at h), hx]
    rfl
  rw [dec_at h1, Nat.add_sub_cancel_left]
theorem dg_120 : dGood (120, d0 (.ishl)) := fun b p x l r h hx hr => by
  cases hr
  have h1 : dAt (Decoder.instr p) b p = .ok (.ishl, p + 1) := by
    unfold Decoder.instr
    rw [dAt_bind (u1_at h), hx]
    rfl
  rw [dec_at h1, Nat.add_sub_cancel_left]
theorem dg_122 : dGood (122, d0 (.ishr)) := fun b p x l r h hx hr => by
  cases hr
  have h1 : dAt (Decoder.instr p) b p = .ok (.ishr, p + 1) := by
    unfold Decoder.instr
    rw [dAt_bind (u1_at h), hx]
    rfl
  rw [dec_at h1, Nat.add_sub_cancel_left]
theorem dg_124 : dGood (124, d0 (.iushr)) := fun b p x l r h hx hr => by
  cases hr
  have h1 : dAt (Decoder.instr p) b p = .ok (.iushr, p + 1) := by
    unfold Decoder.instr
    rw [dAt_bind (u1_at h), hx]
    rfl
  rw [dec_at h1, Nat.add_sub_cancel_left]
theorem dg_126 : dGood (126, d0 (.iand)) := fun b p x l r h hx hr => by
  cases hr
  have h1 : dAt (Decoder.instr p) b p = .ok (.iand, p + 1) := by
    unfold Decoder.instr
    rw [dAt_bind (u1_at h), hx]
    rfl
  rw [dec_at h1, Nat.add_sub_cancel_left]
theorem dg_128 : dGood (128, d0 (.ior)) := fun b p x l r h hx hr => by
  cases hr
  have h1 : dAt (Decoder.instr p) b p = .ok (.ior, p + 1) := by
    unfold Decoder.instr
    rw [dAt_bind (u1_at h), hx]
    rfl
  rw [dec_at h1, Nat.add_sub_cancel_left]
theorem dg_130 : dGood (130, d0 (.ixor)) := fun b p x l r h hx hr => by
  cases hr
  have h1 : dAt (Decoder.instr p) b p = .ok (.ixor, p + 1) := by
    unfold Decoder.instr
    rw [dAt_bind (u1_at h), hx]
    rfl
  rw [dec_at h1, Nat.add_sub_cancel_left]
theorem dg_133 : dGood (133, d0 (.i2l)) := fun b p x l r h hx hr => by
  cases hr
  have h1 : dAt (Decoder.instr p) b p = .ok (.i2l, p + 1) := by
    unfold Decoder.instr
    rw [dAt_bind (u1_at h), hx]
    rfl
  rw [dec_at h1, Nat.add_sub_cancel_left]
theorem dg_148 : dGood (148, d0 (.lcmp)) := fun b p x l r h hx hr => by
  cases hr
  have h1 : dAt (Decoder.instr p) b p = .ok (.lcmp, p + 1) := by
    unfold Decoder.instr
    rw [dAt_bind (u1_at h), hx]
    rfl
  rw [dec_at h1, Nat.add_sub_cancel_left]
theorem dg_172 : dGood (172, d0 (.ireturn)) := fun b p x l r h hx hr => by
  cases hr
  have h1 : dAt (Decoder.instr p) b p = .ok (.ireturn, p + 1) := by
    unfold Decoder.instr
    rw [dAt_bind (u1_at h), hx]
    rfl
  rw [dec_at h1, Nat.add_sub_cancel_left]
theorem dg_176 : dGood (176, d0 (.areturn)) := fun b p x l r h hx hr => by
  cases hr
  have h1 : dAt (Decoder.instr p) b p = .ok (.areturn, p + 1) := by
    unfold Decoder.instr
    rw [dAt_bind (u1_at h), hx]
    rfl
  rw [dec_at h1, Nat.add_sub_cancel_left]
theorem dg_177 : dGood (177, d0 (.return_)) := fun b p x l r h hx hr => by
  cases hr
  have h1 : dAt (Decoder.instr p) b p = .ok (.return_, p + 1) := by
    unfold Decoder.instr
    rw [dAt_bind (u1_at h), hx]
    rfl
  rw [dec_at h1, Nat.add_sub_cancel_left]
theorem dg_190 : dGood (190, d0 (.arraylength)) := fun b p x l r h hx hr => by
  cases hr
  have h1 : dAt (Decoder.instr p) b p = .ok (.arraylength, p + 1) := by
    unfold Decoder.instr
    rw [dAt_bind (u1_at h), hx]
    rfl
  rw [dec_at h1, Nat.add_sub_cancel_left]
theorem dg_18 : dGood (18, d1 Instr.ldc) := fun b p x l r h hx hr => by
  replace hr : d1 Instr.ldc l = some r := hr
  unfold d1 at hr
  split at hr
  · next y l2 =>
    cases hr
    have h1 : dAt (Decoder.instr p) b p = .ok (Instr.ldc (y.toNat), p + 1 + 1) := by
      unfold Decoder.instr
      rw [dAt_bind (u1_at h), hx]
      show dAt (Reader.u1 >>= fun a => pure (Instr.ldc a)) b (p + 1) = _
      rw [dAt_bind (u1_at (ub_nx h))]
      rfl
    rw [dec_at h1]
    congr 2
    omega
  · cases hr
theorem dg_21 : dGood (21, d1 Instr.iload) := fun b p x l r h hx hr => by
  replace hr : d1 Instr.iload l = some r := hr
  unfold d1 at hr
  split at hr
  · next y l2 =>
    cases hr
    have h1 : dAt (Decoder.instr p) b p = .ok (Instr.iload (y.toNat), p + 1 + 1) := by
      unfold Decoder.instr
      rw [dAt_bind (u1_at h), hx]
      show dAt (Reader.u1 >>= fun a => pure (Instr.iload a)) b (p + 1) = _
      rw [dAt_bind (u1_at (ub_nx h))]
      rfl
    rw [dec_at h1]
    congr 2
    omega
  · cases hr
theorem dg_22 : dGood (22, d1 Instr.lload) := fun b p x l r h hx hr => by
  replace hr : d1 Instr.lload l = some r := hr
  unfold d1 at hr
  split at hr
  · next y l2 =>
    cases hr
    have h1 : dAt (Decoder.instr p) b p = .ok (Instr.lload (y.toNat), p + 1 + 1) := by
      unfold Decoder.instr
      rw [dAt_bind (u1_at h), hx]
      show dAt (Reader.u1 >>= fun a => pure (Instr.lload a)) b (p + 1) = _
      rw [dAt_bind (u1_at (ub_nx h))]
      rfl
    rw [dec_at h1]
    congr 2
    omega
  · cases hr
theorem dg_25 : dGood (25, d1 Instr.aload) := fun b p x l r h hx hr => by
  replace hr : d1 Instr.aload l = some r := hr
  unfold d1 at hr
  split at hr
  · next y l2 =>
    cases hr
    have h1 : dAt (Decoder.instr p) b p = .ok (Instr.aload (y.toNat), p + 1 + 1) := by
      unfold Decoder.instr
      rw [dAt_bind (u1_at h), hx]
      show dAt (Reader.u1 >>= fun a => pure (Instr.aload a)) b (p + 1) = _
      rw [dAt_bind (u1_at (ub_nx h))]
      rfl
    rw [dec_at h1]
    congr 2
    omega
  · cases hr
theorem dg_54 : dGood (54, d1 Instr.istore) := fun b p x l r h hx hr => by
  replace hr : d1 Instr.istore l = some r := hr
  unfold d1 at hr
  split at hr
  · next y l2 =>
    cases hr
    have h1 : dAt (Decoder.instr p) b p = .ok (Instr.istore (y.toNat), p + 1 + 1) := by
      unfold Decoder.instr
      rw [dAt_bind (u1_at h), hx]
      show dAt (Reader.u1 >>= fun a => pure (Instr.istore a)) b (p + 1) = _
      rw [dAt_bind (u1_at (ub_nx h))]
      rfl
    rw [dec_at h1]
    congr 2
    omega
  · cases hr
theorem dg_58 : dGood (58, d1 Instr.astore) := fun b p x l r h hx hr => by
  replace hr : d1 Instr.astore l = some r := hr
  unfold d1 at hr
  split at hr
  · next y l2 =>
    cases hr
    have h1 : dAt (Decoder.instr p) b p = .ok (Instr.astore (y.toNat), p + 1 + 1) := by
      unfold Decoder.instr
      rw [dAt_bind (u1_at h), hx]
      show dAt (Reader.u1 >>= fun a => pure (Instr.astore a)) b (p + 1) = _
      rw [dAt_bind (u1_at (ub_nx h))]
      rfl
    rw [dec_at h1]
    congr 2
    omega
  · cases hr
theorem dg_16 : dGood (16, d1s Instr.bipush) := fun b p x l r h hx hr => by
  replace hr : d1s Instr.bipush l = some r := hr
  unfold d1s at hr
  split at hr
  · next y l2 =>
    cases hr
    have h1 : dAt (Decoder.instr p) b p = .ok (Instr.bipush (Reader.signed 8 y.toNat), p + 1 + 1) := by
      unfold Decoder.instr
      rw [dAt_bind (u1_at h), hx]
      show dAt (Reader.s1 >>= fun a => pure (Instr.bipush a)) b (p + 1) = _
      rw [dAt_bind (s1_at (ub_nx h))]
      rfl
    rw [dec_at h1]
    congr 2
    omega
  · cases hr
theorem dg_19 : dGood (19, d2 Instr.ldc_w) := fun b p x l r h hx hr => by
  replace hr : d2 Instr.ldc_w l = some r := hr
  unfold d2 at hr
  split at hr
  · next y z l2 =>
    cases hr
    have h1 : dAt (Decoder.instr p) b p = .ok (Instr.ldc_w (y.toNat * 256 + z.toNat), p + 1 + 2) := by
      unfold Decoder.instr
      rw [dAt_bind (u1_at h), hx]
      show dAt (Reader.u2 >>= fun a => pure (Instr.ldc_w a)) b (p + 1) = _
      rw [dAt_bind (u2_at (ub_nx h))]
      rfl
    rw [dec_at h1]
    congr 2
    omega
  · cases hr
theorem dg_20 : dGood (20, d2 Instr.ldc2_w) := fun b p x l r h hx hr => by
  replace hr : d2 Instr.ldc2_w l = some r := hr
  unfold d2 at hr
  split at hr
  · next y z l2 =>
    cases hr
    have h1 : dAt (Decoder.instr p) b p = .ok (Instr.ldc2_w (y.toNat * 256 + z.toNat), p + 1 + 2) := by
      unfold Decoder.instr
      rw [dAt_bind (u1_at h), hx]
      show dAt (Reader.u2 >>= fun a => pure (Instr.ldc2_w a)) b (p + 1) = _
      rw [dAt_bind (u2_at (ub_nx h))]
      rfl
    rw [dec_at h1]
    congr 2
    omega
  · cases hr
theorem dg_180 : dGood (180, d2 Instr.getfield) := fun b p x l r h hx hr => by
  replace hr : d2 Instr.getfield l = some r := hr
  unfold d2 at hr
  split at hr
  · next y z l2 =>
    cases hr
    have h1 : dAt (Decoder.instr p) b p = .ok (Instr.getfield (y.toNat * 256 + z.toNat), p + 1 + 2) := by
      unfold Decoder.instr
      rw [dAt_bind (u1_at h), hx]
      show dAt (Reader.u2 >>= fun a => pure (Instr.getfield a)) b (p + 1) = _
      rw [dAt_bind (u2_at (ub_nx h))]
      rfl
    rw [dec_at h1]
    congr 2
    omega
  · cases hr
theorem dg_181 : dGood (181, d2 Instr.putfield) := fun b p x l r h hx hr => by
  replace hr : d2 Instr.putfield l = some r := hr
  unfold d2 at hr
  split at hr
  · next y z l2 =>
    cases hr
    have h1 : dAt (Decoder.instr p) b p = .ok (Instr.putfield (y.toNat * 256 + z.toNat), p + 1 + 2) := by
      unfold Decoder.instr
      rw [dAt_bind (u1_at h), hx]
      show dAt (Reader.u2 >>= fun a => pure (Instr.putfield a)) b (p + 1) = _
      rw [dAt_bind (u2_at (ub_nx h))]
      rfl
    rw [dec_at h1]
    congr 2
    omega
  · cases hr
theorem dg_182 : dGood (182, d2 Instr.invokevirtual) := fun b p x l r h hx hr => by
  replace hr : d2 Instr.invokevirtual l = some r := hr
  unfold d2 at hr
  split at hr
  · next y z l2 =>
    cases hr
    have h1 : dAt (Decoder.instr p) b p = .ok (Instr.invokevirtual (y.toNat * 256 + z.toNat), p + 1 + 2) := by
      unfold Decoder.instr
      rw [dAt_bind (u1_at h), hx]
      show dAt (Reader.u2 >>= fun a => pure (Instr.invokevirtual a)) b (p + 1) = _
      rw [dAt_bind (u2_at (ub_nx h))]
      rfl
    rw [dec_at h1]
    congr 2
    omega
  · cases hr
theorem dg_183 : dGood (183, d2 Instr.invokespecial) := fun b p x l r h hx hr => by
  replace hr : d2 Instr.invokespecial l = some r := hr
  unfold d2 at hr
  split at hr
  · next y z l2 =>
    cases hr
    have h1 : dAt (Decoder.instr p) b p = .ok (Instr.invokespecial (y.toNat * 256 + z.toNat), p + 1 + 2) := by
      unfold Decoder.instr
      rw [dAt_bind (u1_at h), hx]
      show dAt (Reader.u2 >>= fun a => pure (Instr.invokespecial a)) b (p + 1) = _
      rw [dAt_bind (u2_at (ub_nx h))]
      rfl
    rw [dec_at h1]
    congr 2
    omega
  · cases hr
theorem dg_184 : dGood (184, d2 Instr.invokestatic) := fun b p x l r h hx hr => by
  replace hr : d2 Instr.invokestatic l = some r := hr
  unfold d2 at hr
  split at hr
  · next y z l2 =>
    cases hr
    have h1 : dAt (Decoder.instr p) b p = .ok (Instr.invokestatic (y.toNat * 256 + z.toNat), p + 1 + 2) := by
      unfold Decoder.instr
      rw [dAt_bind (u1_at h), hx]
      show dAt (Reader.u2 >>= fun a => pure (Instr.invokestatic a)) b (p + 1) = _
      rw [dAt_bind (u2_at (ub_nx h))]
      rfl
    rw [dec_at h1]
    congr 2
    omega
  · cases hr
theorem dg_187 : dGood (187, d2 Instr.new) := fun b p x l r h hx hr => by
  replace hr : d2 Instr.new l = some r := hr
  unfold d2 at hr
  split at hr
  · next y z l2 =>
    cases hr
    have h1 : dAt (Decoder.instr p) b p = .ok (Instr.new (y.toNat * 256 + z.toNat), p + 1 + 2) := by
      unfold Decoder.instr
      rw [dAt_bind (u1_at h), hx]
      show dAt (Reader.u2 >>= fun a => pure (Instr.new a)) b (p + 1) = _
      rw [dAt_bind (u2_at (ub_nx h))]
      rfl
    rw [dec_at h1]
    congr 2
    omega
  · cases hr
theorem dg_17 : dGood (17, d2s (Instr.sipush)) := fun b p x l r h hx hr => by
  replace hr : d2s (Instr.sipush) l = some r := hr
  unfold d2s at hr
  split at hr
  · next y z l2 =>
    cases hr
    have h1 : dAt (Decoder.instr p) b p = .ok ((Instr.sipush) (Reader.signed 16 (y.toNat * 256 + z.toNat)), p + 1 + 2) := by
      unfold Decoder.instr
      rw [dAt_bind (u1_at h), hx]
      show dAt (Reader.s2 >>= fun a => pure ((Instr.sipush) a)) b (p + 1) = _
      rw [dAt_bind (s2_at (ub_nx h))]
      rfl
    rw [dec_at h1]
    congr 2
    omega
  · cases hr
theorem dg_153 : dGood (153, d2s (Instr.ifCond .eq)) := fun b p x l r h hx hr => by
  replace hr : d2s (Instr.ifCond .eq) l = some r := hr
  unfold d2s at hr
  split at hr
  · next y z l2 =>
    cases hr
    have h1 : dAt (Decoder.instr p) b p = .ok ((Instr.ifCond .eq) (Reader.signed 16 (y.toNat * 256 + z.toNat)), p + 1 + 2) := by
      unfold Decoder.instr
      rw [dAt_bind (u1_at h), hx]
      show dAt (Reader.s2 >>= fun a => pure ((Instr.ifCond .eq) a)) b (p + 1) = _
      rw [dAt_bind (s2_at (ub_nx h))]
      rfl
    rw [dec_at h1]
    congr 2
    omega
  · cases hr
theorem dg_154 : dGood (154, d2s (Instr.ifCond .ne)) := fun b p x l r h hx hr => by
  replace hr : d2s (Instr.ifCond .ne) l = some r := hr
  unfold d2s at hr
  split at hr
  · next y z l2 =>
    cases hr
    have h1 : dAt (Decoder.instr p) b p = .ok ((Instr.ifCond .ne) (Reader.signed 16 (y.toNat * 256 + z.toNat)), p + 1 + 2) := by
      unfold Decoder.instr
      rw [dAt_bind (u1_at h), hx]
      show dAt (Reader.s2 >>= fun a => pure ((Instr.ifCond .ne) a)) b (p + 1) = _
      rw [dAt_bind (s2_at (ub_nx h))]
      rfl
    rw [dec_at h1]
    congr 2
    omega
  · cases hr
theorem dg_155 : dGood (155, d2s (Instr.ifCond .lt)) := fun b p x l r h hx hr => by
  replace hr : d2s (Instr.ifCond .lt) l = some r := hr
  unfold d2s at hr
  split at hr
  · next y z l2 =>
    cases hr
    have h1 : dAt (Decoder.instr p) b p = .ok ((Instr.ifCond .lt) (Reader.signed 16 (y.toNat * 256 + z.toNat)), p + 1 + 2) := by
      unfold Decoder.instr
      rw [dAt_bind (u1_at h), hx]
      show dAt (Reader.s2 >>= fun a => pure ((Instr.ifCond .lt) a)) b (p + 1) = _
      rw [dAt_bind (s2_at (ub_nx h))]
      rfl
    rw [dec_at h1]
    congr 2
    omega
  · cases hr
theorem dg_156 : dGood (156, d2s (Instr.ifCond .ge)) := fun b p x l r h hx hr => by
  replace hr : d2s (Instr.ifCond .ge) l = some r := hr
  unfold d2s at hr
  split at hr
  · next y z l2 =>
    cases hr
    have h1 : dAt (Decoder.instr p) b p = .ok ((Instr.ifCond .ge) (Reader.signed 16 (y.toNat * 256 + z.toNat)), p + 1 + 2) := by
      unfold Decoder.instr
      rw [dAt_bind (u1_at h), hx]
      show dAt (Reader.s2 >>= fun a => pure ((Instr.ifCond .ge) a)) b (p + 1) = _
      rw [dAt_bind (s2_at (ub_nx h))]
      rfl
    rw [dec_at h1]
    congr 2
    omega
  · cases hr
theorem dg_157 : dGood (157, d2s (Instr.ifCond .gt)) := fun b p x l r h hx hr => by
  replace hr : d2s (Instr.ifCond .gt) l = some r := hr
  unfold d2s at hr
  split at hr
  · next y z l2 =>
    cases hr
    have h1 : dAt (Decoder.instr p) b p = .ok ((Instr.ifCond .gt) (Reader.signed 16 (y.toNat * 256 + z.toNat)), p + 1 + 2) := by
      unfold Decoder.instr
      rw [dAt_bind (u1_at h), hx]
      show dAt (Reader.s2 >>= fun a => pure ((Instr.ifCond .gt) a)) b (p + 1) = _
      rw [dAt_bind (s2_at (ub_nx h))]
      rfl
    rw [dec_at h1]
    congr 2
    omega
  · cases hr
theorem dg_158 : dGood (158, d2s (Instr.ifCond .le)) := fun b p x l r h hx hr => by
  replace hr : d2s (Instr.ifCond .le) l = some r := hr
  unfold d2s at hr
  split at hr
  · next y z l2 =>
    cases hr
    have h1 : dAt (Decoder.instr p) b p = .ok ((Instr.ifCond .le) (Reader.signed 16 (y.toNat * 256 + z.toNat)), p + 1 + 2) := by
      unfold Decoder.instr
      rw [dAt_bind (u1_at h), hx]
      show dAt (Reader.s2 >>= fun a => pure ((Instr.ifCond .le) a)) b (p + 1) = _
      rw [dAt_bind (s2_at (ub_nx h))]
      rfl
    rw [dec_at h1]
    congr 2
    omega
  · cases hr
theorem dg_159 : dGood (159, d2s (Instr.if_icmp .eq)) := fun b p x l r h hx hr => by
  replace hr : d2s (Instr.if_icmp .eq) l = some r := hr
  unfold d2s at hr
  split at hr
  · next y z l2 =>
    cases hr
    have h1 : dAt (Decoder.instr p) b p = .ok ((Instr.if_icmp .eq) (Reader.signed 16 (y.toNat * 256 + z.toNat)), p + 1 + 2) := by
      unfold Decoder.instr
      rw [dAt_bind (u1_at h), hx]
      show dAt (Reader.s2 >>= fun a => pure ((Instr.if_icmp .eq) a)) b (p + 1) = _
      rw [dAt_bind (s2_at (ub_nx h))]
      rfl
    rw [dec_at h1]
    congr 2
    omega
  · cases hr
theorem dg_160 : dGood (160, d2s (Instr.if_icmp .ne)) := fun b p x l r h hx hr => by
  replace hr : d2s (Instr.if_icmp .ne) l = some r := hr
  unfold d2s at hr
  split at hr
  · next y z l2 =>
    cases hr
    have h1 : dAt (Decoder.instr p) b p = .ok ((Instr.if_icmp .ne) (Reader.signed 16 (y.toNat * 256 + z.toNat)), p + 1 + 2) := by
      unfold Decoder.instr
      rw [dAt_bind (u1_at h), hx]
      show dAt (Reader.s2 >>= fun a => pure ((Instr.if_icmp .ne) a)) b (p + 1) = _
      rw [dAt_bind (s2_at (ub_nx h))]
      rfl
    rw [dec_at h1]
    congr 2
    omega
  · cases hr
theorem dg_161 : dGood (161, d2s (Instr.if_icmp .lt)) := fun b p x l r h hx hr => by
  replace hr : d2s (Instr.if_icmp .lt) l = some r := hr
  unfold d2s at hr
  split at hr
  · next y z l2 =>
    cases hr
    have h1 : dAt (Decoder.instr p) b p = .ok ((Instr.if_icmp .lt) (Reader.signed 16 (y.toNat * 256 + z.toNat)), p + 1 + 2) := by
      unfold Decoder.instr
      rw [dAt_bind (u1_at h), hx]
      show dAt (Reader.s2 >>= fun a => pure ((Instr.if_icmp .lt) a)) b (p + 1) = _
      rw [dAt_bind (s2_at (ub_nx h))]
      rfl
    rw [dec_at h1]
    congr 2
    omega
  · cases hr
theorem dg_162 : dGood (162, d2s (Instr.if_icmp .ge)) := fun b p x l r h hx hr => by
  replace hr : d2s (Instr.if_icmp .ge) l = some r := hr
  unfold d2s at hr
  split at hr
  · next y z l2 =>
    cases hr
    have h1 : dAt (Decoder.instr p) b p = .ok ((Instr.if_icmp .ge) (Reader.signed 16 (y.toNat * 256 + z.toNat)), p + 1 + 2) := by
      unfold Decoder.instr
      rw [dAt_bind (u1_at h), hx]
      show dAt (Reader.s2 >>= fun a => pure ((Instr.if_icmp .ge) a)) b (p + 1) = _
      rw [dAt_bind (s2_at (ub_nx h))]
      rfl
    rw [dec_at h1]
    congr 2
    omega
  · cases hr
theorem dg_163 : dGood (163, d2s (Instr.if_icmp .gt)) := fun b p x l r h hx hr => by
  replace hr : d2s (Instr.if_icmp .gt) l = some r := hr
  unfold d2s at hr
  split at hr
  · next y z l2 =>
    cases hr
    have h1 : dAt (Decoder.instr p) b p = .ok ((Instr.if_icmp .gt) (Reader.signed 16 (y.toNat * 256 + z.toNat)), p + 1 + 2) := by
      unfold Decoder.instr
      rw [dAt_bind (u1_at h), hx]
      show dAt (Reader.s2 >>= fun a => pure ((Instr.if_icmp .gt) a)) b (p + 1) = _
      rw [dAt_bind (s2_at (ub_nx h))]
      rfl
    rw [dec_at h1]
    congr 2
    omega
  · cases hr
theorem dg_164 : dGood (164, d2s (Instr.if_icmp .le)) := fun b p x l r h hx hr => by
  replace hr : d2s (Instr.if_icmp .le) l = some r := hr
  unfold d2s at hr
  split at hr
  · next y z l2 =>
    cases hr
    have h1 : dAt (Decoder.instr p) b p = .ok ((Instr.if_icmp .le) (Reader.signed 16 (y.toNat * 256 + z.toNat)), p + 1 + 2) := by
      unfold Decoder.instr
      rw [dAt_bind (u1_at h), hx]
      show dAt (Reader.s2 >>= fun a => pure ((Instr.if_icmp .le) a)) b (p + 1) = _
      rw [dAt_bind (s2_at (ub_nx h))]
      rfl
    rw [dec_at h1]
    congr 2
    omega
  · cases hr
theorem dg_167 : dGood (167, d2s (Instr.goto)) := fun b p x l r h hx hr => by
  replace hr : d2s (Instr.goto) l = some r := hr
  unfold d2s at hr
  split at hr
  · next y z l2 =>
    cases hr
    have h1 : dAt (Decoder.instr p) b p = .ok ((Instr.goto) (Reader.signed 16 (y.toNat * 256 + z.toNat)), p + 1 + 2) := by
      unfold Decoder.instr
      rw [dAt_bind (u1_at h), hx]
      show dAt (Reader.s2 >>= fun a => pure ((Instr.goto) a)) b (p + 1) = _
      rw [dAt_bind (s2_at (ub_nx h))]
      rfl
    rw [dec_at h1]
    congr 2
    omega
  · cases hr
theorem dg_132 : dGood (132, dInc) := fun b p x l r h hx hr => by
  replace hr : dInc l = some r := hr
  unfold dInc at hr
  split at hr
  · next y z l2 =>
    cases hr
    have h1 : dAt (Decoder.instr p) b p = .ok (.iinc y.toNat (Reader.signed 8 z.toNat), p + 1 + 1 + 1) := by
      unfold Decoder.instr
      rw [dAt_bind (u1_at h), hx]
      show dAt (Reader.u1 >>= fun a => Reader.s1 >>= fun c => pure (Instr.iinc a c)) b (p + 1) = _
      rw [dAt_bind (u1_at (ub_nx h)), dAt_bind (s1_at (ub_nx (ub_nx h)))]
      rfl
    rw [dec_at h1]
    congr 2
    omega
  · cases hr
theorem dg_188 : dGood (188, dNa) := fun b p x l r h hx hr => by
  replace hr : dNa l = some r := hr
  unfold dNa at hr
  split at hr
  · next y l2 =>
    cases hb : Nat.beq y.toNat 10
    · rw [hb, cond_false] at hr; cases hr
    · rw [hb, cond_true] at hr
      cases hr
      have hy := Nat.eq_of_beq_eq_true hb
      have h1 : dAt (Decoder.instr p) b p = .ok (.newarray .int, p + 1 + 1) := by
        unfold Decoder.instr
        rw [dAt_bind (u1_at h), hx]
        show dAt (Decoder.newarray p) b (p + 1) = _
        unfold Decoder.newarray
        rw [dAt_bind (u1_at (ub_nx h)), hy]
        rfl
      rw [dec_at h1]
      congr 2
      omega
  · cases hr
end DEC
def dT_0 : List (Nat × dF) := [(999, fun _ => none), (999, fun _ => none), (2, d0 (.iconst (-1))), (3, d0 (.iconst 0)), (4, d0 (.iconst 1)), (5, d0 (.iconst 2)), (6, d0 (.iconst 3)), (7, d0 (.iconst 4)), (8, d0 (.iconst 5)), (9, d0 (.lconst 0)), (10, d0 (.lconst 1)), (999, fun _ => none), (999, fun _ => none), (999, fun _ => none), (999, fun _ => none), (999, fun _ => none)]
theorem dTg_0 : ∀ e ∈ dT_0, dGood e := List.forall_mem_cons.mpr ⟨dNo, List.forall_mem_cons.mpr ⟨dNo, List.forall_mem_cons.mpr ⟨dg_2, List.forall_mem_cons.mpr ⟨dg_3, List.forall_mem_cons.mpr ⟨dg_4, List.forall_mem_cons.mpr ⟨dg_5, List.forall_mem_cons.mpr ⟨dg_6, List.forall_mem_cons.mpr ⟨dg_7, List.forall_mem_cons.mpr ⟨dg_8, List.forall_mem_cons.mpr ⟨dg_9, List.forall_mem_cons.mpr ⟨dg_10, List.forall_mem_cons.mpr ⟨dNo, List.forall_mem_cons.mpr ⟨dNo, List.forall_mem_cons.mpr ⟨dNo, List.forall_mem_cons.mpr ⟨dNo, List.forall_mem_cons.mpr ⟨dNo, fun _ h => absurd h List.not_mem_nil⟩⟩⟩⟩⟩⟩⟩⟩⟩⟩⟩⟩⟩⟩⟩⟩
def dT_1 : List (Nat × dF) := [(16, d1s Instr.bipush), (17, d2s (Instr.sipush)), (18, d1 Instr.ldc), (19, d2 Instr.ldc_w), (20, d2 Instr.ldc2_w), (21, d1 Instr.iload), (22, d1 Instr.lload), (999, fun _ => none), (999, fun _ => none), (25, d1 Instr.aload), (26, d0 (.iload_n 0)), (27, d0 (.iload_n 1)), (28, d0 (.iload_n 2)), (29, d0 (.iload_n 3)), (30, d0 (.lload_n 0)), (31, d0 (.lload_n 1))]
theorem dTg_1 : ∀ e ∈ dT_1, dGood e := List.forall_mem_cons.mpr ⟨dg_16, List.forall_mem_cons.mpr ⟨dg_17, List.forall_mem_cons.mpr ⟨dg_18, List.forall_mem_cons.mpr ⟨dg_19, List.forall_mem_cons.mpr ⟨dg_20, List.forall_mem_cons.mpr ⟨dg_21, List.forall_mem_cons.mpr ⟨dg_22, List.forall_mem_cons.mpr ⟨dNo, List.forall_mem_cons.mpr ⟨dNo, List.forall_mem_cons.mpr ⟨dg_25, List.forall_mem_cons.mpr ⟨dg_26, List.forall_mem_cons.mpr ⟨dg_27, List.forall_mem_cons.mpr ⟨dg_28, List.forall_mem_cons.mpr ⟨dg_29, List.forall_mem_cons.mpr ⟨dg_30, List.forall_mem_cons.mpr ⟨dg_31, fun _ h => absurd h List.not_mem_nil⟩⟩⟩⟩⟩⟩⟩⟩⟩⟩⟩⟩⟩⟩⟩⟩
def dT_2 : List (Nat × dF) := [(32, d0 (.lload_n 2)), (33, d0 (.lload_n 3)), (999, fun _ => none), (999, fun _ => none), (999, fun _ => none), (999, fun _ => none), (999, fun _ => none), (999, fun _ => none), (999, fun _ => none), (999, fun _ => none), (42, d0 (.aload_n 0)), (43, d0 (.aload_n 1)), (44, d0 (.aload_n 2)), (45, d0 (.aload_n 3)), (46, d0 (.iaload)), (999, fun _ => none)]
theorem dTg_2 : ∀ e ∈ dT_2, dGood e := List.forall_mem_cons.mpr ⟨dg_32, List.forall_mem_cons.mpr ⟨dg_33, List.forall_mem_cons.mpr ⟨dNo, List.forall_mem_cons.mpr ⟨dNo, List.forall_mem_cons.mpr ⟨dNo, List.forall_mem_cons.mpr ⟨dNo, List.forall_mem_cons.mpr ⟨dNo, List.forall_mem_cons.mpr ⟨dNo, List.forall_mem_cons.mpr ⟨dNo, List.forall_mem_cons.mpr ⟨dNo, List.forall_mem_cons.mpr ⟨dg_42, List.forall_mem_cons.mpr ⟨dg_43, List.forall_mem_cons.mpr ⟨dg_44, List.forall_mem_cons.mpr ⟨dg_45, List.forall_mem_cons.mpr ⟨dg_46, List.forall_mem_cons.mpr ⟨dNo, fun _ h => absurd h List.not_mem_nil⟩⟩⟩⟩⟩⟩⟩⟩⟩⟩⟩⟩⟩⟩⟩⟩
def dT_3 : List (Nat × dF) := [(999, fun _ => none), (999, fun _ => none), (999, fun _ => none), (999, fun _ => none), (999, fun _ => none), (999, fun _ => none), (54, d1 Instr.istore), (999, fun _ => none), (999, fun _ => none), (999, fun _ => none), (58, d1 Instr.astore), (59, d0 (.istore_n 0)), (60, d0 (.istore_n 1)), (61, d0 (.istore_n 2)), (62, d0 (.istore_n 3)), (999, fun _ => none)]
theorem dTg_3 : ∀ e ∈ dT_3, dGood e := List.forall_mem_cons.mpr ⟨dNo, List.forall_mem_cons.mpr ⟨dNo, List.forall_mem_cons.mpr ⟨dNo, List.forall_mem_cons.mpr ⟨dNo, List.forall_mem_cons.mpr ⟨dNo, List.forall_mem_cons.mpr ⟨dNo, List.forall_mem_cons.mpr ⟨dg_54, List.forall_mem_cons.mpr ⟨dNo, List.forall_mem_cons.mpr ⟨dNo, List.forall_mem_cons.mpr ⟨dNo, List.forall_mem_cons.mpr ⟨dg_58, List.forall_mem_cons.mpr ⟨dg_59, List.forall_mem_cons.mpr ⟨dg_60, List.forall_mem_cons.mpr ⟨dg_61, List.forall_mem_cons.mpr ⟨dg_62, List.forall_mem_cons.mpr ⟨dNo, fun _ h => absurd h List.not_mem_nil⟩⟩⟩⟩⟩⟩⟩⟩⟩⟩⟩⟩⟩⟩⟩⟩
def dT_4 : List (Nat × dF) := [(999, fun _ => none), (999, fun _ => none), (999, fun _ => none), (999, fun _ => none), (999, fun _ => none), (999, fun _ => none), (999, fun _ => none), (999, fun _ => none), (999, fun _ => none), (999, fun _ => none), (999, fun _ => none), (75, d0 (.astore_n 0)), (76, d0 (.astore_n 1)), (77, d0 (.astore_n 2)), (78, d0 (.astore_n 3)), (79, d0 (.iastore))]
theorem dTg_4 : ∀ e ∈ dT_4, dGood e := List.forall_mem_cons.mpr ⟨dNo, List.forall_mem_cons.mpr ⟨dNo, List.forall_mem_cons.mpr ⟨dNo, List.forall_mem_cons.mpr ⟨dNo, List.forall_mem_cons.mpr ⟨dNo, List.forall_mem_cons.mpr ⟨dNo, List.forall_mem_cons.mpr ⟨dNo, List.forall_mem_cons.mpr ⟨dNo, List.forall_mem_cons.mpr ⟨dNo, List.forall_mem_cons.mpr ⟨dNo, List.forall_mem_cons.mpr ⟨dNo, List.forall_mem_cons.mpr ⟨dg_75, List.forall_mem_cons.mpr ⟨dg_76, List.forall_mem_cons.mpr ⟨dg_77, List.forall_mem_cons.mpr ⟨dg_78, List.forall_mem_cons.mpr ⟨dg_79, fun _ h => absurd h List.not_mem_nil⟩⟩⟩⟩⟩⟩⟩⟩⟩⟩⟩⟩⟩⟩⟩⟩
def dT_5 : List (Nat × dF) := [(999, fun _ => none), (999, fun _ => none), (999, fun _ => none), (999, fun _ => none), (999, fun _ => none), (999, fun _ => none), (999, fun _ => none), (87, d0 (.pop)), (999, fun _ => none), (89, d0 (.dup)), (999, fun _ => none), (999, fun _ => none), (92, d0 (.dup2)), (999, fun _ => none), (999, fun _ => none), (999, fun _ => none)]
theorem dTg_5 : ∀ e ∈ dT_5, dGood e := List.forall_mem_cons.mpr ⟨dNo, List.forall_mem_cons.mpr ⟨dNo, List.forall_mem_cons.mpr ⟨dNo, List.forall_mem_cons.mpr ⟨dNo, List.forall_mem_cons.mpr ⟨dNo, List.forall_mem_cons.mpr ⟨dNo, List.forall_mem_cons.mpr ⟨dNo, List.forall_mem_cons.mpr ⟨dg_87, List.forall_mem_cons.mpr ⟨dNo, List.forall_mem_cons.mpr ⟨dg_89, List.forall_mem_cons.mpr ⟨dNo, List.forall_mem_cons.mpr ⟨dNo, List.forall_mem_cons.mpr ⟨dg_92, List.forall_mem_cons.mpr ⟨dNo, List.forall_mem_cons.mpr ⟨dNo, List.forall_mem_cons.mpr ⟨dNo, fun _ h => absurd h List.not_mem_nil⟩⟩⟩⟩⟩⟩⟩⟩⟩⟩⟩⟩⟩⟩⟩⟩
def dT_6 : List (Nat × dF) := [(96, d0 (.iadd)), (97, d0 (.ladd)), (999, fun _ => none), (999, fun _ => none), (100, d0 (.isub)), (999, fun _ => none), (999, fun _ => none), (999, fun _ => none), (104, d0 (.imul)), (999, fun _ => none), (999, fun _ => none), (999, fun _ => none), (108, d0 (.idiv)), (999, fun _ => none), (999, fun _ => none), (999, fun _ => none)]
theorem dTg_6 : ∀ e ∈ dT_6, dGood e := List.forall_mem_cons.mpr ⟨dg_96, List.forall_mem_cons.mpr ⟨dg_97, List.forall_mem_cons.mpr ⟨dNo, List.forall_mem_cons.mpr ⟨dNo, List.forall_mem_cons.mpr ⟨dg_100, List.forall_mem_cons.mpr ⟨dNo, List.forall_mem_cons.mpr ⟨dNo, List.forall_mem_cons.mpr ⟨dNo, List.forall_mem_cons.mpr ⟨dg_104, List.forall_mem_cons.mpr ⟨dNo, List.forall_mem_cons.mpr ⟨dNo, List.forall_mem_cons.mpr ⟨dNo, List.forall_mem_cons.mpr ⟨dg_108, List.forall_mem_cons.mpr ⟨dNo, List.forall_mem_cons.mpr ⟨dNo, List.forall_mem_cons.mpr ⟨dNo, fun _ h => absurd h List.not_mem_nil⟩⟩⟩⟩⟩⟩⟩⟩⟩⟩⟩⟩⟩⟩⟩⟩
def dT_7 : List (Nat × dF) := [(112, d0 (.irem)), (999, fun _ => none), (999, fun _ => none), (999, fun _ => none), (116, d0 (.ineg)), (999, fun _ => none), (999, fun _ => none), (999, fun _ => none), (120, d0 (.ishl)), (999, fun _ => none), (122, d0 (.ishr)), (999, fun _ => none), (124, d0 (.iushr)), (999, fun _ => none), (126, d0 (.iand)), (999, fun _ => none)]
theorem dTg_7 : ∀ e ∈ dT_7, dGood e := List.forall_mem_cons.mpr ⟨dg_112, List.forall_mem_cons.mpr ⟨dNo, List.forall_mem_cons.mpr ⟨dNo, List.forall_mem_cons.mpr ⟨dNo, List.forall_mem_cons.mpr ⟨dg_116, List.forall_mem_cons.mpr ⟨dNo, List.forall_mem_cons.mpr ⟨dNo, List.forall_mem_cons.mpr ⟨dNo, List.forall_mem_cons.mpr ⟨dg_120, List.forall_mem_cons.mpr ⟨dNo, List.forall_mem_cons.mpr ⟨dg_122, List.forall_mem_cons.mpr ⟨dNo, List.forall_mem_cons.mpr ⟨dg_124, List.forall_mem_cons.mpr ⟨dNo, List.forall_mem_cons.mpr ⟨dg_126, List.forall_mem_cons.mpr ⟨dNo, fun _ h => absurd h List.not_mem_nil⟩⟩⟩⟩⟩⟩⟩⟩⟩⟩⟩⟩⟩⟩⟩⟩
def dT_8 : List (Nat × dF) := [(128, d0 (.ior)), (999, fun _ => none), (130, d0 (.ixor)), (999, fun _ => none), (132, dInc), (133, d0 (.i2l)), (999, fun _ => none), (999, fun _ => none), (999, fun _ => none), (999, fun _ => none), (999, fun _ => none), (999, fun _ => none), (999, fun _ => none), (999, fun _ => none), (999, fun _ => none), (999, fun _ => none)]
theorem dTg_8 : ∀ e ∈ dT_8, dGood e := List.forall_mem_cons.mpr ⟨dg_128, List.forall_mem_cons.mpr ⟨dNo, List.forall_mem_cons.mpr ⟨dg_130, List.forall_mem_cons.mpr ⟨dNo, List.forall_mem_cons.mpr ⟨dg_132, List.forall_mem_cons.mpr ⟨dg_133, List.forall_mem_cons.mpr ⟨dNo, List.forall_mem_cons.mpr ⟨dNo, List.forall_mem_cons.mpr ⟨dNo, List.forall_mem_cons.mpr ⟨dNo, List.forall_mem_cons.mpr ⟨dNo, List.forall_mem_cons.mpr ⟨dNo, List.forall_mem_cons.mpr ⟨dNo, List.forall_mem_cons.mpr ⟨dNo, List.forall_mem_cons.mpr ⟨dNo, List.forall_mem_cons.mpr ⟨dNo, fun _ h => absurd h List.not_mem_nil⟩⟩⟩⟩⟩⟩⟩⟩⟩⟩⟩⟩⟩⟩⟩⟩
def dT_9 : List (Nat × dF) := [(999, fun _ => none), (999, fun _ => none), (999, fun _ => none), (999, fun _ => none), (148, d0 (.lcmp)), (999, fun _ => none), (999, fun _ => none), (999, fun _ => none), (999, fun _ => none), (153, d2s (Instr.ifCond .eq)), (154, d2s (Instr.ifCond .ne)), (155, d2s (Instr.ifCond .lt)), (156, d2s (Instr.ifCond .ge)), (157, d2s (Instr.ifCond .gt)), (158, d2s (Instr.ifCond .le)), (159, d2s (Instr.if_icmp .eq))]
theorem dTg_9 : ∀ e ∈ dT_9, dGood e := List.forall_mem_cons.mpr ⟨dNo, List.forall_mem_cons.mpr ⟨dNo, List.forall_mem_cons.mpr ⟨dNo, List.forall_mem_cons.mpr ⟨dNo, List.forall_mem_cons.mpr ⟨dg_148, List.forall_mem_cons.mpr ⟨dNo, List.forall_mem_cons.mpr ⟨dNo, List.forall_mem_cons.mpr ⟨dNo, List.forall_mem_cons.mpr ⟨dNo, List.forall_mem_cons.mpr ⟨dg_153, List.forall_mem_cons.mpr ⟨dg_154, List.forall_mem_cons.mpr ⟨dg_155, List.forall_mem_cons.mpr ⟨dg_156, List.forall_mem_cons.mpr ⟨dg_157, List.forall_mem_cons.mpr ⟨dg_158, List.forall_mem_cons.mpr ⟨dg_159, fun _ h => absurd h List.not_mem_nil⟩⟩⟩⟩⟩⟩⟩⟩⟩⟩⟩⟩⟩⟩⟩⟩
def dT_10 : List (Nat × dF) := [(160, d2s (Instr.if_icmp .ne)), (161, d2s (Instr.if_icmp .lt)), (162, d2s (Instr.if_icmp .ge)), (163, d2s (Instr.if_icmp .gt)), (164, d2s (Instr.if_icmp .le)), (999, fun _ => none), (999, fun _ => none), (167, d2s (Instr.goto)), (999, fun _ => none), (999, fun _ => none), (999, fun _ => none), (999, fun _ => none), (172, d0 (.ireturn)), (999, fun _ => none), (999, fun _ => none), (999, fun _ => none)]
theorem dTg_10 : ∀ e ∈ dT_10, dGood e := List.forall_mem_cons.mpr ⟨dg_160, List.forall_mem_cons.mpr ⟨dg_161, List.forall_mem_cons.mpr ⟨dg_162, List.forall_mem_cons.mpr ⟨dg_163, List.forall_mem_cons.mpr ⟨dg_164, List.forall_mem_cons.mpr ⟨dNo, List.forall_mem_cons.mpr ⟨dNo, List.forall_mem_cons.mpr ⟨dg_167, List.forall_mem_cons.mpr ⟨dNo, List.forall_mem_cons.mpr ⟨dNo, List.forall_mem_cons.mpr ⟨dNo, List.forall_mem_cons.mpr ⟨dNo, List.forall_mem_cons.mpr ⟨dg_172, List.forall_mem_cons.mpr ⟨dNo, List.forall_mem_cons.mpr ⟨dNo, List.forall_mem_cons.mpr ⟨dNo, fun _ h => absurd h List.not_mem_nil⟩⟩⟩⟩⟩⟩⟩⟩⟩⟩⟩⟩⟩⟩⟩⟩
def dT_11 : List (Nat × dF) := [(176, d0 (.areturn)), (177, d0 (.return_)), (999, fun _ => none), (999, fun _ => none), (180, d2 Instr.getfield), (181, d2 Instr.putfield), (182, d2 Instr.invokevirtual), (183, d2 Instr.invokespecial), (184, d2 Instr.invokestatic), (999, fun _ => none), (999, fun _ => none), (187, d2 Instr.new), (188, dNa), (999, fun _ => none), (190, d0 (.arraylength)), (999, fun _ => none)]
theorem dTg_11 : ∀ e ∈ dT_11, dGood e := List.forall_mem_cons.mpr ⟨dg_176, List.forall_mem_cons.mpr ⟨dg_177, List.forall_mem_cons.mpr ⟨dNo, List.forall_mem_cons.mpr ⟨dNo, List.forall_mem_cons.mpr ⟨dg_180, List.forall_mem_cons.mpr ⟨dg_181, List.forall_mem_cons.mpr ⟨dg_182, List.forall_mem_cons.mpr ⟨dg_183, List.forall_mem_cons.mpr ⟨dg_184, List.forall_mem_cons.mpr ⟨dNo, List.forall_mem_cons.mpr ⟨dNo, List.forall_mem_cons.mpr ⟨dg_187, List.forall_mem_cons.mpr ⟨dg_188, List.forall_mem_cons.mpr ⟨dNo, List.forall_mem_cons.mpr ⟨dg_190, List.forall_mem_cons.mpr ⟨dNo, fun _ h => absurd h List.not_mem_nil⟩⟩⟩⟩⟩⟩⟩⟩⟩⟩⟩⟩⟩⟩⟩⟩
def dT_12 : List (Nat × dF) := [(999, fun _ => none), (999, fun _ => none), (999, fun _ => none), (999, fun _ => none), (999, fun _ => none), (999, fun _ => none), (999, fun _ => none), (999, fun _ => none), (999, fun _ => none), (999, fun _ => none), (999, fun _ => none), (999, fun _ => none), (999, fun _ => none), (999, fun _ => none), (999, fun _ => none), (999, fun _ => none)]
theorem dTg_12 : ∀ e ∈ dT_12, dGood e := List.forall_mem_cons.mpr ⟨dNo, List.forall_mem_cons.mpr ⟨dNo, List.forall_mem_cons.mpr ⟨dNo, List.forall_mem_cons.mpr ⟨dNo, List.forall_mem_cons.mpr ⟨dNo, List.forall_mem_cons.mpr ⟨dNo, List.forall_mem_cons.mpr ⟨dNo, List.forall_mem_cons.mpr ⟨dNo, List.forall_mem_cons.mpr ⟨dNo, List.forall_mem_cons.mpr ⟨dNo, List.forall_mem_cons.mpr ⟨dNo, List.forall_mem_cons.mpr ⟨dNo, List.forall_mem_cons.mpr ⟨dNo, List.forall_mem_cons.mpr ⟨dNo, List.forall_mem_cons.mpr ⟨dNo, List.forall_mem_cons.mpr ⟨dNo, fun _ h => absurd h List.not_mem_nil⟩⟩⟩⟩⟩⟩⟩⟩⟩⟩⟩⟩⟩⟩⟩⟩
def dTs : List (List (Nat × dF)) := [dT_0, dT_1, dT_2, dT_3, dT_4, dT_5, dT_6, dT_7, dT_8, dT_9, dT_10, dT_11, dT_12]
theorem dTs_ok : ∀ t ∈ dTs, ∀ e ∈ t, dGood e := List.forall_mem_cons.mpr ⟨dTg_0, List.forall_mem_cons.mpr ⟨dTg_1, List.forall_mem_cons.mpr ⟨dTg_2, List.forall_mem_cons.mpr ⟨dTg_3, List.forall_mem_cons.mpr ⟨dTg_4, List.forall_mem_cons.mpr ⟨dTg_5, List.forall_mem_cons.mpr ⟨dTg_6, List.forall_mem_cons.mpr ⟨dTg_7, List.forall_mem_cons.mpr ⟨dTg_8, List.forall_mem_cons.mpr ⟨dTg_9, List.forall_mem_cons.mpr ⟨dTg_10, List.forall_mem_cons.mpr ⟨dTg_11, List.forall_mem_cons.mpr ⟨dTg_12, fun _ h => absurd h List.not_mem_nil⟩⟩⟩⟩⟩⟩⟩⟩⟩⟩⟩⟩⟩
def dOp (k : Nat) (l : List UInt8) : Option (Instr × Nat) := match dTs[k / 16]? with
  | none => none
  | some t => match t[k % 16]? with
    | none => none
    | some e => bif Nat.beq e.1 k then e.2 l else none
theorem dOp_ok {b : ByteArray} {p : Nat} {x : UInt8} {l : List UInt8} {r : Instr × Nat} (h : b.data.toList.drop p = x :: l) (hr : dOp x.toNat l = some r) : decode b p = .ok r := by
  unfold dOp at hr
  split at hr
  · cases hr
  · next t ht =>
    split at hr
    · cases hr
    · next e he =>
      cases hb : Nat.beq e.1 x.toNat
      · rw [hb, cond_false] at hr; cases hr
      · rw [hb, cond_true] at hr
        exact dTs_ok t (List.mem_of_getElem? ht) e (List.mem_of_getElem? he) b p x l r h (Nat.eq_of_beq_eq_true hb).symm hr
def aW1 (b : ByteArray) (own : Nat) (x : UInt8) (l : List UInt8) (pc : Nat) (e : aIn) : Bool := (match dOp x.toNat l with
  | some r => decide (r = (e.1, e.2.1))
  | none => decide (decode b pc = .ok (e.1, e.2.1))) && aChk own e
def aW (b : ByteArray) (own : Nat) (f : Nat → Option aIn) : List UInt8 → Nat → Bool
  | [], _ => true
  | x :: l, pc => (match f pc with
    | none => true
    | some e => aW1 b own x l pc e) && aW b own f l (pc + 1)
theorem aW_ok {b : ByteArray} {own : Nat} {f : Nat → Option aIn} : ∀ (l : List UInt8) (pc : Nat), aW b own f l pc = true → b.data.toList.drop pc = l → ∀ (k : Nat) (e : aIn), pc ≤ k → k < pc + l.length → f k = some e → decode b k = .ok (e.1, e.2.1) ∧ aChk own e = true := by
  intro l
  induction l with
  | nil => intro pc _ _ k e h1 h2 _; simp at h2; omega
  | cons x l ih =>
    intro pc h hd k e h1 h2 hk
    unfold aW at h
    rw [Bool.and_eq_true] at h
    by_cases hp : k = pc
    · subst hp
      have h3 := h.1
      rw [hk] at h3
      simp only at h3
      unfold aW1 at h3
      rw [Bool.and_eq_true] at h3
      refine ⟨?_, h3.2⟩
      have h4 := h3.1
      split at h4
      · next r hr => rw [dOp_ok hd hr, of_decide_eq_true h4]
      · exact of_decide_eq_true h4
    · exact ih (pc + 1) h.2 (ub_nx hd) k e (by omega) (by simp at h2; omega) hk
def aWY (y : Nat) : Bool := match mjM y, aTf y with
  | some q, some (m, f) => Nat.ble m q.2.1.data.toList.length && aW q.2.1 q.2.2.2.2 f q.2.1.data.toList 0
  | _, _ => true
theorem aWY_at {y pc : Nat} {q : mMd} {e : aIn} (h : aWY y = true) (hq : mjM y = some q) (he : aTab y pc = some e) : decode q.2.1 pc = .ok (e.1, e.2.1) ∧ aChk q.2.2.2.2 e = true := by
  unfold aWY at h
  unfold aTab at he
  rw [hq] at h
  split at he
  · cases he
  · next m f hf =>
    rw [hf] at h
    simp only at h
    rw [Bool.and_eq_true, Nat.ble_eq] at h
    cases hb : Nat.blt pc m
    · rw [hb] at he; cases he
    · rw [hb, cond_true] at he
      rw [Nat.blt_eq] at hb
      exact aW_ok _ 0 h.2 rfl pc e (by omega) (by omega) he
def aWg (i : Nat) : Bool := (List.range 8).all (fun k => aWY (8 * i + k))
set_option maxRecDepth 100000 in
theorem aWg_0 : aWg 0 = true := by decide +kernel
set_option maxRecDepth 100000 in
theorem aWg_1 : aWg 1 = true := by decide +kernel
set_option maxRecDepth 100000 in
theorem aWg_2 : aWg 2 = true := by decide +kernel
set_option maxRecDepth 100000 in
theorem aWg_3 : aWg 3 = true := by decide +kernel
set_option maxRecDepth 100000 in
theorem aWg_4 : aWg 4 = true := by decide +kernel
set_option maxRecDepth 100000 in
theorem aWg_5 : aWg 5 = true := by decide +kernel
set_option maxRecDepth 100000 in
theorem aWg_6 : aWg 6 = true := by decide +kernel
set_option maxRecDepth 100000 in
theorem aWg_7 : aWg 7 = true := by decide +kernel
set_option maxRecDepth 100000 in
theorem aWg_8 : aWg 8 = true := by decide +kernel
set_option maxRecDepth 100000 in
theorem aWg_9 : aWg 9 = true := by decide +kernel
set_option maxRecDepth 100000 in
theorem aWg_10 : aWg 10 = true := by decide +kernel
set_option maxRecDepth 100000 in
theorem aWg_11 : aWg 11 = true := by decide +kernel
set_option maxRecDepth 100000 in
theorem aWg_12 : aWg 12 = true := by decide +kernel
set_option maxRecDepth 100000 in
theorem aWg_13 : aWg 13 = true := by decide +kernel
set_option maxRecDepth 100000 in
theorem aWg_14 : aWg 14 = true := by decide +kernel
set_option maxRecDepth 100000 in
theorem aWg_15 : aWg 15 = true := by decide +kernel
set_option maxRecDepth 100000 in
theorem aWg_16 : aWg 16 = true := by decide +kernel
set_option maxRecDepth 100000 in
theorem aWg_17 : aWg 17 = true := by decide +kernel
set_option maxRecDepth 100000 in
theorem aWg_18 : aWg 18 = true := by decide +kernel
set_option maxRecDepth 100000 in
theorem aWg_19 : aWg 19 = true := by decide +kernel
set_option maxRecDepth 100000 in
theorem aWg_20 : aWg 20 = true := by decide +kernel
set_option maxRecDepth 100000 in
theorem aWg_21 : aWg 21 = true := by decide +kernel
set_option maxRecDepth 100000 in
theorem aWg_22 : aWg 22 = true := by decide +kernel
set_option maxRecDepth 100000 in
theorem aWg_23 : aWg 23 = true := by decide +kernel
set_option maxRecDepth 100000 in
theorem aWg_24 : aWg 24 = true := by decide +kernel
set_option maxRecDepth 100000 in
theorem aWg_25 : aWg 25 = true := by decide +kernel
set_option maxRecDepth 100000 in
theorem aWg_26 : aWg 26 = true := by decide +kernel
set_option maxRecDepth 100000 in
theorem aWg_27 : aWg 27 = true := by decide +kernel
set_option maxRecDepth 100000 in
theorem aWg_28 : aWg 28 = true := by decide +kernel
set_option maxRecDepth 100000 in
theorem aWg_29 : aWg 29 = true := by decide +kernel
set_option maxRecDepth 100000 in
theorem aWg_30 : aWg 30 = true := by decide +kernel
set_option maxRecDepth 100000 in
theorem aWg_31 : aWg 31 = true := by decide +kernel
set_option maxRecDepth 100000 in
theorem aWg_32 : aWg 32 = true := by decide +kernel
set_option maxRecDepth 100000 in
theorem aWg_33 : aWg 33 = true := by decide +kernel
set_option maxRecDepth 100000 in
theorem aWg_34 : aWg 34 = true := by decide +kernel
set_option maxRecDepth 100000 in
theorem aWg_35 : aWg 35 = true := by decide +kernel
set_option maxRecDepth 100000 in
theorem aWg_36 : aWg 36 = true := by decide +kernel
set_option maxRecDepth 100000 in
theorem aWg_37 : aWg 37 = true := by decide +kernel
set_option maxRecDepth 100000 in
theorem aWg_38 : aWg 38 = true := by decide +kernel
set_option maxRecDepth 100000 in
theorem aWg_39 : aWg 39 = true := by decide +kernel
set_option maxRecDepth 100000 in
theorem aWg_40 : aWg 40 = true := by decide +kernel
set_option maxRecDepth 100000 in
theorem aWg_41 : aWg 41 = true := by decide +kernel
set_option maxRecDepth 100000 in
theorem aWg_42 : aWg 42 = true := by decide +kernel
set_option maxRecDepth 100000 in
theorem aWg_43 : aWg 43 = true := by decide +kernel
set_option maxRecDepth 100000 in
theorem aWg_44 : aWg 44 = true := by decide +kernel
set_option maxRecDepth 100000 in
theorem aWg_45 : aWg 45 = true := by decide +kernel
theorem aTab_ok {y pc : Nat} {q : mMd} {e : aIn} (hq : mjM y = some q) (he : aTab y pc = some e) : decode q.2.1 pc = .ok (e.1, e.2.1) ∧ aChk q.2.2.2.2 e = true := by
  have key : ∀ i, aWg i = true → y / 8 = i → aWY y = true := fun i h hi => by
    have := List.all_eq_true.mp h (y % 8) (List.mem_range.mpr (Nat.mod_lt _ (by decide)))
    rw [show 8 * i + y % 8 = y by omega] at this
    exact this
  by_cases hy : y < 368
  · refine aWY_at ?_ hq he
    by_cases h0 : y / 8 = 0
    · exact key 0 aWg_0 h0
    by_cases h1 : y / 8 = 1
    · exact key 1 aWg_1 h1
    by_cases h2 : y / 8 = 2
    · exact key 2 aWg_2 h2
    by_cases h3 : y / 8 = 3
    · exact key 3 aWg_3 h3
    by_cases h4 : y / 8 = 4
    · exact key 4 aWg_4 h4
    by_cases h5 : y / 8 = 5
    · exact key 5 aWg_5 h5
    by_cases h6 : y / 8 = 6
    · exact key 6 aWg_6 h6
    by_cases h7 : y / 8 = 7
    · exact key 7 aWg_7 h7
    by_cases h8 : y / 8 = 8
    · exact key 8 aWg_8 h8
    by_cases h9 : y / 8 = 9
    · exact key 9 aWg_9 h9
    by_cases h10 : y / 8 = 10
    · exact key 10 aWg_10 h10
    by_cases h11 : y / 8 = 11
    · exact key 11 aWg_11 h11
    by_cases h12 : y / 8 = 12
    · exact key 12 aWg_12 h12
    by_cases h13 : y / 8 = 13
    · exact key 13 aWg_13 h13
    by_cases h14 : y / 8 = 14
    · exact key 14 aWg_14 h14
    by_cases h15 : y / 8 = 15
    · exact key 15 aWg_15 h15
    by_cases h16 : y / 8 = 16
    · exact key 16 aWg_16 h16
    by_cases h17 : y / 8 = 17
    · exact key 17 aWg_17 h17
    by_cases h18 : y / 8 = 18
    · exact key 18 aWg_18 h18
    by_cases h19 : y / 8 = 19
    · exact key 19 aWg_19 h19
    by_cases h20 : y / 8 = 20
    · exact key 20 aWg_20 h20
    by_cases h21 : y / 8 = 21
    · exact key 21 aWg_21 h21
    by_cases h22 : y / 8 = 22
    · exact key 22 aWg_22 h22
    by_cases h23 : y / 8 = 23
    · exact key 23 aWg_23 h23
    by_cases h24 : y / 8 = 24
    · exact key 24 aWg_24 h24
    by_cases h25 : y / 8 = 25
    · exact key 25 aWg_25 h25
    by_cases h26 : y / 8 = 26
    · exact key 26 aWg_26 h26
    by_cases h27 : y / 8 = 27
    · exact key 27 aWg_27 h27
    by_cases h28 : y / 8 = 28
    · exact key 28 aWg_28 h28
    by_cases h29 : y / 8 = 29
    · exact key 29 aWg_29 h29
    by_cases h30 : y / 8 = 30
    · exact key 30 aWg_30 h30
    by_cases h31 : y / 8 = 31
    · exact key 31 aWg_31 h31
    by_cases h32 : y / 8 = 32
    · exact key 32 aWg_32 h32
    by_cases h33 : y / 8 = 33
    · exact key 33 aWg_33 h33
    by_cases h34 : y / 8 = 34
    · exact key 34 aWg_34 h34
    by_cases h35 : y / 8 = 35
    · exact key 35 aWg_35 h35
    by_cases h36 : y / 8 = 36
    · exact key 36 aWg_36 h36
    by_cases h37 : y / 8 = 37
    · exact key 37 aWg_37 h37
    by_cases h38 : y / 8 = 38
    · exact key 38 aWg_38 h38
    by_cases h39 : y / 8 = 39
    · exact key 39 aWg_39 h39
    by_cases h40 : y / 8 = 40
    · exact key 40 aWg_40 h40
    by_cases h41 : y / 8 = 41
    · exact key 41 aWg_41 h41
    by_cases h42 : y / 8 = 42
    · exact key 42 aWg_42 h42
    by_cases h43 : y / 8 = 43
    · exact key 43 aWg_43 h43
    by_cases h44 : y / 8 = 44
    · exact key 44 aWg_44 h44
    exact key 45 aWg_45 (by omega)
  · exfalso
    unfold aTab at he
    cases hf : aTf y with
    | none => rw [hf] at he; cases he
    | some p =>
      unfold aTf at hf
      have hl : aTs.length = 23 := rfl
      rw [List.getElem?_eq_none (by omega)] at hf
      cases hf
