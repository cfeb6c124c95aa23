/-! THE SMALL MACHINE: a pure function that runs the bytecode of this claim over cells that are numbered in the order of their making. Part 06 on shows that what it answers the machine does. -/
abbrev mW : Type := (Nat → va_E) × Nat × Nat × Nat
abbrev mEnd : Type := Option Value ⊕ Nat
abbrev mNx : Type := Nat × List Value × List Value × mW
def mIs (ci q : Nat) : Bool := (ci == q && !(q == 6)) || (q == 6 && (ci == 3 || ci == 5))
def mFit : Nat → Value → Bool
  | 0, .int _ => true
  | 1, .int x => x == 0 || x == 1
  | 2, .ref _ => true
  | _, _ => false
def mOut (i : Int32) (n : Nat) : Prop := i < 0 ∨ n ≤ i.toNatClampNeg
def mBin (f : Int32 → Int32 → Int32) (pc : Nat) (l : List Value) (w : mW) : List Value → Option mNx
  | .int y :: .int x :: st => some (pc, l, .int (f x y) :: st, w)
  | _ => none
def mDiv (f : Int32 → Int32 → Int32) (pc : Nat) (l : List Value) (w : mW) : List Value → Option mNx
  | .int y :: .int x :: st => if y = 0 then none else some (pc, l, .int (f x y) :: st, w)
  | _ => none
def mUn (f : Int32 → Value) (pc : Nat) (l : List Value) (w : mW) : List Value → Option mNx
  | .int x :: st => some (pc, l, f x :: st, w)
  | _ => none
def mBr (k : ClassFile.Cond) (x y : Int32) (a b : Nat) : Nat := match k with
  | .eq => if x = y then a else b
  | .ne => if x = y then b else a
  | .lt => if x < y then a else b
  | .ge => if y ≤ x then a else b
  | .gt => if y < x then a else b
  | .le => if x ≤ y then a else b
def mIf (k : ClassFile.Cond) (a b : Nat) (l : List Value) (w : mW) : List Value → Option mNx
  | .int x :: st => some (mBr k x 0 a b, l, st, w)
  | _ => none
def mIcmp (k : ClassFile.Cond) (a b : Nat) (l : List Value) (w : mW) : List Value → Option mNx
  | .int y :: .int x :: st => some (mBr k x y a b, l, st, w)
  | _ => none
def mTsw (d lo hi : Int) (offs : Array Int) (pc : Nat) (l : List Value) (w : mW) : List Value → Option mNx
  | .int x :: st => if x.toInt < lo ∨ hi < x.toInt then some (((pc : Int) + d).toNat, l, st, w) else match offs[(x.toInt - lo).toNat]? with
    | some off => some (((pc : Int) + off).toNat, l, st, w)
    | none => none
  | _ => none
def mLsw (d : Int) (ps : Array (Int × Int)) (pc : Nat) (l : List Value) (w : mW) : List Value → Option mNx
  | .int x :: st => some (((pc : Int) + Op.lookupswitch.offset ps.toList d x.toInt).toNat, l, st, w)
  | _ => none
def mLd (k pc : Nat) (l : List Value) (w : mW) (st : List Value) : Option mNx := match l[k]? with
  | some (.int x) => some (pc, l, .int x :: st, w)
  | _ => none
def mLda (k pc : Nat) (l : List Value) (w : mW) (st : List Value) : Option mNx := match l[k]? with
  | some (.ref a) => some (pc, l, .ref a :: st, w)
  | some (.retAddr a) => if a < 200 then some (pc, l, .retAddr a :: st, w) else none
  | _ => none
def mSto (k pc : Nat) (l : List Value) (w : mW) : List Value → Option mNx
  | .int x :: st => if k < l.length then some (pc, l.set k (.int x), st, w) else none
  | _ => none
def mStoA (k pc : Nat) (l : List Value) (w : mW) : List Value → Option mNx
  | .ref x :: st => if k < l.length then some (pc, l.set k (.ref x), st, w) else none
  | _ => none
def mInc (k : Nat) (n : Int) (pc : Nat) (l : List Value) (w : mW) (st : List Value) : Option mNx := match l[k]? with
  | some (.int x) => some (pc, l.set k (.int (x + Int32.ofInt n)), st, w)
  | _ => none
def mDup (pc : Nat) (l : List Value) (w : mW) : List Value → Option mNx
  | v :: st => if v.category = 1 then some (pc, l, v :: v :: st, w) else none
  | _ => none
def mDup2 (pc : Nat) (l : List Value) (w : mW) : List Value → Option mNx
  | v :: u :: st => if v.category = 1 ∧ u.category = 1 then some (pc, l, v :: u :: v :: u :: st, w) else none
  | _ => none
def mPop (pc : Nat) (l : List Value) (w : mW) : List Value → Option mNx
  | v :: st => if v.category = 1 then some (pc, l, st, w) else none
  | _ => none
def mNop (pc : Nat) (l : List Value) (w : mW) : List Value → Option mNx
  | .ref _ :: st => if (st.map fun v => v.category).sum ≤ 8 then some (pc, l, st, w) else none
  | _ => none
def mGet (k pc : Nat) (l : List Value) (w : mW) : List Value → Option mNx
  | .ref a :: st => match w.1 a with
    | .inr (ci, fs) => if mIs ci (k / 64) then match fs[k % 64]? with
      | some v => some (pc, l, v :: st, w)
      | none => none
      else none
    | .inl _ => none
  | _ => none
def mPut (kd : Nat → Nat → Nat) (k pc : Nat) (l : List Value) (w : mW) : List Value → Option mNx
  | v :: .ref a :: st => match w.1 a with
    | .inr (ci, fs) => if (mIs ci (k / 64) && mFit (kd ci (k % 64)) v) = true ∧ k % 64 < fs.length then some (pc, l, st, (va_up w.1 a (.inr (ci, fs.set (k % 64) v)), w.2)) else none
    | .inl _ => none
  | _ => none
def mStr (k pc : Nat) (l : List Value) (w : mW) : List Value → Option mNx
  | .retAddr i :: st => if i < 31 then (if k = 0 then some (pc, l, .retAddr (64 + i) :: st, w) else some (pc, l, .int 0 :: st, w)) else none
  | _ => none
def mSp (t k : Nat) : Bool := (t == 0 && k == 150) || (t == 1 && Nat.ble 64 k && Nat.blt k 95)
def mAld (ar : Nat → Nat × (Nat → Int32)) (t pc : Nat) (l : List Value) (w : mW) : List Value → Option mNx
  | .int i :: .ref a :: st => match w.1 a with
    | .inl (t', n, .inl f) => if t' = t ∧ ¬ (i < 0 ∨ n ≤ i.toNatClampNeg) then some (pc, l, .int (f i.toNatClampNeg) :: st, w) else none
    | _ => none
  | .int i :: .retAddr k :: st => if mSp t k = true ∧ ¬ (i < 0 ∨ (ar k).1 ≤ i.toNatClampNeg) then some (pc, l, .int ((ar k).2 i.toNatClampNeg) :: st, w) else none
  | _ => none
def mLald (pc : Nat) (l : List Value) (w : mW) : List Value → Option mNx
  | .int i :: .ref a :: st => match w.1 a with
    | .inl (t', n, .inr (.inl f)) => if t' = 2 ∧ ¬ (i < 0 ∨ n ≤ i.toNatClampNeg) then some (pc, l, .long (f i.toNatClampNeg) :: st, w) else none
    | _ => none
  | _ => none
def mAald (pc : Nat) (l : List Value) (w : mW) : List Value → Option mNx
  | .int i :: .ref a :: st => match w.1 a with
    | .inl (t', n, .inr (.inr (.inr (.inr f)))) => if (t' = 3 ∨ t' = 4) ∧ ¬ (i < 0 ∨ n ≤ i.toNatClampNeg) then match f i.toNatClampNeg with
      | some b => some (pc, l, .ref b :: st, w)
      | none => none
      else none
    | _ => none
  | _ => none
def mAst (t pc : Nat) (l : List Value) (w : mW) : List Value → Option mNx
  | .int x :: .int i :: .ref a :: st => match w.1 a with
    | .inl (t', n, .inl f) => if t' = t ∧ ¬ (i < 0 ∨ n ≤ i.toNatClampNeg) then some (pc, l, st, (va_up w.1 a (.inl (t', n, .inl (upd f i.toNatClampNeg (if t = 1 then x.toInt8.toInt32 else x)))), w.2)) else none
    | _ => none
  | _ => none
def mLast (pc : Nat) (l : List Value) (w : mW) : List Value → Option mNx
  | .long x :: .int i :: .ref a :: st => match w.1 a with
    | .inl (t', n, .inr (.inl f)) => if t' = 2 ∧ ¬ (i < 0 ∨ n ≤ i.toNatClampNeg) then some (pc, l, st, (va_up w.1 a (.inl (t', n, .inr (.inl (vp_updL f i.toNatClampNeg x)))), w.2)) else none
    | _ => none
  | _ => none
def mAast (pc : Nat) (l : List Value) (w : mW) : List Value → Option mNx
  | .ref v :: .int i :: .ref a :: st => match w.1 a, w.1 v with
    | .inl (t', n, .inr (.inr (.inr (.inr f)))), .inr (ci, _) => if t' = 3 ∧ ci = 2 ∧ ¬ (i < 0 ∨ n ≤ i.toNatClampNeg) then some (pc, l, st, (va_up w.1 a (.inl (t', n, .inr (.inr (.inr (.inr (va_up f i.toNatClampNeg (some v))))))), w.2)) else none
    | _, _ => none
  | _ => none
def mLen (ar : Nat → Nat × (Nat → Int32)) (pc : Nat) (l : List Value) (w : mW) : List Value → Option mNx
  | .ref a :: st => match w.1 a with
    | .inl (t, x) => if t < 5 then some (pc, l, .int (Int32.ofNat x.1) :: st, w) else none
    | _ => none
  | .retAddr k :: st => if (mSp 0 k || mSp 1 k) = true then some (pc, l, .int (Int32.ofNat (ar k).1) :: st, w) else none
  | _ => none
def mLcmp (pc : Nat) (l : List Value) (w : mW) : List Value → Option mNx
  | .long y :: .long x :: st => some (pc, l, .int (lg_cmp x y) :: st, w)
  | _ => none
def mCopy (pc : Nat) (l : List Value) (w : mW) : List Value → Option mNx
  | .int n :: .int dp :: .ref a :: .int sp :: .ref a0 :: st => match w.1 a0, w.1 a with
    | .inl (t0, n0, .inl f), .inl (t1, n1, .inl g) => if (t0 = 0 ∧ t1 = 0) ∧ (¬ sp < 0 ∧ ¬ dp < 0 ∧ ¬ n < 0) ∧ sp.toNatClampNeg + n.toNatClampNeg ≤ n0 ∧ dp.toNatClampNeg + n.toNatClampNeg ≤ n1 ∧ (st.map fun v => v.category).sum ≤ 8 then
        some (pc, l, st, (va_up w.1 a (.inl (t1, n1, .inl (va_cpy f g sp.toNatClampNeg dp.toNatClampNeg n.toNatClampNeg))), w.2)) else none
    | _, _ => none
  | _ => none
def mNew (df : Nat → List Value) (ci pc : Nat) (l : List Value) (w : mW) (st : List Value) : Option mNx :=
  if w.2.2.2 = 0 then some (pc, l, .ref w.2.1 :: st, (va_up w.1 w.2.1 (.inr (ci, df ci)), w.2.1 + 1, w.2.2.1 + (df ci).length, 0)) else none
def mAty : ArrayType → Option (Nat × ((Nat → Int32) ⊕ (Nat → Int64) ⊕ (Nat → UInt32) ⊕ (Nat → UInt64) ⊕ (Nat → Option Nat)))
  | .int => some (0, .inl fun _ => 0)
  | .byte => some (1, .inl fun _ => 0)
  | .long => some (2, .inr (.inl fun _ => 0))
  | _ => none
def mNewa (t : ArrayType) (pc : Nat) (l : List Value) (w : mW) : List Value → Option mNx
  | .int n :: st => match mAty t with
    | some (k, z) => if w.2.2.2 = 0 ∧ ¬ n < 0 ∧ n.toNatClampNeg ≤ 60000 then some (pc, l, .ref w.2.1 :: st, (va_up w.1 w.2.1 (.inl (k, n.toNatClampNeg, z)), w.2.1 + 1, w.2.2.1 + n.toNatClampNeg, 0)) else none
    | none => none
  | _ => none
def mNewq (pc : Nat) (l : List Value) (w : mW) : List Value → Option mNx
  | .int n :: st => if w.2.2.2 = 0 ∧ ¬ n < 0 ∧ n.toNatClampNeg ≤ 60000 then some (pc, l, .ref w.2.1 :: st, (va_up w.1 w.2.1 (.inl (3, n.toNatClampNeg, .inr (.inr (.inr (.inr fun _ => none))))), w.2.1 + 1, w.2.2.1 + n.toNatClampNeg, 0)) else none
  | _ => none
/-- new int[n][k]: the outer row at the next place, the inner ones behind it -/
def mRows (f : Nat → va_E) (h N K : Nat) : Nat → va_E := fun a =>
  if a = h then .inl (4, N, .inr (.inr (.inr (.inr fun i => if i < N then some (h + 1 + i) else none)))) else if h < a ∧ a ≤ h + N then .inl (0, K, .inl fun _ => 0) else f a
def mMulti (pc : Nat) (l : List Value) (w : mW) : List Value → Option mNx
  | .int k :: .int n :: st => if w.2.2.2 = 0 ∧ ¬ n < 0 ∧ ¬ k < 0 ∧ n.toNatClampNeg ≤ 60000 ∧ k.toNatClampNeg ≤ 60000 then
      some (pc, l, .ref w.2.1 :: st, (mRows w.1 w.2.1 n.toNatClampNeg k.toNatClampNeg, w.2.1 + 1 + n.toNatClampNeg, w.2.2.1 + n.toNatClampNeg + n.toNatClampNeg * k.toNatClampNeg, 0)) else none
  | _ => none
/-- one step that is no call, no end -/
def mSt (ar : Nat → Nat × (Nat → Int32)) (i : Instr) (len pc : Nat) (l st : List Value) (w : mW) : Option mNx := match i with
  | .iconst v => some (pc + len, l, .int (Int32.ofInt v) :: st, w)
  | .lconst v => some (pc + len, l, .long (Int64.ofNat (v : Nat)) :: st, w)
  | .ldc k => some (pc + len, l, .retAddr k :: st, w)
  | .iload k => mLd k (pc + len) l w st
  | .aload k => mLda k (pc + len) l w st
  | .istore k => mSto k (pc + len) l w st
  | .astore k => mStoA k (pc + len) l w st
  | .iinc k n => mInc k n (pc + len) l w st
  | .iadd => mBin (fun x y => x + y) (pc + len) l w st
  | .isub => mBin (fun x y => x - y) (pc + len) l w st
  | .imul => mBin (fun x y => x * y) (pc + len) l w st
  | .idiv => mDiv (fun x y => x / y) (pc + len) l w st
  | .irem => mDiv (fun x y => x - x / y * y) (pc + len) l w st
  | .ishl => mBin (fun x y => x <<< (y &&& 31)) (pc + len) l w st
  | .ishr => mBin (fun x y => x >>> (y &&& 31)) (pc + len) l w st
  | .iushr => mBin (fun x y => (x.toUInt32 >>> (y.toUInt32 &&& Int32.toUInt32 31)).toInt32) (pc + len) l w st
  | .iand => mBin (fun x y => x &&& y) (pc + len) l w st
  | .ior => mBin (fun x y => x ||| y) (pc + len) l w st
  | .ixor => mBin (fun x y => x ^^^ y) (pc + len) l w st
  | .ineg => mUn (fun x => .int (-x)) (pc + len) l w st
  | .i2l => mUn (fun x => .long x.toInt64) (pc + len) l w st
  | .i2b => mUn (fun x => .int x.toInt8.toInt32) (pc + len) l w st
  | .i2c => mUn (fun x => .int (x.toUInt32 % 65536).toInt32) (pc + len) l w st
  | .lcmp => mLcmp (pc + len) l w st
  | .dup => mDup (pc + len) l w st
  | .dup2 => mDup2 (pc + len) l w st
  | .pop => mPop (pc + len) l w st
  | .nop => mNop (pc + len) l w st
  | .goto off => some (((pc : Int) + off).toNat, l, st, w)
  | .ifCond k off => mIf k ((pc : Int) + off).toNat (pc + len) l w st
  | .if_icmp k off => mIcmp k ((pc : Int) + off).toNat (pc + len) l w st
  | .tableswitch d lo hi offs => mTsw d lo hi offs pc l w st
  | .lookupswitch d ps => mLsw d ps pc l w st
  | .getfield k => mGet k (pc + len) l w st
  | .putfield k => mPut mKd k (pc + len) l w st
  | .getstatic k => mStr k (pc + len) l w st
  | .iaload => mAld ar 0 (pc + len) l w st
  | .baload => mAld ar 1 (pc + len) l w st
  | .laload => mLald (pc + len) l w st
  | .aaload => mAald (pc + len) l w st
  | .iastore => mAst 0 (pc + len) l w st
  | .bastore => mAst 1 (pc + len) l w st
  | .lastore => mLast (pc + len) l w st
  | .aastore => mAast (pc + len) l w st
  | .arraylength => mLen ar (pc + len) l w st
  | .monitorenter => mCopy (pc + len) l w st
  | .new ci => mNew mDf ci (pc + len) l w st
  | .newarray t => mNewa t (pc + len) l w st
  | .anewarray _ => mNewq (pc + len) l w st
  | .multianewarray _ _ => mMulti (pc + len) l w st
  | _ => none
/-- the locals of a method at its start: what is unset bears a double, which nothing reads -/
def mLoc (M : Nat) (as : List Value) : List Value := as ++ List.replicate (mLn M - as.length) (.double 0)
def mArgs (n : Nat) (st : List Value) : List Value := (st.take n).reverse
/-- what a call asks of its stack -/
def mOk (n : Nat) (st : List Value) : Bool := Nat.ble n st.length && (st.take n).all (fun v => v.category == 1) && Nat.ble ((st.drop n).map fun v => v.category).sum 8
/-- the callee of a call, if there is one: its number, its arguments' count -/
def mCal (i : Instr) (st : List Value) (w : mW) : Option (Nat × Nat) := match i with
  | .invokestatic M => some (M, mNa M)
  | .invokespecial M => match st[mNa M - 1]? with
    | some (.ref _) => some (M, mNa M)
    | _ => none
  | .invokedynamic M => match st[mNa M - 1]? with
    | some (.retAddr k) => if k < 31 then some (M, mNa M) else none
    | _ => none
  | .invokeinterface v n => match st[n]? with
    | some (.ref a) => match w.1 a with
      | .inr (ci, _) => match mV v ci with
        | some M => if mNa M = n + 1 then some (M, n + 1) else none
        | none => none
      | .inl _ => none
    | _ => none
  | _ => none
/-- may a call of this kind end by a throw -/
def mTk (i : Instr) : Bool := match i with
  | .invokestatic _ => true
  | .invokeinterface v _ => !mDu.contains v
  | _ => false
def mGo (ar : Nat → Nat × (Nat → Int32)) : Nat → Nat → Nat → Nat → List Value → List Value → mW → Option (mEnd × mW)
  | 0, _, _, _, _, _, _ => none
  | n + 1, d, M, pc, l, st, w => match mF M pc with
    | none => none
    | some (i, len) => match i with
      | .ireturn => match st with
        | [.int x] => match mRt M with
          | some ty => if narrow ty (.int x) = .int x then some (.inl (some (.int x)), w) else none
          | none => none
        | _ => none
      | .return_ => match st with
        | [] => match mRt M with
          | none => some (.inl none, w)
          | some _ => none
        | _ => none
      | .ret E => if (st.map fun v => v.category).sum ≤ 8 then some (.inr E, (w.1, w.2.1, w.2.2.1, w.2.2.2 + 1)) else none
      | i => match mCal i st w with
        | some (M', k) => match d with
          | 0 => none
          | d + 1 => if mOk k st = true then match mGo ar n d M' 0 (mLoc M' (mArgs k st)) [] w with
            | none => none
            | some (.inl v, w1) => mGo ar n (d + 1) M (pc + len) l (v.toList ++ st.drop k) w1
            | some (.inr E, w1) => if mTk i = true then match mHd M pc E with
              | some (pc', j) => if j < l.length then mGo ar n (d + 1) M pc' (l.set j (.double 0)) [] w1 else none
              | none => some (.inr E, w1)
              else none
            else none
        | none => match mSt ar i len pc l st w with
          | none => none
          | some (pc', l', st', w') => mGo ar n d M pc' l' st' w'
