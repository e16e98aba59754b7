/-! AM, the abstract machine: its steps -/
abbrev ALs : Type := List (Option AV)
abbrev IH : Type := Nat → Nat → Int
abbrev LH : Type := Nat → Nat → Int64
abbrev RH : Type := Nat → Nat → Option Nat
/-- kind and length of each cell, how many cells, how many slots -/
abbrev KH : Type := (Nat → Nat) × (Nat → Nat) × Nat × Nat
abbrev ACfg : Type := Nat × ALs × List AV × IH × LH × RH × KH
def setF {α : Type} (f : Nat → Nat → α) (a i : Nat) (v : α) : Nat → Nat → α := fun b j => if b = a ∧ j = i then v else f b j
def up1 (f : Nat → Nat) (a v : Nat) : Nat → Nat := fun b => if b = a then v else f b
/-- the site tables, by the class of the method and the number in its pool -/
def fSite (o idx : Nat) : Option (Nat × Nat × Bool) := if idx < 4096 then al fTab (o * 4096 + idx) else none
def cSite (o idx : Nat) : Option (Nat × Nat × Bool) := if idx < 4096 then al cTab (o * 4096 + idx) else none
def nSite (o idx : Nat) : Option Nat := if idx < 4096 then al nTab (o * 4096 + idx) else none
def aSite (o idx : Nat) : Option Nat := if idx < 4096 then al aTab (o * 4096 + idx) else none
def uSite (o idx : Nat) : Option Nat := if idx < 4096 then al uTab (o * 4096 + idx) else none
def lSite (o idx : Nat) : Option AV := if idx < 4096 then al lTab (o * 4096 + idx) else none
def clAt (ci : Nat) : vw_C := amCl.getD ci (RX0, TX0, 0)
def nFld (ci : Nat) : Nat := (clAt ci).2.2
def fFin (ci k : Nat) : Bool := ((clAt ci).2.1 k).2.2.2
def isLng : AV → Bool
  | .inr (.inr (.inl _)) => true
  | _ => false
def aget (ls : ALs) (k : Nat) : Option AV := (ls[k]?).join
def okBefore (ls : ALs) (k : Nat) : Bool := match k with
  | 0 => true
  | k + 1 => match aget ls k with
    | some v => !isLng v
    | none => true
def aset (ls : ALs) (k : Nat) (v : AV) : Option ALs := if k < ls.length ∧ okBefore ls k = true then some (ls.set k (some v)) else none
def aset2 (ls : ALs) (k : Nat) (v : AV) : Option ALs := if k + 1 < ls.length ∧ okBefore ls k = true then some ((ls.set k (some v)).set (k + 1) none) else none
def jmp (pc : Nat) (off : Int) : Option Nat := if 0 ≤ (pc : Int) + off then some ((pc : Int) + off).toNat else none
def cmpB (c : Jvm.ClassFile.Cond) (x y : Int) : Bool := match c with
  | .eq => decide (x = y)
  | .ne => !decide (x = y)
  | .lt => decide (x < y)
  | .ge => !decide (x < y)
  | .gt => decide (y < x)
  | .le => !decide (y < x)
def bop (i : Instr) (x y : Int32) : Option Int32 := match i with
  | .iadd => some (x + y)
  | .isub => some (x - y)
  | .imul => some (x * y)
  | .iand => some (x &&& y)
  | .ior => some (x ||| y)
  | .ixor => some (x ^^^ y)
  | .ishl => some (x <<< (y &&& 31))
  | .ishr => some (x >>> (y &&& 31))
  | .iushr => some (x.toUInt32 >>> (y.toUInt32 &&& Int32.toUInt32 31)).toInt32
  | .idiv => if y = 0 then none else some (x / y)
  | .irem => if y = 0 then none else some (x - x / y * y)
  | _ => none
def lop (i : Instr) (x y : Int64) : Option Int64 := match i with
  | .ladd => some (x + y)
  | .lsub => some (x - y)
  | .land => some (x &&& y)
  | .lor => some (x ||| y)
  | _ => none
/-- int operations of one int -/
def uop (i : Instr) (x : Int32) : Option Int32 := match i with
  | .i2b => some x.toInt8.toInt32
  | .i2s => some x.toInt16.toInt32
  | _ => none
def arrKind (t : ArrayType) : Option Nat := match t with
  | .int => some 100
  | .boolean => some 101
  | .long => some 102
  | _ => none
/-- a field's kind: 0 int, 1 boolean, 2 a reference -/
def fKind (ci k : Nat) : Nat := match parseFieldDescriptor ((clAt ci).2.1 k).2.2.1 with
  | some .int => 0
  | some .boolean => 1
  | some (.object _) => 2
  | some (.array _) => 2
  | _ => 9
/-- a new cell, its slots all 0, null -/
def amAlloc (K : KH) (kind len : Nat) : KH := (up1 K.1 K.2.2.1 kind, up1 K.2.1 K.2.2.1 len, K.2.2.1 + 1, K.2.2.2 + len)
def amAlloc2 (K : KH) (n k : Nat) : KH := (fun a => if a = K.2.2.1 then 105 else if K.2.2.1 < a ∧ a ≤ K.2.2.1 + n then 100 else K.1 a, fun a => if a = K.2.2.1 then n else if K.2.2.1 < a ∧ a ≤ K.2.2.1 + n then k else K.2.1 a, K.2.2.1 + 1 + n, K.2.2.2 + n + n * k)
def rows2 (R : RH) (sz n : Nat) : RH := fun b j => if b = sz ∧ j < n then some (sz + 1 + j) else R b j
def inRow (i : Int) (n : Nat) : Bool := decide (0 ≤ i) && decide (i < n)
/-- an operation on two ints, on two longs -/
def stB (i : Instr) (pc : Nat) (ls : ALs) (st : List AV) (I : IH) (L : LH) (R : RH) (K : KH) : Option ACfg := match st with
  | .inl y :: .inl x :: r => (bop i (Int32.ofInt x) (Int32.ofInt y)).map fun v => (pc + 1, ls, aI v.toInt :: r, I, L, R, K)
  | _ => none
def stQ (i : Instr) (pc : Nat) (ls : ALs) (st : List AV) (I : IH) (L : LH) (R : RH) (K : KH) : Option ACfg := match st with
  | .inr (.inr (.inl y)) :: .inr (.inr (.inl x)) :: r => (lop i x y).map fun v => (pc + 1, ls, aL v :: r, I, L, R, K)
  | _ => none
/-- one step of an instruction that neither calls nor returns; (scL, scX): the script -/
def stepL (sc : Nat × (Nat → Int)) (mi : Nat) (i : Instr) (n pc : Nat) (ls : ALs) (st : List AV) (I : IH) (L : LH) (R : RH) (K : KH) : Option ACfg := match i with
  | .iconst c => some (pc + 1, ls, aI (Int32.ofInt c).toInt :: st, I, L, R, K)
  | .bipush c => some (pc + 2, ls, aI (Int8.ofInt c).toInt32.toInt :: st, I, L, R, K)
  | .sipush c => some (pc + 3, ls, aI (Int16.ofInt c).toInt32.toInt :: st, I, L, R, K)
  | .lconst c => some (pc + 1, ls, aL (Int64.ofNat (c : Nat)) :: st, I, L, R, K)
  | .ldc idx => match lSite (mOwn mi) idx with
    | some v => if isLng v = true then none else some (pc + 2, ls, v :: st, I, L, R, K)
    | none => none
  | .ldc_w idx => match lSite (mOwn mi) idx with
    | some v => if isLng v = true then none else some (pc + 3, ls, v :: st, I, L, R, K)
    | none => none
  | .ldc2_w idx => match lSite (mOwn mi) idx with
    | some (.inr (.inr (.inl x))) => some (pc + 3, ls, aL x :: st, I, L, R, K)
    | _ => none
  | .iload k => match aget ls k with
    | some (.inl x) => some (pc + 2, ls, aI x :: st, I, L, R, K)
    | _ => none
  | .iload_n k => match aget ls k with
    | some (.inl x) => some (pc + 1, ls, aI x :: st, I, L, R, K)
    | _ => none
  | .lload_n k => match aget ls k with
    | some (.inr (.inr (.inl x))) => some (pc + 1, ls, aL x :: st, I, L, R, K)
    | _ => none
  | .aload k => match aget ls k with
    | some (.inr (.inl (some x))) => some (pc + 2, ls, aR (some x) :: st, I, L, R, K)
    | some (.inr (.inr (.inr x))) => some (pc + 2, ls, aF x :: st, I, L, R, K)
    | _ => none
  | .aload_n k => match aget ls k with
    | some (.inr (.inl (some x))) => some (pc + 1, ls, aR (some x) :: st, I, L, R, K)
    | some (.inr (.inr (.inr x))) => some (pc + 1, ls, aF x :: st, I, L, R, K)
    | _ => none
  | .istore k => match st with
    | .inl x :: r => (aset ls k (aI x)).map fun l => (pc + 2, l, r, I, L, R, K)
    | _ => none
  | .istore_n k => match st with
    | .inl x :: r => (aset ls k (aI x)).map fun l => (pc + 1, l, r, I, L, R, K)
    | _ => none
  | .lstore_n k => match st with
    | .inr (.inr (.inl x)) :: r => (aset2 ls k (aL x)).map fun l => (pc + 1, l, r, I, L, R, K)
    | _ => none
  | .astore k => match st with
    | .inr (.inl (some x)) :: r => (aset ls k (aR (some x))).map fun l => (pc + 2, l, r, I, L, R, K)
    | _ => none
  | .astore_n k => match st with
    | .inr (.inl (some x)) :: r => (aset ls k (aR (some x))).map fun l => (pc + 1, l, r, I, L, R, K)
    | _ => none
  | .iinc k c => match aget ls k with
    | some (.inl x) => if n = 3 ∨ n = 6 then (aset ls k (aI (Int32.ofInt x + Int32.ofInt c).toInt)).map fun l => (pc + n, l, st, I, L, R, K) else none
    | _ => none
  | .dup => match st with
    | v :: r => if isLng v = true then none else some (pc + 1, ls, v :: v :: r, I, L, R, K)
    | _ => none
  | .dup2 => match st with
    | v :: w :: r => if isLng v = true ∨ isLng w = true then none else some (pc + 1, ls, v :: w :: v :: w :: r, I, L, R, K)
    | _ => none
  | .pop => match st with
    | v :: r => if isLng v = true then none else some (pc + 1, ls, r, I, L, R, K)
    | _ => none
  | .i2b => match st with
    | .inl x :: r => some (pc + 1, ls, aI (Int32.ofInt x).toInt8.toInt32.toInt :: r, I, L, R, K)
    | _ => none
  | .i2s => match st with
    | .inl x :: r => some (pc + 1, ls, aI (Int32.ofInt x).toInt16.toInt32.toInt :: r, I, L, R, K)
    | _ => none
  | .l2i => match st with
    | .inr (.inr (.inl x)) :: r => some (pc + 1, ls, aI x.toInt32.toInt :: r, I, L, R, K)
    | _ => none
  | .lcmp => match st with
    | .inr (.inr (.inl y)) :: .inr (.inr (.inl x)) :: r => some (pc + 1, ls, aI (lg_cmp x y).toInt :: r, I, L, R, K)
    | _ => none
  | .lushr => match st with
    | .inl y :: .inr (.inr (.inl x)) :: r => some (pc + 1, ls, aL (x.toUInt64 >>> ((Int32.ofInt y).toInt64.toUInt64 &&& Int64.toUInt64 63)).toInt64 :: r, I, L, R, K)
    | _ => none
  | .lshl => match st with
    | .inl y :: .inr (.inr (.inl x)) :: r => some (pc + 1, ls, aL (x <<< ((Int32.ofInt y).toInt64 &&& 63)) :: r, I, L, R, K)
    | _ => none
  | .goto off => (jmp pc off).map fun t => (t, ls, st, I, L, R, K)
  | .ifCond c off => match st with
    | .inl x :: r => match jmp pc off with
      | some t => if cmpB c x 0 = true then some (t, ls, r, I, L, R, K) else some (pc + 3, ls, r, I, L, R, K)
      | none => none
    | _ => none
  | .if_icmp c off => match st with
    | .inl y :: .inl x :: r => match jmp pc off with
      | some t => if cmpB c x y = true then some (t, ls, r, I, L, R, K) else some (pc + 3, ls, r, I, L, R, K)
      | none => none
    | _ => none
  | .tableswitch d lo hi offs => match st with
    | .inl x :: r => if x < lo ∨ hi < x then (jmp pc d).map fun t => (t, ls, r, I, L, R, K) else match offs[(x - lo).toNat]? with
      | some off => (jmp pc off).map fun t => (t, ls, r, I, L, R, K)
      | none => none
    | _ => none
  | .lookupswitch d ps => match st with
    | .inl x :: r => if (ps.toList.zip (ps.toList.drop 1)).all (fun (a, next) => a.1 < next.1) = true then (jmp pc (Op.lookupswitch.offset ps.toList d x)).map fun t => (t, ls, r, I, L, R, K) else none
    | _ => none
  | .getfield idx => match st with
    | .inr (.inl (some a)) :: r => match fSite (mOwn mi) idx with
      | some (ci, k, _) => if K.1 a = ci then (match fKind ci k with
        | 0 => some (pc + 3, ls, aI (I a k) :: r, I, L, R, K)
        | 1 => some (pc + 3, ls, aI (I a k) :: r, I, L, R, K)
        | 2 => some (pc + 3, ls, aR (R a k) :: r, I, L, R, K)
        | _ => none) else none
      | none => none
    | _ => none
  | .putfield idx => match st with
    | v :: .inr (.inl (some a)) :: r => match fSite (mOwn mi) idx with
      | some (ci, k, nest) => if K.1 a = ci ∧ (fFin ci k = false ∨ (mOwn mi = ci ∧ nest = false ∧ (mName mi).name = "<init>")) then (match fKind ci k, v with
        | 0, .inl x => some (pc + 3, ls, r, setF I a k x, L, R, K)
        | 1, .inl x => if x = 0 ∨ x = 1 then some (pc + 3, ls, r, setF I a k x, L, R, K) else none
        | 2, .inr (.inl x) => some (pc + 3, ls, r, I, L, setF R a k x, K)
        | _, _ => none) else none
      | none => none
    | _ => none
  | .arraylength => match st with
    | .inr (.inl (some a)) :: r => if 100 ≤ K.1 a ∧ K.1 a ≤ 105 then some (pc + 1, ls, aI (K.2.1 a : Nat) :: r, I, L, R, K) else none
    | .inr (.inr (.inr 0)) :: r => some (pc + 1, ls, aI (sc.1 : Nat) :: r, I, L, R, K)
    | _ => none
  | .iaload => match st with
    | .inl i :: .inr (.inl (some a)) :: r => if K.1 a = 100 ∧ inRow i (K.2.1 a) = true then some (pc + 1, ls, aI (I a i.toNat) :: r, I, L, R, K) else none
    | .inl i :: .inr (.inr (.inr 0)) :: r => if inRow i sc.1 = true then some (pc + 1, ls, aI (sc.2 i.toNat) :: r, I, L, R, K) else none
    | _ => none
  | .baload => match st with
    | .inl i :: .inr (.inl (some a)) :: r => if K.1 a = 101 ∧ inRow i (K.2.1 a) = true then some (pc + 1, ls, aI (I a i.toNat) :: r, I, L, R, K) else none
    | _ => none
  | .laload => match st with
    | .inl i :: .inr (.inl (some a)) :: r => if K.1 a = 102 ∧ inRow i (K.2.1 a) = true then some (pc + 1, ls, aL (L a i.toNat) :: r, I, L, R, K) else none
    | _ => none
  | .aaload => match st with
    | .inl i :: .inr (.inl (some a)) :: r => if (K.1 a = 103 ∨ K.1 a = 104 ∨ K.1 a = 105) ∧ inRow i (K.2.1 a) = true then some (pc + 1, ls, aR (R a i.toNat) :: r, I, L, R, K) else none
    | _ => none
  | .iastore => match st with
    | .inl x :: .inl i :: .inr (.inl (some a)) :: r => if K.1 a = 100 ∧ inRow i (K.2.1 a) = true then some (pc + 1, ls, r, setF I a i.toNat x, L, R, K) else none
    | _ => none
  | .bastore => match st with
    | .inl x :: .inl i :: .inr (.inl (some a)) :: r => if (K.1 a = 101 ∧ inRow i (K.2.1 a) = true) ∧ (x = 0 ∨ x = 1) then some (pc + 1, ls, r, setF I a i.toNat x, L, R, K) else none
    | _ => none
  | .lastore => match st with
    | .inr (.inr (.inl x)) :: .inl i :: .inr (.inl (some a)) :: r => if K.1 a = 102 ∧ inRow i (K.2.1 a) = true then some (pc + 1, ls, r, I, setF L a i.toNat x, R, K) else none
    | _ => none
  | .aastore => match st with
    | .inr (.inl (some x)) :: .inl i :: .inr (.inl (some a)) :: r => if ((K.1 a = 103 ∧ K.1 x = 4) ∨ (K.1 a = 104 ∧ K.1 x = 9)) ∧ inRow i (K.2.1 a) = true then some (pc + 1, ls, r, I, L, setF R a i.toNat (some x), K) else none
    | _ => none
  | .newarray t => match st with
    | .inl n :: r => match arrKind t with
      | some k => if 0 ≤ n ∧ n ≤ 65536 then some (pc + 2, ls, aR (some K.2.2.1) :: r, I, L, R, amAlloc K k n.toNat) else none
      | none => none
    | _ => none
  | .anewarray idx => match st with
    | .inl n :: r => match aSite (mOwn mi) idx with
      | some k => if 0 ≤ n ∧ n ≤ 65536 then some (pc + 3, ls, aR (some K.2.2.1) :: r, I, L, R, amAlloc K k n.toNat) else none
      | none => none
    | _ => none
  | .multianewarray idx d => match st with
    | .inl k :: .inl n :: r => match uSite (mOwn mi) idx with
      | some _ => if (0 ≤ n ∧ n ≤ 65536) ∧ (0 ≤ k ∧ k ≤ 65536) ∧ d = 2 then some (pc + 4, ls, aR (some K.2.2.1) :: r, I, L, rows2 R K.2.2.1 n.toNat, amAlloc2 K n.toNat k.toNat) else none
      | none => none
    | _ => none
  | .new idx => match nSite (mOwn mi) idx with
    | some ci => some (pc + 3, ls, aR (some K.2.2.1) :: st, I, L, R, amAlloc K ci (nFld ci))
    | none => none
  | .iadd => stB .iadd pc ls st I L R K
  | .isub => stB .isub pc ls st I L R K
  | .imul => stB .imul pc ls st I L R K
  | .iand => stB .iand pc ls st I L R K
  | .ior => stB .ior pc ls st I L R K
  | .ixor => stB .ixor pc ls st I L R K
  | .ishl => stB .ishl pc ls st I L R K
  | .ishr => stB .ishr pc ls st I L R K
  | .iushr => stB .iushr pc ls st I L R K
  | .idiv => stB .idiv pc ls st I L R K
  | .irem => stB .irem pc ls st I L R K
  | .ladd => stQ .ladd pc ls st I L R K
  | .lsub => stQ .lsub pc ls st I L R K
  | .land => stQ .land pc ls st I L R K
  | .lor => stQ .lor pc ls st I L R K
  | _ => none
/-- the pool numbers of calls of Object.<init>, of System.arraycopy -/
def isObj (o idx : Nat) : Bool := decide (idx < 4096) && oTab.contains (o * 4096 + idx)
def isCopy (o idx : Nat) : Bool := decide (idx < 4096) && o * 4096 + idx == copyKey
def catA (v : AV) : Nat := if isLng v = true then 2 else 1
def catS (st : List AV) : Nat := (st.map catA).sum
/-- a callee's locals -/
def mkL : List AV → ALs
  | [] => []
  | v :: r => if isLng v = true then some v :: none :: mkL r else some v :: mkL r
/-- may this be the receiver of a call of this kind (0 static, 1 virtual, 2 special)? -/
def recvOK (cmi ks : Nat) (as : List AV) (K : KH) : Bool := match as with
  | .inr (.inl (some a)) :: _ => ks == 0 || (K.1 a == mOwn cmi && decide (mOwn cmi < 13))
  | .inr (.inr (.inr _)) :: _ => ks == 0 || (ks == 1 && (cmi == mCharAt || cmi == mLength))
  | _ => ks == 0
/-- how many a call takes from the stack -/
def naOf (cmi ks : Nat) : Nat := mArgs cmi + (if ks = 0 then 0 else 1)
def isMM (cmi : Nat) : Bool := cmi == mMax || cmi == mMin
def isStr (cmi : Nat) : Bool := cmi == mCharAt || cmi == mLength
/-- a call: the method, its arguments, the rest of the stack -/
def callOf (mi idx ks : Nat) (st : List AV) (K : KH) : Option (Nat × List AV × List AV) := match cSite (mOwn mi) idx with
  | some (cmi, kind, _) =>
    if kind = ks ∧ mLvl cmi < mLvl mi ∧ naOf cmi ks ≤ st.length ∧ catS (st.drop (naOf cmi ks)) ≤ 8 ∧ (mkL (st.take (naOf cmi ks)).reverse).length ≤ mMaxL cmi ∧ (ks = 0 ∨ isMM cmi = false) ∧ recvOK cmi ks (st.take (naOf cmi ks)).reverse K = true
    then some (cmi, (st.take (naOf cmi ks)).reverse, st.drop (naOf cmi ks)) else none
  | none => none
/-- the two methods of String constants -/
def amPrim (cmi : Nat) (as : List AV) : Option Int := match as with
  | [.inr (.inr (.inr (j + 1)))] => if cmi = mLength then (sBytes[j]?).map fun b => (b.length : Nat) else none
  | [.inr (.inr (.inr (j + 1))), .inl k] => if cmi = mCharAt then (match sBytes[j]? with
    | some b => if inRow k b.length = true then some (b.getD k.toNat 0) else none
    | none => none) else none
  | _ => none
/-- Math.max, Math.min -/
def minMax (cmi : Nat) (x y : Int) : Int := if cmi = mMax then (if x < y then y else x) else (if y < x then y else x)
def padL (n : Nat) (l : ALs) : ALs := l ++ List.replicate (n - l.length) none
def copyI (I : IH) (a sp b dp n : Nat) : IH := fun c j => if c = b ∧ dp ≤ j ∧ j < dp + n then I a (sp + (j - dp)) else I c j
/-- what an instruction's length must be -/
def insLen (i : Instr) (n : Nat) : Bool := match i with
  | .iload _ | .aload _ | .lload _ | .istore _ | .astore _ | .bipush _ | .ldc _ | .newarray _ => n == 2
  | .iinc _ _ => n == 3 || n == 6
  | .sipush _ | .ldc_w _ | .ldc2_w _ | .goto _ | .ifCond _ _ | .if_icmp _ _ | .getfield _ | .putfield _ | .anewarray _ | .new _ | .invokestatic _ | .invokevirtual _ | .invokespecial _ => n == 3
  | .multianewarray _ _ => n == 4
  | .tableswitch _ _ _ _ | .lookupswitch _ _ => true
  | _ => n == 1
abbrev ARes : Type := Option AV × IH × LH × RH × KH
def retI (mi : Nat) (x : Int) : Bool := match mRet mi with
  | some .int => true
  | some .boolean => x == 0 || x == 1
  | _ => false
def retA (mi : Nat) : Bool := match mRet mi with
  | some (.object _) => true
  | _ => false
def amRun (sc : Nat × (Nat → Int)) : Nat → Nat → Nat → ALs → List AV → IH → LH → RH → KH → Option ARes
  | 0, _, _, _, _, _, _, _, _ => none
  | f + 1, mi, pc, ls, st, I, L, R, K => match decode (mBytes mi) pc with
    | .error _ => none
    | .ok (i, n) => if insLen i n = true then (match i with
      | .ireturn => match st with
        | [.inl x] => if retI mi x = true then some (some (aI x), I, L, R, K) else none
        | _ => none
      | .areturn => match st with
        | [.inr (.inl (some a))] => if retA mi = true then some (some (aR (some a)), I, L, R, K) else none
        | [.inr (.inr (.inr j))] => if retA mi = true then some (some (aF j), I, L, R, K) else none
        | _ => none
      | .return_ => if mRet mi = none ∧ st = [] then some (none, I, L, R, K) else none
      | .invokestatic idx => if isCopy (mOwn mi) idx = true then (match st with
          | .inl k :: .inl dp :: .inr (.inl (some b)) :: .inl sp :: .inr (.inl (some a)) :: r =>
            if K.1 a = 100 ∧ K.1 b = 100 ∧ 0 ≤ k ∧ 0 ≤ sp ∧ 0 ≤ dp ∧ sp + k ≤ (K.2.1 a : Nat) ∧ dp + k ≤ (K.2.1 b : Nat) ∧ catS r ≤ 8 ∧ 1 ≤ mLvl mi then amRun sc f mi (pc + 3) ls r (copyI I a sp.toNat b dp.toNat k.toNat) L R K else none
          | _ => none)
        else match callOf mi idx 0 st K with
          | some (cmi, as, r) => if isMM cmi = true then (match as with
              | [.inl x, .inl y] => amRun sc f mi (pc + 3) ls (aI (minMax cmi x y) :: r) I L R K
              | _ => none)
            else match amRun sc f cmi 0 (padL (mMaxL cmi) (mkL as)) [] I L R K with
            | some (rv, I1, L1, R1, K1) => amRun sc f mi (pc + 3) ls (rv.toList ++ r) I1 L1 R1 K1
            | none => none
          | none => none
      | .invokevirtual idx => match callOf mi idx 1 st K with
        | some (cmi, as, r) => if isStr cmi = true then (match amPrim cmi as with
            | some x => amRun sc f mi (pc + 3) ls (aI x :: r) I L R K
            | none => none)
          else match amRun sc f cmi 0 (padL (mMaxL cmi) (mkL as)) [] I L R K with
            | some (rv, I1, L1, R1, K1) => amRun sc f mi (pc + 3) ls (rv.toList ++ r) I1 L1 R1 K1
            | none => none
        | none => none
      | .invokespecial idx => if isObj (mOwn mi) idx = true then (match st with
          | .inr (.inl (some _)) :: r => if 1 ≤ mLvl mi ∧ catS r ≤ 8 then amRun sc f mi (pc + 3) ls r I L R K else none
          | _ => none)
        else match callOf mi idx 2 st K with
          | some (cmi, as, r) => match amRun sc f cmi 0 (padL (mMaxL cmi) (mkL as)) [] I L R K with
            | some (rv, I1, L1, R1, K1) => amRun sc f mi (pc + 3) ls (rv.toList ++ r) I1 L1 R1 K1
            | none => none
          | none => none
      | i => match stepL sc mi i n pc ls st I L R K with
        | some (pc1, ls1, st1, I1, L1, R1, K1) => amRun sc f mi pc1 ls1 st1 I1 L1 R1 K1
        | none => none) else none
