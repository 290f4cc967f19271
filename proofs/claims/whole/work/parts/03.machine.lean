/-! the pure machine: a world is a list of shapes, the references that the cells hold, the ints and the longs that they hold -/
abbrev pSC : Type := Nat ⊕ (FieldType × Nat)
abbrev pWD : Type := List pSC × List (List (Option Nat)) × (Nat → Nat → Int32) × (Nat → Nat → Int64)
abbrev pLT : Type := List (Option Value)
abbrev pSX : Type := Nat × (Nat → Int32)
def pR (w : pWD) (a k : Nat) : Option Nat := (w.2.1.getD a []).getD k none
def pRset (w : pWD) (a k v : Nat) : List (List (Option Nat)) := w.2.1.set a ((w.2.1.getD a []).set k (some v))
def upM {α : Type} (f : Nat → Nat → α) (a k : Nat) (v : α) : Nat → Nat → α := fun b j => if b = a then (if j = k then v else f a j) else f b j
def clM {α : Type} (f : Nat → Nat → α) (a : Nat) (v : α) : Nat → Nat → α := fun b j => if b = a then v else f b j
def cpM {α : Type} (f : Nat → Nat → α) (a0 a sp dp n : Nat) : Nat → Nat → α := fun b j => if b = a then va_cpy (f a0) (f a) sp dp n j else f b j
def pC (c : Int) : Int32 := match c with
  | .ofNat n => nI n
  | .negSucc n => -nI (n + 1)
def pCL (x y : Nat) : Int64 := bif Nat.beq x 0 then lN y else -lN y
def pClr (L : pLT) (i : Nat) : pLT := match i with
  | 0 => L
  | i + 1 => match L.getD i none with
    | some (.long _) => L.set i none
    | some (.double _) => L.set i none
    | _ => L
def pS1 (L : pLT) (i : Nat) (v : Value) : pLT := (pClr L i).set i (some v)
def pS2 (L : pLT) (i : Nat) (v : Value) : pLT := ((pClr L i).set i (some v)).set (i + 1) none
def pIn (i : Int32) (n : Nat) : Bool := !(decide (i < 0) || decide (n ≤ i.toNatClampNeg))
def pFv (w : pWD) (ci k a : Nat) : Value := match pTy ci k with
  | .long => .long (w.2.2.2 a k)
  | .object _ => va_rf (pR w a k)
  | .array _ => va_rf (pR w a k)
  | _ => .int (w.2.2.1 a k)
def pLdI (L : pLT) (i : Nat) : Option Value := match L.getD i none with
  | some (.int v) => some (.int v)
  | _ => none
def pLdL (L : pLT) (i : Nat) : Option Value := match L.getD i none with
  | some (.long v) => some (.long v)
  | _ => none
def pLdA (L : pLT) (i : Nat) : Option Value := match L.getD i none with
  | some (.ref v) => some (.ref v)
  | some .null => some .null
  | some (.retAddr v) => some (.retAddr v)
  | _ => none
def pI1 (f : Int32 → Int32) (S : List Value) : Option (List Value) := match S with
  | .int x :: T => some (.int (f x) :: T)
  | _ => none
def pI2 (f : Int32 → Int32 → Int32) (S : List Value) : Option (List Value) := match S with
  | .int y :: .int x :: T => some (.int (f x y) :: T)
  | _ => none
def pL2 (f : Int64 → Int64 → Int64) (S : List Value) : Option (List Value) := match S with
  | .long y :: .long x :: T => some (.long (f x y) :: T)
  | _ => none
abbrev pNx : Type := Bool × Nat × pLT × List Value × pWD
/-- a step of an instruction that isn't a branch, a call or a return; its first part is what must hold for it -/
def pStep (X : pSX) (q : pXI) (pc : Nat) (L : pLT) (S : List Value) (w : pWD) : Option pNx :=
  match q.1 with
  | .iconst n => some (true, pc + q.2.1, L, .int (pC n) :: S, w)
  | .bipush n => some (true, pc + q.2.1, L, .int (pC n) :: S, w)
  | .sipush n => some (true, pc + q.2.1, L, .int (pC n) :: S, w)
  | .lconst n => some (true, pc + q.2.1, L, .long (lN n) :: S, w)
  | .ldc _ => some (true, pc + q.2.1, L, .int (nI q.2.2.2.1) :: S, w)
  | .ldc2_w _ => some (true, pc + q.2.1, L, .long (pCL q.2.2.1 q.2.2.2.1) :: S, w)
  | .aconst_null => some (true, pc + q.2.1, L, .null :: S, w)
  | .iload i => (pLdI L i).map fun v => (true, pc + q.2.1, L, v :: S, w)
  | .iload_n i => (pLdI L i).map fun v => (true, pc + q.2.1, L, v :: S, w)
  | .lload i => (pLdL L i).map fun v => (true, pc + q.2.1, L, v :: S, w)
  | .lload_n i => (pLdL L i).map fun v => (true, pc + q.2.1, L, v :: S, w)
  | .aload i => (pLdA L i).map fun v => (true, pc + q.2.1, L, v :: S, w)
  | .aload_n i => (pLdA L i).map fun v => (true, pc + q.2.1, L, v :: S, w)
  | .istore i => match S with
    | .int v :: T => some (true, pc + q.2.1, pS1 L i (.int v), T, w)
    | _ => none
  | .istore_n i => match S with
    | .int v :: T => some (true, pc + q.2.1, pS1 L i (.int v), T, w)
    | _ => none
  | .lstore i => match S with
    | .long v :: T => some (true, pc + q.2.1, pS2 L i (.long v), T, w)
    | _ => none
  | .lstore_n i => match S with
    | .long v :: T => some (true, pc + q.2.1, pS2 L i (.long v), T, w)
    | _ => none
  | .astore i => match S with
    | .ref v :: T => some (true, pc + q.2.1, pS1 L i (.ref v), T, w)
    | .null :: T => some (true, pc + q.2.1, pS1 L i .null, T, w)
    | _ => none
  | .astore_n i => match S with
    | .ref v :: T => some (true, pc + q.2.1, pS1 L i (.ref v), T, w)
    | .null :: T => some (true, pc + q.2.1, pS1 L i .null, T, w)
    | _ => none
  | .iinc i n => match L.getD i none with
    | some (.int v) => some (true, pc + q.2.1, pS1 L i (.int (v + pC n)), S, w)
    | _ => none
  | .iadd => (pI2 (fun x y => x + y) S).map fun T => (true, pc + q.2.1, L, T, w)
  | .isub => (pI2 (fun x y => x - y) S).map fun T => (true, pc + q.2.1, L, T, w)
  | .imul => (pI2 (fun x y => x * y) S).map fun T => (true, pc + q.2.1, L, T, w)
  | .iand => (pI2 (fun x y => x &&& y) S).map fun T => (true, pc + q.2.1, L, T, w)
  | .ior => (pI2 (fun x y => x ||| y) S).map fun T => (true, pc + q.2.1, L, T, w)
  | .ixor => (pI2 (fun x y => x ^^^ y) S).map fun T => (true, pc + q.2.1, L, T, w)
  | .ishl => (pI2 (fun x y => x <<< (y &&& 31)) S).map fun T => (true, pc + q.2.1, L, T, w)
  | .ishr => (pI2 (fun x y => x >>> (y &&& 31)) S).map fun T => (true, pc + q.2.1, L, T, w)
  | .iushr => (pI2 (fun x y => (x.toUInt32 >>> (y.toUInt32 &&& Int32.toUInt32 31)).toInt32) S).map fun T => (true, pc + q.2.1, L, T, w)
  | .idiv => match S with
    | .int y :: .int x :: T => some (!decide (y = 0), pc + q.2.1, L, .int (x / y) :: T, w)
    | _ => none
  | .irem => match S with
    | .int y :: .int x :: T => some (!decide (y = 0), pc + q.2.1, L, .int (x - x / y * y) :: T, w)
    | _ => none
  | .ladd => (pL2 (fun x y => x + y) S).map fun T => (true, pc + q.2.1, L, T, w)
  | .lsub => (pL2 (fun x y => x - y) S).map fun T => (true, pc + q.2.1, L, T, w)
  | .lmul => (pL2 (fun x y => x * y) S).map fun T => (true, pc + q.2.1, L, T, w)
  | .land => (pL2 (fun x y => x &&& y) S).map fun T => (true, pc + q.2.1, L, T, w)
  | .lor => (pL2 (fun x y => x ||| y) S).map fun T => (true, pc + q.2.1, L, T, w)
  | .lxor => (pL2 (fun x y => x ^^^ y) S).map fun T => (true, pc + q.2.1, L, T, w)
  | .ldiv => match S with
    | .long y :: .long x :: T => some (!decide (y = 0), pc + q.2.1, L, .long (x / y) :: T, w)
    | _ => none
  | .lrem => match S with
    | .long y :: .long x :: T => some (!decide (y = 0), pc + q.2.1, L, .long (x - x / y * y) :: T, w)
    | _ => none
  | .lneg => match S with
    | .long x :: T => some (true, pc + q.2.1, L, .long (-x) :: T, w)
    | _ => none
  | .lshl => match S with
    | .int y :: .long x :: T => some (true, pc + q.2.1, L, .long (x <<< (y.toInt64 &&& 63)) :: T, w)
    | _ => none
  | .lcmp => match S with
    | .long y :: .long x :: T => some (true, pc + q.2.1, L, .int (lg_cmp x y) :: T, w)
    | _ => none
  | .i2l => match S with
    | .int x :: T => some (true, pc + q.2.1, L, .long x.toInt64 :: T, w)
    | _ => none
  | .l2i => match S with
    | .long x :: T => some (true, pc + q.2.1, L, .int x.toInt32 :: T, w)
    | _ => none
  | .i2b => (pI1 (fun x => x.toInt8.toInt32) S).map fun T => (true, pc + q.2.1, L, T, w)
  | .i2s => (pI1 (fun x => x.toInt16.toInt32) S).map fun T => (true, pc + q.2.1, L, T, w)
  | .dup => match S with
    | v :: T => some (Nat.beq v.category 1, pc + q.2.1, L, v :: v :: T, w)
    | _ => none
  | .dup2 => match S with
    | v :: u :: T => some (Nat.beq v.category 1 && Nat.beq u.category 1, pc + q.2.1, L, v :: u :: v :: u :: T, w)
    | _ => none
  | .pop => match S with
    | v :: T => some (Nat.beq v.category 1, pc + q.2.1, L, T, w)
    | _ => none
  | .goto _ => some (true, q.2.2.1, L, S, w)
  | .ifnull _ => match S with
    | .null :: T => some (true, q.2.2.1, L, T, w)
    | .ref _ :: T => some (true, pc + q.2.1, L, T, w)
    | _ => none
  | .ifnonnull _ => match S with
    | .null :: T => some (true, pc + q.2.1, L, T, w)
    | .ref _ :: T => some (true, q.2.2.1, L, T, w)
    | _ => none
  | .getfield _ => match S with
    | .ref a :: T => match w.1[a]? with
      | some (.inl ci) => some (Nat.beq ci q.2.2.1, pc + q.2.1, L, pFv w q.2.2.1 q.2.2.2.1 a :: T, w)
      | _ => none
    | _ => none
  | .putfield _ => match S with
    | .int v :: .ref a :: T => match w.1[a]? with
      | some (.inl ci) => match pTy q.2.2.1 q.2.2.2.1 with
        | .int => some (Nat.beq ci q.2.2.1, pc + q.2.1, L, T, (w.1, w.2.1, upM w.2.2.1 a q.2.2.2.1 v, w.2.2.2))
        | .boolean => some (Nat.beq ci q.2.2.1 && (decide (v = nI 0) || decide (v = nI 1)), pc + q.2.1, L, T, (w.1, w.2.1, upM w.2.2.1 a q.2.2.2.1 v, w.2.2.2))
        | _ => none
      | _ => none
    | .long v :: .ref a :: T => match w.1[a]? with
      | some (.inl ci) => match pTy q.2.2.1 q.2.2.2.1 with
        | .long => some (Nat.beq ci q.2.2.1, pc + q.2.1, L, T, (w.1, w.2.1, w.2.2.1, upM w.2.2.2 a q.2.2.2.1 v))
        | _ => none
      | _ => none
    | .ref v :: .ref a :: T => match w.1[a]? with
      | some (.inl ci) => match pTy q.2.2.1 q.2.2.2.1 with
        | .object _ => some (Nat.beq ci q.2.2.1 && Nat.blt q.2.2.2.1 (w.2.1.getD a []).length, pc + q.2.1, L, T, (w.1, pRset w a q.2.2.2.1 v, w.2.2.1, w.2.2.2))
        | .array _ => some (Nat.beq ci q.2.2.1 && Nat.blt q.2.2.2.1 (w.2.1.getD a []).length, pc + q.2.1, L, T, (w.1, pRset w a q.2.2.2.1 v, w.2.2.1, w.2.2.2))
        | _ => none
      | _ => none
    | _ => none
  | .iaload => match S with
    | .int i :: .ref a :: T => match w.1[a]? with
      | some (.inr (.int, n)) => some (pIn i n, pc + q.2.1, L, .int (w.2.2.1 a i.toNatClampNeg) :: T, w)
      | _ => none
    | .int i :: .retAddr _ :: T => some (pIn i X.1, pc + q.2.1, L, .int (X.2 i.toNatClampNeg) :: T, w)
    | _ => none
  | .baload => match S with
    | .int i :: .ref a :: T => match w.1[a]? with
      | some (.inr (.byte, n)) => some (pIn i n, pc + q.2.1, L, .int (w.2.2.1 a i.toNatClampNeg) :: T, w)
      | some (.inr (.boolean, n)) => some (pIn i n, pc + q.2.1, L, .int (w.2.2.1 a i.toNatClampNeg) :: T, w)
      | _ => none
    | _ => none
  | .laload => match S with
    | .int i :: .ref a :: T => match w.1[a]? with
      | some (.inr (.long, n)) => some (pIn i n, pc + q.2.1, L, .long (w.2.2.2 a i.toNatClampNeg) :: T, w)
      | _ => none
    | _ => none
  | .aaload => match S with
    | .int i :: .ref a :: T => match w.1[a]? with
      | some (.inr (.object _, n)) => some (pIn i n, pc + q.2.1, L, va_rf (pR w a i.toNatClampNeg) :: T, w)
      | _ => none
    | _ => none
  | .iastore => match S with
    | .int v :: .int i :: .ref a :: T => match w.1[a]? with
      | some (.inr (.int, n)) => some (pIn i n, pc + q.2.1, L, T, (w.1, w.2.1, upM w.2.2.1 a i.toNatClampNeg v, w.2.2.2))
      | _ => none
    | _ => none
  | .bastore => match S with
    | .int v :: .int i :: .ref a :: T => match w.1[a]? with
      | some (.inr (.byte, n)) => some (pIn i n, pc + q.2.1, L, T, (w.1, w.2.1, upM w.2.2.1 a i.toNatClampNeg (vp_nar .byte v), w.2.2.2))
      | some (.inr (.boolean, n)) => some (pIn i n, pc + q.2.1, L, T, (w.1, w.2.1, upM w.2.2.1 a i.toNatClampNeg (vp_nar .boolean v), w.2.2.2))
      | _ => none
    | _ => none
  | .lastore => match S with
    | .long v :: .int i :: .ref a :: T => match w.1[a]? with
      | some (.inr (.long, n)) => some (pIn i n, pc + q.2.1, L, T, (w.1, w.2.1, w.2.2.1, upM w.2.2.2 a i.toNatClampNeg v))
      | _ => none
    | _ => none
  | .aastore => match S with
    | .ref v :: .int i :: .ref a :: T => match w.1[a]?, w.1[v]? with
      | some (.inr (.object C, n)), some (.inl ci) => some (pIn i n && (decide (C = pNm ci) && Nat.blt ci 8) && Nat.blt i.toNatClampNeg (w.2.1.getD a []).length, pc + q.2.1, L, T, (w.1, pRset w a i.toNatClampNeg v, w.2.2.1, w.2.2.2))
      | _, _ => none
    | _ => none
  | .arraylength => match S with
    | .ref a :: T => match w.1[a]? with
      | some (.inr (_, n)) => some (true, pc + q.2.1, L, .int (nI n) :: T, w)
      | _ => none
    | .retAddr _ :: T => some (true, pc + q.2.1, L, .int (nI X.1) :: T, w)
    | _ => none
  | .new _ => some (true, pc + q.2.1, L, .ref w.1.length :: S, (w.1 ++ [.inl q.2.2.1], w.2.1 ++ [List.replicate (pN q.2.2.1) none], clM w.2.2.1 w.1.length 0, clM w.2.2.2 w.1.length 0))
  | .newarray ty => match S with
    | .int n :: T => some (!decide (n < 0) && Nat.ble n.toNatClampNeg 1000, pc + q.2.1, L, .ref w.1.length :: T, (w.1 ++ [.inr (newarray.typeOf ty, n.toNatClampNeg)], w.2.1 ++ [[]], clM w.2.2.1 w.1.length 0, clM w.2.2.2 w.1.length 0))
    | _ => none
  | .anewarray _ => match S with
    | .int n :: T => some (!decide (n < 0) && Nat.ble n.toNatClampNeg 1000, pc + q.2.1, L, .ref w.1.length :: T, (w.1 ++ [.inr (.object (pNm q.2.2.1), n.toNatClampNeg)], w.2.1 ++ [List.replicate n.toNatClampNeg none], clM w.2.2.1 w.1.length 0, clM w.2.2.2 w.1.length 0))
    | _ => none
  | .invokespecial _ => match q.2.2.1 with
    | 1004 => match S with
      | .ref _ :: T => some (Nat.ble (T.map fun v => v.category).sum 8, pc + q.2.1, L, T, w)
      | _ => none
    | _ => none
  | .invokestatic _ => match q.2.2.1 with
    | 1000 => match S with
      | .int y :: .int x :: T => some (Nat.ble (T.map fun v => v.category).sum 8, pc + q.2.1, L, .int (if x < y then y else x) :: T, w)
      | _ => none
    | 1001 => match S with
      | .int y :: .int x :: T => some (Nat.ble (T.map fun v => v.category).sum 8, pc + q.2.1, L, .int (if y < x then y else x) :: T, w)
      | _ => none
    | 1002 => match S with
      | .long x :: T => some (Nat.ble (T.map fun v => v.category).sum 8, pc + q.2.1, L, .long (if 0 < x then x else -x) :: T, w)
      | _ => none
    | 1003 => match S with
      | .int n :: .int dp :: .ref a :: .int sp :: .ref a0 :: T => match w.1[a0]?, w.1[a]? with
        | some (.inr (.int, n0)), some (.inr (.int, n1)) => some (!decide (sp < 0) && (!decide (dp < 0) && (!decide (n < 0) && (Nat.ble (sp.toNatClampNeg + n.toNatClampNeg) n0 && Nat.ble (dp.toNatClampNeg + n.toNatClampNeg) n1))) && Nat.ble (T.map fun v => v.category).sum 8, pc + q.2.1, L, T, (w.1, w.2.1, cpM w.2.2.1 a0 a sp.toNatClampNeg dp.toNatClampNeg n.toNatClampNeg, w.2.2.2))
        | some (.inr (.long, n0)), some (.inr (.long, n1)) => some (!decide (sp < 0) && (!decide (dp < 0) && (!decide (n < 0) && (Nat.ble (sp.toNatClampNeg + n.toNatClampNeg) n0 && Nat.ble (dp.toNatClampNeg + n.toNatClampNeg) n1))) && Nat.ble (T.map fun v => v.category).sum 8, pc + q.2.1, L, T, (w.1, w.2.1, w.2.2.1, cpM w.2.2.2 a0 a sp.toNatClampNeg dp.toNatClampNeg n.toNatClampNeg))
        | _, _ => none
      | _ => none
    | _ => none
  | _ => none
def pCmp (c : ClassFile.Cond) (x y : Int32) : Prop := match c with
  | .eq => x = y
  | .ne => ¬ x = y
  | .lt => x < y
  | .ge => y ≤ x
  | .gt => y < x
  | .le => x ≤ y
def pCmpD (c : ClassFile.Cond) (x y : Int32) : Decidable (pCmp c x y) := match c with
  | .eq => inferInstanceAs (Decidable (x = y))
  | .ne => inferInstanceAs (Decidable (¬ x = y))
  | .lt => inferInstanceAs (Decidable (x < y))
  | .ge => inferInstanceAs (Decidable (y ≤ x))
  | .gt => inferInstanceAs (Decidable (y < x))
  | .le => inferInstanceAs (Decidable (x ≤ y))
def pSw (sw : List (Nat × Nat)) (d : Nat) (v : Int32) : Nat := match sw with
  | [] => d
  | (c, t) :: r => if v = nI c then t else pSw r d v
/-- a branch -/
def pBr (q : pXI) (pc : Nat) (S : List Value) : Option (Nat × List Value) := match q.1 with
  | .ifCond c _ => match S with
    | .int x :: T => some (@ite _ (pCmp c x 0) (pCmpD c x 0) q.2.2.1 (pc + q.2.1), T)
    | _ => none
  | .if_icmp c _ => match S with
    | .int y :: .int x :: T => some (@ite _ (pCmp c x y) (pCmpD c x y) q.2.2.1 (pc + q.2.1), T)
    | _ => none
  | .tableswitch .. => match S with
    | .int x :: T => some (pSw q.2.2.2.2 q.2.2.1 x, T)
    | _ => none
  | .lookupswitch .. => match S with
    | .int x :: T => some (pSw q.2.2.2.2 q.2.2.1 x, T)
    | _ => none
  | _ => none
/-- a return: what is returned; a method that returns a boolean returns 0 or 1 -/
def pRtn (k : Nat) (q : pXI) (S : List Value) : Option (Bool × Option Value) := match q.1 with
  | .ireturn => match S with
    | [.int v] => match pRt k with
      | some .boolean => some (decide (v = nI 0) || decide (v = nI 1), some (.int v))
      | some .int => some (true, some (.int v))
      | _ => none
    | _ => none
  | .lreturn => match S with
    | [.long v] => some (true, some (.long v))
    | _ => none
  | .areturn => match S with
    | [.ref v] => some (true, some (.ref v))
    | [.null] => some (true, some .null)
    | _ => none
  | .return_ => match S with
    | [] => some (true, none)
    | _ => none
  | _ => none
/-- a call: the method, its arguments (the receiver first), what stays on the stack -/
def pCl (q : pXI) (S : List Value) : Option (Bool × Nat × List Value × List Value) := match q.1 with
  | .invokevirtual _ => some (Nat.ble q.2.2.2.1 S.length && Nat.ble ((S.drop q.2.2.2.1).map fun v => v.category).sum 8, q.2.2.1, (S.take q.2.2.2.1).reverse, S.drop q.2.2.2.1)
  | .invokespecial _ => some (Nat.ble q.2.2.2.1 S.length && Nat.ble ((S.drop q.2.2.2.1).map fun v => v.category).sum 8, q.2.2.1, (S.take q.2.2.2.1).reverse, S.drop q.2.2.2.1)
  | .invokestatic _ => some (Nat.ble q.2.2.2.1 S.length && Nat.ble ((S.drop q.2.2.2.1).map fun v => v.category).sum 8, q.2.2.1, (S.take q.2.2.2.1).reverse, S.drop q.2.2.2.1)
  | _ => none
def pEnA : List Value → pLT
  | [] => []
  | .long x :: vs => some (.long x) :: none :: pEnA vs
  | .double x :: vs => some (.double x) :: none :: pEnA vs
  | v :: vs => some v :: pEnA vs
def pEn (k : Nat) (as : List Value) : pLT := pEnA as ++ List.replicate (pL k - (pEnA as).length) none
def pRun (X : pSX) : Nat → Nat → Nat → Nat → pLT → List Value → pWD → Option (Option Value × pWD)
  | 0, _, _, _, _, _, _ => none
  | n + 1, d, k, pc, L, S, w => match pCode k pc with
    | none => none
    | some q => match pStep X q pc L S w with
      | some (true, pc', L', S', w') => pRun X n d k pc' L' S' w'
      | some (false, _) => none
      | none => match pBr q pc S with
        | some (pc', S') => pRun X n d k pc' L S' w
        | none => match pRtn k q S with
          | some (true, r) => some (r, w)
          | some (false, _) => none
          | none => match pCl q S with
            | some (true, j, as, S') => match d with
              | 0 => none
              | d' + 1 => match pRun X n d' j 0 (pEn j as) [] w with
                | none => none
                | some (r, w') => pRun X n (d' + 1) k (pc + q.2.1) L (r.toList ++ S') w'
            | _ => none
def nC (w : pWD) : Nat := w.1.length
def nSz (c : pSC) : Nat := match c with
  | .inl ci => pN ci
  | .inr (_, n) => n
def nS (w : pWD) : Nat := (w.1.map nSz).sum
