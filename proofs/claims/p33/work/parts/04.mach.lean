/-! THE MACHINE OF THE TABLES: a pure step function over numbered cells; cell p has a kind and a length (the list), ints and references (two functions) -/
abbrev Hp : Type := List (Nat × Nat) × (Nat → Nat → Int32) × (Nat → Nat → Option Nat)
def upI (I : Nat → Nat → Int32) (p i : Nat) (v : Int32) : Nat → Nat → Int32 := fun q j => if q = p ∧ j = i then v else I q j
def upR (I : Nat → Nat → Option Nat) (p i : Nat) (v : Option Nat) : Nat → Nat → Option Nat := fun q j => if q = p ∧ j = i then v else I q j
def zrI (I : Nat → Nat → Int32) (p : Nat) : Nat → Nat → Int32 := fun q j => if q = p then 0 else I q j
def zrR (I : Nat → Nat → Option Nat) (p : Nat) : Nat → Nat → Option Nat := fun q j => if q = p then none else I q j
def fam (c t : Nat) : Bool := Nat.beq t c || (bif Nat.beq c 6 then (Nat.beq t 1 || Nat.beq t 2 || Nat.beq t 4 || Nat.beq t 5 || Nat.beq t 7 || Nat.beq t 9) else bif Nat.beq c 1 then Nat.beq t 2 else bif Nat.beq c 4 then Nat.beq t 9 else bif Nat.beq c 5 then Nat.beq t 7 else false)
def cb (o : ClassFile.Cond) (x y : Int32) : Bool := match o with
  | .eq => decide (x = y)
  | .ne => decide (x ≠ y)
  | .lt => decide (x < y)
  | .ge => decide (y ≤ x)
  | .gt => decide (y < x)
  | .le => decide (x ≤ y)
/-- the texts: bytes of each constant -/
def txt (i : Nat) : List Int32 := match i with
  | 0 => [100, 117, 101]
  | 1 => [102, 97, 100, 101]
  | 2 => [119, 97, 114, 109]
  | 3 => [99, 111, 111, 108]
  | 4 => []
  | 5 => [112, 107, 118, 97, 110, 101]
  | 6 => [60, 61, 62]
  | 7 => [119, 97, 114, 109, 32, 52, 32, 112, 60, 51, 59, 99, 111, 111, 108, 32, 51, 32, 97, 62, 54, 59, 100, 117, 101, 32]
  | 8 => [102, 97, 100, 101, 32, 51, 59, 119, 97, 114, 109, 32, 54, 32, 110, 61, 48, 38, 33, 40, 107, 61, 50, 41, 59, 99, 111, 111, 108, 32, 56, 32, 101, 62, 55, 59, 100, 117, 101, 32]
  | 9 => [119, 97, 114, 109, 32, 50, 32, 118, 62, 52, 124, 107, 61, 51, 59, 102, 97, 100, 101, 32, 48, 59, 100, 117, 101, 32]
  | 10 => [100, 117, 101, 32, 53, 59, 102, 97, 100, 101, 32, 57]
  | 11 => [100, 117, 101, 32, 53, 59, 102, 97, 100, 101, 32, 57]
  | 12 => [100, 117, 101, 32, 53, 59, 102, 97, 100, 101, 32, 57]
  | _ => []
def abv : List Int32 := [-1, 0, 0, 0, 1, 2, 3]
/-- no long just below place i -/
def drl (ls : List (Option Value)) (i : Nat) : List (Option Value) := match i with
  | 0 => ls
  | j + 1 => match ls[j]? with
    | some (some w) => bif Nat.beq w.category 2 then ls.set j none else ls
    | _ => ls
def sto1 (ls : List (Option Value)) (i : Nat) (v : Value) : List (Option Value) := (drl ls i).set i (some v)
def sto2 (ls : List (Option Value)) (i : Nat) (v : Value) : List (Option Value) := ((drl ls i).set i (some v)).set (i + 1) none
def swt (dflt lo hi : Int) (offs : Array Int) (pc : Nat) (x : Int) : Nat := if x < lo ∨ hi < x then ((pc : Int) + dflt).toNat else ((pc : Int) + (offs.toList[(x - lo).toNat]?).getD 0).toNat
def lkt (dflt : Int) (ps : Array (Int × Int)) (pc : Nat) (x : Int) : Nat := ((pc : Int) + Op.lookupswitch.offset ps.toList dflt x).toNat
def oob (i : Int32) (n : Nat) : Bool := decide (i < 0 ∨ n ≤ i.toNatClampNeg)
/-- a reference read from a cell -/
def xv (r : Option Nat) : Value := match r with
  | none => .null
  | some a => .ref a
abbrev St : Type := Nat × List (Option Value) × List Value × Hp
/-- what a copy of n from f at sp to g at dp gives -/
def cpI (I : Nat → Nat → Int32) (p q sp dp n : Nat) : Nat → Nat → Int32 := fun a j => if a = q ∧ dp ≤ j ∧ j < dp + n then I p (sp + (j - dp)) else I a j
def nfit (ty : FieldType) (x : Int32) : Bool := decide (narrow ty (.int x) = .int x) && fits ty (.int x)
def okc (t : Nat) (x : Int32) : Bool := bif Nat.beq t 20 then true else bif Nat.beq t 21 then nfit .byte x else nfit .byte x
def stp (X : Nat × (Nat → Int32)) (e : Ent) (ls : List (Option Value)) (st : List Value) (h : Hp) : Option St :=
  match e with
  | (ins, np, a, b, c, v) =>
  match ins with
  | .iconst _ => some (np, ls, .int v :: st, h)
  | .bipush _ => some (np, ls, .int v :: st, h)
  | .sipush _ => some (np, ls, .int v :: st, h)
  | .lconst _ => some (np, ls, .long v.toInt64 :: st, h)
  | .aconst_null => some (np, ls, .null :: st, h)
  | .ldc _ => bif Nat.beq a 1 then some (np, ls, .retAddr b :: st, h) else some (np, ls, .int v :: st, h)
  | .ldc_w _ => some (np, ls, .int v :: st, h)
  | .ldc2_w _ => some (np, ls, .long (bif Nat.beq c 1 then (-9223372036854775808) else bif Nat.beq c 2 then 123456789012345 else v.toInt64) :: st, h)
  | .iload _ => match ls[a]? with
    | some (some (.int x)) => some (np, ls, .int x :: st, h)
    | _ => none
  | .iload_n _ => match ls[a]? with
    | some (some (.int x)) => some (np, ls, .int x :: st, h)
    | _ => none
  | .lload _ => match ls[a]? with
    | some (some (.long x)) => some (np, ls, .long x :: st, h)
    | _ => none
  | .lload_n _ => match ls[a]? with
    | some (some (.long x)) => some (np, ls, .long x :: st, h)
    | _ => none
  | .aload _ => match ls[a]? with
    | some (some (.ref x)) => some (np, ls, .ref x :: st, h)
    | some (some (.retAddr x)) => some (np, ls, .retAddr x :: st, h)
    | some (some .null) => some (np, ls, .null :: st, h)
    | _ => none
  | .aload_n _ => match ls[a]? with
    | some (some (.ref x)) => some (np, ls, .ref x :: st, h)
    | some (some (.retAddr x)) => some (np, ls, .retAddr x :: st, h)
    | some (some .null) => some (np, ls, .null :: st, h)
    | _ => none
  | .istore _ => match st with
    | .int x :: r => some (np, sto1 ls a (.int x), r, h)
    | _ => none
  | .istore_n _ => match st with
    | .int x :: r => some (np, sto1 ls a (.int x), r, h)
    | _ => none
  | .lstore _ => match st with
    | .long x :: r => some (np, sto2 ls a (.long x), r, h)
    | _ => none
  | .lstore_n _ => match st with
    | .long x :: r => some (np, sto2 ls a (.long x), r, h)
    | _ => none
  | .astore _ => match st with
    | .ref x :: r => some (np, sto1 ls a (.ref x), r, h)
    | .null :: r => some (np, sto1 ls a .null, r, h)
    | .retAddr x :: r => some (np, sto1 ls a (.retAddr x), r, h)
    | _ => none
  | .astore_n _ => match st with
    | .ref x :: r => some (np, sto1 ls a (.ref x), r, h)
    | .null :: r => some (np, sto1 ls a .null, r, h)
    | .retAddr x :: r => some (np, sto1 ls a (.retAddr x), r, h)
    | _ => none
  | .iinc _ _ => match ls[a]? with
    | some (some (.int x)) => some (np, sto1 ls a (.int (x + v)), st, h)
    | _ => none
  | .iadd => match st with
    | .int y :: .int x :: r => some (np, ls, .int (x + y) :: r, h)
    | _ => none
  | .isub => match st with
    | .int y :: .int x :: r => some (np, ls, .int (x - y) :: r, h)
    | _ => none
  | .imul => match st with
    | .int y :: .int x :: r => some (np, ls, .int (x * y) :: r, h)
    | _ => none
  | .iand => match st with
    | .int y :: .int x :: r => some (np, ls, .int (x &&& y) :: r, h)
    | _ => none
  | .ior => match st with
    | .int y :: .int x :: r => some (np, ls, .int (x ||| y) :: r, h)
    | _ => none
  | .ixor => match st with
    | .int y :: .int x :: r => some (np, ls, .int (x ^^^ y) :: r, h)
    | _ => none
  | .ishl => match st with
    | .int y :: .int x :: r => some (np, ls, .int (x <<< (y &&& 31)) :: r, h)
    | _ => none
  | .ishr => match st with
    | .int y :: .int x :: r => some (np, ls, .int (x >>> (y &&& 31)) :: r, h)
    | _ => none
  | .iushr => match st with
    | .int y :: .int x :: r => some (np, ls, .int (x.toUInt32 >>> (y.toUInt32 &&& Int32.toUInt32 31)).toInt32 :: r, h)
    | _ => none
  | .idiv => match st with
    | .int y :: .int x :: r => bif decide (y = 0) then none else some (np, ls, .int (x / y) :: r, h)
    | _ => none
  | .irem => match st with
    | .int y :: .int x :: r => bif decide (y = 0) then none else some (np, ls, .int (x - x / y * y) :: r, h)
    | _ => none
  | .ineg => match st with
    | .int x :: r => some (np, ls, .int (-x) :: r, h)
    | _ => none
  | .ladd => match st with
    | .long y :: .long x :: r => some (np, ls, .long (x + y) :: r, h)
    | _ => none
  | .lmul => match st with
    | .long y :: .long x :: r => some (np, ls, .long (x * y) :: r, h)
    | _ => none
  | .ldiv => match st with
    | .long y :: .long x :: r => bif decide (y = 0) then none else some (np, ls, .long (x / y) :: r, h)
    | _ => none
  | .lrem => match st with
    | .long y :: .long x :: r => bif decide (y = 0) then none else some (np, ls, .long (x - x / y * y) :: r, h)
    | _ => none
  | .lneg => match st with
    | .long x :: r => some (np, ls, .long (-x) :: r, h)
    | _ => none
  | .lcmp => match st with
    | .long y :: .long x :: r => some (np, ls, .int (lg_cmp x y) :: r, h)
    | _ => none
  | .i2l => match st with
    | .int x :: r => some (np, ls, .long x.toInt64 :: r, h)
    | _ => none
  | .i2b => match st with
    | .int x :: r => some (np, ls, .int x.toInt8.toInt32 :: r, h)
    | _ => none
  | .i2c => match st with
    | .int x :: r => some (np, ls, .int (x.toUInt32 % 65536).toInt32 :: r, h)
    | _ => none
  | .dup => match st with
    | .int x :: r => some (np, ls, .int x :: .int x :: r, h)
    | .ref x :: r => some (np, ls, .ref x :: .ref x :: r, h)
    | _ => none
  | .dup2 => match st with
    | .int x :: .ref y :: r => some (np, ls, .int x :: .ref y :: .int x :: .ref y :: r, h)
    | _ => none
  | .pop => match st with
    | .int _ :: r => some (np, ls, r, h)
    | _ => none
  | .goto _ => some (a, ls, st, h)
  | .ifCond o _ => match st with
    | .int x :: r => some (bif cb o x 0 then a else np, ls, r, h)
    | _ => none
  | .if_icmp o _ => match st with
    | .int y :: .int x :: r => some (bif cb o x y then a else np, ls, r, h)
    | _ => none
  | .ifnonnull _ => match st with
    | .ref _ :: r => some (a, ls, r, h)
    | .null :: r => some (np, ls, r, h)
    | _ => none
  | .ifnull _ => match st with
    | .ref _ :: r => some (np, ls, r, h)
    | .null :: r => some (a, ls, r, h)
    | _ => none
  | .tableswitch d lo hi offs => match st with
    | .int x :: r => some (swt d lo hi offs c x.toInt, ls, r, h)
    | _ => none
  | .lookupswitch d ps => match st with
    | .int x :: r => some (lkt d ps c x.toInt, ls, r, h)
    | _ => none
  | .getfield _ => match st with
    | .ref p :: r => match h.1[p]? with
      | some (t, _) => bif Nat.blt t 13 && fam c t then (bif Nat.beq b 1 then some (np, ls, xv (h.2.2 p a) :: r, h) else some (np, ls, .int (h.2.1 p a) :: r, h)) else none
      | _ => none
    | .retAddr i :: r => bif Nat.beq c 100 && Nat.blt i 13 then (bif Nat.beq a 0 then some (np, ls, .retAddr (13 + i) :: r, h) else some (np, ls, .int 0 :: r, h)) else none
    | _ => none
  | .putfield _ => match st with
    | .int x :: .ref p :: r => match h.1[p]? with
      | some (t, _) => bif Nat.blt t 13 && fam c t then (bif Nat.beq b 0 then some (np, ls, r, (h.1, upI h.2.1 p a x, h.2.2)) else bif Nat.beq b 2 && nfit .boolean x then some (np, ls, r, (h.1, upI h.2.1 p a x, h.2.2)) else none) else none
      | _ => none
    | .ref q :: .ref p :: r => match h.1[p]? with
      | some (t, _) => bif Nat.blt t 13 && fam c t && Nat.beq b 1 then some (np, ls, r, (h.1, h.2.1, upR h.2.2 p a (some q))) else none
      | _ => none
    | .null :: .ref p :: r => match h.1[p]? with
      | some (t, _) => bif Nat.blt t 13 && fam c t && Nat.beq b 1 then some (np, ls, r, (h.1, h.2.1, upR h.2.2 p a none)) else none
      | _ => none
    | _ => none
  | .getstatic _ => bif Nat.beq b 0 then some (np, ls, .int 1 :: st, h) else bif Nat.beq b 1 then some (np, ls, .retAddr 26 :: st, h) else bif Nat.beq b 2 then some (np, ls, .retAddr 27 :: st, h) else none
  | .new _ => some (np, ls, .ref h.1.length :: st, (h.1 ++ [(c, a)], zrI h.2.1 h.1.length, zrR h.2.2 h.1.length))
  | .newarray _ => match st with
    | .int n :: r => bif oob n 1000 then none else some (np, ls, .ref h.1.length :: r, (h.1 ++ [(c, n.toNatClampNeg)], zrI h.2.1 h.1.length, zrR h.2.2 h.1.length))
    | _ => none
  | .anewarray _ => match st with
    | .int n :: r => bif oob n 1000 then none else some (np, ls, .ref h.1.length :: r, (h.1 ++ [(c, n.toNatClampNeg)], zrI h.2.1 h.1.length, zrR h.2.2 h.1.length))
    | _ => none
  | .arraylength => match st with
    | .ref p :: r => match h.1[p]? with
      | some (t, n) => bif Nat.blt t 20 || Nat.blt 24 t then none else some (np, ls, .int (Int32.ofNat n) :: r, h)
      | _ => none
    | .retAddr i :: r => bif Nat.blt i 13 then none else bif Nat.blt i 26 then some (np, ls, .int (Int32.ofNat (txt (i - 13)).length) :: r, h) else bif Nat.beq i 26 then some (np, ls, .int 7 :: r, h) else bif Nat.beq i 28 then some (np, ls, .int (Int32.ofNat X.1) :: r, h) else none
    | _ => none
  | .iaload => match st with
    | .int i :: .ref p :: r => match h.1[p]? with
      | some (t, n) => bif Nat.beq t 20 then (bif oob i n then none else some (np, ls, .int (h.2.1 p i.toNatClampNeg) :: r, h)) else none
      | _ => none
    | .int i :: .retAddr q :: r => bif Nat.beq q 28 then (bif oob i X.1 then none else some (np, ls, .int (X.2 i.toNatClampNeg) :: r, h)) else bif Nat.beq q 26 then (bif oob i 7 then none else some (np, ls, .int (abv.getD i.toNatClampNeg 0) :: r, h)) else none
    | _ => none
  | .baload => match st with
    | .int i :: .ref p :: r => match h.1[p]? with
      | some (t, n) => bif Nat.beq t 21 || Nat.beq t 22 then (bif oob i n then none else some (np, ls, .int (h.2.1 p i.toNatClampNeg) :: r, h)) else none
      | _ => none
    | .int i :: .retAddr q :: r => bif Nat.blt q 13 then none else bif Nat.blt q 26 then (bif oob i (txt (q - 13)).length then none else some (np, ls, .int ((txt (q - 13)).getD i.toNatClampNeg 0) :: r, h)) else none
    | _ => none
  | .aaload => match st with
    | .int i :: .ref p :: r => match h.1[p]? with
      | some (t, n) => bif Nat.beq t 23 || Nat.beq t 24 then (bif oob i n then none else some (np, ls, xv (h.2.2 p i.toNatClampNeg) :: r, h)) else none
      | _ => none
    | _ => none
  | .iastore => match st with
    | .int x :: .int i :: .ref p :: r => match h.1[p]? with
      | some (t, n) => bif Nat.beq t 20 then (bif oob i n then none else some (np, ls, r, (h.1, upI h.2.1 p i.toNatClampNeg x, h.2.2))) else none
      | _ => none
    | _ => none
  | .bastore => match st with
    | .int x :: .int i :: .ref p :: r => match h.1[p]? with
      | some (t, n) => bif (Nat.beq t 21 || Nat.beq t 22) && okc t x then (bif oob i n then none else some (np, ls, r, (h.1, upI h.2.1 p i.toNatClampNeg x, h.2.2))) else none
      | _ => none
    | _ => none
  | .aastore => match st with
    | .null :: .int i :: .ref p :: r => match h.1[p]? with
      | some (t, n) => bif Nat.beq t 23 || Nat.beq t 24 then (bif oob i n then none else some (np, ls, r, (h.1, h.2.1, upR h.2.2 p i.toNatClampNeg none))) else none
      | _ => none
    | .ref q :: .int i :: .ref p :: r => match h.1[p]?, h.1[q]? with
      | some (t, n), some (t', _) => bif (Nat.beq t 23 && fam 6 t') || (Nat.beq t 24 && Nat.beq t' 10) then (bif oob i n then none else some (np, ls, r, (h.1, h.2.1, upR h.2.2 p i.toNatClampNeg (some q)))) else none
      | _, _ => none
    | _ => none
  | .invokespecial _ => match st with
    | .ref _ :: r => bif Nat.beq b 998 && decide ((r.map Value.category).sum ≤ 8) then some (np, ls, r, h) else none
    | _ => none
  | .invokestatic _ => match st with
    | .int n :: .int dp :: .ref q :: .int sp :: .ref p :: r => bif Nat.beq b 997 then (match h.1[p]?, h.1[q]? with
      | some (t, m1), some (t', m2) => bif (Nat.beq t t' && Nat.ble 20 t && Nat.ble t 22) && decide ((r.map Value.category).sum ≤ 8) && decide (¬ sp < 0 ∧ ¬ dp < 0 ∧ ¬ n < 0 ∧ sp.toNatClampNeg + n.toNatClampNeg ≤ m1 ∧ dp.toNatClampNeg + n.toNatClampNeg ≤ m2) && (List.range n.toNatClampNeg).all (fun j => okc t (h.2.1 p (sp.toNatClampNeg + j))) then some (np, ls, r, (h.1, cpI h.2.1 p q sp.toNatClampNeg dp.toNatClampNeg n.toNatClampNeg, h.2.2)) else none
      | _, _ => none) else none
    | _ => none
  | _ => none
/-- 0 a step, 1 a call, 2 a return -/
def kd (e : Ent) : Nat := match e with
  | (ins, _, _, b, _, _) => match ins with
    | .invokevirtual _ => 1
    | .invokespecial _ => bif Nat.beq b 998 then 0 else 1
    | .invokestatic _ => bif Nat.beq b 997 then 0 else 1
    | .ireturn => 2
    | .areturn => 2
    | .lreturn => 2
    | .return_ => 2
    | _ => 0
/-- what a return gives back -/
def rtv (k : Nat) (e : Ent) (st : List Value) : Option (Option Value) := match e with
  | (ins, _, _, _, _, _) => match ins with
    | .ireturn => match st with
      | [.int x] => match mR k with
        | some .int => some (some (.int x))
        | some .boolean => bif nfit .boolean x then some (some (.int x)) else none
        | some .char => bif nfit .char x then some (some (.int x)) else none
        | some .byte => bif nfit .byte x then some (some (.int x)) else none
        | _ => none
      | _ => none
    | .lreturn => match st with
      | [.long x] => match mR k with
        | some .long => some (some (.long x))
        | _ => none
      | _ => none
    | .areturn => match st with
      | [.ref x] => match mR k with
        | some (.object _) => some (some (.ref x))
        | _ => none
      | [.retAddr x] => match mR k with
        | some (.object _) => some (some (.retAddr x))
        | _ => none
      | _ => none
    | .return_ => match st with
      | [] => match mR k with
        | none => some none
        | _ => none
      | _ => none
    | _ => none
def lay : List Value → List (Option Value)
  | [] => []
  | v :: r => bif Nat.beq v.category 2 then some v :: none :: lay r else some v :: lay r
def ent (k : Nat) (As : List Value) : List (Option Value) := lay As ++ List.replicate (mL k - (lay As).length) none
/-- the methods that a kind's objects answer with: 500 stir, 501 waits, 502 nods, 503 turns -/
def vg (b t : Nat) : Nat := bif Nat.blt b 500 then b else
  bif Nat.beq b 500 then (bif Nat.beq t 1 then kX1_stir else bif Nat.beq t 2 then kX2_stir else bif Nat.beq t 4 then kX4_stir else bif Nat.beq t 5 then kX5_stir else bif Nat.beq t 7 then kX7_stir else bif Nat.beq t 9 then kX9_stir else kX6_stir)
  else bif Nat.beq b 501 then (bif Nat.beq t 2 then kX2_waits else bif Nat.beq t 5 || Nat.beq t 7 then kX5_waits else kX6_waits)
  else bif Nat.beq b 502 then (bif Nat.beq t 1 || Nat.beq t 2 then kX1_nods else bif Nat.beq t 9 then kX9_nods else kX6_nods)
  else bif Nat.beq b 503 then (bif Nat.beq t 4 || Nat.beq t 9 then kX4_turns else bif Nat.beq t 7 then kX7_turns else kX6_turns) else 999
/-- which method is called, with what, and what is left on the stack -/
def cle (e : Ent) (st : List Value) (h : Hp) : Option (Nat × List Value × List Value × Nat) := match e with
  | (ins, np, a, b, c, _) => match ins with
    | .invokestatic _ => bif Nat.ble a st.length && decide (((st.drop a).map Value.category).sum ≤ 8) && Nat.ble (lay (st.take a).reverse).length (mL b) then some (b, (st.take a).reverse, st.drop a, np) else none
    | .invokevirtual _ => match st.drop a with
      | .ref p :: r => match h.1[p]? with
        | some (t, _) => bif Nat.blt t 13 && fam c t && decide ((r.map Value.category).sum ≤ 8) && Nat.ble (lay (.ref p :: (st.take a).reverse)).length (mL (vg b t)) then some (vg b t, .ref p :: (st.take a).reverse, r, np) else none
        | _ => none
      | .retAddr i :: r => bif Nat.beq c 100 && Nat.blt i 13 && decide ((r.map Value.category).sum ≤ 8) && Nat.ble (lay (.retAddr i :: (st.take a).reverse)).length (mL b) then some (b, .retAddr i :: (st.take a).reverse, r, np) else none
      | _ => none
    | .invokespecial _ => match st.drop a with
      | .ref p :: r => match h.1[p]? with
        | some (t, _) => bif Nat.blt t 13 && fam c t && decide ((r.map Value.category).sum ≤ 8) && Nat.ble (lay (.ref p :: (st.take a).reverse)).length (mL b) then some (b, .ref p :: (st.take a).reverse, r, np) else none
        | _ => none
      | _ => none
    | _ => none
def exec (X : Nat × (Nat → Int32)) : Nat → Nat → Nat → Nat → List (Option Value) → List Value → Hp → Option (Option Value × Hp)
  | 0, _, _, _, _, _, _ => none
  | f + 1, d, k, pc, ls, st, h => match look k pc with
    | none => none
    | some e => match kd e with
      | 0 => match stp X e ls st h with
        | none => none
        | some (pc', ls', st', h') => exec X f d k pc' ls' st' h'
      | 1 => match d with
        | 0 => none
        | d' + 1 => match cle e st h with
          | none => none
          | some (k', As, rest, np) => match exec X f d' k' 0 (ent k' As) [] h with
            | none => none
            | some (r, h') => exec X f (d' + 1) k np ls (r.toList ++ rest) h'
      | _ => match rtv k e st with
        | some r => some (r, h)
        | none => none
theorem exec_succ (X : Nat × (Nat → Int32)) (f d k pc : Nat) (ls : List (Option Value)) (st : List Value) (h : Hp) : exec X (f + 1) d k pc ls st h = (match look k pc with
    | none => none
    | some e => match kd e with
      | 0 => match stp X e ls st h with
        | none => none
        | some (pc', ls', st', h') => exec X f d k pc' ls' st' h'
      | 1 => match d with
        | 0 => none
        | d' + 1 => match cle e st h with
          | none => none
          | some (k', As, rest, np) => match exec X f d' k' 0 (ent k' As) [] h with
            | none => none
            | some (r, h') => exec X f (d' + 1) k np ls (r.toList ++ rest) h'
      | _ => match rtv k e st with
        | some r => some (r, h)
        | none => none) := rfl
theorem exec_mono (X : Nat × (Nat → Int32)) : ∀ (f d k pc : Nat) (ls : List (Option Value)) (st : List Value) (h : Hp) (R : Option Value × Hp), exec X f d k pc ls st h = some R → exec X (f + 1) d k pc ls st h = some R := by
  intro f
  induction f with
  | zero => intro d k pc ls st h R hR; simp [exec] at hR
  | succ f ih =>
    intro d k pc ls st h R hR
    rw [exec_succ] at hR ⊢
    cases hl : look k pc with
    | none => rw [hl] at hR; simp at hR
    | some e =>
      rw [hl] at hR
      simp only at hR ⊢
      split at hR
      · cases hs : stp X e ls st h with
        | none => rw [hs] at hR; simp at hR
        | some q =>
          obtain ⟨pc', ls', st', h'⟩ := q
          rw [hs] at hR
          simp only at hR ⊢
          exact ih _ _ _ _ _ _ _ hR
      · cases d with
        | zero => simp at hR
        | succ d' =>
          simp only at hR ⊢
          cases hc : cle e st h with
          | none => rw [hc] at hR; simp at hR
          | some q =>
            obtain ⟨k', As, rest, np⟩ := q
            rw [hc] at hR
            simp only at hR ⊢
            cases he : exec X f d' k' 0 (ent k' As) [] h with
            | none => rw [he] at hR; simp at hR
            | some q =>
              obtain ⟨r, h'⟩ := q
              rw [he] at hR
              rw [ih _ _ _ _ _ _ _ he]
              simp only at hR ⊢
              exact ih _ _ _ _ _ _ _ hR
      · exact hR
theorem exec_le (X : Nat × (Nat → Int32)) {f g d k pc : Nat} {ls : List (Option Value)} {st : List Value} {h : Hp} {R : Option Value × Hp} (hR : exec X f d k pc ls st h = some R) (hg : f ≤ g) : exec X g d k pc ls st h = some R := by
  obtain ⟨n, rfl⟩ := Nat.exists_eq_add_of_le hg
  induction n with
  | zero => exact hR
  | succ n ih => exact exec_mono X _ _ _ _ _ _ _ _ (ih (Nat.le_add_right _ _))
/-- from here the method comes back with R -/
def Ev (X : Nat × (Nat → Int32)) (d k pc : Nat) (ls : List (Option Value)) (st : List Value) (h : Hp) (R : Option Value × Hp) : Prop := ∃ f, exec X f d k pc ls st h = some R
def stq (X : Nat × (Nat → Int32)) (k pc : Nat) (ls : List (Option Value)) (st : List Value) (h : Hp) : Option St := match look k pc with
  | none => none
  | some e => match kd e with
    | 0 => stp X e ls st h
    | _ => none
def clq (k pc : Nat) (st : List Value) (h : Hp) : Option (Nat × List Value × List Value × Nat) := match look k pc with
  | none => none
  | some e => match kd e with
    | 1 => cle e st h
    | _ => none
def rtq (k pc : Nat) (st : List Value) : Option (Option Value) := match look k pc with
  | none => none
  | some e => match kd e with
    | 0 => none
    | 1 => none
    | _ => rtv k e st
theorem Ev.s {X : Nat × (Nat → Int32)} {d k pc pc' : Nat} {ls ls' : List (Option Value)} {st st' : List Value} {h h' : Hp} {R : Option Value × Hp} (hs : stq X k pc ls st h = some (pc', ls', st', h')) (t : Ev X d k pc' ls' st' h' R) : Ev X d k pc ls st h R := by
  obtain ⟨f, hf⟩ := t
  refine ⟨f + 1, ?_⟩
  rw [exec_succ]
  unfold stq at hs
  split at hs
  · cases hs
  · rename_i e hl
    try simp only [hl]
    split at hs
    · rename_i h0
      simp only [h0, hs]
      exact hf
    · cases hs
theorem Ev.c {X : Nat × (Nat → Int32)} {d k pc k' np : Nat} {ls : List (Option Value)} {st As rest : List Value} {h h' : Hp} {r : Option Value} {R : Option Value × Hp} (hc : clq k pc st h = some (k', As, rest, np)) (t1 : Ev X d k' 0 (ent k' As) [] h (r, h')) (t2 : Ev X (d + 1) k np ls (r.toList ++ rest) h' R) : Ev X (d + 1) k pc ls st h R := by
  obtain ⟨f1, h1⟩ := t1
  obtain ⟨f2, h2⟩ := t2
  refine ⟨max f1 f2 + 1, ?_⟩
  rw [exec_succ]
  unfold clq at hc
  split at hc
  · cases hc
  · rename_i e hl
    simp only [hl]
    split at hc
    · rename_i h0
      simp only [h0, hc, exec_le X h1 (Nat.le_max_left f1 f2)]
      exact exec_le X h2 (Nat.le_max_right f1 f2)
    · cases hc
theorem Ev.r {X : Nat × (Nat → Int32)} {d k pc : Nat} {ls : List (Option Value)} {st : List Value} {r : Option Value} {h : Hp} (hc : rtq k pc st = some r) : Ev X d k pc ls st h (r, h) := by
  refine ⟨1, ?_⟩
  rw [exec_succ]
  unfold rtq at hc
  split at hc
  · cases hc
  · rename_i e hl
    split at hc
    · cases hc
    · cases hc
    · rename_i h0 h1
      simp only [hc]
