/-! WHAT THE TABLES SAY OF EACH INSTRUCTION: decided once, for all methods -/
def tyT (t : Nat) : Nat → FieldType := match t with
  | 0 => tyX0
  | 1 => tyX1
  | 2 => tyX2
  | 3 => tyX3
  | 4 => tyX4
  | 5 => tyX5
  | 6 => tyX6
  | 7 => tyX7
  | 8 => tyX8
  | 9 => tyX9
  | 10 => tyX10
  | 11 => tyX11
  | _ => tyX11
def isRty (ty : FieldType) : Bool := match ty with
  | .object _ => true
  | .array _ => true
  | _ => false
def isR (t a : Nat) : Bool := isRty (tyT t a)
def strO (i : Nat) : String := bif Nat.blt i 7 then "VerandaTalk$Station" else "VerandaTalkLaw"
def strI (i : Nat) : Nat := [77, 78, 79, 81, 83, 95, 101, 23, 25, 27, 198, 198, 198].getD i 0
def strT (i : Nat) : String := ["due", "fade", "warm", "cool", "", "pkvane", "<=>", "warm 4 p<3;cool 3 a>6;due ", "fade 3;warm 6 n=0&!(k=2);cool 8 e>7;due ", "warm 2 v>4|k=3;fade 0;due ", "due 5;fade 9", "due 5;fade 9", "due 5;fade 9"].getD i ""
def clf (o i : Nat) : List (Nat × Nat × Nat × Nat) := match CLL.find? (fun e => Nat.beq e.1.1 o && Nat.beq e.1.2 i) with
  | some e => e.2
  | none => []
def flf (o i : Nat) : List (Nat × Nat × Nat) := match FLL.find? (fun e => Nat.beq e.1.1 o && Nat.beq e.1.2 i) with
  | some e => e.2
  | none => []
theorem clf_ok {o i : Nat} {x : Nat × Nat × Nat × Nat} (h : (clf o i).elem x = true) : COK o i x := by
  have hx : x ∈ clf o i := by simpa using h
  unfold clf at hx
  split at hx
  · rename_i e he
    have h1 := List.find?_some he
    simp only [Bool.and_eq_true] at h1
    have h2 : e.1.1 = o := Nat.eq_of_beq_eq_true h1.1
    have h3 : e.1.2 = i := Nat.eq_of_beq_eq_true h1.2
    rw [← h2, ← h3]
    exact cl_all e (List.mem_of_find?_eq_some he) x hx
  · cases hx
theorem flf_ok {o i : Nat} {x : Nat × Nat × Nat} (h : (flf o i).elem x = true) : FOK o i x := by
  have hx : x ∈ flf o i := by simpa using h
  unfold flf at hx
  split at hx
  · rename_i e he
    have h1 := List.find?_some he
    simp only [Bool.and_eq_true] at h1
    have h2 : e.1.1 = o := Nat.eq_of_beq_eq_true h1.1
    have h3 : e.1.2 = i := Nat.eq_of_beq_eq_true h1.2
    rw [← h2, ← h3]
    exact fl_all e (List.mem_of_find?_eq_some he) x hx
  · cases hx
def nF (t : Nat) : Nat := bif Nat.beq t 0 then 9 else bif Nat.beq t 3 then 12 else bif Nat.beq t 8 then 10 else bif Nat.beq t 10 then 16 else bif Nat.beq t 11 then 8 else bif Nat.beq t 12 then 8 else bif Nat.blt t 10 then 4 else 0
def isFin (t a : Nat) : Bool := ((vwAt t).2.1 a).2.2.2
def okf (k i a b c t : Nat) (put : Bool) : Bool := Nat.blt t 13 && Nat.blt a (nF t) && (flf (mO k) i).elem (c, a, t) && (bif put then
      ((bif Nat.beq b 0 then decide (tyT t a = .int) else bif Nat.beq b 2 then decide (tyT t a = .boolean) else bif Nat.beq b 1 then isR t a else false) && (bif isFin t a then decide ((mY k).name = "<init>") && decide (((vwAt t).2.1 a).1 = cn (mO k)) else true))
      else (bif Nat.beq b 1 then isR t a else !isR t a))
def okm (k' n : Nat) : Bool := Nat.blt 0 k' && Nat.blt k' mN && Nat.beq (mA k') n
def lnI (ins : Instr) : Nat := match ins with
  | .bipush _ => 2
  | .sipush _ => 3
  | .ldc _ => 2
  | .ldc_w _ => 3
  | .ldc2_w _ => 3
  | .iload _ => 2
  | .lload _ => 2
  | .aload _ => 2
  | .istore _ => 2
  | .lstore _ => 2
  | .astore _ => 2
  | .iinc _ _ => 3
  | .goto _ => 3
  | .ifCond _ _ => 3
  | .if_icmp _ _ => 3
  | .ifnonnull _ => 3
  | .ifnull _ => 3
  | .getfield _ => 3
  | .putfield _ => 3
  | .getstatic _ => 3
  | .new _ => 3
  | .newarray _ => 2
  | .anewarray _ => 3
  | .invokestatic _ => 3
  | .invokespecial _ => 3
  | .invokevirtual _ => 3
  | .tableswitch _ _ _ _ => 0
  | .lookupswitch _ _ => 0
  | _ => 1
def strC : Nat := 17
def okX (k pc : Nat) (e : Ent) : Bool := match e with
  | (ins, _, a, b, c, v) => match ins with
    | .iconst n => decide (Int32.ofInt n = v)
    | .bipush n => decide ((Int8.ofInt n).toInt32 = v)
    | .sipush n => decide ((Int16.ofInt n).toInt32 = v)
    | .lconst n => decide (Int64.ofNat n.val = v.toInt64)
    | .ldc i => bif Nat.beq a 1 then Nat.blt b 13 && decide (cn (mO k) = strO b) && Nat.beq i (strI b) else decide (Cond.constant (cn (mO k)) i v ∈ lw_tbl)
    | .ldc_w i => decide (Cond.constant (cn (mO k)) i v ∈ lw_tbl)
    | .ldc2_w i => decide (Cond.constantLong (cn (mO k)) i (bif Nat.beq c 1 then (-9223372036854775808) else bif Nat.beq c 2 then 123456789012345 else v.toInt64) ∈ lw_tbl)
    | .iload i => Nat.beq i a
    | .lload i => Nat.beq i a
    | .aload i => Nat.beq i a
    | .iload_n i => Nat.beq i.val a
    | .lload_n i => Nat.beq i.val a
    | .aload_n i => Nat.beq i.val a
    | .istore i => Nat.beq i a && Nat.blt a (mL k)
    | .lstore i => Nat.beq i a && Nat.blt (a + 1) (mL k)
    | .astore i => Nat.beq i a && Nat.blt a (mL k)
    | .istore_n i => Nat.beq i.val a && Nat.blt a (mL k)
    | .lstore_n i => Nat.beq i.val a && Nat.blt (a + 1) (mL k)
    | .astore_n i => Nat.beq i.val a && Nat.blt a (mL k)
    | .iinc i n => Nat.beq i a && Nat.blt a (mL k) && decide (Int32.ofInt n = v)
    | .goto off => decide ((pc : Int) + off = (a : Int))
    | .ifCond _ off => decide ((pc : Int) + off = (a : Int))
    | .if_icmp _ off => decide ((pc : Int) + off = (a : Int))
    | .ifnonnull off => decide ((pc : Int) + off = (a : Int))
    | .ifnull off => decide ((pc : Int) + off = (a : Int))
    | .tableswitch d lo hi offs => Nat.beq c pc && decide (0 ≤ (pc : Int) + d) && offs.toList.all (fun o => decide (0 ≤ (pc : Int) + o)) && decide (hi < lo + offs.toList.length)
    | .lookupswitch d ps => Nat.beq c pc && decide (0 ≤ (pc : Int) + d) && ps.toList.all (fun o => decide (0 ≤ (pc : Int) + o.2)) && (ps.toList.zip (ps.toList.drop 1)).all (fun (a, next) => a.1 < next.1)
    | .getfield i => bif Nat.beq c 100 then (bif Nat.beq a 0 then decide (Cond.fieldLink (cn (mO k)) i "java/lang/String" "value" "[B" ∈ lw_tbl) else decide (Cond.fieldLink (cn (mO k)) i "java/lang/String" "coder" "B" ∈ lw_tbl)) else (List.range 13).all (fun t => !fam c t || okf k i a b c t false)
    | .putfield i => (List.range 13).all (fun t => !fam c t || okf k i a b c t true)
    | .getstatic i => bif Nat.beq b 0 then decide (Cond.fieldLink (cn (mO k)) i "java/lang/String" "COMPACT_STRINGS" "Z" ∈ lw_tbl) else bif Nat.beq b 1 then decide (Cond.fieldLink (cn (mO k)) i "VerandaTalk" "ABOVE" "[I" ∈ lw_tbl) else bif Nat.beq b 2 then decide (Cond.fieldLink (cn (mO k)) i "jdk/internal/util/Preconditions" "SIOOBE_FORMATTER" "Ljava/util/function/BiFunction;" ∈ lw_tbl) else false
    | .new i => Nat.blt c 13 && Nat.beq (nF c) a && decide (Cond.classLink (cn (mO k)) i (cn c) ∈ lw_tbl)
    | .newarray ty => (decide (ty = .int) && Nat.beq c 20) || (decide (ty = .byte) && Nat.beq c 21) || (decide (ty = .byte) && Nat.beq c 22)
    | .anewarray i => (Nat.beq c 23 && decide (Cond.classLink (cn (mO k)) i "VerandaTalk$Matter" ∈ lw_tbl)) || (Nat.beq c 24 && decide (Cond.classLink (cn (mO k)) i "VerandaTalk$Veranda" ∈ lw_tbl))
    | .invokestatic i => bif Nat.beq b 997 then decide (Cond.methodLink (cn (mO k)) i arraycopyName ∈ lw_tbl) else bif Nat.beq b 999 then true else okm b a && (clf (mO k) i).elem (2, 0, b, 0)
    | .invokespecial i => bif Nat.beq b 998 then decide (Cond.methodLink (cn (mO k)) i Lib.objectInit ∈ lw_tbl) else okm b a && ((clf (mO k) i).elem (3, 0, b, 0) || (clf (mO k) i).elem (4, 0, b, 0) || (List.range 13).any (fun x => (clf (mO k) i).elem (5, 0, b, x)))
    | .invokevirtual i => bif Nat.beq c 100 then okm b a && (clf (mO k) i).elem (0, strC, b, 0) else
        (List.range 13).all (fun t => !fam c t || (okm (vg b t) a && ((clf (mO k) i).elem (0, t, vg b t, 0) || (List.range 13).any (fun x => (clf (mO k) i).elem (1, t, vg b t, x)))))
    | _ => true
def isSw (ins : Instr) : Bool := match ins with
  | .tableswitch _ _ _ _ => true
  | .lookupswitch _ _ => true
  | _ => false
def okE (k pc : Nat) (e : Ent) : Bool := decide (decode (mB k) pc = .ok (e.1, e.2.1 - pc)) && (isSw e.1 || Nat.beq e.2.1 (pc + lnI e.1)) && okX k pc e
def okMr (k lo n : Nat) : Bool := (List.range n).all (fun i => match look k (lo + i) with
  | none => true
  | some e => okE k (lo + i) e)
theorem okMr_at {k lo n pc : Nat} {e : Ent} (h : okMr k lo n = true) (h1 : lo ≤ pc) (h2 : pc < lo + n) (hl : look k pc = some e) : okE k pc e = true := by
  have h3 := List.all_eq_true.mp h (pc - lo) (List.mem_range.mpr (by omega))
  rw [show lo + (pc - lo) = pc by omega, hl] at h3
  exact h3
