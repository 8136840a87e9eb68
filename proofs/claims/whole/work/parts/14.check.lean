/-! WHAT IS CHECKED OF EACH ENTRY OF THE PROGRAM'S TABLE -/
def hasL (l : List (Nat × Nat × Nat)) (i j : Nat) : Bool := match l with
  | [] => false
  | q :: r => bif Nat.beq q.1 i && Nat.beq q.2.1 j then true else hasL r i j
def hasF (l : List (Nat × Nat × Nat × Nat)) (i j k : Nat) : Bool := match l with
  | [] => false
  | q :: r => bif Nat.beq q.1 i && (Nat.beq q.2.1 j && Nat.beq q.2.2.1 k) then true else hasF r i j k
def hasC (l : List (Nat × Int × Nat)) (i : Nat) (v : Int) : Bool := match l with
  | [] => false
  | q :: r => bif Nat.beq q.1 i && decide (q.2.1 = v) then true else hasC r i v
def tgt (pc : Nat) (off : Int) (ax : List Nat) : Bool := match ax with
  | [t] => decide ((pc : Int) + off = (t : Int))
  | _ => true
def tgts (pc : Nat) : List Int → List Nat → Bool
  | [], [] => true
  | o :: os, t :: ts => decide ((pc : Int) + o = (t : Int)) && tgts pc os ts
  | _, _ => false
def rtOf (r : Option FieldType) : Nat := match r with
  | none => 0
  | some .int => 1
  | some .boolean => 1
  | some .long => 2
  | some (.object _) => 3
  | some (.array _) => 3
  | _ => 9
def nPar (d : String) : Nat := match parseMethodDescriptor d with
  | some s => s.parameters.length
  | none => 99
/-- a call of a method of mine: y, how many values, its locals, its class, its answer; kind 0 static, 1 virtual, 2 special -/
def chkC (m kind idx : Nat) (ax : List Nat) : Bool := match ax with
  | [y, n, mx, ci, rt] => Nat.beq mx (mX y) && Nat.beq rt (rtOf (mR y)) && Nat.beq n (nPar (mt y).2.2.1 + (bif Nat.beq kind 0 then 0 else 1)) && (decide (parseMethodDescriptor (mt y).2.2.1 ≠ none)) &&
      (bif Nat.beq kind 0 then (mt y).2.2.2.2.2 && Nat.beq ci 0 && hasL (nth mlT (mt m).1 []) idx y
       else !(mt y).2.2.2.2.2 && Nat.beq ci ((mt y).1 + 1) && Nat.blt (mt y).1 13 && (bif Nat.beq kind 1 then decide ((mt y).2.1 ≠ "<init>") && hasL (nth mlT (mt m).1 []) idx y
         else decide ((mt y).2.1 = "<init>") && Nat.beq rt 0 && (hasL (nth mlT (mt m).1 []) idx y || hasL (nth nlT (mt m).1 []) idx y)))
  | [k] => hasL (nth vlT (mt m).1 []) idx k && (match k with
      | 1000 => Nat.beq kind 2
      | 1001 => Nat.beq kind 0
      | 1002 => Nat.beq kind 1
      | 1003 => Nat.beq kind 1
      | 1004 => Nat.beq kind 1
      | 1005 => Nat.beq kind 0
      | 1006 => Nat.beq kind 0
      | 1007 => Nat.beq kind 0
      | _ => false)
  | _ => true
def chkI (m pc : Nat) (e : AE) : Bool := match e with
  | (i, nx, ax, cn) => match i with
    | .iconst n => decide (-2147483648 ≤ n ∧ n < 2147483648)
    | .bipush n => decide (-128 ≤ n ∧ n < 128)
    | .sipush n => decide (-32768 ≤ n ∧ n < 32768)
    | .ldc idx => (match ax with
        | [] => hasC (nth clT (mt m).1 []) idx cn
        | _ => Nat.beq (mt m).1 11 && Nat.beq idx 91)
    | .ldc_w idx => hasC (nth clT (mt m).1 []) idx cn
    | .ldc2_w idx => hasC (nth dlT (mt m).1 []) idx cn
    | .istore_n k => Nat.blt k.1 (mX m)
    | .istore k => Nat.blt k (mX m)
    | .astore_n k => Nat.blt k.1 (mX m)
    | .astore k => Nat.blt k (mX m)
    | .lstore_n k => Nat.blt (k.1 + 1) (mX m)
    | .lstore k => Nat.blt (k + 1) (mX m)
    | .iinc k n => Nat.blt k (mX m) && decide (-2147483648 ≤ n ∧ n < 2147483648)
    | .ifCond _ off => tgt pc off ax
    | .if_icmp _ off => tgt pc off ax
    | .ifnull off => tgt pc off ax
    | .ifnonnull off => tgt pc off ax
    | .goto off => tgt pc off ax
    | .tableswitch d lo hi offs => (match ax with
        | t :: ts => decide ((pc : Int) + d = (t : Int)) && tgts pc offs.toList ts && decide (hi = lo + (offs.size : Int) - 1)
        | _ => true)
    | .lookupswitch d ps => (match ax with
        | t :: ts => decide ((pc : Int) + d = (t : Int)) && tgts pc (ps.toList.map (fun q => q.2)) ts && (ps.toList.zip (ps.toList.drop 1)).all (fun (a, next) => a.1 < next.1)
        | _ => true)
    | .getfield idx => (match ax with
        | [ci, k, t, _] => hasF (nth flT (mt m).1 []) idx ci k && Nat.beq t (fd ci k).2.2.2.1
        | _ => true)
    | .putfield idx => (match ax with
        | [ci, k, t, z] => hasF (nth flT (mt m).1 []) idx ci k && Nat.beq t (fd ci k).2.2.2.1 && Nat.beq z (fd ci k).2.2.2.2 && (!(fd ci k).2.2.1 || (Nat.beq (mt m).1 ci && decide ((mt m).2.1 = "<init>")))
        | _ => true)
    | .new idx => (match ax with
        | [ci, n] => hasL (nth klT (mt m).1 []) idx ci && Nat.beq n (nF ci)
        | _ => true)
    | .newarray t => (match t with
        | .int => true
        | .long => true
        | .byte => true
        | .boolean => true
        | _ => false)
    | .anewarray idx => Nat.beq (mt m).1 1 && Nat.beq idx 55
    | .checkcast idx => (Nat.beq (mt m).1 10 && Nat.beq idx 72) || (Nat.beq (mt m).1 15 && Nat.beq idx 317)
    | .invokestatic idx => chkC m 0 idx ax
    | .invokevirtual idx => chkC m 1 idx ax
    | .invokespecial idx => chkC m 2 idx ax
    | .ireturn => decide (mR m = some .int ∧ cn = 0 ∨ mR m = some .boolean ∧ cn = 1)
    | .lreturn => decide (mR m = some .long)
    | .areturn => Nat.beq (rtOf (mR m)) 3
    | .return_ => decide (mR m = none)
    | _ => true
def lenI (i : Instr) : Option Nat := match i with
  | .bipush _ => some 2
  | .sipush _ => some 3
  | .ldc _ => some 2
  | .ldc_w _ => some 3
  | .ldc2_w _ => some 3
  | .iload _ => some 2
  | .lload _ => some 2
  | .aload _ => some 2
  | .istore _ => some 2
  | .lstore _ => some 2
  | .astore _ => some 2
  | .iinc _ _ => some 3
  | .ifCond _ _ => some 3
  | .if_icmp _ _ => some 3
  | .ifnull _ => some 3
  | .ifnonnull _ => some 3
  | .goto _ => some 3
  | .getfield _ => some 3
  | .putfield _ => some 3
  | .new _ => some 3
  | .newarray _ => some 2
  | .anewarray _ => some 3
  | .checkcast _ => some 3
  | .invokestatic _ => some 3
  | .invokevirtual _ => some 3
  | .invokespecial _ => some 3
  | .tableswitch _ _ _ _ => none
  | .lookupswitch _ _ => none
  | _ => some 1
def chkN (pc : Nat) (i : Instr) (nx : Nat) : Bool := match lenI i with
  | some n => Nat.beq nx (pc + n)
  | none => Nat.blt pc nx
def chkE (m : Nat) (q : Nat × AE × List Nat) : Bool := decide (decode (mB m) q.1 = .ok (q.2.1.1, q.2.1.2.1 - q.1)) && chkN q.1 q.2.1.1 q.2.1.2.1 && chkI m q.1 q.2.1
def chkM (m : Nat) (l : List (List (Nat × AE × List Nat))) : Bool := l.all (fun r => r.all (chkE m))
