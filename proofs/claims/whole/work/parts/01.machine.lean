/-! MY MACHINE: values are (tag, number): 0 int, 1 long, 2 reference (0 is null, 1 the script), 3 nothing, 4 a long's second half, 5 the one String constant -/
abbrev AV : Type := Nat × Int
abbrev aI (x : Int) : AV := (0, x)
abbrev aL (x : Int) : AV := (1, x)
abbrev aR (x : Int) : AV := (2, x)
abbrev aU : AV := (3, 0)
abbrev a2 : AV := (4, 0)
abbrev aS : AV := (5, 0)
/-- what each cell holds at each place (numbers; references of objects' fields), the cells' kinds and lengths by their number -/
abbrev AM : Type := (Int → Int → Int) × (Int → Int → Int) × List (Nat × Int)
def kd (sh : List (Nat × Int)) (a : Int) : Nat := (sh.getD a.toNat (99, 0)).1
def ln (sh : List (Nat × Int)) (a : Int) : Int := (sh.getD a.toNat (99, 0)).2
def up (σ : Int → Int → Int) (a i x : Int) : Int → Int → Int := fun a' i' => if a' = a ∧ i' = i then x else σ a' i'
def zr (σ : Int → Int → Int) (a : Int) : Int → Int → Int := fun a' i' => if a' = a then 0 else σ a' i'
def cp (σ : Int → Int → Int) (src sp dst dp n : Int) : Int → Int → Int := fun a' i' => if a' = dst ∧ dp ≤ i' ∧ i' < dp + n then σ src (sp + (i' - dp)) else σ a' i'
def cy (σ : Int → Int → Int) (src dst : Int) : Int → Int → Int := fun a' i' => if a' = dst then σ src i' else σ a' i'
def w32 (x : Int) : Int := (x + 2147483648) % 4294967296 - 2147483648
def w64 (x : Int) : Int := (x + 9223372036854775808) % 18446744073709551616 - 9223372036854775808
def w8 (x : Int) : Int := (x + 128) % 256 - 128
def bA (x y : Int) : Int := (Int32.ofInt x &&& Int32.ofInt y).toInt
def bO (x y : Int) : Int := (Int32.ofInt x ||| Int32.ofInt y).toInt
def bX (x y : Int) : Int := (Int32.ofInt x ^^^ Int32.ofInt y).toInt
def sL (x y : Int) : Int := (Int32.ofInt x <<< (Int32.ofInt y &&& 31)).toInt
def sR (x y : Int) : Int := (Int32.ofInt x >>> (Int32.ofInt y &&& 31)).toInt
def sU (x y : Int) : Int := (((Int32.ofInt x).toUInt32 >>> ((Int32.ofInt y).toUInt32 &&& Int32.toUInt32 31)).toInt32).toInt
def bOL (x y : Int) : Int := (Int64.ofInt x ||| Int64.ofInt y).toInt
def sLL (x y : Int) : Int := (Int64.ofInt x <<< ((Int32.ofInt y).toInt64 &&& 63)).toInt
def sRL (x y : Int) : Int := (Int64.ofInt x >>> ((Int32.ofInt y).toInt64 &&& 63)).toInt
def cmpL (x y : Int) : Int := if x < y then -1 else if x = y then 0 else 1
def getL (L : List AV) (i : Nat) : AV := L.getD i aU
def setL (L : List AV) (i : Nat) (v : AV) : List AV :=
  if (getL L i).1 = 4 then (L.set (i - 1) aU).set i v else if (getL L i).1 = 1 then (L.set (i + 1) aU).set i v else L.set i v
def setL2 (L : List AV) (i : Nat) (v : AV) : List AV :=
  let L1 := if (getL L i).1 = 4 then L.set (i - 1) aU else L
  let L2 := if (getL L1 (i + 1)).1 = 1 then L1.set (i + 2) aU else L1
  (L2.set i v).set (i + 1) a2
def expand : List AV → List AV
  | [] => []
  | v :: r => if v.1 = 1 then v :: a2 :: expand r else v :: expand r
def padTo (n : Nat) (l : List AV) : List AV := l ++ List.replicate (n - l.length) aU
/-- an entry: instruction, the next place, numbers, a constant -/
abbrev AE : Type := Instr × Nat × List Nat × Int
def sp_text : List Nat := [119, 101, 105, 103, 104, 116, 32, 32, 115, 116, 105, 99, 107, 115, 32, 32, 108, 105, 101, 32, 32, 32, 32, 32, 117, 112, 32, 32, 32, 32, 32, 32, 104, 101, 97, 114, 116, 32, 32, 32, 100, 101, 101, 100, 32, 32, 32, 32, 106, 117, 100, 103, 101, 32, 32, 32, 108, 101, 110, 100, 32, 32, 32, 32, 119, 101, 105, 103, 104, 32, 32, 32, 108, 97, 121, 32, 32, 32, 32, 32, 121, 101, 115, 32, 32, 32, 32, 32, 110, 111, 32, 32, 32, 32, 32, 32, 101, 110, 100, 32, 32, 32, 32, 32, 111, 102, 32, 32, 32, 32, 32, 32, 116, 111, 32, 32, 32, 32, 32, 32, 98, 121, 32, 32, 32, 32, 32, 32, 102, 101, 97, 116, 104, 101, 114, 32, 107, 105, 110, 100, 32, 32, 32, 32, 115, 105, 122, 101, 32, 32, 32, 32, 115, 101, 101, 110, 32, 32, 32, 32, 114, 101, 112, 97, 105, 100, 32, 32, 102, 101, 97, 114, 32, 32, 32, 32, 98, 105, 100, 32, 32, 32, 32, 32, 115, 104, 111, 119, 110, 32, 32, 32, 108, 97, 105, 100, 32, 32, 32, 32, 108, 105, 101, 115, 32, 32, 32, 32, 107, 105, 110, 100, 115, 32, 32, 32, 104, 105, 100, 100, 101, 110, 32, 32, 100, 101, 101, 100, 115, 32, 32, 32]
def swK.{u} {α : Sort u} (x lo : Int) (d : Nat) (K : Nat → α) : List Nat → α
  | [] => K d
  | t :: ts => if x = lo then K t else swK x (lo + 1) d K ts
def lkK.{u} {α : Sort u} (x : Int) (d : Nat) (K : Nat → α) : List (Int × Int) → List Nat → α
  | p :: ps, t :: ts => if x = p.1 then K t else lkK x d K ps ts
  | _, _ => K d
def ifK.{u} {α : Sort u} (c : Jvm.ClassFile.Cond) (x y : Int) (T F : α) : α := match c with
  | .eq => if x = y then T else F
  | .ne => if x = y then F else T
  | .lt => if x < y then T else F
  | .ge => if x < y then F else T
  | .gt => if y < x then T else F
  | .le => if y < x then F else T
def kindOf (t : ArrayType) : Nat := match t with
  | .int => 50
  | .long => 51
  | .byte => 52
  | .boolean => 53
  | _ => 99
def callK.{u} {α : Sort u} (nx : Nat) (ax : List Nat) (L S : List AV) (M : AM) (K : Nat → List AV → List AV → AM → α) (C : Nat → List AV → Nat → List AV → Nat → α) (bot : α) : α := match ax with
  | [y, n, mx, ci, rt] => if n ≤ S.length then (if ci = 0 then C y (padTo mx (expand (S.take n).reverse)) nx (S.drop n) rt else (match (S.take n).reverse with
      | (2, a) :: _ => if kd M.2.2 a + 1 = ci then C y (padTo mx (expand (S.take n).reverse)) nx (S.drop n) rt else bot
      | _ => bot)) else bot
  | [1000] => (match S with
      | (2, _) :: S' => K nx L S' M
      | _ => bot)
  | [1001] => (match S with
      | (0, n) :: (0, dp) :: (2, dst) :: (0, sp) :: (2, src) :: S' => if kd M.2.2 src = 50 ∧ kd M.2.2 dst = 50 then (if 0 ≤ sp ∧ 0 ≤ dp ∧ 0 ≤ n ∧ sp + n ≤ ln M.2.2 src ∧ dp + n ≤ ln M.2.2 dst then K nx L S' (cp M.1 src sp dst dp n, M.2) else bot) else bot
      | _ => bot)
  | [1002] => (match S with
      | (2, a) :: S' => if kd M.2.2 a = 50 then K nx L (aR M.2.2.length :: S') (cy M.1 a M.2.2.length, M.2.1, M.2.2 ++ [(50, ln M.2.2 a)]) else bot
      | _ => bot)
  | [1003] => (match S with
      | (5, _) :: S' => K nx L (aI sp_text.length :: S') M
      | _ => bot)
  | [1004] => (match S with
      | (0, i) :: (5, _) :: S' => if 0 ≤ i ∧ i < sp_text.length then K nx L (aI (sp_text.getD i.toNat 0 : Nat) :: S') M else bot
      | _ => bot)
  | _ => bot
set_option maxHeartbeats 4000000 in
def actK.{u} {α : Sort u} (e : AE) (L S : List AV) (M : AM) (K : Nat → List AV → List AV → AM → α) (R : AV → AM → α) (C : Nat → List AV → Nat → List AV → Nat → α) (bot : α) : α := match e with
  | (i, nx, ax, cn) => match i with
    | .iconst n => K nx L (aI n :: S) M
    | .bipush n => K nx L (aI n :: S) M
    | .sipush n => K nx L (aI n :: S) M
    | .lconst n => K nx L (aL (n : Nat) :: S) M
    | .aconst_null => K nx L (aR 0 :: S) M
    | .ldc _ => (match ax with
        | [] => K nx L (aI cn :: S) M
        | _ => K nx L (aS :: S) M)
    | .ldc_w _ => K nx L (aI cn :: S) M
    | .ldc2_w _ => K nx L (aL cn :: S) M
    | .iload_n k => (match getL L k with
        | (0, x) => K nx L (aI x :: S) M
        | _ => bot)
    | .iload k => (match getL L k with
        | (0, x) => K nx L (aI x :: S) M
        | _ => bot)
    | .lload_n k => (match getL L k with
        | (1, x) => K nx L (aL x :: S) M
        | _ => bot)
    | .lload k => (match getL L k with
        | (1, x) => K nx L (aL x :: S) M
        | _ => bot)
    | .aload_n k => (match getL L k with
        | (2, x) => K nx L (aR x :: S) M
        | _ => bot)
    | .aload k => (match getL L k with
        | (2, x) => K nx L (aR x :: S) M
        | _ => bot)
    | .istore_n k => (match S with
        | (0, x) :: S' => K nx (setL L k (aI x)) S' M
        | _ => bot)
    | .istore k => (match S with
        | (0, x) :: S' => K nx (setL L k (aI x)) S' M
        | _ => bot)
    | .lstore_n k => (match S with
        | (1, x) :: S' => K nx (setL2 L k (aL x)) S' M
        | _ => bot)
    | .lstore k => (match S with
        | (1, x) :: S' => K nx (setL2 L k (aL x)) S' M
        | _ => bot)
    | .astore_n k => (match S with
        | (2, x) :: S' => K nx (setL L k (aR x)) S' M
        | _ => bot)
    | .astore k => (match S with
        | (2, x) :: S' => K nx (setL L k (aR x)) S' M
        | _ => bot)
    | .iinc k n => (match getL L k with
        | (0, x) => K nx (L.set k (aI (w32 (x + n)))) S M
        | _ => bot)
    | .iadd => (match S with
        | (0, y) :: (0, x) :: S' => K nx L (aI (w32 (x + y)) :: S') M
        | _ => bot)
    | .isub => (match S with
        | (0, y) :: (0, x) :: S' => K nx L (aI (w32 (x - y)) :: S') M
        | _ => bot)
    | .imul => (match S with
        | (0, y) :: (0, x) :: S' => K nx L (aI (w32 (x * y)) :: S') M
        | _ => bot)
    | .idiv => (match S with
        | (0, y) :: (0, x) :: S' => if y = 0 then bot else K nx L (aI (w32 (Int.tdiv x y)) :: S') M
        | _ => bot)
    | .irem => (match S with
        | (0, y) :: (0, x) :: S' => if y = 0 then bot else K nx L (aI (Int.tmod x y) :: S') M
        | _ => bot)
    | .ineg => (match S with
        | (0, x) :: S' => K nx L (aI (w32 (-x)) :: S') M
        | _ => bot)
    | .iand => (match S with
        | (0, y) :: (0, x) :: S' => K nx L (aI (bA x y) :: S') M
        | _ => bot)
    | .ior => (match S with
        | (0, y) :: (0, x) :: S' => K nx L (aI (bO x y) :: S') M
        | _ => bot)
    | .ixor => (match S with
        | (0, y) :: (0, x) :: S' => K nx L (aI (bX x y) :: S') M
        | _ => bot)
    | .ishl => (match S with
        | (0, y) :: (0, x) :: S' => K nx L (aI (sL x y) :: S') M
        | _ => bot)
    | .ishr => (match S with
        | (0, y) :: (0, x) :: S' => K nx L (aI (sR x y) :: S') M
        | _ => bot)
    | .iushr => (match S with
        | (0, y) :: (0, x) :: S' => K nx L (aI (sU x y) :: S') M
        | _ => bot)
    | .ladd => (match S with
        | (1, y) :: (1, x) :: S' => K nx L (aL (w64 (x + y)) :: S') M
        | _ => bot)
    | .lsub => (match S with
        | (1, y) :: (1, x) :: S' => K nx L (aL (w64 (x - y)) :: S') M
        | _ => bot)
    | .lmul => (match S with
        | (1, y) :: (1, x) :: S' => K nx L (aL (w64 (x * y)) :: S') M
        | _ => bot)
    | .ldiv => (match S with
        | (1, y) :: (1, x) :: S' => if y = 0 then bot else K nx L (aL (w64 (Int.tdiv x y)) :: S') M
        | _ => bot)
    | .lrem => (match S with
        | (1, y) :: (1, x) :: S' => if y = 0 then bot else K nx L (aL (Int.tmod x y) :: S') M
        | _ => bot)
    | .lneg => (match S with
        | (1, x) :: S' => K nx L (aL (w64 (-x)) :: S') M
        | _ => bot)
    | .lor => (match S with
        | (1, y) :: (1, x) :: S' => K nx L (aL (bOL x y) :: S') M
        | _ => bot)
    | .lshl => (match S with
        | (0, y) :: (1, x) :: S' => K nx L (aL (sLL x y) :: S') M
        | _ => bot)
    | .lshr => (match S with
        | (0, y) :: (1, x) :: S' => K nx L (aL (sRL x y) :: S') M
        | _ => bot)
    | .lcmp => (match S with
        | (1, y) :: (1, x) :: S' => K nx L (aI (cmpL x y) :: S') M
        | _ => bot)
    | .i2l => (match S with
        | (0, x) :: S' => K nx L (aL x :: S') M
        | _ => bot)
    | .l2i => (match S with
        | (1, x) :: S' => K nx L (aI (w32 x) :: S') M
        | _ => bot)
    | .i2b => (match S with
        | (0, x) :: S' => K nx L (aI (w8 x) :: S') M
        | _ => bot)
    | .dup => (match S with
        | (0, x) :: S' => K nx L ((0, x) :: (0, x) :: S') M
        | (2, x) :: S' => K nx L ((2, x) :: (2, x) :: S') M
        | _ => bot)
    | .dup2 => (match S with
        | (0, x) :: (2, y) :: S' => K nx L ((0, x) :: (2, y) :: (0, x) :: (2, y) :: S') M
        | _ => bot)
    | .pop => (match S with
        | (0, _) :: S' => K nx L S' M
        | (2, _) :: S' => K nx L S' M
        | _ => bot)
    | .ifCond c _ => (match S, ax with
        | (0, x) :: S', [t] => ifK c x 0 (K t L S' M) (K nx L S' M)
        | _, _ => bot)
    | .if_icmp c _ => (match S, ax with
        | (0, y) :: (0, x) :: S', [t] => ifK c x y (K t L S' M) (K nx L S' M)
        | _, _ => bot)
    | .ifnull _ => (match S, ax with
        | (2, x) :: S', [t] => if x = 0 then K t L S' M else K nx L S' M
        | _, _ => bot)
    | .ifnonnull _ => (match S, ax with
        | (2, x) :: S', [t] => if x = 0 then K nx L S' M else K t L S' M
        | _, _ => bot)
    | .goto _ => (match ax with
        | [t] => K t L S M
        | _ => bot)
    | .tableswitch _ lo _ _ => (match S, ax with
        | (0, x) :: S', d :: ts => swK x lo d (fun t => K t L S' M) ts
        | _, _ => bot)
    | .lookupswitch _ ps => (match S, ax with
        | (0, x) :: S', d :: ts => lkK x d (fun t => K t L S' M) ps.toList ts
        | _, _ => bot)
    | .getfield _ => (match S, ax with
        | (2, a) :: S', [ci, k, t, _] => if kd M.2.2 a = ci then (if t = 2 then K nx L (aR (M.2.1 a k) :: S') M else K nx L ((t, M.1 a k) :: S') M) else bot
        | _, _ => bot)
    | .putfield _ => (match S, ax with
        | (t, x) :: (2, a) :: S', [ci, k, t', z] => if kd M.2.2 a = ci ∧ t = t' then (if t = 2 then K nx L S' (M.1, up M.2.1 a k x, M.2.2) else if z = 0 ∨ x = 0 ∨ x = 1 then K nx L S' (up M.1 a k x, M.2) else bot) else bot
        | _, _ => bot)
    | .arraylength => (match S with
        | (2, a) :: S' => if 50 ≤ kd M.2.2 a ∧ kd M.2.2 a ≤ 55 then K nx L (aI (ln M.2.2 a) :: S') M else bot
        | _ => bot)
    | .iaload => (match S with
        | (0, j) :: (2, a) :: S' => if kd M.2.2 a = 50 ∨ kd M.2.2 a = 55 then (if 0 ≤ j ∧ j < ln M.2.2 a then K nx L (aI (M.1 a j) :: S') M else bot) else bot
        | _ => bot)
    | .laload => (match S with
        | (0, j) :: (2, a) :: S' => if kd M.2.2 a = 51 then (if 0 ≤ j ∧ j < ln M.2.2 a then K nx L (aL (M.1 a j) :: S') M else bot) else bot
        | _ => bot)
    | .baload => (match S with
        | (0, j) :: (2, a) :: S' => if kd M.2.2 a = 52 ∨ kd M.2.2 a = 53 then (if 0 ≤ j ∧ j < ln M.2.2 a then K nx L (aI (M.1 a j) :: S') M else bot) else bot
        | _ => bot)
    | .aaload => (match S with
        | (0, j) :: (2, a) :: S' => if kd M.2.2 a = 54 then (if 0 ≤ j ∧ j < ln M.2.2 a then K nx L (aR (M.1 a j) :: S') M else bot) else bot
        | _ => bot)
    | .iastore => (match S with
        | (0, x) :: (0, j) :: (2, a) :: S' => if kd M.2.2 a = 50 then (if 0 ≤ j ∧ j < ln M.2.2 a then K nx L S' (up M.1 a j x, M.2) else bot) else bot
        | _ => bot)
    | .lastore => (match S with
        | (1, x) :: (0, j) :: (2, a) :: S' => if kd M.2.2 a = 51 then (if 0 ≤ j ∧ j < ln M.2.2 a then K nx L S' (up M.1 a j x, M.2) else bot) else bot
        | _ => bot)
    | .bastore => (match S with
        | (0, x) :: (0, j) :: (2, a) :: S' => if kd M.2.2 a = 52 then (if 0 ≤ j ∧ j < ln M.2.2 a then K nx L S' (up M.1 a j (w8 x), M.2) else bot) else if kd M.2.2 a = 53 then (if (x = 0 ∨ x = 1) ∧ 0 ≤ j ∧ j < ln M.2.2 a then K nx L S' (up M.1 a j x, M.2) else bot) else bot
        | _ => bot)
    | .aastore => (match S with
        | (2, x) :: (0, j) :: (2, a) :: S' => if kd M.2.2 a = 54 then (if kd M.2.2 x = 7 ∧ 0 ≤ j ∧ j < ln M.2.2 a then K nx L S' (up M.1 a j x, M.2) else if x = 0 ∧ 0 ≤ j ∧ j < ln M.2.2 a then K nx L S' (up M.1 a j x, M.2) else bot) else bot
        | _ => bot)
    | .newarray t => (match S with
        | (0, n) :: S' => if 0 ≤ n ∧ n ≤ 10000 then K nx L (aR M.2.2.length :: S') (zr M.1 M.2.2.length, M.2.1, M.2.2 ++ [(kindOf t, n)]) else bot
        | _ => bot)
    | .anewarray _ => (match S with
        | (0, n) :: S' => if 0 ≤ n ∧ n ≤ 10000 then K nx L (aR M.2.2.length :: S') (zr M.1 M.2.2.length, M.2.1, M.2.2 ++ [(54, n)]) else bot
        | _ => bot)
    | .new _ => (match ax with
        | [ci, n] => K nx L (aR M.2.2.length :: S) (zr M.1 M.2.2.length, zr M.2.1 M.2.2.length, M.2.2 ++ [(ci, (n : Int))])
        | _ => bot)
    | .checkcast _ => (match S with
        | (2, a) :: S' => if kd M.2.2 a = 50 then K nx L (aR a :: S') M else bot
        | _ => bot)
    | .invokestatic _ => callK nx ax L S M K C bot
    | .invokevirtual _ => callK nx ax L S M K C bot
    | .invokespecial _ => callK nx ax L S M K C bot
    | .ireturn => (match S with
        | (0, x) :: _ => if cn = 0 ∨ x = 0 ∨ x = 1 then R (aI x) M else bot
        | _ => bot)
    | .lreturn => (match S with
        | (1, x) :: _ => R (aL x) M
        | _ => bot)
    | .areturn => (match S with
        | (2, x) :: _ => R (aR x) M
        | _ => bot)
    | .return_ => R aU M
    | _ => bot
