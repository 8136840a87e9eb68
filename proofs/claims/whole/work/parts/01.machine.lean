noncomputable section
/-! MY MACHINE: values are (tag, number): 0 int, 1 long, 2 reference (0 is null, 1 the script), 3 nothing, 4 a long's second half, 5 the one String constant -/
abbrev AV : Type := Nat × Int
abbrev aI (x : Int) : AV := (0, x)
abbrev aL (x : Int) : AV := (1, x)
abbrev aR (x : Int) : AV := (2, x)
abbrev aU : AV := (3, 0)
abbrev a2 : AV := (4, 0)
abbrev aS : AV := (5, 0)
/-- what each cell holds at each place (numbers; references of objects' fields), the cells' kinds and lengths by their number -/
abbrev AM : Type := (Int → Int → Int) × (Int → Int → Int) × List (Nat × Int)
/-- the choice by a truth value that computing tells, or leaves -/
abbrev brK.{u} {α : Sort u} (b : Bool) (A B : α) : α := Bool.rec B A b
def nth {α : Type} : List α → Nat → α → α
  | [], _, d => d
  | x :: _, 0, _ => x
  | _ :: r, n + 1, d => nth r n d
def kd (sh : List (Nat × Int)) (a : Int) : Nat := (nth sh a.toNat (99, 0)).1
def ln (sh : List (Nat × Int)) (a : Int) : Int := (nth sh a.toNat (99, 0)).2
def up (σ : Int → Int → Int) (a i x : Int) : Int → Int → Int := fun a' i' => if a' = a ∧ i' = i then x else σ a' i'
def zr (σ : Int → Int → Int) (a : Int) : Int → Int → Int := fun a' i' => if a' = a then 0 else σ a' i'
def cp (σ : Int → Int → Int) (src sp dst dp n : Int) : Int → Int → Int := fun a' i' => if a' = dst ∧ dp ≤ i' ∧ i' < dp + n then σ src (sp + (i' - dp)) else σ a' i'
def cy (σ : Int → Int → Int) (src dst : Int) : Int → Int → Int := fun a' i' => if a' = dst then σ src i' else σ a' i'
def w32 (x : Int) : Int := (x + 2147483648) % 4294967296 - 2147483648
def w64 (x : Int) : Int := (x + 9223372036854775808) % 18446744073709551616 - 9223372036854775808
def w8 (x : Int) : Int := (x + 128) % 256 - 128
def u32 (x : Int) : Nat := (x % 4294967296).toNat
def u64 (x : Int) : Nat := (x % 18446744073709551616).toNat
def bAc (x y : Int) : Int := w32 (u32 x &&& u32 y : Nat)
def bOc (x y : Int) : Int := w32 (u32 x ||| u32 y : Nat)
def bXc (x y : Int) : Int := w32 (u32 x ^^^ u32 y : Nat)
def sLc (x y : Int) : Int := w32 (x * (2 ^ (y % 32).toNat : Nat))
def sRc (x y : Int) : Int := x / (2 ^ (y % 32).toNat : Nat)
def sUc (x y : Int) : Int := w32 (u32 x / 2 ^ (y % 32).toNat : Nat)
theorem shut (f : Int → Int → Int) : ∃ g : Int → Int → Int, g = f := ⟨f, rfl⟩
def bA : Int → Int → Int := Classical.choose (shut bAc)
def bO : Int → Int → Int := Classical.choose (shut bOc)
def bX : Int → Int → Int := Classical.choose (shut bXc)
def sL : Int → Int → Int := Classical.choose (shut sLc)
def sR : Int → Int → Int := Classical.choose (shut sRc)
def sU : Int → Int → Int := Classical.choose (shut sUc)
theorem bA_d (x y : Int) : bA x y = bAc x y := by rw [show bA = bAc from Classical.choose_spec (shut bAc)]
theorem bO_d (x y : Int) : bO x y = bOc x y := by rw [show bO = bOc from Classical.choose_spec (shut bOc)]
theorem bX_d (x y : Int) : bX x y = bXc x y := by rw [show bX = bXc from Classical.choose_spec (shut bXc)]
theorem sL_d (x y : Int) : sL x y = sLc x y := by rw [show sL = sLc from Classical.choose_spec (shut sLc)]
theorem sR_d (x y : Int) : sR x y = sRc x y := by rw [show sR = sRc from Classical.choose_spec (shut sRc)]
theorem sU_d (x y : Int) : sU x y = sUc x y := by rw [show sU = sUc from Classical.choose_spec (shut sUc)]
def bOLc (x y : Int) : Int := w64 (u64 x ||| u64 y : Nat)
def sLLc (x y : Int) : Int := w64 (x * (2 ^ (y % 64).toNat : Nat))
def sRLc (x y : Int) : Int := x / (2 ^ (y % 64).toNat : Nat)
def bOL : Int → Int → Int := Classical.choose (shut bOLc)
def sLL : Int → Int → Int := Classical.choose (shut sLLc)
def sRL : Int → Int → Int := Classical.choose (shut sRLc)
theorem bOL_d (x y : Int) : bOL x y = bOLc x y := by rw [show bOL = bOLc from Classical.choose_spec (shut bOLc)]
theorem sLL_d (x y : Int) : sLL x y = sLLc x y := by rw [show sLL = sLLc from Classical.choose_spec (shut sLLc)]
theorem sRL_d (x y : Int) : sRL x y = sRLc x y := by rw [show sRL = sRLc from Classical.choose_spec (shut sRLc)]
def cmpL (x y : Int) : Int := if x < y then -1 else if x = y then 0 else 1
def getL (L : List AV) (i : Nat) : AV := nth L i aU
def expand : List AV → List AV
  | [] => []
  | v :: r => brK (Nat.beq (v.1) 1) (v :: a2 :: expand r) (v :: expand r)
def padTo (n : Nat) (l : List AV) : List AV := l ++ List.replicate (n - l.length) aU
/-- an entry: instruction, the next place, numbers, a constant -/
abbrev AE : Type := Instr × Nat × List Nat × Int
def sp_text : List Nat := [119, 101, 105, 103, 104, 116, 32, 32, 115, 116, 105, 99, 107, 115, 32, 32, 108, 105, 101, 32, 32, 32, 32, 32, 117, 112, 32, 32, 32, 32, 32, 32, 104, 101, 97, 114, 116, 32, 32, 32, 100, 101, 101, 100, 32, 32, 32, 32, 106, 117, 100, 103, 101, 32, 32, 32, 108, 101, 110, 100, 32, 32, 32, 32, 119, 101, 105, 103, 104, 32, 32, 32, 108, 97, 121, 32, 32, 32, 32, 32, 121, 101, 115, 32, 32, 32, 32, 32, 110, 111, 32, 32, 32, 32, 32, 32, 101, 110, 100, 32, 32, 32, 32, 32, 111, 102, 32, 32, 32, 32, 32, 32, 116, 111, 32, 32, 32, 32, 32, 32, 98, 121, 32, 32, 32, 32, 32, 32, 102, 101, 97, 116, 104, 101, 114, 32, 107, 105, 110, 100, 32, 32, 32, 32, 115, 105, 122, 101, 32, 32, 32, 32, 115, 101, 101, 110, 32, 32, 32, 32, 114, 101, 112, 97, 105, 100, 32, 32, 102, 101, 97, 114, 32, 32, 32, 32, 98, 105, 100, 32, 32, 32, 32, 32, 115, 104, 111, 119, 110, 32, 32, 32, 108, 97, 105, 100, 32, 32, 32, 32, 108, 105, 101, 115, 32, 32, 32, 32, 107, 105, 110, 100, 115, 32, 32, 32, 104, 105, 100, 100, 101, 110, 32, 32, 100, 101, 101, 100, 115, 32, 32, 32]
def swK.{u} {α : Sort u} (x lo : Int) (d : Nat) (K : Nat → α) : List Nat → α
  | [] => K d
  | t :: ts => brK (decide (x = lo)) (K t) (swK x (lo + 1) d K ts)
def lkK.{u} {α : Sort u} (x : Int) (d : Nat) (K : Nat → α) : List (Int × Int) → List Nat → α
  | p :: ps, t :: ts => brK (decide (x = p.1)) (K t) (lkK x d K ps ts)
  | _, _ => K d
def ifK.{u} {α : Sort u} (c : Jvm.ClassFile.Cond) (x y : Int) (T F : α) : α := match c with
  | .eq => brK (decide (x = y)) (T) (F)
  | .ne => brK (decide (x = y)) (F) (T)
  | .lt => brK (decide (x < y)) (T) (F)
  | .ge => brK (decide (x < y)) (F) (T)
  | .gt => brK (decide (y < x)) (T) (F)
  | .le => brK (decide (y < x)) (F) (T)
def kindOf (t : ArrayType) : Nat := match t with
  | .int => 50
  | .long => 51
  | .byte => 52
  | .boolean => 53
  | _ => 99
def wsum : List AV → Nat
  | [] => 0
  | v :: r => brK (Nat.beq v.1 1) 2 1 + wsum r
def iab (x : Int) : Int := if x < 0 then w32 (-x) else x
def callK.{u} {α : Sort u} (nx : Nat) (ax : List Nat) (L S : List AV) (M : AM) (K : Nat → List AV → List AV → AM → α) (C : Nat → List AV → Nat → List AV → Nat → α) (bot : α) : α := match ax with
  | [y, n, mx, ci, rt] => brK (Nat.ble n S.length && Nat.ble (wsum (S.drop n)) 8 && Nat.ble (wsum (S.take n)) mx) ((brK (Nat.beq (ci) 0) (C y (padTo mx (expand (S.take n).reverse)) nx (S.drop n) rt) ((match (S.take n).reverse with
      | (2, a) :: _ => brK (Nat.beq (kd M.2.2 a + 1) ci) (C y (padTo mx (expand (S.take n).reverse)) nx (S.drop n) rt) (bot)
      | _ => bot)))) (bot)
  | [1000] => (match S with
      | (2, a) :: S' => brK (Nat.ble (wsum S') 8) (brK (decide (a = 0)) bot (K nx L S' M)) bot
      | _ => bot)
  | [1001] => (match S with
      | (0, n) :: (0, dp) :: (2, dst) :: (0, sp) :: (2, src) :: S' => brK ((Nat.beq (kd M.2.2 src) 50) && (Nat.beq (kd M.2.2 dst) 50) && Nat.ble (wsum S') 8) ((brK (decide (0 ≤ sp ∧ 0 ≤ dp ∧ 0 ≤ n ∧ sp + n ≤ ln M.2.2 src ∧ dp + n ≤ ln M.2.2 dst)) (K nx L S' (cp M.1 src sp dst dp n, M.2)) (bot))) (bot)
      | _ => bot)
  | [1002] => (match S with
      | (2, a) :: S' => brK (Nat.beq (kd M.2.2 a) 50 && Nat.ble (wsum S') 8) (K nx L (aR M.2.2.length :: S') (cy M.1 a M.2.2.length, M.2.1, M.2.2 ++ [(50, ln M.2.2 a)])) (bot)
      | _ => bot)
  | [1003] => (match S with
      | (5, _) :: S' => brK (Nat.ble (wsum S') 8) (K nx L (aI sp_text.length :: S') M) bot
      | _ => bot)
  | [1004] => (match S with
      | (0, i) :: (5, _) :: S' => brK (Nat.ble (wsum S') 8) (brK (decide (0 ≤ i ∧ i < sp_text.length)) (K nx L (aI (sp_text.getD i.toNat 0 : Nat) :: S') M) (bot)) bot
      | _ => bot)
  | [1005] => (match S with
      | (0, y) :: (0, x) :: S' => brK (Nat.ble (wsum S') 8) (K nx L (aI (min x y) :: S') M) bot
      | _ => bot)
  | [1006] => (match S with
      | (0, y) :: (0, x) :: S' => brK (Nat.ble (wsum S') 8) (K nx L (aI (max x y) :: S') M) bot
      | _ => bot)
  | [1007] => (match S with
      | (0, x) :: S' => brK (Nat.ble (wsum S') 8) (K nx L (aI (iab x) :: S') M) bot
      | _ => bot)
  | _ => bot
def a_iconst.{u} {α : Sort u} (n : Int) (nx : Nat) (ax : List Nat) (cn : Int) (L S : List AV) (M : AM) (K : Nat → List AV → List AV → AM → α) (R : AV → AM → α) (C : Nat → List AV → Nat → List AV → Nat → α) (bot : α) : α := K nx L (aI n :: S) M
def a_bipush.{u} {α : Sort u} (n : Int) (nx : Nat) (ax : List Nat) (cn : Int) (L S : List AV) (M : AM) (K : Nat → List AV → List AV → AM → α) (R : AV → AM → α) (C : Nat → List AV → Nat → List AV → Nat → α) (bot : α) : α := K nx L (aI n :: S) M
def a_sipush.{u} {α : Sort u} (n : Int) (nx : Nat) (ax : List Nat) (cn : Int) (L S : List AV) (M : AM) (K : Nat → List AV → List AV → AM → α) (R : AV → AM → α) (C : Nat → List AV → Nat → List AV → Nat → α) (bot : α) : α := K nx L (aI n :: S) M
def a_lconst.{u} {α : Sort u} (n : Fin 2) (nx : Nat) (ax : List Nat) (cn : Int) (L S : List AV) (M : AM) (K : Nat → List AV → List AV → AM → α) (R : AV → AM → α) (C : Nat → List AV → Nat → List AV → Nat → α) (bot : α) : α := K nx L (aL (n : Nat) :: S) M
def a_aconst_null.{u} {α : Sort u} (nx : Nat) (ax : List Nat) (cn : Int) (L S : List AV) (M : AM) (K : Nat → List AV → List AV → AM → α) (R : AV → AM → α) (C : Nat → List AV → Nat → List AV → Nat → α) (bot : α) : α := K nx L (aR 0 :: S) M
def a_ldc.{u} {α : Sort u} (nx : Nat) (ax : List Nat) (cn : Int) (L S : List AV) (M : AM) (K : Nat → List AV → List AV → AM → α) (R : AV → AM → α) (C : Nat → List AV → Nat → List AV → Nat → α) (bot : α) : α := (match ax with
        | [] => K nx L (aI cn :: S) M
        | _ => K nx L (aS :: S) M)
def a_ldc_w.{u} {α : Sort u} (nx : Nat) (ax : List Nat) (cn : Int) (L S : List AV) (M : AM) (K : Nat → List AV → List AV → AM → α) (R : AV → AM → α) (C : Nat → List AV → Nat → List AV → Nat → α) (bot : α) : α := K nx L (aI cn :: S) M
def a_ldc2_w.{u} {α : Sort u} (nx : Nat) (ax : List Nat) (cn : Int) (L S : List AV) (M : AM) (K : Nat → List AV → List AV → AM → α) (R : AV → AM → α) (C : Nat → List AV → Nat → List AV → Nat → α) (bot : α) : α := K nx L (aL cn :: S) M
def a_iload_n.{u} {α : Sort u} (k : Fin 4) (nx : Nat) (ax : List Nat) (cn : Int) (L S : List AV) (M : AM) (K : Nat → List AV → List AV → AM → α) (R : AV → AM → α) (C : Nat → List AV → Nat → List AV → Nat → α) (bot : α) : α := (match getL L k with
        | (0, x) => K nx L (aI x :: S) M
        | _ => bot)
def a_iload.{u} {α : Sort u} (k : Nat) (nx : Nat) (ax : List Nat) (cn : Int) (L S : List AV) (M : AM) (K : Nat → List AV → List AV → AM → α) (R : AV → AM → α) (C : Nat → List AV → Nat → List AV → Nat → α) (bot : α) : α := (match getL L k with
        | (0, x) => K nx L (aI x :: S) M
        | _ => bot)
def a_lload_n.{u} {α : Sort u} (k : Fin 4) (nx : Nat) (ax : List Nat) (cn : Int) (L S : List AV) (M : AM) (K : Nat → List AV → List AV → AM → α) (R : AV → AM → α) (C : Nat → List AV → Nat → List AV → Nat → α) (bot : α) : α := (match getL L k with
        | (1, x) => K nx L (aL x :: S) M
        | _ => bot)
def a_lload.{u} {α : Sort u} (k : Nat) (nx : Nat) (ax : List Nat) (cn : Int) (L S : List AV) (M : AM) (K : Nat → List AV → List AV → AM → α) (R : AV → AM → α) (C : Nat → List AV → Nat → List AV → Nat → α) (bot : α) : α := (match getL L k with
        | (1, x) => K nx L (aL x :: S) M
        | _ => bot)
def a_aload_n.{u} {α : Sort u} (k : Fin 4) (nx : Nat) (ax : List Nat) (cn : Int) (L S : List AV) (M : AM) (K : Nat → List AV → List AV → AM → α) (R : AV → AM → α) (C : Nat → List AV → Nat → List AV → Nat → α) (bot : α) : α := (match getL L k with
        | (2, x) => K nx L (aR x :: S) M
        | _ => bot)
def a_aload.{u} {α : Sort u} (k : Nat) (nx : Nat) (ax : List Nat) (cn : Int) (L S : List AV) (M : AM) (K : Nat → List AV → List AV → AM → α) (R : AV → AM → α) (C : Nat → List AV → Nat → List AV → Nat → α) (bot : α) : α := (match getL L k with
        | (2, x) => K nx L (aR x :: S) M
        | _ => bot)
def a_istore_n.{u} {α : Sort u} (k : Fin 4) (nx : Nat) (ax : List Nat) (cn : Int) (L S : List AV) (M : AM) (K : Nat → List AV → List AV → AM → α) (R : AV → AM → α) (C : Nat → List AV → Nat → List AV → Nat → α) (bot : α) : α := (match S with
        | (0, x) :: S' => brK (Nat.beq (getL L (k.1 - 1)).1 1) bot (K nx (L.set k.1 (aI x)) S' M)
        | _ => bot)
def a_istore.{u} {α : Sort u} (k : Nat) (nx : Nat) (ax : List Nat) (cn : Int) (L S : List AV) (M : AM) (K : Nat → List AV → List AV → AM → α) (R : AV → AM → α) (C : Nat → List AV → Nat → List AV → Nat → α) (bot : α) : α := (match S with
        | (0, x) :: S' => brK (Nat.beq (getL L (k - 1)).1 1) bot (K nx (L.set k (aI x)) S' M)
        | _ => bot)
def a_lstore_n.{u} {α : Sort u} (k : Fin 4) (nx : Nat) (ax : List Nat) (cn : Int) (L S : List AV) (M : AM) (K : Nat → List AV → List AV → AM → α) (R : AV → AM → α) (C : Nat → List AV → Nat → List AV → Nat → α) (bot : α) : α := (match S with
        | (1, x) :: S' => brK (Nat.beq (getL L (k.1 - 1)).1 1) bot (K nx ((L.set k.1 (aL x)).set (k.1 + 1) a2) S' M)
        | _ => bot)
def a_lstore.{u} {α : Sort u} (k : Nat) (nx : Nat) (ax : List Nat) (cn : Int) (L S : List AV) (M : AM) (K : Nat → List AV → List AV → AM → α) (R : AV → AM → α) (C : Nat → List AV → Nat → List AV → Nat → α) (bot : α) : α := (match S with
        | (1, x) :: S' => brK (Nat.beq (getL L (k - 1)).1 1) bot (K nx ((L.set k (aL x)).set (k + 1) a2) S' M)
        | _ => bot)
def a_astore_n.{u} {α : Sort u} (k : Fin 4) (nx : Nat) (ax : List Nat) (cn : Int) (L S : List AV) (M : AM) (K : Nat → List AV → List AV → AM → α) (R : AV → AM → α) (C : Nat → List AV → Nat → List AV → Nat → α) (bot : α) : α := (match S with
        | (2, x) :: S' => brK (Nat.beq (getL L (k.1 - 1)).1 1) bot (K nx (L.set k.1 (aR x)) S' M)
        | _ => bot)
def a_astore.{u} {α : Sort u} (k : Nat) (nx : Nat) (ax : List Nat) (cn : Int) (L S : List AV) (M : AM) (K : Nat → List AV → List AV → AM → α) (R : AV → AM → α) (C : Nat → List AV → Nat → List AV → Nat → α) (bot : α) : α := (match S with
        | (2, x) :: S' => brK (Nat.beq (getL L (k - 1)).1 1) bot (K nx (L.set k (aR x)) S' M)
        | _ => bot)
def a_iinc.{u} {α : Sort u} (k : Nat) (n : Int) (nx : Nat) (ax : List Nat) (cn : Int) (L S : List AV) (M : AM) (K : Nat → List AV → List AV → AM → α) (R : AV → AM → α) (C : Nat → List AV → Nat → List AV → Nat → α) (bot : α) : α := (match getL L k with
        | (0, x) => K nx (L.set k (aI (w32 (x + n)))) S M
        | _ => bot)
def a_iadd.{u} {α : Sort u} (nx : Nat) (ax : List Nat) (cn : Int) (L S : List AV) (M : AM) (K : Nat → List AV → List AV → AM → α) (R : AV → AM → α) (C : Nat → List AV → Nat → List AV → Nat → α) (bot : α) : α := (match S with
        | (0, y) :: (0, x) :: S' => K nx L (aI (w32 (x + y)) :: S') M
        | _ => bot)
def a_isub.{u} {α : Sort u} (nx : Nat) (ax : List Nat) (cn : Int) (L S : List AV) (M : AM) (K : Nat → List AV → List AV → AM → α) (R : AV → AM → α) (C : Nat → List AV → Nat → List AV → Nat → α) (bot : α) : α := (match S with
        | (0, y) :: (0, x) :: S' => K nx L (aI (w32 (x - y)) :: S') M
        | _ => bot)
def a_imul.{u} {α : Sort u} (nx : Nat) (ax : List Nat) (cn : Int) (L S : List AV) (M : AM) (K : Nat → List AV → List AV → AM → α) (R : AV → AM → α) (C : Nat → List AV → Nat → List AV → Nat → α) (bot : α) : α := (match S with
        | (0, y) :: (0, x) :: S' => K nx L (aI (w32 (x * y)) :: S') M
        | _ => bot)
def a_idiv.{u} {α : Sort u} (nx : Nat) (ax : List Nat) (cn : Int) (L S : List AV) (M : AM) (K : Nat → List AV → List AV → AM → α) (R : AV → AM → α) (C : Nat → List AV → Nat → List AV → Nat → α) (bot : α) : α := (match S with
        | (0, y) :: (0, x) :: S' => brK (decide (y = 0)) (bot) (K nx L (aI (w32 (Int.tdiv x y)) :: S') M)
        | _ => bot)
def a_irem.{u} {α : Sort u} (nx : Nat) (ax : List Nat) (cn : Int) (L S : List AV) (M : AM) (K : Nat → List AV → List AV → AM → α) (R : AV → AM → α) (C : Nat → List AV → Nat → List AV → Nat → α) (bot : α) : α := (match S with
        | (0, y) :: (0, x) :: S' => brK (decide (y = 0)) (bot) (K nx L (aI (Int.tmod x y) :: S') M)
        | _ => bot)
def a_ineg.{u} {α : Sort u} (nx : Nat) (ax : List Nat) (cn : Int) (L S : List AV) (M : AM) (K : Nat → List AV → List AV → AM → α) (R : AV → AM → α) (C : Nat → List AV → Nat → List AV → Nat → α) (bot : α) : α := (match S with
        | (0, x) :: S' => K nx L (aI (w32 (-x)) :: S') M
        | _ => bot)
def a_iand.{u} {α : Sort u} (nx : Nat) (ax : List Nat) (cn : Int) (L S : List AV) (M : AM) (K : Nat → List AV → List AV → AM → α) (R : AV → AM → α) (C : Nat → List AV → Nat → List AV → Nat → α) (bot : α) : α := (match S with
        | (0, y) :: (0, x) :: S' => K nx L (aI (bA x y) :: S') M
        | _ => bot)
def a_ior.{u} {α : Sort u} (nx : Nat) (ax : List Nat) (cn : Int) (L S : List AV) (M : AM) (K : Nat → List AV → List AV → AM → α) (R : AV → AM → α) (C : Nat → List AV → Nat → List AV → Nat → α) (bot : α) : α := (match S with
        | (0, y) :: (0, x) :: S' => K nx L (aI (bO x y) :: S') M
        | _ => bot)
def a_ixor.{u} {α : Sort u} (nx : Nat) (ax : List Nat) (cn : Int) (L S : List AV) (M : AM) (K : Nat → List AV → List AV → AM → α) (R : AV → AM → α) (C : Nat → List AV → Nat → List AV → Nat → α) (bot : α) : α := (match S with
        | (0, y) :: (0, x) :: S' => K nx L (aI (bX x y) :: S') M
        | _ => bot)
def a_ishl.{u} {α : Sort u} (nx : Nat) (ax : List Nat) (cn : Int) (L S : List AV) (M : AM) (K : Nat → List AV → List AV → AM → α) (R : AV → AM → α) (C : Nat → List AV → Nat → List AV → Nat → α) (bot : α) : α := (match S with
        | (0, y) :: (0, x) :: S' => K nx L (aI (sL x y) :: S') M
        | _ => bot)
def a_ishr.{u} {α : Sort u} (nx : Nat) (ax : List Nat) (cn : Int) (L S : List AV) (M : AM) (K : Nat → List AV → List AV → AM → α) (R : AV → AM → α) (C : Nat → List AV → Nat → List AV → Nat → α) (bot : α) : α := (match S with
        | (0, y) :: (0, x) :: S' => K nx L (aI (sR x y) :: S') M
        | _ => bot)
def a_iushr.{u} {α : Sort u} (nx : Nat) (ax : List Nat) (cn : Int) (L S : List AV) (M : AM) (K : Nat → List AV → List AV → AM → α) (R : AV → AM → α) (C : Nat → List AV → Nat → List AV → Nat → α) (bot : α) : α := (match S with
        | (0, y) :: (0, x) :: S' => K nx L (aI (sU x y) :: S') M
        | _ => bot)
def a_ladd.{u} {α : Sort u} (nx : Nat) (ax : List Nat) (cn : Int) (L S : List AV) (M : AM) (K : Nat → List AV → List AV → AM → α) (R : AV → AM → α) (C : Nat → List AV → Nat → List AV → Nat → α) (bot : α) : α := (match S with
        | (1, y) :: (1, x) :: S' => K nx L (aL (w64 (x + y)) :: S') M
        | _ => bot)
def a_lsub.{u} {α : Sort u} (nx : Nat) (ax : List Nat) (cn : Int) (L S : List AV) (M : AM) (K : Nat → List AV → List AV → AM → α) (R : AV → AM → α) (C : Nat → List AV → Nat → List AV → Nat → α) (bot : α) : α := (match S with
        | (1, y) :: (1, x) :: S' => K nx L (aL (w64 (x - y)) :: S') M
        | _ => bot)
def a_lmul.{u} {α : Sort u} (nx : Nat) (ax : List Nat) (cn : Int) (L S : List AV) (M : AM) (K : Nat → List AV → List AV → AM → α) (R : AV → AM → α) (C : Nat → List AV → Nat → List AV → Nat → α) (bot : α) : α := (match S with
        | (1, y) :: (1, x) :: S' => K nx L (aL (w64 (x * y)) :: S') M
        | _ => bot)
def a_ldiv.{u} {α : Sort u} (nx : Nat) (ax : List Nat) (cn : Int) (L S : List AV) (M : AM) (K : Nat → List AV → List AV → AM → α) (R : AV → AM → α) (C : Nat → List AV → Nat → List AV → Nat → α) (bot : α) : α := (match S with
        | (1, y) :: (1, x) :: S' => brK (decide (y = 0)) (bot) (K nx L (aL (w64 (Int.tdiv x y)) :: S') M)
        | _ => bot)
def a_lrem.{u} {α : Sort u} (nx : Nat) (ax : List Nat) (cn : Int) (L S : List AV) (M : AM) (K : Nat → List AV → List AV → AM → α) (R : AV → AM → α) (C : Nat → List AV → Nat → List AV → Nat → α) (bot : α) : α := (match S with
        | (1, y) :: (1, x) :: S' => brK (decide (y = 0)) (bot) (K nx L (aL (Int.tmod x y) :: S') M)
        | _ => bot)
def a_lneg.{u} {α : Sort u} (nx : Nat) (ax : List Nat) (cn : Int) (L S : List AV) (M : AM) (K : Nat → List AV → List AV → AM → α) (R : AV → AM → α) (C : Nat → List AV → Nat → List AV → Nat → α) (bot : α) : α := (match S with
        | (1, x) :: S' => K nx L (aL (w64 (-x)) :: S') M
        | _ => bot)
def a_lor.{u} {α : Sort u} (nx : Nat) (ax : List Nat) (cn : Int) (L S : List AV) (M : AM) (K : Nat → List AV → List AV → AM → α) (R : AV → AM → α) (C : Nat → List AV → Nat → List AV → Nat → α) (bot : α) : α := (match S with
        | (1, y) :: (1, x) :: S' => K nx L (aL (bOL x y) :: S') M
        | _ => bot)
def a_lshl.{u} {α : Sort u} (nx : Nat) (ax : List Nat) (cn : Int) (L S : List AV) (M : AM) (K : Nat → List AV → List AV → AM → α) (R : AV → AM → α) (C : Nat → List AV → Nat → List AV → Nat → α) (bot : α) : α := (match S with
        | (0, y) :: (1, x) :: S' => K nx L (aL (sLL x y) :: S') M
        | _ => bot)
def a_lshr.{u} {α : Sort u} (nx : Nat) (ax : List Nat) (cn : Int) (L S : List AV) (M : AM) (K : Nat → List AV → List AV → AM → α) (R : AV → AM → α) (C : Nat → List AV → Nat → List AV → Nat → α) (bot : α) : α := (match S with
        | (0, y) :: (1, x) :: S' => K nx L (aL (sRL x y) :: S') M
        | _ => bot)
def a_lcmp.{u} {α : Sort u} (nx : Nat) (ax : List Nat) (cn : Int) (L S : List AV) (M : AM) (K : Nat → List AV → List AV → AM → α) (R : AV → AM → α) (C : Nat → List AV → Nat → List AV → Nat → α) (bot : α) : α := (match S with
        | (1, y) :: (1, x) :: S' => K nx L (aI (cmpL x y) :: S') M
        | _ => bot)
def a_i2l.{u} {α : Sort u} (nx : Nat) (ax : List Nat) (cn : Int) (L S : List AV) (M : AM) (K : Nat → List AV → List AV → AM → α) (R : AV → AM → α) (C : Nat → List AV → Nat → List AV → Nat → α) (bot : α) : α := (match S with
        | (0, x) :: S' => K nx L (aL x :: S') M
        | _ => bot)
def a_l2i.{u} {α : Sort u} (nx : Nat) (ax : List Nat) (cn : Int) (L S : List AV) (M : AM) (K : Nat → List AV → List AV → AM → α) (R : AV → AM → α) (C : Nat → List AV → Nat → List AV → Nat → α) (bot : α) : α := (match S with
        | (1, x) :: S' => K nx L (aI (w32 x) :: S') M
        | _ => bot)
def a_i2b.{u} {α : Sort u} (nx : Nat) (ax : List Nat) (cn : Int) (L S : List AV) (M : AM) (K : Nat → List AV → List AV → AM → α) (R : AV → AM → α) (C : Nat → List AV → Nat → List AV → Nat → α) (bot : α) : α := (match S with
        | (0, x) :: S' => K nx L (aI (w8 x) :: S') M
        | _ => bot)
def a_dup.{u} {α : Sort u} (nx : Nat) (ax : List Nat) (cn : Int) (L S : List AV) (M : AM) (K : Nat → List AV → List AV → AM → α) (R : AV → AM → α) (C : Nat → List AV → Nat → List AV → Nat → α) (bot : α) : α := (match S with
        | (0, x) :: S' => K nx L ((0, x) :: (0, x) :: S') M
        | (2, x) :: S' => K nx L ((2, x) :: (2, x) :: S') M
        | _ => bot)
def a_dup2.{u} {α : Sort u} (nx : Nat) (ax : List Nat) (cn : Int) (L S : List AV) (M : AM) (K : Nat → List AV → List AV → AM → α) (R : AV → AM → α) (C : Nat → List AV → Nat → List AV → Nat → α) (bot : α) : α := (match S with
        | (0, x) :: (2, y) :: S' => K nx L ((0, x) :: (2, y) :: (0, x) :: (2, y) :: S') M
        | _ => bot)
def a_pop.{u} {α : Sort u} (nx : Nat) (ax : List Nat) (cn : Int) (L S : List AV) (M : AM) (K : Nat → List AV → List AV → AM → α) (R : AV → AM → α) (C : Nat → List AV → Nat → List AV → Nat → α) (bot : α) : α := (match S with
        | (0, _) :: S' => K nx L S' M
        | (2, _) :: S' => K nx L S' M
        | _ => bot)
def a_ifCond.{u} {α : Sort u} (c : Jvm.ClassFile.Cond) (nx : Nat) (ax : List Nat) (cn : Int) (L S : List AV) (M : AM) (K : Nat → List AV → List AV → AM → α) (R : AV → AM → α) (C : Nat → List AV → Nat → List AV → Nat → α) (bot : α) : α := (match S, ax with
        | (0, x) :: S', [t] => ifK c x 0 (K t L S' M) (K nx L S' M)
        | _, _ => bot)
def a_if_icmp.{u} {α : Sort u} (c : Jvm.ClassFile.Cond) (nx : Nat) (ax : List Nat) (cn : Int) (L S : List AV) (M : AM) (K : Nat → List AV → List AV → AM → α) (R : AV → AM → α) (C : Nat → List AV → Nat → List AV → Nat → α) (bot : α) : α := (match S, ax with
        | (0, y) :: (0, x) :: S', [t] => ifK c x y (K t L S' M) (K nx L S' M)
        | _, _ => bot)
def a_ifnull.{u} {α : Sort u} (nx : Nat) (ax : List Nat) (cn : Int) (L S : List AV) (M : AM) (K : Nat → List AV → List AV → AM → α) (R : AV → AM → α) (C : Nat → List AV → Nat → List AV → Nat → α) (bot : α) : α := (match S, ax with
        | (2, x) :: S', [t] => brK (decide (x = 0)) (K t L S' M) (K nx L S' M)
        | _, _ => bot)
def a_ifnonnull.{u} {α : Sort u} (nx : Nat) (ax : List Nat) (cn : Int) (L S : List AV) (M : AM) (K : Nat → List AV → List AV → AM → α) (R : AV → AM → α) (C : Nat → List AV → Nat → List AV → Nat → α) (bot : α) : α := (match S, ax with
        | (2, x) :: S', [t] => brK (decide (x = 0)) (K nx L S' M) (K t L S' M)
        | _, _ => bot)
def a_goto.{u} {α : Sort u} (nx : Nat) (ax : List Nat) (cn : Int) (L S : List AV) (M : AM) (K : Nat → List AV → List AV → AM → α) (R : AV → AM → α) (C : Nat → List AV → Nat → List AV → Nat → α) (bot : α) : α := (match ax with
        | [t] => K t L S M
        | _ => bot)
def a_tableswitch.{u} {α : Sort u} (lo : Int) (nx : Nat) (ax : List Nat) (cn : Int) (L S : List AV) (M : AM) (K : Nat → List AV → List AV → AM → α) (R : AV → AM → α) (C : Nat → List AV → Nat → List AV → Nat → α) (bot : α) : α := (match S, ax with
        | (0, x) :: S', d :: ts => swK x lo d (fun t => K t L S' M) ts
        | _, _ => bot)
def a_lookupswitch.{u} {α : Sort u} (ps : Array (Int × Int)) (nx : Nat) (ax : List Nat) (cn : Int) (L S : List AV) (M : AM) (K : Nat → List AV → List AV → AM → α) (R : AV → AM → α) (C : Nat → List AV → Nat → List AV → Nat → α) (bot : α) : α := (match S, ax with
        | (0, x) :: S', d :: ts => lkK x d (fun t => K t L S' M) ps.toList ts
        | _, _ => bot)
def a_getfield.{u} {α : Sort u} (nx : Nat) (ax : List Nat) (cn : Int) (L S : List AV) (M : AM) (K : Nat → List AV → List AV → AM → α) (R : AV → AM → α) (C : Nat → List AV → Nat → List AV → Nat → α) (bot : α) : α := (match S, ax with
        | (2, a) :: S', [ci, k, t, _] => brK (Nat.beq (kd M.2.2 a) ci) ((brK (Nat.beq (t) 2) (K nx L (aR (M.2.1 a k) :: S') M) (K nx L ((t, M.1 a k) :: S') M))) (bot)
        | _, _ => bot)
def a_putfield.{u} {α : Sort u} (nx : Nat) (ax : List Nat) (cn : Int) (L S : List AV) (M : AM) (K : Nat → List AV → List AV → AM → α) (R : AV → AM → α) (C : Nat → List AV → Nat → List AV → Nat → α) (bot : α) : α := (match S, ax with
        | (t, x) :: (2, a) :: S', [ci, k, t', z] => brK ((Nat.beq (kd M.2.2 a) ci) && (decide (t = t'))) ((brK (Nat.beq (t) 2) (K nx L S' (M.1, up M.2.1 a k x, M.2.2)) (brK (decide (z = 0 ∨ x = 0 ∨ x = 1)) (K nx L S' (up M.1 a k x, M.2)) (bot)))) (bot)
        | _, _ => bot)
def a_arraylength.{u} {α : Sort u} (nx : Nat) (ax : List Nat) (cn : Int) (L S : List AV) (M : AM) (K : Nat → List AV → List AV → AM → α) (R : AV → AM → α) (C : Nat → List AV → Nat → List AV → Nat → α) (bot : α) : α := (match S with
        | (2, a) :: S' => brK (Nat.ble 50 (kd M.2.2 a) && Nat.ble (kd M.2.2 a) 55) (K nx L (aI (ln M.2.2 a) :: S') M) (bot)
        | _ => bot)
def a_iaload.{u} {α : Sort u} (nx : Nat) (ax : List Nat) (cn : Int) (L S : List AV) (M : AM) (K : Nat → List AV → List AV → AM → α) (R : AV → AM → α) (C : Nat → List AV → Nat → List AV → Nat → α) (bot : α) : α := (match S with
        | (0, j) :: (2, a) :: S' => brK ((Nat.beq (kd M.2.2 a) 50) || (Nat.beq (kd M.2.2 a) 55)) ((brK (decide (0 ≤ j ∧ j < ln M.2.2 a)) (K nx L (aI (M.1 a j) :: S') M) (bot))) (bot)
        | _ => bot)
def a_laload.{u} {α : Sort u} (nx : Nat) (ax : List Nat) (cn : Int) (L S : List AV) (M : AM) (K : Nat → List AV → List AV → AM → α) (R : AV → AM → α) (C : Nat → List AV → Nat → List AV → Nat → α) (bot : α) : α := (match S with
        | (0, j) :: (2, a) :: S' => brK (Nat.beq (kd M.2.2 a) 51) ((brK (decide (0 ≤ j ∧ j < ln M.2.2 a)) (K nx L (aL (M.1 a j) :: S') M) (bot))) (bot)
        | _ => bot)
def a_baload.{u} {α : Sort u} (nx : Nat) (ax : List Nat) (cn : Int) (L S : List AV) (M : AM) (K : Nat → List AV → List AV → AM → α) (R : AV → AM → α) (C : Nat → List AV → Nat → List AV → Nat → α) (bot : α) : α := (match S with
        | (0, j) :: (2, a) :: S' => brK ((Nat.beq (kd M.2.2 a) 52) || (Nat.beq (kd M.2.2 a) 53)) ((brK (decide (0 ≤ j ∧ j < ln M.2.2 a)) (K nx L (aI (M.1 a j) :: S') M) (bot))) (bot)
        | _ => bot)
def a_aaload.{u} {α : Sort u} (nx : Nat) (ax : List Nat) (cn : Int) (L S : List AV) (M : AM) (K : Nat → List AV → List AV → AM → α) (R : AV → AM → α) (C : Nat → List AV → Nat → List AV → Nat → α) (bot : α) : α := (match S with
        | (0, j) :: (2, a) :: S' => brK (Nat.beq (kd M.2.2 a) 54) ((brK (decide (0 ≤ j ∧ j < ln M.2.2 a)) (K nx L (aR (M.1 a j) :: S') M) (bot))) (bot)
        | _ => bot)
def a_iastore.{u} {α : Sort u} (nx : Nat) (ax : List Nat) (cn : Int) (L S : List AV) (M : AM) (K : Nat → List AV → List AV → AM → α) (R : AV → AM → α) (C : Nat → List AV → Nat → List AV → Nat → α) (bot : α) : α := (match S with
        | (0, x) :: (0, j) :: (2, a) :: S' => brK (Nat.beq (kd M.2.2 a) 50) ((brK (decide (0 ≤ j ∧ j < ln M.2.2 a)) (K nx L S' (up M.1 a j x, M.2)) (bot))) (bot)
        | _ => bot)
def a_lastore.{u} {α : Sort u} (nx : Nat) (ax : List Nat) (cn : Int) (L S : List AV) (M : AM) (K : Nat → List AV → List AV → AM → α) (R : AV → AM → α) (C : Nat → List AV → Nat → List AV → Nat → α) (bot : α) : α := (match S with
        | (1, x) :: (0, j) :: (2, a) :: S' => brK (Nat.beq (kd M.2.2 a) 51) ((brK (decide (0 ≤ j ∧ j < ln M.2.2 a)) (K nx L S' (up M.1 a j x, M.2)) (bot))) (bot)
        | _ => bot)
def a_bastore.{u} {α : Sort u} (nx : Nat) (ax : List Nat) (cn : Int) (L S : List AV) (M : AM) (K : Nat → List AV → List AV → AM → α) (R : AV → AM → α) (C : Nat → List AV → Nat → List AV → Nat → α) (bot : α) : α := (match S with
        | (0, x) :: (0, j) :: (2, a) :: S' => brK (Nat.beq (kd M.2.2 a) 52) ((brK (decide (0 ≤ j ∧ j < ln M.2.2 a)) (K nx L S' (up M.1 a j (w8 x), M.2)) (bot))) (brK (Nat.beq (kd M.2.2 a) 53) ((brK (decide ((x = 0 ∨ x = 1) ∧ 0 ≤ j ∧ j < ln M.2.2 a)) (K nx L S' (up M.1 a j x, M.2)) (bot))) (bot))
        | _ => bot)
def a_aastore.{u} {α : Sort u} (nx : Nat) (ax : List Nat) (cn : Int) (L S : List AV) (M : AM) (K : Nat → List AV → List AV → AM → α) (R : AV → AM → α) (C : Nat → List AV → Nat → List AV → Nat → α) (bot : α) : α := (match S with
        | (2, x) :: (0, j) :: (2, a) :: S' => brK (Nat.beq (kd M.2.2 a) 54) ((brK (decide (kd M.2.2 x = 7 ∧ 0 ≤ j ∧ j < ln M.2.2 a)) (K nx L S' (up M.1 a j x, M.2)) (brK (decide (x = 0 ∧ 0 ≤ j ∧ j < ln M.2.2 a)) (K nx L S' (up M.1 a j x, M.2)) (bot)))) (bot)
        | _ => bot)
def a_newarray.{u} {α : Sort u} (t : ArrayType) (nx : Nat) (ax : List Nat) (cn : Int) (L S : List AV) (M : AM) (K : Nat → List AV → List AV → AM → α) (R : AV → AM → α) (C : Nat → List AV → Nat → List AV → Nat → α) (bot : α) : α := (match S with
        | (0, n) :: S' => brK (decide (0 ≤ n ∧ n ≤ 10000)) (K nx L (aR M.2.2.length :: S') (zr M.1 M.2.2.length, M.2.1, M.2.2 ++ [(kindOf t, n)])) (bot)
        | _ => bot)
def a_anewarray.{u} {α : Sort u} (nx : Nat) (ax : List Nat) (cn : Int) (L S : List AV) (M : AM) (K : Nat → List AV → List AV → AM → α) (R : AV → AM → α) (C : Nat → List AV → Nat → List AV → Nat → α) (bot : α) : α := (match S with
        | (0, n) :: S' => brK (decide (0 ≤ n ∧ n ≤ 10000)) (K nx L (aR M.2.2.length :: S') (zr M.1 M.2.2.length, M.2.1, M.2.2 ++ [(54, n)])) (bot)
        | _ => bot)
def a_new.{u} {α : Sort u} (nx : Nat) (ax : List Nat) (cn : Int) (L S : List AV) (M : AM) (K : Nat → List AV → List AV → AM → α) (R : AV → AM → α) (C : Nat → List AV → Nat → List AV → Nat → α) (bot : α) : α := (match ax with
        | [ci, n] => K nx L (aR M.2.2.length :: S) (zr M.1 M.2.2.length, zr M.2.1 M.2.2.length, M.2.2 ++ [(ci, (n : Int))])
        | _ => bot)
def a_checkcast.{u} {α : Sort u} (nx : Nat) (ax : List Nat) (cn : Int) (L S : List AV) (M : AM) (K : Nat → List AV → List AV → AM → α) (R : AV → AM → α) (C : Nat → List AV → Nat → List AV → Nat → α) (bot : α) : α := (match S with
        | (2, a) :: S' => brK (Nat.beq (kd M.2.2 a) 50) (K nx L (aR a :: S') M) (bot)
        | _ => bot)
def a_invokestatic.{u} {α : Sort u} (nx : Nat) (ax : List Nat) (cn : Int) (L S : List AV) (M : AM) (K : Nat → List AV → List AV → AM → α) (R : AV → AM → α) (C : Nat → List AV → Nat → List AV → Nat → α) (bot : α) : α := callK nx ax L S M K C bot
def a_invokevirtual.{u} {α : Sort u} (nx : Nat) (ax : List Nat) (cn : Int) (L S : List AV) (M : AM) (K : Nat → List AV → List AV → AM → α) (R : AV → AM → α) (C : Nat → List AV → Nat → List AV → Nat → α) (bot : α) : α := callK nx ax L S M K C bot
def a_invokespecial.{u} {α : Sort u} (nx : Nat) (ax : List Nat) (cn : Int) (L S : List AV) (M : AM) (K : Nat → List AV → List AV → AM → α) (R : AV → AM → α) (C : Nat → List AV → Nat → List AV → Nat → α) (bot : α) : α := callK nx ax L S M K C bot
def a_ireturn.{u} {α : Sort u} (nx : Nat) (ax : List Nat) (cn : Int) (L S : List AV) (M : AM) (K : Nat → List AV → List AV → AM → α) (R : AV → AM → α) (C : Nat → List AV → Nat → List AV → Nat → α) (bot : α) : α := (match S with
        | [(0, x)] => brK (decide (cn = 0 ∨ x = 0 ∨ x = 1)) (R (aI x) M) (bot)
        | _ => bot)
def a_lreturn.{u} {α : Sort u} (nx : Nat) (ax : List Nat) (cn : Int) (L S : List AV) (M : AM) (K : Nat → List AV → List AV → AM → α) (R : AV → AM → α) (C : Nat → List AV → Nat → List AV → Nat → α) (bot : α) : α := (match S with
        | [(1, x)] => R (aL x) M
        | _ => bot)
def a_areturn.{u} {α : Sort u} (nx : Nat) (ax : List Nat) (cn : Int) (L S : List AV) (M : AM) (K : Nat → List AV → List AV → AM → α) (R : AV → AM → α) (C : Nat → List AV → Nat → List AV → Nat → α) (bot : α) : α := (match S with
        | [(2, x)] => R (aR x) M
        | _ => bot)
def a_return_.{u} {α : Sort u} (nx : Nat) (ax : List Nat) (cn : Int) (L S : List AV) (M : AM) (K : Nat → List AV → List AV → AM → α) (R : AV → AM → α) (C : Nat → List AV → Nat → List AV → Nat → α) (bot : α) : α := (match S with
        | [] => R aU M
        | _ => bot)
set_option maxHeartbeats 4000000 in
def actK.{u} {α : Sort u} (e : AE) (L S : List AV) (M : AM) (K : Nat → List AV → List AV → AM → α) (R : AV → AM → α) (C : Nat → List AV → Nat → List AV → Nat → α) (bot : α) : α := match e with
  | (i, nx, ax, cn) => match i with
    | .iconst n => a_iconst n nx ax cn L S M K R C bot
    | .bipush n => a_bipush n nx ax cn L S M K R C bot
    | .sipush n => a_sipush n nx ax cn L S M K R C bot
    | .lconst n => a_lconst n nx ax cn L S M K R C bot
    | .aconst_null => a_aconst_null nx ax cn L S M K R C bot
    | .ldc _ => a_ldc nx ax cn L S M K R C bot
    | .ldc_w _ => a_ldc_w nx ax cn L S M K R C bot
    | .ldc2_w _ => a_ldc2_w nx ax cn L S M K R C bot
    | .iload_n k => a_iload_n k nx ax cn L S M K R C bot
    | .iload k => a_iload k nx ax cn L S M K R C bot
    | .lload_n k => a_lload_n k nx ax cn L S M K R C bot
    | .lload k => a_lload k nx ax cn L S M K R C bot
    | .aload_n k => a_aload_n k nx ax cn L S M K R C bot
    | .aload k => a_aload k nx ax cn L S M K R C bot
    | .istore_n k => a_istore_n k nx ax cn L S M K R C bot
    | .istore k => a_istore k nx ax cn L S M K R C bot
    | .lstore_n k => a_lstore_n k nx ax cn L S M K R C bot
    | .lstore k => a_lstore k nx ax cn L S M K R C bot
    | .astore_n k => a_astore_n k nx ax cn L S M K R C bot
    | .astore k => a_astore k nx ax cn L S M K R C bot
    | .iinc k n => a_iinc k n nx ax cn L S M K R C bot
    | .iadd => a_iadd nx ax cn L S M K R C bot
    | .isub => a_isub nx ax cn L S M K R C bot
    | .imul => a_imul nx ax cn L S M K R C bot
    | .idiv => a_idiv nx ax cn L S M K R C bot
    | .irem => a_irem nx ax cn L S M K R C bot
    | .ineg => a_ineg nx ax cn L S M K R C bot
    | .iand => a_iand nx ax cn L S M K R C bot
    | .ior => a_ior nx ax cn L S M K R C bot
    | .ixor => a_ixor nx ax cn L S M K R C bot
    | .ishl => a_ishl nx ax cn L S M K R C bot
    | .ishr => a_ishr nx ax cn L S M K R C bot
    | .iushr => a_iushr nx ax cn L S M K R C bot
    | .ladd => a_ladd nx ax cn L S M K R C bot
    | .lsub => a_lsub nx ax cn L S M K R C bot
    | .lmul => a_lmul nx ax cn L S M K R C bot
    | .ldiv => a_ldiv nx ax cn L S M K R C bot
    | .lrem => a_lrem nx ax cn L S M K R C bot
    | .lneg => a_lneg nx ax cn L S M K R C bot
    | .lor => a_lor nx ax cn L S M K R C bot
    | .lshl => a_lshl nx ax cn L S M K R C bot
    | .lshr => a_lshr nx ax cn L S M K R C bot
    | .lcmp => a_lcmp nx ax cn L S M K R C bot
    | .i2l => a_i2l nx ax cn L S M K R C bot
    | .l2i => a_l2i nx ax cn L S M K R C bot
    | .i2b => a_i2b nx ax cn L S M K R C bot
    | .dup => a_dup nx ax cn L S M K R C bot
    | .dup2 => a_dup2 nx ax cn L S M K R C bot
    | .pop => a_pop nx ax cn L S M K R C bot
    | .ifCond c _ => a_ifCond c nx ax cn L S M K R C bot
    | .if_icmp c _ => a_if_icmp c nx ax cn L S M K R C bot
    | .ifnull _ => a_ifnull nx ax cn L S M K R C bot
    | .ifnonnull _ => a_ifnonnull nx ax cn L S M K R C bot
    | .goto _ => a_goto nx ax cn L S M K R C bot
    | .tableswitch _ lo _ _ => a_tableswitch lo nx ax cn L S M K R C bot
    | .lookupswitch _ ps => a_lookupswitch ps nx ax cn L S M K R C bot
    | .getfield _ => a_getfield nx ax cn L S M K R C bot
    | .putfield _ => a_putfield nx ax cn L S M K R C bot
    | .arraylength => a_arraylength nx ax cn L S M K R C bot
    | .iaload => a_iaload nx ax cn L S M K R C bot
    | .laload => a_laload nx ax cn L S M K R C bot
    | .baload => a_baload nx ax cn L S M K R C bot
    | .aaload => a_aaload nx ax cn L S M K R C bot
    | .iastore => a_iastore nx ax cn L S M K R C bot
    | .lastore => a_lastore nx ax cn L S M K R C bot
    | .bastore => a_bastore nx ax cn L S M K R C bot
    | .aastore => a_aastore nx ax cn L S M K R C bot
    | .newarray t => a_newarray t nx ax cn L S M K R C bot
    | .anewarray _ => a_anewarray nx ax cn L S M K R C bot
    | .new _ => a_new nx ax cn L S M K R C bot
    | .checkcast _ => a_checkcast nx ax cn L S M K R C bot
    | .invokestatic _ => a_invokestatic nx ax cn L S M K R C bot
    | .invokevirtual _ => a_invokevirtual nx ax cn L S M K R C bot
    | .invokespecial _ => a_invokespecial nx ax cn L S M K R C bot
    | .ireturn => a_ireturn nx ax cn L S M K R C bot
    | .lreturn => a_lreturn nx ax cn L S M K R C bot
    | .areturn => a_areturn nx ax cn L S M K R C bot
    | .return_ => a_return_ nx ax cn L S M K R C bot
    | _ => bot
end
