/-! WHAT EVERY FRAME KNOWS -/
noncomputable section
def gws : List Cond := lw_tbl.filter goodWord
theorem gws_in {wd : Cond} (h : wd ∈ tables_1) (hg : goodWord wd = true) : wd ∈ gws := List.mem_filter.mpr ⟨List.mem_append_right _ h, hg⟩
theorem gws_good {wd : Cond} (h : wd ∈ gws) : wd ∈ lw_tbl ∧ goodWord wd = true := List.mem_filter.mp h
theorem g_nat1 : goodWord (.native ⟨"java/lang/Object", "clone", "()Ljava/lang/Object;"⟩) = true := rfl
theorem g_same : goodWord (.sameMethod "[I" "java/lang/Object" "clone" "()Ljava/lang/Object;") = true := rfl
def sl : List (Nat × Int) → Nat
  | [] => 0
  | q :: r => q.2.toNat + sl r
theorem sl_app (a b : List (Nat × Int)) : sl (a ++ b) = sl a + sl b := by
  induction a with
  | nil => simp [sl]
  | cons q r ih => simp only [List.cons_append, sl, ih]; omega
def aty (k : Nat) : FieldType := match k with
  | 50 => .int
  | 51 => .long
  | 52 => .byte
  | 53 => .boolean
  | _ => .object "AgainstFeather$Text"
def spTx : String := "weight  sticks  lie     up      heart   deed    judge   lend    weigh   lay     yes     no      end     of      to      by      feather kind    size    seen    repaid  fear    bid     shown   laid    lies    kinds   hidden  deeds   "
/-- the String constant -/
def JS (w : WD) (zv : Nat) (U : State) (H : Heap) : Prop := vk_S 1 [232] [sp_text.map (fun n => Int32.ofNat n)] (fun _ => w.2.1) (fun _ => zv) (fun q => w.2.2.1 ≤ q) U H ∧
  va_Z "java/lang/String" "COMPACT_STRINGS" "Z" (.int 1) (fun q => w.2.2.1 ≤ q) U H ∧ va_Zq "jdk/internal/util/Preconditions" "SIOOBE_FORMATTER" "Ljava/util/function/BiFunction;" (fun q => w.2.2.1 ≤ q) U H
theorem JS.moved {w : WD} {zv : Nat} {u U : State} {H : Heap} (ha : u.vm.Alike U.vm) (h : JS w zv u H) : JS w zv U H := ⟨h.1.moved ha, h.2.1.moved ha, h.2.2.moved ha⟩
theorem JS.kept {w : WD} {zv : Nat} {U : State} {H H1 : Heap} (h : JS w zv U H) (hq : ∀ a : Nat, a < H.size → ¬ w.2.2.1 ≤ a → H1[a]? = H[a]?) : JS w zv U H1 := ⟨h.1.kept hq, h.2.1.kept hq, h.2.2.kept hq⟩
def ST (w : WD) (U : State) : Prop := vk_R "AgainstFeather$Tokens" 91 spTx w.2.1 U ∧ ∃ zv : Nat, JS w zv U w.2.2.2
/-- words that are not among the good ones -/
def nestW : List Cond := (nth nlT 0 []).map (fun q => Cond.methodLinkNest "AgainstFeather" q.1 (mN q.2.1) "AgainstFeather")
def CX (D : DD) (w : WD) (U : State) : Prop :=
  va_K (D.1, D.2.1) clsT [] U ∧ (∀ k : Nat, 50 ≤ k → k ≤ 54 → ArrOfT U (D.2.2 k) (aty k) ∧ va_RA U (D.2.2 k) (aty k)) ∧ (∀ scr : Cell, w.2.2.2[w.1]? = some scr → U.isArrayOf scr .int) ∧ ST w U ∧ (∀ q ∈ nth nlT 0 [], va_Nw (.methodLinkNest "AgainstFeather" q.1 (mN q.2.1) "AgainstFeather") U) ∧ va_Nw (.castable "[I" "java/lang/Cloneable") U ∧ va_AO "AgainstFeather$Text" U
theorem ST.warm {w : WD} {s U : State} (hW : s.WarmedH U.vm) (h : ST w s) : ST w U := by
  obtain ⟨h1, zv, h2⟩ := h
  exact ⟨h1.warm hW, zv, h2.moved hW.alike⟩
theorem CX.warm {D : DD} {w : WD} {s U : State} (hW : s.WarmedH U.vm) (h : CX D w s) : CX D w U := by
  obtain ⟨h1, h2, h3, h4, h5, h6, h7⟩ := h
  refine ⟨h1.moved hW.alike, fun k k1 k2 => ⟨arrOfT_moved hW.alike (h2 k k1 k2).1, (h2 k k1 k2).2.moved hW.alike⟩, fun scr hs => State.isArrayOf_alike hW.alike (h3 scr hs), h4.warm hW, fun q hq => (h5 q hq).warmM hW, h6.warmC hW, h7.moved hW.alike⟩
theorem CX.same {D : DD} {w : WD} {s U : State} (hv : U.vm = s.vm) (h : CX D w s) : CX D w U := by
  obtain ⟨h1, h2, h3, ⟨h4, zv, h7⟩, h5, h6, h8⟩ := h
  have ha : s.vm.Alike U.vm := by rw [hv]; exact Vm.Alike.refl _
  refine ⟨h1.moved ha, fun k k1 k2 => ⟨arrOfT_moved ha (h2 k k1 k2).1, (h2 k k1 k2).2.moved ha⟩, fun scr hs => State.isArrayOf_alike ha (h3 scr hs), ⟨h4.same hv, zv, h7.moved ha⟩, fun q hq => (h5 q hq).same rfl hv.symm, h6.same rfl hv.symm, h8.moved ha⟩
/-- a frame of method m -/
def Fr (p : Program) (s : State) (mid : MethodId) (args : Array Value) (meth : Method) (c : Code) (D : DD) (w : WD) (m : Nat) : Prop :=
  p.tables.exec = Jvm.exec ∧ c.code = mB m ∧ c.maxLocals = mX m ∧ s.vm.findClass (mO m) = some mid.cls ∧ (∀ wd ∈ gws, wd.before args s = true) ∧ CX D w s ∧ ((mt m).2.1 = "<init>" → meth.name = (mt m).2.1)
/-- its state -/
def St (D : DD) (w : WD) (m k0 j0 : Nat) (L S : List AV) (M : AM) (H : Heap) (locs : List Loc) (cells slots : Nat) (ls : Array Slot) : Prop :=
  LR w ls (mX m) L ∧ MR D w M H ∧ (∀ v ∈ S, okV v) ∧ (∀ q ∈ locs, w.2.2.1 ≤ q.base) ∧ cells + k0 = M.2.2.length ∧ slots + j0 = sl M.2.2
/-- what comes next goes well -/
def KW (p : Program) (l : Launch) (e : Env) (R : Room) (s : State) (mid : MethodId) (args : Array Value) (below : List Frame) (meth : Method) (c : Code) (D : DD) (w : WD) (m k0 j0 : Nat) (Q : State → Prop) (pc : Nat) (L S : List AV) (M : AM) : Prop :=
  (M.2.2.length ≤ k0 + R.cells ∧ sl M.2.2 ≤ j0 + R.slots) ∧ ∀ (H : Heap) (locs : List Loc) (cells slots : Nat) (ls : Array Slot), St D w m k0 j0 L S M H locs cells slots ls → W p l e R s mid args below meth c H locs cells slots Q (F0 mid pc ls (S.map (cV w)))
section
variable {p : Program} {l : Launch} {e : Env} {R : Room} {s : State} {mid : MethodId} {args : Array Value} {below : List Frame} {meth : Method} {c : Code} {D : DD} {w : WD} {m k0 j0 : Nat} {Q : State → Prop} {pc nx : Nat} {L L2 S S2 : List AV} {M : AM} {H : Heap} {locs : List Loc} {cells slots : Nat} {ls : Array Slot}
theorem st_go (h : KW p l e R s mid args below meth c D w m k0 j0 Q nx L S2 M) (hs : St D w m k0 j0 L S M H locs cells slots ls) (hS : ∀ v ∈ S2, okV v) : W p l e R s mid args below meth c H locs cells slots Q (F0 mid nx ls (S2.map (cV w))) :=
  h.2 H locs cells slots ls ⟨hs.1, hs.2.1, hS, hs.2.2.2⟩
theorem st_goL {ls2 : Array Slot} (h : KW p l e R s mid args below meth c D w m k0 j0 Q nx L2 S2 M) (hs : St D w m k0 j0 L S M H locs cells slots ls) (hL : LR w ls2 (mX m) L2) (hS : ∀ v ∈ S2, okV v) : W p l e R s mid args below meth c H locs cells slots Q (F0 mid nx ls2 (S2.map (cV w))) :=
  h.2 H locs cells slots ls2 ⟨hL, hs.2.1, hS, hs.2.2.2⟩
end
theorem ok_c {v : AV} {S : List AV} (hv : okV v) (hS : ∀ u ∈ S, okV u) : ∀ u ∈ v :: S, okV u := List.forall_mem_cons.mpr ⟨hv, hS⟩
theorem ok_h {v : AV} {S : List AV} (h : ∀ u ∈ v :: S, okV u) : okV v := (List.forall_mem_cons.mp h).1
theorem ok_t {v : AV} {S : List AV} (h : ∀ u ∈ v :: S, okV u) : ∀ u ∈ S, okV u := (List.forall_mem_cons.mp h).2
end
