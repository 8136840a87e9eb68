/-! the links stand in the tables -/
theorem nth_out {α : Type} : ∀ (l : List α) (n : Nat) (d : α), l.length ≤ n → nth l n d = d
  | [], _, _, _ => rfl
  | _ :: r, 0, d, h => absurd h (by simp)
  | _ :: r, n + 1, d, h => nth_out r n d (by simpa using h)
theorem nth_in {α : Type} : ∀ (l : List α) (n : Nat) (d : α), n < l.length → l[n]? = some (nth l n d)
  | [], _, _, h => absurd h (by simp)
  | x :: r, 0, d, h => rfl
  | _ :: r, n + 1, d, h => by
    rw [List.getElem?_cons_succ]
    exact nth_in r n d (by simpa using h)
theorem nth_all {α : Type} {l : List (List α)} {p : Nat → α → Bool} (N : Nat) (hN : l.length ≤ N) (h : (List.range N).all (fun o => (nth l o []).all (p o)) = true) (o : Nat) (q : α) (hq : q ∈ nth l o []) : p o q = true := by
  rcases Nat.lt_or_ge o N with ho | ho
  · exact List.all_eq_true.mp (List.all_eq_true.mp h o (List.mem_range.mpr ho)) q hq
  · rw [nth_out l o [] (by omega)] at hq
    exact absurd hq List.not_mem_nil
def tbAt (i : Nat) (w : Cond) : Bool := decide (tables_1[i]? = some w) && goodWord w
theorem tb_mem {i : Nat} {w : Cond} (h : tbAt i w = true) : w ∈ tables_1 ∧ goodWord w = true := by
  simp only [tbAt, Bool.and_eq_true, decide_eq_true_eq] at h
  exact ⟨List.mem_of_getElem? h.1, h.2⟩
def flP (o : Nat) (q : Nat × Nat × Nat × Nat) : Bool := tbAt q.2.2.2 (.fieldLink (nth owN o "") q.1 (nth clN q.2.1 "") (fd q.2.1 q.2.2.1).1 (fd q.2.1 q.2.2.1).2.1) && Nat.blt q.2.1 13 && Nat.blt q.2.2.1 (nF q.2.1)
set_option maxRecDepth 100000 in
theorem flT_ok : (List.range 16).all (fun o => (nth flT o []).all (flP o)) = true := by decide +kernel
def mlP (o : Nat) (q : Nat × Nat × Nat) : Bool := tbAt q.2.2 (.methodLink (nth owN o "") q.1 (mN q.2.1)) && Nat.blt q.2.1 311 && Nat.blt 0 q.2.1
set_option maxRecDepth 100000 in
theorem mlT_ok : (List.range 16).all (fun o => (nth mlT o []).all (mlP o)) = true := by decide +kernel
def nlP (o : Nat) (q : Nat × Nat × Nat) : Bool := decide (tables_1[q.2.2]? = some (.methodLinkNest (nth owN o "") q.1 (mN q.2.1) "AgainstFeather")) && Nat.blt q.2.1 311 && Nat.blt 0 q.2.1
set_option maxRecDepth 100000 in
theorem nlT_ok : (List.range 16).all (fun o => (nth nlT o []).all (nlP o)) = true := by decide +kernel
def nvN (k : Nat) : MethodName := match k with
  | 1000 => ⟨"java/lang/Object", "<init>", "()V"⟩
  | 1001 => ⟨"java/lang/System", "arraycopy", "(Ljava/lang/Object;ILjava/lang/Object;II)V"⟩
  | 1002 => ⟨"[I", "clone", "()Ljava/lang/Object;"⟩
  | 1003 => ⟨"java/lang/String", "length", "()I"⟩
  | 1004 => ⟨"java/lang/String", "charAt", "(I)C"⟩
  | 1005 => ⟨"java/lang/Math", "min", "(II)I"⟩
  | 1006 => ⟨"java/lang/Math", "max", "(II)I"⟩
  | _ => ⟨"java/lang/Math", "abs", "(I)I"⟩
def vlP (o : Nat) (q : Nat × Nat × Nat) : Bool := tbAt q.2.2 (.methodLink (nth owN o "") q.1 (nvN q.2.1))
set_option maxRecDepth 100000 in
theorem vlT_ok : (List.range 16).all (fun o => (nth vlT o []).all (vlP o)) = true := by decide +kernel
def clP (o : Nat) (q : Nat × Int × Nat) : Bool := tbAt q.2.2 (.constant (nth owN o "") q.1 (Int32.ofInt q.2.1)) && decide (-2147483648 ≤ q.2.1 ∧ q.2.1 < 2147483648)
set_option maxRecDepth 100000 in
theorem clT_ok : (List.range 16).all (fun o => (nth clT o []).all (clP o)) = true := by decide +kernel
def dlP (o : Nat) (q : Nat × Int × Nat) : Bool := tbAt q.2.2 (.constantLong (nth owN o "") q.1 (Int64.ofInt q.2.1)) && decide (-9223372036854775808 ≤ q.2.1 ∧ q.2.1 < 9223372036854775808)
set_option maxRecDepth 100000 in
theorem dlT_ok : (List.range 16).all (fun o => (nth dlT o []).all (dlP o)) = true := by decide +kernel
def klP (o : Nat) (q : Nat × Nat × Nat) : Bool := tbAt q.2.2 (.classLink (nth owN o "") q.1 (nth clN q.2.1 "")) && Nat.blt q.2.1 13
set_option maxRecDepth 100000 in
theorem klT_ok : (List.range 16).all (fun o => (nth klT o []).all (klP o)) = true := by decide +kernel
/-- a method's own words -/
def mpP (m : Nat) : Bool := tbAt (mp m).2.1 (.initialized (mO m)) && (bif (mt m).2.2.2.2.2 then tbAt (mp m).2.2.1 (.static (mN m)) else tbAt (mp m).2.2.1 (.instanceMethod (mN m)) && (bif decide ((mN m).name = "<init>") then true else decide (lw_tbl[(mp m).2.2.2]? = some (.selects (mO m) (mN m) (mN m)))))
  && plainName (mN m).cls && decide ((mN m).cls ≠ "java/lang/invoke/MethodHandle") && decide ((mN m).cls ≠ "java/lang/invoke/VarHandle")
set_option maxRecDepth 100000 in
theorem mp_ok1 : (List.range 110).all (fun m => mpP (m + 1)) = true := by decide +kernel
set_option maxRecDepth 100000 in
theorem mp_ok2 : (List.range 100).all (fun m => mpP (m + 111)) = true := by decide +kernel
set_option maxRecDepth 100000 in
theorem mp_ok3 : (List.range 100).all (fun m => mpP (m + 211)) = true := by decide +kernel
theorem mp_ok {m : Nat} (h0 : 0 < m) (h : m < 311) : mpP m = true := by
  rcases Nat.lt_or_ge m 111 with h1 | h1
  · have := List.all_eq_true.mp mp_ok1 (m - 1) (List.mem_range.mpr (by omega))
    rwa [show m - 1 + 1 = m by omega] at this
  · rcases Nat.lt_or_ge m 211 with h2 | h2
    · have := List.all_eq_true.mp mp_ok2 (m - 111) (List.mem_range.mpr (by omega))
      rwa [show m - 111 + 111 = m by omega] at this
    · have := List.all_eq_true.mp mp_ok3 (m - 211) (List.mem_range.mpr (by omega))
      rwa [show m - 211 + 211 = m by omega] at this
/-- a class's words -/
def kpP (ci : Nat) : Bool := tbAt (nth kpT ci (0, 0, [])).1 (.instantiable (nth clN ci "") (nF ci)) && tbAt (nth kpT ci (0, 0, [])).2.1 (.initialized (nth clN ci "")) && (List.range (nF ci)).all (fun k => tbAt (nth (nth kpT ci (0, 0, [])).2.2 k 0) (u_lay (nth clN ci "") (fT ci) k) && decide (parseFieldDescriptor (fT ci k).2.2.1 = some (fY ci k)) && (List.range (nF ci)).all (fun j => Nat.beq j k || !decide ((fT ci k).2.1 = (fT ci j).2.1)))
set_option maxRecDepth 100000 in
theorem kp_ok : (List.range 13).all kpP = true := by decide +kernel
set_option maxRecDepth 100000 in
theorem cls_at : ∀ ci, ci < 13 → clsT[ci]? = some (nth clN ci "", fT ci, nF ci) := fun ci h => by
  match ci, h with
  | 0, _ => rfl
  | 1, _ => rfl
  | 2, _ => rfl
  | 3, _ => rfl
  | 4, _ => rfl
  | 5, _ => rfl
  | 6, _ => rfl
  | 7, _ => rfl
  | 8, _ => rfl
  | 9, _ => rfl
  | 10, _ => rfl
  | 11, _ => rfl
  | 12, _ => rfl
