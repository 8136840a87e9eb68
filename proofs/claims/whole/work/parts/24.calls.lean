/-! RETURNS AND CALLS -/
noncomputable section
def RT (m pc : Nat) (r : AV) : Prop :=
  (r.1 = 0 ∧ decode (mB m) pc = .ok (.ireturn, 1) ∧ (mR m = some .int ∨ mR m = some .boolean ∧ (r.2 = 0 ∨ r.2 = 1))) ∨
  (r.1 = 1 ∧ decode (mB m) pc = .ok (.lreturn, 1) ∧ mR m = some .long) ∨
  (r.1 = 2 ∧ decode (mB m) pc = .ok (.areturn, 1) ∧ rtOf (mR m) = 3) ∨
  (r = aU ∧ decode (mB m) pc = .ok (.return_, 1) ∧ mR m = none)
/-- an answer r with the memory M is good -/
def RK (p : Program) (l : Launch) (e : Env) (R : Room) (s : State) (mid : MethodId) (args : Array Value) (below : List Frame) (meth : Method) (c : Code) (D : DD) (w : WD) (m k0 j0 : Nat) (Q : State → Prop) (r : AV) (M : AM) : Prop :=
  ∀ (H : Heap) (locs : List Loc) (cells slots : Nat) (ls : Array Slot) (pc : Nat), MR D w M H → (∀ q ∈ locs, w.2.2.1 ≤ q.base) → cells + k0 = M.2.2.length → slots + j0 = sl M.2.2 → okV r → RT m pc r → W p l e R s mid args below meth c H locs cells slots Q (F0 mid pc ls (rv w r).toList)
def Pc9 (D : DD) (w : WD) (As : List AV) (M : AM) : Array Value → State → Prop := fun a U => a = (As.map (cV w)).toArray ∧ MR D w M U.heap ∧ CX D w U
def Qc9 (D : DD) (w : WD) (y : Nat) (r : AV) (M : AM) : Array Value → State → Outcome → State → Prop := fun _ _ o t => o = .returned (rv w r) ∧ MR D w M t.heap ∧ okV r ∧ (mR y = none → r = aU)
theorem blind9 (D : DD) (w : WD) (As : List AV) (M : AM) : FrameBlind (Pc9 D w As M) := fun a U g mk h => ⟨h.1, h.2.1, h.2.2.same rfl⟩
theorem rt_3 {r : Option FieldType} (h : rtOf r = 3) : ∃ t, r = some t ∧ ((∃ n, t = .object n) ∨ ∃ u, t = .array u) := by
  cases r with
  | none => exact absurd h (by decide)
  | some t =>
    cases t with
    | object n => exact ⟨_, rfl, Or.inl ⟨n, rfl⟩⟩
    | array u => exact ⟨_, rfl, Or.inr ⟨u, rfl⟩⟩
    | _ => exact absurd h (by simp [rtOf])
theorem rt_0 {r : Option FieldType} (h : rtOf r = 0) : r = none := by
  cases r with
  | none => rfl
  | some t => cases t <;> exact absurd h (by simp [rtOf])
theorem rt_4 {r : Option FieldType} : rtOf r ≠ 4 := by
  cases r with
  | none => decide
  | some t => cases t <;> simp [rtOf]
/-- the words of a callee -/
def wsY (y : Nat) : List Cond := Cond.code (mN y) (mB y) (mX y) (mR y) :: gws
section
variable {p : Program} {l : Launch} {e : Env} {R : Room} {s : State} {mid : MethodId} {args : Array Value} {below : List Frame} {meth : Method} {c : Code} {D : DD} {w : WD} {m k0 j0 : Nat} {Q : State → Prop} {pc nx : Nat} {ax : List Nat} {cn : Int} {L S : List AV} {M : AM} {H : Heap} {locs : List Loc} {cells slots : Nat} {ls : Array Slot}
  {KK : Nat → List AV → List AV → AM → Prop} {CC : Nat → List AV → Nat → List AV → Nat → Prop}
theorem s_ireturn (hs : St D w m k0 j0 L S M H locs cells slots ls) (hd : decode (mB m) pc = .ok (.ireturn, 1)) (hk : chkI m pc (.ireturn, nx, ax, cn) = true) (h : a_ireturn nx ax cn L S M KK (RK p l e R s mid args below meth c D w m k0 j0 Q) CC False) : W p l e R s mid args below meth c H locs cells slots Q (F0 mid pc ls (S.map (cV w))) := by
  unfold a_ireturn at h
  split at h
  · rename_i x
    obtain ⟨hc, h⟩ := brK_b h
    simp only [chkI, decide_eq_true_eq] at hk hc
    exact h H locs cells slots ls pc hs.2.1 hs.2.2.2.1 hs.2.2.2.2.1 hs.2.2.2.2.2 (ok_h hs.2.2.1) (Or.inl ⟨rfl, hd, by
      rcases hk with ⟨k1, -⟩ | ⟨k1, k2⟩
      · exact Or.inl k1
      · rcases hc with q | q
        · rw [k2] at q; exact absurd q (by decide)
        · exact Or.inr ⟨k1, q⟩⟩)
  · exact h.elim
theorem s_lreturn (hs : St D w m k0 j0 L S M H locs cells slots ls) (hd : decode (mB m) pc = .ok (.lreturn, 1)) (hk : chkI m pc (.lreturn, nx, ax, cn) = true) (h : a_lreturn nx ax cn L S M KK (RK p l e R s mid args below meth c D w m k0 j0 Q) CC False) : W p l e R s mid args below meth c H locs cells slots Q (F0 mid pc ls (S.map (cV w))) := by
  unfold a_lreturn at h
  split at h
  · simp only [chkI, decide_eq_true_eq] at hk
    exact h H locs cells slots ls pc hs.2.1 hs.2.2.2.1 hs.2.2.2.2.1 hs.2.2.2.2.2 (ok_h hs.2.2.1) (Or.inr (Or.inl ⟨rfl, hd, hk⟩))
  · exact h.elim
theorem s_areturn (hs : St D w m k0 j0 L S M H locs cells slots ls) (hd : decode (mB m) pc = .ok (.areturn, 1)) (hk : chkI m pc (.areturn, nx, ax, cn) = true) (h : a_areturn nx ax cn L S M KK (RK p l e R s mid args below meth c D w m k0 j0 Q) CC False) : W p l e R s mid args below meth c H locs cells slots Q (F0 mid pc ls (S.map (cV w))) := by
  unfold a_areturn at h
  split at h
  · simp only [chkI] at hk
    exact h H locs cells slots ls pc hs.2.1 hs.2.2.2.1 hs.2.2.2.2.1 hs.2.2.2.2.2 (ok_h hs.2.2.1) (Or.inr (Or.inr (Or.inl ⟨rfl, hd, Nat.eq_of_beq_eq_true hk⟩)))
  · exact h.elim
theorem s_return_ (hs : St D w m k0 j0 L S M H locs cells slots ls) (hd : decode (mB m) pc = .ok (.return_, 1)) (hk : chkI m pc (.return_, nx, ax, cn) = true) (h : a_return_ nx ax cn L S M KK (RK p l e R s mid args below meth c D w m k0 j0 Q) CC False) : W p l e R s mid args below meth c H locs cells slots Q (F0 mid pc ls (S.map (cV w))) := by
  unfold a_return_ at h
  split at h
  · simp only [chkI, decide_eq_true_eq] at hk
    exact h H locs cells slots ls pc hs.2.1 hs.2.2.2.1 hs.2.2.2.2.1 hs.2.2.2.2.2 trivial (Or.inr (Or.inr (Or.inr ⟨rfl, hd, hk⟩)))
  · exact h.elim
/-- a method's end -/
theorem rk_meth (hf : Fr p s mid args meth c D w m) (hr : meth.sig.returnType = mR m) (hlocks : meth.locks = false) {r : AV} {mc ms : Nat} (e1 : mc + k0 = M.2.2.length) (e2 : ms + j0 = sl M.2.2) : RK p l e R s mid args below meth c D w m k0 j0 (MQ below (Qc9 D w m r M) args s mc ms (fun q => w.2.2.1 ≤ q)) r M := by
  obtain ⟨hx, hb, -⟩ := hf
  intro H locs cells slots ls pc hM hl hc hs ho hT
  obtain rfl : cells = mc := by omega
  obtain rfl : slots = ms := by omega
  obtain ⟨t, x⟩ := r
  rcases hT with ⟨h1, h2, h3⟩ | ⟨h1, h2, h3⟩ | ⟨h1, h2, h3⟩ | ⟨h1, h2, h3⟩
  · obtain rfl : t = 0 := h1
    rcases h3 with h3 | ⟨h3, h4⟩
    · exact W.iret (v := i32 x) hx hb (hr.trans h3) (fun t ht _ => ⟨rfl, by rw [ht]; exact hM, ho, fun q => by rw [q] at h3; cases h3⟩) hl h2 (hlocks := hlocks)
    · exact W.zret (v := i32 x) hx hb (hr.trans h3) (by rcases h4 with h4 | h4 <;> (have h4 : x = _ := h4; subst h4; decide)) (fun t ht _ => ⟨rfl, by rw [ht]; exact hM, ho, fun q => by rw [q] at h3; cases h3⟩) hl h2 (hlocks := hlocks)
  · obtain rfl : t = 1 := h1
    exact W.lret (v := i64 x) hx hb (hr.trans h3) (fun t ht _ => ⟨rfl, by rw [ht]; exact hM, ho, fun q => by rw [q] at h3; cases h3⟩) hl h2 (hlocks := hlocks)
  · obtain rfl : t = 2 := h1
    obtain ⟨rt, e3, e4⟩ := rt_3 h3
    exact W.aret (v := cR w x) hx hb (hr.trans e3) e4 (by unfold cR; split; exact Or.inl rfl; exact Or.inr ⟨_, rfl⟩) (fun t ht _ => ⟨rfl, by rw [ht]; exact hM, ho, fun q => by rw [q] at e3; cases e3⟩) hl h2 (hlocks := hlocks)
  · rw [h1]
    rw [h1] at ho
    exact W.vret hx hb (hr.trans h3) (fun t ht _ => ⟨rfl, by rw [ht]; exact hM, ho, fun _ => rfl⟩) hl h2 (hlocks := hlocks)
/-- a call goes well -/
def CK (p : Program) (l : Launch) (e : Env) (R : Room) (s : State) (mid : MethodId) (args : Array Value) (below : List Frame) (meth : Method) (c : Code) (D : DD) (w : WD) (m k0 j0 : Nat) (Q : State → Prop) (L : List AV) (M : AM) (y : Nat) (L' : List AV) (nx : Nat) (S' : List AV) (rt : Nat) : Prop :=
  ∃ (r1 : AV) (M1 : AM) (rm : Room), (rm.frames + 1 ≤ R.frames ∧ rm.locals + 60 ≤ R.locals ∧ rm.cells + M.2.2.length = M1.2.2.length ∧ rm.slots + sl M.2.2 = sl M1.2.2 ∧ M1.2.2.length ≤ k0 + R.cells ∧ sl M1.2.2 ≤ j0 + R.slots) ∧
    (∀ As : List AV, 0 < y ∧ y < 311 → L' = padTo (mX y) (expand As) → wsum As ≤ mX y → (∀ v ∈ As, okV v) → Met l (mN y) (wsY y) rm (Pc9 D w As M) (Qc9 D w y r1 M1) rm.cells rm.slots (fun q => w.2.2.1 ≤ q)) ∧
    retK rt r1 (fun S2 => KW p l e R s mid args below meth c D w m k0 j0 Q nx L S2 M1) S'
theorem call_tail {y rt : Nat} {r1 : AV} {M1 : AM} {mc ms : Nat} {S' : List AV} {A : Array Value} (hs : St D w m k0 j0 L S M H locs cells slots ls) (hS : ∀ v ∈ S', okV v) (em : mc + M.2.2.length = M1.2.2.length) (es : ms + sl M.2.2 = sl M1.2.2) (hrt : rt = rtOf (mR y))
    (hr : CallRun p l e R s mid args below meth c H locs cells slots mc ms (F0 mid pc ls (S.map (cV w))) (S'.map (cV w)) (Qc9 D w y r1 M1 A) (fun q => w.2.2.1 ≤ q))
    (hk : retK rt r1 (fun S2 => KW p l e R s mid args below meth c D w m k0 j0 Q (pc + 3) L S2 M1) S') : W p l e R s mid args below meth c H locs cells slots Q (F0 mid pc ls (S.map (cV w))) := by
  intro T hT X
  obtain ⟨v, st₀, t, T', L2, h0, X', hL, e1, ⟨hv, hM, ho, hnn⟩, st⟩ := hr T hT X
  obtain ⟨hL0, hM0, hS0, hl0, hc0, hs0⟩ := hs
  obtain rfl : v = rv w r1 := by injection hv
  have hl2 : ∀ q ∈ locs ++ L2, w.2.2.1 ≤ q.base := fun q hq => by
    rcases List.mem_append.mp hq with h | h
    · exact hl0 q h
    · exact hL q h
  cases rt with
  | zero =>
    have h3 := hnn (rt_0 hrt.symm)
    subst h3
    obtain ⟨t2, a1, b1⟩ := hk.2 t.heap (locs ++ L2) (cells + mc) (slots + ms) ls ⟨hL0, hM, hS, hl2, by omega, by omega⟩ T' e1 X'
    exact ⟨t2, st t2 a1, b1⟩
  | succ k =>
    obtain ⟨q1, hk⟩ := brK_b hk
    have q1 := Nat.eq_of_beq_eq_true q1
    have q2 : r1 = (k, r1.2) := Prod.ext q1 rfl
    have q3 : rv w r1 = some (cV w (k, r1.2)) := by
      unfold rv
      rw [if_neg (fun q => rt_4 (by rw [← hrt, ← q1, q])), ← q2]
    rw [q3] at st
    obtain ⟨t2, a1, b1⟩ := hk.2 t.heap (locs ++ L2) (cells + mc) (slots + ms) ls ⟨hL0, hM, ok_c (q2 ▸ ho) hS, hl2, by omega, by omega⟩ T' e1 X'
    exact ⟨t2, st t2 a1, b1⟩
end
theorem gws_goodIn (y : Nat) (h0 : 0 < y) (h : y < 311) : GoodIn gws (wsY y) := by
  have hc : Cond.code (mN y) (mB y) (mX y) (mR y) ∈ gws := gws_in (cd_all y h0 h) rfl
  intro wd hw
  rcases List.mem_cons.mp hw with h1 | h1
  · rw [h1]; exact ⟨hc, good_of_word (gws_good hc).2⟩
  · exact ⟨h1, good_of_word (gws_good h1).2⟩
set_option maxRecDepth 100000 in
theorem mX_all : (List.range 311).all (fun m => Nat.ble (mX m) 41) = true := by decide +kernel
theorem mX_le {m : Nat} (h : m < 311) : mX m ≤ 41 := Nat.le_of_ble_eq_true (List.all_eq_true.mp mX_all m (List.mem_range.mpr h))
end
