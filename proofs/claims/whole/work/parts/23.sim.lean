/-! THE SIMULATION: what my machine does, the JVM does -/
noncomputable section
def rv (w : WD) (r : AV) : Option Value := if r.1 = 3 then none else some (cV w r)
def rm9 (d mc ms : Nat) : Room := { frames := d + 5, cells := mc, slots := ms, locals := d * 60 + 120 }
/-- more cells, more places -/
def Gr (M M' : AM) : Prop := M.2.2.length ≤ M'.2.2.length ∧ sl M.2.2 ≤ sl M'.2.2
theorem Gr.rf (M : AM) : Gr M M := ⟨Nat.le_refl _, Nat.le_refl _⟩
theorem Gr.tr {M M1 M2 : AM} (h : Gr M M1) (h1 : Gr M1 M2) : Gr M M2 := ⟨Nat.le_trans h.1 h1.1, Nat.le_trans h.2 h1.2⟩
theorem Gr.same {M : AM} {σ rf : Int → Int → Int} : Gr M (σ, rf, M.2.2) := ⟨Nat.le_refl _, Nat.le_refl _⟩
theorem Gr.add {M : AM} {σ rf : Int → Int → Int} {q : Nat × Int} : Gr M (σ, rf, M.2.2 ++ [q]) := ⟨by simp, by show sl _ ≤ sl (M.2.2 ++ [q]); rw [sl_app]; omega⟩
theorem brK_T {b : Bool} {A B : Prop} (a : A) (h : B) : brK b A B := by cases b; exact h; exact a
theorem swK_T {x : Int} {d : Nat} {P : Nat → Prop} (h : ∀ t, P t) : ∀ {ts : List Nat} {lo : Int}, swK x lo d P ts
  | [], _ => h d
  | t :: _, _ => brK_T (h t) (swK_T h)
theorem lkK_T {x : Int} {d : Nat} {P : Nat → Prop} (h : ∀ t, P t) : ∀ {ps : List (Int × Int)} {ts : List Nat}, lkK x d P ps ts
  | [], _ => by unfold lkK; exact h d
  | _ :: _, [] => by unfold lkK; exact h d
  | _ :: _, t :: _ => brK_T (h t) (lkK_T h)
theorem ifK_T {c : Jvm.ClassFile.Cond} {x y : Int} {A B : Prop} (a : A) (b : B) : ifK c x y A B := by
  cases c <;> first | exact brK_T a b | exact brK_T b a
set_option maxHeartbeats 4000000 in
/-- a step makes cells at most -/
theorem act_grow (e : AE) (L S : List AV) (M : AM) : actK e L S M (fun _ _ _ M' => Gr M M') (fun _ M' => M' = M) (fun _ _ _ _ _ => True) True := by
  obtain ⟨i, nx, ax, cn⟩ := e
  cases i with
  | tableswitch d lo hi offs =>
    simp only [actK, a_tableswitch]
    split
    · exact swK_T (fun _ => Gr.rf M)
    · trivial
  | lookupswitch d ps =>
    simp only [actK, a_lookupswitch]
    split
    · exact lkK_T (fun _ => Gr.rf M)
    · trivial
  | ifCond c o =>
    simp only [actK, a_ifCond]
    split
    · exact ifK_T (Gr.rf M) (Gr.rf M)
    · trivial
  | if_icmp c o =>
    simp only [actK, a_if_icmp]
    split
    · exact ifK_T (Gr.rf M) (Gr.rf M)
    · trivial
  | _ =>
    first
      | trivial
      | exact Gr.rf M
      | (simp only [actK, a_iconst, a_bipush, a_sipush, a_lconst, a_aconst_null, a_ldc, a_ldc_w, a_ldc2_w, a_iload_n, a_iload, a_lload_n, a_lload, a_aload_n, a_aload, a_istore_n, a_istore, a_lstore_n, a_lstore, a_astore_n, a_astore, a_iinc, a_iadd, a_isub, a_imul, a_idiv, a_irem, a_ineg, a_iand, a_ior, a_ixor, a_ishl, a_ishr, a_iushr, a_ladd, a_lsub, a_lmul, a_ldiv, a_lrem, a_lneg, a_lor, a_lshl, a_lshr, a_lcmp, a_i2l, a_l2i, a_i2b, a_dup, a_dup2, a_pop, a_ifnull, a_ifnonnull, a_goto, a_getfield, a_putfield, a_arraylength, a_iaload, a_laload, a_baload, a_aaload, a_iastore, a_lastore, a_bastore, a_aastore, a_newarray, a_anewarray, a_new, a_checkcast, a_invokestatic, a_invokevirtual, a_invokespecial, a_ireturn, a_lreturn, a_areturn, a_return_, callK]
         repeat' (first | trivial | exact Gr.rf M | exact Gr.same | exact Gr.add | exact (rfl : M = M) | refine brK_T ?_ ?_ | split))
theorem act_next {e : AE} {L S : List AV} {M : AM} {p : Nat} {l s : List AV} {M1 : AM} (h : act e L S M = .inl (p, l, s, M1)) : Gr M M1 := by
  have := act_grow e L S M
  rw [actK_nat, h] at this
  exact this
theorem act_ret {e : AE} {L S : List AV} {M : AM} {r : AV} {M1 : AM} (h : act e L S M = .inr (.inl (r, M1))) : M1 = M := by
  have := act_grow e L S M
  rw [actK_nat, h] at this
  exact this
theorem wpF_grow : ∀ (n d m pc : Nat) (L S : List AV) (M : AM) (r : AV) (M' : AM), wpF n d m pc L S M (fun x y => x = r ∧ y = M') → Gr M M' := by
  intro n
  induction n with
  | zero => intro d m pc L S M r M' h; exact absurd h id
  | succ n ih =>
    intro d m pc L S M r M' h
    rw [wpF_s] at h
    cases ha : act (fetch m pc).1 (kL m pc L) S M with
    | inl q =>
      obtain ⟨p, l, s, M1⟩ := q
      rw [ha] at h
      exact (act_next ha).tr (ih _ _ _ _ _ _ _ _ h)
    | inr q =>
      cases q with
      | inl q =>
        obtain ⟨r1, M1⟩ := q
        rw [ha] at h
        obtain ⟨-, h⟩ := h
        rw [← h, act_ret ha]
        exact Gr.rf M
      | inr q =>
        cases q with
        | inl q =>
          obtain ⟨y, l, nx, s, rt⟩ := q
          rw [ha] at h
          cases d with
          | zero => exact absurd h id
          | succ d =>
            obtain ⟨r1, M1, h1, k1⟩ := wpF_det _ _ _ _ _ _ _ _ h
            obtain ⟨s2, h2, -⟩ := retK_at h1
            exact (ih _ _ _ _ _ _ _ _ (k1 _ ⟨rfl, rfl⟩)).tr (ih _ _ _ _ _ _ _ _ h2)
        | inr q => rw [ha] at h; exact absurd h id
/-- the entry of a method -/
theorem expand_len : ∀ (As : List AV), (expand As).length = wsum As
  | [] => rfl
  | v :: r => by
    unfold expand wsum
    cases h : Nat.beq v.1 1 with
    | true => show (expand r).length + 1 + 1 = 2 + wsum r; rw [expand_len r]; omega
    | false => show (expand r).length + 1 = 1 + wsum r; rw [expand_len r]; omega
theorem lg_len {w : WD} : ∀ (As : List AV), (lg_sl (As.map (cV w))).length = wsum As
  | [] => rfl
  | v :: r => by
    have ih := lg_len (w := w) r
    unfold wsum
    simp only [lg_sl, List.map_cons, List.flatMap_cons, List.length_append] at ih ⊢
    rw [ih, cV_cat]
    cases h : Nat.beq v.1 1 with
    | true =>
      have h1 : v.1 = 1 := Nat.eq_of_beq_eq_true h
      rw [if_pos h1]; rfl
    | false =>
      have h1 : v.1 ≠ 1 := fun q => by rw [q] at h; exact absurd h (by decide)
      rw [if_neg h1]; rfl
theorem lv_args_in {w : WD} {q : Nat × Value} : ∀ {As : List AV} {i : Nat}, q ∈ lvL w i (expand As) → q ∈ lv_args i (As.map (cV w))
  | [], i, h => by simp [expand, lvL] at h
  | v :: r, i, h => by
    rw [List.map_cons, lv_args, cV_cat]
    unfold expand at h
    cases hb : Nat.beq v.1 1 with
    | true =>
      rw [hb] at h
      have h1 := Nat.eq_of_beq_eq_true hb
      rw [if_pos h1, if_pos rfl]
      have h : q ∈ lvL w i (v :: a2 :: expand r) := h
      unfold lvL at h
      rw [if_pos (by omega)] at h
      rcases List.mem_cons.mp h with h | h
      · rw [h]; exact List.mem_cons_self
      · unfold lvL at h
        rw [if_neg (by decide)] at h
        exact List.mem_cons_of_mem _ (lv_args_in h)
    | false =>
      rw [hb] at h
      have h1 : v.1 ≠ 1 := fun q => by rw [q] at hb; exact absurd hb (by decide)
      rw [if_neg h1, if_neg (by decide)]
      have h : q ∈ lvL w i (v :: expand r) := h
      unfold lvL at h
      split at h
      · rcases List.mem_cons.mp h with h | h
        · rw [h]; exact List.mem_cons_self
        · exact List.mem_cons_of_mem _ (lv_args_in h)
      · exact List.mem_cons_of_mem _ (lv_args_in h)
theorem expand_ok : ∀ {As : List AV}, (∀ v ∈ As, okV v) → ∀ v ∈ expand As, okV v
  | [], _, v, h => by simp [expand] at h
  | u :: r, ho, v, h => by
    unfold expand at h
    cases hb : Nat.beq u.1 1 with
    | true =>
      rw [hb] at h
      have h : v ∈ u :: a2 :: expand r := h
      rcases List.mem_cons.mp h with h | h
      · rw [h]; exact ok_h ho
      · rcases List.mem_cons.mp h with h | h
        · rw [h]; trivial
        · exact expand_ok (ok_t ho) v h
    | false =>
      rw [hb] at h
      have h : v ∈ u :: expand r := h
      rcases List.mem_cons.mp h with h | h
      · rw [h]; exact ok_h ho
      · exact expand_ok (ok_t ho) v h
theorem entry_LR {w : WD} {As : List AV} {n : Nat} (h : wsum As ≤ n) (ho : ∀ v ∈ As, okV v) : LR w ((lg_sl (As.map (cV w)) ++ List.replicate (n - (lg_sl (As.map (cV w))).length) Slot.unset).toArray) n (padTo n (expand As)) := by
  have hl := lv_entry (As.map (cV w)) (n := n) (by rw [lg_len]; exact h)
  refine ⟨lv_mono hl fun q hq => lv_args_in ?_, ?_, fun v hv => ?_⟩
  · obtain ⟨k, v, h1, h2, h3⟩ := lvL_mem.mp hq
    unfold padTo at h1
    rcases Nat.lt_or_ge k (expand As).length with hk | hk
    · rw [List.getElem?_append_left hk] at h1
      exact lvL_mem.mpr ⟨k, v, h1, h2, h3⟩
    · rw [List.getElem?_append_right hk, List.getElem?_replicate] at h1
      split at h1
      · cases h1; exact absurd h2 (by decide)
      · cases h1
  · unfold padTo
    rw [List.length_append, List.length_replicate, expand_len]
    omega
  · unfold padTo at hv
    rcases List.mem_append.mp hv with hv | hv
    · exact expand_ok ho v hv
    · rw [(List.mem_replicate.mp hv).2]; trivial
end
