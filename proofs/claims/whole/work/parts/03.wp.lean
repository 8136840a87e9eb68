noncomputable section
/-! THE MACHINE'S RUNS -/
abbrev Ac : Type := (Nat × List AV × List AV × AM) ⊕ (AV × AM) ⊕ (Nat × List AV × Nat × List AV × Nat) ⊕ Unit
abbrev act (e : AE) (L S : List AV) (M : AM) : Ac := actK e L S M (fun p l s m => .inl (p, l, s, m)) (fun r m => .inr (.inl (r, m))) (fun y l n s t => .inr (.inr (.inl (y, l, n, s, t)))) (.inr (.inr (.inr ())))
def elA.{u} {α : Sort u} (a : Ac) (K : Nat → List AV → List AV → AM → α) (R : AV → AM → α) (C : Nat → List AV → Nat → List AV → Nat → α) (bot : α) : α := match a with
  | .inl q => K q.1 q.2.1 q.2.2.1 q.2.2.2
  | .inr (.inl q) => R q.1 q.2
  | .inr (.inr (.inl q)) => C q.1 q.2.1 q.2.2.1 q.2.2.2.1 q.2.2.2.2
  | .inr (.inr (.inr _)) => bot
theorem elA_br.{u} {α : Sort u} (b : Bool) (x y : Ac) (K : Nat → List AV → List AV → AM → α) (R : AV → AM → α) (C : Nat → List AV → Nat → List AV → Nat → α) (bot : α) : elA (brK b x y) K R C bot = brK b (elA x K R C bot) (elA y K R C bot) := by cases b <;> rfl
theorem swK_nat.{u} {α : Sort u} (x : Int) (d : Nat) (f : Nat → Ac) (K : Nat → List AV → List AV → AM → α) (R : AV → AM → α) (C : Nat → List AV → Nat → List AV → Nat → α) (bot : α) : ∀ (ts : List Nat) (lo : Int), swK x lo d (fun t => elA (f t) K R C bot) ts = elA (swK x lo d f ts) K R C bot
  | [], lo => rfl
  | t :: ts, lo => by
    rw [swK, swK, elA_br, swK_nat x d f K R C bot ts (lo + 1)]
theorem lkK_nat.{u} {α : Sort u} (x : Int) (d : Nat) (f : Nat → Ac) (K : Nat → List AV → List AV → AM → α) (R : AV → AM → α) (C : Nat → List AV → Nat → List AV → Nat → α) (bot : α) : ∀ (ps : List (Int × Int)) (ts : List Nat), lkK x d (fun t => elA (f t) K R C bot) ps ts = elA (lkK x d f ps ts) K R C bot
  | [], _ => by simp only [lkK]
  | _ :: _, [] => by simp only [lkK]
  | p :: ps, t :: ts => by
    rw [lkK, lkK, elA_br, lkK_nat x d f K R C bot ps ts]
set_option maxHeartbeats 8000000 in
theorem actK_nat.{u} {α : Sort u} (e : AE) (L S : List AV) (M : AM) (K : Nat → List AV → List AV → AM → α) (R : AV → AM → α) (C : Nat → List AV → Nat → List AV → Nat → α) (bot : α) : actK e L S M K R C bot = elA (act e L S M) K R C bot := by
  obtain ⟨i, nx, ax, cn⟩ := e
  cases i with
  | tableswitch d lo hi offs =>
    simp only [act, actK, a_tableswitch]
    split
    · rename_i x S' d2 ts
      exact (swK_nat x d2 (fun t => .inl (t, L, S', M)) K R C bot ts lo)
    · rfl
  | lookupswitch d ps =>
    simp only [act, actK, a_lookupswitch]
    split
    · rename_i x S' d2 ts
      exact (lkK_nat x d2 (fun t => .inl (t, L, S', M)) K R C bot ps.toList ts)
    · rfl
  | ifCond c o =>
    simp only [act, actK, a_ifCond]
    split
    · cases c <;> simp only [ifK, elA_br] <;> rfl
    · rfl
  | if_icmp c o =>
    simp only [act, actK, a_if_icmp]
    split
    · cases c <;> simp only [ifK, elA_br] <;> rfl
    · rfl
  | invokestatic k =>
    simp only [act, actK, callK, a_invokestatic, a_invokevirtual, a_invokespecial]
    (repeat' split) <;> (first | rfl | (simp only [elA_br]; rfl))
  | invokevirtual k =>
    simp only [act, actK, callK, a_invokestatic, a_invokevirtual, a_invokespecial]
    (repeat' split) <;> (first | rfl | (simp only [elA_br]; rfl))
  | invokespecial k =>
    simp only [act, actK, callK, a_invokestatic, a_invokevirtual, a_invokespecial]
    (repeat' split) <;> (first | rfl | (simp only [elA_br]; rfl))
  | _ => first | rfl | (simp only [act, actK, a_iconst, a_bipush, a_sipush, a_lconst, a_aconst_null, a_ldc, a_ldc_w, a_ldc2_w, a_iload_n, a_iload, a_lload_n, a_lload, a_aload_n, a_aload, a_istore_n, a_istore, a_lstore_n, a_lstore, a_astore_n, a_astore, a_iinc, a_iadd, a_isub, a_imul, a_idiv, a_irem, a_ineg, a_iand, a_ior, a_ixor, a_ishl, a_ishr, a_iushr, a_ladd, a_lsub, a_lmul, a_ldiv, a_lrem, a_lneg, a_lor, a_lshl, a_lshr, a_lcmp, a_i2l, a_l2i, a_i2b, a_dup, a_dup2, a_pop, a_ifnull, a_ifnonnull, a_goto, a_getfield, a_putfield, a_arraylength, a_iaload, a_laload, a_baload, a_aaload, a_iastore, a_lastore, a_bastore, a_aastore, a_newarray, a_anewarray, a_new, a_checkcast, a_ireturn, a_lreturn, a_areturn, a_return_]; (repeat' split) <;> (first | rfl | (simp only [elA_br]; rfl)))
/-- what a place forgets of the locals -/
def kl : List Nat → List AV → List AV
  | [], L => L
  | k :: ks, L => kl ks (L.set k aU)
abbrev kL (m pc : Nat) (L : List AV) : List AV := kl (fetch m pc).2 L
def retK (rt : Nat) (r : AV) (k : List AV → Prop) (S : List AV) : Prop := match rt with
  | 0 => k S
  | t + 1 => brK (Nat.beq r.1 t) (k ((t, r.2) :: S)) False
def wpF : Nat → Nat → Nat → Nat → List AV → List AV → AM → (AV → AM → Prop) → Prop
  | 0, _, _, _, _, _, _, _ => False
  | n + 1, d, m, pc, L, S, M, Q => actK (fetch m pc).1 (kL m pc L) S M (fun pc' L' S' M' => wpF n d m pc' L' S' M' Q) Q
      (fun y L' nx S' rt => match d with
        | 0 => False
        | d' + 1 => wpF n d' y 0 L' [] M (fun r M' => retK rt r (fun S2 => wpF n (d' + 1) m nx (kL m pc L) S2 M' Q) S')) False
def wp (d m pc : Nat) (L S : List AV) (M : AM) (Q : AV → AM → Prop) : Prop := ∃ n, wpF n d m pc L S M Q
theorem retK_mono {rt : Nat} {r : AV} {k k' : List AV → Prop} {S : List AV} (h : ∀ s, k s → k' s) (hk : retK rt r k S) : retK rt r k' S := by
  unfold retK at hk ⊢
  cases rt with
  | zero => exact h _ hk
  | succ t =>
    dsimp only at hk ⊢
    cases hb : Nat.beq r.1 t <;> rw [hb] at hk
    · exact hk.elim
    · exact h _ hk
theorem retK_at {rt : Nat} {r : AV} {k : List AV → Prop} {S : List AV} (hk : retK rt r k S) : ∃ s, k s ∧ ∀ k' : List AV → Prop, k' s → retK rt r k' S := by
  unfold retK at hk ⊢
  cases rt with
  | zero => exact ⟨S, hk, fun _ h => h⟩
  | succ t =>
    dsimp only at hk ⊢
    cases hb : Nat.beq r.1 t <;> rw [hb] at hk
    · exact hk.elim
    · exact ⟨_, hk, fun k' h => h⟩
theorem wpF_s (n d m pc : Nat) (L S : List AV) (M : AM) (Q : AV → AM → Prop) : wpF (n + 1) d m pc L S M Q = elA (act (fetch m pc).1 (kL m pc L) S M) (fun pc' L' S' M' => wpF n d m pc' L' S' M' Q) Q
      (fun y L' nx S' rt => match d with
        | 0 => False
        | d' + 1 => wpF n d' y 0 L' [] M (fun r M' => retK rt r (fun S2 => wpF n (d' + 1) m nx (kL m pc L) S2 M' Q) S')) False := by
  rw [wpF]; exact actK_nat _ _ _ _ _ _ _ _
/-- a run has one end -/
theorem wpF_det : ∀ (n d m pc : Nat) (L S : List AV) (M : AM) (Q : AV → AM → Prop), wpF n d m pc L S M Q → ∃ r M', Q r M' ∧ ∀ Q' : AV → AM → Prop, Q' r M' → wpF n d m pc L S M Q' := by
  intro n
  induction n with
  | zero => intro d m pc L S M Q h; exact absurd h id
  | succ n ih =>
    intro d m pc L S M Q h
    simp only [wpF_s] at h ⊢
    generalize act (fetch m pc).1 (kL m pc L) S M = a at h ⊢
    rcases a with ⟨p, l, s, M1⟩ | ⟨r, M1⟩ | ⟨y, l, nx, s, rt⟩ | _
    · exact ih _ _ _ _ _ _ _ h
    · exact ⟨r, M1, h, fun _ h => h⟩
    · cases d with
      | zero => exact absurd h id
      | succ d =>
        obtain ⟨r1, M1, h1, k1⟩ := ih _ _ _ _ _ _ _ h
        obtain ⟨s2, h2, k2⟩ := retK_at h1
        obtain ⟨r3, M3, h3, k3⟩ := ih _ _ _ _ _ _ _ h2
        exact ⟨r3, M3, h3, fun Q' hq => k1 _ (k2 _ (k3 _ hq))⟩
    · exact absurd h id
theorem wpF_Q {n d m pc : Nat} {L S : List AV} {M : AM} {Q Q' : AV → AM → Prop} (hq : ∀ r M', Q r M' → Q' r M') (h : wpF n d m pc L S M Q) : wpF n d m pc L S M Q' := by
  obtain ⟨r, M', h1, k⟩ := wpF_det _ _ _ _ _ _ _ _ h
  exact k _ (hq _ _ h1)
theorem wpF_up : ∀ (n d m pc : Nat) (L S : List AV) (M : AM) (Q : AV → AM → Prop), wpF n d m pc L S M Q → wpF (n + 1) d m pc L S M Q := by
  intro n
  induction n with
  | zero => intro d m pc L S M Q h; exact absurd h id
  | succ n ih =>
    intro d m pc L S M Q h
    rw [wpF_s] at h ⊢
    generalize act (fetch m pc).1 (kL m pc L) S M = a at h ⊢
    rcases a with ⟨p, l, s, M1⟩ | ⟨r, M1⟩ | ⟨y, l, nx, s, rt⟩ | _
    · exact ih _ _ _ _ _ _ _ h
    · exact h
    · cases d with
      | zero => exact absurd h id
      | succ d =>
        exact wpF_Q (fun r M' h => retK_mono (fun s h => ih _ _ _ _ _ _ _ h) h) (ih _ _ _ _ _ _ _ h)
    · exact absurd h id
theorem wpF_le {n n' d m pc : Nat} {L S : List AV} {M : AM} {Q : AV → AM → Prop} (hn : n ≤ n') (h : wpF n d m pc L S M Q) : wpF n' d m pc L S M Q := by
  obtain ⟨k, rfl⟩ := Nat.le.dest hn
  clear hn
  induction k with
  | zero => exact h
  | succ k ih => exact wpF_up _ _ _ _ _ _ _ _ ih
theorem wp_Q {d m pc : Nat} {L S : List AV} {M : AM} {Q Q' : AV → AM → Prop} (hq : ∀ r M', Q r M' → Q' r M') (h : wp d m pc L S M Q) : wp d m pc L S M Q' := by
  obtain ⟨n, h⟩ := h
  exact ⟨n, wpF_Q hq h⟩
/-- one step: the rule of every instruction -/
theorem wp_u {d m pc : Nat} {L S : List AV} {M : AM} {Q : AV → AM → Prop} (h : actK (fetch m pc).1 (kL m pc L) S M (fun pc' L' S' M' => wp d m pc' L' S' M' Q) Q
      (fun y L' nx S' rt => match d with
        | 0 => False
        | d' + 1 => wp d' y 0 L' [] M (fun r M' => retK rt r (fun S2 => wp (d' + 1) m nx (kL m pc L) S2 M' Q) S')) False) : wp d m pc L S M Q := by
  rw [actK_nat] at h
  show ∃ n, wpF n d m pc L S M Q
  suffices q : ∃ n, wpF (n + 1) d m pc L S M Q by
    obtain ⟨n, q⟩ := q
    exact ⟨_, q⟩
  simp only [wpF_s]
  generalize act (fetch m pc).1 (kL m pc L) S M = a at h ⊢
  rcases a with ⟨p, l, s, M1⟩ | ⟨r, M1⟩ | ⟨y, l, nx, s, rt⟩ | _
  · exact h
  · exact ⟨0, h⟩
  · cases d with
    | zero => exact absurd h id
    | succ d =>
      obtain ⟨n1, h1⟩ := h
      obtain ⟨r1, M1, h2, k1⟩ := wpF_det _ _ _ _ _ _ _ _ h1
      obtain ⟨s2, ⟨n2, h3⟩, k2⟩ := retK_at h2
      refine ⟨n1 + n2, ?_⟩
      exact wpF_le (Nat.le_add_right _ _) (k1 _ (k2 _ (wpF_le (Nat.le_add_left _ _) h3)))
  · exact absurd h id
def inC : List (Nat × Nat) → Nat → Nat → Bool
  | [], _, _ => false
  | q :: r, m, pc => bif Nat.beq q.2 pc then (bif Nat.beq q.1 m then true else inC r m pc) else inC r m pc
def inN : List Nat → Nat → Bool
  | [], _ => false
  | q :: r, m => bif Nat.beq q m then true else inN r m
/-- many steps, told by computing: the places in cut are left, calls of the methods in inl are gone through -/
def wpn : Nat → List (Nat × Nat) → List Nat → Nat → Nat → Nat → List AV → List AV → AM → (AV → AM → Prop) → Prop
  | 0, _, _, d, m, pc, L, S, M, Q => wp d m pc L S M Q
  | n + 1, cut, inl, d, m, pc, L, S, M, Q => actK (fetch m pc).1 (kL m pc L) S M (fun pc' L' S' M' => brK (inC cut m pc') (wp d m pc' L' S' M' Q) (wpn n cut inl d m pc' L' S' M' Q)) Q
      (fun y L' nx S' rt => match d with
        | 0 => False
        | d' + 1 => brK (inN inl y) (wpn n cut inl d' y 0 L' [] M (fun r M' => retK rt r (fun S2 => wpn n cut inl (d' + 1) m nx (kL m pc L) S2 M' Q) S')) (wp d' y 0 L' [] M (fun r M' => retK rt r (fun S2 => wp (d' + 1) m nx (kL m pc L) S2 M' Q) S'))) False
theorem wpn_0 : ∀ (n : Nat) (cut : List (Nat × Nat)) (inl : List Nat) (d m pc : Nat) (L S : List AV) (M : AM) (Q : AV → AM → Prop), wpn n cut inl d m pc L S M Q → wp d m pc L S M Q := by
  intro n cut inl
  induction n with
  | zero => intro d m pc L S M Q h; exact h
  | succ n ih =>
    intro d m pc L S M Q h
    rw [wpn, actK_nat] at h
    refine wp_u ?_
    rw [actK_nat]
    generalize act (fetch m pc).1 (kL m pc L) S M = a at h ⊢
    rcases a with ⟨p, l, s, M1⟩ | ⟨r, M1⟩ | ⟨y, l, nx, s, rt⟩ | _
    · dsimp only [elA] at h ⊢
      cases hc : inC cut m p <;> rw [hc] at h
      · exact ih _ _ _ _ _ _ _ h
      · exact h
    · exact h
    · cases d with
      | zero => exact absurd h id
      | succ d =>
        dsimp only [elA] at h ⊢
        cases hc : inN inl y <;> rw [hc] at h
        · exact h
        · exact wp_Q (fun r M' h => retK_mono (fun s h => ih _ _ _ _ _ _ _ h) h) (ih _ _ _ _ _ _ _ h)
    · exact absurd h id
theorem wpn_s (n : Nat) (cut : List (Nat × Nat)) (inl : List Nat) {d m pc : Nat} {L S : List AV} {M : AM} {Q : AV → AM → Prop} (h : wpn n cut inl d m pc L S M Q) : wp d m pc L S M Q := wpn_0 _ _ _ _ _ _ _ _ _ _ h
abbrev wpI (d m pc : Nat) (L S : List AV) (M : AM) (P : Int → AM → Prop) : Prop := wp d m pc L S M (fun r M' => brK (Nat.beq r.1 0) (P r.2 M') False)
abbrev wpL (d m pc : Nat) (L S : List AV) (M : AM) (P : Int → AM → Prop) : Prop := wp d m pc L S M (fun r M' => brK (Nat.beq r.1 1) (P r.2 M') False)
abbrev wpR (d m pc : Nat) (L S : List AV) (M : AM) (P : Int → AM → Prop) : Prop := wp d m pc L S M (fun r M' => brK (Nat.beq r.1 2) (P r.2 M') False)
abbrev wpV (d m pc : Nat) (L S : List AV) (M : AM) (P : AM → Prop) : Prop := wp d m pc L S M (fun _ M' => P M')
theorem ci {c : Prop} [Decidable c] {A B : Prop} (a : c → A) (b : ¬ c → B) : brK (decide c) A B := by
  by_cases h : c
  · rw [decide_eq_true h]; exact a h
  · rw [decide_eq_false h]; exact b h
theorem ct {c : Prop} [Decidable c] {A B : Prop} (h : c) (a : A) : brK (decide c) A B := ci (fun _ => a) (fun n => absurd h n)
theorem cf {c : Prop} [Decidable c] {A B : Prop} (h : ¬ c) (b : B) : brK (decide c) A B := ci (fun n => absurd n h) (fun _ => b)
theorem cb {b : Bool} {A : Prop} (h : b = true) (a : A) : brK b A False := by rw [h]; exact a
end
