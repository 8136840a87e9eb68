noncomputable section
set_option maxRecDepth 20000
/-! a clause, and a text, out of tokens -/
abbrev CAns : Type := (TA × Int × List Tok) ⊕ (Int × Int)
def prw (v : Int) (ps : List Int) (w : Int) : Int := if w = 0 then v else ps.getD (w - 1).toNat 0
def addB (A : TA) (v : Int) (ps : List Int) : TA := (A.1, A.2.1 + 1, fun k w => if k = A.2.1 then prw v ps w else A.2.2 k w)
def addL (A : TA) (v : Int) (cd : List (Int × Int)) : TA := (fun w => if w = v then cd else A.1 w, A.2.1 + 1, fun k w => if k = A.2.1 then prw v [] w else A.2.2 k w)
def nop (l : List Tok) : Prop := ¬ (hdS l 43 ∨ hdS l 45 ∨ hdS l 42 ∨ hdS l 47)
def ClzC (n : Int) (A : TA) (u : Int) (R : List Tok → CAns → Prop) : Prop :=
  (∀ (l : List Tok), (∀ t r, l = t :: r → ¬ (t.1 = 1 ∧ 0 ≤ t.2.1 ∧ t.2.1 ≤ 12)) → R l (.inr (1, (plc n l)))) ∧
  (∀ (v : Int) (st : Int) (r : List Tok), 0 ≤ v → v < 4 → A.1 v ≠ [] → R ((1, v, st) :: r) (.inr (4, st))) ∧
  (∀ (v : Int) (st : Int) (r : List Tok), 0 ≤ v → v ≤ 12 → (v < 4 → A.1 v = []) → A.2.1 = 24 → R ((1, v, st) :: r) (.inr (6, st))) ∧
  (∀ (v : Int) (st : Int) (st' : Int) (r : List Tok) (r' : List Tok) (cd : List (Int × Int)), 0 ≤ v → v < 4 → A.1 v = [] → A.2.1 < 24 → Prs v n 4 0 r (.inl (cd, ((3, 59, st') :: r'))) → R ((1, v, st) :: r) (.inl (addL A v cd, u + cd.length, r'))) ∧
  (∀ (v : Int) (st : Int) (f : Int) (p : Int) (r : List Tok), 0 ≤ v → v < 4 → A.1 v = [] → A.2.1 < 24 → Prs v n 4 0 r (.inr (f, p)) → f ≠ 0 → R ((1, v, st) :: r) (.inr (f, p))) ∧
  (∀ (v : Int) (st : Int) (r : List Tok) (r' : List Tok) (cd : List (Int × Int)), 0 ≤ v → v < 4 → A.1 v = [] → A.2.1 < 24 → Prs v n 4 0 r (.inl (cd, r')) → nop r' → ¬ hdS r' 59 → R ((1, v, st) :: r) (.inr (1, (plc n r')))) ∧
  (∀ (v : Int) (st : Int) (st' : Int) (r : List Tok) (r' : List Tok) (ps : List Int), 4 ≤ v → v ≤ 12 → A.2.1 < 24 → bodyF n v r = .inl (ps, ((3, 59, st') :: r')) → R ((1, v, st) :: r) (.inl (addB A v ps, u, r'))) ∧
  (∀ (v : Int) (st : Int) (f : Int) (p : Int) (r : List Tok), 4 ≤ v → v ≤ 12 → A.2.1 < 24 → bodyF n v r = .inr (f, p) → f ≠ 0 → R ((1, v, st) :: r) (.inr (f, p))) ∧
  (∀ (v : Int) (st : Int) (r : List Tok) (r' : List Tok) (ps : List Int), 4 ≤ v → v ≤ 12 → A.2.1 < 24 → bodyF n v r = .inl (ps, r') → ¬ hdS r' 59 → R ((1, v, st) :: r) (.inr (1, (plc n r'))))
def Clz (n : Int) (A : TA) (u : Int) (l : List Tok) (a : CAns) : Prop := ∀ R : List Tok → CAns → Prop, ClzC n A u R → R l a
theorem Clz.noW {n : Int} {A : TA} {u : Int} {l : List Tok} (a0 : (∀ t r, l = t :: r → ¬ (t.1 = 1 ∧ 0 ≤ t.2.1 ∧ t.2.1 ≤ 12))) : Clz n A u l (.inr (1, (plc n l))) := fun R hR => hR.1 l a0
theorem Clz.twice {n : Int} {A : TA} {u : Int} {v : Int} {st : Int} {r : List Tok} (a0 : 0 ≤ v) (a1 : v < 4) (a2 : A.1 v ≠ []) : Clz n A u ((1, v, st) :: r) (.inr (4, st)) := fun R hR => hR.2.1 v st r a0 a1 a2
theorem Clz.many {n : Int} {A : TA} {u : Int} {v : Int} {st : Int} {r : List Tok} (a0 : 0 ≤ v) (a1 : v ≤ 12) (a2 : (v < 4 → A.1 v = [])) (a3 : A.2.1 = 24) : Clz n A u ((1, v, st) :: r) (.inr (6, st)) := fun R hR => hR.2.2.1 v st r a0 a1 a2 a3
theorem Clz.law {n : Int} {A : TA} {u : Int} {v : Int} {st : Int} {st' : Int} {r : List Tok} {r' : List Tok} {cd : List (Int × Int)} (a0 : 0 ≤ v) (a1 : v < 4) (a2 : A.1 v = []) (a3 : A.2.1 < 24) (a4 : Prs v n 4 0 r (.inl (cd, ((3, 59, st') :: r')))) : Clz n A u ((1, v, st) :: r) (.inl (addL A v cd, u + cd.length, r')) := fun R hR => hR.2.2.2.1 v st st' r r' cd a0 a1 a2 a3 a4
theorem Clz.lawE {n : Int} {A : TA} {u : Int} {v : Int} {st : Int} {f : Int} {p : Int} {r : List Tok} (a0 : 0 ≤ v) (a1 : v < 4) (a2 : A.1 v = []) (a3 : A.2.1 < 24) (a4 : Prs v n 4 0 r (.inr (f, p))) (a5 : f ≠ 0) : Clz n A u ((1, v, st) :: r) (.inr (f, p)) := fun R hR => hR.2.2.2.2.1 v st f p r a0 a1 a2 a3 a4 a5
theorem Clz.lawN {n : Int} {A : TA} {u : Int} {v : Int} {st : Int} {r : List Tok} {r' : List Tok} {cd : List (Int × Int)} (a0 : 0 ≤ v) (a1 : v < 4) (a2 : A.1 v = []) (a3 : A.2.1 < 24) (a4 : Prs v n 4 0 r (.inl (cd, r'))) (a5 : nop r') (a6 : ¬ hdS r' 59) : Clz n A u ((1, v, st) :: r) (.inr (1, (plc n r'))) := fun R hR => hR.2.2.2.2.2.1 v st r r' cd a0 a1 a2 a3 a4 a5 a6
theorem Clz.bod {n : Int} {A : TA} {u : Int} {v : Int} {st : Int} {st' : Int} {r : List Tok} {r' : List Tok} {ps : List Int} (a0 : 4 ≤ v) (a1 : v ≤ 12) (a2 : A.2.1 < 24) (a3 : bodyF n v r = .inl (ps, ((3, 59, st') :: r'))) : Clz n A u ((1, v, st) :: r) (.inl (addB A v ps, u, r')) := fun R hR => hR.2.2.2.2.2.2.1 v st st' r r' ps a0 a1 a2 a3
theorem Clz.bodE {n : Int} {A : TA} {u : Int} {v : Int} {st : Int} {f : Int} {p : Int} {r : List Tok} (a0 : 4 ≤ v) (a1 : v ≤ 12) (a2 : A.2.1 < 24) (a3 : bodyF n v r = .inr (f, p)) (a4 : f ≠ 0) : Clz n A u ((1, v, st) :: r) (.inr (f, p)) := fun R hR => hR.2.2.2.2.2.2.2.1 v st f p r a0 a1 a2 a3 a4
theorem Clz.bodN {n : Int} {A : TA} {u : Int} {v : Int} {st : Int} {r : List Tok} {r' : List Tok} {ps : List Int} (a0 : 4 ≤ v) (a1 : v ≤ 12) (a2 : A.2.1 < 24) (a3 : bodyF n v r = .inl (ps, r')) (a4 : ¬ hdS r' 59) : Clz n A u ((1, v, st) :: r) (.inr (1, (plc n r'))) := fun R hR => hR.2.2.2.2.2.2.2.2 v st r r' ps a0 a1 a2 a3 a4
theorem Clz.ind {n : Int} {A : TA} {u : Int} {motive : (l : List Tok) → (a : CAns) → Clz n A u l a → Prop} (noW_ : ∀ {l : List Tok} (a0 : (∀ t r, l = t :: r → ¬ (t.1 = 1 ∧ 0 ≤ t.2.1 ∧ t.2.1 ≤ 12))), motive l (.inr (1, (plc n l))) (Clz.noW a0)) (twice_ : ∀ {v : Int} {st : Int} {r : List Tok} (a0 : 0 ≤ v) (a1 : v < 4) (a2 : A.1 v ≠ []), motive ((1, v, st) :: r) (.inr (4, st)) (Clz.twice a0 a1 a2)) (many_ : ∀ {v : Int} {st : Int} {r : List Tok} (a0 : 0 ≤ v) (a1 : v ≤ 12) (a2 : (v < 4 → A.1 v = [])) (a3 : A.2.1 = 24), motive ((1, v, st) :: r) (.inr (6, st)) (Clz.many a0 a1 a2 a3)) (law_ : ∀ {v : Int} {st : Int} {st' : Int} {r : List Tok} {r' : List Tok} {cd : List (Int × Int)} (a0 : 0 ≤ v) (a1 : v < 4) (a2 : A.1 v = []) (a3 : A.2.1 < 24) (a4 : Prs v n 4 0 r (.inl (cd, ((3, 59, st') :: r')))), motive ((1, v, st) :: r) (.inl (addL A v cd, u + cd.length, r')) (Clz.law a0 a1 a2 a3 a4)) (lawE_ : ∀ {v : Int} {st : Int} {f : Int} {p : Int} {r : List Tok} (a0 : 0 ≤ v) (a1 : v < 4) (a2 : A.1 v = []) (a3 : A.2.1 < 24) (a4 : Prs v n 4 0 r (.inr (f, p))) (a5 : f ≠ 0), motive ((1, v, st) :: r) (.inr (f, p)) (Clz.lawE a0 a1 a2 a3 a4 a5)) (lawN_ : ∀ {v : Int} {st : Int} {r : List Tok} {r' : List Tok} {cd : List (Int × Int)} (a0 : 0 ≤ v) (a1 : v < 4) (a2 : A.1 v = []) (a3 : A.2.1 < 24) (a4 : Prs v n 4 0 r (.inl (cd, r'))) (a5 : nop r') (a6 : ¬ hdS r' 59), motive ((1, v, st) :: r) (.inr (1, (plc n r'))) (Clz.lawN a0 a1 a2 a3 a4 a5 a6)) (bod_ : ∀ {v : Int} {st : Int} {st' : Int} {r : List Tok} {r' : List Tok} {ps : List Int} (a0 : 4 ≤ v) (a1 : v ≤ 12) (a2 : A.2.1 < 24) (a3 : bodyF n v r = .inl (ps, ((3, 59, st') :: r'))), motive ((1, v, st) :: r) (.inl (addB A v ps, u, r')) (Clz.bod a0 a1 a2 a3)) (bodE_ : ∀ {v : Int} {st : Int} {f : Int} {p : Int} {r : List Tok} (a0 : 4 ≤ v) (a1 : v ≤ 12) (a2 : A.2.1 < 24) (a3 : bodyF n v r = .inr (f, p)) (a4 : f ≠ 0), motive ((1, v, st) :: r) (.inr (f, p)) (Clz.bodE a0 a1 a2 a3 a4)) (bodN_ : ∀ {v : Int} {st : Int} {r : List Tok} {r' : List Tok} {ps : List Int} (a0 : 4 ≤ v) (a1 : v ≤ 12) (a2 : A.2.1 < 24) (a3 : bodyF n v r = .inl (ps, r')) (a4 : ¬ hdS r' 59), motive ((1, v, st) :: r) (.inr (1, (plc n r'))) (Clz.bodN a0 a1 a2 a3 a4)) {l : List Tok} {a : CAns} (h : Clz n A u l a) : motive l a h := by
  obtain ⟨_, m⟩ := h (fun l a => ∃ h : Clz n A u l a, motive l a h) ⟨fun l a0 => ⟨(Clz.noW a0), noW_ a0⟩,
    fun v st r a0 a1 a2 => ⟨(Clz.twice a0 a1 a2), twice_ a0 a1 a2⟩,
    fun v st r a0 a1 a2 a3 => ⟨(Clz.many a0 a1 a2 a3), many_ a0 a1 a2 a3⟩,
    fun v st st' r r' cd a0 a1 a2 a3 a4 => ⟨(Clz.law a0 a1 a2 a3 a4), law_ a0 a1 a2 a3 a4⟩,
    fun v st f p r a0 a1 a2 a3 a4 a5 => ⟨(Clz.lawE a0 a1 a2 a3 a4 a5), lawE_ a0 a1 a2 a3 a4 a5⟩,
    fun v st r r' cd a0 a1 a2 a3 a4 a5 a6 => ⟨(Clz.lawN a0 a1 a2 a3 a4 a5 a6), lawN_ a0 a1 a2 a3 a4 a5 a6⟩,
    fun v st st' r r' ps a0 a1 a2 a3 => ⟨(Clz.bod a0 a1 a2 a3), bod_ a0 a1 a2 a3⟩,
    fun v st f p r a0 a1 a2 a3 a4 => ⟨(Clz.bodE a0 a1 a2 a3 a4), bodE_ a0 a1 a2 a3 a4⟩,
    fun v st r r' ps a0 a1 a2 a3 a4 => ⟨(Clz.bodN a0 a1 a2 a3 a4), bodN_ a0 a1 a2 a3 a4⟩⟩
  exact m
def TxtC (n : Int) (R : TA → Int → List Tok → CAns → Prop) : Prop :=
  (∀ (A : TA) (u : Int), R A u [] (.inl (A, u, []))) ∧
  (∀ (A : TA) (u : Int) (l : List Tok) (f : Int) (p : Int), l ≠ [] → Clz n A u l (.inr (f, p)) → f ≠ 0 → R A u l (.inr (f, p))) ∧
  (∀ (A : TA) (A' : TA) (u : Int) (u' : Int) (l : List Tok) (l' : List Tok) (a : CAns), l ≠ [] → Clz n A u l (.inl (A', u', l')) → R A' u' l' a → R A u l a)
def Txt (n : Int) (A : TA) (u : Int) (l : List Tok) (a : CAns) : Prop := ∀ R : TA → Int → List Tok → CAns → Prop, TxtC n R → R A u l a
theorem Txt.done {n : Int} {A : TA} {u : Int}  : Txt n A u [] (.inl (A, u, [])) := fun R hR => hR.1 A u
theorem Txt.bad {n : Int} {A : TA} {u : Int} {l : List Tok} {f : Int} {p : Int} (a0 : l ≠ []) (a1 : Clz n A u l (.inr (f, p))) (a2 : f ≠ 0) : Txt n A u l (.inr (f, p)) := fun R hR => hR.2.1 A u l f p a0 a1 a2
theorem Txt.st {n : Int} {A : TA} {A' : TA} {u : Int} {u' : Int} {l : List Tok} {l' : List Tok} {a : CAns} (a0 : l ≠ []) (a1 : Clz n A u l (.inl (A', u', l'))) (a2 : Txt n A' u' l' a) : Txt n A u l a := fun R hR => hR.2.2 A A' u u' l l' a a0 a1 (a2 R hR)
theorem Txt.ind {n : Int} {motive : (A : TA) → (u : Int) → (l : List Tok) → (a : CAns) → Txt n A u l a → Prop} (done_ : ∀ {A : TA} {u : Int}, motive A u [] (.inl (A, u, [])) Txt.done) (bad_ : ∀ {A : TA} {u : Int} {l : List Tok} {f : Int} {p : Int} (a0 : l ≠ []) (a1 : Clz n A u l (.inr (f, p))) (a2 : f ≠ 0), motive A u l (.inr (f, p)) (Txt.bad a0 a1 a2)) (st_ : ∀ {A : TA} {A' : TA} {u : Int} {u' : Int} {l : List Tok} {l' : List Tok} {a : CAns} (a0 : l ≠ []) (a1 : Clz n A u l (.inl (A', u', l'))) (a2 : Txt n A' u' l' a), motive A' u' l' a a2 → motive A u l a (Txt.st a0 a1 a2)) {A : TA} {u : Int} {l : List Tok} {a : CAns} (h : Txt n A u l a) : motive A u l a h := by
  obtain ⟨_, m⟩ := h (fun A u l a => ∃ h : Txt n A u l a, motive A u l a h) ⟨fun A u => ⟨Txt.done, done_⟩,
    fun A u l f p a0 a1 a2 => ⟨(Txt.bad a0 a1 a2), bad_ a0 a1 a2⟩,
    fun A A' u u' l l' a a0 a1 ⟨a2, m2⟩ => ⟨(Txt.st a0 a1 a2), st_ a0 a1 a2 m2⟩⟩
  exact m
/-! a body's length -/
theorem fig_l {n m : Int} {l : List Tok} {k : Int → List Tok → BAns} {ps : List Int} {r : List Tok} (h : figF n m l k = .inl (ps, r)) : ∃ v r', r'.length ≤ l.length ∧ k v r' = .inl (ps, r) := by
  cases l with
  | nil => exact absurd h (by simp [figF])
  | cons t l =>
    unfold figF at h
    simp only at h
    split at h
    · split at h
      · exact ⟨_, l, by simp, h⟩
      · simp at h
    · simp at h
theorem wrd_l {n m : Int} {l : List Tok} {k : List Tok → BAns} {ps : List Int} {r : List Tok} (h : wrdF n m l k = .inl (ps, r)) : ∃ r', r'.length ≤ l.length ∧ k r' = .inl (ps, r) := by
  cases l with
  | nil => exact absurd h (by simp [wrdF])
  | cons t l =>
    unfold wrdF at h
    simp only at h
    split at h
    · exact ⟨l, by simp, h⟩
    · simp at h
theorem mrk_l {n : Int} {k : Int → List Tok → BAns} {ps : List Int} {r : List Tok} : ∀ (j : Nat) (l : List Tok) (acc : Int), l.length ≤ j → mrkF n k l acc = .inl (ps, r) → ∃ v r', r'.length ≤ l.length ∧ k v r' = .inl (ps, r)
  | _, [], acc, _, h => ⟨acc, [], Nat.le_refl _, h⟩
  | j, [t], acc, _, h => by
    unfold mrkF at h
    split at h
    · simp at h
    · exact ⟨acc, [t], Nat.le_refl _, h⟩
  | 0, t :: u :: l, acc, hl, h => absurd hl (by simp)
  | j + 1, t :: u :: l, acc, hl, h => by
    unfold mrkF at h
    split at h
    · split at h
      · simp at h
      · split at h
        · obtain ⟨v, r', e1, e2⟩ := mrk_l j l _ (by simp at hl; omega) h
          exact ⟨v, r', by simp; omega, e2⟩
        · simp at h
    · exact ⟨acc, t :: u :: l, Nat.le_refl _, h⟩
theorem kd_l {n : Int} {k : Int → List Tok → BAns} {ps : List Int} {r : List Tok} : ∀ (j : Nat) (l : List Tok) (set : Int), l.length ≤ j → kdF n k l set = .inl (ps, r) → ∃ v r', r'.length ≤ l.length ∧ k v r' = .inl (ps, r)
  | _, [], set, _, h => absurd h (by simp [kdF])
  | j, [t], set, _, h => by
    unfold kdF at h
    split at h
    · split at h
      · split at h
        · simp at h
        · exact ⟨_, [], by simp, h⟩
      · simp at h
    · simp at h
  | 0, t :: u :: l, set, hl, h => absurd hl (by simp)
  | j + 1, t :: u :: l, set, hl, h => by
    unfold kdF at h
    split at h
    · split at h
      · split at h
        · simp at h
        · split at h
          · obtain ⟨v, r', e1, e2⟩ := kd_l j l _ (by simp at hl; omega) h
            exact ⟨v, r', by simp; omega, e2⟩
          · exact ⟨_, u :: l, by simp, h⟩
      · simp at h
    · simp at h
theorem body_l {n w : Int} {l : List Tok} {ps : List Int} {r : List Tok} (w4 : 4 ≤ w) (w12 : w ≤ 12) (h : bodyF n w l = .inl (ps, r)) : r.length ≤ l.length ∧ (ps.length : Int) = npt w := by
  have one : ∀ m, figF n m l (fun v r => .inl ([v], r)) = .inl (ps, r) → r.length ≤ l.length ∧ ps.length = 1 := fun m h => by
    obtain ⟨v, r', e1, e2⟩ := fig_l h
    simp only [Sum.inl.injEq, Prod.mk.injEq] at e2
    rw [← e2.1, ← e2.2]; exact ⟨e1, rfl⟩
  unfold bodyF at h
  unfold npt
  split at h
  · have := one _ h; rw [if_neg (by omega), if_neg (by omega), if_pos (by omega)]; omega
  · split at h
    · rename_i e
      obtain ⟨v1, r1, a1, h⟩ := fig_l h
      obtain ⟨r2, a2, h⟩ := wrd_l h
      obtain ⟨v3, r3, a3, h⟩ := fig_l h
      obtain ⟨r4, a4, h⟩ := wrd_l h
      obtain ⟨v5, r5, a5, h⟩ := fig_l h
      obtain ⟨v6, r6, a6, h⟩ := mrk_l _ _ _ (Nat.le_refl _) h
      simp only [Sum.inl.injEq, Prod.mk.injEq] at h
      rw [if_pos e, ← h.1, ← h.2]; exact ⟨by omega, rfl⟩
    · split at h
      · obtain ⟨v, r', e1, e2⟩ := kd_l _ _ _ (Nat.le_refl _) h
        simp only [Sum.inl.injEq, Prod.mk.injEq] at e2
        rw [if_neg (by omega), if_neg (by omega), if_pos (by omega), ← e2.1, ← e2.2]; exact ⟨e1, rfl⟩
      · split at h
        · rename_i e5 _ e7
          obtain ⟨v1, r1, a1, h⟩ := fig_l h
          obtain ⟨r2, a2, h⟩ := wrd_l h
          obtain ⟨v3, r3, a3, h⟩ := fig_l h
          obtain ⟨r4, a4, h⟩ := wrd_l h
          obtain ⟨v5, r5, a5, h⟩ := fig_l h
          simp only [Sum.inl.injEq, Prod.mk.injEq] at h
          rw [if_neg e5, if_pos e7, ← h.1, ← h.2]; exact ⟨by omega, rfl⟩
        · split at h
          · have := one _ h; rw [if_neg (by omega), if_neg (by omega), if_pos (by omega)]; omega
          · split at h
            · have := one _ h; rw [if_neg (by omega), if_neg (by omega), if_pos (by omega)]; omega
            · split at h
              · have := one _ h; rw [if_neg (by omega), if_neg (by omega), if_pos (by omega)]; omega
              · simp only [Sum.inl.injEq, Prod.mk.injEq] at h
                rw [if_neg (by omega), if_neg (by omega), if_neg (by omega), ← h.1, ← h.2]; exact ⟨Nat.le_refl _, rfl⟩
theorem getD_0 : ∀ (l : List Int) {i : Nat}, l.length ≤ i → l.getD i 0 = 0
  | [], _, _ => rfl
  | a :: l, 0, h => absurd h (by simp)
  | a :: l, i + 1, h => getD_0 l (by simpa using h)
/-! the class reads a clause -/
def CI (s : Sg) (n : Int) (A : TA) (u : Int) (l : List Tok) : Prop := CTk s n l ∧ s 60 1 = 0 ∧ s 60 4 = u ∧ s 60 8 = A.2.1 ∧ (0 ≤ A.2.1 ∧ A.2.1 ≤ 24) ∧ (∀ k w, 0 ≤ k → k < A.2.1 → 0 ≤ w → w < 5 → s 64 (k * 5 + w) = A.2.2 k w) ∧ (∀ i, A.2.1 * 5 ≤ i → i < 120 → s 64 i = 0) ∧ (∀ w, 0 ≤ w → w < 4 → 0 ≤ s 62 w ∧ s 63 w = s 62 w + (A.1 w).length ∧ s 63 w ≤ u ∧ CodeAt (s 61) (s 62 w) (A.1 w)) ∧ (0 ≤ u ∧ u + l.length ≤ 300) ∧ WfT A ∧ s 60 2 = -1
def rdr : List Int := [60, 61, 62, 63, 64, 65]
theorem c_readClause {D : Nat} {s : Sg} {T : TT} {P : AM → Prop} {n u : Int} {A : TA} {l : List Tok} (hD : 33 ≤ D) (ne : l ≠ []) (h : CI s n A u l) (ok : ∀ A' u' l' s', Clz n A u l (.inl (A', u', l')) → A'.2.1 = A.2.1 + 1 → Sm rdr s s' → CI s' n A' u' l' → P (mk s' T)) (er : ∀ f p s', Clz n A u l (.inr (f, p)) → f ≠ 0 → Sm rdr s s' → s' 60 1 = f → s' 60 2 = p → P (mk s' T)) : wpV (D + 1) 144 0 [aR 60, aU, aU] [] (mk s T) P := by
  obtain ⟨D', rfl⟩ : ∃ D', D = D' + 4 := ⟨D - 4, by omega⟩
  obtain ⟨h1, h2, h3, h4, h5, h6, h7, h8, h9, h10, h11⟩ := h
  have cur := ctk_cur h1
  have pl := ctk_9 h1
  have hv := ctk_v h1
  have flt : ∀ f, f ≠ 0 → Clz n A u l (.inr (f, (plc n l))) → P (mk (up (up s 60 1 f) 60 2 (s 65 9)) T) := fun f hf hc => er f (plc n l) _ hc hf (sm_u (sm_u (sm_r _ _) (by simp [rdr])) (by simp [rdr])) (by rw [up_i (by decide), up_s]) (by rw [up_s]; exact pl)
  cases l with
  | nil => exact absurd rfl ne
  | cons t r =>
    obtain ⟨t1, v, st⟩ := t
    have c1 : s 65 8 = t1 := cur.1
    have c3 : s 65 10 = v := cur.2.2
    refine g_Reader_readClause_0 ?_
    rw [c1, c3, h4, w32_id (x := A.2.1 * 5) (by omega) (by omega), w32_id (x := A.2.1 + 1) (by omega) (by omega)]
    have noW : ¬ (t1 = 1 ∧ 0 ≤ v ∧ v ≤ 12) → P (mk (up (up s 60 1 1) 60 2 (s 65 9)) T) := fun q => flt 1 (by decide) (.noW (fun t r' e => by simp only [List.cons.injEq] at e; rw [← e.1]; exact q))
    refine ci (fun q1 => ci (fun q2 => ct h2 (noW (by omega))) (fun q2 => ci (fun q3 => ct h2 (noW (by omega))) (fun q3 => ?_))) (fun q1 => ct h2 (noW (fun q => q1 q.1)))
    have q1 : t1 = 1 := q1
    subst q1
    simp only [List.length_cons] at h9
    -- the row is begun
    have go : (v < 4 → A.1 v = []) → A.2.1 < 24 → wpV (D' + 4) 172 0 [aR 65, aU] [] (mk (up (up s 64 (A.2.1 * 5) v) 60 8 (A.2.1 + 1)) T) (fun M' => wpV (D' + 4 + 1) 144 118 [aR 60, aI v, aI (A.2.1 * 5)] [] M' P) := fun hA a24 => by
      refine c_advance (n := n) (t := (1, v, st)) (l := r) (ctk_c h1 (fun a a0 a1 => by rw [up_c (by omega), up_c (by omega)])) (fun s1 e1 t1 => g_Reader_readClause_118 ?_)
      have d60 : ∀ i, s1 60 i = if i = 8 then A.2.1 + 1 else s 60 i := fun i => by rw [e1 60 (by decide), up_e, up_c (by decide)]
      have d64 : ∀ i, s1 64 i = if i = A.2.1 * 5 then v else s 64 i := fun i => by rw [e1 64 (by decide), up_c (by decide), up_e]
      have da : ∀ a, a ≠ 60 → a ≠ 64 → a ≠ 65 → s1 a = s a := fun a a0 a1 a2 => by rw [e1 a (by simpa using a2), up_c a0, up_c a1]
      have sm1 : Sm rdr s s1 := sm_t (sm_u (sm_u (sm_r _ _) (by simp [rdr])) (by simp [rdr])) (sm_m e1 (by simp [rdr]))
      -- the clause's end
      have fin : ∀ (A' : TA) (u' : Int) (r' : List Tok) (s' : Sg), A'.2.1 = A.2.1 + 1 → (∀ k w, A'.2.2 k w = if k = A.2.1 then (if w = 0 then v else A'.2.2 k w) else A.2.2 k w) → Sm rdr s s' → CTk s' n r' → s' 60 1 = 0 → s' 60 4 = u' → s' 60 8 = A.2.1 + 1 → (∀ i, (i < A.2.1 * 5 + 1 ∨ A.2.1 * 5 + 5 ≤ i) → s' 64 i = s1 64 i) → (∀ i, 0 ≤ i → i < 4 → s' 64 (A.2.1 * 5 + 1 + i) = A'.2.2 A.2.1 (i + 1)) → (∀ w, 0 ≤ w → w < 4 → 0 ≤ s' 62 w ∧ s' 63 w = s' 62 w + (A'.1 w).length ∧ s' 63 w ≤ u' ∧ CodeAt (s' 61) (s' 62 w) (A'.1 w)) → 0 ≤ u' → u' + r'.length ≤ 300 → WfT A' → s' 60 2 = -1 → CI s' n A' u' r' := by
        intro A' u' r' s' e0 e2 sm ck z1 z4 z8 z64 z64' zl u0 u3 wf z2
        refine ⟨ck, z1, z4, by rw [z8, e0], by omega, fun k w k0 k1 w0 w5 => ?_, fun i i0 i1 => ?_, zl, ⟨u0, u3⟩, wf, z2⟩
        · rw [e2]
          by_cases ek : k = A.2.1
          · rw [if_pos ek, ek]
            by_cases ew : w = 0
            · rw [if_pos ew, ew, z64 _ (by omega), d64, if_pos (by omega)]
            · rw [if_neg ew, show A.2.1 * 5 + w = A.2.1 * 5 + 1 + (w - 1) from by omega, z64' (w - 1) (by omega) (by omega), show w - 1 + 1 = w from by omega]
          · rw [if_neg ek, z64 _ (by omega), d64, if_neg (by omega)]; exact h6 k w k0 (by omega) w0 w5
        · rw [e0] at i0
          rw [z64 _ (by omega), d64, if_neg (by omega)]; exact h7 i (by omega) i1
      refine ci (fun v4 => ?_) (fun v4 => ?_)
      · -- a law
        have hA := hA v4
        have lw : ∀ m, m = msk v → wpV (D' + 4) 147 0 [aR 60, aI 0, aU, aU] [] (mk (up (up s1 60 9 m) 62 v (s1 60 4)) T) (fun M' => wpV (D' + 4 + 1) 144 146 [aR 60, aI v, aI (A.2.1 * 5)] [] M' P) := fun m hm => by
          have e4 : s1 60 4 = u := by rw [d60, if_neg (by decide)]; exact h3
          rw [e4]
          have fr : ∀ s2, Fr2 (up (up s1 60 9 m) 62 v u) s2 → Sm rdr s s2 := fun s2 f => sm_t (sm_u (sm_u sm1 (by simp [rdr])) (by simp [rdr])) (sm_m f.1 (by simp [rdr]))
          refine c_readSum (w := v) (n := n) (T := T) (by omega) v4 r.length r (Nat.le_refl _) 0 u (D' + 4) (up (up s1 60 9 m) 62 v u) _ (by omega) (by omega) (by omega) ⟨ctk_c t1 (fun a a0 a1 => by rw [up_c (by omega), up_c (by omega)]), ?_, ?_, ?_, by rw [up_c (by decide), up_i (by decide), d60, if_neg (by decide)]; exact h11⟩ h9.1 (by omega) ?_ ?_
          · rw [up_c (by decide), up_i (by decide), d60, if_neg (by decide)]; exact h2
          · rw [up_c (by decide), up_i (by decide)]; exact e4
          · rw [up_c (by decide), up_s]; exact hm
          · -- it is read
            intro cd r' s2 hp f2 rd ca ce _ no
            have no := no (Or.inr rfl)
            have pn := (prs_n hp cd r' rfl)
            have wf := sum_wf hp
            refine g_Reader_readClause_146 (ct (by omega) ?_)
            have b62 : ∀ w, s2 62 w = if w = v then u else s 62 w := fun w => by rw [f2.1 62 (by decide), up_e, up_c (by decide), da 62 (by decide) (by decide) (by decide)]
            have b63 : ∀ w, s2 63 w = s 63 w := fun w => by rw [f2.1 63 (by decide), up_c (by decide), up_c (by decide), da 63 (by decide) (by decide) (by decide)]
            have b64 : s2 64 = s1 64 := by rw [f2.1 64 (by decide), up_c (by decide), up_c (by decide)]
            have b608 : s2 60 8 = A.2.1 + 1 := by rw [f2.2 8 (by decide) (by decide) (by decide), up_c (by decide), up_i (by decide), d60, if_pos rfl]
            rw [rd.2.2.1]
            refine c_expectSign (n := n) (l := r') (ctk_c rd.1 (fun a a0 a1 => by rw [up_c (by omega)])) (by rw [up_c (by decide)]; exact rd.2.1) (fun st' r'' s3 e3 e' t' => g_Reader_readClause_171 ?_) (fun hn => g_Reader_readClause_171 ?_)
            · subst e3
              have sm3 : Sm rdr s s3 := sm_t (sm_u (fr s2 f2) (by simp [rdr])) (sm_m e' (by simp [rdr]))
              simp only [List.length_cons] at pn
              refine ok (addL A v cd) (u + cd.length) r'' s3 (.law (by omega) v4 hA a24 hp) rfl sm3 (fin _ _ _ _ rfl (fun k w => ?_) sm3 t' ?_ ?_ ?_ (fun i hi => ?_) (fun i i0 i1 => ?_) (fun w w0 w4 => ?_) (by omega) (by omega) (fun w w0 w4 hw => ?_) (by rw [e' 60 (by decide), up_c (by decide)]; exact rd.2.2.2.2))
              · show (if k = A.2.1 then prw v [] w else A.2.2 k w) = _
                by_cases ek : k = A.2.1
                · rw [if_pos ek, if_pos ek]
                  by_cases ew : w = 0
                  · rw [if_pos ew]; unfold prw; rw [if_pos ew]
                  · rw [if_neg ew]; show _ = (if k = A.2.1 then prw v [] w else A.2.2 k w); rw [if_pos ek]
                · rw [if_neg ek, if_neg ek]
              · rw [e' 60 (by decide), up_c (by decide)]; exact rd.2.1
              · rw [e' 60 (by decide), up_c (by decide)]; exact rd.2.2.1
              · rw [e' 60 (by decide), up_c (by decide)]; exact b608
              · rw [e' 64 (by decide), up_c (by decide), b64]
              · rw [e' 64 (by decide), up_c (by decide), b64, d64, if_neg (by omega), h7 _ (by omega) (by omega)]
                show _ = (if A.2.1 = A.2.1 then prw v [] (i + 1) else A.2.2 A.2.1 (i + 1))
                rw [if_pos rfl]; unfold prw; rw [if_neg (by omega)]; simp
              · rw [e' 62 (by decide), up_c (a' := 62) (by decide), e' 63 (by decide), e' 61 (by decide), up_c (a' := 61) (by decide), b62, up_e, b63]
                show _ ∧ _ = _ + ((if w = v then cd else A.1 w).length : Int) ∧ _ ∧ CodeAt (s2 61) _ (if w = v then cd else A.1 w)
                by_cases ew : w = v
                · simp only [if_pos ew]
                  exact ⟨h9.1, trivial, by omega, ca⟩
                · simp only [if_neg ew]
                  obtain ⟨g1, g2, g3, g4⟩ := h8 w w0 w4
                  refine ⟨g1, g2, by omega, ca_c (fun i i0 i1 => ?_) g4⟩
                  rw [ce i (by omega), up_c (by decide), up_c (by decide), da 61 (by decide) (by decide) (by decide)]
              · revert hw
                show (if w = v then cd else A.1 w) ≠ [] → wfc (okn w) (if w = v then cd else A.1 w) 0
                by_cases ew : w = v
                · rw [if_pos ew, ew]; exact fun _ => wf.2
                · rw [if_neg ew]; exact h10 w w0 w4
            · refine er 1 (plc n r') _ (.lawN (by omega) v4 hA a24 hp no hn) (by decide) (sm_u (sm_u (sm_u (fr s2 f2) (by simp [rdr])) (by simp [rdr])) (by simp [rdr])) (by rw [up_i (by decide), up_s]) ?_
              rw [up_s, up_c (by decide)]; exact ctk_9 rd.1
          · -- it isn't
            intro f p s2 hp f2 z1 hf z2 z4
            refine g_Reader_readClause_146 (ct (by omega) (c_expectSignD (by rw [up_c (by decide), z1]; exact hf) (g_Reader_readClause_171 (er f p _ (.lawE (by omega) v4 hA a24 hp hf) hf (sm_u (fr s2 f2) (by simp [rdr])) (by rw [up_c (by decide)]; exact z1) (by rw [up_c (by decide)]; exact z2)))))
        refine ci (fun p0 => ct (by omega) (lw _ ?_)) (fun p0 => ci (fun p1 => ct (by omega) (lw _ ?_)) (fun p1 => ci (fun p2 => ct (by omega) (lw _ ?_)) (fun p2 => ct (by omega) (lw _ ?_))))
        · rw [p0]; decide
        · rw [p1]; decide
        · rw [p2]; decide
        · rw [show v = 3 from by omega]; decide
      · -- parts
        have d601 : s1 60 1 = 0 := by rw [d60, if_neg (by decide)]; exact h2
        refine c_readParts (D := D') t1 d601 (by omega) (by omega) (by omega) (by omega) (fun ps r' s2 eb al pt => g_Reader_readClause_165 ?_) (fun f p s2 eb hf dd => g_Reader_readClause_165 ?_)
        · have bl := body_l (by omega) (by omega) eb
          refine c_expectSign al.2.1 al.2.2 (fun st' r'' s3 e3 e' t' => g_Reader_readClause_171 ?_) (fun hn => g_Reader_readClause_171 ?_)
          · subst e3
            have sm3 : Sm rdr s s3 := sm_t sm1 (sm_t (sm_m al.1 (by simp [rdr])) (sm_m e' (by simp [rdr])))
            simp only [List.length_cons] at bl
            refine ok (addB A v ps) u r'' s3 (.bod (by omega) (by omega) a24 eb) rfl sm3 (fin _ _ _ _ rfl (fun k w => ?_) sm3 t' ?_ ?_ ?_ (fun i hi => ?_) (fun i i0 i1 => ?_) (fun w w0 w4 => ?_) h9.1 (by omega) h10 (by rw [e' 60 (by decide), al.1 60 (by decide), d60, if_neg (by decide)]; exact h11))
            · show (if k = A.2.1 then prw v ps w else A.2.2 k w) = _
              by_cases ek : k = A.2.1
              · rw [if_pos ek, if_pos ek]
                by_cases ew : w = 0
                · rw [if_pos ew]; unfold prw; rw [if_pos ew]
                · rw [if_neg ew]; show _ = (if k = A.2.1 then prw v ps w else A.2.2 k w); rw [if_pos ek]
              · rw [if_neg ek, if_neg ek]
            · rw [e' 60 (by decide)]; exact al.2.2
            · rw [e' 60 (by decide), al.1 60 (by decide), d60, if_neg (by decide)]; exact h3
            · rw [e' 60 (by decide), al.1 60 (by decide), d60, if_pos rfl]
            · rw [e' 64 (by decide)]; exact pt.1 i hi
            · rw [e' 64 (by decide), pt.2 i i0 i1]
              show _ = (if A.2.1 = A.2.1 then prw v ps (i + 1) else A.2.2 A.2.1 (i + 1))
              rw [if_pos rfl]; unfold prw; rw [if_neg (show ¬ i + 1 = 0 from by omega), show i + 1 - 1 = i from by omega]
              by_cases ei : i < ps.length
              · rw [if_pos ei]
              · rw [if_neg ei, d64, if_neg (by omega), h7 _ (by omega) (by omega), getD_0 ps (by omega)]
            · rw [e' 62 (by decide), e' 63 (by decide), e' 61 (by decide), al.1 62 (by decide), al.1 63 (by decide), al.1 61 (by decide), da 61 (by decide) (by decide) (by decide), da 62 (by decide) (by decide) (by decide), da 63 (by decide) (by decide) (by decide)]
              exact h8 w w0 w4
          · refine er 1 (plc n r') _ (.bodN (by omega) (by omega) a24 eb hn) (by decide) (sm_u (sm_u (sm_t sm1 (sm_m al.1 (by simp [rdr]))) (by simp [rdr])) (by simp [rdr])) (by rw [up_i (by decide), up_s]) ?_
            rw [up_s]; exact ctk_9 al.2.1
        · exact c_expectSignD (by rw [dd.2.2.1]; exact hf) (g_Reader_readClause_171 (er f p _ (.bodE (by omega) (by omega) a24 eb hf) hf (sm_t sm1 (sm_m dd.1 (by simp [rdr]))) dd.2.2.1 dd.2.2.2))
    have mn : (v < 4 → A.1 v = []) → brK (decide (A.2.1 < 24)) (brK (decide (0 ≤ A.2.1 * 5 ∧ A.2.1 * 5 < 120)) (wpV (D' + 4) 172 0 [aR 65, aU] [] (mk (up (up s 64 (A.2.1 * 5) v) 60 8 (A.2.1 + 1)) T) (fun M' => wpV (D' + 4 + 1) 144 118 [aR 60, aI v, aI (A.2.1 * 5)] [] M' P)) False) (brK (decide (s 60 1 = 0)) (P (mk (up (up s 60 1 6) 60 2 (s 65 9)) T)) (P (mk s T))) := fun hA => ci (fun a24 => ct (by omega) (go hA a24)) (fun a24 => ct h2 (flt 6 (by decide) (.many (by omega) (by omega) hA (by omega))))
    refine ci (fun v4 => ct (by omega) (ct (by omega) ?_)) (fun v4 => mn (fun q => absurd q v4))
    obtain ⟨g1, g2, g3, g4⟩ := h8 v (by omega) v4
    refine ci (fun q => ct h2 (flt 4 (by decide) (.twice (by omega) v4 (fun e => ?_)))) (fun q => mn (fun _ => ?_))
    · rw [e] at g2; simp at g2; omega
    · cases e : A.1 v with
      | nil => rfl
      | cons a b => rw [e] at g2; simp only [List.length_cons] at g2; omega
end
