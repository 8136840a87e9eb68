noncomputable section
set_option maxRecDepth 20000
/-! a law's sum, out of tokens: what it is, or its fault -/
inductive Ans : Type
  | ok (cd : List (Int × Int)) (l : List Tok) : Ans
  | er (f p : Int) : Ans
def Ans.pre (c : List (Int × Int)) : Ans → Ans
  | .ok cd l => .ok (c ++ cd) l
  | .er f p => .er f p
def opc (b : Int) : Int := if b = 43 then 4 else if b = 45 then 5 else if b = 42 then 6 else 7
def hdS (l : List Tok) (b : Int) : Prop := ∃ st r, l = (3, b, st) :: r
/-- 0 one, 1 behind one of a product, 2 a product, 3 behind a product of a sum, 4 a sum -/
inductive Prs (w n : Int) : Nat → Int → List Tok → Ans → Prop
  | num {o v st : Int} {l : List Tok} : 0 ≤ v → v ≤ 9999 → Prs w n 0 o ((2, v, st) :: l) (.ok [(0, v)] l)
  | numF {o v st : Int} {l : List Tok} : 9999 < v → Prs w n 0 o ((2, v, st) :: l) (.er 2 st)
  | name {o m st : Int} {l : List Tok} : 0 ≤ m → m < 15 → okn w m → Prs w n 0 o ((1, wn m, st) :: l) (.ok [(1, m)] l)
  | nameF {o m st : Int} {l : List Tok} : 0 ≤ m → m < 15 → ¬ okn w m → Prs w n 0 o ((1, wn m, st) :: l) (.er 5 st)
  | noName {o v st : Int} {l : List Tok} : (∀ m, 0 ≤ m → m < 15 → wn m ≠ v) → Prs w n 0 o ((1, v, st) :: l) (.er 1 st)
  | none {o : Int} {l : List Tok} : (∀ t r, l = t :: r → t.1 ≠ 1 ∧ t.1 ≠ 2) → ¬ hdS l 40 → ¬ hdS l 124 → ¬ hdS l 45 → Prs w n 0 o l (.er 1 (plc n l))
  | deep {o b st : Int} {l : List Tok} : b = 40 ∨ b = 124 ∨ b = 45 → ¬ o < 8 → Prs w n 0 o ((3, b, st) :: l) (.er 3 st)
  | neg {o st : Int} {l l' : List Tok} {cd : List (Int × Int)} : o < 8 → Prs w n 0 (o + 1) l (.ok cd l') → Prs w n 0 o ((3, 45, st) :: l) (.ok (cd ++ [(2, 0)]) l')
  | negF {o st f p : Int} {l : List Tok} : o < 8 → Prs w n 0 (o + 1) l (.er f p) → Prs w n 0 o ((3, 45, st) :: l) (.er f p)
  | par {o st st' : Int} {l l' : List Tok} {cd : List (Int × Int)} : o < 8 → Prs w n 4 (o + 1) l (.ok cd ((3, 41, st') :: l')) → Prs w n 0 o ((3, 40, st) :: l) (.ok cd l')
  | bar {o st st' : Int} {l l' : List Tok} {cd : List (Int × Int)} : o < 8 → Prs w n 4 (o + 1) l (.ok cd ((3, 124, st') :: l')) → Prs w n 0 o ((3, 124, st) :: l) (.ok (cd ++ [(3, 0)]) l')
  | inF {o b st f p : Int} {l : List Tok} : b = 40 ∨ b = 124 → o < 8 → Prs w n 4 (o + 1) l (.er f p) → Prs w n 0 o ((3, b, st) :: l) (.er f p)
  | parN {o st : Int} {l l' : List Tok} {cd : List (Int × Int)} : o < 8 → Prs w n 4 (o + 1) l (.ok cd l') → ¬ hdS l' 41 → ¬ (hdS l' 43 ∨ hdS l' 45 ∨ hdS l' 42 ∨ hdS l' 47) → Prs w n 0 o ((3, 40, st) :: l) (.er 1 (plc n l'))
  | barN {o st : Int} {l l' : List Tok} {cd : List (Int × Int)} : o < 8 → Prs w n 4 (o + 1) l (.ok cd l') → ¬ hdS l' 124 → ¬ (hdS l' 43 ∨ hdS l' 45 ∨ hdS l' 42 ∨ hdS l' 47) → Prs w n 0 o ((3, 124, st) :: l) (.er 1 (plc n l'))
  | t0 {o : Int} {l : List Tok} : Prs w n 1 o l (.ok [] l)
  | t1 {o b st : Int} {l l1 : List Tok} {cd : List (Int × Int)} {a : Ans} : b = 42 ∨ b = 47 → Prs w n 0 o l (.ok cd l1) → Prs w n 1 o l1 a → Prs w n 1 o ((3, b, st) :: l) (a.pre (cd ++ [(opc b, 0)]))
  | t1F {o b st f p : Int} {l : List Tok} : b = 42 ∨ b = 47 → Prs w n 0 o l (.er f p) → Prs w n 1 o ((3, b, st) :: l) (.er f p)
  | pr {o : Int} {l l1 : List Tok} {cd : List (Int × Int)} {a : Ans} : Prs w n 0 o l (.ok cd l1) → Prs w n 1 o l1 a → Prs w n 2 o l (a.pre cd)
  | prF {o f p : Int} {l : List Tok} : Prs w n 0 o l (.er f p) → Prs w n 2 o l (.er f p)
  | s0 {o : Int} {l : List Tok} : Prs w n 3 o l (.ok [] l)
  | s1 {o b st : Int} {l l1 : List Tok} {cd : List (Int × Int)} {a : Ans} : b = 43 ∨ b = 45 → Prs w n 2 o l (.ok cd l1) → Prs w n 3 o l1 a → Prs w n 3 o ((3, b, st) :: l) (a.pre (cd ++ [(opc b, 0)]))
  | s1F {o b st f p : Int} {l : List Tok} : b = 43 ∨ b = 45 → Prs w n 2 o l (.er f p) → Prs w n 3 o ((3, b, st) :: l) (.er f p)
  | sm {o : Int} {l l1 : List Tok} {cd : List (Int × Int)} {a : Ans} : Prs w n 2 o l (.ok cd l1) → Prs w n 3 o l1 a → Prs w n 4 o l (a.pre cd)
  | smF {o f p : Int} {l : List Tok} : Prs w n 2 o l (.er f p) → Prs w n 4 o l (.er f p)
/-- each sign takes a token -/
theorem prs_n {w n : Int} {k : Nat} {o : Int} {l : List Tok} {a : Ans} (h : Prs w n k o l a) : ∀ cd l', a = .ok cd l' → cd.length + l'.length ≤ l.length ∧ (k = 0 ∨ k = 2 ∨ k = 4 → cd ≠ [] ∧ l'.length < l.length) := by
  have pr_ : ∀ (c : List (Int × Int)) (a : Ans) (cd : List (Int × Int)) (l' : List Tok), a.pre c = .ok cd l' → ∃ cd', a = .ok cd' l' ∧ cd = c ++ cd' := by
    intro c a cd l' e
    cases a with
    | ok x y => simp only [Ans.pre, Ans.ok.injEq] at e; exact ⟨x, by rw [e.2], e.1.symm⟩
    | er x y => simp [Ans.pre] at e
  induction h with
  | num => intro cd l' e; simp only [Ans.ok.injEq] at e; obtain ⟨rfl, rfl⟩ := e; simp; omega
  | numF => intro cd l' e; simp at e
  | name => intro cd l' e; simp only [Ans.ok.injEq] at e; obtain ⟨rfl, rfl⟩ := e; simp; omega
  | nameF => intro cd l' e; simp at e
  | noName => intro cd l' e; simp at e
  | none => intro cd l' e; simp at e
  | deep => intro cd l' e; simp at e
  | neg _ _ ih =>
    intro cd l' e; simp only [Ans.ok.injEq] at e; obtain ⟨rfl, rfl⟩ := e
    have := ih _ _ rfl
    simp only [List.length_append, List.length_cons, List.length_nil]
    exact ⟨by omega, fun _ => ⟨by simp, by have := (this.2 (Or.inl rfl)).2; omega⟩⟩
  | negF => intro cd l' e; simp at e
  | par _ _ ih =>
    intro cd l' e; simp only [Ans.ok.injEq] at e; obtain ⟨rfl, rfl⟩ := e
    have := ih _ _ rfl
    have t := this.2 (Or.inr (Or.inr rfl))
    simp only [List.length_cons] at this t ⊢
    exact ⟨by omega, fun _ => ⟨t.1, by omega⟩⟩
  | bar _ _ ih =>
    intro cd l' e; simp only [Ans.ok.injEq] at e; obtain ⟨rfl, rfl⟩ := e
    have := ih _ _ rfl
    have t := this.2 (Or.inr (Or.inr rfl))
    simp only [List.length_append, List.length_cons, List.length_nil] at this t ⊢
    exact ⟨by omega, fun _ => ⟨by simp, by omega⟩⟩
  | inF => intro cd l' e; simp at e
  | parN => intro cd l' e; simp at e
  | barN => intro cd l' e; simp at e
  | t0 => intro cd l' e; simp only [Ans.ok.injEq] at e; obtain ⟨rfl, rfl⟩ := e; exact ⟨by simp, fun q => by omega⟩
  | t1 _ _ _ ih1 ih2 =>
    intro cd l' e
    obtain ⟨cd', ea, ec⟩ := pr_ _ _ _ _ e
    have a1 := ih1 _ _ rfl
    have a2 := ih2 _ _ ea
    have t := a1.2 (Or.inl rfl)
    rw [ec]
    simp only [List.length_append, List.length_cons, List.length_nil]
    exact ⟨by omega, fun q => by omega⟩
  | t1F => intro cd l' e; simp at e
  | pr _ _ ih1 ih2 =>
    intro cd l' e
    obtain ⟨cd', ea, ec⟩ := pr_ _ _ _ _ e
    have a1 := ih1 _ _ rfl
    have a2 := ih2 _ _ ea
    have t := a1.2 (Or.inl rfl)
    rw [ec]
    simp only [List.length_append]
    exact ⟨by omega, fun q => ⟨by simp [t.1], by omega⟩⟩
  | prF => intro cd l' e; simp at e
  | s0 => intro cd l' e; simp only [Ans.ok.injEq] at e; obtain ⟨rfl, rfl⟩ := e; exact ⟨by simp, fun q => by omega⟩
  | s1 _ _ _ ih1 ih2 =>
    intro cd l' e
    obtain ⟨cd', ea, ec⟩ := pr_ _ _ _ _ e
    have a1 := ih1 _ _ rfl
    have a2 := ih2 _ _ ea
    have t := a1.2 (Or.inr (Or.inl rfl))
    rw [ec]
    simp only [List.length_append, List.length_cons, List.length_nil]
    exact ⟨by omega, fun q => by omega⟩
  | s1F => intro cd l' e; simp at e
  | sm _ _ ih1 ih2 =>
    intro cd l' e
    obtain ⟨cd', ea, ec⟩ := pr_ _ _ _ _ e
    have a1 := ih1 _ _ rfl
    have a2 := ih2 _ _ ea
    have t := a1.2 (Or.inr (Or.inl rfl))
    rw [ec]
    simp only [List.length_append]
    exact ⟨by omega, fun q => ⟨by simp [t.1], by omega⟩⟩
  | smF => intro cd l' e; simp at e
/-- a sum's sign by sign reckoning goes well -/
theorem prs_w {w n : Int} {k : Nat} {o : Int} {l : List Tok} {a : Ans} (h : Prs w n k o l a) : ∀ cd l', a = .ok cd l' → 0 ≤ o → o ≤ 8 → ∀ (m : Nat) (rest : List (Int × Int)), (k = 0 → (m : Int) ≤ 2 * o + 2 → wfc (okn w) rest (m + 1) → wfc (okn w) (cd ++ rest) m) ∧ (k = 1 → (m : Int) ≤ 2 * o + 1 → wfc (okn w) rest (m + 1) → wfc (okn w) (cd ++ rest) (m + 1)) ∧ (k = 2 → (m : Int) ≤ 2 * o + 1 → wfc (okn w) rest (m + 1) → wfc (okn w) (cd ++ rest) m) ∧ (k = 3 → (m : Int) ≤ 2 * o → wfc (okn w) rest (m + 1) → wfc (okn w) (cd ++ rest) (m + 1)) ∧ (k = 4 → (m : Int) ≤ 2 * o → wfc (okn w) rest (m + 1) → wfc (okn w) (cd ++ rest) m) := by
  have pr_ : ∀ (c : List (Int × Int)) (a : Ans) (cd : List (Int × Int)) (l' : List Tok), a.pre c = .ok cd l' → ∃ cd', a = .ok cd' l' ∧ cd = c ++ cd' := by
    intro c a cd l' e
    cases a with
    | ok x y => simp only [Ans.pre, Ans.ok.injEq] at e; exact ⟨x, by rw [e.2], e.1.symm⟩
    | er x y => simp [Ans.pre] at e
  have one : ∀ {cd : List (Int × Int)} {o : Int} {m : Nat} {rest : List (Int × Int)}, ((m : Int) ≤ 2 * o + 2 → wfc (okn w) rest (m + 1) → wfc (okn w) (cd ++ rest) m) → ((0 : Nat) = 0 → (m : Int) ≤ 2 * o + 2 → wfc (okn w) rest (m + 1) → wfc (okn w) (cd ++ rest) m) ∧ ((0 : Nat) = 1 → (m : Int) ≤ 2 * o + 1 → wfc (okn w) rest (m + 1) → wfc (okn w) (cd ++ rest) (m + 1)) ∧ ((0 : Nat) = 2 → (m : Int) ≤ 2 * o + 1 → wfc (okn w) rest (m + 1) → wfc (okn w) (cd ++ rest) m) ∧ ((0 : Nat) = 3 → (m : Int) ≤ 2 * o → wfc (okn w) rest (m + 1) → wfc (okn w) (cd ++ rest) (m + 1)) ∧ ((0 : Nat) = 4 → (m : Int) ≤ 2 * o → wfc (okn w) rest (m + 1) → wfc (okn w) (cd ++ rest) m) := fun h => ⟨fun _ => h, fun q => absurd q (by decide), fun q => absurd q (by decide), fun q => absurd q (by decide), fun q => absurd q (by decide)⟩
  have bin : ∀ {b : Int} {rest : List (Int × Int)} {m : Nat}, (b = 42 ∨ b = 47 ∨ b = 43 ∨ b = 45) → m + 2 ≤ 30 → wfc (okn w) rest (m + 1) → wfc (okn w) ((opc b, 0) :: rest) (m + 2) := by
    intro b rest m hb hm hr
    refine Or.inr (Or.inr ⟨?_, ?_, by omega, hm, hr⟩)
    · show 4 ≤ opc b; unfold opc; rcases hb with rfl | rfl | rfl | rfl <;> decide
    · show opc b ≤ 7; unfold opc; rcases hb with rfl | rfl | rfl | rfl <;> decide
  induction h with
  | num h1 h2 =>
    intro cd l' e o0 o8 m rest; simp only [Ans.ok.injEq] at e; obtain ⟨rfl, rfl⟩ := e
    exact one (fun hm hr => Or.inl (Or.inl ⟨rfl, h1, h2, by omega, hr⟩))
  | numF => intro cd l' e; simp at e
  | name h1 h2 h3 =>
    intro cd l' e o0 o8 m rest; simp only [Ans.ok.injEq] at e; obtain ⟨rfl, rfl⟩ := e
    exact one (fun hm hr => Or.inl (Or.inr ⟨rfl, h3, h1, h2, by omega, hr⟩))
  | nameF => intro cd l' e; simp at e
  | noName => intro cd l' e; simp at e
  | none => intro cd l' e; simp at e
  | deep => intro cd l' e; simp at e
  | neg h1 _ ih =>
    intro cd l' e o0 o8 m rest; simp only [Ans.ok.injEq] at e; obtain ⟨rfl, rfl⟩ := e
    refine one (fun hm hr => ?_)
    rw [List.append_assoc]
    exact (ih _ _ rfl (by omega) (by omega) m _).1 rfl (by omega) (Or.inr (Or.inl ⟨Or.inl rfl, by omega, by omega, hr⟩))
  | negF => intro cd l' e; simp at e
  | par h1 _ ih =>
    intro cd l' e o0 o8 m rest; simp only [Ans.ok.injEq] at e; obtain ⟨rfl, rfl⟩ := e
    exact one (fun hm hr => (ih _ _ rfl (by omega) (by omega) m _).2.2.2.2 rfl (by omega) hr)
  | bar h1 _ ih =>
    intro cd l' e o0 o8 m rest; simp only [Ans.ok.injEq] at e; obtain ⟨rfl, rfl⟩ := e
    refine one (fun hm hr => ?_)
    rw [List.append_assoc]
    exact (ih _ _ rfl (by omega) (by omega) m _).2.2.2.2 rfl (by omega) (Or.inr (Or.inl ⟨Or.inr rfl, by omega, by omega, hr⟩))
  | inF => intro cd l' e; simp at e
  | parN => intro cd l' e; simp at e
  | barN => intro cd l' e; simp at e
  | t0 =>
    intro cd l' e o0 o8 m rest; simp only [Ans.ok.injEq] at e; obtain ⟨rfl, rfl⟩ := e
    exact ⟨fun q => absurd q (by decide), fun _ _ hr => hr, fun q => absurd q (by decide), fun q => absurd q (by decide), fun q => absurd q (by decide)⟩
  | t1 hb _ _ ih1 ih2 =>
    intro cd l' e o0 o8 m rest
    obtain ⟨cd', ea, ec⟩ := pr_ _ _ _ _ e
    refine ⟨fun q => absurd q (by decide), fun _ hm hr => ?_, fun q => absurd q (by decide), fun q => absurd q (by decide), fun q => absurd q (by decide)⟩
    rw [ec, List.append_assoc, List.append_assoc]
    refine (ih1 _ _ rfl o0 o8 (m + 1) _).1 rfl (by omega) (bin (by omega) (by omega) ?_)
    exact (ih2 _ _ ea o0 o8 m _).2.1 rfl hm hr
  | t1F => intro cd l' e; simp at e
  | pr _ _ ih1 ih2 =>
    intro cd l' e o0 o8 m rest
    obtain ⟨cd', ea, ec⟩ := pr_ _ _ _ _ e
    refine ⟨fun q => absurd q (by decide), fun q => absurd q (by decide), fun _ hm hr => ?_, fun q => absurd q (by decide), fun q => absurd q (by decide)⟩
    rw [ec, List.append_assoc]
    exact (ih1 _ _ rfl o0 o8 m _).1 rfl (by omega) ((ih2 _ _ ea o0 o8 m _).2.1 rfl hm hr)
  | prF => intro cd l' e; simp at e
  | s0 =>
    intro cd l' e o0 o8 m rest; simp only [Ans.ok.injEq] at e; obtain ⟨rfl, rfl⟩ := e
    exact ⟨fun q => absurd q (by decide), fun q => absurd q (by decide), fun q => absurd q (by decide), fun _ _ hr => hr, fun q => absurd q (by decide)⟩
  | s1 hb _ _ ih1 ih2 =>
    intro cd l' e o0 o8 m rest
    obtain ⟨cd', ea, ec⟩ := pr_ _ _ _ _ e
    refine ⟨fun q => absurd q (by decide), fun q => absurd q (by decide), fun q => absurd q (by decide), fun _ hm hr => ?_, fun q => absurd q (by decide)⟩
    rw [ec, List.append_assoc, List.append_assoc]
    refine (ih1 _ _ rfl o0 o8 (m + 1) _).2.2.1 rfl (by omega) (bin (by omega) (by omega) ?_)
    exact (ih2 _ _ ea o0 o8 m _).2.2.2.1 rfl hm hr
  | s1F => intro cd l' e; simp at e
  | sm _ _ ih1 ih2 =>
    intro cd l' e o0 o8 m rest
    obtain ⟨cd', ea, ec⟩ := pr_ _ _ _ _ e
    refine ⟨fun q => absurd q (by decide), fun q => absurd q (by decide), fun q => absurd q (by decide), fun q => absurd q (by decide), fun _ hm hr => ?_⟩
    rw [ec, List.append_assoc]
    exact (ih1 _ _ rfl o0 o8 m _).2.2.1 rfl (by omega) ((ih2 _ _ ea o0 o8 m _).2.2.2.1 rfl hm hr)
  | smF => intro cd l' e; simp at e
theorem sum_wf {w n : Int} {l l' : List Tok} {cd : List (Int × Int)} (h : Prs w n 4 0 l (.ok cd l')) : cd ≠ [] ∧ wfc (okn w) cd 0 := by
  have a := (prs_n h _ _ rfl).2 (Or.inr (Or.inr rfl))
  have b := (prs_w h _ _ rfl (by omega) (by omega) 0 []).2.2.2.2 rfl (by omega) rfl
  rw [List.append_nil] at b
  exact ⟨a.1, b⟩
end
