noncomputable section
set_option maxRecDepth 20000
/-! a law's sum, out of tokens: what it is, or its fault -/
abbrev Ans : Type := (List (Int × Int) × List Tok) ⊕ (Int × Int)
def Ans.pre (c : List (Int × Int)) : Ans → Ans
  | .inl (cd, l) => .inl ((c ++ cd), l)
  | .inr (f, p) => .inr (f, p)
def opc (b : Int) : Int := if b = 43 then 4 else if b = 45 then 5 else if b = 42 then 6 else 7
def hdS (l : List Tok) (b : Int) : Prop := ∃ st r, l = (3, b, st) :: r
/-- 0 one, 1 behind one of a product, 2 a product, 3 behind a product of a sum, 4 a sum -/
def PrsC (w : Int) (n : Int) (R : Nat → Int → List Tok → Ans → Prop) : Prop :=
  (∀ (o : Int) (v : Int) (st : Int) (l : List Tok), 0 ≤ v → v ≤ 9999 → R 0 o ((2, v, st) :: l) (.inl ([(0, v)], l))) ∧
  (∀ (o : Int) (v : Int) (st : Int) (l : List Tok), 9999 < v → R 0 o ((2, v, st) :: l) (.inr (2, st))) ∧
  (∀ (o : Int) (m : Int) (st : Int) (l : List Tok), 0 ≤ m → m < 15 → okn w m → R 0 o ((1, wn m, st) :: l) (.inl ([(1, m)], l))) ∧
  (∀ (o : Int) (m : Int) (st : Int) (l : List Tok), 0 ≤ m → m < 15 → ¬ okn w m → R 0 o ((1, wn m, st) :: l) (.inr (5, st))) ∧
  (∀ (o : Int) (v : Int) (st : Int) (l : List Tok), (∀ m, 0 ≤ m → m < 15 → wn m ≠ v) → R 0 o ((1, v, st) :: l) (.inr (1, st))) ∧
  (∀ (o : Int) (l : List Tok), (∀ t r, l = t :: r → t.1 ≠ 1 ∧ t.1 ≠ 2) → ¬ hdS l 40 → ¬ hdS l 124 → ¬ hdS l 45 → R 0 o l (.inr (1, (plc n l)))) ∧
  (∀ (o : Int) (b : Int) (st : Int) (l : List Tok), b = 40 ∨ b = 124 ∨ b = 45 → ¬ o < 8 → R 0 o ((3, b, st) :: l) (.inr (3, st))) ∧
  (∀ (o : Int) (st : Int) (l : List Tok) (l' : List Tok) (cd : List (Int × Int)), o < 8 → R 0 (o + 1) l (.inl (cd, l')) → R 0 o ((3, 45, st) :: l) (.inl ((cd ++ [(2, 0)]), l'))) ∧
  (∀ (o : Int) (st : Int) (f : Int) (p : Int) (l : List Tok), o < 8 → R 0 (o + 1) l (.inr (f, p)) → R 0 o ((3, 45, st) :: l) (.inr (f, p))) ∧
  (∀ (o : Int) (st : Int) (st' : Int) (l : List Tok) (l' : List Tok) (cd : List (Int × Int)), o < 8 → R 4 (o + 1) l (.inl (cd, ((3, 41, st') :: l'))) → R 0 o ((3, 40, st) :: l) (.inl (cd, l'))) ∧
  (∀ (o : Int) (st : Int) (st' : Int) (l : List Tok) (l' : List Tok) (cd : List (Int × Int)), o < 8 → R 4 (o + 1) l (.inl (cd, ((3, 124, st') :: l'))) → R 0 o ((3, 124, st) :: l) (.inl ((cd ++ [(3, 0)]), l'))) ∧
  (∀ (o : Int) (b : Int) (st : Int) (f : Int) (p : Int) (l : List Tok), b = 40 ∨ b = 124 → o < 8 → R 4 (o + 1) l (.inr (f, p)) → R 0 o ((3, b, st) :: l) (.inr (f, p))) ∧
  (∀ (o : Int) (st : Int) (l : List Tok) (l' : List Tok) (cd : List (Int × Int)), o < 8 → R 4 (o + 1) l (.inl (cd, l')) → ¬ hdS l' 41 → ¬ (hdS l' 43 ∨ hdS l' 45 ∨ hdS l' 42 ∨ hdS l' 47) → R 0 o ((3, 40, st) :: l) (.inr (1, (plc n l')))) ∧
  (∀ (o : Int) (st : Int) (l : List Tok) (l' : List Tok) (cd : List (Int × Int)), o < 8 → R 4 (o + 1) l (.inl (cd, l')) → ¬ hdS l' 124 → ¬ (hdS l' 43 ∨ hdS l' 45 ∨ hdS l' 42 ∨ hdS l' 47) → R 0 o ((3, 124, st) :: l) (.inr (1, (plc n l')))) ∧
  (∀ (o : Int) (l : List Tok), R 1 o l (.inl ([], l))) ∧
  (∀ (o : Int) (b : Int) (st : Int) (l : List Tok) (l1 : List Tok) (cd : List (Int × Int)) (a : Ans), b = 42 ∨ b = 47 → R 0 o l (.inl (cd, l1)) → R 1 o l1 a → R 1 o ((3, b, st) :: l) (Ans.pre (cd ++ [(opc b, 0)]) a)) ∧
  (∀ (o : Int) (b : Int) (st : Int) (f : Int) (p : Int) (l : List Tok), b = 42 ∨ b = 47 → R 0 o l (.inr (f, p)) → R 1 o ((3, b, st) :: l) (.inr (f, p))) ∧
  (∀ (o : Int) (l : List Tok) (l1 : List Tok) (cd : List (Int × Int)) (a : Ans), R 0 o l (.inl (cd, l1)) → R 1 o l1 a → R 2 o l (Ans.pre cd a)) ∧
  (∀ (o : Int) (f : Int) (p : Int) (l : List Tok), R 0 o l (.inr (f, p)) → R 2 o l (.inr (f, p))) ∧
  (∀ (o : Int) (l : List Tok), R 3 o l (.inl ([], l))) ∧
  (∀ (o : Int) (b : Int) (st : Int) (l : List Tok) (l1 : List Tok) (cd : List (Int × Int)) (a : Ans), b = 43 ∨ b = 45 → R 2 o l (.inl (cd, l1)) → R 3 o l1 a → R 3 o ((3, b, st) :: l) (Ans.pre (cd ++ [(opc b, 0)]) a)) ∧
  (∀ (o : Int) (b : Int) (st : Int) (f : Int) (p : Int) (l : List Tok), b = 43 ∨ b = 45 → R 2 o l (.inr (f, p)) → R 3 o ((3, b, st) :: l) (.inr (f, p))) ∧
  (∀ (o : Int) (l : List Tok) (l1 : List Tok) (cd : List (Int × Int)) (a : Ans), R 2 o l (.inl (cd, l1)) → R 3 o l1 a → R 4 o l (Ans.pre cd a)) ∧
  (∀ (o : Int) (f : Int) (p : Int) (l : List Tok), R 2 o l (.inr (f, p)) → R 4 o l (.inr (f, p)))
def Prs (w : Int) (n : Int) (k : Nat) (o : Int) (l : List Tok) (a : Ans) : Prop := ∀ R : Nat → Int → List Tok → Ans → Prop, PrsC w n R → R k o l a
theorem Prs.num {w : Int} {n : Int} {o : Int} {v : Int} {st : Int} {l : List Tok} (a0 : 0 ≤ v) (a1 : v ≤ 9999) : Prs w n 0 o ((2, v, st) :: l) (.inl ([(0, v)], l)) := fun R hR => hR.1 o v st l a0 a1
theorem Prs.numF {w : Int} {n : Int} {o : Int} {v : Int} {st : Int} {l : List Tok} (a0 : 9999 < v) : Prs w n 0 o ((2, v, st) :: l) (.inr (2, st)) := fun R hR => hR.2.1 o v st l a0
theorem Prs.name {w : Int} {n : Int} {o : Int} {m : Int} {st : Int} {l : List Tok} (a0 : 0 ≤ m) (a1 : m < 15) (a2 : okn w m) : Prs w n 0 o ((1, wn m, st) :: l) (.inl ([(1, m)], l)) := fun R hR => hR.2.2.1 o m st l a0 a1 a2
theorem Prs.nameF {w : Int} {n : Int} {o : Int} {m : Int} {st : Int} {l : List Tok} (a0 : 0 ≤ m) (a1 : m < 15) (a2 : ¬ okn w m) : Prs w n 0 o ((1, wn m, st) :: l) (.inr (5, st)) := fun R hR => hR.2.2.2.1 o m st l a0 a1 a2
theorem Prs.noName {w : Int} {n : Int} {o : Int} {v : Int} {st : Int} {l : List Tok} (a0 : (∀ m, 0 ≤ m → m < 15 → wn m ≠ v)) : Prs w n 0 o ((1, v, st) :: l) (.inr (1, st)) := fun R hR => hR.2.2.2.2.1 o v st l a0
theorem Prs.none {w : Int} {n : Int} {o : Int} {l : List Tok} (a0 : (∀ t r, l = t :: r → t.1 ≠ 1 ∧ t.1 ≠ 2)) (a1 : ¬ hdS l 40) (a2 : ¬ hdS l 124) (a3 : ¬ hdS l 45) : Prs w n 0 o l (.inr (1, (plc n l))) := fun R hR => hR.2.2.2.2.2.1 o l a0 a1 a2 a3
theorem Prs.deep {w : Int} {n : Int} {o : Int} {b : Int} {st : Int} {l : List Tok} (a0 : b = 40 ∨ b = 124 ∨ b = 45) (a1 : ¬ o < 8) : Prs w n 0 o ((3, b, st) :: l) (.inr (3, st)) := fun R hR => hR.2.2.2.2.2.2.1 o b st l a0 a1
theorem Prs.neg {w : Int} {n : Int} {o : Int} {st : Int} {l : List Tok} {l' : List Tok} {cd : List (Int × Int)} (a0 : o < 8) (a1 : Prs w n 0 (o + 1) l (.inl (cd, l'))) : Prs w n 0 o ((3, 45, st) :: l) (.inl ((cd ++ [(2, 0)]), l')) := fun R hR => hR.2.2.2.2.2.2.2.1 o st l l' cd a0 (a1 R hR)
theorem Prs.negF {w : Int} {n : Int} {o : Int} {st : Int} {f : Int} {p : Int} {l : List Tok} (a0 : o < 8) (a1 : Prs w n 0 (o + 1) l (.inr (f, p))) : Prs w n 0 o ((3, 45, st) :: l) (.inr (f, p)) := fun R hR => hR.2.2.2.2.2.2.2.2.1 o st f p l a0 (a1 R hR)
theorem Prs.par {w : Int} {n : Int} {o : Int} {st : Int} {st' : Int} {l : List Tok} {l' : List Tok} {cd : List (Int × Int)} (a0 : o < 8) (a1 : Prs w n 4 (o + 1) l (.inl (cd, ((3, 41, st') :: l')))) : Prs w n 0 o ((3, 40, st) :: l) (.inl (cd, l')) := fun R hR => hR.2.2.2.2.2.2.2.2.2.1 o st st' l l' cd a0 (a1 R hR)
theorem Prs.bar {w : Int} {n : Int} {o : Int} {st : Int} {st' : Int} {l : List Tok} {l' : List Tok} {cd : List (Int × Int)} (a0 : o < 8) (a1 : Prs w n 4 (o + 1) l (.inl (cd, ((3, 124, st') :: l')))) : Prs w n 0 o ((3, 124, st) :: l) (.inl ((cd ++ [(3, 0)]), l')) := fun R hR => hR.2.2.2.2.2.2.2.2.2.2.1 o st st' l l' cd a0 (a1 R hR)
theorem Prs.inF {w : Int} {n : Int} {o : Int} {b : Int} {st : Int} {f : Int} {p : Int} {l : List Tok} (a0 : b = 40 ∨ b = 124) (a1 : o < 8) (a2 : Prs w n 4 (o + 1) l (.inr (f, p))) : Prs w n 0 o ((3, b, st) :: l) (.inr (f, p)) := fun R hR => hR.2.2.2.2.2.2.2.2.2.2.2.1 o b st f p l a0 a1 (a2 R hR)
theorem Prs.parN {w : Int} {n : Int} {o : Int} {st : Int} {l : List Tok} {l' : List Tok} {cd : List (Int × Int)} (a0 : o < 8) (a1 : Prs w n 4 (o + 1) l (.inl (cd, l'))) (a2 : ¬ hdS l' 41) (a3 : ¬ (hdS l' 43 ∨ hdS l' 45 ∨ hdS l' 42 ∨ hdS l' 47)) : Prs w n 0 o ((3, 40, st) :: l) (.inr (1, (plc n l'))) := fun R hR => hR.2.2.2.2.2.2.2.2.2.2.2.2.1 o st l l' cd a0 (a1 R hR) a2 a3
theorem Prs.barN {w : Int} {n : Int} {o : Int} {st : Int} {l : List Tok} {l' : List Tok} {cd : List (Int × Int)} (a0 : o < 8) (a1 : Prs w n 4 (o + 1) l (.inl (cd, l'))) (a2 : ¬ hdS l' 124) (a3 : ¬ (hdS l' 43 ∨ hdS l' 45 ∨ hdS l' 42 ∨ hdS l' 47)) : Prs w n 0 o ((3, 124, st) :: l) (.inr (1, (plc n l'))) := fun R hR => hR.2.2.2.2.2.2.2.2.2.2.2.2.2.1 o st l l' cd a0 (a1 R hR) a2 a3
theorem Prs.t0 {w : Int} {n : Int} {o : Int} {l : List Tok}  : Prs w n 1 o l (.inl ([], l)) := fun R hR => hR.2.2.2.2.2.2.2.2.2.2.2.2.2.2.1 o l
theorem Prs.t1 {w : Int} {n : Int} {o : Int} {b : Int} {st : Int} {l : List Tok} {l1 : List Tok} {cd : List (Int × Int)} {a : Ans} (a0 : b = 42 ∨ b = 47) (a1 : Prs w n 0 o l (.inl (cd, l1))) (a2 : Prs w n 1 o l1 a) : Prs w n 1 o ((3, b, st) :: l) (Ans.pre (cd ++ [(opc b, 0)]) a) := fun R hR => hR.2.2.2.2.2.2.2.2.2.2.2.2.2.2.2.1 o b st l l1 cd a a0 (a1 R hR) (a2 R hR)
theorem Prs.t1F {w : Int} {n : Int} {o : Int} {b : Int} {st : Int} {f : Int} {p : Int} {l : List Tok} (a0 : b = 42 ∨ b = 47) (a1 : Prs w n 0 o l (.inr (f, p))) : Prs w n 1 o ((3, b, st) :: l) (.inr (f, p)) := fun R hR => hR.2.2.2.2.2.2.2.2.2.2.2.2.2.2.2.2.1 o b st f p l a0 (a1 R hR)
theorem Prs.pr {w : Int} {n : Int} {o : Int} {l : List Tok} {l1 : List Tok} {cd : List (Int × Int)} {a : Ans} (a0 : Prs w n 0 o l (.inl (cd, l1))) (a1 : Prs w n 1 o l1 a) : Prs w n 2 o l (Ans.pre cd a) := fun R hR => hR.2.2.2.2.2.2.2.2.2.2.2.2.2.2.2.2.2.1 o l l1 cd a (a0 R hR) (a1 R hR)
theorem Prs.prF {w : Int} {n : Int} {o : Int} {f : Int} {p : Int} {l : List Tok} (a0 : Prs w n 0 o l (.inr (f, p))) : Prs w n 2 o l (.inr (f, p)) := fun R hR => hR.2.2.2.2.2.2.2.2.2.2.2.2.2.2.2.2.2.2.1 o f p l (a0 R hR)
theorem Prs.s0 {w : Int} {n : Int} {o : Int} {l : List Tok}  : Prs w n 3 o l (.inl ([], l)) := fun R hR => hR.2.2.2.2.2.2.2.2.2.2.2.2.2.2.2.2.2.2.2.1 o l
theorem Prs.s1 {w : Int} {n : Int} {o : Int} {b : Int} {st : Int} {l : List Tok} {l1 : List Tok} {cd : List (Int × Int)} {a : Ans} (a0 : b = 43 ∨ b = 45) (a1 : Prs w n 2 o l (.inl (cd, l1))) (a2 : Prs w n 3 o l1 a) : Prs w n 3 o ((3, b, st) :: l) (Ans.pre (cd ++ [(opc b, 0)]) a) := fun R hR => hR.2.2.2.2.2.2.2.2.2.2.2.2.2.2.2.2.2.2.2.2.1 o b st l l1 cd a a0 (a1 R hR) (a2 R hR)
theorem Prs.s1F {w : Int} {n : Int} {o : Int} {b : Int} {st : Int} {f : Int} {p : Int} {l : List Tok} (a0 : b = 43 ∨ b = 45) (a1 : Prs w n 2 o l (.inr (f, p))) : Prs w n 3 o ((3, b, st) :: l) (.inr (f, p)) := fun R hR => hR.2.2.2.2.2.2.2.2.2.2.2.2.2.2.2.2.2.2.2.2.2.1 o b st f p l a0 (a1 R hR)
theorem Prs.sm {w : Int} {n : Int} {o : Int} {l : List Tok} {l1 : List Tok} {cd : List (Int × Int)} {a : Ans} (a0 : Prs w n 2 o l (.inl (cd, l1))) (a1 : Prs w n 3 o l1 a) : Prs w n 4 o l (Ans.pre cd a) := fun R hR => hR.2.2.2.2.2.2.2.2.2.2.2.2.2.2.2.2.2.2.2.2.2.2.1 o l l1 cd a (a0 R hR) (a1 R hR)
theorem Prs.smF {w : Int} {n : Int} {o : Int} {f : Int} {p : Int} {l : List Tok} (a0 : Prs w n 2 o l (.inr (f, p))) : Prs w n 4 o l (.inr (f, p)) := fun R hR => hR.2.2.2.2.2.2.2.2.2.2.2.2.2.2.2.2.2.2.2.2.2.2.2 o f p l (a0 R hR)
theorem Prs.ind {w : Int} {n : Int} {motive : (k : Nat) → (o : Int) → (l : List Tok) → (a : Ans) → Prs w n k o l a → Prop} (num_ : ∀ {o : Int} {v : Int} {st : Int} {l : List Tok} (a0 : 0 ≤ v) (a1 : v ≤ 9999), motive 0 o ((2, v, st) :: l) (.inl ([(0, v)], l)) (Prs.num a0 a1)) (numF_ : ∀ {o : Int} {v : Int} {st : Int} {l : List Tok} (a0 : 9999 < v), motive 0 o ((2, v, st) :: l) (.inr (2, st)) (Prs.numF a0)) (name_ : ∀ {o : Int} {m : Int} {st : Int} {l : List Tok} (a0 : 0 ≤ m) (a1 : m < 15) (a2 : okn w m), motive 0 o ((1, wn m, st) :: l) (.inl ([(1, m)], l)) (Prs.name a0 a1 a2)) (nameF_ : ∀ {o : Int} {m : Int} {st : Int} {l : List Tok} (a0 : 0 ≤ m) (a1 : m < 15) (a2 : ¬ okn w m), motive 0 o ((1, wn m, st) :: l) (.inr (5, st)) (Prs.nameF a0 a1 a2)) (noName_ : ∀ {o : Int} {v : Int} {st : Int} {l : List Tok} (a0 : (∀ m, 0 ≤ m → m < 15 → wn m ≠ v)), motive 0 o ((1, v, st) :: l) (.inr (1, st)) (Prs.noName a0)) (none_ : ∀ {o : Int} {l : List Tok} (a0 : (∀ t r, l = t :: r → t.1 ≠ 1 ∧ t.1 ≠ 2)) (a1 : ¬ hdS l 40) (a2 : ¬ hdS l 124) (a3 : ¬ hdS l 45), motive 0 o l (.inr (1, (plc n l))) (Prs.none a0 a1 a2 a3)) (deep_ : ∀ {o : Int} {b : Int} {st : Int} {l : List Tok} (a0 : b = 40 ∨ b = 124 ∨ b = 45) (a1 : ¬ o < 8), motive 0 o ((3, b, st) :: l) (.inr (3, st)) (Prs.deep a0 a1)) (neg_ : ∀ {o : Int} {st : Int} {l : List Tok} {l' : List Tok} {cd : List (Int × Int)} (a0 : o < 8) (a1 : Prs w n 0 (o + 1) l (.inl (cd, l'))), motive 0 (o + 1) l (.inl (cd, l')) a1 → motive 0 o ((3, 45, st) :: l) (.inl ((cd ++ [(2, 0)]), l')) (Prs.neg a0 a1)) (negF_ : ∀ {o : Int} {st : Int} {f : Int} {p : Int} {l : List Tok} (a0 : o < 8) (a1 : Prs w n 0 (o + 1) l (.inr (f, p))), motive 0 (o + 1) l (.inr (f, p)) a1 → motive 0 o ((3, 45, st) :: l) (.inr (f, p)) (Prs.negF a0 a1)) (par_ : ∀ {o : Int} {st : Int} {st' : Int} {l : List Tok} {l' : List Tok} {cd : List (Int × Int)} (a0 : o < 8) (a1 : Prs w n 4 (o + 1) l (.inl (cd, ((3, 41, st') :: l')))), motive 4 (o + 1) l (.inl (cd, ((3, 41, st') :: l'))) a1 → motive 0 o ((3, 40, st) :: l) (.inl (cd, l')) (Prs.par a0 a1)) (bar_ : ∀ {o : Int} {st : Int} {st' : Int} {l : List Tok} {l' : List Tok} {cd : List (Int × Int)} (a0 : o < 8) (a1 : Prs w n 4 (o + 1) l (.inl (cd, ((3, 124, st') :: l')))), motive 4 (o + 1) l (.inl (cd, ((3, 124, st') :: l'))) a1 → motive 0 o ((3, 124, st) :: l) (.inl ((cd ++ [(3, 0)]), l')) (Prs.bar a0 a1)) (inF_ : ∀ {o : Int} {b : Int} {st : Int} {f : Int} {p : Int} {l : List Tok} (a0 : b = 40 ∨ b = 124) (a1 : o < 8) (a2 : Prs w n 4 (o + 1) l (.inr (f, p))), motive 4 (o + 1) l (.inr (f, p)) a2 → motive 0 o ((3, b, st) :: l) (.inr (f, p)) (Prs.inF a0 a1 a2)) (parN_ : ∀ {o : Int} {st : Int} {l : List Tok} {l' : List Tok} {cd : List (Int × Int)} (a0 : o < 8) (a1 : Prs w n 4 (o + 1) l (.inl (cd, l'))) (a2 : ¬ hdS l' 41) (a3 : ¬ (hdS l' 43 ∨ hdS l' 45 ∨ hdS l' 42 ∨ hdS l' 47)), motive 4 (o + 1) l (.inl (cd, l')) a1 → motive 0 o ((3, 40, st) :: l) (.inr (1, (plc n l'))) (Prs.parN a0 a1 a2 a3)) (barN_ : ∀ {o : Int} {st : Int} {l : List Tok} {l' : List Tok} {cd : List (Int × Int)} (a0 : o < 8) (a1 : Prs w n 4 (o + 1) l (.inl (cd, l'))) (a2 : ¬ hdS l' 124) (a3 : ¬ (hdS l' 43 ∨ hdS l' 45 ∨ hdS l' 42 ∨ hdS l' 47)), motive 4 (o + 1) l (.inl (cd, l')) a1 → motive 0 o ((3, 124, st) :: l) (.inr (1, (plc n l'))) (Prs.barN a0 a1 a2 a3)) (t0_ : ∀ {o : Int} {l : List Tok}, motive 1 o l (.inl ([], l)) Prs.t0) (t1_ : ∀ {o : Int} {b : Int} {st : Int} {l : List Tok} {l1 : List Tok} {cd : List (Int × Int)} {a : Ans} (a0 : b = 42 ∨ b = 47) (a1 : Prs w n 0 o l (.inl (cd, l1))) (a2 : Prs w n 1 o l1 a), motive 0 o l (.inl (cd, l1)) a1 → motive 1 o l1 a a2 → motive 1 o ((3, b, st) :: l) (Ans.pre (cd ++ [(opc b, 0)]) a) (Prs.t1 a0 a1 a2)) (t1F_ : ∀ {o : Int} {b : Int} {st : Int} {f : Int} {p : Int} {l : List Tok} (a0 : b = 42 ∨ b = 47) (a1 : Prs w n 0 o l (.inr (f, p))), motive 0 o l (.inr (f, p)) a1 → motive 1 o ((3, b, st) :: l) (.inr (f, p)) (Prs.t1F a0 a1)) (pr_ : ∀ {o : Int} {l : List Tok} {l1 : List Tok} {cd : List (Int × Int)} {a : Ans} (a0 : Prs w n 0 o l (.inl (cd, l1))) (a1 : Prs w n 1 o l1 a), motive 0 o l (.inl (cd, l1)) a0 → motive 1 o l1 a a1 → motive 2 o l (Ans.pre cd a) (Prs.pr a0 a1)) (prF_ : ∀ {o : Int} {f : Int} {p : Int} {l : List Tok} (a0 : Prs w n 0 o l (.inr (f, p))), motive 0 o l (.inr (f, p)) a0 → motive 2 o l (.inr (f, p)) (Prs.prF a0)) (s0_ : ∀ {o : Int} {l : List Tok}, motive 3 o l (.inl ([], l)) Prs.s0) (s1_ : ∀ {o : Int} {b : Int} {st : Int} {l : List Tok} {l1 : List Tok} {cd : List (Int × Int)} {a : Ans} (a0 : b = 43 ∨ b = 45) (a1 : Prs w n 2 o l (.inl (cd, l1))) (a2 : Prs w n 3 o l1 a), motive 2 o l (.inl (cd, l1)) a1 → motive 3 o l1 a a2 → motive 3 o ((3, b, st) :: l) (Ans.pre (cd ++ [(opc b, 0)]) a) (Prs.s1 a0 a1 a2)) (s1F_ : ∀ {o : Int} {b : Int} {st : Int} {f : Int} {p : Int} {l : List Tok} (a0 : b = 43 ∨ b = 45) (a1 : Prs w n 2 o l (.inr (f, p))), motive 2 o l (.inr (f, p)) a1 → motive 3 o ((3, b, st) :: l) (.inr (f, p)) (Prs.s1F a0 a1)) (sm_ : ∀ {o : Int} {l : List Tok} {l1 : List Tok} {cd : List (Int × Int)} {a : Ans} (a0 : Prs w n 2 o l (.inl (cd, l1))) (a1 : Prs w n 3 o l1 a), motive 2 o l (.inl (cd, l1)) a0 → motive 3 o l1 a a1 → motive 4 o l (Ans.pre cd a) (Prs.sm a0 a1)) (smF_ : ∀ {o : Int} {f : Int} {p : Int} {l : List Tok} (a0 : Prs w n 2 o l (.inr (f, p))), motive 2 o l (.inr (f, p)) a0 → motive 4 o l (.inr (f, p)) (Prs.smF a0)) {k : Nat} {o : Int} {l : List Tok} {a : Ans} (h : Prs w n k o l a) : motive k o l a h := by
  obtain ⟨_, m⟩ := h (fun k o l a => ∃ h : Prs w n k o l a, motive k o l a h) ⟨fun o v st l a0 a1 => ⟨(Prs.num a0 a1), num_ a0 a1⟩,
    fun o v st l a0 => ⟨(Prs.numF a0), numF_ a0⟩,
    fun o m st l a0 a1 a2 => ⟨(Prs.name a0 a1 a2), name_ a0 a1 a2⟩,
    fun o m st l a0 a1 a2 => ⟨(Prs.nameF a0 a1 a2), nameF_ a0 a1 a2⟩,
    fun o v st l a0 => ⟨(Prs.noName a0), noName_ a0⟩,
    fun o l a0 a1 a2 a3 => ⟨(Prs.none a0 a1 a2 a3), none_ a0 a1 a2 a3⟩,
    fun o b st l a0 a1 => ⟨(Prs.deep a0 a1), deep_ a0 a1⟩,
    fun o st l l' cd a0 ⟨a1, m1⟩ => ⟨(Prs.neg a0 a1), neg_ a0 a1 m1⟩,
    fun o st f p l a0 ⟨a1, m1⟩ => ⟨(Prs.negF a0 a1), negF_ a0 a1 m1⟩,
    fun o st st' l l' cd a0 ⟨a1, m1⟩ => ⟨(Prs.par a0 a1), par_ a0 a1 m1⟩,
    fun o st st' l l' cd a0 ⟨a1, m1⟩ => ⟨(Prs.bar a0 a1), bar_ a0 a1 m1⟩,
    fun o b st f p l a0 a1 ⟨a2, m2⟩ => ⟨(Prs.inF a0 a1 a2), inF_ a0 a1 a2 m2⟩,
    fun o st l l' cd a0 ⟨a1, m1⟩ a2 a3 => ⟨(Prs.parN a0 a1 a2 a3), parN_ a0 a1 a2 a3 m1⟩,
    fun o st l l' cd a0 ⟨a1, m1⟩ a2 a3 => ⟨(Prs.barN a0 a1 a2 a3), barN_ a0 a1 a2 a3 m1⟩,
    fun o l => ⟨Prs.t0, t0_⟩,
    fun o b st l l1 cd a a0 ⟨a1, m1⟩ ⟨a2, m2⟩ => ⟨(Prs.t1 a0 a1 a2), t1_ a0 a1 a2 m1 m2⟩,
    fun o b st f p l a0 ⟨a1, m1⟩ => ⟨(Prs.t1F a0 a1), t1F_ a0 a1 m1⟩,
    fun o l l1 cd a ⟨a0, m0⟩ ⟨a1, m1⟩ => ⟨(Prs.pr a0 a1), pr_ a0 a1 m0 m1⟩,
    fun o f p l ⟨a0, m0⟩ => ⟨(Prs.prF a0), prF_ a0 m0⟩,
    fun o l => ⟨Prs.s0, s0_⟩,
    fun o b st l l1 cd a a0 ⟨a1, m1⟩ ⟨a2, m2⟩ => ⟨(Prs.s1 a0 a1 a2), s1_ a0 a1 a2 m1 m2⟩,
    fun o b st f p l a0 ⟨a1, m1⟩ => ⟨(Prs.s1F a0 a1), s1F_ a0 a1 m1⟩,
    fun o l l1 cd a ⟨a0, m0⟩ ⟨a1, m1⟩ => ⟨(Prs.sm a0 a1), sm_ a0 a1 m0 m1⟩,
    fun o f p l ⟨a0, m0⟩ => ⟨(Prs.smF a0), smF_ a0 m0⟩⟩
  exact m
/-- each sign takes a token -/
theorem prs_n {w n : Int} {k : Nat} {o : Int} {l : List Tok} {a : Ans} (h : Prs w n k o l a) : ∀ cd l', a = .inl (cd, l') → cd.length + l'.length ≤ l.length ∧ (k = 0 ∨ k = 2 ∨ k = 4 → cd ≠ [] ∧ l'.length < l.length) := by
  have pr_ : ∀ (c : List (Int × Int)) (a : Ans) (cd : List (Int × Int)) (l' : List Tok), Ans.pre c a = .inl (cd, l') → ∃ cd', a = .inl (cd', l') ∧ cd = c ++ cd' := by
    intro c a cd l' e
    cases a with
    | inl xy => obtain ⟨x, y⟩ := xy; simp only [Ans.pre, Sum.inl.injEq, Prod.mk.injEq] at e; exact ⟨x, by rw [e.2], e.1.symm⟩
    | inr xy => obtain ⟨x, y⟩ := xy; simp [Ans.pre] at e
  induction h using Prs.ind with
  | num_ => intro cd l' e; simp only [Sum.inl.injEq, Prod.mk.injEq] at e; obtain ⟨rfl, rfl⟩ := e; simp; omega
  | numF_ => intro cd l' e; simp at e
  | name_ => intro cd l' e; simp only [Sum.inl.injEq, Prod.mk.injEq] at e; obtain ⟨rfl, rfl⟩ := e; simp; omega
  | nameF_ => intro cd l' e; simp at e
  | noName_ => intro cd l' e; simp at e
  | none_ => intro cd l' e; simp at e
  | deep_ => intro cd l' e; simp at e
  | neg_ _ _ ih =>
    intro cd l' e; simp only [Sum.inl.injEq, Prod.mk.injEq] at e; obtain ⟨rfl, rfl⟩ := e
    have := ih _ _ rfl
    simp only [List.length_append, List.length_cons, List.length_nil]
    exact ⟨by omega, fun _ => ⟨by simp, by have := (this.2 (Or.inl rfl)).2; omega⟩⟩
  | negF_ => intro cd l' e; simp at e
  | par_ _ _ ih =>
    intro cd l' e; simp only [Sum.inl.injEq, Prod.mk.injEq] at e; obtain ⟨rfl, rfl⟩ := e
    have := ih _ _ rfl
    have t := this.2 (Or.inr (Or.inr rfl))
    simp only [List.length_cons] at this t ⊢
    exact ⟨by omega, fun _ => ⟨t.1, by omega⟩⟩
  | bar_ _ _ ih =>
    intro cd l' e; simp only [Sum.inl.injEq, Prod.mk.injEq] at e; obtain ⟨rfl, rfl⟩ := e
    have := ih _ _ rfl
    have t := this.2 (Or.inr (Or.inr rfl))
    simp only [List.length_append, List.length_cons, List.length_nil] at this t ⊢
    exact ⟨by omega, fun _ => ⟨by simp, by omega⟩⟩
  | inF_ => intro cd l' e; simp at e
  | parN_ => intro cd l' e; simp at e
  | barN_ => intro cd l' e; simp at e
  | t0_ => intro cd l' e; simp only [Sum.inl.injEq, Prod.mk.injEq] at e; obtain ⟨rfl, rfl⟩ := e; exact ⟨by simp, fun q => by omega⟩
  | t1_ _ _ _ ih1 ih2 =>
    intro cd l' e
    obtain ⟨cd', ea, ec⟩ := pr_ _ _ _ _ e
    have a1 := ih1 _ _ rfl
    have a2 := ih2 _ _ ea
    have t := a1.2 (Or.inl rfl)
    rw [ec]
    simp only [List.length_append, List.length_cons, List.length_nil]
    exact ⟨by omega, fun q => by omega⟩
  | t1F_ => intro cd l' e; simp at e
  | pr_ _ _ ih1 ih2 =>
    intro cd l' e
    obtain ⟨cd', ea, ec⟩ := pr_ _ _ _ _ e
    have a1 := ih1 _ _ rfl
    have a2 := ih2 _ _ ea
    have t := a1.2 (Or.inl rfl)
    rw [ec]
    simp only [List.length_append]
    exact ⟨by omega, fun q => ⟨by simp [t.1], by omega⟩⟩
  | prF_ => intro cd l' e; simp at e
  | s0_ => intro cd l' e; simp only [Sum.inl.injEq, Prod.mk.injEq] at e; obtain ⟨rfl, rfl⟩ := e; exact ⟨by simp, fun q => by omega⟩
  | s1_ _ _ _ ih1 ih2 =>
    intro cd l' e
    obtain ⟨cd', ea, ec⟩ := pr_ _ _ _ _ e
    have a1 := ih1 _ _ rfl
    have a2 := ih2 _ _ ea
    have t := a1.2 (Or.inr (Or.inl rfl))
    rw [ec]
    simp only [List.length_append, List.length_cons, List.length_nil]
    exact ⟨by omega, fun q => by omega⟩
  | s1F_ => intro cd l' e; simp at e
  | sm_ _ _ ih1 ih2 =>
    intro cd l' e
    obtain ⟨cd', ea, ec⟩ := pr_ _ _ _ _ e
    have a1 := ih1 _ _ rfl
    have a2 := ih2 _ _ ea
    have t := a1.2 (Or.inr (Or.inl rfl))
    rw [ec]
    simp only [List.length_append]
    exact ⟨by omega, fun q => ⟨by simp [t.1], by omega⟩⟩
  | smF_ => intro cd l' e; simp at e
/-- a sum's sign by sign reckoning goes well -/
theorem prs_w {w n : Int} {k : Nat} {o : Int} {l : List Tok} {a : Ans} (h : Prs w n k o l a) : ∀ cd l', a = .inl (cd, l') → 0 ≤ o → o ≤ 8 → ∀ (m : Nat) (rest : List (Int × Int)), (k = 0 → (m : Int) ≤ 2 * o + 2 → wfc (okn w) rest (m + 1) → wfc (okn w) (cd ++ rest) m) ∧ (k = 1 → (m : Int) ≤ 2 * o + 1 → wfc (okn w) rest (m + 1) → wfc (okn w) (cd ++ rest) (m + 1)) ∧ (k = 2 → (m : Int) ≤ 2 * o + 1 → wfc (okn w) rest (m + 1) → wfc (okn w) (cd ++ rest) m) ∧ (k = 3 → (m : Int) ≤ 2 * o → wfc (okn w) rest (m + 1) → wfc (okn w) (cd ++ rest) (m + 1)) ∧ (k = 4 → (m : Int) ≤ 2 * o → wfc (okn w) rest (m + 1) → wfc (okn w) (cd ++ rest) m) := by
  have pr_ : ∀ (c : List (Int × Int)) (a : Ans) (cd : List (Int × Int)) (l' : List Tok), Ans.pre c a = .inl (cd, l') → ∃ cd', a = .inl (cd', l') ∧ cd = c ++ cd' := by
    intro c a cd l' e
    cases a with
    | inl xy => obtain ⟨x, y⟩ := xy; simp only [Ans.pre, Sum.inl.injEq, Prod.mk.injEq] at e; exact ⟨x, by rw [e.2], e.1.symm⟩
    | inr xy => obtain ⟨x, y⟩ := xy; simp [Ans.pre] at e
  have one : ∀ {cd : List (Int × Int)} {o : Int} {m : Nat} {rest : List (Int × Int)}, ((m : Int) ≤ 2 * o + 2 → wfc (okn w) rest (m + 1) → wfc (okn w) (cd ++ rest) m) → ((0 : Nat) = 0 → (m : Int) ≤ 2 * o + 2 → wfc (okn w) rest (m + 1) → wfc (okn w) (cd ++ rest) m) ∧ ((0 : Nat) = 1 → (m : Int) ≤ 2 * o + 1 → wfc (okn w) rest (m + 1) → wfc (okn w) (cd ++ rest) (m + 1)) ∧ ((0 : Nat) = 2 → (m : Int) ≤ 2 * o + 1 → wfc (okn w) rest (m + 1) → wfc (okn w) (cd ++ rest) m) ∧ ((0 : Nat) = 3 → (m : Int) ≤ 2 * o → wfc (okn w) rest (m + 1) → wfc (okn w) (cd ++ rest) (m + 1)) ∧ ((0 : Nat) = 4 → (m : Int) ≤ 2 * o → wfc (okn w) rest (m + 1) → wfc (okn w) (cd ++ rest) m) := fun h => ⟨fun _ => h, fun q => absurd q (by decide), fun q => absurd q (by decide), fun q => absurd q (by decide), fun q => absurd q (by decide)⟩
  have bin : ∀ {b : Int} {rest : List (Int × Int)} {m : Nat}, (b = 42 ∨ b = 47 ∨ b = 43 ∨ b = 45) → m + 2 ≤ 30 → wfc (okn w) rest (m + 1) → wfc (okn w) ((opc b, 0) :: rest) (m + 2) := by
    intro b rest m hb hm hr
    refine Or.inr (Or.inr ⟨?_, ?_, by omega, hm, hr⟩)
    · show 4 ≤ opc b; unfold opc; rcases hb with rfl | rfl | rfl | rfl <;> decide
    · show opc b ≤ 7; unfold opc; rcases hb with rfl | rfl | rfl | rfl <;> decide
  induction h using Prs.ind with
  | num_ h1 h2 =>
    intro cd l' e o0 o8 m rest; simp only [Sum.inl.injEq, Prod.mk.injEq] at e; obtain ⟨rfl, rfl⟩ := e
    exact one (fun hm hr => Or.inl (Or.inl ⟨rfl, h1, h2, by omega, hr⟩))
  | numF_ => intro cd l' e; simp at e
  | name_ h1 h2 h3 =>
    intro cd l' e o0 o8 m rest; simp only [Sum.inl.injEq, Prod.mk.injEq] at e; obtain ⟨rfl, rfl⟩ := e
    exact one (fun hm hr => Or.inl (Or.inr ⟨rfl, h3, h1, h2, by omega, hr⟩))
  | nameF_ => intro cd l' e; simp at e
  | noName_ => intro cd l' e; simp at e
  | none_ => intro cd l' e; simp at e
  | deep_ => intro cd l' e; simp at e
  | neg_ h1 _ ih =>
    intro cd l' e o0 o8 m rest; simp only [Sum.inl.injEq, Prod.mk.injEq] at e; obtain ⟨rfl, rfl⟩ := e
    refine one (fun hm hr => ?_)
    rw [List.append_assoc]
    exact (ih _ _ rfl (by omega) (by omega) m _).1 rfl (by omega) (Or.inr (Or.inl ⟨Or.inl rfl, by omega, by omega, hr⟩))
  | negF_ => intro cd l' e; simp at e
  | par_ h1 _ ih =>
    intro cd l' e o0 o8 m rest; simp only [Sum.inl.injEq, Prod.mk.injEq] at e; obtain ⟨rfl, rfl⟩ := e
    exact one (fun hm hr => (ih _ _ rfl (by omega) (by omega) m _).2.2.2.2 rfl (by omega) hr)
  | bar_ h1 _ ih =>
    intro cd l' e o0 o8 m rest; simp only [Sum.inl.injEq, Prod.mk.injEq] at e; obtain ⟨rfl, rfl⟩ := e
    refine one (fun hm hr => ?_)
    rw [List.append_assoc]
    exact (ih _ _ rfl (by omega) (by omega) m _).2.2.2.2 rfl (by omega) (Or.inr (Or.inl ⟨Or.inr rfl, by omega, by omega, hr⟩))
  | inF_ => intro cd l' e; simp at e
  | parN_ => intro cd l' e; simp at e
  | barN_ => intro cd l' e; simp at e
  | t0_ =>
    intro cd l' e o0 o8 m rest; simp only [Sum.inl.injEq, Prod.mk.injEq] at e; obtain ⟨rfl, rfl⟩ := e
    exact ⟨fun q => absurd q (by decide), fun _ _ hr => hr, fun q => absurd q (by decide), fun q => absurd q (by decide), fun q => absurd q (by decide)⟩
  | t1_ hb _ _ ih1 ih2 =>
    intro cd l' e o0 o8 m rest
    obtain ⟨cd', ea, ec⟩ := pr_ _ _ _ _ e
    refine ⟨fun q => absurd q (by decide), fun _ hm hr => ?_, fun q => absurd q (by decide), fun q => absurd q (by decide), fun q => absurd q (by decide)⟩
    rw [ec, List.append_assoc, List.append_assoc]
    refine (ih1 _ _ rfl o0 o8 (m + 1) _).1 rfl (by omega) (bin (by omega) (by omega) ?_)
    exact (ih2 _ _ ea o0 o8 m _).2.1 rfl hm hr
  | t1F_ => intro cd l' e; simp at e
  | pr_ _ _ ih1 ih2 =>
    intro cd l' e o0 o8 m rest
    obtain ⟨cd', ea, ec⟩ := pr_ _ _ _ _ e
    refine ⟨fun q => absurd q (by decide), fun q => absurd q (by decide), fun _ hm hr => ?_, fun q => absurd q (by decide), fun q => absurd q (by decide)⟩
    rw [ec, List.append_assoc]
    exact (ih1 _ _ rfl o0 o8 m _).1 rfl (by omega) ((ih2 _ _ ea o0 o8 m _).2.1 rfl hm hr)
  | prF_ => intro cd l' e; simp at e
  | s0_ =>
    intro cd l' e o0 o8 m rest; simp only [Sum.inl.injEq, Prod.mk.injEq] at e; obtain ⟨rfl, rfl⟩ := e
    exact ⟨fun q => absurd q (by decide), fun q => absurd q (by decide), fun q => absurd q (by decide), fun _ _ hr => hr, fun q => absurd q (by decide)⟩
  | s1_ hb _ _ ih1 ih2 =>
    intro cd l' e o0 o8 m rest
    obtain ⟨cd', ea, ec⟩ := pr_ _ _ _ _ e
    refine ⟨fun q => absurd q (by decide), fun q => absurd q (by decide), fun q => absurd q (by decide), fun _ hm hr => ?_, fun q => absurd q (by decide)⟩
    rw [ec, List.append_assoc, List.append_assoc]
    refine (ih1 _ _ rfl o0 o8 (m + 1) _).2.2.1 rfl (by omega) (bin (by omega) (by omega) ?_)
    exact (ih2 _ _ ea o0 o8 m _).2.2.2.1 rfl hm hr
  | s1F_ => intro cd l' e; simp at e
  | sm_ _ _ ih1 ih2 =>
    intro cd l' e o0 o8 m rest
    obtain ⟨cd', ea, ec⟩ := pr_ _ _ _ _ e
    refine ⟨fun q => absurd q (by decide), fun q => absurd q (by decide), fun q => absurd q (by decide), fun q => absurd q (by decide), fun _ hm hr => ?_⟩
    rw [ec, List.append_assoc]
    exact (ih1 _ _ rfl o0 o8 m _).2.2.1 rfl (by omega) ((ih2 _ _ ea o0 o8 m _).2.2.2.1 rfl hm hr)
  | smF_ => intro cd l' e; simp at e
theorem sum_wf {w n : Int} {l l' : List Tok} {cd : List (Int × Int)} (h : Prs w n 4 0 l (.inl (cd, l'))) : cd ≠ [] ∧ wfc (okn w) cd 0 := by
  have a := (prs_n h _ _ rfl).2 (Or.inr (Or.inr rfl))
  have b := (prs_w h _ _ rfl (by omega) (by omega) 0 []).2.2.2.2 rfl (by omega) rfl
  rw [List.append_nil] at b
  exact ⟨a.1, b⟩
end
