/-! orders: rows of places, as the class meets them, and each one's next -/
section
def vs {α : Type} (n : Nat) (own : Nat → α) : Nat → Nat → List α → List (List α)
  | 0, _, p => [p]
  | k + 1, m, p => (List.range n).flatMap fun i => bif m.testBit i then [] else vs n own k (m ||| 2 ^ i) (p ++ [own i])
def pv (a : Nat → Nat) : Nat → Option Nat
  | 0 => none
  | j + 1 => bif Nat.blt (a (j + 1)) (a j) then pv a j else some j
def kx (a : Nat → Nat) (i : Nat) : Nat → Nat
  | 0 => 0
  | k + 1 => bif Nat.blt (a (k + 1)) (a i) then kx a i k else k + 1
def nw (n i k : Nat) (a : Nat → Nat) (x : Nat) : Nat := bif Nat.blt x i then a x else bif Nat.beq x i then a k else bif Nat.beq (n + i - x) k then a i else a (n + i - x)
def nxt (n : Nat) (p : List Nat) : Option (List Nat) := match pv (fun x => p.getD x 0) (n - 1) with
  | none => none
  | some i => some ((List.range n).map (nw n i (kx (fun x => p.getD x 0) i (n - 1)) (fun x => p.getD x 0)))
def eqo : Option (List Nat) → List Nat → Bool
  | none, _ => false
  | some p, q => p == q
def chk (n : Nat) : List (List Nat) → Bool
  | [] => false
  | [p] => (nxt n p).isNone
  | p :: q :: r => eqo (nxt n p) q && chk n (q :: r)
def okp (n : Nat) (p : List Nat) : Bool := Nat.beq p.length n && p.all (fun x => Nat.blt x n) && decide p.Nodup
def chs (n : Nat) (l : List (List Nat)) : Bool := chk n l && l.all (okp n) && (match l with
  | [] => false
  | p :: _ => p == List.range n)
theorem ch_0 : chs 0 (vs 0 id 0 0 []) = true := by decide +kernel
theorem ch_1 : chs 1 (vs 1 id 1 0 []) = true := by decide +kernel
theorem ch_2 : chs 2 (vs 2 id 2 0 []) = true := by decide +kernel
theorem ch_3 : chs 3 (vs 3 id 3 0 []) = true := by decide +kernel
theorem ch_4 : chs 4 (vs 4 id 4 0 []) = true := by decide +kernel
theorem ch_5 : chs 5 (vs 5 id 5 0 []) = true := by decide +kernel
theorem ch_6 : chs 6 (vs 6 id 6 0 []) = true := by decide +kernel
theorem ch_7 : chs 7 (vs 7 id 7 0 []) = true := by decide +kernel
theorem ch_n {n : Nat} (h : n ≤ 7) : chs n (vs n id n 0 []) = true := by
  rcases (by omega : n = 0 ∨ n = 1 ∨ n = 2 ∨ n = 3 ∨ n = 4 ∨ n = 5 ∨ n = 6 ∨ n = 7) with rfl | rfl | rfl | rfl | rfl | rfl | rfl | rfl
  · exact ch_0
  · exact ch_1
  · exact ch_2
  · exact ch_3
  · exact ch_4
  · exact ch_5
  · exact ch_6
  · exact ch_7
/-- what is known of all orders -/
def OKp (n : Nat) (p : List Nat) : Prop := p.length = n ∧ (∀ x ∈ p, x < n) ∧ p.Nodup
def Chn (n : Nat) : List Nat → List (List Nat) → Prop
  | p, [] => nxt n p = none
  | p, q :: r => nxt n p = some q ∧ Chn n q r
theorem okp_i {n : Nat} {p : List Nat} (h : okp n p = true) : OKp n p := by
  unfold okp at h
  simp only [Bool.and_eq_true, List.all_eq_true, decide_eq_true_iff] at h
  refine ⟨Nat.eq_of_beq_eq_true h.1.1, fun x hx => ?_, h.2⟩
  have := h.1.2 x hx
  simpa using this
theorem chk_i {n : Nat} : ∀ (p : List Nat) (r : List (List Nat)), chk n (p :: r) = true → Chn n p r
  | p, [], h => by
    have h : (nxt n p).isNone = true := h
    cases e : nxt n p with
    | none => exact e
    | some q => rw [e] at h; simp at h
  | p, q :: r, h => by
    have h : (eqo (nxt n p) q && chk n (q :: r)) = true := h
    rw [Bool.and_eq_true] at h
    refine ⟨?_, chk_i q r h.2⟩
    cases e : nxt n p with
    | none => rw [e] at h; exact absurd h.1 (by simp [eqo])
    | some z =>
      rw [e] at h
      have : z = q := by simpa [eqo] using h.1
      rw [this]
theorem all_n {n : Nat} (h : n ≤ 7) : ∃ r, vs n id n 0 [] = List.range n :: r ∧ Chn n (List.range n) r ∧ (∀ p ∈ List.range n :: r, OKp n p) := by
  have c := ch_n h
  unfold chs at c
  cases e : vs n id n 0 [] with
  | nil => rw [e] at c; simp at c
  | cons p r =>
    rw [e] at c
    simp only [Bool.and_eq_true, List.all_eq_true] at c
    obtain ⟨⟨c1, c2⟩, c3⟩ := c
    have c3 : p = List.range n := by simpa using c3
    subst c3
    exact ⟨r, rfl, chk_i _ _ c1, fun q hq => okp_i (c2 q hq)⟩
/-- the best of some, the first of like ones -/
def btr (hv : Bool) (x y : Int) : Bool := match hv with
  | false => decide (x < y)
  | true => decide (y < x)
def bestF (hv : Bool) (v : List Nat → Int) : Int × List Nat → List (List Nat) → Int × List Nat
  | b, [] => b
  | b, p :: r => bestF hv v (if btr hv (v p) b.1 = true then (v p, p) else b) r
theorem best_a (hv : Bool) (v : List Nat → Int) : ∀ (r : List (List Nat)) (b : Int × List Nat) (p : List Nat), bestF hv v b (r ++ [p]) = if btr hv (v p) (bestF hv v b r).1 = true then (v p, p) else bestF hv v b r
  | [], _, _ => rfl
  | q :: r, b, p => best_a hv v r _ p
theorem best_m (hv : Bool) (v : List Nat → Int) : ∀ (r : List (List Nat)) (b : Int × List Nat), bestF hv v b r = b ∨ (bestF hv v b r).2 ∈ r
  | [], _ => Or.inl rfl
  | q :: r, b => by
    have h := best_m hv v r (if btr hv (v q) b.1 = true then (v q, q) else b)
    show bestF hv v (if btr hv (v q) b.1 = true then (v q, q) else b) r = b ∨ (bestF hv v (if btr hv (v q) b.1 = true then (v q, q) else b) r).2 ∈ q :: r
    rcases h with h | h
    · by_cases c : btr hv (v q) b.1 = true
      · rw [if_pos c] at h ⊢; rw [h]; exact Or.inr List.mem_cons_self
      · rw [if_neg c] at h ⊢; exact Or.inl h
    · exact Or.inr (List.mem_cons_of_mem _ h)
theorem best_b (v : List Nat → Int) : ∀ (r : List (List Nat)) (b : Int × List Nat), (bestF false v b r).1 ≤ b.1 ∧ (∀ p ∈ r, (bestF false v b r).1 ≤ v p) ∧ b.1 ≤ (bestF true v b r).1 ∧ (∀ p ∈ r, v p ≤ (bestF true v b r).1) ∧ (bestF false v b r = b ∨ ∃ p ∈ r, (bestF false v b r).1 = v p) ∧ (bestF true v b r = b ∨ ∃ p ∈ r, (bestF true v b r).1 = v p)
  | [], b => ⟨Int.le_refl _, fun p hp => absurd hp List.not_mem_nil, Int.le_refl _, fun p hp => absurd hp List.not_mem_nil, Or.inl rfl, Or.inl rfl⟩
  | q :: r, b => by
    have h1 := best_b v r (if btr false (v q) b.1 = true then (v q, q) else b)
    have h2 := best_b v r (if btr true (v q) b.1 = true then (v q, q) else b)
    have e1 : bestF false v b (q :: r) = bestF false v (if btr false (v q) b.1 = true then (v q, q) else b) r := rfl
    have e2 : bestF true v b (q :: r) = bestF true v (if btr true (v q) b.1 = true then (v q, q) else b) r := rfl
    rw [e1, e2]
    have k1 : (if btr false (v q) b.1 = true then (v q, q) else b).1 ≤ b.1 ∧ (if btr false (v q) b.1 = true then (v q, q) else b).1 ≤ v q ∧ ((if btr false (v q) b.1 = true then (v q, q) else b) = b ∨ (if btr false (v q) b.1 = true then (v q, q) else b).1 = v q) := by
      by_cases c : v q < b.1
      · rw [if_pos (by simp [btr, c])]; exact ⟨by show v q ≤ b.1; omega, Int.le_refl _, Or.inr rfl⟩
      · rw [if_neg (by simp [btr, c])]; exact ⟨Int.le_refl _, by omega, Or.inl rfl⟩
    have k2 : b.1 ≤ (if btr true (v q) b.1 = true then (v q, q) else b).1 ∧ v q ≤ (if btr true (v q) b.1 = true then (v q, q) else b).1 ∧ ((if btr true (v q) b.1 = true then (v q, q) else b) = b ∨ (if btr true (v q) b.1 = true then (v q, q) else b).1 = v q) := by
      by_cases c : b.1 < v q
      · rw [if_pos (by simp [btr, c])]; exact ⟨by show b.1 ≤ v q; omega, Int.le_refl _, Or.inr rfl⟩
      · rw [if_neg (by simp [btr, c])]; exact ⟨Int.le_refl _, by omega, Or.inl rfl⟩
    refine ⟨by omega, ?_, by omega, ?_, ?_, ?_⟩
    · intro p hp
      rcases List.mem_cons.mp hp with rfl | hp
      · omega
      · exact h1.2.1 p hp
    · intro p hp
      rcases List.mem_cons.mp hp with rfl | hp
      · omega
      · exact h2.2.2.2.1 p hp
    · rcases h1.2.2.2.2.1 with h | ⟨p, hp, h⟩
      · rcases k1.2.2 with k | k
        · exact Or.inl (h.trans k)
        · exact Or.inr ⟨q, List.mem_cons_self, by rw [h]; exact k⟩
      · exact Or.inr ⟨p, List.mem_cons_of_mem _ hp, h⟩
    · rcases h2.2.2.2.2.2 with h | ⟨p, hp, h⟩
      · rcases k2.2.2 with k | k
        · exact Or.inl (h.trans k)
        · exact Or.inr ⟨q, List.mem_cons_self, by rw [h]; exact k⟩
      · exact Or.inr ⟨p, List.mem_cons_of_mem _ hp, h⟩
/-- whether any order matters -/
theorem best_eq (v : List Nat → Int) (p : List Nat) (r : List (List Nat)) : (bestF false v (v p, p) r).1 = (bestF true v (v p, p) r).1 ↔ ∀ q ∈ r, v q = v p := by
  have h := best_b v r (v p, p)
  have h1 : (bestF false v (v p, p) r).1 ≤ v p := h.1
  have h3 : v p ≤ (bestF true v (v p, p) r).1 := h.2.2.1
  constructor
  · intro e q hq
    have := h.2.1 q hq
    have := h.2.2.2.1 q hq
    omega
  · intro e
    have a1 : (bestF false v (v p, p) r).1 = v p := by
      rcases h.2.2.2.2.1 with a | ⟨q, hq, a⟩
      · rw [a]
      · rw [a, e q hq]
    have a2 : (bestF true v (v p, p) r).1 = v p := by
      rcases h.2.2.2.2.2 with a | ⟨q, hq, a⟩
      · rw [a]
      · rw [a, e q hq]
    rw [a1, a2]
end
