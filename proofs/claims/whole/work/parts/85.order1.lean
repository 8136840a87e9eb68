noncomputable section
/-! the class's orders -/
def ow (g : Sg) (h : Int) (i : Nat) : Int := (RW g h).getD i 0
def vO (g : Sg) (tx : Int → TA) (st h : Int) (p : List Nat) : Int := (lyE g ((rA g tx).1 0) ((rA g tx).1 1) st h (p.map (ow g h))).2.1
def lgt (g : Sg) (tx : Int → TA) (st h : Int) (p : List Nat) : Bool := decide (¬ g 4 h < vO g tx st h p)
/-- what the class has noted of the orders met -/
def NSp (s : Sg) (g : Sg) (tx : Int → TA) (st h : Int) (A : List (List Nat)) : Prop := match A.find? (lgt g tx st h) with
  | none => s 44 14 = 0
  | some q => s 44 14 = 1 ∧ Ar (s 50) (q.map (ow g h))
def NSm (s : Sg) (g : Sg) (tx : Int → TA) (st h : Int) : List (List Nat) → Prop
  | [] => s 44 9 = 0
  | p :: r => s 44 9 = 1 ∧ (s 44 10 = (bestF false (vO g tx st h) (vO g tx st h p, p) r).1 ∧ Ar (s 48) ((bestF false (vO g tx st h) (vO g tx st h p, p) r).2.map (ow g h))) ∧ (s 44 12 = (bestF true (vO g tx st h) (vO g tx st h p, p) r).1 ∧ Ar (s 49) ((bestF true (vO g tx st h) (vO g tx st h p, p) r).2.map (ow g h)))
theorem ns_c {s s' g : Sg} {tx : Int → TA} {st h : Int} {A : List (List Nat)} (e44 : ∀ i, 9 ≤ i → i ≤ 15 → s' 44 i = s 44 i) (e48 : s' 48 = s 48) (e49 : s' 49 = s 49) (e50 : s' 50 = s 50) (k : NSm s g tx st h A ∧ NSp s g tx st h A) : NSm s' g tx st h A ∧ NSp s' g tx st h A := by
  obtain ⟨k1, k2⟩ := k
  refine ⟨?_, ?_⟩
  · cases A with
    | nil => show s' 44 9 = 0; rw [e44 9 (by omega) (by omega)]; exact k1
    | cons p r =>
      show s' 44 9 = 1 ∧ (s' 44 10 = _ ∧ Ar (s' 48) _) ∧ (s' 44 12 = _ ∧ Ar (s' 49) _)
      rw [e44 9 (by omega) (by omega), e44 10 (by omega) (by omega), e44 12 (by omega) (by omega), e48, e49]; exact k1
  · unfold NSp at k2 ⊢
    rw [e44 14 (by omega) (by omega), e50]; exact k2
def OSt (g s : Sg) (tx : Int → TA) (h st : Int) : Prop := Sm [40, 41, 44, 45, 46, 47, 48, 49, 50] g s ∧ Tst s ((rA g tx).1 1) h st ∧ s 44 5 = (RW g h).length ∧ Ar (s 45) (RW g h) ∧ (∀ i : Int, 0 ≤ i → i < (RW g h).length → s 46 i = WG g ((rA g tx).1 0) ((RW g h).getD i.toNat 0))
theorem ost_c {g s s' : Sg} {tx : Int → TA} {h st : Int} {cs : List Int} (q : OSt g s tx h st) (e : Sm cs s s') (hc : ∀ a ∈ cs, a = 40 ∨ a = 41 ∨ a = 44 ∨ (47 ≤ a ∧ a ≤ 50)) (e44 : ∀ i, i < 9 → s' 44 i = s 44 i) : OSt g s' tx h st := by
  obtain ⟨q1, q2, q3, q4, q5⟩ := q
  have f : ∀ a, (a < 40 ∨ a = 42 ∨ a = 43 ∨ a = 45 ∨ a = 46 ∨ 50 < a) → s' a = s a := fun a ha => e a (fun k => by have := hc a k; omega)
  refine ⟨sm_t q1 (fun a ha => f a ?_), ⟨by rw [e44 3 (by omega)]; exact q2.1, by rw [e44 4 (by omega)]; exact q2.2⟩, by rw [e44 5 (by omega)]; exact q3, by rw [f 45 (by omega)]; exact q4, by rw [f 46 (by omega)]; exact q5⟩
  simp at ha; omega
theorem ar_cp {s σ : Sg} {b : Int} {L : List Int} (h : Ar (s 47) L) (hl : L.length ≤ 7) (e : ∀ i, 0 ≤ i → i < 7 → σ b i = s 47 i) : Ar (σ b) L := fun i hi => by rw [e i (by omega) (by omega)]; exact h i hi
theorem find_a {α : Type} (f : α → Bool) (A : List α) (p : α) : (A ++ [p]).find? f = match A.find? f with
  | none => if f p = true then some p else none
  | some q => some q := by
  rw [List.find?_append]
  cases e : A.find? f with
  | none =>
    cases c : f p with
    | true => simp [List.find?, c]
    | false => simp [List.find?, c]
  | some q => rfl
theorem c_noteEnd {d : Nat} {g η s : Sg} {T : TT} {tx : Int → TA} {P : AM → Prop} {h st : Int} {p : List Nat} {A : List (List Nat)} (ht : Td g η T tx) (h0 : 0 ≤ h) (h1 : h < g 3 0) (hq : OSt g s tx h st) (hn : NSm s g tx st h A ∧ NSp s g tx st h A) (hp : Ar (s 47) (p.map (ow g h))) (hl : p.length ≤ 7) (k : ∀ s', OSt g s' tx h st → s' 47 = s 47 → NSm s' g tx st h (A ++ [p]) ∧ NSp s' g tx st h (A ++ [p]) → P (mk s' T)) : wpV (d + 2) 112 0 [aR 44, aI (vO g tx st h p)] [] (mk s T) P := by
  have hn0 := ht.1.1.1
  have hl' : (p.map (ow g h)).length ≤ 7 := by rw [List.length_map]; exact hl
  have e3 := hq.1 3 (by decide)
  have e4 := hq.1 4 (by decide)
  obtain ⟨n1, n2⟩ := hn
  have fin : ∀ s2, Sm [44, 48, 49, 50] s s2 → (∀ i, i < 9 → s2 44 i = s 44 i) → (∀ x, (∀ i, i ≠ 9 → x 44 i = s2 44 i) → x 44 9 = 1 → x 48 = s2 48 → x 49 = s2 49 → NSm x g tx st h (A ++ [p])) → NSp s2 g tx st h (A ++ [p]) → wpV (d + 2) 112 105 [aR 44, aI (vO g tx st h p)] [] (mk s2 T) P := by
    intro s2 a1 a2 a3 a4
    refine g_Trials_noteEnd_105 (g_Trials_noteEnd_110 (k _ (ost_c (cs := [44, 48, 49, 50]) hq (sm_u a1 (by simp)) (by decide) (fun i hi => by rw [up_i (by omega)]; exact a2 i hi)) (by rw [up_c (by decide)]; exact a1 47 (by decide)) ⟨a3 _ (fun i hi => up_i hi) (up_s _ _ _ _) (up_c (by decide)) (up_c (by decide)), ?_⟩))
    unfold NSp at a4 ⊢
    rw [up_i (by decide), up_c (by decide)]; exact a4
  have t77 : s 44 14 = 0 → ∀ s2, Sm [44, 48, 49] s s2 → (∀ i, i ≠ 10 → i ≠ 12 → s2 44 i = s 44 i) → (∀ x, (∀ i, i ≠ 9 → i ≠ 14 → x 44 i = s2 44 i) → x 44 9 = 1 → x 48 = s2 48 → x 49 = s2 49 → NSm x g tx st h (A ++ [p])) → wpV (d + 2) 112 77 [aR 44, aI (vO g tx st h p)] [] (mk s2 T) P := by
    intro hz s2 a1 a2 a3
    have fa : A.find? (lgt g tx st h) = none := by
      cases e : A.find? (lgt g tx st h) with
      | none => rfl
      | some q => unfold NSp at n2; rw [e] at n2; have := n2.1; omega
    refine g_Trials_noteEnd_77 ?_
    rw [a2 3 (by omega) (by omega), hq.2.1.1, a1 3 (by decide), e3, a1 4 (by decide), e4]
    refine cf (by omega) (ct h1 (ct (by omega) (ci (fun c => ?_) (fun c => ?_))))
    · refine fin s2 (sm_m a1 (by simp)) (fun i hi => a2 i (by omega) (by omega)) (fun x x1 => a3 x (fun i h9 _ => x1 i h9)) ?_
      unfold NSp
      rw [find_a, fa, if_neg (by simp [lgt, c])]
      show s2 44 14 = 0
      rw [a2 14 (by omega) (by omega)]; exact hz
    · refine fin _ (sm_cp (sm_u (sm_m a1 (by simp)) (by simp)) (by simp)) (fun i hi => by rw [cp_c (by decide), up_i (by omega)]; exact a2 i (by omega) (by omega)) (fun x x1 x2 x3 x4 => a3 x (fun i h9 h14 => by rw [x1 i h9, cp_c (by decide), up_i h14]) x2 (by rw [x3, cp_c (by decide), up_c (by decide)]) (by rw [x4, cp_c (by decide), up_c (by decide)])) ?_
      unfold NSp
      rw [find_a, fa, if_pos (by simp [lgt]; omega)]
      refine ⟨by rw [cp_c (by decide), up_s], ?_⟩
      refine ar_cp hp hl' (fun i i0 i1 => ?_)
      rw [cp_e, if_pos (by omega), up_c (by decide), a1 47 (by decide), show 0 + (i - 0) = i from by omega]
  have t105 : ¬ s 44 14 = 0 → ∀ s2, Sm [44, 48, 49] s s2 → (∀ i, i ≠ 10 → i ≠ 12 → s2 44 i = s 44 i) → (∀ x, (∀ i, i ≠ 9 → i ≠ 14 → x 44 i = s2 44 i) → x 44 9 = 1 → x 48 = s2 48 → x 49 = s2 49 → NSm x g tx st h (A ++ [p])) → wpV (d + 2) 112 105 [aR 44, aI (vO g tx st h p)] [] (mk s2 T) P := by
    intro hz s2 a1 a2 a3
    refine fin s2 (sm_m a1 (by simp)) (fun i hi => a2 i (by omega) (by omega)) (fun x x1 => a3 x (fun i h9 _ => x1 i h9)) ?_
    unfold NSp at n2 ⊢
    rw [find_a]
    cases e : A.find? (lgt g tx st h) with
    | none => rw [e] at n2; exact absurd n2 hz
    | some q =>
      rw [e] at n2
      show s2 44 14 = 1 ∧ Ar (s2 50) _
      rw [a2 14 (by omega) (by omega), a1 50 (by decide)]; exact n2
  have cpy : ∀ (σ : Sg) (b : Int), σ 47 = s 47 → Ar (cp σ 47 0 b 0 7 b) (p.map (ow g h)) := fun σ b hb => ar_cp hp hl' (fun i i0 i1 => by rw [cp_e, if_pos (by omega), hb, show 0 + (i - 0) = i from by omega])
  have both : ∀ x : Sg, (x 44 10 = vO g tx st h p ∧ Ar (x 48) (p.map (ow g h))) → (x 44 12 = vO g tx st h p ∧ Ar (x 49) (p.map (ow g h))) → x 44 9 = 1 → A = [] → NSm x g tx st h (A ++ [p]) := by
    intro x x1 x2 x3 ea
    subst ea
    exact ⟨x3, x1, x2⟩
  refine g_Trials_noteEnd_0 ?_
  cases A with
  | nil =>
    have n1 : s 44 9 = 0 := n1
    have hh : ∀ x : Sg, (∀ i, i ≠ 9 → i ≠ 14 → x 44 i = (cp (up (cp (up s 44 10 (vO g tx st h p)) 47 0 48 0 7) 44 12 (vO g tx st h p)) 47 0 49 0 7) 44 i) → x 44 9 = 1 → x 48 = (cp (up (cp (up s 44 10 (vO g tx st h p)) 47 0 48 0 7) 44 12 (vO g tx st h p)) 47 0 49 0 7) 48 → x 49 = (cp (up (cp (up s 44 10 (vO g tx st h p)) 47 0 48 0 7) 44 12 (vO g tx st h p)) 47 0 49 0 7) 49 → NSm x g tx st h ([] ++ [p]) := by
      intro x x1 x2 x3 x4
      refine both x ⟨?_, ?_⟩ ⟨?_, ?_⟩ x2 rfl
      · rw [x1 10 (by decide) (by decide), cp_c (by decide), up_i (by decide), cp_c (by decide), up_s]
      · rw [x3, cp_c (by decide), up_c (by decide)]; exact cpy _ 48 (up_c (by decide))
      · rw [x1 12 (by decide) (by decide), cp_c (by decide), up_s]
      · rw [x4]; exact cpy _ 49 (by rw [up_c (by decide), cp_c (by decide), up_c (by decide)])
    have hs : Sm [44, 48, 49] s (cp (up (cp (up s 44 10 (vO g tx st h p)) 47 0 48 0 7) 44 12 (vO g tx st h p)) 47 0 49 0 7) := sm_cp (sm_u (sm_cp (sm_u (sm_r _ _) (by simp)) (by simp)) (by simp)) (by simp)
    have hf : ∀ i, i ≠ 10 → i ≠ 12 → (cp (up (cp (up s 44 10 (vO g tx st h p)) 47 0 48 0 7) 44 12 (vO g tx st h p)) 47 0 49 0 7) 44 i = s 44 i := fun i a b => by rw [cp_c (by decide), up_i b, cp_c (by decide), up_i a]
    exact ct n1 (ct n1 (ci (fun c => t77 c _ hs hf hh) (fun c => t105 c _ hs hf hh)))
  | cons q r =>
    obtain ⟨m1, ⟨m2, m3⟩, ⟨m4, m5⟩⟩ := n1
    have go : ∀ x : Sg, x 44 9 = 1 → (vO g tx st h p < s 44 10 → x 44 10 = vO g tx st h p ∧ Ar (x 48) (p.map (ow g h))) → (¬ vO g tx st h p < s 44 10 → x 44 10 = s 44 10 ∧ x 48 = s 48) → (s 44 12 < vO g tx st h p → x 44 12 = vO g tx st h p ∧ Ar (x 49) (p.map (ow g h))) → (¬ s 44 12 < vO g tx st h p → x 44 12 = s 44 12 ∧ x 49 = s 49) → NSm x g tx st h (q :: r ++ [p]) := by
      intro x x9 a1 a2 a3 a4
      show x 44 9 = 1 ∧ (x 44 10 = (bestF false (vO g tx st h) (vO g tx st h q, q) (r ++ [p])).1 ∧ Ar (x 48) ((bestF false (vO g tx st h) (vO g tx st h q, q) (r ++ [p])).2.map (ow g h))) ∧ (x 44 12 = (bestF true (vO g tx st h) (vO g tx st h q, q) (r ++ [p])).1 ∧ Ar (x 49) ((bestF true (vO g tx st h) (vO g tx st h q, q) (r ++ [p])).2.map (ow g h)))
      rw [best_a, best_a]
      refine ⟨x9, ?_, ?_⟩
      · rw [← m2]
        by_cases c : vO g tx st h p < s 44 10
        · rw [if_pos (by simp [btr, c])]; exact a1 c
        · rw [if_neg (by simp [btr, c])]
          obtain ⟨b1, b2⟩ := a2 c
          rw [b1, b2]; exact ⟨m2, m3⟩
      · rw [← m4]
        by_cases c : s 44 12 < vO g tx st h p
        · rw [if_pos (by simp [btr, c])]; exact a3 c
        · rw [if_neg (by simp [btr, c])]
          obtain ⟨b1, b2⟩ := a4 c
          rw [b1, b2]; exact ⟨m4, m5⟩
    refine cf (by omega) (ci (fun c1 => cf (by omega) (ci (fun c2 => ?_) (fun c2 => ?_))) (fun c1 => cf (by omega) (ci (fun c2 => ?_) (fun c2 => ?_))))
    · have hs : Sm [44, 48, 49] s (cp (up (cp (up s 44 10 (vO g tx st h p)) 47 0 48 0 7) 44 12 (vO g tx st h p)) 47 0 49 0 7) := sm_cp (sm_u (sm_cp (sm_u (sm_r _ _) (by simp)) (by simp)) (by simp)) (by simp)
      have hf : ∀ i, i ≠ 10 → i ≠ 12 → (cp (up (cp (up s 44 10 (vO g tx st h p)) 47 0 48 0 7) 44 12 (vO g tx st h p)) 47 0 49 0 7) 44 i = s 44 i := fun i a b => by rw [cp_c (by decide), up_i b, cp_c (by decide), up_i a]
      have hh : ∀ x : Sg, (∀ i, i ≠ 9 → i ≠ 14 → x 44 i = (cp (up (cp (up s 44 10 (vO g tx st h p)) 47 0 48 0 7) 44 12 (vO g tx st h p)) 47 0 49 0 7) 44 i) → x 44 9 = 1 → x 48 = (cp (up (cp (up s 44 10 (vO g tx st h p)) 47 0 48 0 7) 44 12 (vO g tx st h p)) 47 0 49 0 7) 48 → x 49 = (cp (up (cp (up s 44 10 (vO g tx st h p)) 47 0 48 0 7) 44 12 (vO g tx st h p)) 47 0 49 0 7) 49 → NSm x g tx st h (q :: r ++ [p]) := by
        intro x x1 x2 x3 x4
        refine go x x2 (fun _ => ⟨?_, ?_⟩) (fun z => absurd c1 z) (fun _ => ⟨?_, ?_⟩) (fun z => absurd c2 z)
        · rw [x1 10 (by decide) (by decide), cp_c (by decide), up_i (by decide), cp_c (by decide), up_s]
        · rw [x3, cp_c (by decide), up_c (by decide)]; exact cpy _ 48 (up_c (by decide))
        · rw [x1 12 (by decide) (by decide), cp_c (by decide), up_s]
        · rw [x4]; exact cpy _ 49 (by rw [up_c (by decide), cp_c (by decide), up_c (by decide)])
      exact ci (fun c => t77 c _ hs hf hh) (fun c => t105 c _ hs hf hh)
    · have hs : Sm [44, 48, 49] s (cp (up s 44 10 (vO g tx st h p)) 47 0 48 0 7) := sm_cp (sm_u (sm_r _ _) (by simp)) (by simp)
      have hf : ∀ i, i ≠ 10 → i ≠ 12 → (cp (up s 44 10 (vO g tx st h p)) 47 0 48 0 7) 44 i = s 44 i := fun i a b => by rw [cp_c (by decide), up_i a]
      have hh : ∀ x : Sg, (∀ i, i ≠ 9 → i ≠ 14 → x 44 i = (cp (up s 44 10 (vO g tx st h p)) 47 0 48 0 7) 44 i) → x 44 9 = 1 → x 48 = (cp (up s 44 10 (vO g tx st h p)) 47 0 48 0 7) 48 → x 49 = (cp (up s 44 10 (vO g tx st h p)) 47 0 48 0 7) 49 → NSm x g tx st h (q :: r ++ [p]) := by
        intro x x1 x2 x3 x4
        refine go x x2 (fun _ => ⟨?_, ?_⟩) (fun z => absurd c1 z) (fun z => absurd z c2) (fun _ => ⟨?_, ?_⟩)
        · rw [x1 10 (by decide) (by decide), cp_c (by decide), up_s]
        · rw [x3]; exact cpy _ 48 (up_c (by decide))
        · rw [x1 12 (by decide) (by decide), cp_c (by decide), up_i (by decide)]
        · rw [x4, cp_c (by decide), up_c (by decide)]
      exact ci (fun c => t77 c _ hs hf hh) (fun c => t105 c _ hs hf hh)
    · have hs : Sm [44, 48, 49] s (cp (up s 44 12 (vO g tx st h p)) 47 0 49 0 7) := sm_cp (sm_u (sm_r _ _) (by simp)) (by simp)
      have hf : ∀ i, i ≠ 10 → i ≠ 12 → (cp (up s 44 12 (vO g tx st h p)) 47 0 49 0 7) 44 i = s 44 i := fun i a b => by rw [cp_c (by decide), up_i b]
      have hh : ∀ x : Sg, (∀ i, i ≠ 9 → i ≠ 14 → x 44 i = (cp (up s 44 12 (vO g tx st h p)) 47 0 49 0 7) 44 i) → x 44 9 = 1 → x 48 = (cp (up s 44 12 (vO g tx st h p)) 47 0 49 0 7) 48 → x 49 = (cp (up s 44 12 (vO g tx st h p)) 47 0 49 0 7) 49 → NSm x g tx st h (q :: r ++ [p]) := by
        intro x x1 x2 x3 x4
        refine go x x2 (fun z => absurd z c1) (fun _ => ⟨?_, ?_⟩) (fun _ => ⟨?_, ?_⟩) (fun z => absurd c2 z)
        · rw [x1 10 (by decide) (by decide), cp_c (by decide), up_i (by decide)]
        · rw [x3, cp_c (by decide), up_c (by decide)]
        · rw [x1 12 (by decide) (by decide), cp_c (by decide), up_s]
        · rw [x4]; exact cpy _ 49 (up_c (by decide))
      exact ci (fun c => t77 c _ hs hf hh) (fun c => t105 c _ hs hf hh)
    · have hh : ∀ x : Sg, (∀ i, i ≠ 9 → i ≠ 14 → x 44 i = s 44 i) → x 44 9 = 1 → x 48 = s 48 → x 49 = s 49 → NSm x g tx st h (q :: r ++ [p]) := by
        intro x x1 x2 x3 x4
        exact go x x2 (fun z => absurd z c1) (fun _ => ⟨x1 10 (by decide) (by decide), x3⟩) (fun z => absurd z c2) (fun _ => ⟨x1 12 (by decide) (by decide), x4⟩)
      exact ci (fun c => t77 c s (sm_r _ _) (fun _ _ _ => rfl) hh) (fun c => t105 c s (sm_r _ _) (fun _ _ _ => rfl) hh)
end
