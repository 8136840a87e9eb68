noncomputable section
set_option maxRecDepth 20000
/-! the class reads a sum -/
def msk (w : Int) : Int := if w = 0 then 8323088 else if w = 1 then 25231376 else if w = 2 then 234946640 else 268501008
theorem any_n : ∀ v : Fin 29, (tb 536805456 (v.1 : Int) = true) ↔ ∃ m : Fin 15, wn (m.1 : Int) = (v.1 : Int) := by decide +kernel
theorem msk_n : ∀ w : Fin 4, ∀ m : Fin 15, (tb (msk (w.1 : Int)) (wn (m.1 : Int)) = true ↔ okn (w.1 : Int) (m.1 : Int)) ∧ 0 ≤ wn (m.1 : Int) ∧ wn (m.1 : Int) < 29 ∧ 0 ≤ msk (w.1 : Int) := by unfold okn; decide +kernel
theorem ca_a {c : Int → Int} : ∀ {i : Int} {a b : List (Int × Int)}, CodeAt c i (a ++ b) ↔ CodeAt c i a ∧ CodeAt c (i + a.length) b
  | i, [], b => by simp [CodeAt]
  | i, x :: a, b => by
    have := ca_a (c := c) (i := i + 1) (a := a) (b := b)
    simp only [List.cons_append, CodeAt, this, List.length_cons]
    rw [show i + 1 + (a.length : Int) = i + ((a.length + 1 : Nat) : Int) from by omega, and_assoc]
theorem ca_c {c c' : Int → Int} : ∀ {i : Int} {a : List (Int × Int)}, (∀ j, i ≤ j → j < i + a.length → c' j = c j) → CodeAt c i a → CodeAt c' i a
  | _, [], _, _ => trivial
  | i, x :: a, h, ⟨h1, h2⟩ => ⟨by rw [h i (Int.le_refl _) (by rw [List.length_cons]; omega)]; exact h1, ca_c (fun j j0 j1 => h j (by omega) (by rw [List.length_cons]; omega)) h2⟩
def RdS (s : Sg) (n w u : Int) (l : List Tok) : Prop := CTk s n l ∧ s 60 1 = 0 ∧ s 60 4 = u ∧ s 60 9 = msk w ∧ s 60 2 = -1
def Fr2 (s s' : Sg) : Prop := Sm [60, 61, 65] s s' ∧ ∀ i, i ≠ 1 → i ≠ 2 → i ≠ 4 → s' 60 i = s 60 i
theorem f2_r (s : Sg) : Fr2 s s := ⟨sm_r _ _, fun _ _ _ _ => rfl⟩
theorem f2_t {a b c : Sg} (h : Fr2 a b) (k : Fr2 b c) : Fr2 a c := ⟨sm_t h.1 k.1, fun i h1 h2 h3 => (k.2 i h1 h2 h3).trans (h.2 i h1 h2 h3)⟩
theorem f2_65 {s s' : Sg} (h : Sm [65] s s') : Fr2 s s' := ⟨sm_m h (by simp), fun i _ _ _ => by rw [h 60 (by decide)]⟩
/-- one sign of code more -/
theorem put_i {s : Sg} {n w u v : Int} {l : List Tok} (h : RdS s n w u l) : Fr2 s (up (up s 61 u v) 60 4 (u + 1)) ∧ RdS (up (up s 61 u v) 60 4 (u + 1)) n w (u + 1) l ∧ (∀ i, i < u → up (up s 61 u v) 60 4 (u + 1) 61 i = s 61 i) ∧ up (up s 61 u v) 60 4 (u + 1) 61 u = v := by
  refine ⟨⟨sm_u (sm_u (sm_r _ _) (by simp)) (by simp), fun i h1 h2 h3 => by rw [up_i h3, up_c (by decide)]⟩, ⟨ctk_c h.1 (fun a a0 a1 => by rw [up_c (by omega), up_c (by omega)]), by rw [up_i (by decide), up_c (by decide)]; exact h.2.1, up_s _ _ _ _, by rw [up_i (by decide), up_c (by decide)]; exact h.2.2.2.1, by rw [up_i (by decide), up_c (by decide)]; exact h.2.2.2.2⟩, fun i hi => ?_, ?_⟩
  · rw [up_c (by decide), up_i (by omega)]
  · rw [up_c (by decide), up_s]
/-- a fault -/
theorem blm {s : Sg} (f : Int) : Fr2 s (up (up s 60 1 f) 60 2 (s 65 9)) ∧ up (up s 60 1 f) 60 2 (s 65 9) 60 1 = f ∧ up (up s 60 1 f) 60 2 (s 65 9) 60 2 = s 65 9 ∧ up (up s 60 1 f) 60 2 (s 65 9) 60 4 = s 60 4 := by
  refine ⟨⟨sm_u (sm_u (sm_r _ _) (by simp)) (by simp), fun i h1 h2 h3 => by rw [up_i h2, up_i h1]⟩, by rw [up_i (by decide), up_s], up_s _ _ _ _, by rw [up_i (by decide), up_i (by decide)]⟩
def KOk (w n : Int) (T : TT) (k : Nat) (o u : Int) (l : List Tok) (s : Sg) (P : AM → Prop) : Prop := ∀ cd l' s', Prs w n k o l (.inl (cd, l')) → Fr2 s s' → RdS s' n w (u + cd.length) l' → CodeAt (s' 61) u cd → (∀ i, i < u → s' 61 i = s 61 i) → ((k = 1 ∨ k = 2) → ¬ hdS l' 42 ∧ ¬ hdS l' 47) → ((k = 3 ∨ k = 4) → ¬ (hdS l' 43 ∨ hdS l' 45 ∨ hdS l' 42 ∨ hdS l' 47)) → P (mk s' T)
def KEr (w n : Int) (T : TT) (k : Nat) (o : Int) (l : List Tok) (s : Sg) (P : AM → Prop) : Prop := ∀ f p s', Prs w n k o l (.inr (f, p)) → Fr2 s s' → s' 60 1 = f → f ≠ 0 → s' 60 2 = p → 0 ≤ s' 60 4 → P (mk s' T)
def OneH (w n : Int) (T : TT) (m : Nat) : Prop := ∀ (l : List Tok), l.length ≤ m → ∀ (o u : Int) (D : Nat) (s : Sg) (P : AM → Prop), 0 ≤ o → o ≤ 8 → 3 * (8 - o).toNat + 6 ≤ D → RdS s n w u l → 0 ≤ u → u + l.length ≤ 300 → KOk w n T 0 o u l s P → KEr w n T 0 o l s P → wpV D 149 0 [aR 60, aI o, aU] [] (mk s T) P
def ProdH (w n : Int) (T : TT) (m : Nat) : Prop := ∀ (l : List Tok), l.length ≤ m → ∀ (o u : Int) (D : Nat) (s : Sg) (P : AM → Prop), 0 ≤ o → o ≤ 8 → 3 * (8 - o).toNat + 7 ≤ D → RdS s n w u l → 0 ≤ u → u + l.length ≤ 300 → KOk w n T 2 o u l s P → KEr w n T 2 o l s P → wpV D 148 0 [aR 60, aI o, aU, aU] [] (mk s T) P
def SumH (w n : Int) (T : TT) (m : Nat) : Prop := ∀ (l : List Tok), l.length ≤ m → ∀ (o u : Int) (D : Nat) (s : Sg) (P : AM → Prop), 0 ≤ o → o ≤ 8 → 3 * (8 - o).toNat + 8 ≤ D → RdS s n w u l → 0 ≤ u → u + l.length ≤ 300 → KOk w n T 4 o u l s P → KEr w n T 4 o l s P → wpV D 147 0 [aR 60, aI o, aU, aU] [] (mk s T) P
theorem hds_cur {s : Sg} {n b : Int} {l : List Tok} (h : CTk s n l) : hdS l b ↔ s 65 8 = 3 ∧ s 65 10 = b := by
  have c := ctk_cur h
  constructor
  · rintro ⟨st, r, rfl⟩; exact ⟨c.1, c.2.2⟩
  · rintro ⟨h1, h2⟩
    cases l with
    | nil => have := c.1; omega
    | cons t r =>
      obtain ⟨t1, t2, t3⟩ := t
      refine ⟨t3, r, ?_⟩
      have e1 : t1 = 3 := by rw [← h1]; exact c.1.symm
      have e2 : t2 = b := by rw [← h2]; exact c.2.2.symm
      rw [e1, e2]
/-- the pattern of two signs -/
theorem two_n {f x y a b : Int} {A B C : Prop} (hf : f = 0) (hab : a ≠ b) (hA : x = 3 ∧ y = a → A) (hB : x = 3 ∧ y = b → B) (hC : ¬ (x = 3 ∧ y = a) → ¬ (x = 3 ∧ y = b) → C) : brK (decide (f = 0)) (brK (decide (x = 3)) (brK (decide (y = a)) (brK (decide (y = a)) A B) (brK (decide (f = 0)) (brK (decide (x = 3)) (brK (decide (y = b)) (brK (decide (y = a)) A B) C) C) C)) (brK (decide (f = 0)) (brK (decide (x = 3)) (brK (decide (y = b)) (brK (decide (y = a)) A B) C) C) C)) (brK (decide (f = 0)) (brK (decide (x = 3)) (brK (decide (y = b)) (brK (decide (y = a)) A B) C) C) C) := by
  refine ct hf (ci (fun hx => ci (fun hy => ct hy (hA ⟨hx, hy⟩)) (fun hy => ct hf (ct hx (ci (fun hb => cf hy (hB ⟨hx, hb⟩)) (fun hb => hC (fun q => hy q.2) (fun q => hb q.2)))))) (fun hx => ct hf (cf hx (hC (fun q => hx q.1) (fun q => hx q.1)))))
theorem two_d {f x y a b : Int} {A B C : Prop} (hf : ¬ f = 0) (hC : C) : brK (decide (f = 0)) (brK (decide (x = 3)) (brK (decide (y = a)) (brK (decide (y = a)) A B) (brK (decide (f = 0)) (brK (decide (x = 3)) (brK (decide (y = b)) (brK (decide (y = a)) A B) C) C) C)) (brK (decide (f = 0)) (brK (decide (x = 3)) (brK (decide (y = b)) (brK (decide (y = a)) A B) C) C) C)) (brK (decide (f = 0)) (brK (decide (x = 3)) (brK (decide (y = b)) (brK (decide (y = a)) A B) C) C) C) := cf hf (cf hf hC)
theorem prod_of {w n : Int} {T : TT} {m : Nat} (h1 : OneH w n T m) : ProdH w n T m := by
  -- behind one
  have tail : ∀ (k : Nat) (l : List Tok), l.length ≤ k → l.length ≤ m → ∀ (o u i : Int) (D : Nat) (s : Sg) (P : AM → Prop) (l3 : AV), 0 ≤ o → o ≤ 8 → 3 * (8 - o).toNat + 7 ≤ D → RdS s n w u l → 0 ≤ u → u + l.length ≤ 300 → 0 ≤ i → i + l.length < 300 → KOk w n T 1 o u l s P → KEr w n T 1 o l s P → wpV D 148 7 [aR 60, aI o, aI i, l3] [] (mk s T) P := by
    intro k
    induction k with
    | zero =>
      intro l lk lm o u i D s P l3 o0 o8 hD hr u0 ul i0 il ko ke
      have : l = [] := List.length_eq_zero_iff.mp (by omega)
      subst this
      obtain ⟨D', rfl⟩ : ∃ D', D = D' + 1 := ⟨D - 1, by omega⟩
      have c := ctk_cur hr.1
      have h8 : s 65 8 = 0 := c.1
      refine g_Reader_readProduct_7 (ct (by omega) (two_n hr.2.1 (by omega) (fun q => by omega) (fun q => by omega) (fun q1 q2 => g_Reader_readProduct_77 ?_)))
      exact ko [] [] s Prs.t0 (f2_r s) (by simpa using hr) trivial (fun _ _ => rfl) (fun _ => ⟨fun ⟨_, _, e⟩ => by simp at e, fun ⟨_, _, e⟩ => by simp at e⟩) (fun q => by omega)
    | succ k ih =>
      intro l lk lm o u i D s P l3 o0 o8 hD hr u0 ul i0 il ko ke
      obtain ⟨D', rfl⟩ : ∃ D', D = D' + 1 := ⟨D - 1, by omega⟩
      have go : ∀ (b c : Int), (b = 42 ∧ c = 20002 ∨ b = 47 ∧ c = 20003) → s 65 8 = 3 ∧ s 65 10 = b → wpV (D' + 1) 148 53 [aR 60, aI o, aI i, aU] [aI c] (mk s T) P := by
        intro b c hbc hb
        obtain ⟨st, r, el⟩ := (hds_cur hr.1).mpr hb
        subst el
        simp only [List.length_cons] at lk lm ul il
        refine g_Reader_readProduct_53 (c_advance hr.1 (fun s1 e1 t1 => g_Reader_readProduct_61 ?_))
        have f1 := f2_65 e1
        have r1 : RdS s1 n w u r := ⟨t1, by rw [e1 60 (by decide)]; exact hr.2.1, by rw [e1 60 (by decide)]; exact hr.2.2.1, by rw [e1 60 (by decide)]; exact hr.2.2.2⟩
        refine h1 r (by omega) o u D' s1 _ o0 o8 (by omega) r1 u0 (by omega) ?_ ?_
        · intro cd l1 s2 p2 f2 r2 c2 k2 _ _
          have nl := prs_n p2 _ _ rfl
          have nl2 := nl.2 (Or.inl rfl)
          refine g_Reader_readProduct_66 ?_
          rw [r2.2.2.1, w32_id (x := u + (cd.length : Int) + 1) (by omega) (by omega), w32_id (x := i + 1) (by omega) (by omega)]
          obtain ⟨g1, g2, g3, g4⟩ := put_i (v := c) r2
          refine ct (by omega) (ct (by omega) ?_)
          refine ih l1 (by omega) (by omega) o (u + cd.length + 1) (i + 1) (D' + 1) _ P _ o0 o8 hD g2 (by omega) (by omega) (by omega) (by omega) ?_ ?_
          · intro cd' l' s' p' f' r' c' k' h1' h2'
            refine ko _ l' s' (Prs.t1 (st := st) (by omega) p2 p') (f2_t f1 (f2_t f2 (f2_t g1 f'))) ?_ ?_ ?_ h1' h2'
            · have e : u + ((cd ++ [(opc b, 0)] ++ cd').length : Int) = u + cd.length + 1 + cd'.length := by simp; omega
              rw [e]; exact r'
            · rw [ca_a, ca_a]
              refine ⟨⟨ca_c (fun j j0 j1 => ?_) c2, ?_, trivial⟩, ?_⟩
              · rw [k' j (by omega), g3 j (by omega)]
              · rw [k' (u + cd.length) (by omega), g4]
                show c = cv (opc b, 0)
                rcases hbc with ⟨rfl, rfl⟩ | ⟨rfl, rfl⟩ <;> decide
              · have e : u + ((cd ++ [(opc b, 0)]).length : Int) = u + cd.length + 1 := by simp; omega
                rw [e]; exact c'
            · intro j hj
              rw [k' j (by omega), g3 j (by omega), k2 j hj, e1 61 (by decide)]
          · intro f p s' p' f' a1 a2 a3 a4
            exact ke f p s' (Prs.t1 (st := st) (a := .inr (f, p)) (by omega) p2 p') (f2_t f1 (f2_t f2 (f2_t g1 f'))) a1 a2 a3 a4
        · intro f p s2 p2 f2 a1 a2 a3 a4
          refine g_Reader_readProduct_66 ?_
          have dead : ∀ s3 : Sg, Fr2 s2 s3 → s3 60 1 = f → s3 60 2 = p → 0 ≤ s3 60 4 → wpV (D' + 1) 148 7 [aR 60, aI o, aI (w32 (i + 1)), aI c] [] (mk s3 T) P := fun s3 f3 b1 b2 b3 => by
            refine g_Reader_readProduct_7 (ci (fun _ => two_d (by omega) (g_Reader_readProduct_77 ?_)) (fun _ => g_Reader_readProduct_77 ?_))
            all_goals exact ke f p s3 (Prs.t1F (by omega) p2) (f2_t f1 (f2_t f2 f3)) b1 a2 b2 b3
          refine ci (fun q => ct (by omega) (dead _ ⟨sm_u (sm_u (sm_r _ _) (by simp)) (by simp), fun i h1 h2 h3 => by rw [up_i h3, up_c (by decide)]⟩ ?_ ?_ ?_)) (fun q => dead s2 (f2_r _) a1 a3 a4)
          · rw [up_i (by decide), up_c (by decide)]; exact a1
          · rw [up_i (by decide), up_c (by decide)]; exact a3
          · rw [up_s, w32_id (x := s2 60 4 + 1) (by omega) (by omega)]; omega
      refine g_Reader_readProduct_7 (ct (by omega) (two_n hr.2.1 (by omega) (fun q => go 42 20002 (by omega) q) (fun q => go 47 20003 (by omega) q) (fun q1 q2 => g_Reader_readProduct_77 ?_)))
      exact ko [] l s Prs.t0 (f2_r s) (by simpa using hr) trivial (fun _ _ => rfl) (fun _ => ⟨fun h => q1 ((hds_cur hr.1).mp h), fun h => q2 ((hds_cur hr.1).mp h)⟩) (fun q => by omega)
  intro l lm o u D s P o0 o8 hD hr u0 ul ko ke
  obtain ⟨D', rfl⟩ : ∃ D', D = D' + 1 := ⟨D - 1, by omega⟩
  refine g_Reader_readProduct_0 (h1 l lm o u D' s _ o0 o8 (by omega) hr u0 ul ?_ ?_)
  · intro cd l1 s1 p1 f1 r1 c1 k1 _ _
    have nl := prs_n p1 _ _ rfl
    have nl2 := nl.2 (Or.inl rfl)
    refine g_Reader_readProduct_5 (tail l1.length l1 (Nat.le_refl _) (by omega) o (u + cd.length) 0 (D' + 1) s1 P _ o0 o8 hD r1 (by omega) (by omega) (by omega) (by omega) ?_ ?_)
    · intro cd' l' s' p' f' r' c' k' h1' h2'
      refine ko _ l' s' (Prs.pr p1 p') (f2_t f1 f') ?_ ?_ (fun j hj => by rw [k' j (by omega), k1 j hj]) (fun _ => h1' (Or.inl rfl)) (fun q => by omega)
      · rw [List.length_append, show u + ((cd.length + cd'.length : Nat) : Int) = u + cd.length + cd'.length from by omega]; exact r'
      · rw [ca_a]; exact ⟨ca_c (fun j j0 j1 => k' j (by omega)) c1, c'⟩
    · intro f p s' p' f' a1 a2 a3 a4
      exact ke f p s' (Prs.pr (a := .inr (f, p)) p1 p') (f2_t f1 f') a1 a2 a3 a4
  · intro f p s1 p1 f1 a1 a2 a3 a4
    refine g_Reader_readProduct_5 ?_
    obtain ⟨l3, _⟩ : ∃ l3 : AV, True := ⟨aU, trivial⟩
    refine g_Reader_readProduct_7 (ci (fun _ => two_d (by omega) (g_Reader_readProduct_77 (ke f p s1 (Prs.prF p1) f1 a1 a2 a3 a4))) (fun _ => g_Reader_readProduct_77 (ke f p s1 (Prs.prF p1) f1 a1 a2 a3 a4)))
theorem sum_of {w n : Int} {T : TT} {m : Nat} (h1 : ProdH w n T m) : SumH w n T m := by
  have tail : ∀ (k : Nat) (l : List Tok), l.length ≤ k → l.length ≤ m → ∀ (o u i : Int) (D : Nat) (s : Sg) (P : AM → Prop) (l3 : AV), 0 ≤ o → o ≤ 8 → 3 * (8 - o).toNat + 8 ≤ D → RdS s n w u l → 0 ≤ u → u + l.length ≤ 300 → 0 ≤ i → i + l.length < 300 → (¬ hdS l 42 ∧ ¬ hdS l 47) → KOk w n T 3 o u l s P → KEr w n T 3 o l s P → wpV D 147 7 [aR 60, aI o, aI i, l3] [] (mk s T) P := by
    intro k
    induction k with
    | zero =>
      intro l lk lm o u i D s P l3 o0 o8 hD hr u0 ul i0 il hm ko ke
      have : l = [] := List.length_eq_zero_iff.mp (by omega)
      subst this
      obtain ⟨D', rfl⟩ : ∃ D', D = D' + 1 := ⟨D - 1, by omega⟩
      have c := ctk_cur hr.1
      have h8 : s 65 8 = 0 := c.1
      refine g_Reader_readSum_7 (ct (by omega) (two_n hr.2.1 (by omega) (fun q => by omega) (fun q => by omega) (fun q1 q2 => g_Reader_readSum_77 ?_)))
      exact ko [] [] s Prs.s0 (f2_r s) (by simpa using hr) trivial (fun _ _ => rfl) (fun q => by omega) (fun _ h => by
        rcases h with ⟨_, _, e⟩ | ⟨_, _, e⟩ | ⟨_, _, e⟩ | ⟨_, _, e⟩ <;> simp at e)
    | succ k ih =>
      intro l lk lm o u i D s P l3 o0 o8 hD hr u0 ul i0 il hm ko ke
      obtain ⟨D', rfl⟩ : ∃ D', D = D' + 1 := ⟨D - 1, by omega⟩
      have go : ∀ (b c : Int), (b = 43 ∧ c = 20000 ∨ b = 45 ∧ c = 20001) → s 65 8 = 3 ∧ s 65 10 = b → wpV (D' + 1) 147 53 [aR 60, aI o, aI i, aU] [aI c] (mk s T) P := by
        intro b c hbc hb
        obtain ⟨st, r, el⟩ := (hds_cur hr.1).mpr hb
        subst el
        simp only [List.length_cons] at lk lm ul il
        refine g_Reader_readSum_53 (c_advance hr.1 (fun s1 e1 t1 => g_Reader_readSum_61 ?_))
        have f1 := f2_65 e1
        have r1 : RdS s1 n w u r := ⟨t1, by rw [e1 60 (by decide)]; exact hr.2.1, by rw [e1 60 (by decide)]; exact hr.2.2.1, by rw [e1 60 (by decide)]; exact hr.2.2.2⟩
        refine h1 r (by omega) o u D' s1 _ o0 o8 (by omega) r1 u0 (by omega) ?_ ?_
        · intro cd l1 s2 p2 f2 r2 c2 k2 hm2 _
          have nl := prs_n p2 _ _ rfl
          have nl2 := nl.2 (Or.inr (Or.inl rfl))
          refine g_Reader_readSum_66 ?_
          rw [r2.2.2.1, w32_id (x := u + (cd.length : Int) + 1) (by omega) (by omega), w32_id (x := i + 1) (by omega) (by omega)]
          obtain ⟨g1, g2, g3, g4⟩ := put_i (v := c) r2
          refine ct (by omega) (ct (by omega) ?_)
          refine ih l1 (by omega) (by omega) o (u + cd.length + 1) (i + 1) (D' + 1) _ P _ o0 o8 hD g2 (by omega) (by omega) (by omega) (by omega) (hm2 (Or.inr rfl)) ?_ ?_
          · intro cd' l' s' p' f' r' c' k' h1' h2'
            refine ko _ l' s' (Prs.s1 (st := st) (by omega) p2 p') (f2_t f1 (f2_t f2 (f2_t g1 f'))) ?_ ?_ ?_ (fun q => by omega) h2'
            · have e : u + ((cd ++ [(opc b, 0)] ++ cd').length : Int) = u + cd.length + 1 + cd'.length := by simp; omega
              rw [e]; exact r'
            · rw [ca_a, ca_a]
              refine ⟨⟨ca_c (fun j j0 j1 => ?_) c2, ?_, trivial⟩, ?_⟩
              · rw [k' j (by omega), g3 j (by omega)]
              · rw [k' (u + cd.length) (by omega), g4]
                show c = cv (opc b, 0)
                rcases hbc with ⟨rfl, rfl⟩ | ⟨rfl, rfl⟩ <;> decide
              · have e : u + ((cd ++ [(opc b, 0)]).length : Int) = u + cd.length + 1 := by simp; omega
                rw [e]; exact c'
            · intro j hj
              rw [k' j (by omega), g3 j (by omega), k2 j hj, e1 61 (by decide)]
          · intro f p s' p' f' a1 a2 a3 a4
            exact ke f p s' (Prs.s1 (st := st) (a := .inr (f, p)) (by omega) p2 p') (f2_t f1 (f2_t f2 (f2_t g1 f'))) a1 a2 a3 a4
        · intro f p s2 p2 f2 a1 a2 a3 a4
          refine g_Reader_readSum_66 ?_
          have dead : ∀ s3 : Sg, Fr2 s2 s3 → s3 60 1 = f → s3 60 2 = p → 0 ≤ s3 60 4 → wpV (D' + 1) 147 7 [aR 60, aI o, aI (w32 (i + 1)), aI c] [] (mk s3 T) P := fun s3 f3 b1 b2 b3 => by
            refine g_Reader_readSum_7 (ci (fun _ => two_d (by omega) (g_Reader_readSum_77 ?_)) (fun _ => g_Reader_readSum_77 ?_))
            all_goals exact ke f p s3 (Prs.s1F (by omega) p2) (f2_t f1 (f2_t f2 f3)) b1 a2 b2 b3
          refine ci (fun q => ct (by omega) (dead _ ⟨sm_u (sm_u (sm_r _ _) (by simp)) (by simp), fun i h1 h2 h3 => by rw [up_i h3, up_c (by decide)]⟩ ?_ ?_ ?_)) (fun q => dead s2 (f2_r _) a1 a3 a4)
          · rw [up_i (by decide), up_c (by decide)]; exact a1
          · rw [up_i (by decide), up_c (by decide)]; exact a3
          · rw [up_s, w32_id (x := s2 60 4 + 1) (by omega) (by omega)]; omega
      refine g_Reader_readSum_7 (ct (by omega) (two_n hr.2.1 (by omega) (fun q => go 43 20000 (by omega) q) (fun q => go 45 20001 (by omega) q) (fun q1 q2 => g_Reader_readSum_77 ?_)))
      refine ko [] l s Prs.s0 (f2_r s) (by simpa using hr) trivial (fun _ _ => rfl) (fun q => by omega) (fun _ h => ?_)
      rcases h with h | h | h | h
      · exact q1 ((hds_cur hr.1).mp h)
      · exact q2 ((hds_cur hr.1).mp h)
      · exact hm.1 h
      · exact hm.2 h
  intro l lm o u D s P o0 o8 hD hr u0 ul ko ke
  obtain ⟨D', rfl⟩ : ∃ D', D = D' + 1 := ⟨D - 1, by omega⟩
  refine g_Reader_readSum_0 (h1 l lm o u D' s _ o0 o8 (by omega) hr u0 ul ?_ ?_)
  · intro cd l1 s1 p1 f1 r1 c1 k1 hm1 _
    have nl := prs_n p1 _ _ rfl
    have nl2 := nl.2 (Or.inr (Or.inl rfl))
    refine g_Reader_readSum_5 (tail l1.length l1 (Nat.le_refl _) (by omega) o (u + cd.length) 0 (D' + 1) s1 P _ o0 o8 hD r1 (by omega) (by omega) (by omega) (by omega) (hm1 (Or.inr rfl)) ?_ ?_)
    · intro cd' l' s' p' f' r' c' k' h1' h2'
      refine ko _ l' s' (Prs.sm p1 p') (f2_t f1 f') ?_ ?_ (fun j hj => by rw [k' j (by omega), k1 j hj]) (fun q => by omega) (fun _ => h2' (Or.inl rfl))
      · rw [List.length_append, show u + ((cd.length + cd'.length : Nat) : Int) = u + cd.length + cd'.length from by omega]; exact r'
      · rw [ca_a]; exact ⟨ca_c (fun j j0 j1 => k' j (by omega)) c1, c'⟩
    · intro f p s' p' f' a1 a2 a3 a4
      exact ke f p s' (Prs.sm (a := .inr (f, p)) p1 p') (f2_t f1 f') a1 a2 a3 a4
  · intro f p s1 p1 f1 a1 a2 a3 a4
    refine g_Reader_readSum_5 ?_
    refine g_Reader_readSum_7 (ci (fun _ => two_d (by omega) (g_Reader_readSum_77 (ke f p s1 (Prs.smF p1) f1 a1 a2 a3 a4))) (fun _ => g_Reader_readSum_77 (ke f p s1 (Prs.smF p1) f1 a1 a2 a3 a4)))
end
