noncomputable section
set_option maxRecDepth 20000
/-! the tape, token by token: the class -/
def isL (x : Int) : Prop := (97 ≤ x ∧ x ≤ 122) ∨ (65 ≤ x ∧ x ≤ 90)
def isD (x : Int) : Prop := 48 ≤ x ∧ x ≤ 57
def isB (x : Int) : Prop := x = 32 ∨ x = 10
abbrev Tok : Type := Int × Int × Int
def spc (i : Int) : Int := ((sp_text.getD i.toNat 0 : Nat) : Int)
def MW (c : Int → Int) (p q i : Int) : Prop := q - p < 8 ∧ ∀ j, 0 ≤ j → j < 8 → spc (i * 8 + j) = if p + j < q then c (p + j) else 32
def WNp (c : Int → Int) (p q v : Int) : Prop := (v = -1 ∧ ∀ i, 0 ≤ i → i < 29 → ¬ MW c p q i) ∨ (0 ≤ v ∧ v < 29 ∧ MW c p q v)
def nvf (c : Int → Int) (p k : Int) : Int := it (fun j x => min 10000 (x * 10 + c (p + j) - 48)) 0 k
theorem nv_s {c : Int → Int} {p k : Int} (k0 : 0 ≤ k) : nvf c p (k + 1) = min 10000 (nvf c p k * 10 + c (p + k) - 48) := it_s _ _ k0
def LexC (c : Int → Int) (n : Int) (R : Int → List Tok → Prop) : Prop :=
  (R n []) ∧
  (∀ (p : Int) (l : List Tok), p < n → isB (c p) → R (p + 1) l → R p l) ∧
  (∀ (p : Int) (q : Int) (v : Int) (l : List Tok), p < q → q ≤ n → (∀ i, p ≤ i → i < q → isL (c i)) → (q < n → ¬ isL (c q)) → WNp c p q v → R q l → R p ((1, v, p) :: l)) ∧
  (∀ (p : Int) (q : Int) (l : List Tok), p < q → q ≤ n → (∀ i, p ≤ i → i < q → isD (c i)) → (q < n → ¬ isD (c q)) → R q l → R p ((2, nvf c p (q - p), p) :: l)) ∧
  (∀ (p : Int) (l : List Tok), p < n → ¬ isB (c p) → ¬ isL (c p) → ¬ isD (c p) → R (p + 1) l → R p ((3, c p, p) :: l))
def Lex (c : Int → Int) (n : Int) (p : Int) (l : List Tok) : Prop := ∀ R : Int → List Tok → Prop, LexC c n R → R p l
theorem Lex.nil {c : Int → Int} {n : Int}   : Lex c n n [] := fun R hR => hR.1
theorem Lex.blank {c : Int → Int} {n : Int} {p : Int} {l : List Tok} (a0 : p < n) (a1 : isB (c p)) (a2 : Lex c n (p + 1) l) : Lex c n p l := fun R hR => hR.2.1 p l a0 a1 (a2 R hR)
theorem Lex.word {c : Int → Int} {n : Int} {p : Int} {q : Int} {v : Int} {l : List Tok} (a0 : p < q) (a1 : q ≤ n) (a2 : (∀ i, p ≤ i → i < q → isL (c i))) (a3 : (q < n → ¬ isL (c q))) (a4 : WNp c p q v) (a5 : Lex c n q l) : Lex c n p ((1, v, p) :: l) := fun R hR => hR.2.2.1 p q v l a0 a1 a2 a3 a4 (a5 R hR)
theorem Lex.num {c : Int → Int} {n : Int} {p : Int} {q : Int} {l : List Tok} (a0 : p < q) (a1 : q ≤ n) (a2 : (∀ i, p ≤ i → i < q → isD (c i))) (a3 : (q < n → ¬ isD (c q))) (a4 : Lex c n q l) : Lex c n p ((2, nvf c p (q - p), p) :: l) := fun R hR => hR.2.2.2.1 p q l a0 a1 a2 a3 (a4 R hR)
theorem Lex.sign {c : Int → Int} {n : Int} {p : Int} {l : List Tok} (a0 : p < n) (a1 : ¬ isB (c p)) (a2 : ¬ isL (c p)) (a3 : ¬ isD (c p)) (a4 : Lex c n (p + 1) l) : Lex c n p ((3, c p, p) :: l) := fun R hR => hR.2.2.2.2 p l a0 a1 a2 a3 (a4 R hR)
theorem Lex.ind {c : Int → Int} {n : Int} {motive : (p : Int) → (l : List Tok) → Lex c n p l → Prop} (nil_ : motive n [] Lex.nil) (blank_ : ∀ {p : Int} {l : List Tok} (a0 : p < n) (a1 : isB (c p)) (a2 : Lex c n (p + 1) l), motive (p + 1) l a2 → motive p l (Lex.blank a0 a1 a2)) (word_ : ∀ {p : Int} {q : Int} {v : Int} {l : List Tok} (a0 : p < q) (a1 : q ≤ n) (a2 : (∀ i, p ≤ i → i < q → isL (c i))) (a3 : (q < n → ¬ isL (c q))) (a4 : WNp c p q v) (a5 : Lex c n q l), motive q l a5 → motive p ((1, v, p) :: l) (Lex.word a0 a1 a2 a3 a4 a5)) (num_ : ∀ {p : Int} {q : Int} {l : List Tok} (a0 : p < q) (a1 : q ≤ n) (a2 : (∀ i, p ≤ i → i < q → isD (c i))) (a3 : (q < n → ¬ isD (c q))) (a4 : Lex c n q l), motive q l a4 → motive p ((2, nvf c p (q - p), p) :: l) (Lex.num a0 a1 a2 a3 a4)) (sign_ : ∀ {p : Int} {l : List Tok} (a0 : p < n) (a1 : ¬ isB (c p)) (a2 : ¬ isL (c p)) (a3 : ¬ isD (c p)) (a4 : Lex c n (p + 1) l), motive (p + 1) l a4 → motive p ((3, c p, p) :: l) (Lex.sign a0 a1 a2 a3 a4)) {p : Int} {l : List Tok} (h : Lex c n p l) : motive p l h := by
  obtain ⟨_, m⟩ := h (fun p l => ∃ h : Lex c n p l, motive p l h) ⟨⟨Lex.nil, nil_⟩,
    fun p l a0 a1 ⟨a2, m2⟩ => ⟨(Lex.blank a0 a1 a2), blank_ a0 a1 a2 m2⟩,
    fun p q v l a0 a1 a2 a3 a4 ⟨a5, m5⟩ => ⟨(Lex.word a0 a1 a2 a3 a4 a5), word_ a0 a1 a2 a3 a4 a5 m5⟩,
    fun p q l a0 a1 a2 a3 ⟨a4, m4⟩ => ⟨(Lex.num a0 a1 a2 a3 a4), num_ a0 a1 a2 a3 a4 m4⟩,
    fun p l a0 a1 a2 a3 ⟨a4, m4⟩ => ⟨(Lex.sign a0 a1 a2 a3 a4), sign_ a0 a1 a2 a3 a4 m4⟩⟩
  exact m
def VT (l : List Tok) : Prop := ∀ t ∈ l, (t.1 = 2 ∧ 0 ≤ t.2.1 ∧ t.2.1 ≤ 10000) ∨ (t.1 = 1 ∧ -1 ≤ t.2.1 ∧ t.2.1 < 29) ∨ t.1 = 3
theorem nv_b {c : Int → Int} {p q : Int} (h : ∀ i, p ≤ i → i < q → isD (c i)) : ∀ n : Nat, (n : Int) ≤ q - p → 0 ≤ nvf c p n ∧ nvf c p n ≤ 10000 := by
  intro n
  induction n with
  | zero => intro _; exact ⟨Int.le_refl _, by show (0 : Int) ≤ 10000; omega⟩
  | succ n ih =>
    intro hn
    have a := ih (by omega)
    have hd := h (p + n) (by omega) (by omega)
    unfold isD at hd
    rw [show ((n + 1 : Nat) : Int) = (n : Int) + 1 from by omega, nv_s (by omega)]
    omega
theorem vt_c {t : Tok} {l : List Tok} (h1 : (t.1 = 2 ∧ 0 ≤ t.2.1 ∧ t.2.1 ≤ 10000) ∨ (t.1 = 1 ∧ -1 ≤ t.2.1 ∧ t.2.1 < 29) ∨ t.1 = 3) (h2 : VT l) : VT (t :: l) := fun x hx => by
  rcases List.mem_cons.mp hx with rfl | hx
  · exact h1
  · exact h2 x hx
theorem lex_v {c : Int → Int} {n p : Int} {l : List Tok} (h : Lex c n p l) : VT l := by
  induction h using Lex.ind with
  | nil_ => exact fun t ht => absurd ht List.not_mem_nil
  | blank_ _ _ _ ih => exact ih
  | word_ h1 h2 h3 h4 hv h6 ih =>
    rename_i p q v l
    refine vt_c (Or.inr (Or.inl ⟨rfl, ?_⟩)) ih
    show -1 ≤ v ∧ v < 29
    rcases hv with ⟨v1, _⟩ | ⟨v1, v2, _⟩
    · omega
    · omega
  | num_ pq h2 hd h4 h5 ih =>
    rename_i p q l
    have := nv_b hd (q - p).toNat (by omega)
    rw [show (((q - p).toNat : Nat) : Int) = q - p from by omega] at this
    exact vt_c (Or.inl ⟨rfl, this⟩) ih
  | sign_ _ _ _ _ _ ih => exact vt_c (Or.inr (Or.inr rfl)) ih
def Tks (s : Sg) (l : List Tok) : Prop := s 65 3 = l.length ∧ ∀ j : Nat, j < l.length → s 66 j = (l.getD j (0, 0, 0)).1 ∧ s 68 j = (l.getD j (0, 0, 0)).2.1 ∧ s 67 j = (l.getD j (0, 0, 0)).2.2
theorem getD_a {l : List Tok} {t : Tok} {j : Nat} : (l ++ [t]).getD j (0, 0, 0) = if j < l.length then l.getD j (0, 0, 0) else if j = l.length then t else (0, 0, 0) := by
  rw [List.getD_eq_getElem?_getD, List.getD_eq_getElem?_getD]
  by_cases h : j < l.length
  · rw [if_pos h, List.getElem?_append_left h]
  · rw [if_neg h, List.getElem?_append_right (by omega)]
    by_cases e : j = l.length
    · rw [if_pos e, e, Nat.sub_self]; rfl
    · rw [if_neg e, List.getElem?_eq_none (by simp; omega)]; rfl
theorem c_keepToken {d : Nat} {s : Sg} {T : TT} {P : AM → Prop} {t st v : Int} {pre : List Tok} (h : Tks s pre) (hl : pre.length < 300) (k : ∀ s', Sm [65, 66, 67, 68] s s' → (∀ i, i ≠ 3 → s' 65 i = s 65 i) → Tks s' (pre ++ [(t, v, st)]) → P (mk s' T)) : wpV d 169 0 [aR 65, aI t, aI st, aI v] [] (mk s T) P := by
  obtain ⟨h1, h2⟩ := h
  refine g_Tokens_keepToken_0 ?_
  rw [h1, w32_id (x := (pre.length : Int) + 1) (by omega) (by omega)]
  refine ct (by omega) (ct (by omega) (ct (by omega) (ct (by omega) (k _ (sm_u (sm_u (sm_u (sm_u (sm_r _ _) (by simp)) (by simp)) (by simp)) (by simp)) (fun i hi => ?_) ⟨?_, fun j hj => ?_⟩))))
  · rw [up_i hi, up_c (by decide), up_c (by decide), up_c (by decide)]
  · rw [up_s]; simp
  · rw [List.length_append, List.length_singleton] at hj
    have a1 : up (up (up (up s 66 pre.length t) 67 pre.length st) 68 pre.length v) 65 3 (pre.length + 1) 66 j = if (j : Int) = pre.length then t else s 66 j := by rw [up_c (by decide), up_c (by decide), up_c (by decide), up_e]
    have a2 : up (up (up (up s 66 pre.length t) 67 pre.length st) 68 pre.length v) 65 3 (pre.length + 1) 68 j = if (j : Int) = pre.length then v else s 68 j := by rw [up_c (by decide), up_e, up_c (by decide), up_c (by decide)]
    have a3 : up (up (up (up s 66 pre.length t) 67 pre.length st) 68 pre.length v) 65 3 (pre.length + 1) 67 j = if (j : Int) = pre.length then st else s 67 j := by rw [up_c (by decide), up_c (by decide), up_e, up_c (by decide)]
    rw [a1, a2, a3, getD_a]
    by_cases e : j < pre.length
    · have e' : ¬ (j : Int) = pre.length := by omega
      simp only [if_neg e', if_pos e]; exact h2 j e
    · have e' : (j : Int) = pre.length := by omega
      have e2 : j = pre.length := by omega
      simp only [if_pos e', if_neg e, if_pos e2]; exact ⟨trivial, trivial, trivial⟩
theorem sp_len : (sp_text.length : Int) = 232 := by decide +kernel
theorem c_isSpelled {d : Nat} {s : Sg} {T : TT} {P : Int → AM → Prop} {p q n i : Int} (hn : s 65 1 = n) (hq : s 65 2 = q) (p0 : 0 ≤ p) (pq : p < q) (qn : q ≤ n) (n3 : n ≤ 300) (i0 : 0 ≤ i) (i1 : i < 29) (k1 : MW (fun i => s 59 i % 256) p q i → P 1 (mk s T)) (k0 : ¬ MW (fun i => s 59 i % 256) p q i → P 0 (mk s T)) : wpI (d + 1) 168 0 [aR 65, aI i, aI p, aU, aU, aU] [] (mk s T) P := by
  refine g_Tokens_isSpelled_0 ?_
  rw [hq, w32_id (x := q - p) (by omega) (by omega)]
  refine ci (fun c => ?_) (fun c => k0 (fun m => c m.1))
  have lp : ∀ l4 l5 : AV, (∀ j, 0 ≤ j → j < 0 → spc (i * 8 + j) = if p + j < q then s 59 (p + j) % 256 else 32) → wpI (d + 1) 168 15 [aR 65, aI i, aI p, aI 0, l4, l5] [] (mk s T) P := by
    refine for_up (n := 8) (Hd := fun m s' => ∀ l4 l5 : AV, (∀ j, 0 ≤ j → j < m → spc (i * 8 + j) = if p + j < q then s 59 (p + j) % 256 else 32) → wpI (d + 1) 168 15 [aR 65, aI i, aI p, aI m, l4, l5] [] (mk s' T) P) (Inv := fun _ s' => s' = s) ?_ ?_ rfl (by omega)
    · rintro m s' m0 m1 rfl ih l4 l5 hO
      have ih := ih s' rfl
      have nx_ : (spc (i * 8 + m) = if p + m < q then s' 59 (p + m) % 256 else 32) → ∀ j, 0 ≤ j → j < m + 1 → spc (i * 8 + j) = if p + j < q then s' 59 (p + j) % 256 else 32 := fun h j j0 j1 => by
        by_cases e : j = m
        · rw [e]; exact h
        · exact hO j j0 (by omega)
      have no : ¬ (spc (i * 8 + m) = if p + m < q then s' 59 (p + m) % 256 else 32) → P 0 (mk s' T) := fun h => k0 (fun w => h (w.2 m m0 m1))
      refine g_Tokens_isSpelled_15 (ct m1 ?_)
      rw [hq, hn, w32_id (x := p + m) (by omega) (by omega), w32_id (x := i * 8) (by omega) (by omega), w32_id (x := i * 8 + m) (by omega) (by omega), w32_id (x := m + 1) (by omega) (by omega), bA_255, sp_len]
      refine ci (fun c2 => cf (by omega) (ct (by omega) (ct (by omega) (ct (by omega) (cf (by omega) (ct (by omega) (ct (by omega) ?_))))))) (fun c2 => cf (by omega) (ct (by omega) (ct (by omega) ?_)))
      · rw [if_pos c2] at no nx_
        exact ci (fun c3 => ih _ _ (nx_ c3)) (fun c3 => no c3)
      · rw [if_neg c2] at no nx_
        exact ci (fun c3 => ih _ _ (nx_ c3)) (fun c3 => no c3)
    · rintro s' rfl l4 l5 hO
      exact g_Tokens_isSpelled_15 (cf (by omega) (k1 ⟨c, hO⟩))
  exact lp aU aU (fun j j0 j1 => by omega)
theorem isL_n {x : Int} {A B : Prop} (ha : isL x → A) (hb : ¬ isL x → B) : brK (decide (x < 97)) (brK (decide (x < 65)) B (brK (decide (90 < x)) B A)) (brK (decide (122 < x)) (brK (decide (x < 65)) B (brK (decide (90 < x)) B A)) A) := by
  refine ci (fun c1 => ci (fun c2 => hb ?_) (fun c2 => ci (fun c3 => hb ?_) (fun c3 => ha ?_))) (fun c1 => ci (fun c2 => ci (fun c3 => hb ?_) (fun c3 => ci (fun c4 => hb ?_) (fun c4 => ha ?_))) (fun c2 => ha ?_))
  all_goals unfold isL; omega
theorem c_cutWord {d : Nat} {s : Sg} {T : TT} {P : AM → Prop} {p n : Int} {pre : List Tok} (hn : s 65 1 = n) (hp : s 65 2 = p) (p0 : 0 ≤ p) (pn : p < n) (n3 : n ≤ 300) (hL : isL (s 59 p % 256)) (ht : Tks s pre) (hl : pre.length < 300) (k : ∀ q v s', p < q → q ≤ n → (∀ i, p ≤ i → i < q → isL (s 59 i % 256)) → (q < n → ¬ isL (s 59 q % 256)) → WNp (fun i => s 59 i % 256) p q v → Sm [65, 66, 67, 68] s s' → s' 65 1 = n → s' 65 2 = q → Tks s' (pre ++ [(1, v, p)]) → P (mk s' T)) : wpV (d + 2) 167 0 [aR 65, aU, aU, aU] [] (mk s T) P := by
  refine g_Tokens_cutWord_0 ?_
  rw [hp]
  -- the words
  have words : ∀ (q : Int) (s1 : Sg), p < q → q ≤ n → (∀ i, p ≤ i → i < q → isL (s 59 i % 256)) → (q < n → ¬ isL (s 59 q % 256)) → Sm [65] s s1 → s1 65 1 = n → s1 65 2 = q → Tks s1 pre → wpV (d + 2) 167 49 [aR 65, aI p, aI (-1), aI 0] [] (mk s1 T) P := by
    intro q s1 pq qn hl1 hl2 e1 n1 q1 t1
    have e59 := e1 59 (by decide)
    have lp : ∀ v : Int, ((v = -1 ∧ ∀ i, 0 ≤ i → i < 0 → ¬ MW (fun i => s 59 i % 256) p q i) ∨ (0 ≤ v ∧ v < 0 ∧ MW (fun i => s 59 i % 256) p q v)) → wpV (d + 2) 167 49 [aR 65, aI p, aI v, aI 0] [] (mk s1 T) P := by
      refine for_up (n := 29) (Hd := fun m s' => ∀ v : Int, ((v = -1 ∧ ∀ i, 0 ≤ i → i < m → ¬ MW (fun i => s 59 i % 256) p q i) ∨ (0 ≤ v ∧ v < m ∧ MW (fun i => s 59 i % 256) p q v)) → wpV (d + 2) 167 49 [aR 65, aI p, aI v, aI m] [] (mk s' T) P) (Inv := fun _ s' => s' = s1) ?_ ?_ rfl (by omega)
      · rintro m s' m0 m1 rfl ih v hv
        have ih := ih s' rfl
        refine g_Tokens_cutWord_49 (ct m1 (c_isSpelled (d := d) n1 q1 p0 pq qn n3 m0 m1 (fun w => g_Tokens_cutWord_61 (cf (by omega) ?_)) (fun w => g_Tokens_cutWord_61 (ct rfl ?_))))
        · rw [e59] at w
          rw [w32_id (x := m + 1) (by omega) (by omega)]
          exact ih m (Or.inr ⟨m0, by omega, w⟩)
        · rw [e59] at w
          rw [w32_id (x := m + 1) (by omega) (by omega)]
          refine ih v ?_
          rcases hv with ⟨v1, v2⟩ | ⟨v1, v2, v3⟩
          · refine Or.inl ⟨v1, fun i i0 i1 => ?_⟩
            by_cases ei : i = m
            · rw [ei]; exact w
            · exact v2 i i0 (by omega)
          · exact Or.inr ⟨v1, by omega, v3⟩
      · rintro s' rfl v hv
        refine g_Tokens_cutWord_49 (cf (by omega) (c_keepToken t1 hl (fun s2 e2 f2 t2 => g_Tokens_cutWord_79 (k q v s2 pq qn hl1 hl2 hv (sm_t (sm_m e1 (by simp)) e2) (by rw [f2 1 (by omega)]; exact n1) (by rw [f2 2 (by omega)]; exact q1) t2))))
    exact lp (-1) (Or.inl ⟨rfl, fun i i0 i1 => by omega⟩)
  -- its end
  have key : ∀ (m : Nat) (j : Int) (s1 : Sg), 0 ≤ j → p + j + m = n → (∀ i, p ≤ i → i < p + j → isL (s 59 i % 256)) → Sm [65] s s1 → s1 65 1 = n → s1 65 2 = p + j → Tks s1 pre → wpV (d + 2) 167 7 [aR 65, aI p, aI j, aU] [] (mk s1 T) P := by
    intro m
    induction m with
    | zero =>
      intro j s1 j0 hm hl1 e1 n1 q1 t1
      have go := words (p + j) s1 (by omega) (by omega) hl1 (fun h => by omega) e1 n1 q1 t1
      refine g_Tokens_cutWord_7 ?_
      rw [n1, q1]
      exact ci (fun c => cf (by omega) (cf (by omega) go)) (fun c => go)
    | succ m ih =>
      intro j s1 j0 hm hl1 e1 n1 q1 t1
      have e59 := e1 59 (by decide)
      refine g_Tokens_cutWord_7 ?_
      rw [n1, q1, e59, bA_255, w32_id (x := j + 1) (by omega) (by omega), w32_id (x := p + j + 1) (by omega) (by omega)]
      refine ct (by omega) (cf (by omega) (ct (by omega) (ct (by omega) (ct (by omega) (isL_n (fun hl => ?_) (fun hl => ?_))))))
      · refine ih (j + 1) _ (by omega) (by omega) (fun i i0 i1 => ?_) (sm_u e1 (by simp)) (by rw [up_i (by decide)]; exact n1) (by rw [up_s]; omega) ⟨by rw [up_i (by decide)]; exact t1.1, by rw [up_c (by decide), up_c (by decide), up_c (by decide)]; exact t1.2⟩
        by_cases e : i = p + j
        · rw [e]; exact hl
        · exact hl1 i i0 (by omega)
      · by_cases hj : j = 0
        · subst hj; rw [Int.add_zero] at hl; exact absurd hL hl
        · exact words (p + j) s1 (by omega) (by omega) hl1 (fun _ => hl) e1 n1 q1 t1
  exact key (n - p).toNat 0 s (by omega) (by omega) (fun i i0 i1 => by omega) (sm_r _ _) hn (by omega) ht
theorem c_cutNumber {d : Nat} {s : Sg} {T : TT} {P : AM → Prop} {p n : Int} {pre : List Tok} (hn : s 65 1 = n) (hp : s 65 2 = p) (p0 : 0 ≤ p) (pn : p < n) (n3 : n ≤ 300) (hD : isD (s 59 p % 256)) (ht : Tks s pre) (hl : pre.length < 300) (k : ∀ q s', p < q → q ≤ n → (∀ i, p ≤ i → i < q → isD (s 59 i % 256)) → (q < n → ¬ isD (s 59 q % 256)) → Sm [65, 66, 67, 68] s s' → s' 65 1 = n → s' 65 2 = q → Tks s' (pre ++ [(2, nvf (fun i => s 59 i % 256) p (q - p), p)]) → P (mk s' T)) : wpV (d + 1) 171 0 [aR 65, aU, aU, aU] [] (mk s T) P := by
  refine g_Tokens_cutNumber_0 ?_
  rw [hp]
  have done : ∀ (j : Int) (s1 : Sg), 0 < j → p + j ≤ n → (∀ i, p ≤ i → i < p + j → isD (s 59 i % 256)) → (p + j < n → ¬ isD (s 59 (p + j) % 256)) → Sm [65] s s1 → s1 65 1 = n → s1 65 2 = p + j → Tks s1 pre → wpV d 169 0 [aR 65, aI 2, aI p, aI (nvf (fun i => s 59 i % 256) p j)] [] (mk s1 T) (fun M' => wpV (d + 1) 171 77 [aR 65, aI p, aI (nvf (fun i => s 59 i % 256) p j), aI j] [] M' P) := by
    intro j s1 j0 jn hl1 hl2 e1 n1 q1 t1
    refine c_keepToken t1 hl (fun s2 e2 f2 t2 => g_Tokens_cutNumber_77 (k (p + j) s2 (by omega) jn hl1 hl2 (sm_t (sm_m e1 (by simp)) e2) (by rw [f2 1 (by omega)]; exact n1) (by rw [f2 2 (by omega)]; exact q1) ?_))
    rw [show p + j - p = j from by omega]; exact t2
  have key : ∀ (m : Nat) (j : Int) (s1 : Sg), 0 ≤ j → p + j + m = n → (∀ i, p ≤ i → i < p + j → isD (s 59 i % 256)) → (0 ≤ nvf (fun i => s 59 i % 256) p j ∧ nvf (fun i => s 59 i % 256) p j ≤ 10000) → Sm [65] s s1 → s1 65 1 = n → s1 65 2 = p + j → Tks s1 pre → wpV (d + 1) 171 9 [aR 65, aI p, aI (nvf (fun i => s 59 i % 256) p j), aI j] [] (mk s1 T) P := by
    intro m
    induction m with
    | zero =>
      intro j s1 j0 hm hl1 hb e1 n1 q1 t1
      have go := done j s1 (by omega) (by omega) hl1 (fun h => by omega) e1 n1 q1 t1
      refine g_Tokens_cutNumber_9 ?_
      rw [n1, q1]
      exact ci (fun c => cf (by omega) (cf (by omega) go)) (fun c => go)
    | succ m ih =>
      intro j s1 j0 hm hl1 hb e1 n1 q1 t1
      have e59 := e1 59 (by decide)
      have r := ih (j + 1) (up s1 65 2 (p + j + 1)) (by omega) (by omega)
      have bb : 0 ≤ s 59 (p + j) % 256 ∧ s 59 (p + j) % 256 < 256 := by omega
      refine g_Tokens_cutNumber_9 ?_
      rw [n1, q1, e59, bA_255, w32_id (x := j + 1) (by omega) (by omega), w32_id (x := p + j + 1) (by omega) (by omega), w32_id (x := nvf (fun i => s 59 i % 256) p j * 10) (by omega) (by omega), w32_id (x := nvf (fun i => s 59 i % 256) p j * 10 + s 59 (p + j) % 256) (by omega) (by omega), w32_id (x := nvf (fun i => s 59 i % 256) p j * 10 + s 59 (p + j) % 256 - 48) (by omega) (by omega)]
      have stop : ¬ isD (s 59 (p + j) % 256) → wpV d 169 0 [aR 65, aI 2, aI p, aI (nvf (fun i => s 59 i % 256) p j)] [] (mk s1 T) (fun M' => wpV (d + 1) 171 77 [aR 65, aI p, aI (nvf (fun i => s 59 i % 256) p j), aI j] [] M' P) := fun hd => by
        by_cases hj : j = 0
        · subst hj; rw [Int.add_zero] at hd; exact absurd hD hd
        · exact done j s1 (by omega) (by omega) hl1 (fun _ => hd) e1 n1 q1 t1
      refine ct (by omega) (cf (by omega) (ct (by omega) (ct (by omega) (ct (by omega) (ci (fun c => stop (by unfold isD; omega)) (fun c => ci (fun c2 => stop (by unfold isD; omega)) (fun c2 => cf (by omega) (ct (by omega) (ct (by omega) (ct (by omega) ?_))))))))))
      have e := nv_s (c := fun i => s 59 i % 256) (p := p) j0
      rw [← e]
      refine r (fun i i0 i1 => ?_) (by rw [e]; omega) (sm_u e1 (by simp)) (by rw [up_i (by decide)]; exact n1) (by rw [up_s]; omega) ⟨by rw [up_i (by decide)]; exact t1.1, by rw [up_c (by decide), up_c (by decide), up_c (by decide)]; exact t1.2⟩
      by_cases ei : i = p + j
      · rw [ei]; unfold isD; omega
      · exact hl1 i i0 (by omega)
  exact key (n - p).toNat 0 s (by omega) (by omega) (fun i i0 i1 => by omega) (show (0 : Int) ≤ 0 ∧ (0 : Int) ≤ 10000 by omega) (sm_r _ _) hn (by omega) ht
theorem c_cutOne {d : Nat} {s : Sg} {T : TT} {P : AM → Prop} {p n : Int} {pre : List Tok} (hn : s 65 1 = n) (hp : s 65 2 = p) (p0 : 0 ≤ p) (pn : p < n) (n3 : n ≤ 300) (ht : Tks s pre) (hl : pre.length < 300) (k : ∀ q w s', p < q → q ≤ n → (∀ l, Lex (fun i => s 59 i % 256) n q l → Lex (fun i => s 59 i % 256) n p (w ++ l)) → w.length ≤ 1 → Sm [65, 66, 67, 68] s s' → s' 65 1 = n → s' 65 2 = q → Tks s' (pre ++ w) → P (mk s' T)) : wpV (d + 3) 164 0 [aR 65, aI (s 59 p % 256)] [] (mk s T) P := by
  have bl : isB (s 59 p % 256) → P (mk (up s 65 2 (w32 (s 65 2 + 1))) T) := fun hb => by
    rw [hp, w32_id (x := p + 1) (by omega) (by omega)]
    refine k (p + 1) [] _ (by omega) (by omega) (fun l hl => Lex.blank pn hb hl) (by simp) (sm_u (sm_r _ _) (by simp)) (by rw [up_i (by decide)]; exact hn) (up_s _ _ _ _) ?_
    rw [List.append_nil]
    exact ⟨by rw [up_i (by decide)]; exact ht.1, by rw [up_c (by decide), up_c (by decide), up_c (by decide)]; exact ht.2⟩
  have lt : isL (s 59 p % 256) → wpV (d + 2) 167 0 [aR 65, aU, aU, aU] [] (mk s T) (fun M' => wpV (d + 2 + 1) 164 31 [aR 65, aI (s 59 p % 256)] [] M' P) := fun hL =>
    c_cutWord (d := d) hn hp p0 pn n3 hL ht hl (fun q v s' h1 h2 h3 h4 h5 h6 h7 h8 h9 => g_Tokens_cutOne_31 (k q [(1, v, p)] s' h1 h2 (fun l hl => Lex.word h1 h2 h3 h4 h5 hl) (by simp) h6 h7 h8 h9))
  have dg : isD (s 59 p % 256) → wpV (d + 2) 171 0 [aR 65, aU, aU, aU] [] (mk s T) (fun M' => wpV (d + 2 + 1) 164 45 [aR 65, aI (s 59 p % 256)] [] M' P) := fun hD =>
    c_cutNumber (d := d + 1) hn hp p0 pn n3 hD ht hl (fun q s' h1 h2 h3 h4 h6 h7 h8 h9 => g_Tokens_cutOne_45 (k q _ s' h1 h2 (fun l hl => Lex.num h1 h2 h3 h4 hl) (by simp) h6 h7 h8 h9))
  have sg : ¬ isB (s 59 p % 256) → ¬ isL (s 59 p % 256) → ¬ isD (s 59 p % 256) → wpV (d + 3) 164 48 [aR 65, aI (s 59 p % 256)] [] (mk s T) P := fun h1 h2 h3 => by
    refine g_Tokens_cutOne_48 ?_
    rw [hp]
    refine c_keepToken ht hl (fun s2 e2 f2 t2 => g_Tokens_cutOne_58 ?_)
    rw [f2 2 (by omega), hp, w32_id (x := p + 1) (by omega) (by omega)]
    refine k (p + 1) [(3, s 59 p % 256, p)] _ (by omega) (by omega) (fun l hl => Lex.sign pn h1 h2 h3 hl) (by simp) (sm_u e2 (by simp)) (by rw [up_i (by decide), f2 1 (by omega)]; exact hn) (up_s _ _ _ _) ?_
    exact ⟨by rw [up_i (by decide)]; exact t2.1, by rw [up_c (by decide), up_c (by decide), up_c (by decide)]; exact t2.2⟩
  refine g_Tokens_cutOne_0 ?_
  generalize s 59 p % 256 = x at *
  refine ci (fun a1 => bl (Or.inl a1)) (fun a1 => ci (fun a2 => bl (Or.inr a2)) (fun a2 => ?_))
  have nb : ¬ isB x := fun h => by rcases h with h | h; exact a1 h; exact a2 h
  refine ci (fun a3 => ci (fun a4 => ci (fun a5 => sg nb ?_ ?_) (fun a5 => ci (fun a6 => sg nb ?_ ?_) (fun a6 => dg ?_))) (fun a4 => ci (fun a5 => ci (fun a6 => sg nb ?_ ?_) (fun a6 => ci (fun a7 => sg nb ?_ ?_) (fun a7 => dg ?_))) (fun a5 => lt ?_))) (fun a3 => ci (fun a4 => ci (fun a5 => ci (fun a6 => sg nb ?_ ?_) (fun a6 => ci (fun a7 => sg nb ?_ ?_) (fun a7 => dg ?_))) (fun a5 => ci (fun a6 => ci (fun a7 => sg nb ?_ ?_) (fun a7 => ci (fun a8 => sg nb ?_ ?_) (fun a8 => dg ?_))) (fun a6 => lt ?_))) (fun a4 => lt ?_))
  all_goals (first | (unfold isL; omega) | (unfold isD; omega))
/-- where the class stands in its tokens -/
def plc (n : Int) : List Tok → Int
  | [] => n
  | t :: _ => t.2.2
def Cur (s : Sg) (n : Int) : List Tok → Prop
  | [] => s 65 8 = 0 ∧ s 65 9 = n ∧ s 65 10 = 0
  | t :: _ => s 65 8 = t.1 ∧ s 65 9 = t.2.2 ∧ s 65 10 = t.2.1
def CTk (s : Sg) (n : Int) (l : List Tok) : Prop := ∃ (l0 : List Tok) (k : Nat), (Tks s l0 ∧ VT l0) ∧ l0.length ≤ 300 ∧ s 65 1 = n ∧ s 65 7 = k ∧ l0.drop k = l ∧ Cur s n l
theorem c_adv0 {d : Nat} {s : Sg} {T : TT} {P : AM → Prop} {n : Int} {l0 : List Tok} {k : Nat} (hv : VT l0) (ht : Tks s l0) (hl : l0.length ≤ 300) (hn : s 65 1 = n) (h7 : s 65 7 = (k : Int) - 1) (hk : k ≤ l0.length) (kk : ∀ s', Sm [65] s s' → (∀ i, i < 7 → s' 65 i = s 65 i) → CTk s' n (l0.drop k) → P (mk s' T)) : wpV d 172 0 [aR 65, aU] [] (mk s T) P := by
  refine g_Tokens_advance_0 ?_
  rw [h7, ht.1, hn, w32_id (x := (k : Int) - 1 + 1) (by omega) (by omega), show (k : Int) - 1 + 1 = k from by omega]
  have tk : ∀ a b c : Int, Tks (up (up (up (up s 65 7 k) 65 8 a) 65 9 b) 65 10 c) l0 := fun a b c => ⟨by rw [up_i (by decide), up_i (by decide), up_i (by decide), up_i (by decide)]; exact ht.1, by rw [up_c (by decide), up_c (by decide), up_c (by decide), up_c (by decide), up_c (by decide), up_c (by decide), up_c (by decide), up_c (by decide), up_c (by decide), up_c (by decide), up_c (by decide), up_c (by decide)]; exact ht.2⟩
  have go : ∀ a b c : Int, (∀ x : Sg, x 65 8 = a → x 65 9 = b → x 65 10 = c → Cur x n (l0.drop k)) → P (mk (up (up (up (up s 65 7 k) 65 8 a) 65 9 b) 65 10 c) T) := fun a b c hc => by
    refine kk _ (sm_u (sm_u (sm_u (sm_u (sm_r _ _) (by simp)) (by simp)) (by simp)) (by simp)) (fun i hi => by rw [up_i (by omega), up_i (by omega), up_i (by omega), up_i (by omega)]) ⟨l0, k, ⟨tk a b c, hv⟩, hl, by rw [up_i (by decide), up_i (by decide), up_i (by decide), up_i (by decide)]; exact hn, by rw [up_i (by decide), up_i (by decide), up_i (by decide), up_s], rfl, hc _ ?_ ?_ ?_⟩
    · rw [up_i (by decide), up_i (by decide), up_s]
    · rw [up_i (by decide), up_s]
    · rw [up_s]
  refine cf (by omega) (ci (fun c => ct (by omega) (ct (by omega) (ct (by omega) (ct (by omega) (go _ _ _ (fun x x1 x2 x3 => ?_)))))) (fun c => go _ _ _ (fun x x1 x2 x3 => ?_)))
  · have hk' : k < l0.length := by omega
    rw [List.drop_eq_getElem_cons hk']
    have h2 := ht.2 k hk'
    have e : l0.getD k (0, 0, 0) = l0[k] := by rw [List.getD_eq_getElem?_getD, List.getElem?_eq_getElem hk']; rfl
    rw [e] at h2
    exact ⟨by rw [x1]; exact h2.1, by rw [x2]; exact h2.2.2, by rw [x3]; exact h2.2.1⟩
  · rw [List.drop_eq_nil_of_le (by omega)]
    exact ⟨x1, x2, x3⟩
theorem c_advance {d : Nat} {s : Sg} {T : TT} {P : AM → Prop} {n : Int} {t : Tok} {l : List Tok} (h : CTk s n (t :: l)) (k : ∀ s', Sm [65] s s' → CTk s' n l → P (mk s' T)) : wpV d 172 0 [aR 65, aU] [] (mk s T) P := by
  obtain ⟨l0, j, h1, h2, h3, h4, h5, h6⟩ := h
  have hj : j < l0.length := by
    have : (l0.drop j).length = l.length + 1 := by rw [h5]; rfl
    rw [List.length_drop] at this; omega
  have e : l0.drop (j + 1) = l := by
    have := congrArg List.tail h5
    rw [List.tail_drop] at this; exact this
  refine c_adv0 (k := j + 1) h1.2 h1.1 h2 h3 (by rw [h4]; omega) (by omega) (fun s' e1 _ e3 => k s' e1 ?_)
  rw [e] at e3; exact e3
theorem ctk_cur {s : Sg} {n : Int} {l : List Tok} (h : CTk s n l) : Cur s n l := by
  obtain ⟨l0, j, h1, h2, h3, h4, h5, h6⟩ := h
  exact h6
theorem ctk_v {s : Sg} {n : Int} {l : List Tok} (h : CTk s n l) : VT l := by
  obtain ⟨l0, j, h1, h2, h3, h4, h5, h6⟩ := h
  exact fun t ht => h1.2 t (List.mem_of_mem_drop (by rw [h5]; exact ht))
theorem ctk_9 {s : Sg} {n : Int} {l : List Tok} (h : CTk s n l) : s 65 9 = plc n l := by
  have := ctk_cur h
  cases l with
  | nil => exact this.2.1
  | cons t l => exact this.2.1
theorem ctk_c {s s' : Sg} {n : Int} {l : List Tok} (h : CTk s n l) (e : ∀ a, 65 ≤ a → a ≤ 68 → s' a = s a) : CTk s' n l := by
  obtain ⟨l0, j, h1, h2, h3, h4, h5, h6⟩ := h
  have e5 := e 65 (by omega) (by omega)
  refine ⟨l0, j, ⟨⟨by rw [e5]; exact h1.1.1, by rw [e 66 (by omega) (by omega), e 67 (by omega) (by omega), e 68 (by omega) (by omega)]; exact h1.1.2⟩, h1.2⟩, h2, by rw [e5]; exact h3, by rw [e5]; exact h4, h5, ?_⟩
  cases l with
  | nil => unfold Cur; rw [e5]; exact h6
  | cons t l => unfold Cur; rw [e5]; exact h6
theorem c_begin {d : Nat} {s : Sg} {T : TT} {P : AM → Prop} {n : Int} (n0 : 0 ≤ n) (n3 : n ≤ 300) (k : ∀ l s', Lex (fun i => s 59 i % 256) n 0 l → l.length ≤ 300 → Sm [65, 66, 67, 68] s s' → CTk s' n l → P (mk s' T)) : wpV (d + 4) 162 0 [aR 65, aI n, aU] [] (mk s T) P := by
  refine g_Tokens_begin_0 ?_
  rw [show max (0 : Int) (min n 300) = n from by omega]
  have key : ∀ (m : Nat) (p j : Int) (s1 : Sg) (pre : List Tok), (m : Int) = n - p → 0 ≤ p → p ≤ n → 0 ≤ j → j ≤ p → (pre.length : Int) ≤ p → Sm [65, 66, 67, 68] s s1 → s1 65 1 = n → s1 65 2 = p → Tks s1 pre → (∀ l, Lex (fun i => s 59 i % 256) n p l → Lex (fun i => s 59 i % 256) n 0 (pre ++ l)) → wpV (d + 4) 162 29 [aR 65, aI n, aI j] [] (mk s1 T) P := by
    intro m
    induction m using Nat.strongRecOn with
    | _ m ih =>
      intro p j s1 pre hm p0 pn j0 jp hpre e1 n1 p1 t1 hx
      have e59 := e1 59 (by decide)
      refine g_Tokens_begin_29 ?_
      rw [n1, p1, e59, bA_255]
      have fin : p = n → wpV (d + 3) 172 0 [aR 65, aU] [] (mk (up s1 65 7 (-1)) T) (fun M' => wpV (d + 3 + 1) 162 74 [aR 65, aI n, aI j] [] M' P) := fun ep => by
        have hx0 := hx [] (by rw [ep]; exact Lex.nil)
        rw [List.append_nil] at hx0
        refine c_adv0 (k := 0) (l0 := pre) (n := n) (lex_v hx0) ⟨by rw [up_i (by decide)]; exact t1.1, by rw [up_c (by decide), up_c (by decide), up_c (by decide)]; exact t1.2⟩ (by omega) (by rw [up_i (by decide)]; exact n1) (by rw [up_s]; rfl) (by omega) (fun s' e2 _ e3 => g_Tokens_begin_74 (k pre s' ?_ (by omega) (sm_t (sm_u e1 (by simp)) (sm_m e2 (by simp))) e3))
        exact hx0
      refine ci (fun c1 => ci (fun c2 => cf (by omega) (ct (by omega) (ct (by omega) (ct (by omega) ?_)))) (fun c2 => fin (by omega))) (fun c1 => fin (by omega))
      rw [← e59]
      refine c_cutOne (d := d) n1 p1 p0 c2 n3 t1 (by omega) (fun q w s2 h1 h2 h3 h4 h5 h6 h7 h8 => g_Tokens_begin_59 ?_)
      rw [e59] at h3
      rw [w32_id (x := j + 1) (by omega) (by omega)]
      refine ih (n - q).toNat (by omega) q (j + 1) s2 (pre ++ w) (by omega) (by omega) h2 (by omega) (by omega) (by rw [List.length_append]; omega) (sm_t e1 h5) h6 h7 h8 (fun l hl => ?_)
      rw [List.append_assoc]
      exact hx _ (h3 l hl)
  refine key n.toNat 0 0 _ [] (by omega) (by omega) n0 (by omega) (by omega) (by simp) (sm_u (sm_u (sm_u (sm_r _ _) (by simp)) (by simp)) (by simp)) (by rw [up_i (by decide), up_i (by decide), up_s]) (by rw [up_i (by decide), up_s]) ⟨by rw [up_s]; rfl, fun j hj => by simp at hj⟩ (fun l hl => hl)
end
