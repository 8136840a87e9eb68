noncomputable section
/-! the reference's lending -/
def BdL (L t m : Int → Int) : Prop := (∀ h, 0 ≤ h → h < 6 → (0 ≤ L h ∧ L h ≤ 30000) ∧ (0 ≤ t h ∧ t h ≤ 30000)) ∧ ∀ k, 0 ≤ k → k < 36 → 0 ≤ m k ∧ m k ≤ 99
theorem ps_b {f : Int → Int} {C : Int} (h : ∀ k, 0 ≤ k → k < 6 → 0 ≤ f k ∧ f k ≤ C) : ∀ i, 0 ≤ i → i ≤ 6 → 0 ≤ psum f i ∧ psum f i ≤ C * i := by
  refine it_inv (n := 6) (Q := fun i s => 0 ≤ s ∧ s ≤ C * i) (by simp) ?_
  intro i s i0 i1 hs
  have := h i i0 i1
  rw [Int.mul_add, Int.mul_one]
  omega
theorem ps_t {f : Int → Int} {n : Int} (n0 : 0 ≤ n) (n6 : n ≤ 6) (h : ∀ k, n ≤ k → k < 6 → f k = 0) : psum f n = psum f 6 := by
  have key : ∀ j : Nat, n + j ≤ 6 → psum f (n + j) = psum f n := by
    intro j
    induction j with
    | zero => intro _; rw [show n + ((0 : Nat) : Int) = n from by omega]
    | succ j ih => intro hj
                   rw [show n + ((j + 1 : Nat) : Int) = n + (j : Int) + 1 from by omega, ps_s (by omega), h _ (by omega) (by omega), Int.add_zero]
                   exact ih (by omega)
  have := key (6 - n).toNat (by omega)
  rw [show n + (((6 - n).toNat : Nat) : Int) = 6 from by omega] at this
  exact this.symm
def RSt (s : Sg) (L t m : Int → Int) : Prop := (∀ h, 0 ≤ h → h < 6 → s 81 h = L h ∧ s 82 h = t h) ∧ (∀ k, 0 ≤ k → k < 36 → s 83 k = m k)
set_option maxRecDepth 20000 in
theorem r_isTooMuch {d : Nat} {σ : Sg} {T : TT} {P : Int → AM → Prop} {L t m : Int → Int} {x : Int} (hb : BdL L t m) (hs : RSt σ L t m) (hx : S6 x) (k1 : 0 < LKs L t m x → P 1 (mk σ T)) (k0 : ¬ 0 < LKs L t m x → P 0 (mk σ T)) : wpI (d + 1) 284 0 [aR 70, aI x, aU, aU, aU, aU, aU] [] (mk σ T) P := by
  have hm : NN m 36 := fun i i0 i1 => (hb.2 i i0 i1).1
  have bmb : ∀ h, 0 ≤ h → h < 6 → ∀ j, 0 ≤ j → j ≤ 6 → 0 ≤ psum (fun k => ix x k (m (6 * k + h))) j ∧ psum (fun k => ix x k (m (6 * k + h))) j ≤ 99 * j := fun h h0 h6 => ps_b (fun k k0 k6 => by
    have := hb.2 (6 * k + h) (by omega) (by omega)
    have := ix_b (x := x) (h := k) this.1
    omega)
  have tkb : ∀ h, 0 ≤ h → h < 6 → 0 ≤ TKs t m x h ∧ TKs t m x h ≤ 30000 := fun h h0 h6 => by
    have := bm_n (m := m) (x := x) h0 h6 hm
    have := hb.1 h h0 h6
    unfold TKs; omega
  have lb : ∀ h, 0 ≤ h → h < 6 → 0 ≤ ix x h (L h) ∧ ix x h (L h) ≤ 30000 := fun h h0 h6 => by
    have := hb.1 h h0 h6
    have := ix_b (x := x) (h := h) this.1.1
    omega
  refine g_Mo_isTooMuch_0 ?_
  have lp : ∀ l5 l6 : AV, wpI (d + 1) 284 7 [aR 70, aI x, aI 0, aI 0, aI 0, l5, l6] [] (mk σ T) P := by
    refine for_up (n := 6) (Hd := fun i s => ∀ l5 l6 : AV, wpI (d + 1) 284 7 [aR 70, aI x, aI (psum (fun h => ix x h (L h)) i), aI (psum (TKs t m x) i), aI i, l5, l6] [] (mk s T) P) (Inv := fun _ s => s = σ) ?_ ?_ rfl (by omega)
    · rintro i s i0 i1 rfl ih l5 l6
      have p1 := ps_b lb i i0 (by omega)
      have p2 := ps_b tkb i i0 (by omega)
      have q1 := lb i i0 i1
      have q2 := tkb i i0 i1
      have inner : ∀ l2 : Int, l2 = psum (fun h => ix x h (L h)) (i + 1) → wpI (d + 1) 284 43 [aR 70, aI x, aI l2, aI (psum (TKs t m x) i), aI i, aI 0, aI 0] [] (mk s T) P := by
        rintro l2 rfl
        refine for_up (n := 6) (Hd := fun j s => wpI (d + 1) 284 43 [aR 70, aI x, aI (psum (fun h => ix x h (L h)) (i + 1)), aI (psum (TKs t m x) i), aI i, aI (psum (fun k => ix x k (m (6 * k + i))) j), aI j] [] (mk s T) P) (Inv := fun _ s' => s' = s) ?_ ?_ rfl (by omega)
        · rintro j s' j0 j1 rfl ih2
          have b1 := bmb i i0 i1 j j0 (by omega)
          have b2 := hb.2 (6 * j + i) (by omega) (by omega)
          have ih2 := ih2 s' rfl
          rw [ps_s j0] at ih2
          refine g_Mo_isTooMuch_43 (ct j1 ?_)
          rw [w32_id (x := 6 * j) (by omega) (by omega), w32_id (x := 6 * j + i) (by omega) (by omega), w32_id (x := j + 1) (by omega) (by omega), hs.2 (6 * j + i) (by omega) (by omega)]
          refine ci (fun c => ct (by omega) ?_) (fun c => ?_)
          · rw [ix_1 ((has_1 hx.1 j0 (by omega)).mp c)] at ih2
            rw [w32_id (by omega) (by omega)]; exact ih2
          · have e : tb x j = false := by
              cases e : tb x j with
              | false => rfl
              | true => exact absurd ((has_1 hx.1 j0 (by omega)).mpr e) c
            rw [ix_0 e] at ih2
            rw [w32_id (by omega) (by omega)]; exact ih2
        · rintro s' rfl
          have b1 := bmb i i0 i1 6 (by omega) (by omega)
          have ih' := ih s' rfl
          refine g_Mo_isTooMuch_43 (cf (by omega) (ct (by omega) ?_))
          rw [(hs.1 i i0 i1).2, w32_id (x := i + 1) (by omega) (by omega)]
          have e : psum (TKs t m x) (i + 1) = psum (TKs t m x) i + min (psum (fun k => ix x k (m (6 * k + i))) 6) (t i) := ps_s i0
          have tb := hb.1 i i0 i1
          rw [e] at ih'
          refine ci (fun c => ?_) (fun c => ct (by omega) ?_)
          · rw [show min (psum (fun k => ix x k (m (6 * k + i))) 6) (t i) = psum (fun k => ix x k (m (6 * k + i))) 6 from by omega] at ih'
            rw [w32_id (by omega) (by omega)]; exact ih' _ _
          · rw [show min (psum (fun k => ix x k (m (6 * k + i))) 6) (t i) = t i from by omega] at ih'
            rw [w32_id (by omega) (by omega)]; exact ih' _ _
      refine g_Mo_isTooMuch_7 (ct i1 ?_)
      rw [(hs.1 i i0 i1).1]
      have lbd := hb.1 i i0 i1
      refine ci (fun c => ct (by omega) (inner _ ?_)) (fun c => inner _ ?_)
      · rw [ps_s i0, ix_1 ((has_1 hx.1 i0 (by omega)).mp c), w32_id (by omega) (by omega)]
      · have e : tb x i = false := by
          cases e : tb x i with
          | false => rfl
          | true => exact absurd ((has_1 hx.1 i0 (by omega)).mpr e) c
        rw [ps_s i0, ix_0 e, w32_id (by omega) (by omega)]
    · rintro s rfl l5 l6
      refine g_Mo_isTooMuch_7 (cf (by omega) ?_)
      unfold LKs at k1 k0
      exact ci (fun c => k1 (by omega)) (fun c => k0 (by omega))
  exact lp aU aU
/-- the lowest set of those that can't -/
def LLp (W : Int) (L t m : Int → Int) (r : Int) : Prop := (r = -1 ∧ ∀ x, 1 ≤ x → x < 64 → Sb W x → ¬ 0 < LKs L t m x) ∨ (1 ≤ r ∧ r < 64 ∧ Sb W r ∧ 0 < LKs L t m r ∧ ∀ x, 1 ≤ x → x < r → Sb W x → ¬ 0 < LKs L t m x)
theorem llp_u {W : Int} {L t m : Int → Int} {r r' : Int} (h : LLp W L t m r) (k : LLp W L t m r') : r = r' := by
  rcases h with ⟨h1, h2⟩ | ⟨h1, h2, h3, h4, h5⟩ <;> rcases k with ⟨k1, k2⟩ | ⟨k1, k2, k3, k4, k5⟩
  · omega
  · exact absurd k4 (h2 r' k1 k2 k3)
  · exact absurd h4 (k2 r h1 h2 h3)
  · rcases Int.lt_trichotomy r r' with c | c | c
    · exact absurd h4 (k5 r h1 c h3)
    · exact c
    · exact absurd k4 (h5 r' k1 c k3)
def WSt (s : Sg) (W : Int) : Prop := ∀ h, 0 ≤ h → h < 6 → s 85 h = if tb W h = true then 1 else 0
set_option maxRecDepth 20000 in
theorem r_tooMuch {d : Nat} {σ : Sg} {T : TT} {P : Int → AM → Prop} {L t m : Int → Int} {W : Int} (hb : BdL L t m) (hs : RSt σ L t m) (hw : WSt σ W) (k : ∀ r, LLp W L t m r → P r (mk σ T)) : wpI (d + 2) 283 0 [aR 70, aU, aU, aU] [] (mk σ T) P := by
  refine g_Mo_tooMuch_0 ?_
  have lp : ∀ l2 l3 : AV, (∀ x, 1 ≤ x → x < 0 + 1 → Sb W x → ¬ 0 < LKs L t m x) → wpI (d + 2) 283 2 [aR 70, aI (0 + 1), l2, l3] [] (mk σ T) P := by
    refine for_up (n := 63) (Hd := fun i s => ∀ l2 l3 : AV, (∀ x, 1 ≤ x → x < i + 1 → Sb W x → ¬ 0 < LKs L t m x) → wpI (d + 2) 283 2 [aR 70, aI (i + 1), l2, l3] [] (mk s T) P) (Inv := fun _ s => s = σ) ?_ ?_ rfl (by omega)
    · rintro i s i0 i1 rfl ih l2 l3 hO
      have x6 : S6 (i + 1) := ⟨by omega, by omega⟩
      have ih := ih s rfl
      refine g_Mo_tooMuch_2 (ct (by omega) ?_)
      have skip : (Sb W (i + 1) → ¬ 0 < LKs L t m (i + 1)) → ∀ l2 l3 : AV, wpI (d + 2) 283 2 [aR 70, aI (i + 1 + 1), l2, l3] [] (mk s T) P := fun hn l2 l3 => ih l2 l3 (fun x x1 x2 x3 => by
        by_cases e : x = i + 1
        · subst e; exact hn x3
        · exact hO x x1 (by omega) x3)
      have mid : ∀ a : Int, (a = 0 ∨ a = 1) → (a = 1 ↔ ∀ h, 0 ≤ h → h < 0 → tb (i + 1) h = true → tb W h = true) → wpI (d + 2) 283 12 [aR 70, aI (i + 1), aI a, aI 0] [] (mk s T) P := by
        refine for_up (n := 6) (Hd := fun j s => ∀ a : Int, (a = 0 ∨ a = 1) → (a = 1 ↔ ∀ h, 0 ≤ h → h < j → tb (i + 1) h = true → tb W h = true) → wpI (d + 2) 283 12 [aR 70, aI (i + 1), aI a, aI j] [] (mk s T) P) (Inv := fun _ s' => s' = s) ?_ ?_ rfl (by omega)
        · rintro j s' j0 j1 rfl ih2 a ha hA
          have ih2 := ih2 s' rfl
          have w := hw j j0 j1
          refine g_Mo_tooMuch_12 (ct j1 ?_)
          rw [w32_id (x := j + 1) (by omega) (by omega), w]
          refine ci (fun c => ih2 0 (Or.inl rfl) ⟨fun q => absurd q (by decide), fun q => ?_⟩) (fun c => ?_)
          · exact absurd (hA.mpr (fun h h0 h1 => q h h0 (by omega))) (by omega)
          · have hA' := hA.mp (by omega)
            refine ci (fun c2 => ct (by omega) ?_) (fun c2 => ih2 1 (Or.inr rfl) ⟨fun _ h h0 h1 ht => ?_, fun _ => rfl⟩)
            · have tx := (has_1 x6.1 j0 (by omega)).mp c2
              cases e : tb W j with
              | true =>
                rw [if_pos rfl]
                refine cf (by omega) (ih2 1 (Or.inr rfl) ⟨fun _ h h0 h1 ht => ?_, fun _ => rfl⟩)
                by_cases eh : h = j
                · rw [eh]; exact e
                · exact hA' h h0 (by omega) ht
              | false =>
                rw [if_neg (by decide)]
                refine ct rfl (ih2 0 (Or.inl rfl) ⟨fun q => absurd q (by decide), fun q => ?_⟩)
                have := q j j0 (by omega) tx
                rw [e] at this; exact absurd this (by decide)
            · by_cases eh : h = j
              · subst eh; exact absurd ((has_1 x6.1 j0 (by omega)).mpr ht) c2
              · exact hA' h h0 (by omega) ht
        · rintro s' rfl a ha hA
          have sbi : a = 1 ↔ Sb W (i + 1) := by
            rw [hA]
            constructor
            · intro q h h0 ht
              by_cases h6 : h < 6
              · exact q h h0 h6 ht
              · rw [tb_out (n := 6) x6.1 x6.2 (by omega)] at ht; exact absurd ht (by decide)
            · intro q h h0 _ ht; exact q h h0 ht
          refine g_Mo_tooMuch_12 (cf (by omega) ?_)
          rw [w32_id (x := i + 1 + 1) (by omega) (by omega)]
          refine ci (fun c => skip (fun q => by have := sbi.mpr q; omega) _ _) (fun c => r_isTooMuch (d := d) hb hs x6 (fun hl => g_Mo_tooMuch_60 (cf (by omega) (k (i + 1) (Or.inr ⟨by omega, by omega, sbi.mp (by omega), hl, hO⟩)))) (fun hl => g_Mo_tooMuch_60 (ct rfl ?_)))
          rw [w32_id (x := i + 1 + 1) (by omega) (by omega)]
          exact skip (fun _ => hl) _ _
      exact mid 1 (Or.inr rfl) ⟨fun _ h h0 h1 => by omega, fun _ => rfl⟩
    · rintro s rfl l2 l3 hO
      exact g_Mo_tooMuch_2 (cf (by omega) (k (-1) (Or.inl ⟨rfl, fun x x1 x2 => hO x x1 (by omega)⟩)))
  exact lp aU aU (fun x x1 x2 => by omega)
/-- how all stand -/
def bal (g : Sg) (tx : Int → TA) (h : Int) : Int := w32 (g 4 h - BU g ((rA g tx).1 0) h (g 3 2))
theorem bal_b {g η : Sg} {T : TT} {tx : Int → TA} (ht : Td g η T tx) {h : Int} (h0 : 0 ≤ h) (h1 : h < g 3 0) : -24000 ≤ bal g tx h ∧ bal g tx h ≤ 24999 := by
  have hd := ht.1.1.2.1
  have := ht.1.2.1 h h0 h1
  have := bu_b ht ((rA g tx).1 0) h hd.1 (Int.le_refl _)
  unfold bal
  rw [w32_id (by omega) (by omega)]; omega
def L0 (g : Sg) (tx : Int → TA) (h : Int) : Int := if h < g 3 0 ∧ bal g tx h < 0 then -bal g tx h else 0
def t0 (g : Sg) (tx : Int → TA) (h : Int) : Int := if h < g 3 0 ∧ 0 < bal g tx h then bal g tx h else 0
def m0L (g : Sg) (tx : Int → TA) (k : Int) : Int := if 0 < L0 g tx (k / 6) ∧ 0 < t0 g tx (k % 6) then g 12 k else 0
def WB (g : Sg) (tx : Int → TA) (i : Int) : Int := it (fun h s => if bal g tx h < 0 then bO s (sL 1 h) else s) 0 i
theorem wb_s {g : Sg} {tx : Int → TA} {i : Int} (i0 : 0 ≤ i) : WB g tx (i + 1) = if bal g tx i < 0 then bO (WB g tx i) (sL 1 i) else WB g tx i := it_s _ _ i0
theorem wb_t (g : Sg) (tx : Int → TA) : ∀ i, 0 ≤ i → i ≤ 6 → (0 ≤ WB g tx i ∧ WB g tx i < 64) ∧ ∀ k, 0 ≤ k → (tb (WB g tx i) k = true ↔ (k < i ∧ bal g tx k < 0)) := by
  refine it_inv (n := 6) (Q := fun i s => (0 ≤ s ∧ s < 64) ∧ ∀ k, 0 ≤ k → (tb s k = true ↔ (k < i ∧ bal g tx k < 0))) ⟨by omega, fun k k0 => ⟨fun q => by rw [tb_o] at q; exact absurd q (by decide), fun q => by omega⟩⟩ ?_
  rintro j s j0 j1 ⟨a1, a2⟩
  have hl := sL_lt (k := j) (n := 6) j0 j1 (by omega)
  split
  · rename_i hd
    refine ⟨bO_b (n := 6) (by omega) a1.1 a1.2 (by omega) hl.2, fun k k0 => ?_⟩
    rw [tb_O a1.1 (by omega) (by omega) (by omega), tb_L j0 (by omega) k0, Bool.or_eq_true, a2 k k0, decide_eq_true_iff]
    constructor
    · rintro (⟨q1, q2⟩ | q)
      · exact ⟨by omega, q2⟩
      · subst q; exact ⟨by omega, hd⟩
    · rintro ⟨q1, q2⟩
      by_cases q : k < j
      · exact Or.inl ⟨q, q2⟩
      · exact Or.inr (by omega)
  · rename_i hd
    refine ⟨a1, fun k k0 => ?_⟩
    rw [a2 k k0]
    constructor
    · rintro ⟨q1, q2⟩; exact ⟨by omega, q2⟩
    · rintro ⟨q1, q2⟩
      by_cases q : k < j
      · exact ⟨q, q2⟩
      · have : k = j := by omega
        subst this; exact absurd q2 hd
theorem bd_0 {g η : Sg} {T : TT} {tx : Int → TA} (ht : Td g η T tx) : BdL (L0 g tx) (t0 g tx) (m0L g tx) := by
  refine ⟨fun h h0 h6 => ⟨?_, ?_⟩, fun k k0 k1 => ?_⟩
  · unfold L0; split
    · rename_i q; have := bal_b ht h0 q.1; omega
    · omega
  · unfold t0; split
    · rename_i q; have := bal_b ht h0 q.1; omega
    · omega
  · have := ht.1.2.2.2.2.1 k k0 k1
    unfold m0L; split <;> omega
set_option maxRecDepth 20000 in
theorem r_findLacks2 {d : Nat} {γ σ : Sg} {T : TT} {tx : Int → TA} {P : AM → Prop} (ht : Td γ σ T tx) (k : ∀ s, Sm [76, 77, 81, 82, 83, 84] σ s → RSt s (L0 γ tx) (t0 γ tx) (m0L γ tx) → (∀ j, 0 ≤ j → j < 36 → s 84 j = 0) → P (mk s T)) : wpV (d + 9) 282 0 [aR 70, aU, aU] [] (mk σ T) P := by
  have hn := ht.1.1.1
  refine g_Mo_findLacks_0 ?_
  have lp : ∀ l2 : AV, wpV (d + 9) 282 2 [aR 70, aI 0, l2] [] (mk σ T) P := by
    refine for_up (n := 6) (Hd := fun i s => ∀ l2 : AV, wpV (d + 9) 282 2 [aR 70, aI i, l2] [] (mk s T) P) (Inv := fun i s => Sm [76, 77, 81, 82, 83, 84] σ s ∧ ∀ h, 0 ≤ h → h < i → s 81 h = L0 γ tx h ∧ s 82 h = t0 γ tx h) ?_ ?_ ⟨sm_r _ _, fun h _ _ => by omega⟩ (by omega)
    · rintro i s i0 i1 ⟨q1, q2⟩ ih l2
      have put : ∀ (s1 : Sg) (a b : Int), Sm [76, 77] s s1 → a = L0 γ tx i → b = t0 γ tx i → ∀ l2 : AV, wpV (d + 9) 282 2 [aR 70, aI (i + 1), l2] [] (mk (up (up s1 81 i a) 82 i b) T) P := by
        intro s1 a b e ea eb l2
        refine ih _ ⟨sm_u (sm_u (sm_t q1 (sm_m e (by simp))) (by simp)) (by simp), fun h h0 h1 => ?_⟩ l2
        rw [up_c (show (81 : Int) ≠ 82 by decide), up_e, up_e, up_c (show (82 : Int) ≠ 81 by decide)]
        by_cases eh : h = i
        · rw [if_pos eh, if_pos eh, ea, eb, eh]; exact ⟨rfl, rfl⟩
        · rw [if_neg eh, if_neg eh, e 81 (by decide), e 82 (by decide)]; exact q2 h h0 (by omega)
      refine g_Mo_findLacks_2 ?_
      rw [q1 71 (by decide), hn.2.2, w32_id (x := i + 1) (by omega) (by omega)]
      refine ct i1 (ci (fun c => ?_) (fun c => ct (by omega) (ct (by omega) (put s 0 0 (sm_r _ _) ?_ ?_ _))))
      · refine r_balanceOf (d := d) (td_s ht q1 (by decide) (by decide)) i0 c (fun s1 e1 => g_Mo_findLacks_23 ?_)
        have bb := bal_b ht i0 c
        change -24000 ≤ bal γ tx i ∧ bal γ tx i ≤ 24999 at bb
        show brK (decide (bal γ tx i < 0)) _ _
        rw [show w32 (γ 4 i - BU γ ((rA γ tx).1 0) i (γ 3 2)) = bal γ tx i from rfl, w32_id (x := i + 1) (by omega) (by omega), w32_id (x := -bal γ tx i) (by omega) (by omega)]
        refine ci (fun c1 => ct (by omega) (cf (by omega) (ct (by omega) (put s1 _ _ e1 ?_ ?_ _)))) (fun c1 => ct (by omega) (ci (fun c2 => ct (by omega) (put s1 _ _ e1 ?_ ?_ _)) (fun c2 => ct (by omega) (put s1 _ _ e1 ?_ ?_ _))))
        · unfold L0; rw [if_pos ⟨c, c1⟩]
        · unfold t0; rw [if_neg (by omega)]
        · unfold L0; rw [if_neg (by omega)]
        · unfold t0; rw [if_pos ⟨c, c2⟩]
        · unfold L0; rw [if_neg (by omega)]
        · unfold t0; rw [if_neg (by omega)]
      · unfold L0; rw [if_neg (by omega)]
      · unfold t0; rw [if_neg (by omega)]
    · rintro s ⟨q1, q2⟩ l2
      refine g_Mo_findLacks_2 (cf (by omega) ?_)
      refine for_up (n := 36) (Hd := fun i s => wpV (d + 9) 282 67 [aR 70, aI i, aU] [] (mk s T) P) (Inv := fun i s => Sm [76, 77, 81, 82, 83, 84] σ s ∧ (∀ h, 0 ≤ h → h < 6 → s 81 h = L0 γ tx h ∧ s 82 h = t0 γ tx h) ∧ ∀ j, 0 ≤ j → j < i → s 83 j = m0L γ tx j ∧ s 84 j = 0) ?_ ?_ ⟨q1, q2, fun j _ _ => by omega⟩ (by omega)
      · rintro i s i0 i1 ⟨p1, p2, p3⟩ ih
        have put : ∀ a : Int, a = m0L γ tx i → wpV (d + 9) 282 67 [aR 70, aI (i + 1), aU] [] (mk (up (up s 83 i a) 84 i 0) T) P := by
          intro a ea
          refine ih _ ⟨sm_u (sm_u p1 (by simp)) (by simp), fun h h0 h1 => by rw [up_c (by decide), up_c (by decide), up_c (by decide), up_c (by decide)]; exact p2 h h0 h1, fun j j0 j1 => ?_⟩
          rw [up_c (show (83 : Int) ≠ 84 by decide), up_e, up_e, up_c (show (84 : Int) ≠ 83 by decide)]
          by_cases eh : j = i
          · rw [if_pos eh, if_pos eh, ea, eh]; exact ⟨rfl, rfl⟩
          · rw [if_neg eh, if_neg eh]; exact p3 j j0 (by omega)
        refine g_Mo_findLacks_67 ?_
        rw [Int.tdiv_eq_ediv_of_nonneg i0, Int.tmod_eq_emod_of_nonneg i0, w32_id (x := i / 6) (by omega) (by omega), w32_id (x := 54 + i) (by omega) (by omega), w32_id (x := i + 1) (by omega) (by omega), (p2 (i / 6) (by omega) (by omega)).1, (p2 (i % 6) (by omega) (by omega)).2, p1 71 (by decide), (ht.1.2.2.2.2.1 i i0 i1).2.2]
        refine ct i1 (ct (by omega) (ci (fun c => ct (by omega) (ci (fun c2 => ct (by omega) (ct (by omega) (ct (by omega) (put _ ?_)))) (fun c2 => ct (by omega) (ct (by omega) (put _ ?_))))) (fun c => ct (by omega) (ct (by omega) (put _ ?_)))))
        · unfold m0L; rw [if_pos ⟨c, c2⟩]
        · unfold m0L; rw [if_neg (fun q => c2 q.2)]
        · unfold m0L; rw [if_neg (fun q => c q.1)]
      · rintro s ⟨p1, p2, p3⟩
        exact g_Mo_findLacks_67 (cf (by omega) (k s p1 ⟨p2, fun j j0 j1 => (p3 j j0 j1).1⟩ (fun j j0 j1 => (p3 j j0 j1).2)))
  exact lp aU
theorem l0_w (g : Sg) (tx : Int → TA) (h : Int) (n0 : 0 ≤ g 3 0) (n6 : g 3 0 ≤ 6) (h0 : 0 ≤ h) : 0 < L0 g tx h ↔ tb (WB g tx (g 3 0)) h = true := by
  rw [(wb_t g tx (g 3 0) n0 n6).2 h h0]
  unfold L0
  split
  · rename_i q; exact ⟨fun _ => q, fun _ => by omega⟩
  · rename_i q; exact ⟨fun c => absurd c (by omega), fun c => absurd c q⟩
theorem r_findBelow {d : Nat} {γ σ : Sg} {T : TT} {tx : Int → TA} {P : AM → Prop} (ht : Td γ σ T tx) (k : ∀ s, Sm [76, 77, 81, 82, 83, 84, 85] σ s → RSt s (L0 γ tx) (t0 γ tx) (m0L γ tx) → (∀ j, 0 ≤ j → j < 36 → s 84 j = 0) → WSt s (WB γ tx (γ 3 0)) → P (mk s T)) : wpV (d + 10) 281 0 [aR 70, aU] [] (mk σ T) P := by
  have hn := ht.1.1.1
  refine g_Mo_findBelow_0 (r_findLacks2 (d := d) ht (fun s1 e1 a1 b1 => g_Mo_findBelow_4 ?_))
  refine for_up (n := 6) (Hd := fun i s => wpV (d + 10) 281 6 [aR 70, aI i] [] (mk s T) P) (Inv := fun i s => Sm [85] s1 s ∧ ∀ h, 0 ≤ h → h < i → s 85 h = if tb (WB γ tx (γ 3 0)) h = true then 1 else 0) ?_ ?_ ⟨sm_r _ _, fun h _ _ => by omega⟩ (by omega)
  · rintro i s i0 i1 ⟨q1, q2⟩ ih
    have lw := l0_w γ tx i hn.1 hn.2.1 i0
    have put : ∀ a : Int, a = (if tb (WB γ tx (γ 3 0)) i = true then 1 else 0) → wpV (d + 10) 281 6 [aR 70, aI (i + 1)] [] (mk (up s 85 i a) T) P := by
      intro a ea
      refine ih _ ⟨sm_u q1 (by simp), fun h h0 h1 => ?_⟩
      rw [up_e]
      by_cases eh : h = i
      · rw [if_pos eh, ea, eh]
      · rw [if_neg eh]; exact q2 h h0 (by omega)
    refine g_Mo_findBelow_6 (ct i1 (ct (by omega) ?_))
    rw [q1 81 (by decide), (a1.1 i i0 i1).1, w32_id (x := i + 1) (by omega) (by omega)]
    exact ci (fun c => ct (by omega) (put 1 (by rw [if_pos (lw.mp c)]))) (fun c => ct (by omega) (put 0 (by rw [if_neg (fun q => c (lw.mpr q))])))
  · rintro s ⟨q1, q2⟩
    refine g_Mo_findBelow_6 (cf (by omega) (k s (sm_t (sm_m e1 (by simp)) (sm_m q1 (by simp))) ⟨?_, ?_⟩ ?_ q2))
    · rw [q1 81 (by decide), q1 82 (by decide)]; exact a1.1
    · rw [q1 83 (by decide)]; exact a1.2
    · rw [q1 84 (by decide)]; exact b1
end
