noncomputable section
/-! questions -/
def Rsc (h h' : Sg) : Prop := (∀ a, a ≠ 70 → ¬ (75 ≤ a ∧ a < 90) → h' a = h a) ∧ (∀ i, 4 ≤ i → i ≤ 6 → h' 70 i = h 70 i)
theorem rsc_s {cs : List Int} {h h' : Sg} (s : Sm cs h h') (k : ∀ a ∈ cs, 75 ≤ a ∧ a < 90) : Rsc h h' := ⟨fun a a1 a2 => s a (fun q => a2 (k a q)), fun i _ _ => by rw [s 70 (fun q => by have := k _ q; omega)]⟩
theorem lf_s {cs : List Int} {D rm : Nat} {ra : List AV} {g g' : Sg} {T : TT} {tx : Int → TA} {B r : Int} (hs : Sm cs g g') (hc : ∀ a ∈ cs, 39 ≤ a ∧ a < 70 ∧ a ≠ 59) (k : ∀ h, Rl g h T tx B → ∀ Q : Int → AM → Prop, (∀ h', Rsc h h' → Q r (mk h' T)) → wpI D rm 0 ra [] (mk h T) Q) : Lf D rm ra g T tx B r (mk g' T) := by
  refine lf_c (fun a ha => hs a (fun q => by have := hc a q; omega)) (fun h hr Q q => k h hr Q (fun h' hh => q h' (fun a ha => hh.1 a (by omega) (by omega)) ?_))
  exact rl_B (by omega) (rl_c hr (fun a ha => hs a (fun q => by have := hc a q; omega)) (fun a h1 h2 => hh.1 a (by omega) (by omega)) hh.2)
theorem o_ofDeed {e : Nat} {g : Sg} {T : TT} {tx : Int → TA} {B x y : Int} : Op (e + 60) 27 [aR 2, aI x, aI y] 262 [aR 70, aI x, aI y] g T tx B := by
  refine op_l (fun h hr => ?_)
  have hd := hr.1.1.1.2.1
  have hr15 := hr.1.1.1.2.2.2.2.2.1
  have h13 := hr.1.1.1.2.2.2.2.1
  have no : (x < 0 ∨ g 3 2 ≤ x ∨ y < 0 ∨ 6 < y) → Lf (e + 60) 262 [aR 70, aI x, aI y] g T tx B (-100000) (mk g T) := by
    intro hx
    refine lf_n (fun h hr Q q => g_Mo_ofDeed_0 ?_)
    rw [hr.1.1.1.2.1.2.2, w32_id (x := g 3 2 - 1) (by omega) (by omega)]
    exact ci (fun _ => q) (fun _ => ci (fun _ => q) (fun _ => ci (fun _ => q) (fun _ => ct (by omega) q)))
  refine g_Af_ofDeed_0 (ci (fun _ => no (by omega)) (fun c1 => ci (fun c2 => ?_) (fun _ => no (by omega))))
  have lo : ∀ v, 0 ≤ y → y < 6 → (∀ h, Rl g h T tx B → h 71 (90 + 6 * x + y) = v) → Lf (e + 60) 262 [aR 70, aI x, aI y] g T tx B v (mk g T) := by
    intro v y0 y1 hv
    refine lf_n (fun h hr Q q => g_Mo_ofDeed_0 ?_)
    rw [hr.1.1.1.2.1.2.2, w32_id (x := g 3 2 - 1) (by omega) (by omega), w32_id (x := 6 * x) (by omega) (by omega), w32_id (x := 90 + 6 * x) (by omega) (by omega), w32_id (x := 90 + 6 * x + y) (by omega) (by omega), hv h hr]
    exact cf c1 (cf (by omega) (cf (by omega) (cf (by omega) (cf (by omega) (ct (by omega) q)))))
  have hb : 0 ≤ x ∧ x < 24 := by omega
  refine ci (fun c => ct hb (lo _ (by omega) (by omega) (fun h hr => by rw [c]; exact (hr.1.1.2.2.1 x (by omega) c2).1.2.2))) (fun d0 => ?_)
  refine ci (fun c => ct hb (lo _ (by omega) (by omega) (fun h hr => by rw [c]; exact (hr.1.1.2.2.1 x (by omega) c2).2.1.2.2))) (fun d1 => ?_)
  refine ci (fun c => ct hb (lo _ (by omega) (by omega) (fun h hr => by rw [c]; exact (hr.1.1.2.2.1 x (by omega) c2).2.2.1.2.2))) (fun d2 => ?_)
  refine ci (fun c => ct hb (lo _ (by omega) (by omega) (fun h hr => by rw [c]; exact (hr.1.1.2.2.1 x (by omega) c2).2.2.2.1.2.2))) (fun d3 => ?_)
  refine ci (fun c => ct hb (lo _ (by omega) (by omega) (fun h hr => by rw [c]; exact (hr.1.1.2.2.1 x (by omega) c2).2.2.2.2.1.2.2))) (fun d4 => ?_)
  refine ci (fun c => ct hb (lo _ (by omega) (by omega) (fun h hr => by rw [c]; exact (hr.1.1.2.2.1 x (by omega) c2).2.2.2.2.2.2.2))) (fun d5 => ?_)
  refine ci (fun c => ?_) (fun d6 => no (by omega))
  have fin : ∀ r, Lx g T r (rA g tx) → wpI (e + 59) 84 0 [aR 39, aR r, aI x, aU] [] (mk g T) (fun r M' => wpI (e + 59 + 1) 27 131 [aR 2, aI x, aI y] [aI r] M' (Lf (e + 60) 262 [aR 70, aI x, aI y] g T tx B)) := by
    intro r hx
    refine c_weight hr.1 hx (by omega) c2 (fun s hs => g_Af_ofDeed_131 (lf_s hs (by decide) (fun h hr Q q => g_Mo_ofDeed_0 ?_)))
    rw [hr.1.1.1.2.1.2.2, w32_id (x := g 3 2 - 1) (by omega) (by omega)]
    exact cf c1 (cf (by omega) (cf (by omega) (cf (by omega) (ct c (c_weightOf hr.1 (by omega) c2 (fun s hs => g_Mo_ofDeed_33 (q s (rsc_s hs (by decide)))))))))
  by_cases hc : g 3 15 < 0
  · exact ct hc (fin _ (rl_n hc))
  · exact cf hc (ct (by omega) (ct (by omega) (fin _ (rl_x hr.1 hc))))
theorem r_balanceOf {d : Nat} {γ σ : Sg} {T : TT} {tx : Int → TA} {P : Int → AM → Prop} {h : Int} (ht : Td γ σ T tx) (h0 : 0 ≤ h) (h1 : h < γ 3 0) (k : ∀ s, Sm [76, 77] σ s → P (w32 (γ 4 h - BU γ ((rA γ tx).1 0) h (γ 3 2))) (mk s T)) : wpI (d + 8) 261 0 [aR 70, aI h] [] (mk σ T) P := by
  have hn := ht.1.1.1
  refine g_Mo_balanceOf_0 ?_
  rw [w32_id (x := 12 + h) (by omega) (by omega), (ht.1.2.1 h h0 h1).2.2]
  exact ct (by omega) (r_burdenOf ht (fun s hs => g_Mo_balanceOf_14 (k s hs)))
theorem o_ofHeart {e : Nat} {g : Sg} {T : TT} {tx : Int → TA} {B x y : Int} (hy : r32 y) : Op (e + 60) 26 [aR 2, aI x, aI y] 259 [aR 70, aI x, aI y] g T tx B := by
  unfold r32 at hy
  refine op_l (fun h hr => ?_)
  have hn := hr.1.1.1.1
  have no : (x < 0 ∨ g 3 0 ≤ x ∨ y < 0 ∨ (5 ≤ y ∧ y < 10) ∨ 10 + g 3 0 ≤ y) → Lf (e + 60) 259 [aR 70, aI x, aI y] g T tx B (-100000) (mk g T) := by
    intro hx
    refine lf_n (fun h hr Q q => g_Mo_ofHeart_0 ?_)
    rw [hr.1.1.1.1.2.2, w32_id (x := g 3 0 - 1) (by omega) (by omega), w32_id (x := 9 + g 3 0) (by omega) (by omega)]
    refine ci (fun _ => q) (fun _ => ci (fun _ => q) (fun _ => ci (fun _ => ?_) (fun _ => ?_)))
    · exact cf (by omega) (cf (by omega) (cf (by omega) (cf (by omega) (cf (by omega) q))))
    · exact ct (by omega) (cf (by omega) (cf (by omega) (cf (by omega) (cf (by omega) (cf (by omega) q)))))
  refine g_Af_ofHeart_0 (ci (fun _ => no (by omega)) (fun c1 => ci (fun c2 => ?_) (fun _ => no (by omega))))
  have hb : 0 ≤ x ∧ x < 6 := by omega
  have pre : ∀ (h : Sg) (Q : Int → AM → Prop), Rl g h T tx B → y < 10 → (brK (decide (y = 0)) (brK (decide ((0 : Int) ≤ w32 (12 + x) ∧ w32 (12 + x) < 5544)) (Q (h 71 (w32 (12 + x))) (mk h T)) False) (brK (decide (y = 1)) (wpI (e + 59) 251 0 [aR 70, aI x, aU, aU] [] (mk h T) (fun r M' => wpI (e + 58 + 2) 259 99 [aR 70, aI x, aI y] [aI r] M' Q)) (brK (decide (y = 2)) (wpI (e + 59) 260 0 [aR 70, aI x, aU, aU] [] (mk h T) (fun r M' => wpI (e + 58 + 2) 259 105 [aR 70, aI x, aI y] [aI r] M' Q)) (brK (decide (y = 3)) (wpI (e + 59) 261 0 [aR 70, aI x] [] (mk h T) (fun r M' => wpI (e + 58 + 2) 259 111 [aR 70, aI x, aI y] [aI r] M' Q)) (brK (decide (y = 4)) (wpI (e + 59) 229 0 [aR 70, aI x, aU, aU] [] (mk h T) (fun r M' => wpI (e + 58 + 2) 259 117 [aR 70, aI x, aI y] [aI r] M' Q)) (Q (-100000) (mk h T))))))) → wpI (e + 60) 259 0 [aR 70, aI x, aI y] [] (mk h T) Q := by
    intro h Q hr hy10 q
    refine g_Mo_ofHeart_0 (d := e + 58) ?_
    rw [hr.1.1.1.1.2.2, w32_id (x := g 3 0 - 1) (by omega) (by omega)]
    exact cf c1 (cf (by omega) (ct hy10 q))
  refine ci (fun c => ct hb (lf_n (fun h hr Q q => pre h Q hr (by omega) (ct c ?_)))) (fun d0 => ?_)
  · rw [w32_id (x := 12 + x) (by omega) (by omega), (hr.1.1.2.1 x (by omega) c2).2.2]; exact ct (by omega) q
  refine ci (fun c => c_deedsOf hr.1 (g_Af_ofHeart_66 (lf_n (fun h hr Q q => pre h Q hr (by omega) (cf d0 (ct c (r_deedsOf hr.1 (g_Mo_ofHeart_99 q)))))))) (fun d1 => ?_)
  refine ci (fun c => c_burden hr.1 (fun s hs => g_Af_ofHeart_75 (lf_s hs (by decide) (fun h hr Q q => pre h Q hr (by omega) (cf d0 (cf d1 (ct c (r_burdenOf hr.1 (fun s hs => g_Mo_ofHeart_105 (q s (rsc_s hs (by decide))))))))))) ) (fun d2 => ?_)
  refine ci (fun c => ct hb (c_burden hr.1 (fun s hs => g_Af_ofHeart_93 (lf_s hs (by decide) (fun h hr Q q => pre h Q hr (by omega) (cf d0 (cf d1 (cf d2 (ct c (r_balanceOf hr.1 (by omega) c2 (fun s hs => g_Mo_ofHeart_111 (q s (rsc_s hs (by decide)))))))))))))) (fun d3 => ?_)
  refine ci (fun c => c_lentTo hb.1 hb.2 (g_Af_ofHeart_103 (lf_n (fun h hr Q q => pre h Q hr (by omega) (cf d0 (cf d1 (cf d2 (cf d3 (ct c (r_lentOf (γ := g) (fun i i0 i1 => ?_) hb.1 hb.2 (g_Mo_ofHeart_117 q)))))))))) ) (fun d4 => ?_)
  · have := hr.2.2.2.1.2.2.2.2.2.1 i i0 i1
    exact ⟨this.1, this.2.1, this.2.2.1⟩
  refine ci (fun c => no (by omega)) (fun c => ?_)
  rw [w32_id (x := y - 10) (by omega) (by omega)]
  refine ci (fun c' => no (by omega)) (fun c' => ci (fun c'' => ?_) (fun c'' => no (by omega)))
  rw [w32_id (x := x * 6) (by omega) (by omega), w32_id (x := x * 6 + y) (by omega) (by omega), w32_id (x := x * 6 + y - 10) (by omega) (by omega)]
  refine ct (by omega) (lf_n (fun h hr Q q => g_Mo_ofHeart_0 ?_))
  rw [hr.1.1.1.1.2.2, w32_id (x := g 3 0 - 1) (by omega) (by omega), w32_id (x := 9 + g 3 0) (by omega) (by omega), w32_id (x := 6 * x) (by omega) (by omega), w32_id (x := 18 + 6 * x) (by omega) (by omega), w32_id (x := 18 + 6 * x + y) (by omega) (by omega), w32_id (x := 18 + 6 * x + y - 10) (by omega) (by omega), show 18 + 6 * x + y - 10 = 18 + (x * 6 + y - 10) from by omega, (hr.2.2.2.1.2.2.2.2.2.1 (x * 6 + y - 10) (by omega) (by omega)).2.2.1]
  exact cf c1 (cf (by omega) (cf (by omega) (cf (by omega) (ct (by omega) q))))
theorem o_isSo {e : Nat} {g : Sg} {T : TT} {tx : Int → TA} {B x y : Int} : Op (e + 60) 28 [aR 2, aI x, aI y] 263 [aR 70, aI x, aI y] g T tx B := by
  refine op_l (fun h hr => ?_)
  have hn := hr.1.1.1.1
  have hj := hr.1.1.1.2.2.1
  have no : (x < 0 ∨ g 3 9 ≤ x ∨ y < 0 ∨ g 3 0 ≤ y) → Lf (e + 60) 263 [aR 70, aI x, aI y] g T tx B (-1) (mk g T) := by
    intro hx
    refine lf_n (fun h hr Q q => g_Mo_isSo_0 ?_)
    rw [hr.1.1.1.1.2.2, hr.1.1.1.2.2.1.2.2, w32_id (x := g 3 0 - 1) (by omega) (by omega), w32_id (x := g 3 9 - 1) (by omega) (by omega)]
    exact ci (fun _ => q) (fun _ => ci (fun _ => q) (fun _ => ci (fun _ => q) (fun _ => ct (by omega) q)))
  refine g_Af_isSo_0 (ci (fun _ => no (by omega)) (fun c1 => ci (fun c2 => ci (fun _ => no (by omega)) (fun c3 => ci (fun c4 => ct (by omega) ?_) (fun _ => no (by omega)))) (fun _ => no (by omega))))
  refine c_weightyKinds hr.1 (fun s hs => g_Af_isSo_41 ?_)
  have ref : ∀ h, Rl g h T tx B → ∀ Q : Int → AM → Prop, (∀ h', Rsc h h' → Q (SO g ((rA g tx).1 0) x y) (mk h' T)) → wpI (e + 60) 263 0 [aR 70, aI x, aI y] [] (mk h T) Q := by
    intro h hr Q q
    refine g_Mo_isSo_0 ?_
    rw [hr.1.1.1.1.2.2, hr.1.1.1.2.2.1.2.2, w32_id (x := g 3 0 - 1) (by omega) (by omega), w32_id (x := g 3 9 - 1) (by omega) (by omega)]
    refine cf c1 (cf (by omega) (cf c3 (cf (by omega) (r_isSoOf hr.1 (by omega) c2 (fun s hs => g_Mo_isSo_22 ?_)))))
    have q := q s (rsc_s hs (by decide))
    rcases so_01 g ((rA g tx).1 0) x y with hso | hso
    · rw [hso] at q ⊢; exact ct rfl q
    · rw [hso] at q ⊢; exact cf (by omega) q
  refine ci (fun c => ?_) (fun c => ?_)
  · refine lf_s hs (by decide) (fun h hr Q q => ref h hr Q ?_)
    unfold SO; rw [if_pos c]; exact q
  · refine lf_s hs (by decide) (fun h hr Q q => ref h hr Q ?_)
    unfold SO; rw [if_neg c]; exact q
/-- the judges who ask what is so -/
def SJ (g : Sg) (c0 : List (Int × Int)) (h i : Int) : Int := it (fun j s => if SO g c0 j h = 0 then s else bO s (sL 1 j)) 0 i
theorem sj_s {g : Sg} {c0 : List (Int × Int)} {h i : Int} (i0 : 0 ≤ i) : SJ g c0 h (i + 1) = if SO g c0 i h = 0 then SJ g c0 h i else bO (SJ g c0 h i) (sL 1 i) := it_s _ _ i0
theorem sj_b (g : Sg) (c0 : List (Int × Int)) (h : Int) {i : Int} (i0 : 0 ≤ i) (i1 : i ≤ 8) : 0 ≤ SJ g c0 h i ∧ SJ g c0 h i < 256 := by
  refine it_inv (n := 8) (Q := fun _ s => 0 ≤ s ∧ s < 256) (by omega) ?_ i i0 i1
  intro j s j0 j1 hs
  split
  · exact hs
  · have := sL_lt (k := j) (n := 8) j0 j1 (by omega)
    exact bO_b (n := 8) (by omega) hs.1 hs.2 (by omega) this.2
theorem sj_t (g : Sg) (c0 : List (Int × Int)) (h : Int) {i : Int} (i0 : 0 ≤ i) (i1 : i ≤ 8) (k : Int) (k0 : 0 ≤ k) : tb (SJ g c0 h i) k = true ↔ (k < i ∧ SO g c0 k h ≠ 0) := by
  have key : ∀ n : Nat, (n : Int) ≤ 8 → (tb (SJ g c0 h n) k = true ↔ (k < n ∧ SO g c0 k h ≠ 0)) := by
    intro n
    induction n with
    | zero => intro _; constructor
              · intro q; rw [show SJ g c0 h ((0 : Nat) : Int) = 0 from rfl, tb_o] at q; exact absurd q (by decide)
              · rintro ⟨q, _⟩; omega
    | succ n ih =>
      intro hn
      have e : ((n + 1 : Nat) : Int) = (n : Int) + 1 := by omega
      rw [e, sj_s (by omega)]
      have hb := sj_b g c0 h (i := n) (by omega) (by omega)
      split
      · rename_i hd
        rw [ih (by omega)]
        constructor
        · rintro ⟨q1, q2⟩; exact ⟨by omega, q2⟩
        · rintro ⟨q1, q2⟩
          by_cases q : k < n
          · exact ⟨q, q2⟩
          · have : k = n := by omega
            subst this; exact absurd hd q2
      · rename_i hd
        have hl := sL_lt (k := (n : Int)) (n := 8) (by omega) (by omega) (by omega)
        rw [tb_O hb.1 (by omega) (by omega) (by omega), tb_L (by omega) (by omega) k0, Bool.or_eq_true, ih (by omega), decide_eq_true_iff]
        constructor
        · rintro (⟨q1, q2⟩ | q)
          · exact ⟨by omega, q2⟩
          · subst q; exact ⟨by omega, hd⟩
        · rintro ⟨q1, q2⟩
          by_cases q : k < n
          · exact Or.inl ⟨q, q2⟩
          · exact Or.inr (by omega)
  obtain ⟨n, rfl⟩ := Int.eq_ofNat_of_zero_le i0
  exact key n i1
theorem c_soJudges {d : Nat} {σ η : Sg} {T : TT} {tx : Int → TA} {P : Int → AM → Prop} {h : Int} (ht : Td σ η T tx) (k : ∀ s, Sm [40, 41] σ s → P (SJ σ ((rA σ tx).1 0) h (σ 3 9)) (mk s T)) : wpI (d + 5) 115 0 [aR 44, aI h, aU, aU, aU] [] (mk σ T) P := by
  have hj := ht.1.1.2.2.1
  refine g_Trials_soJudges_0 (c_weightyKinds ht (fun s hs => g_Trials_soJudges_8 ?_))
  refine for_up (n := σ 3 9) (Hd := fun i s => wpI (d + 5) 115 14 [aR 44, aI h, aI (KD σ ((rA σ tx).1 0) h (σ 3 2)), aI (SJ σ ((rA σ tx).1 0) h i), aI i] [] (mk s T) P) (Inv := fun _ s' => s' = s) ?_ ?_ rfl hj.1
  · rintro i s' i0 i1 rfl ih
    refine g_Trials_soJudges_14 ?_
    have q := ih s' rfl
    rw [sj_s i0] at q
    rw [hs 3 (by decide), hs 11 (by decide), w32_id (x := i + 1) (by omega) (by omega)]
    refine ct i1 (ct (by omega) (ci (fun c => ?_) (fun c => ?_)))
    · rw [if_pos (by unfold SO; rw [if_pos c])] at q; exact q
    · rw [if_neg (by unfold SO; rw [if_neg c]; omega)] at q; exact q
  · rintro s' rfl
    refine g_Trials_soJudges_14 ?_
    rw [hs 3 (by decide)]
    exact cf (by omega) (k s' hs)
theorem o_truly {e : Nat} {g : Sg} {T : TT} {tx : Int → TA} {B x : Int} : Op (e + 60) 34 [aR 2, aI x] 277 [aR 70, aI x, aU, aU] g T tx B := by
  refine op_l (fun h hr => ?_)
  have hn := hr.1.1.1.1
  have hj := hr.1.1.1.2.2.1
  have no : (x < 0 ∨ g 3 0 ≤ x) → Lf (e + 60) 277 [aR 70, aI x, aU, aU] g T tx B (-1) (mk g T) := by
    intro hx
    refine lf_n (fun h hr Q q => g_Mo_truly_0 ?_)
    rw [hr.1.1.1.1.2.2, w32_id (x := g 3 0 - 1) (by omega) (by omega)]
    exact ci (fun _ => q) (fun _ => ct (by omega) q)
  refine g_Af_truly_0 (ci (fun _ => no (by omega)) (fun c1 => ci (fun c2 => ?_) (fun _ => no (by omega))))
  refine c_soJudges hr.1 (fun s hs => g_Af_truly_21 ?_)
  rw [hs 3 (by decide)]
  refine lf_s hs (by decide) (fun h hr Q q => g_Mo_truly_0 ?_)
  rw [hr.1.1.1.1.2.2, w32_id (x := g 3 0 - 1) (by omega) (by omega)]
  refine cf c1 (cf (by omega) ?_)
  let NJ : Int → Int := fun i => it (fun j s => if SO g ((rA g tx).1 0) j x = 0 then bO s (sL 1 j) else s) 0 i
  have nj_s : ∀ i, 0 ≤ i → NJ (i + 1) = if SO g ((rA g tx).1 0) i x = 0 then bO (NJ i) (sL 1 i) else NJ i := fun i i0 => it_s _ _ i0
  have nj : ∀ i, 0 ≤ i → i ≤ 8 → (0 ≤ NJ i ∧ NJ i < 256) ∧ ∀ k, 0 ≤ k → (tb (NJ i) k = true ↔ (k < i ∧ SO g ((rA g tx).1 0) k x = 0)) := by
    refine it_inv (n := 8) (Q := fun i s => (0 ≤ s ∧ s < 256) ∧ ∀ k, 0 ≤ k → (tb s k = true ↔ (k < i ∧ SO g ((rA g tx).1 0) k x = 0))) ⟨by omega, fun k k0 => ⟨fun q => by rw [tb_o] at q; exact absurd q (by decide), fun q => by omega⟩⟩ ?_
    rintro j s j0 j1 ⟨a1, a2⟩
    have hl := sL_lt (k := j) (n := 8) j0 j1 (by omega)
    split
    · rename_i hd
      refine ⟨bO_b (n := 8) (by omega) a1.1 a1.2 (by omega) hl.2, fun k k0 => ?_⟩
      rw [tb_O a1.1 (by omega) (by omega) (by omega), tb_L j0 (by omega) k0, Bool.or_eq_true, a2 k k0, decide_eq_true_iff]
      constructor
      · rintro (⟨q1, q2⟩ | q)
        · exact ⟨by omega, q2⟩
        · subst q; exact ⟨by omega, hd⟩
      · rintro ⟨q1, q2⟩
        by_cases q : k < j
        · exact Or.inl ⟨q, q2⟩
        · exact Or.inr (by omega)
    · rename_i hd
      refine ⟨a1, fun k k0 => ?_⟩
      rw [a2 k k0]
      constructor
      · rintro ⟨q1, q2⟩; exact ⟨by omega, q2⟩
      · rintro ⟨q1, q2⟩
        by_cases q : k < j
        · exact ⟨q, q2⟩
        · have : k = j := by omega
          subst this; exact absurd q2 hd
  have fin : NJ (g 3 9) = bX (SJ g ((rA g tx).1 0) x (g 3 9)) (w32 (sL 1 (g 3 9) - 1)) := by
    have hb := sj_b g ((rA g tx).1 0) x hj.1 hj.2.1
    obtain ⟨n1, n2⟩ := nj (g 3 9) hj.1 hj.2.1
    have hp := pow31 (k := (g 3 9).toNat) (by omega)
    have e1 : w32 (sL 1 (g 3 9) - 1) = ((2 ^ (g 3 9).toNat - 1 : Nat) : Int) := by rw [sL_n hj.1 (by omega), w32_id (by omega) (by omega)]; omega
    have hp8 : 2 ^ (g 3 9).toNat ≤ 2 ^ 8 := Nat.pow_le_pow_right (by omega) (by omega)
    have h255 : (2 : Nat) ^ 8 = 256 := rfl
    rw [e1]
    have hx : 0 ≤ bX (SJ g ((rA g tx).1 0) x (g 3 9)) ((2 ^ (g 3 9).toNat - 1 : Nat) : Int) ∧ bX (SJ g ((rA g tx).1 0) x (g 3 9)) ((2 ^ (g 3 9).toNat - 1 : Nat) : Int) < ((2 ^ 8 : Nat) : Int) := by
      rw [bX_n hb.1 (by omega) (by omega) (by omega)]
      have : (SJ g ((rA g tx).1 0) x (g 3 9)).toNat ^^^ (((2 ^ (g 3 9).toNat - 1 : Nat) : Int)).toNat < 2 ^ 8 := Nat.xor_lt_two_pow (by omega) (by omega)
      omega
    refine tb_ext (n := 8) n1.1 n1.2 hx.1 hx.2 (fun k k0 k1 => ?_)
    rw [tb_X hb.1 (by omega) (by omega) (by omega)]
    have t2 : tb ((2 ^ (g 3 9).toNat - 1 : Nat) : Int) k = decide (k < g 3 9) := by
      unfold tb; rw [Int.toNat_natCast, Nat.testBit_two_pow_sub_one]
      by_cases q : k < g 3 9
      · rw [decide_eq_true q]; simp; omega
      · rw [decide_eq_false q]; simp; omega
    have t3 := n2 k k0
    have t4 := sj_t g ((rA g tx).1 0) x hj.1 hj.2.1 k k0
    rw [t2]
    by_cases q : k < g 3 9
    · by_cases q' : SO g ((rA g tx).1 0) k x = 0
      · rw [t3.mpr ⟨q, q'⟩, decide_eq_true q]
        cases e : tb (SJ g ((rA g tx).1 0) x (g 3 9)) k with
        | false => rfl
        | true => exact absurd q' (t4.mp e).2
      · rw [t4.mpr ⟨q, q'⟩, decide_eq_true q]
        cases e : tb (NJ (g 3 9)) k with
        | false => rfl
        | true => exact absurd (t3.mp e).2 q'
    · rw [decide_eq_false q]
      cases e : tb (NJ (g 3 9)) k with
      | true => exact absurd (t3.mp e).1 q
      | false => cases e' : tb (SJ g ((rA g tx).1 0) x (g 3 9)) k with
        | true => exact absurd (t4.mp e').1 q
        | false => rfl
  rw [← fin] at q
  refine for_up (n := g 3 9) (Hd := fun i s => wpI (e + 60) 277 14 [aR 70, aI x, aI (NJ i), aI i] [] (mk s T) Q) (Inv := fun _ s => Sm [76, 77] h s) ?_ ?_ (sm_r _ _) hj.1
  · intro i s i0 i1 hs ih
    refine g_Mo_truly_14 ?_
    rw [hs 71 (by decide), hr.1.1.1.2.2.1.2.2]
    refine ct i1 (r_isSoOf (td_s hr.1 hs (by decide) (by decide)) i0 i1 (fun s' hs' => g_Mo_truly_31 ?_))
    have q := ih s' (sm_t hs hs')
    rw [nj_s i i0] at q
    obtain ⟨n1, _⟩ := nj i i0 (by omega)
    rw [w32_id (x := i + 1) (by omega) (by omega), bO_0 n1.1 (by omega)]
    refine ci (fun c => ?_) (fun c => ?_)
    · rw [if_pos c] at q; exact q
    · rw [if_neg c] at q; exact q
  · intro s hs
    refine g_Mo_truly_14 ?_
    rw [hs 71 (by decide), hr.1.1.1.2.2.1.2.2]
    exact cf (by omega) (q s (rsc_s hs (by decide)))
end
