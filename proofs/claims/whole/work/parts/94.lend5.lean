noncomputable section
theorem pf_k {W : Int} {S : S4} {a : Int} (a0 : 0 ≤ a) : ∀ n : Nat, (∀ i, a ≤ i → i < a + n → PSf W i (PF W S i) = PF W S i) → PF W S (a + n) = PF W S a
  | 0, _ => by rw [show a + ((0 : Nat) : Int) = a from by omega]
  | n + 1, h => by
    rw [show a + ((n + 1 : Nat) : Int) = a + (n : Int) + 1 from by omega, pf_s (by omega), h _ (by omega) (by omega)]
    exact pf_k a0 n (fun i i0 i1 => h i i0 (by omega))
def S0L (g : Sg) (tx : Int → TA) : S4 := (L0 g tx, t0 g tx, m0L g tx, fun _ => 0)
theorem pi_0 {g η : Sg} {T : TT} {tx : Int → TA} (ht : Td g η T tx) (hl : ∀ x, 1 ≤ x → x < 64 → Sb (WB g tx (g 3 0)) x → ¬ 0 < LKs (L0 g tx) (t0 g tx) (m0L g tx) x) : PIv g (WB g tx (g 3 0)) 0 (S0L g tx) := by
  have hn := ht.1.1.1
  have bd := bd_0 ht
  refine ⟨bd, fun x hx sx => ?_, sd_0 ht, fun j j0 j1 hj => ?_, fun _ _ _ => rfl⟩
  · by_cases e : x = 0
    · subst e; exact lk_00 (fun i i0 i1 => (bd.1 i i0 i1).2.1)
    · have := hl x (by have := hx.1; omega) hx.2 sx
      show LKs (L0 g tx) (t0 g tx) (m0L g tx) x ≤ 0
      omega
  · have hj : 0 < m0L g tx j := hj
    unfold m0L at hj
    split at hj
    · rename_i q
      refine ⟨(l0_w g tx (j / 6) hn.1 hn.2.1 (by omega)).mp q.1, ?_, ?_⟩
      · cases e : tb (WB g tx (g 3 0)) (j % 6) with
        | false => rfl
        | true =>
          have := ((sd_0 ht).2.2.2 (j % 6) (by omega) (by omega)).1 e
          omega
      · by_cases c : j % 6 < g 3 0
        · exact c
        · have := ((sd_0 ht).2.2.2 (j % 6) (by omega) (by omega)).2.2 (by omega)
          omega
    · omega
theorem c_lendFrom {d : Nat} {g s : Sg} {T : TT} {P : AM → Prop} {W f : Int} {S : S4} (hS : PIv g W 0 S) (f0 : 0 ≤ f) (f6 : f < g 3 0) (wf : tb W f = true) (hr : CRl g s W (PF W S (6 * f)).1 (PF W S (6 * f)).2.1 (PF W S (6 * f)).2.2.1) (hn : ∀ j, 0 ≤ j → j < 36 → s 54 j = (PF W S (6 * f)).2.2.2 j) (k : ∀ s', Sm [52, 53, 54] s s' → CRl g s' W (PF W S (6 * f + 6)).1 (PF W S (6 * f + 6)).2.1 (PF W S (6 * f + 6)).2.2.1 → (∀ j, 0 ≤ j → j < 36 → s' 54 j = (PF W S (6 * f + 6)).2.2.2 j) → P (mk s' T)) : wpV (d + 3) 130 0 [aR 51, aI f, aU, aU, aU] [] (mk s T) P := by
  have n6 := hS.2.2.1.2.1
  refine g_Loans_lendFrom_0 ?_
  have lp : ∀ l3 l4 : AV, wpV (d + 3) 130 2 [aR 51, aI f, aI 0, l3, l4] [] (mk s T) P := by
    refine for_up (n := g 3 0) (Hd := fun c s => ∀ l3 l4 : AV, wpV (d + 3) 130 2 [aR 51, aI f, aI c, l3, l4] [] (mk s T) P) (Inv := fun c s' => Sm [52, 53, 54] s s' ∧ CRl g s' W (PF W S (6 * f + c)).1 (PF W S (6 * f + c)).2.1 (PF W S (6 * f + c)).2.2.1 ∧ (∀ j, 0 ≤ j → j < 36 → s' 54 j = (PF W S (6 * f + c)).2.2.2 j)) ?_ ?_ ⟨sm_r _ _, by rw [Int.add_zero]; exact hr, by rw [Int.add_zero]; exact hn⟩ n6.1
    · rintro c s1 c0 c1 ⟨q1, q2, q3⟩ ih l3 l4
      refine c_pair (d := d) f0 f6 wf c0 c1 (pi_i hS (6 * f + c) (by omega) (by omega)) q2 q3 (fun s2 l3 l4 e2 a2 b2 => ih s2 ⟨sm_t q1 e2, ?_, ?_⟩ l3 l4)
      · rw [show 6 * f + (c + 1) = 6 * f + c + 1 from by omega, pf_s (by omega)]; exact a2
      · rw [show 6 * f + (c + 1) = 6 * f + c + 1 from by omega, pf_s (by omega)]; exact b2
    · rintro s1 ⟨q1, q2, q3⟩ l3 l4
      refine g_Loans_lendFrom_2 ?_
      rw [q2.1]
      have e : PF W S (6 * f + 6) = PF W S (6 * f + g 3 0) := by
        have := pf_k (W := W) (S := S) (a := 6 * f + g 3 0) (by omega) (6 - g 3 0).toNat (fun i i0 i1 => ?_)
        · rw [show 6 * f + g 3 0 + (((6 - g 3 0).toNat : Nat) : Int) = 6 * f + 6 from by omega] at this
          exact this
        · unfold PSf
          rw [if_neg]
          rintro ⟨_, z⟩
          have := ((pi_i hS i (by omega) (by omega)).2.2.2.1 i (by omega) (by omega) z).2.2
          omega
      refine cf (by omega) (k s1 q1 ?_ ?_)
      · rw [e]; exact q2
      · rw [e]; exact q3
  exact lp aU aU
theorem c_solve {d : Nat} {g η : Sg} {T : TT} {tx : Int → TA} {P : Int → AM → Prop} (ht : Td g η T tx) (k0 : ∀ r, LLp (WB g tx (g 3 0)) (L0 g tx) (t0 g tx) (m0L g tx) r → r ≠ -1 → ∀ s, Sm [40, 41, 51, 52, 53, 54] g s → P 0 (mk s T)) (k1 : (∀ x, 1 ≤ x → x < 64 → Sb (WB g tx (g 3 0)) x → ¬ 0 < LKs (L0 g tx) (t0 g tx) (m0L g tx) x) → ∀ s, Sm [40, 41, 51, 52, 53, 54] g s → (∀ j, 0 ≤ j → j < 36 → s 54 j = (PF (WB g tx (g 3 0)) (S0L g tx) 36).2.2.2 j) → P 1 (mk s T)) : wpI (d + 7) 125 0 [aR 51, aU] [] (mk g T) P := by
  have hn := ht.1.1.1
  obtain ⟨w1, w2⟩ := wb_t g tx (g 3 0) hn.1 hn.2.1
  refine g_Loans_solve_0 (c_prepareL (d := d) ht (fun s hs hc hz => g_Loans_solve_4 (c_lowestLacking (d := d + 4) (bd_0 ht) hc (sd_0 ht) (fun r hl => g_Loans_solve_8 ?_))))
  refine ci (fun c => ?_) (fun c => k0 r hl c s hs)
  have hl' : ∀ x, 1 ≤ x → x < 64 → Sb (WB g tx (g 3 0)) x → ¬ 0 < LKs (L0 g tx) (t0 g tx) (m0L g tx) x := by
    rcases hl with ⟨_, q⟩ | ⟨q, _⟩
    · exact q
    · omega
  have hS := pi_0 ht hl'
  refine for_up (n := g 3 0) (Hd := fun f s => wpI (d + 7) 125 16 [aR 51, aI f] [] (mk s T) P) (Inv := fun f s' => Sm [40, 41, 51, 52, 53, 54] g s' ∧ CRl g s' (WB g tx (g 3 0)) (PF (WB g tx (g 3 0)) (S0L g tx) (6 * f)).1 (PF (WB g tx (g 3 0)) (S0L g tx) (6 * f)).2.1 (PF (WB g tx (g 3 0)) (S0L g tx) (6 * f)).2.2.1 ∧ (∀ j, 0 ≤ j → j < 36 → s' 54 j = (PF (WB g tx (g 3 0)) (S0L g tx) (6 * f)).2.2.2 j)) ?_ ?_ ⟨hs, by rw [show PF (WB g tx (g 3 0)) (S0L g tx) (6 * 0) = S0L g tx from rfl]; exact hc, by rw [show PF (WB g tx (g 3 0)) (S0L g tx) (6 * 0) = S0L g tx from rfl]; exact hz⟩ hn.1
  · rintro f s1 f0 f1 ⟨q1, q2, q3⟩ ih
    refine g_Loans_solve_16 ?_
    rw [q2.1, q2.2.1, w32_id (x := f + 1) (by omega) (by omega)]
    refine ct f1 (ci (fun c2 => ?_) (fun c2 => ?_))
    · have ew := (has_0 w1.1 f0 (by omega)).mp c2
      have e : PF (WB g tx (g 3 0)) (S0L g tx) (6 * (f + 1)) = PF (WB g tx (g 3 0)) (S0L g tx) (6 * f) := by
        have := pf_k (W := WB g tx (g 3 0)) (S := S0L g tx) (a := 6 * f) (by omega) 6 (fun i i0 i1 => by
          unfold PSf
          rw [if_neg]
          rintro ⟨z, _⟩
          rw [show i / 6 = f from by omega, ew] at z
          exact absurd z (by decide))
        rw [show 6 * f + ((6 : Nat) : Int) = 6 * (f + 1) from by omega] at this
        exact this
      refine ih s1 ⟨q1, ?_, ?_⟩
      · rw [e]; exact q2
      · rw [e]; exact q3
    · have ew : tb (WB g tx (g 3 0)) f = true := by
        cases e : tb (WB g tx (g 3 0)) f with
        | true => rfl
        | false => exact absurd ((has_0 w1.1 f0 (by omega)).mpr e) c2
      refine c_lendFrom (d := d + 3) hS f0 f1 ew q2 q3 (fun s2 e2 a2 b2 => g_Loans_solve_43 ?_)
      rw [w32_id (x := f + 1) (by omega) (by omega)]
      refine ih s2 ⟨sm_t q1 (sm_m e2 (by simp)), ?_, ?_⟩
      · rw [show 6 * (f + 1) = 6 * f + 6 from by omega]; exact a2
      · rw [show 6 * (f + 1) = 6 * f + 6 from by omega]; exact b2
  · rintro s1 ⟨q1, q2, q3⟩
    refine g_Loans_solve_16 ?_
    rw [q2.1]
    refine cf (by omega) (k1 hl' s1 q1 ?_)
    have e : PF (WB g tx (g 3 0)) (S0L g tx) 36 = PF (WB g tx (g 3 0)) (S0L g tx) (6 * g 3 0) := by
      have := pf_k (W := WB g tx (g 3 0)) (S := S0L g tx) (a := 6 * g 3 0) (by omega) (36 - 6 * g 3 0).toNat (fun i i0 i1 => by
        unfold PSf
        rw [if_neg]
        rintro ⟨z, _⟩
        have := ((w2 (i / 6) (by omega)).mp z).1
        omega)
      rw [show 6 * g 3 0 + (((36 - 6 * g 3 0).toNat : Nat) : Int) = 36 from by omega] at this
      exact this
    rw [e]; exact q3
set_option maxRecDepth 20000 in
theorem o_lending {e : Nat} {g : Sg} {T : TT} {tx : Int → TA} {B x y : Int} : Op (e + 60) 36 [aR 2, aI x, aI y, aU] 280 [aR 70, aI x, aI y, aU, aU, aU] g T tx B := by
  refine op_l (fun h hr => ?_)
  have hn := hr.1.1.1.1
  have bd := bd_0 hr.1
  -- the reference up to its first answer
  have rf : ∀ (s : Sg) (v : Int), Sm [40, 41, 51, 52, 53, 54] g s → (x ≠ -1 → (x < 0 ∨ g 3 0 ≤ x ∨ y < 0 ∨ g 3 0 ≤ y ∨ x = y) → v = -1) → (∀ r, LLp (WB g tx (g 3 0)) (L0 g tx) (t0 g tx) (m0L g tx) r → (x = -1 → v = if r < 0 then 1 else 0) ∧ (x ≠ -1 → ¬ r < 0 → v = -1)) → (x ≠ -1 → ¬ (x < 0 ∨ g 3 0 ≤ x ∨ y < 0 ∨ g 3 0 ≤ y ∨ x = y) → (∀ z, 1 ≤ z → z < 64 → Sb (WB g tx (g 3 0)) z → ¬ 0 < LKs (L0 g tx) (t0 g tx) (m0L g tx) z) → v = (PF (WB g tx (g 3 0)) (S0L g tx) 36).2.2.2 (6 * x + y)) → Lf (e + 60) 280 [aR 70, aI x, aI y, aU, aU, aU] g T tx B v (mk s T) := by
    intro s v hs v1 v2 v3
    refine lf_s hs (by decide) (fun h hr Q q => g_Mo_lending_0 ?_)
    rw [hr.1.1.1.1.2.2, w32_id (x := g 3 0 - 1) (by omega) (by omega)]
    have q0 : v = -1 → Q (-1) (mk h T) := fun ev => by rw [← ev]; exact q h ⟨fun _ _ _ => rfl, fun _ _ _ => rfl⟩
    have go : ∀ a : Int, (a = 1 ∧ x = -1) ∨ (a = 0 ∧ x ≠ -1 ∧ ¬ (x < 0 ∨ g 3 0 ≤ x ∨ y < 0 ∨ g 3 0 ≤ y ∨ x = y)) → wpV (e + 59) 281 0 [aR 70, aU] [] (mk h T) (fun M' => wpI (e + 59 + 1) 280 42 [aR 70, aI x, aI y, aI a, aU, aU] [] M' Q) := by
      intro a ha
      refine r_findBelow (d := e + 49) hr.1 (fun s1 e1 a1 z1 w1 => g_Mo_lending_42 (r_tooMuch (d := e + 57) bd a1 w1 (fun r hl => g_Mo_lending_46 ?_)))
      obtain ⟨u1', u2⟩ := v2 r hl
      have q1 := q s1 (rsc_s e1 (by decide))
      refine ci (fun c => ci (fun c2 => ?_) (fun c2 => ?_)) (fun c => ci (fun c2 => ?_) (fun c2 => ?_))
      · have hx : x ≠ -1 ∧ ¬ (x < 0 ∨ g 3 0 ≤ x ∨ y < 0 ∨ g 3 0 ≤ y ∨ x = y) := by
          rcases ha with ha | ha
          · omega
          · exact ha.2
        have hl' : ∀ z, 1 ≤ z → z < 64 → Sb (WB g tx (g 3 0)) z → ¬ 0 < LKs (L0 g tx) (t0 g tx) (m0L g tx) z := by
          rcases hl with ⟨_, q⟩ | ⟨q, _⟩
          · exact q
          · omega
        have hS := pi_0 hr.1 hl'
        have ev := v3 hx.1 hx.2 hl'
        refine for_up (n := 36) (Hd := fun i s => wpI (e + 60) 280 81 [aR 70, aI x, aI y, aI a, aI 1, aI i] [] (mk s T) Q) (Inv := fun i s => Sm [76, 77, 81, 82, 83, 84, 85] h s ∧ RSt s (PF (WB g tx (g 3 0)) (S0L g tx) i).1 (PF (WB g tx (g 3 0)) (S0L g tx) i).2.1 (PF (WB g tx (g 3 0)) (S0L g tx) i).2.2.1 ∧ (∀ j, 0 ≤ j → j < 36 → s 84 j = (PF (WB g tx (g 3 0)) (S0L g tx) i).2.2.2 j) ∧ WSt s (WB g tx (g 3 0))) ?_ ?_ ⟨e1, a1, z1, w1⟩ (by omega)
        · rintro i s2 i0 i1 ⟨b1, b2, b3, b4⟩ ih
          have hP := pi_i hS i i0 (by omega)
          have sk : PSf (WB g tx (g 3 0)) i (PF (WB g tx (g 3 0)) (S0L g tx) i) = PF (WB g tx (g 3 0)) (S0L g tx) i → wpI (e + 60) 280 81 [aR 70, aI x, aI y, aI a, aI 1, aI (i + 1)] [] (mk s2 T) Q := fun es => by
            refine ih s2 ⟨b1, ?_, ?_, b4⟩
            · rw [pf_s i0, es]; exact b2
            · rw [pf_s i0, es]; exact b3
          refine g_Mo_lending_81 ?_
          rw [Int.tdiv_eq_ediv_of_nonneg i0, Int.tmod_eq_emod_of_nonneg i0, w32_id (x := i / 6) (by omega) (by omega), w32_id (x := i + 1) (by omega) (by omega), b4 (i / 6) (by omega) (by omega), b2.2 i i0 i1]
          refine ct i1 (ct (by omega) ?_)
          cases ew : tb (WB g tx (g 3 0)) (i / 6) with
          | false =>
            rw [if_neg (by decide)]
            refine ct rfl (sk ?_)
            unfold PSf; rw [if_neg (fun z => by rw [ew] at z; exact absurd z.1 (by decide))]
          | true =>
            rw [if_pos rfl]
            refine cf (by omega) (ct (by omega) (ci (fun c3 => ?_) (fun c3 => sk ?_)))
            · refine r_findLent (d := e + 56) i0 i1 hP ⟨ew, c3⟩ b2 b3 b4 (fun s3 e3 a3 z3 => g_Mo_lending_125 ?_)
              rw [w32_id (x := i + 1) (by omega) (by omega)]
              refine ih s3 ⟨sm_t b1 (sm_m e3 (by simp)), ?_, ?_, ?_⟩
              · rw [pf_s i0]; exact a3
              · rw [pf_s i0]; exact z3
              · unfold WSt; rw [e3 85 (by decide)]; exact b4
            · unfold PSf; rw [if_neg (fun z => c3 z.2)]
        · rintro s2 ⟨b1, b2, b3, b4⟩
          refine g_Mo_lending_81 (cf (by omega) ?_)
          rw [w32_id (x := 6 * x) (by omega) (by omega), w32_id (x := 6 * x + y) (by omega) (by omega), b3 (6 * x + y) (by omega) (by omega), ← ev]
          exact ct (by omega) (q s2 (rsc_s b1 (by decide)))
      · have hx : x = -1 := by omega
        rw [u1' hx, if_pos c] at q1; exact q1
      · have hx : x ≠ -1 := by omega
        rw [u2 hx c] at q1; exact q1
      · have hx : x = -1 := by omega
        rw [u1' hx, if_neg c] at q1; exact q1
    refine ci (fun c => go 1 (Or.inl ⟨rfl, c⟩)) (fun c => ci (fun c1 => q0 (v1 c (by omega))) (fun c1 => ci (fun c2 => q0 (v1 c (by omega))) (fun c2 => ci (fun c3 => q0 (v1 c (by omega))) (fun c3 => ci (fun c4 => q0 (v1 c (by omega))) (fun c4 => ci (fun c5 => q0 (v1 c (by omega))) (fun c5 => go 0 (Or.inr ⟨rfl, c, by omega⟩)))))))
  refine g_Af_lending_0 (c_solve (d := e + 52) hr.1 (fun r hl hr' s hs => g_Af_lending_7 ?_) (fun hl s hs hz => g_Af_lending_7 ?_))
  · have rp : ¬ r < 0 := by
      rcases hl with ⟨q, _⟩ | ⟨q, _⟩
      · exact absurd q hr'
      · omega
    have cn : ∀ v : Int, (x = -1 → v = 0) → (x ≠ -1 → v = -1) → Lf (e + 60) 280 [aR 70, aI x, aI y, aU, aU, aU] g T tx B v (mk s T) := fun v a b => rf s v hs (fun z _ => b z) (fun r' hl' => by
      have er := llp_u hl hl'
      subst er
      exact ⟨fun z => by rw [if_neg rp]; exact a z, fun z _ => b z⟩) (fun z _ hl2 => by
      rcases hl with ⟨q, _⟩ | ⟨q1, q2, q3, q4, _⟩
      · exact absurd q hr'
      · exact absurd q4 (hl2 r q1 q2 q3))
    exact ci (fun c => ct rfl (cn 0 (fun _ => rfl) (fun z => absurd c z))) (fun c => ct rfl (cn (-1) (fun z => absurd z c) (fun _ => rfl)))
  · rw [hs 3 (by decide)]
    have cn : ∀ v : Int, (x = -1 → v = 1) → (x ≠ -1 → (x < 0 ∨ g 3 0 ≤ x ∨ y < 0 ∨ g 3 0 ≤ y ∨ x = y) → v = -1) → (x ≠ -1 → ¬ (x < 0 ∨ g 3 0 ≤ x ∨ y < 0 ∨ g 3 0 ≤ y ∨ x = y) → v = (PF (WB g tx (g 3 0)) (S0L g tx) 36).2.2.2 (6 * x + y)) → Lf (e + 60) 280 [aR 70, aI x, aI y, aU, aU, aU] g T tx B v (mk s T) := fun v a b c => rf s v hs b (fun r' hl' => by
      have er : r' = -1 := llp_u hl' (Or.inl ⟨rfl, hl⟩)
      subst er
      exact ⟨fun z => by rw [if_pos (by omega)]; exact a z, fun _ z => absurd (by omega) z⟩) (fun z1 z2 _ => c z1 z2)
    refine ci (fun c => cf (by omega) (cn 1 (fun _ => rfl) (fun z => absurd c z) (fun z => absurd c z))) (fun c => cf (by omega) ?_)
    have no : (x < 0 ∨ g 3 0 ≤ x ∨ y < 0 ∨ g 3 0 ≤ y ∨ x = y) → Lf (e + 60) 280 [aR 70, aI x, aI y, aU, aU, aU] g T tx B (-1) (mk s T) := fun z => cn (-1) (fun z => absurd z c) (fun _ _ => rfl) (fun _ z' => absurd z z')
    refine ci (fun c1 => no (by omega)) (fun c1 => ci (fun c2 => ci (fun c3 => no (by omega)) (fun c3 => ci (fun c4 => ci (fun c5 => no (by omega)) (fun c5 => ?_)) (fun c4 => no (by omega)))) (fun c2 => no (by omega)))
    rw [w32_id (x := x * 6) (by omega) (by omega), w32_id (x := x * 6 + y) (by omega) (by omega), hz (x * 6 + y) (by omega) (by omega)]
    exact ct (by omega) (cn _ (fun z => absurd z c) (fun _ z => by omega) (fun _ _ => by rw [show x * 6 + y = 6 * x + y from by omega]))
end
