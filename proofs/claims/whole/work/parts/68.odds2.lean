noncomputable section
theorem c_power {d : Nat} {σ : Sg} {T : TT} {P : Int → AM → Prop} {b t : Int} (t0 : 0 ≤ t) (t1 : t ≤ 15) (k : P (PWr b t) (mk σ T)) : wpL d 48 0 [aI b, aI t, aU, aU, aU] [] (mk σ T) P := by
  refine g_Af_power_0 ?_
  refine for_up (n := t) (Hd := fun i s => wpL d 48 5 [aI b, aI t, aL (PWr b i), a2, aI i] [] (mk s T) P) (Inv := fun _ s => s = σ) ?_ ?_ rfl t0
  · rintro i s i0 i1 rfl ih
    have q := ih s rfl
    rw [show PWr b (i + 1) = w64 (PWr b i * b) from it_s _ _ i0] at q
    refine g_Af_power_5 ?_
    rw [w32_id (x := i + 1) (by omega) (by omega)]; exact ct i1 q
  · rintro s rfl
    exact g_Af_power_5 (cf (by omega) k)
theorem r_tenTo {d : Nat} {σ : Sg} {T : TT} {P : Int → AM → Prop} {t : Int} (t0 : 0 ≤ t) (t1 : t ≤ 15) (k : P (PWr 10 t) (mk σ T)) : wpL d 302 0 [aI t, aU, aU, aU] [] (mk σ T) P := by
  refine g_Mo_tenTo_0 ?_
  refine for_up (n := t) (Hd := fun i s => wpL d 302 4 [aI t, aL (PWr 10 i), a2, aI i] [] (mk s T) P) (Inv := fun _ s => s = σ) ?_ ?_ rfl t0
  · rintro i s i0 i1 rfl ih
    have q := ih s rfl
    rw [show PWr 10 (i + 1) = w64 (PWr 10 i * 10) from it_s _ _ i0] at q
    refine g_Mo_tenTo_4 ?_
    rw [w32_id (x := i + 1) (by omega) (by omega)]; exact ct i1 q
  · rintro s rfl
    exact g_Mo_tenTo_4 (cf (by omega) k)
theorem c_rightOnes {d : Nat} {σ : Sg} {T : TT} {P : Int → AM → Prop} {e n : Int} (e0 : 0 ≤ e) (e1 : e ≤ 10) (n0 : 0 ≤ n) (n1 : n ≤ 15) (k : P (RO e n (n + 1)).1 (mk σ T)) : wpL (d + 1) 47 0 [aI e, aI n, aU, aU, aU, aU, aU] [] (mk σ T) P := by
  refine g_Af_rightOnes_0 ?_
  refine for_up (n := n + 1) (Hd := fun r s => wpL (d + 1) 47 8 [aI e, aI n, aL (RO e n r).1, a2, aL (RO e n r).2, a2, aI r] [] (mk s T) P) (Inv := fun _ s => s = σ) ?_ ?_ rfl (by omega)
  · rintro r s r0 r1 rfl ih
    have q := ih s rfl
    rw [show RO e n (r + 1) = ROs e n r (RO e n r) from it_s _ _ r0] at q
    unfold ROs at q
    refine g_Af_rightOnes_8 ?_
    rw [w32_id (x := r * 2) (by omega) (by omega), w32_id (x := 10 - e) (by omega) (by omega), w32_id (x := r + 1) (by omega) (by omega), w32_id (x := n - r) (by omega) (by omega)]
    refine cf (by omega) (ci (fun c => ?_) (fun c => ?_))
    · rw [if_pos c] at q
      refine c_power r0 (by omega) (g_Af_rightOnes_34 ?_)
      rw [w32_id (x := n - r) (by omega) (by omega)]
      refine c_power (by omega) (by omega) (g_Af_rightOnes_43 ?_)
      rw [w32_id (x := r + 1) (by omega) (by omega), w32_id (x := n - r) (by omega) (by omega)]
      exact cf (by omega) q
    · rw [if_neg c] at q
      exact cf (by omega) q
  · rintro s rfl
    exact g_Af_rightOnes_8 (ct (by omega) k)
theorem r_rightWays {d : Nat} {σ : Sg} {T : TT} {P : Int → AM → Prop} {e n : Int} (e0 : 0 ≤ e) (e1 : e ≤ 10) (n0 : 0 ≤ n) (n1 : n ≤ 15) (k : ∀ s, Sm [89] σ s → P (UPs (rowF e n) n (16 - n / 2)) (mk s T)) : wpL d 301 0 [aR 70, aI e, aI n, aU, aU, aU] [] (mk σ T) P := by
  refine g_Mo_rightWays_0 ?_
  refine for_up (n := 17) (Hd := fun i s => wpL d 301 2 [aR 70, aI e, aI n, aI i, aU, aU] [] (mk s T) P) (Inv := fun i s => Sm [89] σ s ∧ ∀ j, 0 ≤ j → j < i → s 89 j = rowF e 0 j) ?_ ?_ ⟨sm_r _ _, fun j _ _ => by omega⟩ (by omega)
  · rintro i s i0 i1 ⟨q1, q2⟩ ih
    refine g_Mo_rightWays_2 ?_
    rw [w32_id (x := i + 1) (by omega) (by omega)]
    have nx : ∀ v, v = rowF e 0 i → wpL d 301 2 [aR 70, aI e, aI n, aI (i + 1), aU, aU] [] (mk (up s 89 i v) T) P := by
      intro v hv
      refine ih _ ⟨sm_u q1 (by simp), fun j j0 j1 => ?_⟩
      rw [up_e]
      by_cases c : j = i
      · rw [if_pos c, c]; exact hv
      · rw [if_neg c]; exact q2 j j0 (by omega)
    refine ct i1 (ci (fun c => ct (by omega) (nx 1 ?_)) (fun c => ct (by omega) (nx 0 ?_)))
    · show (1 : Int) = if i = 0 then 1 else 0
      rw [if_pos c]
    · show (0 : Int) = if i = 0 then 1 else 0
      rw [if_neg c]
  · rintro s ⟨q1, q2⟩
    refine g_Mo_rightWays_2 (cf (by omega) ?_)
    suffices lp : ∀ l4 : AV, wpL d 301 31 [aR 70, aI e, aI n, aI 0, l4, aU] [] (mk s T) P from lp _
    refine for_up (n := n) (Hd := fun m s => ∀ l4 : AV, wpL d 301 31 [aR 70, aI e, aI n, aI m, l4, aU] [] (mk s T) P) (Inv := fun m s => Sm [89] σ s ∧ ∀ j, 0 ≤ j → j < 17 → s 89 j = rowF e m j) ?_ ?_ ⟨q1, q2⟩ n0
    · rintro m s m0 m1 ⟨q1, q2⟩ ih l4
      refine g_Mo_rightWays_31 (ct m1 ?_)
      rw [w32_id (x := m + 1) (by omega) (by omega)]
      have lp : wpL d 301 41 [aR 70, aI e, aI n, aI m, aI (m + 1 - 0), aU] [] (mk s T) P := by
        refine for_up (n := m + 1) (Hd := fun j s => wpL d 301 41 [aR 70, aI e, aI n, aI m, aI (m + 1 - j), aU] [] (mk s T) P) (Inv := fun j s => Sm [89] σ s ∧ (∀ i, 0 ≤ i → i ≤ m + 1 - j → s 89 i = rowF e m i) ∧ (∀ i, m + 1 - j < i → i < 17 → s 89 i = nxr e m (rowF e m) i)) ?_ ?_ ⟨q1, fun i i0 i1 => q2 i i0 (by omega), fun i i0 i1 => ?_⟩ (by omega)
        · rintro j s j0 j1 ⟨b1, b2, b3⟩ ihj
          refine g_Mo_rightWays_41 ?_
          rw [w32_id (x := m + 1 - j - 1) (by omega) (by omega), w32_id (x := m + 1 - j + -1) (by omega) (by omega), w32_id (x := 10 - e) (by omega) (by omega), b2 (m + 1 - j) (by omega) (by omega), b2 (m + 1 - j - 1) (by omega) (by omega), show m + 1 - j + -1 = m + 1 - (j + 1) from by omega]
          refine ct (by omega) (ct (by omega) (ct (by omega) (ct (by omega) (ihj _ ⟨sm_u b1 (by simp), fun i i0 i1 => by rw [up_i (by omega)]; exact b2 i i0 (by omega), fun i i0 i1 => ?_⟩))))
          rw [up_e]
          by_cases c : i = m + 1 - j
          · rw [if_pos c, c]; unfold nxr; rw [if_neg (by omega), if_pos (by omega)]
          · rw [if_neg c]; exact b3 i (by omega) i1
        · rintro s ⟨b1, b2, b3⟩
          refine g_Mo_rightWays_41 (cf (by omega) ?_)
          rw [w32_id (x := m + 1) (by omega) (by omega), b2 0 (by omega) (by omega)]
          refine ih _ ⟨sm_u b1 (by simp), fun i i0 i1 => ?_⟩ _
          rw [row_s m0, up_e]
          by_cases c : i = 0
          · rw [if_pos c, c]; unfold nxr; rw [if_pos rfl]
          · rw [if_neg c]; exact b3 i (by omega) i1
        · rw [q2 i (by omega) i1]; unfold nxr; rw [if_neg (by omega), if_neg (by omega)]
      rw [show m + 1 - 0 = m + 1 from by omega] at lp
      exact lp
    · rintro s ⟨q1, q2⟩ l4
      refine g_Mo_rightWays_31 (cf (by omega) ?_)
      rw [Int.tdiv_eq_ediv_of_nonneg n0, w32_id (x := n / 2) (by omega) (by omega), w32_id (x := n / 2 + 1) (by omega) (by omega)]
      have lp : wpL d 301 111 [aR 70, aI e, aI n, aL 0, a2, aI (n / 2 + 1 + 0)] [] (mk s T) P := by
        refine for_up (n := 16 - n / 2) (Hd := fun i s' => wpL d 301 111 [aR 70, aI e, aI n, aL (UPs (rowF e n) n i), a2, aI (n / 2 + 1 + i)] [] (mk s' T) P) (Inv := fun _ s' => s' = s) ?_ ?_ rfl (by omega)
        · rintro i s' i0 i1 rfl ih
          have q := ih s' rfl
          rw [show UPs (rowF e n) n (i + 1) = w64 (UPs (rowF e n) n i + rowF e n (n / 2 + 1 + i)) from it_s _ _ i0] at q
          refine g_Mo_rightWays_111 ?_
          rw [q2 _ (by omega) (by omega), w32_id (x := n / 2 + 1 + i + 1) (by omega) (by omega), show n / 2 + 1 + i + 1 = n / 2 + 1 + (i + 1) from by omega]
          exact ct (by omega) (ct (by omega) q)
        · rintro s' rfl
          exact g_Mo_rightWays_111 (cf (by omega) (k s' q1))
      rw [Int.add_zero] at lp
      exact lp
theorem c_common {d : Nat} {σ : Sg} {T : TT} {P : Int → AM → Prop} {x y : Int} : ∀ (n : Nat) (a b i : Int) (l9 l10 : AV), 0 ≤ i → i + n ≤ 199 → GZ n a b = true → P (GD n a b) (mk σ T) → wpL d 49 9 [aL x, a2, aL y, a2, aL a, a2, aL b, a2, aI i, l9, l10] [] (mk σ T) P := by
  intro n
  induction n with
  | zero =>
    intro a b i l9 l10 i0 i1 hz k
    have hz : b = 0 := of_decide_eq_true hz
    exact g_Af_commonDivisor_9 (ct (by omega) (ct (by rw [cl_eq]; exact hz) k))
  | succ n ih =>
    intro a b i l9 l10 i0 i1 hz k
    refine g_Af_commonDivisor_9 (ct (by omega) ?_)
    unfold GZ at hz
    unfold GD at k
    by_cases c : b = 0
    · rw [if_pos c] at k
      exact ct (by rw [cl_eq]; exact c) k
    · rw [if_neg c] at hz k
      refine cf (by rw [cl_eq]; exact c) (cf c ?_)
      rw [w32_id (x := i + 1) (by omega) (by omega)]
      exact ih _ _ _ _ _ (by omega) (by omega) hz k
theorem r_common {d : Nat} {σ : Sg} {T : TT} {P : Int → AM → Prop} {x y : Int} : ∀ (n : Nat) (a b : Int) (l9 l10 : AV), GZ n a b = true → P (GD n a b) (mk σ T) → wpL d 303 6 [aL x, a2, aL y, a2, aL a, a2, aL b, a2, l9, l10] [] (mk σ T) P := by
  intro n
  induction n with
  | zero =>
    intro a b l9 l10 hz k
    have hz : b = 0 := of_decide_eq_true hz
    exact g_Mo_common_6 (ct (by rw [cl_eq]; exact hz) k)
  | succ n ih =>
    intro a b l9 l10 hz k
    refine g_Mo_common_6 ?_
    unfold GZ at hz
    unfold GD at k
    by_cases c : b = 0
    · rw [if_pos c] at k
      exact ct (by rw [cl_eq]; exact c) k
    · rw [if_neg c] at hz k
      exact cf (by rw [cl_eq]; exact c) (cf c (ih _ _ _ _ hz k))
/-- what the two ways of counting come to -/
theorem odd_f {e n : Int} (e0 : 0 ≤ e) (e1 : e ≤ 10) (n0 : 1 ≤ n) (n1 : n ≤ 15) (ho : n % 2 = 1) : UPs (rowF e n) n (16 - n / 2) = (RO e n (n + 1)).1 ∧ GZ 60 (PWr 10 n) (RO e n (n + 1)).1 = true ∧ GZ 60 (RO e n (n + 1)).1 (PWr 10 n) = true ∧ GD 60 (PWr 10 n) (RO e n (n + 1)).1 = GD 60 (RO e n (n + 1)).1 (PWr 10 n) ∧ 1 ≤ GD 60 (PWr 10 n) (RO e n (n + 1)).1 := by
  have h := k88 ⟨e.toNat, by omega⟩ ⟨(n / 2).toNat, by omega⟩
  dsimp only at h
  have a1 : ((e.toNat : Nat) : Int) = e := by omega
  have a2 : 2 * (((n / 2).toNat : Nat) : Int) + 1 = n := by omega
  have a3 : 2 * (((n / 2).toNat : Nat) : Int) + 2 = n + 1 := by omega
  have a4 : 16 - (((n / 2).toNat : Nat) : Int) = 16 - n / 2 := by omega
  rw [a1, a2, a3, a4] at h
  refine ⟨?_, h.2⟩
  rw [h.1]
  unfold UPs
  refine it_c (fun i y i0 i1 => ?_)
  have := row_l e (2 * (n / 2).toNat + 1) (n / 2 + 1 + i) (by omega) (by omega)
  rw [show ((2 * (n / 2).toNat + 1 : Nat) : Int) = n from by omega] at this
  rw [this]
theorem o_often {e : Nat} {g : Sg} {T : TT} {tx : Int → TA} {B x y : Int} : Op (e + 60) 50 [aR 2, aI x, aI y, aU] 304 [aR 70, aI x, aI y, aU] g T tx B := by
  refine op_l (fun h hr => ?_)
  have no : (x < 0 ∨ 10 < x ∨ y < 1 ∨ 100 < y) → Lf (e + 60) 304 [aR 70, aI x, aI y, aU] g T tx B (-1) (mk g T) := by
    intro hx
    refine lf_n (fun h hr Q q => g_Mo_often_0 ?_)
    exact ci (fun _ => q) (fun _ => ci (fun _ => q) (fun _ => ci (fun _ => q) (fun _ => ct (by omega) q)))
  refine g_Af_often_0 (ci (fun _ => no (by omega)) (fun c1 => ci (fun _ => no (by omega)) (fun c2 => ci (fun _ => no (by omega)) (fun c3 => ci (fun _ => no (by omega)) (fun c4 => ?_)))))
  have key : ∀ (k : Nat) (n : Int), n = 17 - 2 * (k : Int) → k ≤ 8 → ∃ r : Int, (∀ P : Int → AM → Prop, P r (mk g T) → wpI (e + 60) 50 24 [aR 2, aI x, aI y, aI n] [] (mk g T) P) ∧ ∀ (h : Sg) (Q : Int → AM → Prop), (∀ s, Sm [89] h s → Q r (mk s T)) → wpI (e + 60) 304 24 [aR 70, aI x, aI y, aI n] [] (mk h T) Q := by
    intro k
    induction k with
    | zero =>
      intro n hn _
      exact ⟨-1, fun P p => g_Af_often_24 (ct (by omega) p), fun h Q q => g_Mo_often_24 (cf (by omega) (q h (sm_r _ _)))⟩
    | succ k ih =>
      intro n hn hk
      obtain ⟨f1, _⟩ := odd_f (e := x) (n := n) (by omega) (by omega) (by omega) (by omega) (by omega)
      obtain ⟨r, r1, r2⟩ := ih (n + 2) (by omega) (by omega)
      by_cases c : w64 ((RO x n (n + 1)).1 * 100) < w64 (PWr 10 n * y)
      · refine ⟨r, fun P p => g_Af_often_24 (cf (by omega) (c_rightOnes (by omega) (by omega) (by omega) (by omega) (g_Af_often_35 (c_power (by omega) (by omega) (g_Af_often_45 (ct (by rw [cl_lt]; exact c) ?_)))))), fun h Q q => g_Mo_often_24 (ct (by omega) (r_rightWays (by omega) (by omega) (by omega) (by omega) (fun s hs => g_Mo_often_36 (r_tenTo (by omega) (by omega) (g_Mo_often_46 (ct ?_ ?_))))))⟩
        · rw [w32_id (x := n + 2) (by omega) (by omega)]; exact r1 P p
        · rw [cl_lt, f1, Int.mul_comm y]; exact c
        · rw [w32_id (x := n + 2) (by omega) (by omega)]; exact r2 s Q (fun s' hs' => q s' (sm_t hs hs'))
      · refine ⟨n, fun P p => g_Af_often_24 (cf (by omega) (c_rightOnes (by omega) (by omega) (by omega) (by omega) (g_Af_often_35 (c_power (by omega) (by omega) (g_Af_often_45 (cf (by rw [cl_lt]; exact c) p)))))), fun h Q q => g_Mo_often_24 (ct (by omega) (r_rightWays (by omega) (by omega) (by omega) (by omega) (fun s hs => g_Mo_often_36 (r_tenTo (by omega) (by omega) (g_Mo_often_46 (cf ?_ (q s hs)))))))⟩
        rw [cl_lt, f1, Int.mul_comm y]; exact c
  obtain ⟨r, r1, r2⟩ := key 8 1 (by omega) (by omega)
  refine r1 _ (lf_s (sm_r [] g) (by simp) (fun h hr Q q => g_Mo_often_0 ?_))
  exact cf c1 (cf c2 (cf c3 (cf c4 (r2 h Q (fun s hs => q s (rsc_s hs (by decide)))))))
/-- a call that answers a long -/
def Op64 (D cm : Nat) (ca : List AV) (rm : Nat) (ra : List AV) (g : Sg) (T : TT) (tx : Int → TA) (B : Int) : Prop :=
  (∃ h, Rl g h T tx B) → ∃ (r : Int) (g' : Sg), (∀ Q : Int → AM → Prop, Q r (mk g' T) → wpL D cm 0 ca [] (mk g T) Q) ∧ Cls g g' ∧ ∀ h, Rl g h T tx B → ∀ Q : Int → AM → Prop, (∀ h', Rfo h h' → Rl g' h' T tx (B + 600) → Q r (mk h' T)) → wpL D rm 0 ra [] (mk h T) Q
theorem o_odds {e : Nat} {g : Sg} {T : TT} {tx : Int → TA} {B x y z : Int} : Op64 (e + 60) 46 [aR 2, aI x, aI y, aI z, aU, aU, aU, aU, aU, aU] 299 [aR 70, aI x, aI y, aI z, aU, aU, aU, aU] g T tx B := by
  rintro ⟨h0, hr0⟩
  have fin : ∀ (h h' : Sg), Rl g h T tx B → Sm [89] h h' → Rl g h' T tx (B + 600) := by
    intro h h' hr hs
    exact rl_B (by omega) (rl_c hr (fun _ _ => rfl) (fun a _ _ => hs a (by simp; omega)) (fun i _ _ => by rw [hs 70 (by decide)]))
  by_cases ok : 0 ≤ x ∧ x ≤ 10 ∧ 1 ≤ y ∧ y ≤ 15 ∧ y % 2 = 1
  · obtain ⟨k1, k2, k3, k4, k5⟩ := ok
    obtain ⟨f1, f2, f3, f4, f5⟩ := odd_f (e := x) (n := y) k1 k2 k3 k4 k5
    refine ⟨w64 (Int.tdiv (if z = 0 then (RO x y (y + 1)).1 else PWr 10 y) (GD 60 (PWr 10 y) (RO x y (y + 1)).1)), g, fun Q q => ?_, cls_r g, fun h hr Q q => ?_⟩
    · refine g_Af_odds_0 ?_
      rw [Int.tmod_eq_emod_of_nonneg (by omega)]
      refine cf (by omega) (cf (by omega) (cf (by omega) (cf (by omega) (cf (by omega) (c_rightOnes k1 k2 (by omega) k4 (g_Af_odds_35 (c_power (by omega) k4 (g_Af_odds_43 (g_Af_commonDivisor_0 (c_common 60 _ _ 0 _ _ (by omega) (by omega) f2 (g_Af_odds_52 (cf (by rw [cl_lt]; omega) (ci (fun c => cf (by omega) ?_) (fun c => cf (by omega) ?_))))))))))))))
      · rw [if_pos c] at q; exact q
      · rw [if_neg c] at q; exact q
    · refine g_Mo_odds_0 ?_
      rw [Int.tmod_eq_emod_of_nonneg (by omega)]
      refine cf (by omega) (cf (by omega) (cf (by omega) (cf (by omega) (ct k5 (r_rightWays k1 k2 (by omega) k4 (fun s hs => g_Mo_odds_27 (r_tenTo (by omega) k4 (g_Mo_odds_33 ?_))))))))
      rw [f1]
      have q := q s (fun a ha => hs a (by simp; omega)) (fin h s hr hs)
      refine ci (fun c => g_Mo_common_0 (r_common 60 _ _ _ _ f3 (g_Mo_odds_53 (cf (by omega) ?_)))) (fun c => g_Mo_common_0 (r_common 60 _ _ _ _ f3 (g_Mo_odds_53 (cf (by omega) ?_))))
      · rw [if_pos c, f4] at q; exact q
      · rw [if_neg c, f4] at q; exact q
  · refine ⟨-1, g, fun Q q => g_Af_odds_0 ?_, cls_r g, fun h hr Q q => g_Mo_odds_0 ?_⟩
    · refine ci (fun _ => q) (fun _ => ci (fun _ => q) (fun _ => ci (fun _ => q) (fun _ => ci (fun _ => q) (fun _ => ?_))))
      rw [Int.tmod_eq_emod_of_nonneg (by omega)]
      exact ct (by omega) q
    · have q := q h (rfo_r h) (rl_B (by omega) hr)
      refine ci (fun _ => q) (fun _ => ci (fun _ => q) (fun _ => ci (fun _ => q) (fun _ => ci (fun _ => q) (fun _ => ?_))))
      rw [Int.tmod_eq_emod_of_nonneg (by omega)]
      exact cf (by omega) q
end
