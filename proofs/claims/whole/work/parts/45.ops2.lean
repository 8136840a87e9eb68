noncomputable section
/-! more calls that tell, and short ones -/
def Lf (D rm : Nat) (ra : List AV) (g : Sg) (T : TT) (tx : Int → TA) (B : Int) (r : Int) (M' : AM) : Prop := ∃ g', M' = mk g' T ∧ Cls g g' ∧ ∀ h, Rl g h T tx B → ∀ Q : Int → AM → Prop, (∀ h', Rfo h h' → Rl g' h' T tx (B + 24) → Q r (mk h' T)) → wpI D rm 0 ra [] (mk h T) Q
theorem op_l {D cm : Nat} {ca : List AV} {rm : Nat} {ra : List AV} {g : Sg} {T : TT} {tx : Int → TA} {B : Int} (k : ∀ h, Rl g h T tx B → wpI D cm 0 ca [] (mk g T) (Lf D rm ra g T tx B)) : Op D cm ca rm ra g T tx B := op_i k
theorem lf_n {D rm : Nat} {ra : List AV} {g : Sg} {T : TT} {tx : Int → TA} {B r : Int} (k : ∀ h, Rl g h T tx B → ∀ Q : Int → AM → Prop, Q r (mk h T) → wpI D rm 0 ra [] (mk h T) Q) : Lf D rm ra g T tx B r (mk g T) := ⟨g, rfl, cls_r g, fun h hr Q q => k h hr Q (q h (rfo_r h) (rl_B (by omega) hr))⟩
theorem lf_c {D rm : Nat} {ra : List AV} {g g' : Sg} {T : TT} {tx : Int → TA} {B r : Int} (hc : Cls g g') (k : ∀ h, Rl g h T tx B → ∀ Q : Int → AM → Prop, (∀ h', Rfo h h' → Rl g' h' T tx (B + 24) → Q r (mk h' T)) → wpI D rm 0 ra [] (mk h T) Q) : Lf D rm ra g T tx B r (mk g' T) := ⟨g', rfl, hc, k⟩
theorem setof {x n : Int} (x0 : 0 ≤ x) (n0 : 0 ≤ n) (n1 : n ≤ 24) : (sR x n = 0) ↔ ¬ (w32 (sL 1 n - 1) < x) := by
  have hp := pow31 (k := n.toNat) (by omega)
  rw [sR_n n0 (by omega), sL_n n0 (by omega), w32_id (by omega) (by omega)]
  generalize hk : ((2 ^ n.toNat : Nat) : Int) = K at *
  have hK : 0 < K := by omega
  constructor
  · intro h q
    have : 1 ≤ x / K := (Int.le_ediv_iff_mul_le hK).mpr (by omega)
    omega
  · intro h
    exact Int.ediv_eq_zero_of_lt x0 (by omega)
theorem setlt {x n : Int} {N : Nat} (h : ¬ (w32 (sL 1 n - 1) < x)) (n0 : 0 ≤ n) (n1 : n ≤ N) (hN : N ≤ 24) : x < ((2 ^ N : Nat) : Int) := by
  have hp := pow31 (k := n.toNat) (by omega)
  have hq : 2 ^ n.toNat ≤ 2 ^ N := Nat.pow_le_pow_right (by omega) (by omega)
  rw [sL_n n0 (by omega), w32_id (by omega) (by omega)] at h
  omega
/-- one place of the told rows and one of the reference's -/
theorem o_witness {e : Nat} {g : Sg} {T : TT} {tx : Int → TA} {B x y : Int} : Op (e + 60) 5 [aR 2, aI x, aI y] 179 [aR 70, aI x, aI y] g T tx B := by
  refine op_l (fun h hr => ?_)
  have hn := hr.1.1.1.1
  have hd := hr.1.1.1.2.1
  have no : (x < 0 ∨ g 3 2 ≤ x ∨ y < 0 ∨ w32 (sL 1 (g 3 0) - 1) < y) → Lf (e + 60) 179 [aR 70, aI x, aI y] g T tx B 0 (mk g T) := by
    intro hx
    refine lf_n (fun h hr Q q => ?_)
    refine g_Mo_witness_0 ?_
    rw [hr.1.1.1.1.2.2, hr.1.1.1.2.1.2.2, w32_id (x := g 3 2 - 1) (by omega) (by omega)]
    refine ci (fun _ => q) (fun _ => ci (fun _ => q) (fun _ => ci (fun _ => q) (fun _ => ct (by omega) q)))
  refine g_Af_witness_0 ?_
  refine ci (fun c => no (by omega)) (fun c1 => ci (fun c2 => ci (fun c => no (by omega)) (fun c3 => ci (fun c4 => ct (by omega) ?_) (fun c4 => no ?_))) (fun c => no (by omega)))
  · rw [setof (by omega) hn.1 (by omega)] at c4
    refine lf_c (cls_u (cls_r g) (by omega) (by omega)) (fun h hr Q q => ?_)
    refine g_Mo_witness_0 ?_
    rw [hr.1.1.1.1.2.2, hr.1.1.1.2.1.2.2, w32_id (x := g 3 2 - 1) (by omega) (by omega), w32_id (x := 6 * x) (by omega) (by omega), w32_id (x := 90 + 6 * x) (by omega) (by omega), w32_id (x := 90 + 6 * x + 5) (by omega) (by omega)]
    refine cf c1 (cf (by omega) (cf c3 (cf c4 (ct (by omega) (q _ (rfo_u (rfo_r h) (by omega) (by omega)) ?_)))))
    have hy := setlt (N := 6) c4 hn.1 (by omega) (by omega)
    have hy : y < 64 := hy
    refine rl_told hr ?_ (by rw [up_c (by decide)]) (by rw [up_c (by decide)]) (up_c (by decide)) (fun a ha => up_c (by omega)) (fun a ha => up_c ha) (fun i hi => up_i (by omega))
    obtain ⟨⟨b1, b2, b3, b4, b5, b6, b7, b8⟩, b9, b10, b11, b12, b13⟩ := hr.1.1
    have ea : ∀ i, i ≠ 90 + 6 * x + 5 → up h 71 (90 + 6 * x + 5) y 71 i = h 71 i := fun i hi => up_i hi
    unfold TO
    simp only [up_c (show (3 : Int) ≠ 10 by decide), up_c (show (4 : Int) ≠ 10 by decide), up_c (show (5 : Int) ≠ 10 by decide), up_c (show (6 : Int) ≠ 10 by decide), up_c (show (7 : Int) ≠ 10 by decide), up_c (show (8 : Int) ≠ 10 by decide), up_c (show (9 : Int) ≠ 10 by decide), up_c (show (11 : Int) ≠ 10 by decide), up_c (show (12 : Int) ≠ 10 by decide), up_c (show (14 : Int) ≠ 10 by decide), up_c (show (15 : Int) ≠ 10 by decide)]
    rw [ea 0 (by omega), ea 1 (by omega), ea 2 (by omega), ea 3 (by omega), ea 6 (by omega), ea 7 (by omega), ea 9 (by omega), ea 10 (by omega)]
    refine ⟨⟨b1, b2, b3, b4, b5, b6, b7, b8⟩, ?_, ?_, ?_, ?_, ?_⟩
    · intro i i0 i1; rw [ea _ (by omega)]; exact b9 i i0 i1
    · intro d d0 d1
      have := b10 d d0 d1
      rw [ea (90 + 6 * d + 0) (by omega), ea (90 + 6 * d + 1) (by omega), ea (90 + 6 * d + 2) (by omega), ea (90 + 6 * d + 3) (by omega), ea (90 + 6 * d + 4) (by omega), up_e]
      refine ⟨this.1, this.2.1, this.2.2.1, this.2.2.2.1, this.2.2.2.2.1, ?_⟩
      by_cases q : d = x
      · rw [if_pos q, q, up_s]; omega
      · rw [if_neg q, ea _ (by omega)]; exact this.2.2.2.2.2
    · intro i i0 i1; rw [ea _ (by omega)]; exact b11 i i0 i1
    · intro i i0 i1; rw [ea _ (by omega)]; exact b12 i i0 i1
    · intro i i0 i1; rw [ea _ (by omega), ea _ (by omega)]; exact b13 i i0 i1
  · rw [setof (by omega) hn.1 (by omega)] at c4
    omega
theorem o_judge {e : Nat} {g : Sg} {T : TT} {tx : Int → TA} {B x : Int} : Op (e + 60) 7 [aR 2, aI x] 182 [aR 70, aI x] g T tx B := by
  refine op_l (fun h hr => ?_)
  have hj := hr.1.1.1.2.2.1
  have no : (x < 1 ∨ 1023 < x ∨ g 3 9 = 8) → Lf (e + 60) 182 [aR 70, aI x] g T tx B (-1) (mk g T) := by
    intro hx
    refine lf_n (fun h hr Q q => ?_)
    refine g_Mo_judge_0 ?_
    rw [hr.1.1.1.2.2.1.2.2]
    refine ci (fun _ => q) (fun _ => ci (fun _ => q) (fun _ => ct (by omega) q))
  refine g_Af_judge_0 ?_
  rw [w32_id (x := g 3 9 + 1) (by omega) (by omega), w32_id (x := g 3 9 + 1 - 1) (by omega) (by omega), show g 3 9 + 1 - 1 = g 3 9 from by omega]
  refine ci (fun c => no (by omega)) (fun c1 => ci (fun c => no (by omega)) (fun c2 => ci (fun c3 => ct (by omega) ?_) (fun c => no (by omega))))
  refine lf_c (cls_u (cls_u (cls_r g) (by omega) (by omega)) (by omega) (by omega)) (fun h hr Q q => ?_)
  refine g_Mo_judge_0 ?_
  rw [hr.1.1.1.2.2.1.2.2, w32_id (x := 234 + g 3 9) (by omega) (by omega), up_i (σ := h) (a := 71) (i := 234 + g 3 9) (i' := 2) (by omega), hr.1.1.1.2.2.1.2.2, w32_id (x := g 3 9 + 1) (by omega) (by omega), w32_id (x := g 3 9 + 1 - 1) (by omega) (by omega), show g 3 9 + 1 - 1 = g 3 9 from by omega]
  refine cf c1 (cf c2 (cf (by omega) (ct (by omega) (q _ (rfo_u (rfo_u (rfo_r h) (by omega) (by omega)) (by omega) (by omega)) ?_))))
  refine rl_told hr ?_ (by rw [up_i (by decide), up_c (by decide)]) (by rw [up_i (by decide), up_c (by decide)]) (by rw [up_c (by decide), up_c (by decide)]) (fun a ha => by rw [up_c (by omega), up_c (by omega)]) (fun a ha => by rw [up_c ha, up_c ha]) (fun i hi => by rw [up_i (by omega), up_i (by omega)])
  obtain ⟨⟨b1, b2, b3, b4, b5, b6, b7, b8⟩, b9, b10, b11, b12, b13⟩ := hr.1.1
  have ea : ∀ i, i ≠ 234 + g 3 9 → i ≠ 2 → up (up h 71 (234 + g 3 9) x) 71 2 (g 3 9 + 1) 71 i = h 71 i := fun i h1 h2 => by rw [up_i h2, up_i h1]
  have e1 : up (up h 71 (234 + g 3 9) x) 71 2 (g 3 9 + 1) 71 2 = g 3 9 + 1 := up_s _ _ _ _
  have e2 : up (up h 71 (234 + g 3 9) x) 71 2 (g 3 9 + 1) 71 (234 + g 3 9) = x := by rw [up_i (by omega), up_s]
  generalize up (up h 71 (234 + g 3 9) x) 71 2 (g 3 9 + 1) = h' at *
  unfold TO
  simp only [up, if_true, if_false, true_and, false_and, Int.reduceEq, and_true]
  rw [ea 0 (by omega) (by omega), ea 1 (by omega) (by omega), e1, ea 3 (by omega) (by omega), ea 6 (by omega) (by omega), ea 7 (by omega) (by omega), ea 9 (by omega) (by omega), ea 10 (by omega) (by omega)]
  refine ⟨⟨b1, b2, by omega, b4, b5, b6, b7, b8⟩, ?_, ?_, ?_, ?_, ?_⟩
  · intro i i0 i1; rw [ea _ (by omega) (by omega)]; exact b9 i i0 i1
  · intro d d0 d1
    rw [ea (90 + 6 * d + 0) (by omega) (by omega), ea (90 + 6 * d + 1) (by omega) (by omega), ea (90 + 6 * d + 2) (by omega) (by omega), ea (90 + 6 * d + 3) (by omega) (by omega), ea (90 + 6 * d + 4) (by omega) (by omega), ea (90 + 6 * d + 5) (by omega) (by omega)]
    exact b10 d d0 d1
  · intro i i0 i1
    by_cases q : i = g 3 9
    · rw [if_pos q, q, e2]; omega
    · rw [if_neg q, ea _ (by omega) (by omega)]; exact b11 i i0 (by omega)
  · intro i i0 i1; rw [ea _ (by omega) (by omega)]; exact b12 i i0 i1
  · intro i i0 i1; rw [ea _ (by omega) (by omega), ea _ (by omega) (by omega)]; exact b13 i i0 i1
/-- one number of Told -/
theorem rl_3 {g h : Sg} {T : TT} {tx : Int → TA} {B i k v : Int} (hr : Rl g h T tx B) (hik : (i = 11 ∧ k = 3 ∧ 0 ≤ v ∧ v ≤ 99) ∨ (i = 15 ∧ k = 7 ∧ -1 ≤ v ∧ v < g 3 13) ∨ (i = 16 ∧ k = 9 ∧ v = 0) ∨ (i = 19 ∧ k = 10 ∧ 0 ≤ v ∧ v < 64)) : Rl (up g 3 i v) (up h 71 k v) T tx (B + 24) := by
  refine rl_told hr ?_ (by rw [up_i (by omega)]) (by rw [up_i (by omega)]) (up_c (by decide)) (fun a ha => up_c (by omega)) (fun a ha => up_c ha) (fun j hj => up_i (by omega))
  obtain ⟨⟨b1, b2, b3, b4, b5, b6, b7, b8⟩, b9, b10, b11, b12, b13⟩ := hr.1.1
  have ea : ∀ j, j ≠ k → up h 71 k v 71 j = h 71 j := fun j hj => up_i hj
  have e3 : ∀ j, j ≠ i → up g 3 i v 3 j = g 3 j := fun j hj => up_i hj
  have es : up g 3 i v 3 i = v := up_s _ _ _ _
  have ek : up h 71 k v 71 k = v := up_s _ _ _ _
  rw [up_c (show (4 : Int) ≠ 3 by decide), up_c (show (5 : Int) ≠ 3 by decide), up_c (show (6 : Int) ≠ 3 by decide), up_c (show (7 : Int) ≠ 3 by decide), up_c (show (8 : Int) ≠ 3 by decide), up_c (show (9 : Int) ≠ 3 by decide), up_c (show (10 : Int) ≠ 3 by decide), up_c (show (11 : Int) ≠ 3 by decide), up_c (show (12 : Int) ≠ 3 by decide), up_c (show (14 : Int) ≠ 3 by decide), up_c (show (15 : Int) ≠ 3 by decide)]
  generalize up g 3 i v = g' at *
  generalize up h 71 k v = h' at *
  have f0 : g' 3 0 = g 3 0 := e3 0 (by omega)
  have f2 : g' 3 2 = g 3 2 := e3 2 (by omega)
  have f9 : g' 3 9 = g 3 9 := e3 9 (by omega)
  refine ⟨⟨?_, ?_, ?_, ?_, ?_, ?_, ?_, ?_⟩, ?_, ?_, ?_, ?_, ?_⟩
  · rw [f0, ea 0 (by omega)]; exact b1
  · rw [f2, ea 1 (by omega)]; exact b2
  · rw [f9, ea 2 (by omega)]; exact b3
  · rcases hik with ⟨q1, q2, q3, q4⟩ | q
    · subst q1 q2; rw [es, ek]; omega
    · rw [e3 11 (by omega), ea 3 (by omega)]; exact b4
  · rw [e3 13 (by omega), ea 6 (by omega)]; exact b5
  · rw [e3 13 (by omega)]
    by_cases q : i = 15
    · have q2 : k = 7 := by omega
      subst q q2; rw [es, ek]; omega
    · rw [e3 15 (by omega), ea 7 (by omega)]; exact b6
  · by_cases q : i = 16
    · have q2 : k = 9 := by omega
      subst q q2; rw [es, ek]; omega
    · rw [e3 16 (by omega), ea 9 (by omega)]; exact b7
  · by_cases q : i = 19
    · have q2 : k = 10 := by omega
      subst q q2; rw [es, ek]; omega
    · rw [e3 19 (by omega), ea 10 (by omega)]; exact b8
  · rw [f0]; intro j j0 j1; rw [ea _ (by omega)]; exact b9 j j0 j1
  · rw [f0, f2]; intro d d0 d1
    rw [ea (90 + 6 * d + 0) (by omega), ea (90 + 6 * d + 1) (by omega), ea (90 + 6 * d + 2) (by omega), ea (90 + 6 * d + 3) (by omega), ea (90 + 6 * d + 4) (by omega), ea (90 + 6 * d + 5) (by omega)]
    exact b10 d d0 d1
  · rw [f9]; intro j j0 j1; rw [ea _ (by omega)]; exact b11 j j0 j1
  · intro j j0 j1; rw [ea _ (by omega)]; exact b12 j j0 j1
  · rw [f0]; intro j j0 j1
    have j1 : j < g 3 16 := by
      by_cases q : i = 16
      · subst q; rw [es] at j1; omega
      · rw [e3 16 (by omega)] at j1; exact j1
    rw [ea _ (by omega), ea _ (by omega)]; exact b13 j j0 j1
theorem o_stick {e : Nat} {g : Sg} {T : TT} {tx : Int → TA} {B x : Int} : Op (e + 60) 8 [aR 2, aI x] 183 [aR 70, aI x] g T tx B := by
  refine op_l (fun h hr => ?_)
  refine g_Af_stick_0 (ci (fun c => ?_) (fun c1 => ci (fun c => ?_) (fun c2 => ?_)))
  · exact lf_n (fun h hr Q q => g_Mo_stick_0 (ct c q))
  · exact lf_n (fun h hr Q q => g_Mo_stick_0 (cf c1 (ct c q)))
  · exact lf_c (cls_u (cls_r g) (by omega) (by omega)) (fun h hr Q q => g_Mo_stick_0 (cf c1 (cf c2 (q _ (rfo_u (rfo_r h) (by omega) (by omega)) (rl_3 hr (by omega))))))
theorem o_should {e : Nat} {g : Sg} {T : TT} {tx : Int → TA} {B x : Int} : Op (e + 60) 43 [aR 2, aI x] 297 [aR 70, aI x] g T tx B := by
  refine op_l (fun h hr => ?_)
  have hn := hr.1.1.1.1
  refine g_Af_should_0 (ci (fun c => ?_) (fun c1 => ci (fun c => ?_) (fun c2 => ?_)))
  · exact lf_n (fun h hr Q q => g_Mo_should_0 (ct c q))
  · rw [setof (by omega) hn.1 (by omega)] at c
    refine lf_c (cls_u (cls_r g) (by omega) (by omega)) (fun h hr Q q => g_Mo_should_0 ?_)
    rw [hr.1.1.1.1.2.2]
    have hy := setlt (N := 6) c hn.1 (by omega) (by omega)
    have hy : x < 64 := hy
    exact cf c1 (cf c (q _ (rfo_u (rfo_r h) (by omega) (by omega)) (rl_3 hr (by omega))))
  · rw [setof (by omega) hn.1 (by omega)] at c2
    refine lf_n (fun h hr Q q => g_Mo_should_0 ?_)
    rw [hr.1.1.1.1.2.2]
    exact cf c1 (ct (by omega) q)
theorem o_by {e : Nat} {g : Sg} {T : TT} {tx : Int → TA} {B x : Int} : Op (e + 60) 15 [aR 2, aI x] 223 [aR 70, aI x] g T tx B := by
  refine op_l (fun h hr => ?_)
  have ht := hr.1.1.1.2.2.2.2.1
  have yes : (-1 ≤ x ∧ x < g 3 13) → Lf (e + 60) 223 [aR 70, aI x] g T tx B 1 (mk (up g 3 15 x) T) := by
    intro hx
    refine lf_c (cls_u (cls_r g) (by omega) (by omega)) (fun h hr Q q => g_Mo_by_0 ?_)
    rw [hr.1.1.1.2.2.2.2.1.2.2, w32_id (x := g 3 13 - 1) (by omega) (by omega)]
    exact cf (by omega) (cf (by omega) (q _ (rfo_u (rfo_r h) (by omega) (by omega)) (rl_3 hr (by omega))))
  have no : (x < -1 ∨ g 3 13 ≤ x) → Lf (e + 60) 223 [aR 70, aI x] g T tx B 0 (mk g T) := by
    intro hx
    refine lf_n (fun h hr Q q => g_Mo_by_0 ?_)
    rw [hr.1.1.1.2.2.2.2.1.2.2, w32_id (x := g 3 13 - 1) (by omega) (by omega)]
    exact ci (fun _ => q) (fun _ => ct (by omega) q)
  refine g_Af_by_0 (ci (fun c => yes (by omega)) (fun c1 => ci (fun c => no (by omega)) (fun c2 => ci (fun c3 => ct (by omega) ?_) (fun c => no (by omega)))))
  rcases tx_l hr.1 (by omega) c3 with ⟨r0, _⟩ | ⟨r0, _⟩
  · have := (tc_sh (hr.1.2 x (by omega) c3).1).1
    omega
  · exact cf r0 (yes (by omega))
theorem o_end {e : Nat} {g : Sg} {T : TT} {tx : Int → TA} {B x : Int} : Op (e + 60) 12 [aR 2, aI x] 187 [aR 70, aI x] g T tx B := by
  refine op_l (fun h hr => ?_)
  refine g_Af_end_0 (ci (fun c => ?_) (fun c1 => ci (fun c => ?_) (fun c2 => ?_)))
  · exact lf_n (fun h hr Q q => g_Mo_end_0 (ct c q))
  · refine lf_n (fun h hr Q q => g_Mo_end_0 (cf c1 ?_))
    rw [hr.2.1.1]; exact ct c q
  · refine lf_c (cls_u (cls_r g) (by omega) (by omega)) (fun h hr Q q => g_Mo_end_0 (cf c1 ?_))
    rw [hr.2.1.1]
    refine cf c2 (q _ (rfo_u (rfo_r h) (by omega) (by omega)) ?_)
    obtain ⟨q1, q2, q3, q4, q5, q6⟩ := rl_B (show B ≤ B + 24 by omega) hr
    refine ⟨td_c q1 (fun a ha => up_c (by omega)) (up_c (by decide)) (up_c (by decide)), ?_, ?_, ?_, ?_, ?_⟩
    · refine ⟨by rw [up_s, up_s], by rw [up_s]; omega, by rw [up_s]; have := q2.2.2.1; omega, ?_⟩
      rw [up_s, up_c (by decide), up_c (by decide)]
      intro i i0 i1; exact q2.2.2.2 i i0 (by omega)
    · rw [up_i (by decide), up_i (by decide), up_i (by decide), up_i (by decide)]; exact q3
    · rw [up_c (by decide), up_c (by decide), up_c (by decide), up_c (by decide), up_c (by decide)]; exact q4
    · rw [up_c (by decide), up_c (by decide), up_c (by decide), up_c (by decide)]; exact q5
    · exact im_c q6 (fun a h1 h2 => up_c (by omega)) (by rw [up_c (by decide)]) (fun t _ _ => by rw [up_c (by decide)]) (up_c (by decide))
theorem o_fault {e : Nat} {g : Sg} {T : TT} {tx : Int → TA} {B x : Int} : Op (e + 60) 14 [aR 2, aI x] 222 [aR 70, aI x] g T tx B := by
  refine op_l (fun h hr => ?_)
  refine g_Af_fault_0 (ci (fun c => ?_) (fun c1 => ci (fun c => ?_) (fun c2 => ?_)))
  · exact lf_n (fun h hr Q q => g_Mo_fault_0 (ct c (by rw [hr.2.2.1.1]; exact q)))
  · exact lf_n (fun h hr Q q => g_Mo_fault_0 (cf c1 (ct c (by rw [hr.2.2.1.2]; exact q))))
  · exact lf_n (fun h hr Q q => g_Mo_fault_0 (cf c1 (cf c2 q)))
end
