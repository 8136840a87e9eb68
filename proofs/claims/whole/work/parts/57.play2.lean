noncomputable section
theorem play1 {e : Nat} {g : Sg} {T : TT} {tx : Int → TA} {B rr t i : Int} {A : TA} (hB : B ≤ 1000000) (hTC : TC g T rr A) (hA : tx t = A) (t0 : 0 ≤ t) (t1 : t < g 3 13) (i0 : 0 ≤ i) (i1 : i < A.2.1) (hex : ∃ h, Rl g h T tx B) : ∃ (r : Int) (g' : Sg), (∀ Q : Int → AM → Prop, Q r (mk g' T) → wpI (e + 61) 22 0 [aR 2, aR rr, aI i, aU, aU, aU] [] (mk g T) Q) ∧ Cls g g' ∧ g' 3 13 = g 3 13 ∧ ∀ h, Rl g h T tx B → ∀ Q : Int → AM → Prop, (∀ h', Rfo h h' → Rl g' h' T tx (B + 24) → Q r (mk h' T)) → wpI (e + 61) 253 0 [aR 70, aI (753 * t + 1 + 6 * i), aU] [] (mk h T) Q := by
  have hkd := (tc_sh hTC).2.1
  have pre : ∀ Q : Int → AM → Prop, wpI (e + 61) 22 29 [aR 2, aR rr, aI i, aI (A.2.2 i 1), aI (A.2.2 i 2), aI (A.2.2 i 3)] [aI (A.2.2 i 0)] (mk g T) Q → wpI (e + 61) 22 0 [aR 2, aR rr, aI i, aU, aU, aU] [] (mk g T) Q := by
    intro Q q
    refine g_Af_isDone_0 (cbt (by rw [hkd]; rfl) (c_part hTC i0 i1 (by omega) (by omega) ?_))
    refine g_Af_isDone_6 (cbt (by rw [hkd]; rfl) (c_part hTC i0 i1 (by omega) (by omega) ?_))
    refine g_Af_isDone_13 (cbt (by rw [hkd]; rfl) (c_part hTC i0 i1 (by omega) (by omega) ?_))
    exact g_Af_isDone_21 (cbt (by rw [hkd]; rfl) (c_part hTC i0 i1 (by omega) (by omega) q))
  obtain ⟨h0, hr0⟩ := hex
  have h13 := hr0.1.1.1.2.2.2.2.1
  have rf : ∀ h, Rl g h T tx B → TRf (h 73) t A := fun h hr => hA ▸ (hr.1.2 t t0 t1).2.1
  have hs := (rf h0 hr0).2.2.2.1 i i0 i1
  have hn24 := (rf h0 hr0).2.2.1
  have px : ∀ (h : Sg) (w : Int), Rl g h T tx B → 1 ≤ w → w ≤ npt (A.2.2 i 0) → h 73 (753 * t + 1 + 6 * i + w) = A.2.2 i w := fun h w hr w0 w1 => ((rf h hr).2.2.2.1 i i0 i1).2.2.2 w w0 w1
  have p0 : ∀ h, Rl g h T tx B → h 73 (753 * t + 1 + 6 * i) = A.2.2 i 0 := fun h hr => ((rf h hr).2.2.2.1 i i0 i1).1
  rcases (by omega : A.2.2 i 0 ≤ 3 ∨ A.2.2 i 0 = 4 ∨ A.2.2 i 0 = 5 ∨ A.2.2 i 0 = 6 ∨ A.2.2 i 0 = 7 ∨ A.2.2 i 0 = 8 ∨ A.2.2 i 0 = 9 ∨ A.2.2 i 0 = 10 ∨ A.2.2 i 0 = 11 ∨ A.2.2 i 0 = 12) with c | c | c | c | c | c | c | c | c | c
  · refine ⟨1, g, fun Q q => pre Q (g_Af_isDone_29 ?_), cls_r g, rfl, fun h hr Q q => g_Mo_isPlayed_0 ?_⟩
    · exact cf (by omega) (cf (by omega) (cf (by omega) (cf (by omega) (cf (by omega) (cf (by omega) (cf (by omega) (cf (by omega) (cf (by omega) q))))))))
    · rw [w32_id (x := 753 * t + 1 + 6 * i + 1) (by omega) (by omega), p0 h hr]
      exact ct (by omega) (ct (by omega) (cf (by omega) (cf (by omega) (cf (by omega) (cf (by omega) (cf (by omega) (cf (by omega) (cf (by omega) (cf (by omega) (cf (by omega) (q h (rfo_r h) (rl_B (by omega) hr))))))))))))
  · obtain ⟨r, g', q1, q2, q3, q4⟩ := op_r (o_heart (e := e) (x := A.2.2 i 1)) (fun h hr => s_heart hr) ⟨h0, hr0⟩
    have hr' : -1 ≤ r := q3.1
    refine ⟨if r = -1 then 0 else 1, g', fun Q q => pre Q (g_Af_isDone_29 (ct c (q1 _ (g_Af_isDone_85 (ci (fun c' => ?_) (fun c' => ?_)))))), q2, q3.2, fun h hr Q q => g_Mo_isPlayed_0 ?_⟩
    · rw [if_pos c'] at q; exact q
    · rw [if_neg c'] at q; exact q
    · rw [w32_id (x := 753 * t + 1 + 6 * i + 1) (by omega) (by omega), p0 h hr, px h 1 hr (by omega) (by rw [c]; decide)]
      refine ct (by omega) (ct (by omega) (ct c (q4 h hr _ (fun h' b1 b2 => g_Mo_isPlayed_69 (ci (fun c' => ?_) (fun c' => ?_))))))
      · have q := q h' b1 b2; rw [if_pos (by omega)] at q; exact q
      · have q := q h' b1 b2; rw [if_neg (by omega)] at q; exact q
  · obtain ⟨r, g', q1, q2, q3, q4⟩ := op_r (o_deed (e := e) (x1 := A.2.2 i 3) (x2 := A.2.2 i 1) (x3 := A.2.2 i 2) (x4 := A.2.2 i 4) (x5 := -1)) (fun h hr => s_deed hr) ⟨h0, hr0⟩
    have hr' : -1 ≤ r := q3.1
    refine ⟨if r = -1 then 0 else 1, g', fun Q q => pre Q (g_Af_isDone_29 (cf (by omega) (ct c (cbt (by rw [hkd]; rfl) (c_part hTC i0 i1 (by omega) (by omega) (g_Af_isDone_107 (q1 _ (g_Af_isDone_111 (ci (fun c' => ?_) (fun c' => ?_)))))))))), q2, q3.2, fun h hr Q q => g_Mo_isPlayed_0 ?_⟩
    · rw [if_pos c'] at q; exact q
    · rw [if_neg c'] at q; exact q
    · rw [w32_id (x := 753 * t + 1 + 6 * i + 1) (by omega) (by omega), w32_id (x := 753 * t + 1 + 6 * i + 2) (by omega) (by omega), w32_id (x := 753 * t + 1 + 6 * i + 3) (by omega) (by omega), w32_id (x := 753 * t + 1 + 6 * i + 4) (by omega) (by omega), p0 h hr, px h 1 hr (by omega) (by rw [c]; decide), px h 2 hr (by omega) (by rw [c]; decide), px h 3 hr (by omega) (by rw [c]; decide), px h 4 hr (by omega) (by rw [c]; decide)]
      refine ct (by omega) (ct (by omega) (cf (by omega) (ct c (ct (by omega) (ct (by omega) (ct (by omega) (q4 h hr _ (fun h' b1 b2 => g_Mo_isPlayed_108 (ci (fun c' => ?_) (fun c' => ?_))))))))))
      · have q := q h' b1 b2; rw [if_pos (by omega)] at q; exact q
      · have q := q h' b1 b2; rw [if_neg (by omega)] at q; exact q
  · obtain ⟨r, g', q1, q2, q3, q4⟩ := op_r (o_judge (e := e) (x := A.2.2 i 1)) (fun h hr => s_judge hr) ⟨h0, hr0⟩
    have hr' : -1 ≤ r := q3.1
    refine ⟨if r = -1 then 0 else 1, g', fun Q q => pre Q (g_Af_isDone_29 (cf (by omega) (cf (by omega) (ct c (q1 _ (g_Af_isDone_126 (ci (fun c' => ?_) (fun c' => ?_)))))))), q2, q3.2, fun h hr Q q => g_Mo_isPlayed_0 ?_⟩
    · rw [if_pos c'] at q; exact q
    · rw [if_neg c'] at q; exact q
    · rw [w32_id (x := 753 * t + 1 + 6 * i + 1) (by omega) (by omega), p0 h hr, px h 1 hr (by omega) (by rw [c]; decide)]
      refine ct (by omega) (ct (by omega) (cf (by omega) (cf (by omega) (ct c (q4 h hr _ (fun h' b1 b2 => g_Mo_isPlayed_122 (ci (fun c' => ?_) (fun c' => ?_))))))))
      · have q := q h' b1 b2; rw [if_pos (by omega)] at q; exact q
      · have q := q h' b1 b2; rw [if_neg (by omega)] at q; exact q
  · obtain ⟨r, g', q1, q2, q3, q4⟩ := op_r (o_lend (e := e) (x := A.2.2 i 1) (y := A.2.2 i 2) (z := A.2.2 i 3)) (fun h hr => s_lend hr) ⟨h0, hr0⟩
    have hr' : r = 0 ∨ r = 1 := q3.1
    refine ⟨r, g', fun Q q => pre Q (g_Af_isDone_29 (cf (by omega) (cf (by omega) (cf (by omega) (ct c (q1 _ (g_Af_isDone_145 (ct (by omega) q)))))))), q2, q3.2, fun h hr Q q => g_Mo_isPlayed_0 ?_⟩
    rw [w32_id (x := 753 * t + 1 + 6 * i + 1) (by omega) (by omega), w32_id (x := 753 * t + 1 + 6 * i + 2) (by omega) (by omega), w32_id (x := 753 * t + 1 + 6 * i + 3) (by omega) (by omega), p0 h hr, px h 1 hr (by omega) (by rw [c]; decide), px h 2 hr (by omega) (by rw [c]; decide), px h 3 hr (by omega) (by rw [c]; decide)]
    exact ct (by omega) (ct (by omega) (cf (by omega) (cf (by omega) (cf (by omega) (ct c (ct (by omega) (ct (by omega) (q4 h hr _ (fun h' b1 b2 => g_Mo_isPlayed_152 (ct (by omega) (q h' b1 b2)))))))))))
  · obtain ⟨r, g', q1, q2, q3, q4⟩ := op_r (o_weigh (e := e) (x := A.2.2 i 1)) (fun h hr => s_weigh hr) ⟨h0, hr0⟩
    refine ⟨if r = -100000 then 0 else 1, g', fun Q q => pre Q (g_Af_isDone_29 (cf (by omega) (cf (by omega) (cf (by omega) (cf (by omega) (ct c (q1 _ (g_Af_isDone_151 (ci (fun c' => ?_) (fun c' => ?_)))))))))), q2, q3, fun h hr Q q => g_Mo_isPlayed_0 ?_⟩
    · rw [if_pos c'] at q; exact q
    · rw [if_neg c'] at q; exact q
    · rw [w32_id (x := 753 * t + 1 + 6 * i + 1) (by omega) (by omega), p0 h hr, px h 1 hr (by omega) (by rw [c]; decide)]
      refine ct (by omega) (ct (by omega) (cf (by omega) (cf (by omega) (cf (by omega) (cf (by omega) (ct c (q4 h hr _ (fun h' b1 b2 => g_Mo_isPlayed_158 (ci (fun c' => ?_) (fun c' => ?_))))))))))
      · have q := q h' b1 b2; rw [if_pos c'] at q; exact q
      · have q := q h' b1 b2; rw [if_neg c'] at q; exact q
  · obtain ⟨r, g', q1, q2, q3, q4⟩ := op_r (o_lay (e := e) (x := A.2.2 i 1)) (fun h hr => s_lay hr) ⟨h0, hr0⟩
    refine ⟨if r = -100000 then 0 else 1, g', fun Q q => pre Q (g_Af_isDone_29 (cf (by omega) (cf (by omega) (cf (by omega) (cf (by omega) (cf (by omega) (ct c (q1 _ (g_Af_isDone_167 (ci (fun c' => ?_) (fun c' => ?_))))))))))), q2, q3, fun h hr Q q => g_Mo_isPlayed_0 ?_⟩
    · rw [if_pos c'] at q; exact q
    · rw [if_neg c'] at q; exact q
    · rw [w32_id (x := 753 * t + 1 + 6 * i + 1) (by omega) (by omega), p0 h hr, px h 1 hr (by omega) (by rw [c]; decide)]
      refine ct (by omega) (ct (by omega) (cf (by omega) (cf (by omega) (cf (by omega) (cf (by omega) (cf (by omega) (ct c (q4 h hr _ (fun h' b1 b2 => g_Mo_isPlayed_175 (ci (fun c' => ?_) (fun c' => ?_)))))))))))
      · have q := q h' b1 b2; rw [if_pos c'] at q; exact q
      · have q := q h' b1 b2; rw [if_neg c'] at q; exact q
  · obtain ⟨r, g', q1, q2, q3, q4⟩ := op_r (o_answer (e := e) (x := A.2.2 i 1) (y := 1) (by omega)) (fun h hr => s_answer (by omega) hr) ⟨h0, hr0⟩
    have hr' : -1 ≤ r := q3.1
    refine ⟨if r = -1 then 0 else 1, g', fun Q q => pre Q (g_Af_isDone_29 (cf (by omega) (cf (by omega) (cf (by omega) (cf (by omega) (cf (by omega) (cf (by omega) (ct c (q1 _ (g_Af_isDone_184 (ci (fun c' => ?_) (fun c' => ?_)))))))))))), q2, q3.2, fun h hr Q q => g_Mo_isPlayed_0 ?_⟩
    · rw [if_pos c'] at q; exact q
    · rw [if_neg c'] at q; exact q
    · rw [w32_id (x := 753 * t + 1 + 6 * i + 1) (by omega) (by omega), p0 h hr, px h 1 hr (by omega) (by rw [c]; decide)]
      refine ct (by omega) (ct (by omega) (cf (by omega) (cf (by omega) (cf (by omega) (cf (by omega) (cf (by omega) (cf (by omega) (ct c (q4 h hr _ (fun h' b1 b2 => g_Mo_isPlayed_193 (ci (fun c' => ?_) (fun c' => ?_))))))))))))
      · have q := q h' b1 b2; rw [if_pos (by omega)] at q; exact q
      · have q := q h' b1 b2; rw [if_neg (by omega)] at q; exact q
  · obtain ⟨r, g', q1, q2, q3, q4⟩ := op_r (o_answer (e := e) (x := A.2.2 i 1) (y := 0) (by omega)) (fun h hr => s_answer (by omega) hr) ⟨h0, hr0⟩
    have hr' : -1 ≤ r := q3.1
    refine ⟨if r = -1 then 0 else 1, g', fun Q q => pre Q (g_Af_isDone_29 (cf (by omega) (cf (by omega) (cf (by omega) (cf (by omega) (cf (by omega) (cf (by omega) (cf (by omega) (ct c (q1 _ (g_Af_isDone_200 (ci (fun c' => ?_) (fun c' => ?_))))))))))))), q2, q3.2, fun h hr Q q => g_Mo_isPlayed_0 ?_⟩
    · rw [if_pos c'] at q; exact q
    · rw [if_neg c'] at q; exact q
    · rw [w32_id (x := 753 * t + 1 + 6 * i + 1) (by omega) (by omega), p0 h hr, px h 1 hr (by omega) (by rw [c]; decide)]
      refine ct (by omega) (ct (by omega) (cf (by omega) (cf (by omega) (cf (by omega) (cf (by omega) (cf (by omega) (cf (by omega) (cf (by omega) (ct c (q4 h hr _ (fun h' b1 b2 => g_Mo_isPlayed_208 (ci (fun c' => ?_) (fun c' => ?_)))))))))))))
      · have q := q h' b1 b2; rw [if_pos (by omega)] at q; exact q
      · have q := q h' b1 b2; rw [if_neg (by omega)] at q; exact q
  · obtain ⟨r, g', q1, q2, q3, q4⟩ := op_r (o_judged (e := e) hB) (fun h hr => s_judged hr) ⟨h0, hr0⟩
    have hr' : -1 ≤ r := q3.1
    refine ⟨if r = -1 then 0 else 1, g', fun Q q => pre Q (g_Af_isDone_29 (cf (by omega) (cf (by omega) (cf (by omega) (cf (by omega) (cf (by omega) (cf (by omega) (cf (by omega) (cf (by omega) (ct c (q1 _ (g_Af_isDone_214 (ci (fun c' => ?_) (fun c' => ?_)))))))))))))), q2, q3.2, fun h hr Q q => g_Mo_isPlayed_0 ?_⟩
    · rw [if_pos c'] at q; exact q
    · rw [if_neg c'] at q; exact q
    · rw [w32_id (x := 753 * t + 1 + 6 * i + 1) (by omega) (by omega), p0 h hr]
      refine ct (by omega) (ct (by omega) (cf (by omega) (cf (by omega) (cf (by omega) (cf (by omega) (cf (by omega) (cf (by omega) (cf (by omega) (cf (by omega) (ct c (q4 h hr _ (fun h' b1 b2 => g_Mo_isPlayed_221 (ci (fun c' => ?_) (fun c' => ?_))))))))))))))
      · have q := q h' b1 b2; rw [if_pos (by omega)] at q; exact q
      · have q := q h' b1 b2; rw [if_neg (by omega)] at q; exact q
theorem play_loop {e : Nat} {T : TT} {tx : Int → TA} {rr t : Int} {A : TA} (hA : tx t = A) (t0 : 0 ≤ t) (t4 : t < 4) (hA2 : A.2.1 ≤ 24) : ∀ (k : Nat) (g : Sg) (B i : Int), 0 ≤ i → i + k = A.2.1 → t < g 3 13 → TC g T rr A → B + 24 * k ≤ 1000000 → (∃ h, Rl g h T tx B) → ∃ (r : Int) (g' : Sg), (∀ Q : Int → AM → Prop, Q r (mk g' T) → wpI (e + 62) 21 18 [aR 2, aI t, aR rr, aI i] [] (mk g T) Q) ∧ Cls g g' ∧ ∀ h, Rl g h T tx B → ∀ Q : Int → AM → Prop, (∀ h', Rfo h h' → Rl g' h' T tx (B + 24 * k) → Q r (mk h' T)) → wpI (e + 62) 252 22 [aR 70, aI t, aI i] [] (mk h T) Q := by
  intro k
  induction k with
  | zero =>
    intro g B i i0 hi t1 hTC hB hex
    have hkd := (tc_sh hTC).2.1
    have hc : g rr 3 = A.2.1 := by obtain ⟨j, _, _, q, _⟩ := hTC; exact q
    refine ⟨-1, g, fun Q q => g_Af_played_18 (cbt (by rw [hkd]; rfl) ?_), cls_r g, fun h hr Q q => g_Mo_played_22 ?_⟩
    · rw [hc]; exact cf (by omega) q
    · have hrf : TRf (h 73) t A := hA ▸ (hr.1.2 t t0 t1).2.1
      rw [w32_id (x := 753 * t) (by omega) (by omega), hrf.1]
      exact ct (by omega) (cf (by omega) (q h (rfo_r h) (rl_B (by omega) hr)))
  | succ k ih =>
    intro g B i i0 hi t1 hTC hB hex
    have hkd := (tc_sh hTC).2.1
    have hc : g rr 3 = A.2.1 := by obtain ⟨j, _, _, q, _⟩ := hTC; exact q
    obtain ⟨h0, hr0⟩ := hex
    obtain ⟨r1, g1, p1, p2, p3, p4⟩ := play1 (e := e) (i := i) (by omega) hTC hA t0 t1 i0 (by omega) ⟨h0, hr0⟩
    obtain ⟨_, _, ⟨h1, rfl, hr1⟩, _⟩ := wpI_det (p4 h0 hr0 (fun _ M' => ∃ h', M' = mk h' T ∧ Rl g1 h' T tx (B + 24)) (fun h' _ q => ⟨h', rfl, q⟩))
    have hw : ∀ h : Sg, Rl g h T tx B → TRf (h 73) t A := fun h hr => hA ▸ (hr.1.2 t t0 t1).2.1
    by_cases c : r1 = 0
    · refine ⟨i, g1, fun Q q => g_Af_played_18 (cbt (by rw [hkd]; rfl) ?_), p2, fun h hr Q q => g_Mo_played_22 ?_⟩
      · rw [hc]; exact ct (by omega) (p1 _ (g_Af_played_32 (ct c q)))
      · rw [w32_id (x := 753 * t) (by omega) (by omega), (hw h hr).1, w32_id (x := 753 * t + 1) (by omega) (by omega), w32_id (x := 6 * i) (by omega) (by omega), w32_id (x := 753 * t + 1 + 6 * i) (by omega) (by omega)]
        exact ct (by omega) (ct (by omega) (p4 h hr _ (fun h' b1 b2 => g_Mo_played_52 (ct c (q h' b1 (rl_B (by omega) b2))))))
    · obtain ⟨r, g', q1, q2, q3⟩ := ih g1 (B + 24) (i + 1) (by omega) (by omega) (by rw [p3]; exact t1) (tc_c hTC (fun a ha => p2 a (by omega))) (by omega) ⟨h1, hr1⟩
      refine ⟨r, g', fun Q q => g_Af_played_18 (cbt (by rw [hkd]; rfl) ?_), fun a ha => (q2 a ha).trans (p2 a ha), fun h hr Q q => g_Mo_played_22 ?_⟩
      · rw [hc]
        refine ct (by omega) (p1 _ (g_Af_played_32 (cf c ?_)))
        rw [w32_id (x := i + 1) (by omega) (by omega)]; exact q1 Q q
      · rw [w32_id (x := 753 * t) (by omega) (by omega), (hw h hr).1, w32_id (x := 753 * t + 1) (by omega) (by omega), w32_id (x := 6 * i) (by omega) (by omega), w32_id (x := 753 * t + 1 + 6 * i) (by omega) (by omega)]
        refine ct (by omega) (ct (by omega) (p4 h hr _ (fun h' b1 b2 => g_Mo_played_52 (cf c ?_))))
        rw [w32_id (x := i + 1) (by omega) (by omega)]
        exact q3 h' b2 Q (fun h2 d1 d2 => q h2 (fun a ha => (d1 a ha).trans (b1 a ha)) (rl_B (by omega) d2))
/-- a call of the law, with room for what it writes -/
def OpL (D cm : Nat) (ca : List AV) (rm : Nat) (ra : List AV) (g : Sg) (T : TT) (tx : Int → TA) (B : Int) : Prop :=
  (∃ h, Rl g h T tx B) → ∃ (r : Int) (g' : Sg), (∀ Q : Int → AM → Prop, Q r (mk g' T) → wpI D cm 0 ca [] (mk g T) Q) ∧ Cls g g' ∧ ∀ h, Rl g h T tx B → ∀ Q : Int → AM → Prop, (∀ h', Rfo h h' → Rl g' h' T tx (B + 600) → Q r (mk h' T)) → wpI D rm 0 ra [] (mk h T) Q
theorem opl_o {D cm : Nat} {ca : List AV} {rm : Nat} {ra : List AV} {g : Sg} {T : TT} {tx : Int → TA} {B : Int} (h : Op D cm ca rm ra g T tx B) : OpL D cm ca rm ra g T tx B := by
  intro hex
  obtain ⟨r, g', q1, q2, q3⟩ := h hex
  exact ⟨r, g', q1, q2, fun h hr Q q => q3 h hr Q (fun h' b1 b2 => q h' b1 (rl_B (by omega) b2))⟩
theorem o_played {e : Nat} {g : Sg} {T : TT} {tx : Int → TA} {B x : Int} (hB : B ≤ 900000) : OpL (e + 62) 21 [aR 2, aI x, aU, aU] 252 [aR 70, aI x, aU] g T tx B := by
  rintro ⟨h0, hr0⟩
  have h13 := hr0.1.1.1.2.2.2.2.1
  by_cases hx : 0 ≤ x ∧ x < g 3 13
  · obtain ⟨b1, b2, b3⟩ := hr0.1.2 x hx.1 hx.2
    obtain ⟨j, _, _, _, n0, n1, _⟩ := b1
    obtain ⟨b1, b2, b3⟩ := hr0.1.2 x hx.1 hx.2
    obtain ⟨r, g', q1, q2, q3⟩ := play_loop (e := e) (T := T) (tx := tx) (rr := g 13 x) (t := x) (A := tx x) rfl hx.1 (by omega) n1 (tx x).2.1.toNat g B 0 (by omega) (by omega) hx.2 b1 (by omega) ⟨h0, hr0⟩
    refine ⟨r, g', fun Q q => g_Af_played_0 (cf (by omega) (ct hx.2 (ct (by omega) (cf ?_ (q1 Q q))))), q2, fun h hr Q q => g_Mo_played_0 ?_⟩
    · have := (tc_sh b1).1; omega
    · rw [hr.1.1.1.2.2.2.2.1.2.2, w32_id (x := g 3 13 - 1) (by omega) (by omega)]
      exact cf (by omega) (cf (by omega) (q3 h hr Q (fun h' c1 c2 => q h' c1 (rl_B (by omega) c2))))
  · refine ⟨-2, g, fun Q q => g_Af_played_0 (ci (fun _ => q) (fun _ => cf (by omega) q)), cls_r g, fun h hr Q q => g_Mo_played_0 ?_⟩
    rw [hr.1.1.1.2.2.2.2.1.2.2, w32_id (x := g 3 13 - 1) (by omega) (by omega)]
    have q := q h (rfo_r h) (rl_B (by omega) hr)
    exact ci (fun _ => q) (fun _ => ct (by omega) q)
end
