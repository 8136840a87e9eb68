noncomputable section
theorem wpI_det {D m pc : Nat} {L S : List AV} {M : AM} {A : Int → AM → Prop} (h : wpI D m pc L S M A) : ∃ r M', A r M' ∧ ∀ Q : Int → AM → Prop, Q r M' → wpI D m pc L S M Q := by
  obtain ⟨r, M', hq, hd⟩ := wp_det h
  obtain ⟨rt, rv⟩ := r
  cases hb : Nat.beq rt 0 with
  | false =>
    revert hq
    show brK (Nat.beq rt 0) _ False → _
    rw [hb]; exact fun q => q.elim
  | true =>
    refine ⟨rv, M', ?_, fun Q q => hd _ ?_⟩
    · revert hq
      show brK (Nat.beq rt 0) _ False → _
      rw [hb]; exact fun q => q
    · show brK (Nat.beq rt 0) _ False
      rw [hb]; exact q
/-- in the midst of a day -/
def Rdy (g h : Sg) (T : TT) (tx : Int → TA) (B e : Int) : Prop := Td g h T tx ∧ MO (g 16) (g 17) (g 18) (g 3 0) (h 71) B ∧ TRl (g 19) (g 20) (h 71) (g 3 0) B e
theorem rdy_1 {g h s h' : Sg} {T : TT} {tx : Int → TA} {B e v : Int} {mm : Int → Int} (hr : Rdy g h T tx B e) (he : 1 ≤ e) (hn : 0 < g 3 0) (hmm : mm = wd3 g tx (g 17) (g 16) (g 3 9)) (hv : v = VD g ((rA g tx).1 3) (mm 0) (mm 2)) (hs : Sm [16, 18, 40, 41, 43] g s) (h16 : s 16 = clM g v mm) (hp : ∀ i w, 0 ≤ i → i < min (mm 8 + 1) 30 → 0 ≤ w → w < 5 → s 18 (i * 5 + w) = if i = min (mm 8 + 1) 30 - 1 then enM mm v w else g 18 ((i + (mm 8 + 1 - min (mm 8 + 1) 30)) * 5 + w))
    (k1 : ∀ a, a ∉ [70, 71, 76, 77, 78] → h' a = h a) (k3 : h' 71 242 = -1) (k4 : h' 71 4 = ilM g v mm) (k5 : h' 71 11 = h 71 11 + 1) (k6 : h' 71 5 = mm 7) (k7 : ∀ w, 0 ≤ w → w < 5 → h' 71 (1704 + 5 * (h 71 11 % 768) + w) = enM mm v w) (k8 : ∀ i, i ≠ 4 → i ≠ 5 → i ≠ 11 → ¬ (242 ≤ i ∧ i < 248) → (i < 1704 + 5 * (h 71 11 % 768) ∨ 1704 + 5 * (h 71 11 % 768) + 5 ≤ i) → h' 71 i = h 71 i) (k9 : ∀ i, 1 ≤ i → i < 6 → h' 71 (242 + i) = mm i) : Rdy s h' T tx (B + 1) (e - 1) := by
  obtain ⟨ht, hm, htr⟩ := hr
  obtain ⟨c1, c2, c3, c4, c5, c6, c7⟩ := hm
  obtain ⟨w1, w2, w3, w4, w5, w6, w7, w8, w9, w10, w11⟩ := wd_i (tx := tx) (l := g 17) (m := g 16) ht (fun i i0 i1 => ⟨(c6 i i0 i1).1, (c6 i i0 i1).2.1⟩) hn c4.1
  have h9 := ht.1.1.2.2.1
  obtain ⟨b1, b2, b3, b4⟩ := jd_i (g := g) (c0 := (rA g tx).1 0) (c1 := (rA g tx).1 1) (c2 := (rA g tx).1 2) (st := g 3 11) (h := wdH g (g 16)) (n := g 3 9) h9.2.1 w7 w8 (by rw [w9]; exact nx_b _) (g 3 9) h9.1 (Int.le_refl _)
  have e6 : mm 6 = g 16 6 := by rw [hmm, ← w11 6 (by omega)]; exact b4 6 (by omega)
  have e8 : mm 8 = g 16 8 := by rw [hmm, ← w11 8 (by omega)]; exact b4 8 (by omega)
  have b1 : SK (g 3 0) mm := by rw [hmm]; exact b1
  have b3 : 0 ≤ mm 7 ∧ mm 7 ≤ 30160 := by rw [hmm]; exact b3
  have hf := ht.1.2.1 (mm 0) b1.1.1 b1.1.2
  have e3 := hs 3 (by decide)
  let a : Int → Int := fun i => if 242 ≤ i ∧ i < 248 then mm (i - 242) else if i = 5 then mm 7 else h 71 i
  have ha : ∀ i, ¬ (242 ≤ i ∧ i < 248) → i ≠ 5 → a i = h 71 i := fun i q1 q2 => by show (if _ then _ else _) = _; rw [if_neg q1, if_neg q2]
  have ha5 : a 5 = mm 7 := rfl
  have ha2 : ∀ i, 0 ≤ i → i < 6 → a (242 + i) = mm i := fun i i0 i1 => by show (if _ then _ else _) = _; rw [if_pos (by omega), show 242 + i - 242 = i from by omega]
  have hmo : MO mm (g 17) (g 18) (g 3 0) a B := by
    refine ⟨Or.inr b1, ha2, ?_, ?_, ?_, ?_, ?_⟩
    · rw [e6, ha 4 (by omega) (by omega)]; exact c3
    · rw [ha5]; exact ⟨b3.1, b3.2, rfl⟩
    · rw [e8, ha 11 (by omega) (by omega)]; exact c5
    · intro i i0 i1; rw [ha _ (by omega) (by omega)]; exact c6 i i0 i1
    · rw [e8, ha 11 (by omega) (by omega)]
      intro i w i0 i1 q0 q1; rw [ha _ (by omega) (by omega)]; exact c7 i w i0 i1 q0 q1
  have a11 : a 11 = h 71 11 := ha 11 (by omega) (by omega)
  have ko : ∀ i, i ≠ 4 → i ≠ 11 → i ≠ 242 → (i < 1704 + 5 * (a 11 % 768) ∨ 1704 + 5 * (a 11 % 768) + 5 ≤ i) → h' 71 i = a i := by
    rw [a11]
    intro i i1 i2 i3 i4
    by_cases q : 242 ≤ i ∧ i < 248
    · have := k9 (i - 242) (by omega) (by omega)
      rw [show 242 + (i - 242) = i from by omega] at this
      rw [this]; show _ = (if _ then _ else _); rw [if_pos q]
    · by_cases q5 : i = 5
      · rw [q5, ha5]; exact k6
      · rw [ha i q q5]; exact k8 i i1 q5 i2 q i4
  refine ⟨?_, ?_, ?_⟩
  · exact td_g (td_m ht hs (by decide)) (k1 73 (by decide)) (fun i hi => k8 i (by omega) (by omega) (by omega) (by omega) (by omega))
  · rw [h16, hs 17 (by decide), e3]
    exact mo_w hmo b1 ⟨hf.1, hf.2.1⟩ (fun q => vd_0 (hv ▸ q)) k3 k4 (by rw [k5, a11]) (by rw [a11]; exact k7) ko hp
  · rw [hs 19 (by decide), hs 20 (by decide), e3]
    exact tr_w (tr_a (fun i hi => ha i (by omega) (by omega)) htr) he (by rw [a11]; exact c5.1) (by rw [k5, a11]) ko
theorem day_loop {e : Nat} {T : TT} {tx : Int → TA} {x n : Int} (hn20 : n ≤ 20) : ∀ (k : Nat) (g : Sg) (B i hv : Int), 0 ≤ i → i + k = n → 0 ≤ hv → hv ≤ i → 0 < g 3 0 → B + k ≤ 1900000 → (∃ h, Rdy g h T tx B (k : Int)) → ∃ (r : Int) (g' : Sg), (∀ Q : Int → AM → Prop, Q r (mk g' T) → wpI (e + 60) 23 62 [aR 2, aI x, aI n, aI hv, aI i] [] (mk g T) Q) ∧ Sm [16, 18, 40, 41, 43] g g' ∧ ∀ h, Rdy g h T tx B (k : Int) → ∀ Q : Int → AM → Prop, (∀ h', (∀ a, a ∉ [70, 71, 76, 77, 78] → h' a = h a) → (∀ i, i ≠ 23 → h' 70 i = h 70 i) → (∀ i, i ≠ 4 → i ≠ 5 → i ≠ 11 → ¬ (242 ≤ i ∧ i < 248) → i < 1704 → h' 71 i = h 71 i) → Rdy g' h' T tx (B + k) 0 → Q r (mk h' T)) → wpI (e + 60) 254 53 [aR 70, aI x, aI n, aI hv, aI i] [] (mk h T) Q := by
  intro k
  induction k with
  | zero =>
    intro g B i hv i0 hi hv0 hv1 hg hB hex
    refine ⟨hv, g, fun Q q => g_Af_day_62 (cf (by omega) q), sm_r _ _, fun h hr Q q => g_Mo_day_53 (cf (by omega) (q h (fun _ _ => rfl) (fun _ _ => rfl) (fun _ _ _ _ _ _ => rfl) ?_))⟩
    rw [show B + ((0 : Nat) : Int) = B from by omega]; exact hr
  | succ k ih =>
    intro g B i hv i0 hi hv0 hv1 hg hB hex
    obtain ⟨h0, hr0⟩ := hex
    have hmo := hr0.2.1
    obtain ⟨r1, M1, ⟨s, mm, v, rfl, rfl, hmm, hv', hs, h16, hp⟩, hdet⟩ := wpI_det (c_weighDrawn (d := e + 50) (P := fun r M' => ∃ s mm v, M' = mk s T ∧ r = v ∧ mm = wd3 g tx (g 17) (g 16) (g 3 9) ∧ v = VD g ((rA g tx).1 3) (mm 0) (mm 2) ∧ Sm [16, 18, 40, 41, 43] g s ∧ s 16 = clM g v mm ∧ (∀ i w, 0 ≤ i → i < min (mm 8 + 1) 30 → 0 ≤ w → w < 5 → s 18 (i * 5 + w) = if i = min (mm 8 + 1) 30 - 1 then enM mm v w else g 18 ((i + (mm 8 + 1 - min (mm 8 + 1) 30)) * 5 + w))) hr0.1 (fun i i0 i1 => ⟨(hmo.2.2.2.2.2.1 i i0 i1).1, (hmo.2.2.2.2.2.1 i i0 i1).2.1⟩) hg ⟨hmo.2.2.2.1.1, hmo.2.2.2.1.2.1⟩ (by have := hmo.2.2.2.2.1; omega) (fun s m v q1 q2 q3 q4 q5 => ⟨s, m, v, rfl, rfl, q1, q2, q3, q4, q5⟩))
    have refs : ∀ h, Rdy g h T tx B ((k + 1 : Nat) : Int) → ∀ Q : Int → AM → Prop, (∀ h', (∀ a, a ∉ [70, 71, 76, 77, 78] → h' a = h a) → (∀ i, i ≠ 23 → h' 70 i = h 70 i) → (∀ i, i ≠ 4 → i ≠ 5 → i ≠ 11 → ¬ (242 ≤ i ∧ i < 248) → i < 1704 → h' 71 i = h 71 i) → Rdy s h' T tx (B + 1) (k : Int) → Q (if r1 = 0 then 1 else 0) (mk h' T)) → wpI (e + 59) 255 0 [aR 70, aU, aU, aU, aU, aU] [] (mk h T) Q := by
      intro h hr Q q
      have hmo := hr.2.1
      refine r_oneOfDay (γ := g) (m := g 16) hr.1 (fun i i0 i1 => ⟨(hmo.2.2.2.2.2.1 i i0 i1).1, (hmo.2.2.2.2.2.1 i i0 i1).2.1, (hmo.2.2.2.2.2.1 i i0 i1).2.2.1⟩) hg hmo.2.2.2.1.2.2 ⟨hmo.2.2.2.1.1, hmo.2.2.2.1.2.1⟩ hmo.2.2.1.2.2 (by have := hmo.2.2.2.2.1; omega) ?_
      intro h' m' v' hm' hv2 k1 k2 k3 k4 k5 k6 k7 k8 k9
      have em : m' = mm := by rw [hm', hmm]
      rw [em] at hv2 k4 k6 k7 k9
      have ev : v' = r1 := by rw [hv2, hv']
      rw [ev] at k4 k7 ⊢
      refine q h' k1 k2 (fun i i4 i5 i11 i242 i17 => k8 i i4 i5 i11 i242 (by omega)) ?_
      have := rdy_1 hr (by omega) hg hmm hv' hs h16 hp k1 k3 k4 k5 k6 k7 k8 k9
      rw [show ((k + 1 : Nat) : Int) - 1 = k from by omega] at this
      exact this
    obtain ⟨r2, M2, ⟨h1, rfl, hr1⟩, _⟩ := wpI_det (refs h0 hr0 (fun r M' => ∃ h', M' = mk h' T ∧ Rdy s h' T tx (B + 1) (k : Int)) (fun h' _ _ _ q => ⟨h', rfl, q⟩))
    have es : s 3 = g 3 := hs 3 (by decide)
    obtain ⟨r, g', q1, q2, q3⟩ := ih s (B + 1) (i + 1) (if r1 = 0 then hv + 1 else hv) (by omega) (by omega) (by split <;> omega) (by split <;> omega) (by rw [es]; exact hg) (by omega) ⟨h1, hr1⟩
    refine ⟨r, g', fun Q q => g_Af_day_62 (ct (by omega) (hdet _ (g_Af_day_75 ?_))), sm_t hs q2, fun h hr Q q => g_Mo_day_53 (ct (by omega) (refs h hr _ (fun h' a1 a2 a3 a4 => g_Mo_day_64 ?_)))⟩
    · have q1 := q1 Q q
      rw [w32_id (x := i + 1) (by omega) (by omega), w32_id (x := hv + 1) (by omega) (by omega)]
      refine ci (fun c => ?_) (fun c => ?_)
      · rw [if_pos c] at q1; exact q1
      · rw [if_neg c] at q1; exact q1
    · have q3 := q3 h' a4 Q (fun h2 b1 b2 b3 b4 => q h2 (fun a ha => (b1 a ha).trans (a1 a ha)) (fun i hi => (b2 i hi).trans (a2 i hi)) (fun i i4 i5 i11 i242 i17 => (b3 i i4 i5 i11 i242 i17).trans (a3 i i4 i5 i11 i242 i17)) (by rw [show B + ((k + 1 : Nat) : Int) = B + 1 + k from by omega]; exact b4))
      rw [w32_id (x := i + 1) (by omega) (by omega)]
      by_cases c : r1 = 0
      · rw [if_pos c] at q3 ⊢
        rw [w32_id (x := hv + 1) (by omega) (by omega)]; exact q3
      · rw [if_neg c] at q3 ⊢
        rw [Int.add_zero, w32_id (by omega) (by omega)]; exact q3
theorem o_day {e : Nat} {g : Sg} {T : TT} {tx : Int → TA} {B x n : Int} (hB : B ≤ 1000000) : Op (e + 60) 23 [aR 2, aI x, aI n, aU, aU] 254 [aR 70, aI x, aI n, aU, aU] g T tx B := by
  refine op_l (fun h hr => ?_)
  have ht := hr.2.2.2.2.1
  have hn := hr.1.1.1.1
  have no : (x < 0 ∨ 9999 < x ∨ n < 1 ∨ 20 < n ∨ g 3 0 = 0) → Lf (e + 60) 254 [aR 70, aI x, aI n, aU, aU] g T tx B (-1) (mk g T) := by
    intro hx
    refine lf_n (fun h hr Q q => g_Mo_day_0 ?_)
    rw [hr.1.1.1.1.2.2]
    exact ci (fun _ => q) (fun _ => ci (fun _ => q) (fun _ => ci (fun _ => q) (fun _ => ci (fun _ => q) (fun _ => ct (by omega) q))))
  refine g_Af_day_0 (ci (fun _ => no (by omega)) (fun c1 => ci (fun _ => no (by omega)) (fun c2 => ci (fun _ => no (by omega)) (fun c3 => ci (fun _ => no (by omega)) (fun c4 => ci (fun _ => no (by omega)) (fun c5 => ?_))))))
  refine c_keep ⟨ht.1.1, ht.1.2.1⟩ ht.2.1 (fun g1 ck => g_Af_day_44 ?_)
  rw [w32_id (x := x * 2) (by omega) (by omega), w32_id (x := x * 2 + 19) (by omega) (by omega)]
  have es : Sm [16, 19, 20] g (up g1 16 7 (x * 2 + 19)) := sm_u (sm_m ck.1 (by simp)) (by simp)
  have e16 : up g1 16 7 (x * 2 + 19) 16 = fun i => if i = 7 then x * 2 + 19 else g 16 i := by rw [up_m, ck.1 16 (by decide)]
  have e19 : up g1 16 7 (x * 2 + 19) 19 = g1 19 := up_c (by decide)
  have e20 : up g1 16 7 (x * 2 + 19) 20 = g1 20 := up_c (by decide)
  generalize up g1 16 7 (x * 2 + 19) = g2 at *
  have e3 := es 3 (by decide)
  have start : ∀ h h1, Rl g h T tx B → RKp h h1 → Rdy g2 (up h1 71 5 (x * 2 + 19)) T tx B n := by
    intro h h1 hr rk
    refine ⟨?_, ?_, ?_⟩
    · exact td_g (td_m (td_rk hr.1 rk) es (by decide)) (up_c (by decide)) (fun i hi => up_i (by omega))
    · rw [e16, es 17 (by decide), es 18 (by decide), e3]
      have hm1 : MO (g 16) (g 17) (g 18) (g 3 0) (h1 71) B := mo_a (fun i hi => rk.2.1 i (by omega)) hr.2.2.2.1
      obtain ⟨m1, m2, m3, m4, m5, m6, m7⟩ := hm1
      refine ⟨?_, ?_, ?_, ?_, ?_, ?_, ?_⟩
      · rcases m1 with m1 | m1
        · left; exact m1
        · right; exact sk_c (fun i i0 i1 => by show (if _ then _ else _) = _; rw [if_neg (by omega)]) m1
      · intro i i0 i1; rw [up_i (by omega)]; show _ = (if _ then _ else _); rw [if_neg (by omega)]; exact m2 i i0 i1
      · rw [up_i (by decide)]; exact m3
      · rw [up_s]; show 0 ≤ x * 2 + 19 ∧ x * 2 + 19 ≤ 30160 ∧ x * 2 + 19 = x * 2 + 19; omega
      · rw [up_i (by decide)]; exact m5
      · intro i i0 i1; rw [up_i (by omega)]; exact m6 i i0 i1
      · intro i w i0 i1 w0 w1
        rw [up_i (i' := 11) (by decide), up_i (by omega)]; exact m7 i w i0 i1 w0 w1
    · rw [e19, e20, e3]
      have := tr_keep hr.2.2.2.2.1 hr.2.2.2.1 hr.1.1.1.1.2.2 hr.1.1.1.1.1 ck rk
      exact tr_a (fun i hi => up_i (by omega)) (tr_B (Int.le_refl _) (Int.le_refl _) (by omega) this)
  have hst : ∀ h, Rl g h T tx B → ∃ h1, RKp h h1 := by
    intro h hr
    have h8 := hr.2.2.2.2.1.1
    have := wp_det (r_keep (d := 0) (T := T) (P := fun M' => ∃ h1, M' = mk h1 T ∧ RKp h h1) (by rw [h8.2.2]; exact ⟨h8.1, h8.2.1⟩) (fun s q => ⟨s, rfl, q⟩))
    obtain ⟨r, M', ⟨h1, _, q⟩, _⟩ := this
    exact ⟨h1, q⟩
  obtain ⟨h1, rk⟩ := hst h hr
  have hst1 := start h h1 hr rk
  rw [show n = ((n.toNat : Nat) : Int) from by omega] at hst1
  obtain ⟨r, g', q1, q2, q3⟩ := day_loop (e := e) (x := x) (n := n) (by omega) n.toNat g2 B 0 0 (by omega) (by omega) (by omega) (by omega) (by rw [e3]; omega) (by omega) ⟨_, hst1⟩
  refine q1 _ (lf_c (fun a ha => by rw [q2 a (by simp; omega), es a (by simp; omega)]) (fun h hr Q q => g_Mo_day_0 ?_))
  rw [hr.1.1.1.1.2.2]
  refine cf c1 (cf c2 (cf c3 (cf c4 (cf c5 (r_keep (by rw [hr.2.2.2.2.1.1.2.2]; exact ⟨ht.1.1, ht.1.2.1⟩) (fun h1 rk => g_Mo_day_36 ?_))))))
  rw [w32_id (x := x * 2) (by omega) (by omega), w32_id (x := x * 2 + 19) (by omega) (by omega)]
  have hs2 := start h h1 hr rk
  rw [show n = ((n.toNat : Nat) : Int) from by omega] at hs2
  refine q3 _ hs2 Q (fun h' b1 b2 b3 b4 => q h' (fun a ha => ?_) ?_)
  · rw [b1 a (by simp; omega), up_c (by omega), rk.1 a (by simp; omega)]
  · have gg : ∀ a, a ≠ 16 → a ≠ 18 → a ≠ 19 → a ≠ 20 → a ≠ 40 → a ≠ 41 → a ≠ 43 → g' a = g a := fun a a1 a2 a3 a4 a5 a6 a7 => by rw [q2 a (by simp; omega), es a (by simp; omega)]
    refine rl_mom hr (fun a ha => gg a (by omega) (by omega) (by omega) (by omega) (by omega) (by omega) (by omega)) (fun a a1 a2 => by rw [b1 a (by simp; omega), up_c (by omega), rk.1 a (by simp; omega)]) (fun i i1 i2 => by rw [b2 i (by omega), up_c (by decide), rk.1 70 (by decide)]) (fun i hi => by rw [b3 i (by omega) (by omega) (by omega) (by omega) (by omega), up_i (by omega), rk.2.1 i (by omega)]) ?_ ?_
    · have := b4.2.1
      rw [gg 3 (by decide) (by decide) (by decide) (by decide) (by decide) (by decide) (by decide)] at this
      exact mo_B (by omega) this
    · have := b4.2.2
      rw [gg 3 (by decide) (by decide) (by decide) (by decide) (by decide) (by decide) (by decide)] at this
      exact tr_B (Int.le_refl _) (by omega) (Int.le_refl _) this
end
