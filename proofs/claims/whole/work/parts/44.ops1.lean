noncomputable section
/-! calls that tell -/
theorem rfo_r (h : Sg) : Rfo h h := fun _ _ => rfl
theorem rfo_u {h h' : Sg} {a i x : Int} (q : Rfo h h') (a0 : 70 ≤ a) (a1 : a < 90) : Rfo h (up h' a i x) := fun b hb => by rw [up_c (by omega)]; exact q b hb
theorem cls_r (g : Sg) : Cls g g := fun _ _ => rfl
theorem cls_u {g g' : Sg} {a i x : Int} (q : Cls g g') (a0 : 2 ≤ a) (a1 : a < 70) : Cls g (up g' a i x) := fun b hb => by rw [up_c (by omega)]; exact q b hb
theorem o_heart {e : Nat} {g : Sg} {T : TT} {tx : Int → TA} {B x : Int} : Op (e + 60) 2 [aR 2, aI x] 175 [aR 70, aI x, aU, aU] g T tx B := by
  refine op_i (fun h hr => ?_)
  have hn := hr.1.1.1.1
  refine g_Af_heart_0 ?_
  rw [w32_id (x := g 3 0 + 1) (by omega) (by omega), w32_id (x := g 3 0 + 1 - 1) (by omega) (by omega), show g 3 0 + 1 - 1 = g 3 0 from by omega]
  have no : (x < 0 ∨ 999 < x ∨ g 3 0 = 6) → ∃ g', mk g T = mk g' T ∧ Cls g g' ∧ ∀ h, Rl g h T tx B → ∀ Q : Int → AM → Prop, (∀ h', Rfo h h' → Rl g' h' T tx (B + 24) → Q (-1) (mk h' T)) → wpI (e + 60) 175 0 [aR 70, aI x, aU, aU] [] (mk h T) Q := by
    intro hx
    refine ⟨g, rfl, cls_r g, fun h hr Q q => ?_⟩
    have hn := hr.1.1.1.1
    have q := q h (rfo_r h) (rl_B (by omega) hr)
    refine g_Mo_heart_0 (ci (fun _ => q) (fun c1 => ci (fun _ => q) (fun c2 => ?_)))
    exact ct (by omega) q
  refine ci (fun c1 => no (by omega)) (fun c1 => ci (fun c2 => no (by omega)) (fun c2 => ci (fun c3 => ct (by omega) ?_) (fun c3 => no (by omega))))
  refine ⟨_, rfl, cls_u (cls_u (cls_r g) (by omega) (by omega)) (by omega) (by omega), fun h hr Q q => ?_⟩
  have hn := hr.1.1.1.1
  refine g_Mo_heart_0 (cf c1 (cf c2 (cf (by omega) ?_)))
  rw [w32_id (x := 12 + h 71 0) (by omega) (by omega), hn.2.2]
  refine ct (by omega) ?_
  obtain ⟨hd, htp, hfl, hmo, htr, him⟩ := hr
  refine for_up (n := 6) (Hd := fun i s => wpI (e + 60) 175 43 [aR 70, aI x, aI (g 3 0), aI i] [] (mk s T) Q) (Inv := fun n s => Sm [71] h s ∧ s 71 (12 + g 3 0) = x ∧ ∀ i, i ≠ 12 + g 3 0 → s 71 i = h 71 i) ?_ ?_ ⟨sm_u (sm_r _ _) (by simp), up_s _ _ _ _, fun i hi => up_i hi⟩ (by omega)
  · rintro i s i0 i1 ⟨a1, a2, a3⟩ ih
    refine g_Mo_heart_43 ?_
    rw [w32_id (x := 6 * g 3 0) (by omega) (by omega), w32_id (x := 18 + 6 * g 3 0) (by omega) (by omega), w32_id (x := 18 + 6 * g 3 0 + i) (by omega) (by omega), w32_id (x := 6 * i) (by omega) (by omega), w32_id (x := 18 + 6 * i) (by omega) (by omega), w32_id (x := 18 + 6 * i + g 3 0) (by omega) (by omega), w32_id (x := i + 1) (by omega) (by omega)]
    refine ct i1 (ct (by omega) (ct (by omega) (ih _ ⟨sm_u (sm_u a1 (by simp)) (by simp), ?_, fun j hj => ?_⟩)))
    · rw [up_i (by omega), up_i (by omega)]; exact a2
    · have l1 := hmo.2.2.2.2.2.1 (6 * g 3 0 + i) (by omega) (by omega)
      have l2 := hmo.2.2.2.2.2.1 (6 * i + g 3 0) (by omega) (by omega)
      rw [up_e, up_e]
      by_cases q1 : j = 18 + 6 * i + g 3 0
      · rw [if_pos q1, q1, show 18 + 6 * i + g 3 0 = 18 + (6 * i + g 3 0) from by omega, l2.2.2.1, l2.2.2.2 (by omega)]
      · rw [if_neg q1]
        by_cases q2 : j = 18 + 6 * g 3 0 + i
        · rw [if_pos q2, q2, show 18 + 6 * g 3 0 + i = 18 + (6 * g 3 0 + i) from by omega, l1.2.2.1, l1.2.2.2 (by omega)]
        · rw [if_neg q2]; exact a3 j hj
  · rintro s ⟨a1, a2, a3⟩
    refine g_Mo_heart_43 (cf (by omega) ?_)
    rw [a3 0 (by omega), hn.2.2, w32_id (x := g 3 0 + 1) (by omega) (by omega)]
    have e3 : ∀ i, up (up g 4 (g 3 0) x) 3 0 (g 3 0 + 1) 3 i = if i = 0 then g 3 0 + 1 else g 3 i := fun i => by rw [up_e, up_c (by decide)]
    have e4 : ∀ i, up (up g 4 (g 3 0) x) 3 0 (g 3 0 + 1) 4 i = if i = g 3 0 then x else g 4 i := fun i => by rw [up_c (by decide), up_e]
    have ec : ∀ a, a ≠ 3 → a ≠ 4 → up (up g 4 (g 3 0) x) 3 0 (g 3 0 + 1) a = g a := fun a h3 h4 => by rw [up_c h3, up_c h4]
    have eh : ∀ a, a ≠ 71 → up s 71 0 (g 3 0 + 1) a = h a := fun a ha => by rw [up_c ha]; exact a1 a (by simp; exact ha)
    have ea : ∀ i, i ≠ 0 → i ≠ 12 + g 3 0 → up s 71 0 (g 3 0 + 1) 71 i = h 71 i := fun i h1 h2 => by rw [up_i h1]; exact a3 i h2
    have ea0 : up s 71 0 (g 3 0 + 1) 71 0 = g 3 0 + 1 := up_s _ _ _ _
    have eax : up s 71 0 (g 3 0 + 1) 71 (12 + g 3 0) = x := by rw [up_i (by omega)]; exact a2
    refine q _ (rfo_u (fun b hb => a1 b (by simp; omega)) (by omega) (by omega)) ?_
    generalize up (up g 4 (g 3 0) x) 3 0 (g 3 0 + 1) = g' at *
    generalize up s 71 0 (g 3 0 + 1) = h' at *
    have e30 : g' 3 0 = g 3 0 + 1 := by rw [e3, if_pos rfl]
    have e3i : ∀ i, i ≠ 0 → g' 3 i = g 3 i := fun i hi => by rw [e3, if_neg hi]
    obtain ⟨⟨⟨b1, b2, b3, b4, b5, b6, b7, b8⟩, b9, b10, b11, b12, b13⟩, b14⟩ := hd
    refine ⟨⟨⟨⟨?_, ?_, ?_, ?_, ?_, ?_, ?_, ?_⟩, ?_, ?_, ?_, ?_, ?_⟩, ?_⟩, ?_, ?_, ?_, ?_, ?_⟩
    · rw [e30, ea0]; omega
    · rw [e3i 2 (by omega), ea 1 (by omega) (by omega)]; exact b2
    · rw [e3i 9 (by omega), ea 2 (by omega) (by omega)]; exact b3
    · rw [e3i 11 (by omega), ea 3 (by omega) (by omega)]; exact b4
    · rw [e3i 13 (by omega), ea 6 (by omega) (by omega)]; exact b5
    · rw [e3i 15 (by omega), e3i 13 (by omega), ea 7 (by omega) (by omega)]; exact b6
    · rw [e3i 16 (by omega), ea 9 (by omega) (by omega)]; exact b7
    · rw [e3i 19 (by omega), ea 10 (by omega) (by omega)]; exact b8
    · rw [e30]
      intro i i0 i1
      rw [e4]
      by_cases qi : i = g 3 0
      · rw [if_pos qi, qi, eax]; omega
      · rw [if_neg qi, ea _ (by omega) (by omega)]; exact b9 i i0 (by omega)
    · rw [e30, e3i 2 (by omega), ec 5 (by decide) (by decide), ec 6 (by decide) (by decide), ec 7 (by decide) (by decide), ec 8 (by decide) (by decide), ec 9 (by decide) (by decide), ec 10 (by decide) (by decide)]
      intro d d0 d1
      have := b10 d d0 d1
      rw [ea (90 + 6 * d + 0) (by omega) (by omega), ea (90 + 6 * d + 1) (by omega) (by omega), ea (90 + 6 * d + 2) (by omega) (by omega), ea (90 + 6 * d + 3) (by omega) (by omega), ea (90 + 6 * d + 4) (by omega) (by omega), ea (90 + 6 * d + 5) (by omega) (by omega)]
      exact ⟨⟨this.1.1, by omega, this.1.2.2⟩, this.2⟩
    · rw [e3i 9 (by omega), ec 11 (by decide) (by decide)]
      intro j j0 j1
      rw [ea _ (by omega) (by omega)]; exact b11 j j0 j1
    · rw [ec 12 (by decide) (by decide)]
      intro j j0 j1
      rw [ea _ (by omega) (by omega)]; exact b12 j j0 j1
    · rw [e30, e3i 16 (by omega), ec 14 (by decide) (by decide), ec 15 (by decide) (by decide)]
      intro j j0 j1
      have := b13 j j0 j1
      rw [ea _ (by omega) (by omega), ea _ (by omega) (by omega)]
      exact ⟨this.1, by omega, this.2.2⟩
    · rw [e3i 13 (by omega), ec 13 (by decide) (by decide), eh 73 (by decide)]
      intro t t0 t1
      have := b14 t t0 t1
      exact ⟨tc_c this.1 (fun a ha => ec a (by omega) (by omega)), this.2⟩
    · unfold Tp; rw [ec 2 (by decide) (by decide), ec 59 (by decide) (by decide), eh 70 (by decide), eh 74 (by decide)]; exact htp
    · rw [ec 2 (by decide) (by decide), eh 70 (by decide)]; exact hfl
    · rw [e30, ec 16 (by decide) (by decide), ec 17 (by decide) (by decide), ec 18 (by decide) (by decide)]
      refine mo_B (B := B) (by omega) (mo_a (fun i hi => ea i (by omega) (by omega)) ?_)
      obtain ⟨m1, m2, m3, m4, m5, m6, m7⟩ := hmo
      refine ⟨m1.imp id (sk_h (by omega)), m2, m3, m4, m5, fun i i0 i1 => ?_, m7⟩
      have := m6 i i0 i1
      exact ⟨this.1, this.2.1, this.2.2.1, fun hh => this.2.2.2 (by omega)⟩
    · rw [e30, ec 19 (by decide) (by decide), ec 20 (by decide) (by decide)]
      exact tr_a (fun i hi => ea i (by omega) (by omega)) (tr_B (by omega) (by omega) (Int.le_refl _) htr)
    · exact im_B (by omega) (im_c him (fun a h1 h2 => ec a (by omega) (by omega)) (e3i 13 (by omega)) (fun t _ _ => by rw [ec 13 (by decide) (by decide)]) (eh 72 (by decide)))
theorem rl_told {g h g' h' : Sg} {T : TT} {tx : Int → TA} {B : Int} (hr : Rl g h T tx B) (ho : TO (g' 3) (g' 4) (g' 5) (g' 6) (g' 7) (g' 8) (g' 9) (g' 10) (g' 11) (g' 12) (g' 14) (g' 15) (h' 71)) (e30 : g' 3 0 = g 3 0) (e313 : g' 3 13 = g 3 13) (e13 : g' 13 = g 13) (eg : ∀ a, a < 3 ∨ 16 ≤ a → g' a = g a) (eh : ∀ a, a ≠ 71 → h' a = h a) (ea : ∀ i, i = 4 ∨ i = 5 ∨ i = 8 ∨ i = 11 ∨ (18 ≤ i ∧ i < 54) ∨ (242 ≤ i ∧ i < 248) ∨ 264 ≤ i → h' 71 i = h 71 i) : Rl g' h' T tx (B + 24) := by
  obtain ⟨hd, htp, hfl, hmo, htr, him⟩ := hr
  refine ⟨⟨ho, ?_⟩, ?_, ?_, ?_, ?_, ?_⟩
  · rw [e313, e13, eh 73 (by decide)]
    intro t t0 t1
    have := hd.2 t t0 t1
    exact ⟨tc_c this.1 (fun a ha => eg a (by omega)), this.2⟩
  · unfold Tp; rw [eg 2 (by omega), eg 59 (by omega), eh 70 (by decide), eh 74 (by decide)]; exact htp
  · rw [eg 2 (by omega), eh 70 (by decide)]; exact hfl
  · rw [e30, eg 16 (by omega), eg 17 (by omega), eg 18 (by omega)]
    exact mo_B (B := B) (by omega) (mo_a (fun i hi => ea i (by omega)) hmo)
  · rw [e30, eg 19 (by omega), eg 20 (by omega)]
    exact tr_a (fun i hi => ea i (by omega)) (tr_B (Int.le_refl _) (show B ≤ B + 24 by omega) (Int.le_refl _) htr)
  · exact im_B (show B ≤ B + 24 by omega) (im_c him (fun a h1 h2 => eg a (by omega)) e313 (fun t _ _ => by rw [e13]) (eh 72 (by decide)))
theorem o_deed {e : Nat} {g : Sg} {T : TT} {tx : Int → TA} {B x1 x2 x3 x4 x5 : Int} : Op (e + 60) 4 [aR 2, aI x1, aI x2, aI x3, aI x4, aI x5] 177 [aR 70, aI x1, aI x2, aI x3, aI x4, aI x5, aU] g T tx B := by
  refine op_i (fun h hr => ?_)
  have hn := hr.1.1.1.1
  have hdn := hr.1.1.1.2.1
  let ok : Prop := 0 ≤ x1 ∧ x1 < g 3 0 ∧ 0 ≤ x2 ∧ x2 ≤ 9 ∧ 0 ≤ x3 ∧ x3 ≤ 99 ∧ 0 ≤ x4 ∧ x4 ≤ 7 ∧ (x5 = -1 ∨ (0 ≤ x5 ∧ x5 < g 3 0 ∧ x1 ≠ x5)) ∧ g 3 2 < 24
  have no : ¬ ok → ∃ g', mk g T = mk g' T ∧ Cls g g' ∧ ∀ h, Rl g h T tx B → ∀ Q : Int → AM → Prop, (∀ h', Rfo h h' → Rl g' h' T tx (B + 24) → Q (-1) (mk h' T)) → wpI (e + 60) 177 0 [aR 70, aI x1, aI x2, aI x3, aI x4, aI x5, aU] [] (mk h T) Q := by
    intro hx
    refine ⟨g, rfl, cls_r g, fun h hr Q q => ?_⟩
    have hn := hr.1.1.1.1
    have hdn := hr.1.1.1.2.1
    have q := q h (rfo_r h) (rl_B (by omega) hr)
    have q : ∀ D, wpI D 177 71 [aR 70, aI x1, aI x2, aI x3, aI x4, aI x5, aU] [] (mk h T) Q := fun D => g_Mo_deed_71 q
    refine g_Mo_deed_0 ?_
    rw [hn.2.2, hdn.2.2, w32_id (x := g 3 0 - 1) (by omega) (by omega)]
    (repeat' (first | exact q _ | refine ci (fun _ => ?_) (fun _ => ?_))) <;> (exfalso; apply hx; show _ ∧ _; omega)
  have yes : ok → ∃ g', mk (up (up (up (up (up (up (up g 5 (g 3 2) x1) 6 (g 3 2) x2) 7 (g 3 2) x3) 8 (g 3 2) x4) 9 (g 3 2) x5) 10 (g 3 2) 0) 3 2 (g 3 2 + 1)) T = mk g' T ∧ Cls g g' ∧ ∀ h, Rl g h T tx B → ∀ Q : Int → AM → Prop, (∀ h', Rfo h h' → Rl g' h' T tx (B + 24) → Q (g 3 2) (mk h' T)) → wpI (e + 60) 177 0 [aR 70, aI x1, aI x2, aI x3, aI x4, aI x5, aU] [] (mk h T) Q := by
    rintro ⟨k1, k2, k3, k4, k5, k6, k7, k8, k9, k10⟩
    refine ⟨_, rfl, cls_u (cls_u (cls_u (cls_u (cls_u (cls_u (cls_u (cls_r g) (by omega) (by omega)) (by omega) (by omega)) (by omega) (by omega)) (by omega) (by omega)) (by omega) (by omega)) (by omega) (by omega)) (by omega) (by omega), fun h hr Q q => ?_⟩
    have hn := hr.1.1.1.1
    have hdn := hr.1.1.1.2.1
    refine g_Mo_deed_0 ?_
    rw [hn.2.2, hdn.2.2, w32_id (x := g 3 0 - 1) (by omega) (by omega), w32_id (x := 6 * g 3 2) (by omega) (by omega), w32_id (x := 90 + 6 * g 3 2) (by omega) (by omega), w32_id (x := 90 + 6 * g 3 2 + 1) (by omega) (by omega), w32_id (x := 90 + 6 * g 3 2 + 2) (by omega) (by omega), w32_id (x := 90 + 6 * g 3 2 + 3) (by omega) (by omega), w32_id (x := 90 + 6 * g 3 2 + 4) (by omega) (by omega), w32_id (x := 90 + 6 * g 3 2 + 5) (by omega) (by omega)]
    have u1 : up (up (up (up (up (up h 71 (90 + 6 * g 3 2) x1) 71 (90 + 6 * g 3 2 + 1) x2) 71 (90 + 6 * g 3 2 + 2) x3) 71 (90 + 6 * g 3 2 + 3) x4) 71 (90 + 6 * g 3 2 + 4) x5) 71 (90 + 6 * g 3 2 + 5) 0 71 1 = g 3 2 := by
      rw [up_i (by omega), up_i (by omega), up_i (by omega), up_i (by omega), up_i (by omega), up_i (by omega)]; exact hdn.2.2
    rw [u1]
    have fin : ∀ D, wpI D 177 154 [aR 70, aI x1, aI x2, aI x3, aI x4, aI x5, aI (90 + 6 * g 3 2)] [aI (g 3 2), aI 1, aR 71] (mk (up (up (up (up (up (up h 71 (90 + 6 * g 3 2) x1) 71 (90 + 6 * g 3 2 + 1) x2) 71 (90 + 6 * g 3 2 + 2) x3) 71 (90 + 6 * g 3 2 + 3) x4) 71 (90 + 6 * g 3 2 + 4) x5) 71 (90 + 6 * g 3 2 + 5) 0) T) Q := by
      intro D
      refine g_Mo_deed_154 (ct (by omega) ?_)
      rw [w32_id (x := g 3 2 + 1) (by omega) (by omega), up_s, w32_id (x := g 3 2 + 1 - 1) (by omega) (by omega), show g 3 2 + 1 - 1 = g 3 2 from by omega]
      refine q _ (rfo_u (rfo_u (rfo_u (rfo_u (rfo_u (rfo_u (rfo_u (rfo_r h) (by omega) (by omega)) (by omega) (by omega)) (by omega) (by omega)) (by omega) (by omega)) (by omega) (by omega)) (by omega) (by omega)) (by omega) (by omega)) ?_
      refine rl_told hr ?_ ?_ ?_ ?_ ?_ ?_ ?_
      · obtain ⟨⟨b1, b2, b3, b4, b5, b6, b7, b8⟩, b9, b10, b11, b12, b13⟩ := hr.1.1
        have ea : ∀ i, i ≠ 1 → (i < 90 + 6 * g 3 2 ∨ 90 + 6 * g 3 2 + 6 ≤ i) → up (up (up (up (up (up (up h 71 (90 + 6 * g 3 2) x1) 71 (90 + 6 * g 3 2 + 1) x2) 71 (90 + 6 * g 3 2 + 2) x3) 71 (90 + 6 * g 3 2 + 3) x4) 71 (90 + 6 * g 3 2 + 4) x5) 71 (90 + 6 * g 3 2 + 5) 0) 71 1 (g 3 2 + 1) 71 i = h 71 i := by
          intro i h1 h2
          rw [up_i (by omega), up_i (by omega), up_i (by omega), up_i (by omega), up_i (by omega), up_i (by omega), up_i (by omega)]
        have ev : ∀ i, 0 ≤ i → i < 6 → up (up (up (up (up (up (up h 71 (90 + 6 * g 3 2) x1) 71 (90 + 6 * g 3 2 + 1) x2) 71 (90 + 6 * g 3 2 + 2) x3) 71 (90 + 6 * g 3 2 + 3) x4) 71 (90 + 6 * g 3 2 + 4) x5) 71 (90 + 6 * g 3 2 + 5) 0) 71 1 (g 3 2 + 1) 71 (90 + 6 * g 3 2 + i) = if i = 0 then x1 else if i = 1 then x2 else if i = 2 then x3 else if i = 3 then x4 else if i = 4 then x5 else 0 := by
          intro i i0 i1
          rw [up_i (by omega)]
          rcases (by omega : i = 0 ∨ i = 1 ∨ i = 2 ∨ i = 3 ∨ i = 4 ∨ i = 5) with rfl | rfl | rfl | rfl | rfl | rfl
          · rw [up_i (by omega), up_i (by omega), up_i (by omega), up_i (by omega), up_i (by omega), Int.add_zero, up_s]; rfl
          · rw [up_i (by omega), up_i (by omega), up_i (by omega), up_i (by omega), up_s]; rfl
          · rw [up_i (by omega), up_i (by omega), up_i (by omega), up_s]; rfl
          · rw [up_i (by omega), up_i (by omega), up_s]; rfl
          · rw [up_i (by omega), up_s]; rfl
          · rw [up_s]; rfl
        have e1 : up (up (up (up (up (up (up h 71 (90 + 6 * g 3 2) x1) 71 (90 + 6 * g 3 2 + 1) x2) 71 (90 + 6 * g 3 2 + 2) x3) 71 (90 + 6 * g 3 2 + 3) x4) 71 (90 + 6 * g 3 2 + 4) x5) 71 (90 + 6 * g 3 2 + 5) 0) 71 1 (g 3 2 + 1) 71 1 = g 3 2 + 1 := up_s _ _ _ _
        generalize up (up (up (up (up (up (up h 71 (90 + 6 * g 3 2) x1) 71 (90 + 6 * g 3 2 + 1) x2) 71 (90 + 6 * g 3 2 + 2) x3) 71 (90 + 6 * g 3 2 + 3) x4) 71 (90 + 6 * g 3 2 + 4) x5) 71 (90 + 6 * g 3 2 + 5) 0) 71 1 (g 3 2 + 1) = h' at *
        unfold TO
        simp only [up, if_true, if_false, true_and, false_and, Int.reduceEq, and_true]
        rw [ea 0 (by omega) (by omega), ea 2 (by omega) (by omega), ea 3 (by omega) (by omega), ea 6 (by omega) (by omega), ea 7 (by omega) (by omega), ea 9 (by omega) (by omega), ea 10 (by omega) (by omega), e1]
        refine ⟨by omega, ?_, ?_, ?_, ?_, ?_⟩
        · intro i i0 i1; rw [ea _ (by omega) (by omega)]; exact b9 i i0 i1
        · intro d d0 d1
          by_cases qd : d = g 3 2
          · subst qd
            have v0 := ev 0 (by omega) (by omega)
            have v1 := ev 1 (by omega) (by omega)
            have v2 := ev 2 (by omega) (by omega)
            have v3 := ev 3 (by omega) (by omega)
            have v4 := ev 4 (by omega) (by omega)
            have v5 := ev 5 (by omega) (by omega)
            simp only [if_true, if_false, Int.reduceEq] at v0 v1 v2 v3 v4 v5 ⊢
            rw [v0, v1, v2, v3, v4, v5]
            omega
          · rw [ea (90 + 6 * d + 0) (by omega) (by omega), ea (90 + 6 * d + 1) (by omega) (by omega), ea (90 + 6 * d + 2) (by omega) (by omega), ea (90 + 6 * d + 3) (by omega) (by omega), ea (90 + 6 * d + 4) (by omega) (by omega), ea (90 + 6 * d + 5) (by omega) (by omega)]
            simp only [if_neg qd]
            exact b10 d d0 (by omega)
        · intro i i0 i1; rw [ea _ (by omega) (by omega)]; exact b11 i i0 i1
        · intro i i0 i1; rw [ea _ (by omega) (by omega)]; exact b12 i i0 i1
        · intro i i0 i1; rw [ea _ (by omega) (by omega), ea _ (by omega) (by omega)]; exact b13 i i0 i1
      · simp [up]
      · simp [up]
      · funext i; simp [up]
      · intro a ha; rw [up_c (by omega), up_c (by omega), up_c (by omega), up_c (by omega), up_c (by omega), up_c (by omega), up_c (by omega)]
      · intro a ha; rw [up_c ha, up_c ha, up_c ha, up_c ha, up_c ha, up_c ha, up_c ha]
      · intro i hi; rw [up_i (by omega), up_i (by omega), up_i (by omega), up_i (by omega), up_i (by omega), up_i (by omega), up_i (by omega)]
    rcases k9 with k9 | ⟨k9, k11, k12⟩
    · (repeat' (first | exact fin _ | refine ct (by omega) ?_ | refine cf (by omega) ?_))
    · (repeat' (first | exact fin _ | refine ct (by omega) ?_ | refine cf (by omega) ?_))
  have mid : 0 ≤ x1 ∧ x1 < g 3 0 ∧ 0 ≤ x2 ∧ x2 ≤ 9 ∧ 0 ≤ x3 ∧ x3 ≤ 99 ∧ 0 ≤ x4 ∧ x4 ≤ 7 ∧ (x5 = -1 ∨ (0 ≤ x5 ∧ x5 < g 3 0 ∧ x1 ≠ x5)) → wpI (e + 59) 57 0 [aR 3, aI x1, aI x2, aI x3, aI x4, aI x5] [] (mk g T) (fun r M' => wpI (e + 59 + 1) 4 76 [aR 2, aI x1, aI x2, aI x3, aI x4, aI x5] [aI r] M' (fun r M' => ∃ g', M' = mk g' T ∧ Cls g g' ∧ ∀ h, Rl g h T tx B → ∀ Q : Int → AM → Prop, (∀ h', Rfo h h' → Rl g' h' T tx (B + 24) → Q r (mk h' T)) → wpI (e + 60) 177 0 [aR 70, aI x1, aI x2, aI x3, aI x4, aI x5, aU] [] (mk h T) Q)) := by
    intro hk
    refine g_Told_addDeed_0 (ci (fun hc => ?_) (fun hc => g_Af_deed_76 (no (fun o => hc o.2.2.2.2.2.2.2.2.2))))
    rw [w32_id (x := g 3 2 + 1) (by omega) (by omega), w32_id (x := g 3 2 + 1 - 1) (by omega) (by omega), show g 3 2 + 1 - 1 = g 3 2 from by omega]
    refine ct (by omega) (ct (by omega) (ct (by omega) (ct (by omega) (ct (by omega) (ct (by omega) (g_Af_deed_76 (yes ?_)))))))
    show _ ∧ _; omega
  refine g_Af_deed_0 ?_
  (repeat' (first | (refine no (fun o => ?_); have o : 0 ≤ x1 ∧ x1 < g 3 0 ∧ 0 ≤ x2 ∧ x2 ≤ 9 ∧ 0 ≤ x3 ∧ x3 ≤ 99 ∧ 0 ≤ x4 ∧ x4 ≤ 7 ∧ (x5 = -1 ∨ (0 ≤ x5 ∧ x5 < g 3 0 ∧ x1 ≠ x5)) ∧ g 3 2 < 24 := o; omega) | exact mid (by omega) | refine ci (fun _ => ?_) (fun _ => ?_)))
end
