noncomputable section
/-- an entry of the book is written -/
theorem vd_0 {g : Sg} {c3 : List (Int × Int)} {h shown : Int} (q : VD g c3 h shown = 0) : g 4 h < shown := by
  unfold VD at q
  by_cases c : g 4 h < shown
  · exact c
  · rw [if_neg c] at q
    by_cases c' : w32 (shown + UPF g c3 h) < g 4 h
    · rw [if_pos c'] at q; omega
    · rw [if_neg c'] at q; omega
theorem mo_w {g : Sg} {m l p p' a a' : Int → Int} {hs B v : Int} (h : MO m l p hs a B) (hk : SK hs m) (hf : 0 ≤ g 4 (m 0) ∧ g 4 (m 0) ≤ 999) (hv : v = 0 → g 4 (m 0) < m 2) (a242 : a' 242 = -1) (a4 : a' 4 = ilM g v m) (a11 : a' 11 = a 11 + 1) (aw : ∀ w, 0 ≤ w → w < 5 → a' (1704 + 5 * (a 11 % 768) + w) = enM m v w) (ao : ∀ i, i ≠ 4 → i ≠ 11 → i ≠ 242 → (i < 1704 + 5 * (a 11 % 768) ∨ 1704 + 5 * (a 11 % 768) + 5 ≤ i) → a' i = a i) (hp : ∀ i w, 0 ≤ i → i < min (m 8 + 1) 30 → 0 ≤ w → w < 5 → p' (i * 5 + w) = if i = min (m 8 + 1) 30 - 1 then enM m v w else p ((i + (m 8 + 1 - min (m 8 + 1) 30)) * 5 + w)) : MO (clM g v m) l p' hs a' (B + 1) := by
  obtain ⟨h1, h2, h3, h4, h5, h6, h7⟩ := h
  have hb := sk_b hk
  have c6 : clM g v m 6 = ilM g v m := rfl
  have c7 : clM g v m 7 = m 7 := rfl
  have c8 : clM g v m 8 = min (m 8 + 1) 30 := rfl
  have hil : 0 ≤ ilM g v m ∧ ilM g v m ≤ 9999 := by
    unfold ilM
    by_cases q : v = 0
    · have := hv q
      rw [if_pos q, w32_id (x := m 6 + m 2) (by omega) (by omega), w32_id (by omega) (by omega)]; omega
    · rw [if_neg q]; omega
  refine ⟨Or.inl rfl, ?_, ?_, ?_, ?_, ?_, ?_⟩
  · intro i i0 i1
    unfold clM
    by_cases q : i = 0
    · rw [if_pos q, q]; exact a242
    · rw [if_neg q, if_neg (by omega), if_neg (by omega), ao _ (by omega) (by omega) (by omega) (by omega)]; exact h2 i i0 i1
  · rw [c6]; exact ⟨hil.1, hil.2, a4⟩
  · rw [c7, ao 5 (by omega) (by omega) (by omega) (by omega)]; exact h4
  · rw [c8, a11]; omega
  · intro i i0 i1; rw [ao _ (by omega) (by omega) (by omega) (by omega)]; exact h6 i i0 i1
  · rw [c8, a11]
    intro i w i0 i1 w0 w1
    rw [hp i w i0 i1 w0 w1]
    by_cases q : i = min (m 8 + 1) 30 - 1
    · rw [if_pos q, show a 11 + 1 - min (m 8 + 1) 30 + i = a 11 from by omega, aw w w0 w1]
    · rw [if_neg q, h7 _ w (by omega) (by omega) w0 w1, show a 11 - m 8 + (i + (m 8 + 1 - min (m 8 + 1) 30)) = a 11 + 1 - min (m 8 + 1) 30 + i from by omega, ao _ (by omega) (by omega) (by omega) (by omega)]
theorem tr_w {t c a a' : Int → Int} {hs B e : Int} (h : TRl t c a hs B e) (he : 1 ≤ e) (ha : 0 ≤ a 11) (a11 : a' 11 = a 11 + 1) (ao : ∀ i, i ≠ 4 → i ≠ 11 → i ≠ 242 → (i < 1704 + 5 * (a 11 % 768) ∨ 1704 + 5 * (a 11 % 768) + 5 ≤ i) → a' i = a i) : TRl t c a' hs (B + 1) (e - 1) := by
  obtain ⟨h1, h2, h3, h4, h5⟩ := h
  refine ⟨by rw [ao 8 (by omega) (by omega) (by omega) (by omega)]; exact h1, h2, ?_, ?_, ?_⟩
  · intro j j0 j1
    have hd := h5 j j0 j1
    have er : ∀ i, 0 ≤ i → i < 48 → a' (264 + 48 * j + i) = a (264 + 48 * j + i) := fun i i0 i1 => ao _ (by omega) (by omega) (by omega) (by omega)
    obtain ⟨s1, s2, s3, s4, s5, s6, s7, s8⟩ := h3 j j0 j1
    dsimp only at s2 s3 s4 s5 s6 s7 s8
    refine ⟨s1, ?_, ?_, ?_, ?_, ?_, ?_, ?_⟩ <;> dsimp only
    · intro i i0 i1; rw [er _ (by omega) (by omega)]; exact s2 i i0 i1
    · rw [er _ (by omega) (by omega)]; exact s3
    · rw [er _ (by omega) (by omega)]; exact s4
    · rw [er _ (by omega) (by omega)]; omega
    · rw [er _ (by omega) (by omega)]; exact s6
    · intro i i0 i1; rw [er 0 (by omega) (by omega), er (7 + i) (by omega) (by omega)]; exact s7 i i0 i1
    · rw [er _ (by omega) (by omega)]
      intro i w i0 i1 w0 w1
      rw [ao _ (by omega) (by omega) (by omega) (by omega)]
      exact s8 i w i0 i1 w0 w1
  · intro i j i0 i1 j1
    rw [ao _ (by omega) (by omega) (by omega) (by omega), ao _ (by omega) (by omega) (by omega) (by omega)]; exact h4 i j i0 i1 j1
  · intro i i0 i1
    rw [a11, ao _ (by omega) (by omega) (by omega) (by omega)]
    have := h5 i i0 i1
    omega
theorem o_judged {e : Nat} {g : Sg} {T : TT} {tx : Int → TA} {B : Int} (hB : B ≤ 1000000) : Op (e + 60) 20 [aR 2] 247 [aR 70] g T tx B := by
  refine op_l (fun h hr => ?_)
  have ht := hr.2.2.2.2.1
  have hsk := hr.2.2.2.1.1
  have h5 := hr.2.2.2.1.2.2.2.2.1
  have hn := hr.1.1.1.1
  refine g_Af_judged_0 (ci (fun c => lf_n (fun h hr Q q => g_Mo_judged_0 ?_)) (fun c => ?_))
  · rw [show h 71 242 = g 16 0 from hr.2.2.2.1.2.1 0 (by omega) (by omega)]; exact ct c q
  have hsk := hsk.resolve_left c
  refine c_keep ⟨ht.1.1, ht.1.2.1⟩ ht.2.1 (fun g1 ck => ?_)
  have e3 := ck.1 3 (by decide)
  have e16 := ck.1 16 (by decide)
  have evd : VD g1 = VD g := by
    funext a b c; unfold VD UPF
    rw [ck.1 4 (by decide), show unm g1 b = unm g b from by funext v; unfold unm; rw [ck.1 4 (by decide), dof_c (ck.1 5 (by decide)), e3]]
  refine g_Af_judged_24 (c_close (td_ck hr.1 ck) (by rw [e16]; exact hsk.1.1) (by rw [e16, e3]; exact hsk.1.2) (by rw [e16]; omega) (fun g2 hs hm hp => g_Af_judged_31 ?_))
  rw [evd, e16, ra_c tx e3] at hm
  rw [evd, e16, ra_c tx e3, ck.1 18 (by decide)] at hp
  rw [evd, e16, ra_c tx e3]
  have hil : clM g1 = clM g := by funext a b i; unfold clM ilM; rw [ck.1 4 (by decide)]
  rw [hil] at hm
  refine lf_c (fun a ha => by rw [hs a (by simp; omega), ck.1 a (by simp; omega)]) (fun h hr Q q => g_Mo_judged_0 ?_)
  rw [show h 71 242 = g 16 0 from hr.2.2.2.1.2.1 0 (by omega) (by omega)]
  refine cf c (r_keep (by rw [hr.2.2.2.2.1.1.2.2]; exact ⟨ht.1.1, ht.1.2.1⟩) (fun h1 rk => ?_))
  have h5 := hr.2.2.2.1.2.2.2.2.1
  have k11 : h1 71 11 = h 71 11 := rk.2.1 11 (by omega)
  refine g_Mo_judged_18 (r_judgeNow (γ := g) (m := g 16) (td_rk hr.1 rk) (fun i i0 i1 => ?_) hsk.1.1 hsk.1.2 ?_ (by rw [k11]; omega) (fun h2 hs2 b1 b2 b3 b4 b5 => ?_))
  · rw [rk.2.1 _ (by omega)]; exact hr.2.2.2.1.2.1 i i0 i1
  · rw [rk.2.1 _ (by omega)]; exact hr.2.2.2.1.2.2.1.2.2
  · refine g_Mo_judged_22 (q h2 (fun a ha => by rw [hs2 a (by simp; omega), rk.1 a (by simp; omega)]) ?_)
    have hx : ∀ a, a ≠ 16 → a ≠ 18 → a ≠ 19 → a ≠ 20 → a ≠ 40 → a ≠ 41 → g2 a = g a := by
      intro a h1 h2 h3 h4 h5 h6
      rw [hs a (by simp; omega), ck.1 a (by simp; omega)]
    have hy : ∀ a, a ≠ 71 → a ≠ 76 → a ≠ 77 → h2 a = h a := by
      intro a q1 q2 q3
      rw [hs2 a (by simp; omega), rk.1 a (by simp; omega)]
    have hf := hr.1.1.2.1 (g 16 0) hsk.1.1 hsk.1.2
    refine rl_mom hr (fun a ha => hx a (by omega) (by omega) (by omega) (by omega) (by omega) (by omega)) (fun a q1 q2 => hy a (by omega) (by omega) (by omega)) (fun i q1 q2 => by rw [hy 70 (by decide) (by decide) (by decide)]) (fun i hi => by rw [b5 i (by omega) (by omega) (by omega) (by omega), rk.2.1 i (by omega)]) ?_ ?_
    · rw [hm, hx 17 (by decide) (by decide) (by decide) (by decide) (by decide) (by decide)]
      have hm1 : MO (g 16) (g 17) (g 18) (g 3 0) (h1 71) B := mo_a (fun i hi => rk.2.1 i (by omega)) hr.2.2.2.1
      exact mo_B (show B + 1 ≤ B + 24 by omega) (mo_w hm1 hsk ⟨hf.1, hf.2.1⟩ vd_0 b1 b2 b3 b4 b5 hp)
    · rw [hs 19 (by decide), hs 20 (by decide)]
      have := tr_keep hr.2.2.2.2.1 hr.2.2.2.1 hr.1.1.1.1.2.2 hr.1.1.1.1.1 ck rk
      exact tr_B (Int.le_refl _) (show B + 1 ≤ B + 24 by omega) (by omega) (tr_w this (by omega) (by rw [k11]; exact h5.1) b3 b5)
end
