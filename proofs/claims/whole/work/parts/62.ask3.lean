noncomputable section
/-! the tape is fed -/
theorem bA_255 (x : Int) : bA x 255 = x % 256 := by
  rw [bA_d]; unfold bAc
  rw [u32_n (x := 255) (by omega) (by omega), show (255 : Int).toNat = 2 ^ 8 - 1 from rfl, Nat.and_two_pow_sub_one_eq_mod]
  unfold u32 w32; omega
def ext (c : Int → Int) (n v : Int) : Int → Int := fun i => if n ≤ i ∧ i < n + 4 then sR v (24 - 8 * (i - n)) % 256 else c i
theorem c_feedFour {d : Nat} {σ : Sg} {T : TT} {P : AM → Prop} {v n : Int} {c : Int → Int} (hn : σ 2 13 = n) (n0 : 0 ≤ n) (n1 : n + 4 ≤ 300) (hc : ∀ i, 0 ≤ i → i < n → σ 59 i % 256 = c i) (k : ∀ s, Sm [2, 59] σ s → (∀ i, i ≠ 13 → s 2 i = σ 2 i) → s 2 13 = n + 4 → (∀ i, 0 ≤ i → i < n + 4 → s 59 i % 256 = ext c n v i) → P (mk s T)) : wpV d 11 0 [aR 2, aI v, aU] [] (mk σ T) P := by
  refine g_Af_feedFour_0 ?_
  have lp : wpV d 11 3 [aR 2, aI v, aI (24 - 8 * 0)] [] (mk σ T) P := by
    refine for_up (n := 4) (Hd := fun j s => wpV d 11 3 [aR 2, aI v, aI (24 - 8 * j)] [] (mk s T) P) (Inv := fun j s => Sm [2, 59] σ s ∧ (∀ i, i ≠ 13 → s 2 i = σ 2 i) ∧ s 2 13 = n + j ∧ (∀ i, 0 ≤ i → i < n + j → s 59 i % 256 = ext c n v i)) ?_ ?_ ⟨sm_r _ _, fun _ _ => rfl, by omega, fun i i0 i1 => ?_⟩ (by omega)
    · rintro j s j0 j1 ⟨q1, q2, q3, q4⟩ ih
      refine g_Af_feedFour_3 ?_
      rw [q3, w32_id (x := 24 - 8 * j + -8) (by omega) (by omega), w32_id (x := n + j + 1) (by omega) (by omega), show 24 - 8 * j + -8 = 24 - 8 * (j + 1) from by omega]
      refine cf (by omega) (ct (by omega) (ct (by omega) (ih _ ⟨sm_u (sm_u q1 (by simp)) (by simp), fun i hi => ?_, ?_, fun i i0 i1 => ?_⟩)))
      · rw [up_i hi, up_c (by decide)]; exact q2 i hi
      · rw [up_s]; omega
      · rw [up_c (by decide), up_e]
        by_cases q : i = n + j
        · rw [if_pos q]; unfold ext; rw [if_pos (by omega), q, show n + j - n = j from by omega]; unfold w8; omega
        · rw [if_neg q]; exact q4 i i0 (by omega)
    · rintro s ⟨q1, q2, q3, q4⟩
      exact g_Af_feedFour_3 (ct (by omega) (k s q1 q2 q3 q4))
    · unfold ext; rw [if_neg (by omega)]; exact hc i i0 (by omega)
  exact lp
theorem r_four {d : Nat} {σ : Sg} {T : TT} {P : AM → Prop} {v n : Int} {c : Int → Int} (hn : σ 70 4 = n) (n0 : 0 ≤ n) (n1 : n + 4 ≤ 300) (hc : ∀ i, 0 ≤ i → i < n → σ 74 i = c i) (k : ∀ s, Sm [70, 74] σ s → (∀ i, i ≠ 4 → s 70 i = σ 70 i) → s 70 4 = n + 4 → (∀ i, 0 ≤ i → i < n + 4 → s 74 i = ext c n v i) → P (mk s T)) : wpV d 186 0 [aR 70, aI v, aU] [] (mk σ T) P := by
  refine g_Mo_four_0 ?_
  have lp : wpV d 186 3 [aR 70, aI v, aI (24 - 8 * 0)] [] (mk σ T) P := by
    refine for_up (n := 4) (Hd := fun j s => wpV d 186 3 [aR 70, aI v, aI (24 - 8 * j)] [] (mk s T) P) (Inv := fun j s => Sm [70, 74] σ s ∧ (∀ i, i ≠ 4 → s 70 i = σ 70 i) ∧ s 70 4 = n + j ∧ (∀ i, 0 ≤ i → i < n + j → s 74 i = ext c n v i)) ?_ ?_ ⟨sm_r _ _, fun _ _ => rfl, by omega, fun i i0 i1 => ?_⟩ (by omega)
    · rintro j s j0 j1 ⟨q1, q2, q3, q4⟩ ih
      refine g_Mo_four_3 ?_
      rw [q3, w32_id (x := 24 - 8 * j + -8) (by omega) (by omega), w32_id (x := n + j + 1) (by omega) (by omega), show 24 - 8 * j + -8 = 24 - 8 * (j + 1) from by omega, bA_255]
      refine cf (by omega) (ct (by omega) (ih _ ⟨sm_u (sm_u q1 (by simp)) (by simp), fun i hi => ?_, ?_, fun i i0 i1 => ?_⟩))
      · rw [up_i hi, up_c (by decide)]; exact q2 i hi
      · rw [up_s]; omega
      · rw [up_c (by decide), up_e]
        by_cases q : i = n + j
        · rw [if_pos q]; unfold ext; rw [if_pos (by omega), q, show n + j - n = j from by omega]
        · rw [if_neg q]; exact q4 i i0 (by omega)
    · rintro s ⟨q1, q2, q3, q4⟩
      exact g_Mo_four_3 (ct (by omega) (k s q1 q2 q3 q4))
    · unfold ext; rw [if_neg (by omega)]; exact hc i i0 (by omega)
  exact lp
theorem o_feed {e : Nat} {g : Sg} {T : TT} {tx : Int → TA} {B x1 x2 x3 x4 x5 : Int} : Op (e + 60) 10 [aR 2, aI x1, aI x2, aI x3, aI x4, aI x5] 185 [aR 70, aI x1, aI x2, aI x3, aI x4, aI x5] g T tx B := by
  refine op_l (fun h hr => ?_)
  have hb1 := hr.2.1.2.1
  have hb2 := hr.2.1.2.2.1
  refine g_Af_feed_0 ?_
  rw [w32_id (x := g 2 13 + 20) (by omega) (by omega)]
  refine ci (fun c => lf_n (fun h hr Q q => g_Mo_feed_0 ?_)) (fun c => ?_)
  · rw [hr.2.1.1, w32_id (x := g 2 13 + 20) (by omega) (by omega)]; exact ct c q
  refine c_feedFour (n := g 2 13) (c := fun i => g 59 i % 256) rfl (by omega) (by omega) (fun _ _ _ => rfl) (fun s1 a1 a2 a3 a4 => g_Af_feed_20 ?_)
  refine c_feedFour a3 (by omega) (by omega) a4 (fun s2 b1 b2 b3 b4 => g_Af_feed_25 ?_)
  refine c_feedFour b3 (by omega) (by omega) b4 (fun s3 d1 d2 d3 d4 => g_Af_feed_30 ?_)
  refine c_feedFour d3 (by omega) (by omega) d4 (fun s4 f1 f2 f3 f4 => g_Af_feed_36 ?_)
  refine c_feedFour f3 (by omega) (by omega) f4 (fun s5 k1 k2 k3 k4 => g_Af_feed_42 ?_)
  rw [k3]
  have ks : Sm [2, 59] g s5 := sm_t a1 (sm_t b1 (sm_t d1 (sm_t f1 k1)))
  have ks2 : ∀ i, i ≠ 13 → s5 2 i = g 2 i := fun i hi => by rw [k2 i hi, f2 i hi, d2 i hi, b2 i hi, a2 i hi]
  refine lf_c (fun a ha => ks a (by simp; omega)) (fun h hr Q q => g_Mo_feed_0 ?_)
  obtain ⟨q1, q2, q3, q4, q5, q6⟩ := rl_B (show B ≤ B + 24 by omega) hr
  rw [q2.1, w32_id (x := g 2 13 + 20) (by omega) (by omega)]
  refine cf c ?_
  refine r_four (n := g 2 13) (c := fun i => g 59 i % 256) q2.1 (by omega) (by omega) q2.2.2.2 (fun t1 a1 a2 a3 a4 => g_Mo_feed_20 ?_)
  refine r_four a3 (by omega) (by omega) a4 (fun t2 b1 b2 b3 b4 => g_Mo_feed_25 ?_)
  refine r_four b3 (by omega) (by omega) b4 (fun t3 d1 d2 d3 d4 => g_Mo_feed_30 ?_)
  refine r_four d3 (by omega) (by omega) d4 (fun t4 f1 f2 f3 f4 => g_Mo_feed_36 ?_)
  refine r_four f3 (by omega) (by omega) f4 (fun t5 l1 l2 l3 l4 => g_Mo_feed_42 ?_)
  rw [l3]
  have ls : Sm [70, 74] h t5 := sm_t a1 (sm_t b1 (sm_t d1 (sm_t f1 l1)))
  have ls2 : ∀ i, i ≠ 4 → t5 70 i = h 70 i := fun i hi => by rw [l2 i hi, f2 i hi, d2 i hi, b2 i hi, a2 i hi]
  refine q t5 (fun a ha => ls a (by simp; omega)) ?_
  refine ⟨td_c q1 (fun a ha => ks a (by simp; omega)) (ls 71 (by decide)) (ls 73 (by decide)), ?_, ?_, ?_, ?_, ?_⟩
  · refine ⟨by rw [l3, k3], by rw [k3]; omega, by rw [k3]; omega, ?_⟩
    rw [k3]
    intro i i0 i1
    rw [l4 i i0 i1, k4 i i0 i1]
  · rw [ks2 14 (by decide), ks2 15 (by decide), ls2 5 (by decide), ls2 6 (by decide)]; exact q3
  · rw [ks 16 (by decide), ks 17 (by decide), ks 18 (by decide), ks 3 (by decide), ls 71 (by decide)]; exact q4
  · rw [ks 19 (by decide), ks 20 (by decide), ks 3 (by decide), ls 71 (by decide)]; exact q5
  · exact im_c q6 (fun a h1 h2 => ks a (by simp; omega)) (by rw [ks 3 (by decide)]) (fun t _ _ => by rw [ks 13 (by decide)]) (ls 72 (by decide))
/-- laws that fit what is known -/
def FTp (g : Sg) (cd : List (Int × Int)) (i : Int) : Prop := ∀ k, 0 ≤ k → k < i → BU g cd (g 14 k) (g 3 2) = g 15 k
theorem c_fitsAll {d : Nat} {σ η : Sg} {T : TT} {tx : Int → TA} {P : Int → AM → Prop} {r : Int} {A : TA} (ht : Td σ η T tx) (hx : Lx σ T r A) (k1 : FTp σ (A.1 0) (σ 3 16) → ∀ s, Sm [40, 41] σ s → P 1 (mk s T)) (k0 : ¬ FTp σ (A.1 0) (σ 3 16) → ∀ s, Sm [40, 41] σ s → P 0 (mk s T)) : wpI (d + 5) 134 0 [aR 55, aR r, aU] [] (mk σ T) P := by
  have hk := ht.1.1.2.2.2.2.2.2.1
  refine g_Fits_fitsAll_55_s_0 ?_
  refine for_up (n := σ 3 16) (Hd := fun i s => wpI (d + 5) 134 2 [aR 55, aR r, aI i] [] (mk s T) P) (Inv := fun i s => Sm [40, 41] σ s ∧ FTp σ (A.1 0) i) ?_ ?_ ⟨sm_r _ _, fun k _ _ => by omega⟩ hk.1
  · rintro i s i0 i1 ⟨hs, hf⟩ ih
    refine g_Fits_fitsAll_55_s_2 ?_
    have e3 := hs 3 (by decide)
    rw [e3, hs 14 (by decide)]
    refine ct i1 (ct (by omega) (c_burdenBy (td_m ht hs (by decide)) (lx_c hx (fun a ha => hs a (by simp; omega))) (fun s' hs' => g_Fits_fitsAll_55_s_30 (ct (by omega) ?_))))
    rw [hs' 15 (by decide), hs 15 (by decide), bu_c (hs 5 (by decide)) (wg_m hs (by decide)), e3, w32_id (x := i + 1) (by omega) (by omega)]
    refine ci (fun c => ih s' ⟨sm_t hs hs', fun k k0 k1 => ?_⟩) (fun c => k0 (fun w => c (w i i0 i1)) s' (sm_t hs hs'))
    by_cases q : k = i
    · subst q; exact c
    · exact hf k k0 (by omega)
  · rintro s ⟨hs, hf⟩
    refine g_Fits_fitsAll_55_s_2 ?_
    rw [hs 3 (by decide)]
    exact cf (by omega) (k1 hf s hs)
theorem r_isFitting {d : Nat} {γ σ : Sg} {T : TT} {tx : Int → TA} {P : Int → AM → Prop} {t : Int} {cd : List (Int × Int)} (ht : Td γ σ T tx) (hx : Rx (σ 73) t 0 cd) (k1 : FTp γ cd (γ 3 16) → ∀ s, Sm [76, 77] σ s → P 1 (mk s T)) (k0 : ¬ FTp γ cd (γ 3 16) → ∀ s, Sm [76, 77] σ s → P 0 (mk s T)) : wpI (d + 6) 290 0 [aR 70, aI t, aU, aU, aU] [] (mk σ T) P := by
  have hk := ht.1.1.2.2.2.2.2.2.1
  have hd := ht.1.1.2.1
  refine g_Mo_isFitting_0 ?_
  suffices lp : ∀ l3 l4 : AV, wpI (d + 6) 290 2 [aR 70, aI t, aI 0, l3, l4] [] (mk σ T) P from lp aU aU
  refine for_up (n := γ 3 16) (Hd := fun i s => ∀ l3 l4 : AV, wpI (d + 6) 290 2 [aR 70, aI t, aI i, l3, l4] [] (mk s T) P) (Inv := fun i s => Sm [76, 77] σ s ∧ FTp γ cd i) ?_ ?_ ⟨sm_r _ _, fun k _ _ => by omega⟩ hk.1
  · rintro i s i0 i1 ⟨hs, hf⟩ ih l3 l4
    have hkk := ht.1.2.2.2.2.2 i i0 i1
    refine g_Mo_isFitting_2 ?_
    rw [hs 71 (by decide), hk.2.2]
    refine ct i1 ?_
    refine for_up (n := γ 3 2) (Hd := fun j s => wpI (d + 6) 290 18 [aR 70, aI t, aI i, aI (BU γ cd (γ 14 i) j), aI j] [] (mk s T) P) (Inv := fun _ s => Sm [76, 77] σ s) ?_ ?_ hs hd.1
    · intro j s j0 j1 hs ihj
      obtain ⟨a1, _⟩ := ht.1.2.2.1 j j0 j1
      have hb := bu_b ht cd (γ 14 i) j0 (by omega)
      refine g_Mo_isFitting_18 ?_
      rw [hs 71 (by decide), w32_id (x := 6 * j) (by omega) (by omega), w32_id (x := 90 + 6 * j) (by omega) (by omega), w32_id (x := 90 + 6 * j + 0) (by omega) (by omega), a1.2.2, hd.2.2, w32_id (x := 2 * i) (by omega) (by omega), w32_id (x := 248 + 2 * i) (by omega) (by omega), hkk.2.2.2.2.1, w32_id (x := j + 1) (by omega) (by omega), Int.add_zero (BU γ cd (γ 14 i) j), w32_id (x := BU γ cd (γ 14 i) j) (by omega) (by omega)]
      refine ct j1 (ct (by omega) (ct (by omega) (ci (fun c => ?_) (fun c => ?_))))
      · refine c_weightBy (td_s ht hs (by decide) (by decide)) (by rw [hs 73 (by decide)]; exact hx) j0 j1 (fun s' hs' => g_Mo_isFitting_59 ?_)
        have q := ihj s' (sm_t hs hs')
        rw [bu_s j0, if_pos c] at q
        rw [w32_id (x := j + 1) (by omega) (by omega)]; exact q
      · have q := ihj s hs
        rw [bu_s j0, if_neg c] at q; exact q
    · intro s hs
      refine g_Mo_isFitting_18 ?_
      rw [hs 71 (by decide), hd.2.2, w32_id (x := 2 * i) (by omega) (by omega), w32_id (x := 248 + 2 * i) (by omega) (by omega), w32_id (x := 248 + 2 * i + 1) (by omega) (by omega), hkk.2.2.2.2.2, w32_id (x := i + 1) (by omega) (by omega)]
      refine cf (by omega) (ct (by omega) (ci (fun c => ih s ⟨hs, fun k k0 k1 => ?_⟩ _ _) (fun c => k0 (fun w => c (w i i0 i1)) s hs)))
      by_cases q : k = i
      · subst q; exact c
      · exact hf k k0 (by omega)
  · rintro s ⟨hs, hf⟩ l3 l4
    refine g_Mo_isFitting_2 ?_
    rw [hs 71 (by decide), hk.2.2]
    exact cf (by omega) (k1 hf s hs)
def FTs (g : Sg) (tx : Int → TA) (t s : Int) : Int := @ite _ (FTp g ((tx t).1 0) (g 3 16)) (Classical.propDecidable _) (bO s (sL 1 t)) s
def FT (g : Sg) (tx : Int → TA) (i : Int) : Int := it (FTs g tx) 0 i
theorem ft_p {g : Sg} {tx : Int → TA} {t s : Int} (h : FTp g ((tx t).1 0) (g 3 16)) : FTs g tx t s = bO s (sL 1 t) := @if_pos _ (Classical.propDecidable _) h _ _ _
theorem ft_n {g : Sg} {tx : Int → TA} {t s : Int} (h : ¬ FTp g ((tx t).1 0) (g 3 16)) : FTs g tx t s = s := @if_neg _ (Classical.propDecidable _) h _ _ _
theorem ft_b (g : Sg) (tx : Int → TA) {i : Int} (i0 : 0 ≤ i) (i1 : i ≤ 4) : 0 ≤ FT g tx i ∧ FT g tx i < 16 := by
  refine it_inv (n := 4) (Q := fun _ s => 0 ≤ s ∧ s < 16) (by omega) ?_ i i0 i1
  intro j s j0 j1 hs
  by_cases q : FTp g ((tx j).1 0) (g 3 16)
  · rw [ft_p q]
    have := sL_lt (k := j) (n := 4) j0 j1 (by omega)
    exact bO_b (n := 4) (by omega) hs.1 hs.2 (by omega) this.2
  · rw [ft_n q]; exact hs
theorem c_fit {d : Nat} {σ η : Sg} {T : TT} {tx : Int → TA} {P : Int → AM → Prop} (ht : Td σ η T tx) (k : ∀ s, Sm [40, 41] σ s → P (FT σ tx (σ 3 13)) (mk s T)) : wpI (d + 6) 133 0 [aR 55, aU, aU] [] (mk σ T) P := by
  have h13 := ht.1.1.2.2.2.2.1
  refine g_Fits_fittingTexts_0 ?_
  refine for_up (n := σ 3 13) (Hd := fun i s => wpI (d + 6) 133 4 [aR 55, aI (FT σ tx i), aI i] [] (mk s T) P) (Inv := fun _ s => Sm [40, 41] σ s) ?_ ?_ (sm_r _ _) h13.1
  · intro i s i0 i1 hs ih
    have e3 := hs 3 (by decide)
    have hft : FTp s = FTp σ := by funext a b; unfold FTp; rw [bu_c (hs 5 (by decide)) (wg_m hs (by decide)), hs 14 (by decide), hs 15 (by decide), e3]
    refine g_Fits_fittingTexts_4 ?_
    rw [e3, hs 13 (by decide)]
    refine ct i1 (cf (by omega) (ct i1 (ct (by omega) (c_fitsAll (td_m ht hs (by decide)) (lx_c (tx_l ht i0 i1) (fun a ha => hs a (by simp; omega))) ?_ ?_))))
    · rw [hft, e3]
      intro w s' hs'
      have q := ih s' (sm_t hs hs')
      rw [show FT σ tx (i + 1) = FTs σ tx i (FT σ tx i) from it_s _ _ i0, ft_p w] at q
      refine g_Fits_fittingTexts_27 (cf (by omega) ?_)
      rw [w32_id (x := i + 1) (by omega) (by omega)]; exact q
    · rw [hft, e3]
      intro w s' hs'
      have q := ih s' (sm_t hs hs')
      rw [show FT σ tx (i + 1) = FTs σ tx i (FT σ tx i) from it_s _ _ i0, ft_n w] at q
      refine g_Fits_fittingTexts_27 (ct rfl ?_)
      rw [w32_id (x := i + 1) (by omega) (by omega)]; exact q
  · intro s hs
    refine g_Fits_fittingTexts_4 ?_
    rw [hs 3 (by decide)]
    exact cf (by omega) (k s hs)
theorem r_fit {d : Nat} {γ σ : Sg} {T : TT} {tx : Int → TA} {P : Int → AM → Prop} (ht : Td γ σ T tx) (k : ∀ s, Sm [76, 77] σ s → P (FT γ tx (γ 3 13)) (mk s T)) : wpI (d + 7) 289 0 [aR 70, aU, aU] [] (mk σ T) P := by
  have h13 := ht.1.1.2.2.2.2.1
  refine g_Mo_fit_0 ?_
  refine for_up (n := γ 3 13) (Hd := fun i s => wpI (d + 7) 289 4 [aR 70, aI (FT γ tx i), aI i] [] (mk s T) P) (Inv := fun _ s => Sm [76, 77] σ s) ?_ ?_ (sm_r _ _) h13.1
  · intro i s i0 i1 hs ih
    have hb := ft_b γ tx i0 (by omega)
    refine g_Mo_fit_4 ?_
    rw [hs 71 (by decide), h13.2.2]
    refine ct i1 (r_isFitting (td_s ht hs (by decide) (by decide)) (by rw [hs 73 (by decide)]; exact tx_r ht i0 i1 0) ?_ ?_)
    · intro w s' hs'
      have q := ih s' (sm_t hs hs')
      rw [show FT γ tx (i + 1) = FTs γ tx i (FT γ tx i) from it_s _ _ i0, ft_p w] at q
      refine g_Mo_fit_21 (cf (by omega) ?_)
      rw [w32_id (x := i + 1) (by omega) (by omega)]; exact q
    · intro w s' hs'
      have q := ih s' (sm_t hs hs')
      rw [show FT γ tx (i + 1) = FTs γ tx i (FT γ tx i) from it_s _ _ i0, ft_n w] at q
      refine g_Mo_fit_21 (ct rfl ?_)
      rw [w32_id (x := i + 1) (by omega) (by omega), bO_0 hb.1 (by omega)]; exact q
  · intro s hs
    refine g_Mo_fit_4 ?_
    rw [hs 71 (by decide), h13.2.2]
    exact cf (by omega) (k s hs)
theorem o_fit {e : Nat} {g : Sg} {T : TT} {tx : Int → TA} {B : Int} : Op (e + 60) 40 [aR 2] 289 [aR 70, aU, aU] g T tx B := by
  refine op_l (fun h hr => ?_)
  exact g_Af_fit_0 (c_fit hr.1 (fun s hs => g_Af_fit_7 (lf_s hs (by decide) (fun h hr Q q => r_fit hr.1 (fun s hs => q s (rsc_s hs (by decide)))))))
end
