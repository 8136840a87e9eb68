noncomputable section
/-- what a day may change in the reference -/
def Fdy (σ s : Sg) : Prop := (∀ a, a ∉ [70, 71, 76, 77, 78] → s a = σ a) ∧ (∀ i, i ≠ 23 → s 70 i = σ 70 i) ∧ (∀ i, i ≠ 5 → i < 242 ∨ 248 ≤ i → s 71 i = σ 71 i)
theorem fd_t {a b c : Sg} (h : Fdy a b) (k : Fdy b c) : Fdy a c := ⟨fun x hx => (k.1 x hx).trans (h.1 x hx), fun i hi => (k.2.1 i hi).trans (h.2.1 i hi), fun i h1 h2 => (k.2.2 i h1 h2).trans (h.2.2 i h1 h2)⟩
theorem fd_5 {σ s : Sg} {x : Int} (h : Fdy σ s) : Fdy σ (up s 71 5 x) := ⟨fun a ha => by rw [up_c (fun e => ha (by simp [e]))]; exact h.1 a ha, fun i hi => by rw [up_c (by decide)]; exact h.2.1 i hi, fun i h1 h2 => by rw [up_i h1]; exact h.2.2 i h1 h2⟩
theorem fd_m {σ s : Sg} (h : Fm [76, 77] σ s) : Fdy σ s := ⟨fun a ha => h.1 a (fun q => ha (by simp at q; simp; omega)) (fun q => ha (by simp [q])), fun i _ => by rw [h.1 70 (by decide) (by decide)], fun i _ h2 => h.2 i h2⟩
theorem fd_r (σ : Sg) : Fdy σ σ := ⟨fun _ _ => rfl, fun _ _ => rfl, fun _ _ _ => rfl⟩
theorem fd_rw {σ s : Sg} (h : Sm [70, 78] σ s) (h7 : ∀ i, i ≠ 23 → s 70 i = σ 70 i) : Fdy σ s := ⟨fun a ha => h a (fun q => ha (by simp at q; simp; omega)), h7, fun i _ _ => by rw [h 71 (by decide)]⟩
theorem fd_td {γ σ s : Sg} {T : TT} {tx : Int → TA} (ht : Td γ σ T tx) (h : Fdy σ s) : Td γ s T tx := td_g ht (h.1 73 (by decide)) (fun i hi => h.2.2 i (by omega) (by omega))
theorem rm_d {s : Sg} {m : Int → Int} {x : Int} (h : RM s m) : RM (up s 71 5 x) (dwM m) := fun i i0 i1 => by
  rw [up_i (by omega)]; unfold dwM; rw [if_neg (by omega)]; exact h i i0 i1
theorem r_oneOfDay {d : Nat} {γ σ : Sg} {T : TT} {tx : Int → TA} {P : Int → AM → Prop} {m : Int → Int} (ht : Td γ σ T tx) (hl : Ln γ σ) (hn : 0 < γ 3 0) (h5 : σ 71 5 = m 7) (h7 : 0 ≤ m 7 ∧ m 7 ≤ 30160) (h4 : σ 71 4 = m 6) (h11 : 0 ≤ σ 71 11 ∧ σ 71 11 ≤ 2000000)
    (k : ∀ s mm v, mm = wd3 γ tx (γ 17) m (γ 3 9) → v = VD γ ((rA γ tx).1 3) (mm 0) (mm 2) → (∀ a, a ∉ [70, 71, 76, 77, 78] → s a = σ a) → (∀ i, i ≠ 23 → s 70 i = σ 70 i) → s 71 242 = -1 → s 71 4 = ilM γ v mm → s 71 11 = σ 71 11 + 1 → s 71 5 = mm 7 → (∀ w, 0 ≤ w → w < 5 → s 71 (1704 + 5 * (σ 71 11 % 768) + w) = enM mm v w) → (∀ i, i ≠ 4 → i ≠ 5 → i ≠ 11 → ¬ (242 ≤ i ∧ i < 248) → (i < 1704 + 5 * (σ 71 11 % 768) ∨ 1704 + 5 * (σ 71 11 % 768) + 5 ≤ i) → s 71 i = σ 71 i) → (∀ i, 1 ≤ i → i < 6 → s 71 (242 + i) = mm i) → P (if v = 0 then 1 else 0) (mk s T)) : wpI (d + 10) 255 0 [aR 70, aU, aU, aU, aU, aU] [] (mk σ T) P := by
  obtain ⟨w1, w2, w3, w4, w5, w6, w7, w8, w9, w10, w11⟩ := wd_i (tx := tx) (l := γ 17) (m := m) ht (fun i i0 i1 => ⟨(hl i i0 i1).1, (hl i i0 i1).2.1⟩) hn h7.1
  have hn0 := ht.1.1.1
  have h9 := ht.1.1.2.2.1
  have hst := ht.1.1.2.2.2.1
  have hst' : 0 ≤ γ 3 11 ∧ γ 3 11 ≤ 99 := ⟨hst.1, hst.2.1⟩
  refine g_Mo_oneOfDay_0 ?_
  rw [hn0.2.2, h5, Int.tmod_eq_emod_of_nonneg h7.1, w_nx h7, hst.2.2]
  refine cf (by omega) ?_
  show wpV (d + 9) 228 0 [aR 70, aI (wdH γ m), aI (γ 3 11), aU] [] (mk (up σ 71 5 (nx (m 7))) T) (fun M' => wpI (d + 9 + 1) 255 29 [aR 70, aI (wdH γ m), aU, aU, aU, aU] [] M' P)
  have f1 : Fdy σ (up σ 71 5 (nx (m 7))) := fd_5 (fd_r σ)
  have x1 : up σ 71 5 (nx (m 7)) 71 5 = nx (m 7) := up_s _ _ _ _
  generalize up σ 71 5 (nx (m 7)) = s1 at *
  refine r_weighNow (γ := γ) m (fd_td ht f1) (fun i i0 i1 => by rw [f1.2.2 _ (by omega) (by omega)]; exact hl i i0 i1) w1.1 w1.2 hst' (fun s2 f2 hm2 => g_Mo_oneOfDay_29 ?_)
  have f2' := fd_t f1 (fd_m f2)
  have x2 : s2 71 5 = nx (m 7) := by rw [f2.2 5 (by omega)]; exact x1
  refine r_layRow (fd_td ht f2') (fun s3 hs3 h70 h23 ha3 => g_Mo_oneOfDay_34 ?_)
  have f3 := fd_t f2' (fd_rw hs3 h70)
  have x3 : s3 71 5 = nx (m 7) := by rw [hs3 71 (by decide)]; exact x2
  have hm3 : RM s3 (stlM γ ((rA γ tx).1 1) (γ 3 11) (tkM (γ 17) (wdH γ m) m)) := rm_c hm2 (hs3 71 (by decide))
  obtain ⟨m1, m2, m3⟩ := rw_m ht (wdH γ m)
  rw [h23, x3, w_nx (nx_b _)]
  have f4 : Fdy σ (up s3 71 5 (nx (nx (m 7)))) := fd_5 f3
  have x4 : up s3 71 5 (nx (nx (m 7))) 71 5 = nx (nx (m 7)) := up_s _ _ _ _
  have hm4 : RM (up s3 71 5 (nx (nx (m 7)))) (wd1 γ tx (γ 17) m) := rm_d hm3
  have h234 : up s3 71 5 (nx (nx (m 7))) 70 23 = (RW γ (wdH γ m)).length := by rw [up_c (by decide)]; exact h23
  have ha4 : Ar (up s3 71 5 (nx (nx (m 7))) 78) (RW γ (wdH γ m)) := by rw [up_c (by decide)]; exact ha3
  generalize up s3 71 5 (nx (nx (m 7))) = s4 at *
  have judges : ∀ (first : Int) (s : Sg), Fdy σ s → s 71 5 = nx (nx (m 7)) → RM s (wd2 γ tx (γ 17) m) → wpI (d + 10) 255 102 [aR 70, aI (wdH γ m), aI first, aI 0, aU, aU] [] (mk s T) P := by
    intro first s5 f5 x5 hm5
    have hji := jd_i (g := γ) (c0 := (rA γ tx).1 0) (c1 := (rA γ tx).1 1) (c2 := (rA γ tx).1 2) (st := γ 3 11) (h := wdH γ m) (n := γ 3 9) h9.2.1 w7 w8 (by rw [w9]; exact nx_b _)
    suffices lp : ∀ l4 l5 : AV, wpI (d + 10) 255 102 [aR 70, aI (wdH γ m), aI first, aI 0, l4, l5] [] (mk s5 T) P from lp aU aU
    refine for_up (n := γ 3 9) (Hd := fun j s => ∀ l4 l5 : AV, wpI (d + 10) 255 102 [aR 70, aI (wdH γ m), aI first, aI j, l4, l5] [] (mk s T) P) (Inv := fun j s => Fdy σ s ∧ s 71 5 = wd3 γ tx (γ 17) m j 7 ∧ RM s (wd3 γ tx (γ 17) m j)) ?_ ?_ ⟨f5, by rw [x5, ← w9]; rfl, hm5⟩ h9.1
    · rintro j s j0 j1 ⟨q1, q2, q3⟩ ih l4 l5
      obtain ⟨b1, b2, b3, b4⟩ := hji j j0 (by omega)
      have b3 : 0 ≤ wd3 γ tx (γ 17) m j 7 ∧ wd3 γ tx (γ 17) m j 7 ≤ 30160 := b3
      have e0 : wd3 γ tx (γ 17) m j 0 = wdH γ m := by rw [← w10]; exact b4 0 (by omega)
      refine g_Mo_oneOfDay_102 ?_
      rw [q1.2.2 2 (by omega) (by omega), h9.2.2, q2, Int.tmod_eq_emod_of_nonneg b3.1, w_nx b3]
      have f6 : Fdy σ (up s 71 5 (nx (wd3 γ tx (γ 17) m j 7))) := fd_5 q1
      have x6 : up s 71 5 (nx (wd3 γ tx (γ 17) m j 7)) 71 5 = nx (wd3 γ tx (γ 17) m j 7) := up_s _ _ _ _
      have hm6 : RM (up s 71 5 (nx (wd3 γ tx (γ 17) m j 7))) (wd3 γ tx (γ 17) m j) := fun i i0 i1 => by rw [up_i (by omega)]; exact q3 i i0 i1
      generalize up s 71 5 (nx (wd3 γ tx (γ 17) m j 7)) = s6 at *
      have ans : ∀ (y l6 : Int) (s6 : Sg), Fdy σ s6 → s6 71 5 = nx (wd3 γ tx (γ 17) m j 7) → RM s6 (wd3 γ tx (γ 17) m j) → y = yDr γ ((rA γ tx).1 0) (wdH γ m) j (wd3 γ tx (γ 17) m j 7) → wpI (d + 9) 244 0 [aR 70, aI j, aI y, aU] [] (mk s6 T) (fun r M' => wpI (d + 9 + 1) 255 160 [aR 70, aI (wdH γ m), aI first, aI j, aI l6, aU] [aI r] M' P) := by
        intro y l6 s6 f6 x6 hm6 hy
        have fin : ∀ (r : Int) (s7 : Sg), Fm [76, 77] s6 s7 → RM s7 (rpM γ ((rA γ tx).1 0) ((rA γ tx).1 1) ((rA γ tx).1 2) (γ 3 11) (wdH γ m) j (wd3 γ tx (γ 17) m j)) → wpI (d + 9 + 1) 255 160 [aR 70, aI (wdH γ m), aI first, aI j, aI l6, aU] [aI r] (mk s7 T) P := by
          intro r s7 f7 hm7
          refine g_Mo_oneOfDay_160 ?_
          rw [w32_id (x := j + 1) (by omega) (by omega)]
          refine ih s7 ⟨fd_t f6 (fd_m f7), ?_, ?_⟩ _ _
          · rw [f7.2 5 (by omega), x6]
            show _ = jdM γ _ _ _ _ _ _ (j + 1) 7
            rw [jd_s j0]
            show _ = nx _
            congr 1
            show jdM γ _ _ _ _ _ _ j 7 = rpM _ _ _ _ _ _ _ _ 7
            unfold rpM
            split <;> rfl
          · show RM s7 (jdM γ _ _ _ _ _ _ (j + 1))
            rw [jd_s j0]
            intro i i0 i1
            unfold dwM; rw [if_neg (by omega)]; exact hm7 i i0 i1
        refine r_answerNow (γ := γ) (fd_td ht f6) hm6 b1 j0 j1 (b2 j (Int.le_refl _) j1) ?_ ?_
        · rw [e0]
          intro hq s7 f7 hm7
          refine fin 0 s7 f7 ?_
          unfold rpM; rw [← hy, if_pos hq]; exact hm7
        · rw [e0]
          intro hq s7 f7 hm7
          refine fin 1 s7 f7 ?_
          unfold rpM; rw [← hy, if_neg hq]; exact hm7
      refine ct j1 (ci (fun c => ans 0 1 s6 f6 x6 hm6 (by unfold yDr; rw [if_pos c])) (fun c => ?_))
      refine r_isSoOf (fd_td ht f6) j0 j1 (fun s7 hs7 => g_Mo_oneOfDay_149 ?_)
      have f7 : Fdy σ s7 := fd_t f6 (fd_m (fm_s hs7 (by decide)))
      have x7 : s7 71 5 = nx (wd3 γ tx (γ 17) m j 7) := by rw [hs7 71 (by decide)]; exact x6
      have hm7 := rm_c hm6 (hs7 71 (by decide))
      rcases so_01 γ ((rA γ tx).1 0) j (wdH γ m) with hso | hso
      · rw [hso]; exact ct rfl (ans 0 0 s7 f7 x7 hm7 (by unfold yDr; rw [if_neg c, hso]))
      · rw [hso]; exact cf (by omega) (ans 1 0 s7 f7 x7 hm7 (by unfold yDr; rw [if_neg c, hso]))
    · rintro s ⟨q1, q2, q3⟩ l4 l5
      obtain ⟨b1, b2, b3, b4⟩ := hji (γ 3 9) h9.1 (Int.le_refl _)
      refine g_Mo_oneOfDay_102 ?_
      rw [q1.2.2 2 (by omega) (by omega), h9.2.2]
      have k11 : s 71 11 = σ 71 11 := q1.2.2 11 (by omega) (by omega)
      have e6 : wd3 γ tx (γ 17) m (γ 3 9) 6 = m 6 := by rw [← w11 6 (by omega)]; exact b4 6 (by omega)
      refine cf (by omega) (r_judgeNow (γ := γ) (m := wd3 γ tx (γ 17) m (γ 3 9)) (fd_td ht q1) q3 b1.1.1 b1.1.2 (by rw [q1.2.2 4 (by omega) (by omega), h4, e6]) (by rw [k11]; exact h11) (fun s' hs' c1 c2 c3 c4 c5 => g_Mo_oneOfDay_172 ?_))
      have hk := k s' _ _ rfl rfl (fun a ha => by rw [hs' a (fun q => ha (by simp at q; simp; omega))]; exact q1.1 a ha) (fun i hi => by rw [hs' 70 (by decide)]; exact q1.2.1 i hi) c1 c2 (by rw [c3, k11]) (by rw [c5 5 (by omega) (by omega) (by omega) (by omega)]; exact q2) (by rw [k11] at c4; exact c4) (fun i i4 i5 i11 i242 ir => by rw [c5 i i4 i11 (by omega) (by rw [k11]; exact ir)]; exact q1.2.2 i i5 (by omega)) (fun i i1 i6 => by rw [c5 _ (by omega) (by omega) (by omega) (by omega)]; exact q3 i (by omega) i6)
      refine ci (fun c => ?_) (fun c => ?_)
      · rw [if_pos c] at hk; exact hk
      · rw [if_neg c] at hk; exact hk
  have puts : ∀ (first : Int), (RW γ (wdH γ m)).length ≠ 0 → first = wd1 γ tx (γ 17) m 7 % ((RW γ (wdH γ m)).length : Int) → wpI (d + 10) 255 63 [aR 70, aI (wdH γ m), aI first, aI 0, aU, aU] [] (mk s4 T) P := by
    intro first hne hfirst
    have f0 : 0 ≤ first := by rw [hfirst]; exact Int.emod_nonneg _ (by omega)
    have f1' : first < (RW γ (wdH γ m)).length := by rw [hfirst]; exact Int.emod_lt_of_pos _ (by omega)
    obtain ⟨r1, r2⟩ := rot_f ht (h := wdH γ m) f0 f1'
    have hsq := sq_i ht ((rA γ tx).1 0) ((rA γ tx).1 1) (γ 3 11) r1 r2 w3 (fun k _ _ => by rw [w4]; exact tb_o _)
    refine for_up (n := (RW γ (wdH γ m)).length) (Hd := fun j s => wpI (d + 10) 255 63 [aR 70, aI (wdH γ m), aI first, aI j, aU, aU] [] (mk s T) P) (Inv := fun j s => Fdy σ s ∧ s 71 5 = nx (nx (m 7)) ∧ RM s (sqM γ ((rA γ tx).1 0) ((rA γ tx).1 1) (γ 3 11) (rot (RW γ (wdH γ m)) first) (wd1 γ tx (γ 17) m) j) ∧ s 70 23 = (RW γ (wdH γ m)).length ∧ Ar (s 78) (RW γ (wdH γ m))) ?_ ?_ ⟨f4, x4, hm4, h234, ha4⟩ (by omega)
    · rintro j s j0 j1 ⟨q1, q2, q3, q4, q5⟩ ih
      have hr := hsq j j0 (by omega)
      refine g_Mo_oneOfDay_63 ?_
      have e1 : 0 ≤ (first + j) % ((RW γ (wdH γ m)).length : Int) := Int.emod_nonneg _ (by omega)
      have e2 : (first + j) % ((RW γ (wdH γ m)).length : Int) < (RW γ (wdH γ m)).length := Int.emod_lt_of_pos _ (by omega)
      rw [q4, w32_id (x := first + j) (by omega) (by omega), Int.tmod_eq_emod_of_nonneg (by omega), q1.2.2 3 (by omega) (by omega), hst.2.2]
      refine ct j1 (cf (by omega) (ct (by omega) ?_))
      rw [show s 78 ((first + j) % ((RW γ (wdH γ m)).length : Int)) = rot (RW γ (wdH γ m)) first j from ar_i q5 e1 e2]
      refine r_layNow (γ := γ) (fd_td ht q1) q3 hr.1 (r1 j j0 j1).1 (r1 j j0 j1).2 (hr.2.1 j (Int.le_refl _) j1) hst' (fun s' f' hm' => g_Mo_oneOfDay_94 ?_)
      rw [w32_id (x := j + 1) (by omega) (by omega)]
      refine ih s' ⟨fd_t q1 (fd_m f'), by rw [f'.2 5 (by omega)]; exact q2, by rw [sq_s j0]; exact hm', by rw [f'.1 70 (by decide) (by decide)]; exact q4, by rw [f'.1 78 (by decide) (by decide)]; exact q5⟩
    · rintro s ⟨q1, q2, q3, q4, q5⟩
      refine g_Mo_oneOfDay_63 ?_
      rw [q4]
      refine cf (by omega) (judges first s q1 q2 (fun i i0 i1 => ?_))
      rw [q3 i i0 i1]
      show _ = dwM _ i
      unfold dwM; rw [if_neg (by omega), hfirst]
  refine ci (fun c => ?_) (fun c => ?_)
  · refine g_Mo_oneOfDay_63 ?_
    rw [h234]
    refine cf (by omega) (judges 0 s4 f4 x4 (fun i i0 i1 => ?_))
    rw [hm4 i i0 i1]
    show _ = dwM _ i
    unfold dwM; rw [if_neg (by omega), show ((RW γ (wdH γ m)).length : Int) = 0 from by omega]; rfl
  · refine cf c ?_
    rw [Int.tmod_eq_emod_of_nonneg (nx_b _).1]
    exact puts _ (by omega) (by rw [w6])
end
