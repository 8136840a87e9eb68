noncomputable section
theorem c_copyB {d : Nat} {σ : Sg} {T : TT} {P : AM → Prop} (h13 : ∀ t, 0 ≤ t → t < 4 → σ 31 t = 0 ∨ kd (SHt T) (σ 31 t) = 7) (k : ∀ s, Sm [3, 4, 5, 6, 7, 8, 9, 10, 11, 12, 13, 14, 15] σ s → CpT σ s 21 3 → P (mk s T)) : wpV d 65 0 [aR 3, aR 21, aU] [] (mk σ T) P := by
  refine g_Told_copyFrom_3_21_0 ?_
  have hx : ∀ i j a b n : Int, 0 ≤ j → j < n → (0 : Int) ≤ j ∧ j < 0 + n := fun _ _ _ _ _ _ _ => by omega
  refine for_up (n := 4) (Hd := fun i s => wpV d 65 177 [aR 3, aR 21, aI i] [] (mk s T) P) (Inv := fun n s => Sm [3, 4, 5, 6, 7, 8, 9, 10, 11, 12, 13] σ s ∧ (∀ i, i = 0 ∨ i = 2 ∨ i = 9 ∨ i = 11 ∨ i = 13 → s 3 i = σ 21 i) ∧ (∀ i, 0 ≤ i → i < 6 → s 4 i = σ 22 i) ∧ (∀ i, 0 ≤ i → i < 24 → s 5 i = σ 23 i ∧ s 6 i = σ 24 i ∧ s 7 i = σ 25 i ∧ s 8 i = σ 26 i ∧ s 9 i = σ 27 i ∧ s 10 i = σ 28 i) ∧ (∀ i, 0 ≤ i → i < 8 → s 11 i = σ 29 i) ∧ (∀ i, 0 ≤ i → i < 36 → s 12 i = σ 30 i) ∧ (∀ i, 0 ≤ i → i < n → s 13 i = σ 31 i)) ?_ ?_ ⟨?_, ?_, ?_, ?_, ?_, ?_, fun i _ _ => by omega⟩ (by omega)
  · rintro i s i0 i1 ⟨q1, q2, q3, q4, q5, q6, q7⟩ ih
    refine g_Told_copyFrom_3_21_177 ?_
    rw [w32_id (x := i + 1) (by omega) (by omega), q1 31 (by decide)]
    have nx : wpV d 65 177 [aR 3, aR 21, aI (i + 1)] [] (mk (up s 13 i (σ 31 i)) T) P := by
      refine ih _ ⟨sm_u q1 (by simp), ?_, ?_, ?_, ?_, ?_, fun j j0 j1 => ?_⟩
      · rw [up_c (by decide)]; exact q2
      · rw [up_c (by decide)]; exact q3
      · rw [up_c (by decide), up_c (by decide), up_c (by decide), up_c (by decide), up_c (by decide), up_c (by decide)]; exact q4
      · rw [up_c (by decide)]; exact q5
      · rw [up_c (by decide)]; exact q6
      · rw [up_e]
        by_cases q : j = i
        · rw [if_pos q, q]
        · rw [if_neg q]; exact q7 j j0 (by omega)
    refine ct i1 (ct (by omega) (ci (fun _ => nx) (fun c => ?_)))
    rcases h13 i i0 i1 with q | q
    · exact ct ⟨q, by omega, by omega⟩ nx
    · exact absurd ⟨q, by omega, by omega⟩ c
  · rintro s ⟨q1, q2, q3, q4, q5, q6, q7⟩
    refine g_Told_copyFrom_3_21_177 (cf (by omega) ?_)
    rw [q1 21 (by decide)]
    refine k _ (sm_u (sm_cp (sm_cp (sm_u (sm_u (sm_m q1 (by simp)) (by simp)) (by simp)) (by simp)) (by simp)) (by simp)) ⟨?_, ?_, ?_, ?_, ?_, ?_⟩
    · intro i hi
      show up (cp (cp (up (up s 3 15 (σ 21 15)) 3 16 (σ 21 16)) 32 0 14 0 8) 33 0 15 0 8) 3 19 (σ 21 19) 3 i = σ 21 i
      rw [up_e, cp_c (by decide), cp_c (by decide), up_e, up_e]
      by_cases a1 : i = 19
      · rw [if_pos a1, a1]
      · rw [if_neg a1]
        by_cases a2 : i = 16
        · rw [if_pos a2, a2]
        · rw [if_neg a2]
          by_cases a3 : i = 15
          · rw [if_pos a3, a3]
          · rw [if_neg a3]; exact q2 i (by omega)
    · intro i i0 i1
      show up (cp (cp (up (up s 3 15 (σ 21 15)) 3 16 (σ 21 16)) 32 0 14 0 8) 33 0 15 0 8) 3 19 (σ 21 19) 4 i = σ 22 i
      rw [up_c (by decide), cp_c (by decide), cp_c (by decide), up_c (by decide), up_c (by decide)]; exact q3 i i0 i1
    · intro i i0 i1
      have e : ∀ b, b ≠ 3 → b ≠ 14 → b ≠ 15 → up (cp (cp (up (up s 3 15 (σ 21 15)) 3 16 (σ 21 16)) 32 0 14 0 8) 33 0 15 0 8) 3 19 (σ 21 19) b = s b := fun b h1 h2 h3 => by rw [up_c h1, cp_c h3, cp_c h2, up_c h1, up_c h1]
      rw [e _ (by decide) (by decide) (by decide), e _ (by decide) (by decide) (by decide), e _ (by decide) (by decide) (by decide), e _ (by decide) (by decide) (by decide), e _ (by decide) (by decide) (by decide), e _ (by decide) (by decide) (by decide)]
      exact q4 i i0 i1
    · intro i i0 i1
      refine ⟨?_, ?_, ?_⟩
      · show up (cp (cp (up (up s 3 15 (σ 21 15)) 3 16 (σ 21 16)) 32 0 14 0 8) 33 0 15 0 8) 3 19 (σ 21 19) 11 i = σ 29 i
        rw [up_c (by decide), cp_c (by decide), cp_c (by decide), up_c (by decide), up_c (by decide)]; exact q5 i i0 i1
      · show up (cp (cp (up (up s 3 15 (σ 21 15)) 3 16 (σ 21 16)) 32 0 14 0 8) 33 0 15 0 8) 3 19 (σ 21 19) 14 i = σ 32 i
        rw [up_c (by decide), cp_c (by decide), cp_e, if_pos (by omega), up_c (by decide), up_c (by decide), q1 32 (by decide)]; congr 1; omega
      · show up (cp (cp (up (up s 3 15 (σ 21 15)) 3 16 (σ 21 16)) 32 0 14 0 8) 33 0 15 0 8) 3 19 (σ 21 19) 15 i = σ 33 i
        rw [up_c (by decide), cp_e, if_pos (by omega), cp_c (by decide), up_c (by decide), up_c (by decide), q1 33 (by decide)]; congr 1; omega
    · intro i i0 i1
      show up (cp (cp (up (up s 3 15 (σ 21 15)) 3 16 (σ 21 16)) 32 0 14 0 8) 33 0 15 0 8) 3 19 (σ 21 19) 12 i = σ 30 i
      rw [up_c (by decide), cp_c (by decide), cp_c (by decide), up_c (by decide), up_c (by decide)]; exact q6 i i0 i1
    · intro i i0 i1
      show up (cp (cp (up (up s 3 15 (σ 21 15)) 3 16 (σ 21 16)) 32 0 14 0 8) 33 0 15 0 8) 3 19 (σ 21 19) 13 i = σ 31 i
      rw [up_c (by decide), cp_c (by decide), cp_c (by decide), up_c (by decide), up_c (by decide)]; exact q7 i i0 i1
  · exact sm_u (sm_cp (sm_u (sm_cp (sm_u (sm_cp (sm_cp (sm_cp (sm_cp (sm_cp (sm_cp (sm_u (sm_cp (sm_u (sm_r _ _) (by simp)) (by simp)) (by simp)) (by simp)) (by simp)) (by simp)) (by simp)) (by simp)) (by simp)) (by simp)) (by simp)) (by simp)) (by simp)) (by simp)
  · intro i hi
    simp only [up, cp, Int.reduceEq, false_and, if_false, true_and]
    (repeat' split) <;> first | (subst_vars; rfl) | omega | rfl
  · intro i i0 i1
    simp only [up, cp, Int.reduceEq, false_and, if_false, true_and]
    rw [if_pos (by omega)]; congr 1; omega
  · intro i i0 i1
    simp only [up, cp, Int.reduceEq, false_and, if_false, true_and]
    refine ⟨?_, ?_, ?_, ?_, ?_, ?_⟩ <;> (rw [if_pos (by omega)]; congr 1; omega)
  · intro i i0 i1
    simp only [up, cp, Int.reduceEq, false_and, if_false, true_and]
    rw [if_pos (by omega)]; congr 1; omega
  · intro i i0 i1
    simp only [up, cp, Int.reduceEq, false_and, if_false, true_and]
    rw [if_pos (by omega)]; congr 1; omega
theorem c_copyM {d : Nat} {σ : Sg} {T : TT} {P : AM → Prop} (k : ∀ s, Sm [34, 35, 36] σ s → (∀ i, 0 ≤ i → i < 9 → s 34 i = σ 16 i) → (∀ i, 0 ≤ i → i < 36 → s 35 i = σ 17 i) → (∀ i, 0 ≤ i → i < 150 → s 36 i = σ 18 i) → P (mk s T)) : wpV d 72 0 [aR 34, aR 16] [] (mk σ T) P := by
  refine g_Moment_copyFrom_34_16_0 (k _ (sm_cp (sm_cp (sm_u (sm_u (sm_u (sm_u (sm_u (sm_u (sm_u (sm_u (sm_u (sm_r _ _) (by simp)) (by simp)) (by simp)) (by simp)) (by simp)) (by simp)) (by simp)) (by simp)) (by simp)) (by simp)) (by simp)) ?_ ?_ ?_)
  · intro i i0 i1
    rw [cp_c (by decide), cp_c (by decide)]
    rcases (by omega : i = 0 ∨ i = 1 ∨ i = 2 ∨ i = 3 ∨ i = 4 ∨ i = 5 ∨ i = 6 ∨ i = 7 ∨ i = 8) with rfl | rfl | rfl | rfl | rfl | rfl | rfl | rfl | rfl <;> simp [up_e]
  · intro i i0 i1
    rw [cp_c (by decide), cp_e, if_pos (by omega), up_c (by decide), up_c (by decide), up_c (by decide), up_c (by decide), up_c (by decide), up_c (by decide), up_c (by decide), up_c (by decide), up_c (by decide)]; congr 1; omega
  · intro i i0 i1
    rw [cp_e, if_pos (by omega), cp_c (by decide), up_c (by decide), up_c (by decide), up_c (by decide), up_c (by decide), up_c (by decide), up_c (by decide), up_c (by decide), up_c (by decide), up_c (by decide)]; congr 1; omega
theorem c_copyN {d : Nat} {σ : Sg} {T : TT} {P : AM → Prop} (k : ∀ s, Sm [16, 17, 18] σ s → (∀ i, 0 ≤ i → i < 9 → s 16 i = σ 34 i) → (∀ i, 0 ≤ i → i < 36 → s 17 i = σ 35 i) → (∀ i, 0 ≤ i → i < 150 → s 18 i = σ 36 i) → P (mk s T)) : wpV d 72 0 [aR 16, aR 34] [] (mk σ T) P := by
  refine g_Moment_copyFrom_16_34_0 (k _ (sm_cp (sm_cp (sm_u (sm_u (sm_u (sm_u (sm_u (sm_u (sm_u (sm_u (sm_u (sm_r _ _) (by simp)) (by simp)) (by simp)) (by simp)) (by simp)) (by simp)) (by simp)) (by simp)) (by simp)) (by simp)) (by simp)) ?_ ?_ ?_)
  · intro i i0 i1
    rw [cp_c (by decide), cp_c (by decide)]
    rcases (by omega : i = 0 ∨ i = 1 ∨ i = 2 ∨ i = 3 ∨ i = 4 ∨ i = 5 ∨ i = 6 ∨ i = 7 ∨ i = 8) with rfl | rfl | rfl | rfl | rfl | rfl | rfl | rfl | rfl <;> simp [up_e]
  · intro i i0 i1
    rw [cp_c (by decide), cp_e, if_pos (by omega), up_c (by decide), up_c (by decide), up_c (by decide), up_c (by decide), up_c (by decide), up_c (by decide), up_c (by decide), up_c (by decide), up_c (by decide)]; congr 1; omega
  · intro i i0 i1
    rw [cp_e, if_pos (by omega), cp_c (by decide), up_c (by decide), up_c (by decide), up_c (by decide), up_c (by decide), up_c (by decide), up_c (by decide), up_c (by decide), up_c (by decide), up_c (by decide)]; congr 1; omega
theorem o_image {e : Nat} {g : Sg} {T : TT} {tx : Int → TA} {B : Int} : Op (e + 60) 51 [aR 2] 305 [aR 70] g T tx B := by
  refine op_l (fun h hr => ?_)
  have him := hr.2.2.2.2.2
  refine g_Af_image_0 (c_copyT (fun t t0 t1 => (him.2.2.2.2.2 t t0 t1).1) (fun g1 hs1 hc => g_Af_image_11 (c_copyM (fun g2 hs2 m1 m2 m3 => g_Af_image_22 ?_))))
  have e12 : ∀ a, ¬ (21 ≤ a ∧ a ≤ 36) → g2 a = g a := fun a ha => by rw [hs2 a (by simp; omega), hs1 a (by simp; omega)]
  rw [e12 16 (by omega), e12 19 (by omega)]
  have e3 : ∀ a, ¬ (21 ≤ a ∧ a ≤ 38) → cp (up (up g2 37 0 (g 19 0)) 37 1 (g 19 1)) 20 0 38 0 5850 a = g a := fun a ha => by rw [cp_c (by omega), up_c (by omega), up_c (by omega), e12 a (by omega)]
  have e4 : ∀ a, a < 37 → cp (up (up g2 37 0 (g 19 0)) 37 1 (g 19 1)) 20 0 38 0 5850 a = g2 a := fun a ha => by rw [cp_c (by omega), up_c (by omega), up_c (by omega)]
  have e37 : cp (up (up g2 37 0 (g 19 0)) 37 1 (g 19 1)) 20 0 38 0 5850 37 0 = g 19 0 ∧ cp (up (up g2 37 0 (g 19 0)) 37 1 (g 19 1)) 20 0 38 0 5850 37 1 = g 19 1 := by
    rw [cp_c (by decide)]; exact ⟨by rw [up_i (by decide), up_s], up_s _ _ _ _⟩
  have e38 : ∀ i, 0 ≤ i → i < 5850 → cp (up (up g2 37 0 (g 19 0)) 37 1 (g 19 1)) 20 0 38 0 5850 38 i = g 20 i := fun i i0 i1 => by
    rw [cp_e, if_pos (by omega), up_c (by decide), up_c (by decide), e12 20 (by omega)]; congr 1; omega
  refine lf_c (fun a ha => e3 a (by omega)) (fun h hr Q q => g_Mo_image_0 (r_copy12 (fun h1 rs rc => g_Mo_image_11 ?_)))
  rw [rs 71 (by decide), hr.2.2.2.1.2.2.1.2.2]
  refine q h1 (fun a ha => rs a (by simp; omega)) ?_
  generalize cp (up (up g2 37 0 (g 19 0)) 37 1 (g 19 1)) 20 0 38 0 5850 = g3 at *
  obtain ⟨q1, q2, q3, q4, q5, q6⟩ := rl_B (show B ≤ B + 24 by omega) hr
  obtain ⟨t1, t2, t3, t4, t5, t6⟩ := hc
  have z : ∀ a, 21 ≤ a → a ≤ 33 → g3 a = g1 a := fun a h1 h2 => by rw [e4 a (by omega), hs2 a (by simp; omega)]
  have e30 : g3 21 0 = g 3 0 := by rw [z 21 (by omega) (by omega)]; exact t1 0 (by omega)
  have e313 : g3 21 13 = g 3 13 := by rw [z 21 (by omega) (by omega)]; exact t1 13 (by omega)
  have h4 := q1.1.1.2.2.2.2.1
  refine ⟨td_c q1 (fun a ha => e3 a (by omega)) (rs 71 (by decide)) (rs 73 (by decide)), ?_, ?_, ?_, ?_, ?_⟩
  · unfold Tp; rw [e3 2 (by omega), e3 59 (by omega), rs 70 (by decide), rs 74 (by decide)]; exact q2
  · rw [e3 2 (by omega), rs 70 (by decide)]; exact q3
  · rw [e3 16 (by omega), e3 17 (by omega), e3 18 (by omega), e3 3 (by omega), rs 71 (by decide)]; exact q4
  · rw [e3 19 (by omega), e3 20 (by omega), e3 3 (by omega), rs 71 (by decide)]; exact q5
  · refine ⟨?_, ?_, ?_, ?_, ?_, ?_⟩
    · rw [z 21 (by omega) (by omega), z 22 (by omega) (by omega), z 23 (by omega) (by omega), z 24 (by omega) (by omega), z 25 (by omega) (by omega), z 26 (by omega) (by omega), z 27 (by omega) (by omega), z 28 (by omega) (by omega), z 29 (by omega) (by omega), z 30 (by omega) (by omega), z 32 (by omega) (by omega), z 33 (by omega) (by omega)]
      exact to_k q1.1 t1 t2 t3 t4 t5 rc
    · rw [e30, e4 34 (by omega), e4 35 (by omega), e4 36 (by omega)]
      refine mo_k q4 (fun i i0 i1 => ?_) (fun i i0 i1 => ?_) (fun i i0 i1 => ?_) rc
      · rw [m1 i i0 i1, hs1 16 (by decide)]
      · rw [m2 i i0 i1, hs1 17 (by decide)]
      · rw [m3 i i0 i1, hs1 18 (by decide)]
    · rw [e30]; exact tr_k q5 e37 e38 rc
    · rw [e313, e3 3 (by omega)]; exact Int.le_refl _
    · rw [e313, e3 13 (by omega), z 31 (by omega) (by omega)]
      intro t t0 t1'; exact t6 t t0 (by omega)
    · rw [e3 13 (by omega), z 31 (by omega) (by omega)]
      intro t t0 t1'
      rw [show g1 31 t = g 13 t from t6 t t0 t1']
      exact ⟨(q6.2.2.2.2.2 t t0 t1').1, (q6.2.2.2.2.2 t t0 t1').1⟩
theorem o_back {e : Nat} {g : Sg} {T : TT} {tx : Int → TA} {B : Int} : Op (e + 60) 52 [aR 2] 306 [aR 70] g T tx B := by
  refine op_l (fun h hr => ?_)
  have him := hr.2.2.2.2.2
  refine g_Af_back_0 (c_copyB (fun t t0 t1 => (him.2.2.2.2.2 t t0 t1).2) (fun g1 hs1 hc => g_Af_back_11 (c_copyN (fun g2 hs2 m1 m2 m3 => g_Af_back_22 ?_))))
  have e12 : ∀ a, ¬ (3 ≤ a ∧ a ≤ 18) → g2 a = g a := fun a ha => by rw [hs2 a (by simp; omega), hs1 a (by simp; omega)]
  have e16 : g2 16 6 = g 34 6 := by rw [m1 6 (by omega) (by omega), hs1 34 (by decide)]
  rw [e16, e12 37 (by omega)]
  have e3 : ∀ a, ¬ (3 ≤ a ∧ a ≤ 20) → cp (up (up g2 19 0 (g 37 0)) 19 1 (g 37 1)) 38 0 20 0 5850 a = g a := fun a ha => by rw [cp_c (by omega), up_c (by omega), up_c (by omega), e12 a (by omega)]
  have e4 : ∀ a, a < 19 → cp (up (up g2 19 0 (g 37 0)) 19 1 (g 37 1)) 38 0 20 0 5850 a = g2 a := fun a ha => by rw [cp_c (by omega), up_c (by omega), up_c (by omega)]
  have e37 : cp (up (up g2 19 0 (g 37 0)) 19 1 (g 37 1)) 38 0 20 0 5850 19 0 = g 37 0 ∧ cp (up (up g2 19 0 (g 37 0)) 19 1 (g 37 1)) 38 0 20 0 5850 19 1 = g 37 1 := by
    rw [cp_c (by decide)]; exact ⟨by rw [up_i (by decide), up_s], up_s _ _ _ _⟩
  have e38 : ∀ i, 0 ≤ i → i < 5850 → cp (up (up g2 19 0 (g 37 0)) 19 1 (g 37 1)) 38 0 20 0 5850 20 i = g 38 i := fun i i0 i1 => by
    rw [cp_e, if_pos (by omega), up_c (by decide), up_c (by decide), e12 38 (by omega)]; congr 1; omega
  refine lf_c (fun a ha => e3 a (by omega)) (fun h hr Q q => g_Mo_back_0 (r_copy21 (fun h1 rs rc => g_Mo_back_11 ?_)))
  have him := hr.2.2.2.2.2
  rw [rc 4 (by omega) (by omega), him.2.1.2.2.1.2.2]
  refine q h1 (fun a ha => rs a (by simp; omega)) ?_
  generalize cp (up (up g2 19 0 (g 37 0)) 19 1 (g 37 1)) 38 0 20 0 5850 = g3 at *
  obtain ⟨q1, q2, q3, q4, q5, q6⟩ := rl_B (show B ≤ B + 24 by omega) hr
  obtain ⟨i1, i2, i3, i4, i5, i6⟩ := q6
  obtain ⟨t1, t2, t3, t4, t5, t6⟩ := hc
  have z : ∀ a, 3 ≤ a → a ≤ 15 → g3 a = g1 a := fun a h1 h2 => by rw [e4 a (by omega), hs2 a (by simp; omega)]
  have e30 : g3 3 0 = g 21 0 := by rw [z 3 (by omega) (by omega)]; exact t1 0 (by omega)
  have e313 : g3 3 13 = g 21 13 := by rw [z 3 (by omega) (by omega)]; exact t1 13 (by omega)
  have e13 : ∀ t, 0 ≤ t → t < 4 → g3 13 t = g 31 t := fun t a b => by rw [z 13 (by omega) (by omega)]; exact t6 t a b
  have h4 := i1.1.2.2.2.2.1
  refine ⟨⟨?_, ?_⟩, ?_, ?_, ?_, ?_, ?_⟩
  · rw [z 3 (by omega) (by omega), z 4 (by omega) (by omega), z 5 (by omega) (by omega), z 6 (by omega) (by omega), z 7 (by omega) (by omega), z 8 (by omega) (by omega), z 9 (by omega) (by omega), z 10 (by omega) (by omega), z 11 (by omega) (by omega), z 12 (by omega) (by omega), z 14 (by omega) (by omega), z 15 (by omega) (by omega)]
    exact to_k i1 t1 t2 t3 t4 t5 rc
  · rw [e313, rs 73 (by decide)]
    intro t t0 t1'
    rw [e13 t t0 (by omega), i5 t t0 t1']
    have := q1.2 t t0 (by omega)
    exact ⟨tc_c this.1 (fun a ha => e3 a (by omega)), this.2⟩
  · unfold Tp; rw [e3 2 (by omega), e3 59 (by omega), rs 70 (by decide), rs 74 (by decide)]; exact q2
  · rw [e3 2 (by omega), rs 70 (by decide)]; exact q3
  · rw [e30, e4 16 (by omega), e4 17 (by omega), e4 18 (by omega)]
    refine mo_k i2 (fun i i0 i1 => ?_) (fun i i0 i1 => ?_) (fun i i0 i1 => ?_) rc
    · rw [m1 i i0 i1, hs1 34 (by decide)]
    · rw [m2 i i0 i1, hs1 35 (by decide)]
    · rw [m3 i i0 i1, hs1 36 (by decide)]
  · rw [e30]; exact tr_k i3 e37 e38 rc
  · refine ⟨?_, ?_, ?_, ?_, ?_, ?_⟩
    · rw [e3 21 (by omega), e3 22 (by omega), e3 23 (by omega), e3 24 (by omega), e3 25 (by omega), e3 26 (by omega), e3 27 (by omega), e3 28 (by omega), e3 29 (by omega), e3 30 (by omega), e3 32 (by omega), e3 33 (by omega), rs 72 (by decide)]; exact i1
    · rw [e3 34 (by omega), e3 35 (by omega), e3 36 (by omega), e3 21 (by omega), rs 72 (by decide)]; exact i2
    · rw [e3 37 (by omega), e3 38 (by omega), e3 21 (by omega), rs 72 (by decide)]; exact i3
    · rw [e313, e3 21 (by omega)]; exact Int.le_refl _
    · rw [e3 21 (by omega), e3 31 (by omega)]
      intro t t0 t1'; exact (e13 t t0 (by omega)).symm
    · rw [e3 31 (by omega)]
      intro t t0 t1'
      rw [e13 t t0 t1']
      exact ⟨(i6 t t0 t1').2, (i6 t t0 t1').2⟩
end
