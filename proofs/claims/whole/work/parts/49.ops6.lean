noncomputable section
theorem r_judgeNow {d : Nat} {γ σ : Sg} {T : TT} {tx : Int → TA} {P : Int → AM → Prop} {m : Int → Int} (ht : Td γ σ T tx) (hm : RM σ m) (h0 : 0 ≤ m 0) (h1 : m 0 < γ 3 0) (h6 : σ 71 4 = m 6) (hw : 0 ≤ σ 71 11 ∧ σ 71 11 ≤ 2000000) (k : ∀ s, Sm [71, 76, 77] σ s → s 71 242 = -1 → s 71 4 = ilM γ (VD γ ((rA γ tx).1 3) (m 0) (m 2)) m → s 71 11 = σ 71 11 + 1 → (∀ w, 0 ≤ w → w < 5 → s 71 (1704 + 5 * (σ 71 11 % 768) + w) = enM m (VD γ ((rA γ tx).1 3) (m 0) (m 2)) w) → (∀ i, i ≠ 4 → i ≠ 11 → i ≠ 242 → (i < 1704 + 5 * (σ 71 11 % 768) ∨ 1704 + 5 * (σ 71 11 % 768) + 5 ≤ i) → s 71 i = σ 71 i) → P (VD γ ((rA γ tx).1 3) (m 0) (m 2)) (mk s T)) : wpI (d + 7) 248 0 [aR 70, aU, aU, aU] [] (mk σ T) P := by
  have hn := ht.1.1.1
  have hf := ht.1.2.1 (m 0) h0 h1
  obtain ⟨e0, e1, e2, e3, e4, e5⟩ := rm_e hm
  refine g_Mo_judgeNow_0 (r_verdict ht hm h0 h1 (fun s hs => ?_))
  have e71 := hs 71 (by decide)
  refine g_Mo_judgeNow_4 ?_
  generalize VD γ ((rA γ tx).1 3) (m 0) (m 2) = v at *
  rw [e71, e0, w32_id (x := 12 + m 0) (by omega) (by omega), hf.2.2, h6, Int.tmod_eq_emod_of_nonneg hw.1, w32_id (x := 5 * (σ 71 11 % 768)) (by omega) (by omega), w32_id (x := 1704 + 5 * (σ 71 11 % 768)) (by omega) (by omega), w32_id (x := 1704 + 5 * (σ 71 11 % 768) + 1) (by omega) (by omega), w32_id (x := 1704 + 5 * (σ 71 11 % 768) + 2) (by omega) (by omega), w32_id (x := 1704 + 5 * (σ 71 11 % 768) + 3) (by omega) (by omega), w32_id (x := 1704 + 5 * (σ 71 11 % 768) + 4) (by omega) (by omega)]
  have hx0 : 1704 ≤ 1704 + 5 * (σ 71 11 % 768) := by omega
  have hx1 : 1704 + 5 * (σ 71 11 % 768) + 5 ≤ 5544 := by omega
  generalize 1704 + 5 * (σ 71 11 % 768) = x at *
  simp (disch := omega) only [up_i]
  rw [e71, e1, e2, e3, w32_id (x := σ 71 11 + 1) (by omega) (by omega)]
  have fin : ∀ s0 : Sg, Sm [71, 76, 77] σ s0 → s0 71 4 = ilM γ v m → (∀ i, i ≠ 4 → s0 71 i = σ 71 i) → P v (mk (up (up (up (up (up (up (up s0 71 x (m 0)) 71 (x + 1) (m 2)) 71 (x + 2) (m 1)) 71 (x + 3) (m 3)) 71 (x + 4) v) 71 11 (σ 71 11 + 1)) 71 242 (-1)) T) := by
    intro s0 q1 q2 q3
    refine k _ (sm_u (sm_u (sm_u (sm_u (sm_u (sm_u (sm_u q1 (by simp)) (by simp)) (by simp)) (by simp)) (by simp)) (by simp)) (by simp)) ?_ ?_ ?_ ?_ ?_
    · rw [up_s]
    · simp (disch := omega) only [up_i]; exact q2
    · rw [up_i (by omega), up_s]
    · intro w w0 w1
      rw [up_i (by omega), up_i (by omega)]
      unfold enM
      rcases (by omega : w = 0 ∨ w = 1 ∨ w = 2 ∨ w = 3 ∨ w = 4) with rfl | rfl | rfl | rfl | rfl
      · rw [up_i (by omega), up_i (by omega), up_i (by omega), up_i (by omega), Int.add_zero, up_s]; rfl
      · rw [up_i (by omega), up_i (by omega), up_i (by omega), up_s]; rfl
      · rw [up_i (by omega), up_i (by omega), up_s]; rfl
      · rw [up_i (by omega), up_s]; rfl
      · rw [up_s]; rfl
    · intro i i1 i2 i3 i4
      simp (disch := omega) only [up_i]; exact q3 i i1
  have hs' : Sm [71, 76, 77] σ s := sm_m hs (by simp)
  refine ci (fun c => ct (by omega) (ci (fun c' => ?_) (fun c' => ?_))) (fun c => ?_)
  · refine ct (by omega) (ct (by omega) (ct (by omega) (ct (by omega) (ct (by omega) (fin _ (sm_u hs' (by simp)) ?_ (fun i hi => by rw [up_i hi, e71]))))))
    rw [up_s]; unfold ilM; rw [if_pos c]; omega
  · refine ct (by omega) (ct (by omega) (ct (by omega) (ct (by omega) (ct (by omega) (fin _ (sm_u hs' (by simp)) ?_ (fun i hi => by rw [up_i hi, e71]))))))
    rw [up_s]; unfold ilM; rw [if_pos c]; omega
  · refine ct (by omega) (ct (by omega) (ct (by omega) (ct (by omega) (ct (by omega) (fin _ hs' ?_ (fun i hi => by rw [e71]))))))
    rw [e71, h6]; unfold ilM; rw [if_neg c]
end
