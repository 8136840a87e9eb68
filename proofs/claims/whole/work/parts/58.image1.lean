noncomputable section
/-! copies -/
theorem to_k {t f dr kn sz mr bd wt ak bn kh kw a t' f' dr' kn' sz' mr' bd' wt' ak' bn' kh' kw' a' : Int → Int} (h : TO t f dr kn sz mr bd wt ak bn kh kw a) (et : ∀ i, i = 0 ∨ i = 2 ∨ i = 9 ∨ i = 11 ∨ i = 13 ∨ i = 15 ∨ i = 16 ∨ i = 19 → t' i = t i) (e1 : ∀ i, 0 ≤ i → i < 6 → f' i = f i) (e2 : ∀ i, 0 ≤ i → i < 24 → dr' i = dr i ∧ kn' i = kn i ∧ sz' i = sz i ∧ mr' i = mr i ∧ bd' i = bd i ∧ wt' i = wt i) (e3 : ∀ i, 0 ≤ i → i < 8 → ak' i = ak i ∧ kh' i = kh i ∧ kw' i = kw i) (e4 : ∀ i, 0 ≤ i → i < 36 → bn' i = bn i) (ea : ∀ i, 0 ≤ i → i < 5544 → a' i = a i) : TO t' f' dr' kn' sz' mr' bd' wt' ak' bn' kh' kw' a' := by
  have ha := to_a (a' := a') h (fun i hi => ea i (by omega) (by omega))
  obtain ⟨⟨b1, b2, b3, b4, b5, b6, b7, b8⟩, b9, b10, b11, b12, b13⟩ := ha
  unfold TO
  rw [et 0 (by omega), et 2 (by omega), et 9 (by omega), et 11 (by omega), et 13 (by omega), et 15 (by omega), et 16 (by omega), et 19 (by omega)]
  refine ⟨⟨b1, b2, b3, b4, b5, b6, b7, b8⟩, ?_, ?_, ?_, ?_, ?_⟩
  · intro i i0 i1; rw [e1 i i0 (by omega)]; exact b9 i i0 i1
  · intro i i0 i1
    obtain ⟨q1, q2, q3, q4, q5, q6⟩ := e2 i i0 (by omega)
    rw [q1, q2, q3, q4, q5, q6]; exact b10 i i0 i1
  · intro i i0 i1; rw [(e3 i i0 (by omega)).1]; exact b11 i i0 i1
  · intro i i0 i1; rw [e4 i i0 i1]; exact b12 i i0 i1
  · intro i i0 i1; rw [(e3 i i0 (by omega)).2.1, (e3 i i0 (by omega)).2.2]; exact b13 i i0 i1
theorem mo_k {m l p a m' l' p' a' : Int → Int} {hs B : Int} (h : MO m l p hs a B) (em : ∀ i, 0 ≤ i → i < 9 → m' i = m i) (el : ∀ i, 0 ≤ i → i < 36 → l' i = l i) (ep : ∀ i, 0 ≤ i → i < 150 → p' i = p i) (ea : ∀ i, 0 ≤ i → i < 5544 → a' i = a i) : MO m' l' p' hs a' B := by
  obtain ⟨h1, h2, h3, h4, h5, h6, h7⟩ := h
  refine ⟨?_, ?_, ?_, ?_, ?_, ?_, ?_⟩
  · rcases h1 with h1 | h1
    · left; rw [em 0 (by omega) (by omega)]; exact h1
    · right; exact sk_c (fun i i0 i1 => em i i0 (by omega)) h1
  · intro i i0 i1; rw [em i i0 (by omega), ea _ (by omega) (by omega)]; exact h2 i i0 i1
  · rw [em 6 (by omega) (by omega), ea 4 (by omega) (by omega)]; exact h3
  · rw [em 7 (by omega) (by omega), ea 5 (by omega) (by omega)]; exact h4
  · rw [em 8 (by omega) (by omega), ea 11 (by omega) (by omega)]; exact h5
  · intro i i0 i1; rw [el i i0 i1, ea _ (by omega) (by omega)]; exact h6 i i0 i1
  · rw [em 8 (by omega) (by omega), ea 11 (by omega) (by omega)]
    intro i w i0 i1 w0 w1
    rw [ep _ (by omega) (by omega), ea _ (by omega) (by omega)]; exact h7 i w i0 i1 w0 w1
theorem tr_k {t c a t' c' a' : Int → Int} {hs B e : Int} (h : TRl t c a hs B e) (et : t' 0 = t 0 ∧ t' 1 = t 1) (ec : ∀ i, 0 ≤ i → i < 5850 → c' i = c i) (ea : ∀ i, 0 ≤ i → i < 5544 → a' i = a i) : TRl t' c' a' hs B e := by
  obtain ⟨h1, h2, h3, h4, h5⟩ := h
  unfold TRl
  rw [et.1, et.2, ea 8 (by omega) (by omega), ea 11 (by omega) (by omega)]
  refine ⟨h1, h2, ?_, ?_, ?_⟩
  · intro j j0 j1
    obtain ⟨s1, s2, s3, s4, s5, s6, s7, s8⟩ := h3 j j0 j1
    have er : ∀ i, 0 ≤ i → i < 48 → a' (264 + 48 * j + i) = a (264 + 48 * j + i) := fun i i0 i1 => ea _ (by omega) (by omega)
    have ek : ∀ i, 0 ≤ i → i < 195 → cr t' c' j i = cr t c j i := fun i i0 i1 => by unfold cr; rw [et.2, ec _ (by omega) (by omega)]
    dsimp only at s2 s3 s4 s5 s6 s7 s8
    refine ⟨?_, ?_, ?_, ?_, ?_, ?_, ?_, ?_⟩ <;> (try dsimp only)
    · rcases s1 with s1 | s1
      · left; rw [ek 0 (by omega) (by omega)]; exact s1
      · right; exact sk_c (fun i i0 i1 => ek i i0 (by omega)) s1
    · intro i i0 i1; rw [er _ (by omega) (by omega), ek i i0 (by omega)]; exact s2 i i0 i1
    · rw [er _ (by omega) (by omega), ek 6 (by omega) (by omega)]; exact s3
    · rw [er _ (by omega) (by omega), ek 7 (by omega) (by omega)]; exact s4
    · rw [er _ (by omega) (by omega), ek 8 (by omega) (by omega)]; exact s5
    · rw [er _ (by omega) (by omega)]; exact s6
    · intro i i0 i1; rw [er 0 (by omega) (by omega), er (7 + i) (by omega) (by omega), ek (9 + i) (by omega) (by omega)]; exact s7 i i0 i1
    · rw [er _ (by omega) (by omega), ek 8 (by omega) (by omega)]
      intro i w i0 i1 w0 w1
      rw [ek _ (by omega) (by omega), ea _ (by omega) (by omega)]
      exact s8 i w i0 i1 w0 w1
  · intro i j i0 i1 j1; rw [ea _ (by omega) (by omega), ea _ (by omega) (by omega)]; exact h4 i j i0 i1 j1
  · intro i i0 i1; rw [ea _ (by omega) (by omega)]; exact h5 i i0 i1
theorem r_copy12 {d : Nat} {σ : Sg} {T : TT} {P : AM → Prop} (k : ∀ s, Sm [72] σ s → (∀ i, 0 ≤ i → i < 5544 → s 72 i = σ 71 i) → P (mk s T)) : wpV d 174 0 [aR 71, aR 72, aU] [] (mk σ T) P := by
  refine g_Mo_copy_71_72_0 ?_
  refine for_up (n := 5544) (Hd := fun i s => wpV d 174 2 [aR 71, aR 72, aI i] [] (mk s T) P) (Inv := fun n s => Sm [72] σ s ∧ ∀ i, 0 ≤ i → i < n → s 72 i = σ 71 i) ?_ ?_ ⟨sm_r _ _, fun i _ _ => by omega⟩ (by omega)
  · rintro i s i0 i1 ⟨q1, q2⟩ ih
    refine g_Mo_copy_71_72_2 ?_
    rw [w32_id (x := i + 1) (by omega) (by omega), q1 71 (by decide)]
    refine ct i1 (ct (by omega) (ct (by omega) (ih _ ⟨sm_u q1 (by simp), fun j j0 j1 => ?_⟩)))
    rw [up_e]
    by_cases q : j = i
    · rw [if_pos q, q]
    · rw [if_neg q]; exact q2 j j0 (by omega)
  · rintro s ⟨q1, q2⟩
    exact g_Mo_copy_71_72_2 (cf (by omega) (k s q1 q2))
theorem r_copy21 {d : Nat} {σ : Sg} {T : TT} {P : AM → Prop} (k : ∀ s, Sm [71] σ s → (∀ i, 0 ≤ i → i < 5544 → s 71 i = σ 72 i) → P (mk s T)) : wpV d 174 0 [aR 72, aR 71, aU] [] (mk σ T) P := by
  refine g_Mo_copy_72_71_0 ?_
  refine for_up (n := 5544) (Hd := fun i s => wpV d 174 2 [aR 72, aR 71, aI i] [] (mk s T) P) (Inv := fun n s => Sm [71] σ s ∧ ∀ i, 0 ≤ i → i < n → s 71 i = σ 72 i) ?_ ?_ ⟨sm_r _ _, fun i _ _ => by omega⟩ (by omega)
  · rintro i s i0 i1 ⟨q1, q2⟩ ih
    refine g_Mo_copy_72_71_2 ?_
    rw [w32_id (x := i + 1) (by omega) (by omega), q1 72 (by decide)]
    refine ct i1 (ct (by omega) (ct (by omega) (ih _ ⟨sm_u q1 (by simp), fun j j0 j1 => ?_⟩)))
    rw [up_e]
    by_cases q : j = i
    · rw [if_pos q, q]
    · rw [if_neg q]; exact q2 j j0 (by omega)
  · rintro s ⟨q1, q2⟩
    exact g_Mo_copy_72_71_2 (cf (by omega) (k s q1 q2))
/-- the told rows from block a to block b -/
def CpT (g s : Sg) (a b : Int) : Prop := (∀ i, i = 0 ∨ i = 2 ∨ i = 9 ∨ i = 11 ∨ i = 13 ∨ i = 15 ∨ i = 16 ∨ i = 19 → s b i = g a i) ∧ (∀ i, 0 ≤ i → i < 6 → s (b + 1) i = g (a + 1) i) ∧ (∀ i, 0 ≤ i → i < 24 → s (b + 2) i = g (a + 2) i ∧ s (b + 3) i = g (a + 3) i ∧ s (b + 4) i = g (a + 4) i ∧ s (b + 5) i = g (a + 5) i ∧ s (b + 6) i = g (a + 6) i ∧ s (b + 7) i = g (a + 7) i) ∧ (∀ i, 0 ≤ i → i < 8 → s (b + 8) i = g (a + 8) i ∧ s (b + 11) i = g (a + 11) i ∧ s (b + 12) i = g (a + 12) i) ∧ (∀ i, 0 ≤ i → i < 36 → s (b + 9) i = g (a + 9) i) ∧ (∀ i, 0 ≤ i → i < 4 → s (b + 10) i = g (a + 10) i)
theorem c_copyT {d : Nat} {σ : Sg} {T : TT} {P : AM → Prop} (h13 : ∀ t, 0 ≤ t → t < 4 → σ 13 t = 0 ∨ kd (SHt T) (σ 13 t) = 7) (k : ∀ s, Sm [21, 22, 23, 24, 25, 26, 27, 28, 29, 30, 31, 32, 33] σ s → CpT σ s 3 21 → P (mk s T)) : wpV d 65 0 [aR 21, aR 3, aU] [] (mk σ T) P := by
  refine g_Told_copyFrom_21_3_0 ?_
  have hx : ∀ i j a b n : Int, 0 ≤ j → j < n → (0 : Int) ≤ j ∧ j < 0 + n := fun _ _ _ _ _ _ _ => by omega
  refine for_up (n := 4) (Hd := fun i s => wpV d 65 177 [aR 21, aR 3, aI i] [] (mk s T) P) (Inv := fun n s => Sm [21, 22, 23, 24, 25, 26, 27, 28, 29, 30, 31] σ s ∧ (∀ i, i = 0 ∨ i = 2 ∨ i = 9 ∨ i = 11 ∨ i = 13 → s 21 i = σ 3 i) ∧ (∀ i, 0 ≤ i → i < 6 → s 22 i = σ 4 i) ∧ (∀ i, 0 ≤ i → i < 24 → s 23 i = σ 5 i ∧ s 24 i = σ 6 i ∧ s 25 i = σ 7 i ∧ s 26 i = σ 8 i ∧ s 27 i = σ 9 i ∧ s 28 i = σ 10 i) ∧ (∀ i, 0 ≤ i → i < 8 → s 29 i = σ 11 i) ∧ (∀ i, 0 ≤ i → i < 36 → s 30 i = σ 12 i) ∧ (∀ i, 0 ≤ i → i < n → s 31 i = σ 13 i)) ?_ ?_ ⟨?_, ?_, ?_, ?_, ?_, ?_, fun i _ _ => by omega⟩ (by omega)
  · rintro i s i0 i1 ⟨q1, q2, q3, q4, q5, q6, q7⟩ ih
    refine g_Told_copyFrom_21_3_177 ?_
    rw [w32_id (x := i + 1) (by omega) (by omega), q1 13 (by decide)]
    have nx : wpV d 65 177 [aR 21, aR 3, aI (i + 1)] [] (mk (up s 31 i (σ 13 i)) T) P := by
      refine ih _ ⟨sm_u q1 (by simp), ?_, ?_, ?_, ?_, ?_, fun j j0 j1 => ?_⟩
      · rw [up_c (by decide)]; exact q2
      · rw [up_c (by decide)]; exact q3
      · rw [up_c (by decide), up_c (by decide), up_c (by decide), up_c (by decide), up_c (by decide), up_c (by decide)]; exact q4
      · rw [up_c (by decide)]; exact q5
      · rw [up_c (by decide)]; exact q6
      · rw [up_e]
        by_cases q : j = i
        · rw [if_pos q, q]
        · rw [if_neg q]; exact q7 j j0 (by omega)
    refine ct i1 (ct (by omega) (ci (fun _ => nx) (fun c => ?_)))
    rcases h13 i i0 i1 with q | q
    · exact ct ⟨q, by omega, by omega⟩ nx
    · exact absurd ⟨q, by omega, by omega⟩ c
  · rintro s ⟨q1, q2, q3, q4, q5, q6, q7⟩
    refine g_Told_copyFrom_21_3_177 (cf (by omega) ?_)
    rw [q1 3 (by decide)]
    refine k _ (sm_u (sm_cp (sm_cp (sm_u (sm_u (sm_m q1 (by simp)) (by simp)) (by simp)) (by simp)) (by simp)) (by simp)) ⟨?_, ?_, ?_, ?_, ?_, ?_⟩
    · intro i hi
      show up (cp (cp (up (up s 21 15 (σ 3 15)) 21 16 (σ 3 16)) 14 0 32 0 8) 15 0 33 0 8) 21 19 (σ 3 19) 21 i = σ 3 i
      rw [up_e, cp_c (by decide), cp_c (by decide), up_e, up_e]
      by_cases a1 : i = 19
      · rw [if_pos a1, a1]
      · rw [if_neg a1]
        by_cases a2 : i = 16
        · rw [if_pos a2, a2]
        · rw [if_neg a2]
          by_cases a3 : i = 15
          · rw [if_pos a3, a3]
          · rw [if_neg a3]; exact q2 i (by omega)
    · intro i i0 i1
      show up (cp (cp (up (up s 21 15 (σ 3 15)) 21 16 (σ 3 16)) 14 0 32 0 8) 15 0 33 0 8) 21 19 (σ 3 19) 22 i = σ 4 i
      rw [up_c (by decide), cp_c (by decide), cp_c (by decide), up_c (by decide), up_c (by decide)]; exact q3 i i0 i1
    · intro i i0 i1
      have e : ∀ b, b ≠ 21 → b ≠ 32 → b ≠ 33 → up (cp (cp (up (up s 21 15 (σ 3 15)) 21 16 (σ 3 16)) 14 0 32 0 8) 15 0 33 0 8) 21 19 (σ 3 19) b = s b := fun b h1 h2 h3 => by rw [up_c h1, cp_c h3, cp_c h2, up_c h1, up_c h1]
      rw [e _ (by decide) (by decide) (by decide), e _ (by decide) (by decide) (by decide), e _ (by decide) (by decide) (by decide), e _ (by decide) (by decide) (by decide), e _ (by decide) (by decide) (by decide), e _ (by decide) (by decide) (by decide)]
      exact q4 i i0 i1
    · intro i i0 i1
      refine ⟨?_, ?_, ?_⟩
      · show up (cp (cp (up (up s 21 15 (σ 3 15)) 21 16 (σ 3 16)) 14 0 32 0 8) 15 0 33 0 8) 21 19 (σ 3 19) 29 i = σ 11 i
        rw [up_c (by decide), cp_c (by decide), cp_c (by decide), up_c (by decide), up_c (by decide)]; exact q5 i i0 i1
      · show up (cp (cp (up (up s 21 15 (σ 3 15)) 21 16 (σ 3 16)) 14 0 32 0 8) 15 0 33 0 8) 21 19 (σ 3 19) 32 i = σ 14 i
        rw [up_c (by decide), cp_c (by decide), cp_e, if_pos (by omega), up_c (by decide), up_c (by decide), q1 14 (by decide)]; congr 1; omega
      · show up (cp (cp (up (up s 21 15 (σ 3 15)) 21 16 (σ 3 16)) 14 0 32 0 8) 15 0 33 0 8) 21 19 (σ 3 19) 33 i = σ 15 i
        rw [up_c (by decide), cp_e, if_pos (by omega), cp_c (by decide), up_c (by decide), up_c (by decide), q1 15 (by decide)]; congr 1; omega
    · intro i i0 i1
      show up (cp (cp (up (up s 21 15 (σ 3 15)) 21 16 (σ 3 16)) 14 0 32 0 8) 15 0 33 0 8) 21 19 (σ 3 19) 30 i = σ 12 i
      rw [up_c (by decide), cp_c (by decide), cp_c (by decide), up_c (by decide), up_c (by decide)]; exact q6 i i0 i1
    · intro i i0 i1
      show up (cp (cp (up (up s 21 15 (σ 3 15)) 21 16 (σ 3 16)) 14 0 32 0 8) 15 0 33 0 8) 21 19 (σ 3 19) 31 i = σ 13 i
      rw [up_c (by decide), cp_c (by decide), cp_c (by decide), up_c (by decide), up_c (by decide)]; exact q7 i i0 i1
  · exact sm_u (sm_cp (sm_u (sm_cp (sm_u (sm_cp (sm_cp (sm_cp (sm_cp (sm_cp (sm_cp (sm_u (sm_cp (sm_u (sm_r _ _) (by simp)) (by simp)) (by simp)) (by simp)) (by simp)) (by simp)) (by simp)) (by simp)) (by simp)) (by simp)) (by simp)) (by simp)) (by simp)) (by simp)
  · intro i hi
    simp only [up, cp, Int.reduceEq, false_and, if_false, true_and]
    (repeat' split) <;> first | (subst_vars; rfl) | omega | rfl
  · intro i i0 i1
    simp only [up, cp, Int.reduceEq, false_and, if_false, true_and]
    rw [if_pos (by omega)]; congr 1; omega
  · intro i i0 i1
    simp only [up, cp, Int.reduceEq, false_and, if_false, true_and]
    refine ⟨?_, ?_, ?_, ?_, ?_, ?_⟩ <;> (rw [if_pos (by omega)]; congr 1; omega)
  · intro i i0 i1
    simp only [up, cp, Int.reduceEq, false_and, if_false, true_and]
    rw [if_pos (by omega)]; congr 1; omega
  · intro i i0 i1
    simp only [up, cp, Int.reduceEq, false_and, if_false, true_and]
    rw [if_pos (by omega)]; congr 1; omega
end
