noncomputable section
set_option maxRecDepth 20000
/-! the class reads a text, up to where it is kept -/
def A0 : TA := (fun _ => [], 0, fun _ _ => 0)
def rdr2 : List Int := [60, 61, 62, 63, 64, 65, 66, 67, 68]
theorem c_fill62 {d : Nat} {σ : Sg} {T : TT} {P : AM → Prop} (k : ∀ s, Sm [62] σ s → (∀ i, 0 ≤ i → i < 4 → s 62 i = 0) → P (mk s T)) : wpV d 309 0 [aR 62, aI 0, aU, aU] [] (mk σ T) P := by
  refine g_Arrays_fill_62_0 ?_
  refine for_up (n := 4) (Hd := fun i s => wpV d 309 5 [aR 62, aI 0, aI i, aI 4] [] (mk s T) P) (Inv := fun n s => Sm [62] σ s ∧ ∀ i, 0 ≤ i → i < n → s 62 i = 0) ?_ ?_ ⟨sm_r _ _, fun i h1 h2 => by omega⟩ (by omega)
  · rintro i s i0 i1 ⟨a1, a2⟩ ih
    refine g_Arrays_fill_62_5 (ct i1 (ct (by omega) ?_))
    rw [w32_id (x := i + 1) (by omega) (by omega)]
    refine ih _ ⟨sm_u a1 (by simp), fun j j0 j1 => ?_⟩
    rw [up_e]
    by_cases e : j = i
    · rw [if_pos e]
    · rw [if_neg e]; exact a2 j j0 (by omega)
  · rintro s ⟨a1, a2⟩
    exact g_Arrays_fill_62_5 (cf (by omega) (k s a1 a2))
theorem c_fill63 {d : Nat} {σ : Sg} {T : TT} {P : AM → Prop} (k : ∀ s, Sm [63] σ s → (∀ i, 0 ≤ i → i < 4 → s 63 i = 0) → P (mk s T)) : wpV d 309 0 [aR 63, aI 0, aU, aU] [] (mk σ T) P := by
  refine g_Arrays_fill_63_0 ?_
  refine for_up (n := 4) (Hd := fun i s => wpV d 309 5 [aR 63, aI 0, aI i, aI 4] [] (mk s T) P) (Inv := fun n s => Sm [63] σ s ∧ ∀ i, 0 ≤ i → i < n → s 63 i = 0) ?_ ?_ ⟨sm_r _ _, fun i h1 h2 => by omega⟩ (by omega)
  · rintro i s i0 i1 ⟨a1, a2⟩ ih
    refine g_Arrays_fill_63_5 (ct i1 (ct (by omega) ?_))
    rw [w32_id (x := i + 1) (by omega) (by omega)]
    refine ih _ ⟨sm_u a1 (by simp), fun j j0 j1 => ?_⟩
    rw [up_e]
    by_cases e : j = i
    · rw [if_pos e]
    · rw [if_neg e]; exact a2 j j0 (by omega)
  · rintro s ⟨a1, a2⟩
    exact g_Arrays_fill_63_5 (cf (by omega) (k s a1 a2))
theorem c_fill64 {d : Nat} {σ : Sg} {T : TT} {P : AM → Prop} (k : ∀ s, Sm [64] σ s → (∀ i, 0 ≤ i → i < 120 → s 64 i = 0) → P (mk s T)) : wpV d 309 0 [aR 64, aI 0, aU, aU] [] (mk σ T) P := by
  refine g_Arrays_fill_64_0 ?_
  refine for_up (n := 120) (Hd := fun i s => wpV d 309 5 [aR 64, aI 0, aI i, aI 120] [] (mk s T) P) (Inv := fun n s => Sm [64] σ s ∧ ∀ i, 0 ≤ i → i < n → s 64 i = 0) ?_ ?_ ⟨sm_r _ _, fun i h1 h2 => by omega⟩ (by omega)
  · rintro i s i0 i1 ⟨a1, a2⟩ ih
    refine g_Arrays_fill_64_5 (ct i1 (ct (by omega) ?_))
    rw [w32_id (x := i + 1) (by omega) (by omega)]
    refine ih _ ⟨sm_u a1 (by simp), fun j j0 j1 => ?_⟩
    rw [up_e]
    by_cases e : j = i
    · rw [if_pos e]
    · rw [if_neg e]; exact a2 j j0 (by omega)
  · rintro s ⟨a1, a2⟩
    exact g_Arrays_fill_64_5 (cf (by omega) (k s a1 a2))
theorem c_loop {D : Nat} {T : TT} {P : Int → AM → Prop} {n x : Int} (hD : 34 ≤ D) : ∀ (j : Nat) (A : TA) (u : Int) (l : List Tok) (s : Sg), 24 - A.2.1 < j → CI s n A u l → (∀ A' u' s', Txt n A u l (.inl (A', u', [])) → Sm rdr s s' → CI s' n A' u' [] → ∀ l2, wpR (D + 1) 143 96 [aR 60, aI x, aI l2, aU] [] (mk s' T) P) → (∀ f p s', Txt n A u l (.inr (f, p)) → f ≠ 0 → Sm rdr s s' → s' 60 1 = f → s' 60 2 = p → P 0 (mk s' T)) → wpR (D + 1) 143 54 [aR 60, aI x, aI A.2.1, aU] [] (mk s T) P
  | 0, A, u, l, s, hj, h, ok, er => by have := h.2.2.2.2.1; omega
  | j + 1, A, u, l, s, hj, h, ok, er => by
    have a := h.2.2.2.2.1
    have h1 := h.2.1
    have cur := ctk_cur h.1
    refine g_Reader_read_54 (cf (by omega) (ct h1 ?_))
    cases l with
    | nil => exact ct cur.1 (ct h1 (ok A u s .done (sm_r _ _) h _))
    | cons t r =>
      have hv := ctk_v h.1 t List.mem_cons_self
      have c1 : s 65 8 = t.1 := cur.1
      obtain ⟨D', rfl⟩ : ∃ D', D = D' + 1 := ⟨D - 1, by omega⟩
      refine cf (by omega) (c_readClause (by omega) (by simp) h (fun A' u' l' s' hc e sm hi => g_Reader_read_81 ?_) (fun f p s' hc hf sm z1 z2 => g_Reader_read_81 ?_))
      · rw [w32_id (x := A.2.1 + 1) (by omega) (by omega), ← e]
        exact c_loop hD j A' u' l' s' (by omega) hi (fun A2 u2 s2 ht sm2 h2 => ok A2 u2 s2 (.st (by simp) hc ht) (sm_t sm sm2) h2) (fun f p s2 ht hf sm2 => er f p s2 (.st (by simp) hc ht) hf (sm_t sm sm2))
      · rw [w32_id (x := A.2.1 + 1) (by omega) (by omega)]
        have fin : P 0 (mk s' T) := er f p s' (.bad (by simp) hc hf) hf sm z1 z2
        exact g_Reader_read_54 (ci (fun _ => cf (by omega) fin) (fun _ => cf (by omega) (cf (by omega) fin)))
theorem c_read {D : Nat} {s : Sg} {T : TT} {P : Int → AM → Prop} {n : Int} (hD : 34 ≤ D) (n0 : 0 ≤ n) (n3 : n ≤ 300) (ok : ∀ l A u s', Lex (fun i => s 59 i % 256) n 0 l → l.length ≤ 300 → Txt n A0 0 l (.inl (A, u, [])) → Sm rdr2 s s' → CI s' n A u [] → ∀ l2, wpR (D + 1) 143 96 [aR 60, aI n, aI l2, aU] [] (mk s' T) P) (er : ∀ l f p s', Lex (fun i => s 59 i % 256) n 0 l → l.length ≤ 300 → Txt n A0 0 l (.inr (f, p)) → f ≠ 0 → Sm rdr2 s s' → s' 60 1 = f → s' 60 2 = p → P 0 (mk s' T)) : wpR (D + 1) 143 0 [aR 60, aI n, aU, aU] [] (mk s T) P := by
  obtain ⟨D', rfl⟩ : ∃ D', D = D' + 4 := ⟨D - 4, by omega⟩
  refine g_Reader_read_0 (c_fill62 (fun s1 e1 f1 => g_Reader_read_28 (c_fill63 (fun s2 e2 f2 => g_Reader_read_36 (c_fill64 (fun s3 e3 f3 => g_Reader_read_44 (c_begin n0 n3 (fun l s4 hx hl e4 t4 => g_Reader_read_52 ?_))))))))
  have sm4 : Sm rdr2 s s4 := sm_t (sm_u (sm_u (sm_u (sm_u (sm_r _ _) (by simp [rdr2])) (by simp [rdr2])) (by simp [rdr2])) (by simp [rdr2])) (sm_t (sm_m e1 (by simp [rdr2])) (sm_t (sm_m e2 (by simp [rdr2])) (sm_t (sm_m e3 (by simp [rdr2])) (sm_m e4 (by simp [rdr2])))))
  have e59 : s3 59 = s 59 := by rw [e3 59 (by decide), e2 59 (by decide), e1 59 (by decide), up_c (by decide), up_c (by decide), up_c (by decide), up_c (by decide)]
  rw [e59] at hx
  have e60 : s4 60 = up (up (up (up s 60 1 0) 60 2 (-1)) 60 4 0) 60 8 0 60 := by rw [e4 60 (by decide), e3 60 (by decide), e2 60 (by decide), e1 60 (by decide)]
  refine c_loop (by omega) 25 A0 0 l s4 (by decide) ⟨t4, ?_, ?_, ?_, by decide, fun k w k0 k1 => ?_, fun i i0 i1 => ?_, fun w w0 w4 => ?_, by omega, fun w _ _ hw => absurd rfl hw, by rw [e60, up_i (by decide), up_i (by decide), up_s]⟩ (fun A' u' s' ht sm h => ok l A' u' s' hx hl ht (sm_t sm4 (sm_m sm (by simp [rdr, rdr2]))) h) (fun f p s' ht hf sm => er l f p s' hx hl ht hf (sm_t sm4 (sm_m sm (by simp [rdr, rdr2]))))
  · rw [e60, up_i (by decide), up_i (by decide), up_i (by decide), up_s]
  · rw [e60, up_i (by decide), up_s]
  · rw [e60, up_s]; rfl
  · exact absurd k1 (by show ¬ k < 0; omega)
  · have i0 : 0 * 5 ≤ i := i0
    rw [e4 64 (by decide)]; exact f3 i (by omega) i1
  · rw [e4 62 (by decide), e3 62 (by decide), e2 62 (by decide), f1 w w0 w4, e4 63 (by decide), e3 63 (by decide), f2 w w0 w4]
    exact ⟨by omega, rfl, by omega, trivial⟩
end
