noncomputable section
/-! texts: as the class keeps them, as the reference does, and what they say -/
theorem sh_d (T : TT) (k : Nat) (x : Nat × Int) : nth (SHt T) (k + 90) x = nth (shDyn T.2) k x := rfl
theorem sd_d : ∀ (l : List (Int × Int)) (j : Nat), j < l.length → nth (shDyn l) (5 * j) (99, 0) = (50, (nth l j (0, 0)).1) ∧ nth (shDyn l) (5 * j + 1) (99, 0) = (50, (nth l j (0, 0)).2) ∧ nth (shDyn l) (5 * j + 2) (99, 0) = (7, 5) ∧ nth (shDyn l) (5 * j + 3) (99, 0) = (50, 4) ∧ nth (shDyn l) (5 * j + 4) (99, 0) = (50, 4)
  | [], j, h => absurd h (by simp)
  | q :: r, 0, _ => ⟨rfl, rfl, rfl, rfl, rfl⟩
  | q :: r, j + 1, h => by
    have := sd_d r j (by simpa using h)
    exact this
/-- laws by their number; how many clauses; a clause's parts -/
abbrev TA : Type := (Int → List (Int × Int)) × Int × (Int → Int → Int)
def okn (w v : Int) : Prop := v = 0 ∨ v = 1 ∨ (w = 0 ∧ 2 ≤ v ∧ v ≤ 7) ∨ (w = 1 ∧ 8 ≤ v ∧ v ≤ 9) ∨ (w = 2 ∧ 10 ≤ v ∧ v ≤ 13) ∨ (w = 3 ∧ v = 14)
def WfT (A : TA) : Prop := ∀ w, 0 ≤ w → w < 4 → A.1 w ≠ [] → wfc (okn w) (A.1 w) 0
def TC (σ : Sg) (T : TT) (r : Int) (A : TA) : Prop := ∃ j : Nat, j < T.2.length ∧ r = 92 + 5 * (j : Int) ∧ σ r 3 = A.2.1 ∧ 0 ≤ A.2.1 ∧ A.2.1 ≤ 24 ∧ A.2.1 * 5 ≤ (nth T.2 j (0, 0)).2 ∧ (nth T.2 j (0, 0)).1 ≤ 300 ∧ (∀ k w, 0 ≤ k → k < A.2.1 → 0 ≤ w → w < 5 → σ (r - 1) (k * 5 + w) = A.2.2 k w) ∧ (∀ w, 0 ≤ w → w < 4 → 0 ≤ σ (r + 1) w ∧ σ (r + 2) w ≤ (nth T.2 j (0, 0)).1 ∧ σ (r + 2) w = σ (r + 1) w + (A.1 w).length ∧ CodeAt (σ (r - 2)) (σ (r + 1) w) (A.1 w))
def npt (s : Int) : Int := if s = 5 then 4 else if s = 7 then 3 else if 4 ≤ s ∧ s ≤ 11 then 1 else 0
def TRf (x : Int → Int) (t : Int) (A : TA) : Prop := x (753 * t) = A.2.1 ∧ 0 ≤ A.2.1 ∧ A.2.1 ≤ 24 ∧ (∀ k, 0 ≤ k → k < A.2.1 → x (753 * t + 1 + 6 * k) = A.2.2 k 0 ∧ 0 ≤ A.2.2 k 0 ∧ A.2.2 k 0 ≤ 12 ∧ ∀ w, 1 ≤ w → w ≤ npt (A.2.2 k 0) → x (753 * t + 1 + 6 * k + w) = A.2.2 k w) ∧ ∀ w, 0 ≤ w → w < 4 → (A.1 w = [] ∧ ∀ k, 0 ≤ k → k < A.2.1 → A.2.2 k 0 ≠ w) ∨ (A.1 w ≠ [] ∧ ∃ k, 0 ≤ k ∧ k < A.2.1 ∧ A.2.2 k 0 = w ∧ (∀ k', 0 ≤ k' → k' < k → A.2.2 k' 0 ≠ w) ∧ ∃ b : Int, 0 ≤ b ∧ b + (A.1 w).length ≤ 300 ∧ x (753 * t + 1 + 6 * k + 1) = b ∧ x (753 * t + 1 + 6 * k + 2) = b + (A.1 w).length ∧ CodeRf x (753 * t + 145 + 2 * b) (A.1 w))
theorem tc_sh {σ : Sg} {T : TT} {r : Int} {A : TA} (h : TC σ T r A) : 92 ≤ r ∧ kd (SHt T) r = 7 ∧ RFt T r 0 = r - 2 ∧ RFt T r 1 = r + 1 ∧ RFt T r 2 = r + 2 ∧ RFt T r 4 = r - 1 ∧ kd (SHt T) (r - 2) = 50 ∧ kd (SHt T) (r - 1) = 50 ∧ kd (SHt T) (r + 1) = 50 ∧ kd (SHt T) (r + 2) = 50 ∧ ln (SHt T) (r + 1) = 4 ∧ ln (SHt T) (r + 2) = 4 ∧ A.2.1 * 5 ≤ ln (SHt T) (r - 1) ∧ ln (SHt T) (r - 2) ≤ 300 ∧ 0 ≤ A.2.1 ∧ A.2.1 ≤ 24 ∧ (∀ w, 0 ≤ w → w < 4 → 0 ≤ σ (r + 1) w ∧ σ (r + 2) w ≤ ln (SHt T) (r - 2) ∧ σ (r + 2) w = σ (r + 1) w + (A.1 w).length ∧ CodeAt (σ (r - 2)) (σ (r + 1) w) (A.1 w)) := by
  obtain ⟨j, h1, rfl, h3, h4, h5, h6, h7, h8, h9⟩ := h
  obtain ⟨s0, s1, s2, s3, s4⟩ := sd_d T.2 j h1
  have e2 : ((92 + 5 * (j : Int)) - 2).toNat = 5 * j + 90 := by omega
  have e1 : ((92 + 5 * (j : Int)) - 1).toNat = 5 * j + 1 + 90 := by omega
  have e0 : (92 + 5 * (j : Int)).toNat = 5 * j + 2 + 90 := by omega
  have e3 : ((92 + 5 * (j : Int)) + 1).toNat = 5 * j + 3 + 90 := by omega
  have e4 : ((92 + 5 * (j : Int)) + 2).toNat = 5 * j + 4 + 90 := by omega
  have hr : ∀ k, 0 ≤ k → RFt T (92 + 5 * (j : Int)) k = (if k = 0 then (92 + 5 * (j : Int)) - 2 else if k = 1 then (92 + 5 * (j : Int)) + 1 else if k = 2 then (92 + 5 * (j : Int)) + 2 else if k = 4 then (92 + 5 * (j : Int)) - 1 else 0) := by
    intro k hk
    unfold RFt
    rw [if_pos hk, if_neg (by omega), if_pos (by omega)]
  have l2 : ln (SHt T) (92 + 5 * (j : Int) - 2) = (nth T.2 j (0, 0)).1 := by unfold ln; rw [e2, sh_d, s0]
  have l1 : ln (SHt T) (92 + 5 * (j : Int) - 1) = (nth T.2 j (0, 0)).2 := by unfold ln; rw [e1, sh_d, s1]
  refine ⟨by omega, ?_, ?_, ?_, ?_, ?_, ?_, ?_, ?_, ?_, ?_, ?_, by rw [l1]; exact h6, by rw [l2]; exact h7, h4, h5, by rw [l2]; exact h9⟩
  · unfold kd; rw [e0, sh_d, s2]
  · rw [hr _ (by omega)]; rfl
  · rw [hr _ (by omega)]; rfl
  · rw [hr _ (by omega)]; rfl
  · rw [hr _ (by omega)]; rfl
  · unfold kd; rw [e2, sh_d, s0]
  · unfold kd; rw [e1, sh_d, s1]
  · unfold kd; rw [e3, sh_d, s3]
  · unfold kd; rw [e4, sh_d, s4]
  · unfold ln; rw [e3, sh_d, s3]
  · unfold ln; rw [e4, sh_d, s4]
theorem tc_c {σ σ' : Sg} {T : TT} {r : Int} {A : TA} (h : TC σ T r A) (k : ∀ a, 90 ≤ a → σ' a = σ a) : TC σ' T r A := by
  obtain ⟨j, h1, h2, h3, h4, h5, h6, h7, h8, h9⟩ := h
  refine ⟨j, h1, h2, by rw [k r (by omega)]; exact h3, h4, h5, h6, h7, ?_, ?_⟩
  · rw [k (r - 1) (by omega)]; exact h8
  · rw [k (r + 1) (by omega), k (r + 2) (by omega), k (r - 2) (by omega)]; exact h9
theorem c_beginOf {d : Nat} {σ : Sg} {T : TT} {P : Int → AM → Prop} {r w : Int} {A : TA} (h : TC σ T r A) (h0 : 0 ≤ w) (h4 : w < 4) (k : P (σ (r + 1) w) (mk σ T)) : wpI d 121 0 [aR r, aI w] [] (mk σ T) P := by
  obtain ⟨a0, a1, a2, a3, a4, a5, a6, a7, a8, a9, a10, a11, a12, a13, a14, a15, a16⟩ := tc_sh h
  obtain ⟨b1, b2, b3, b4⟩ := a16 w h0 h4
  refine g_Text_beginOf_0 ?_
  rw [a1, a3, a8, a10]
  exact cf (by omega) (cbt rfl (cbt rfl (ct (by omega) (cbt rfl (cbt rfl (ct (by omega) (cf (by omega) (cbt rfl (cbt rfl (ct (by omega) k))))))))))
theorem c_endOf {d : Nat} {σ : Sg} {T : TT} {P : Int → AM → Prop} {r w : Int} {A : TA} (h : TC σ T r A) (h0 : 0 ≤ w) (h4 : w < 4) (k : P (σ (r + 2) w) (mk σ T)) : wpI d 122 0 [aR r, aI w] [] (mk σ T) P := by
  obtain ⟨a0, a1, a2, a3, a4, a5, a6, a7, a8, a9, a10, a11, a12, a13, a14, a15, a16⟩ := tc_sh h
  obtain ⟨b1, b2, b3, b4⟩ := a16 w h0 h4
  refine g_Text_endOf_0 ?_
  rw [a1, a4, a9, a11, a2, a6]
  exact cf (by omega) (cbt rfl (cbt rfl (ct (by omega) (cbt rfl (cbt rfl (ct (by omega) (cbt rfl (cbt rfl (cf (by omega) (cbt rfl (cbt rfl (ct (by omega) k))))))))))))
theorem c_hasLaw {d : Nat} {σ : Sg} {T : TT} {P : Int → AM → Prop} {r w : Int} {A : TA} (h : TC σ T r A) (h0 : 0 ≤ w) (h4 : w < 4) (k1 : A.1 w ≠ [] → P 1 (mk σ T)) (k0 : A.1 w = [] → P 0 (mk σ T)) : wpI (d + 1) 120 0 [aR r, aI w] [] (mk σ T) P := by
  obtain ⟨a0, a1, a2, a3, a4, a5, a6, a7, a8, a9, a10, a11, a12, a13, a14, a15, a16⟩ := tc_sh h
  obtain ⟨b1, b2, b3, b4⟩ := a16 w h0 h4
  refine g_Text_hasLaw_0 (cbt (by rw [a1]; rfl) ?_)
  refine c_beginOf h h0 h4 ?_
  refine g_Text_hasLaw_5 (cbt (by rw [a1]; rfl) ?_)
  refine c_endOf h h0 h4 ?_
  refine g_Text_hasLaw_10 ?_
  refine ci (fun hc => k1 ?_) (fun hc => k0 ?_)
  · intro e; rw [e] at b3; simp at b3; omega
  · cases he : A.1 w with
    | nil => rfl
    | cons p q => rw [he] at b3; simp at b3; omega
theorem c_part {d : Nat} {σ : Sg} {T : TT} {P : Int → AM → Prop} {r n w : Int} {A : TA} (h : TC σ T r A) (h0 : 0 ≤ n) (h1 : n < A.2.1) (hw : 0 ≤ w) (hw5 : w < 5) (k : P (A.2.2 n w) (mk σ T)) : wpI d 123 0 [aR r, aI n, aI w, aU] [] (mk σ T) P := by
  obtain ⟨a0, a1, a2, a3, a4, a5, a6, a7, a8, a9, a10, a11, a12, a13, a14, a15, a16⟩ := tc_sh h
  obtain ⟨j, q1, q2, q3, q4, q5, q6, q7, q8, q9⟩ := h
  refine g_Text_part_0 ?_
  rw [w32_id (x := n * 5) (by omega) (by omega), w32_id (x := n * 5 + w) (by omega) (by omega), a1, a5, a7, q8 n w h0 h1 hw hw5]
  exact cf (by omega) (cbt rfl (cbt rfl (ct (by omega) (cbt rfl (cbt rfl (ct (by omega) k))))))
theorem c_valueOf {d : Nat} {σ : Sg} {T : TT} {P : Int → AM → Prop} {r w : Int} {A : TA} {nm : Int → Int} (h : TC σ T r A) (hf : WfT A) (h0 : 0 ≤ w) (h4 : w < 4) (hne : A.1 w ≠ []) (hnm : ∀ v, okn w v → -1000000 ≤ nm v ∧ nm v ≤ 1000000) (hq : ∀ v, okn w v → σ 40 (wn v) = nm v) (k : ∀ σ', Sm [41] σ σ' → P ((evA nm (A.1 w) []).headD 0) (mk σ' T)) : wpI (d + 1) 80 0 [aR 39, aR r, aI w, aU, aU, aU, aU] [] (mk σ T) P := by
  obtain ⟨a0, a1, a2, a3, a4, a5, a6, a7, a8, a9, a10, a11, a12, a13, a14, a15, a16⟩ := tc_sh h
  obtain ⟨b1, b2, b3, b4⟩ := a16 w h0 h4
  refine g_Laws_valueOf_0 (cbt (by rw [a1]; rfl) ?_)
  refine c_endOf h h0 h4 ?_
  refine g_Laws_valueOf_7 (cbt (by rw [a1]; rfl) ?_)
  refine c_beginOf h h0 h4 ?_
  refine g_Laws_valueOf_14 ?_
  exact vo_loop a1 (by rw [a2]; exact a6) (by rw [a2]; exact b2) (by omega) (by rw [a2]; omega) hnm (A.1 w) [] (σ (r + 1) w) σ aU b1 b3.symm (by rw [a2]; exact b4) trivial (fun _ h => absurd h List.not_mem_nil) (hf w h0 h4 hne) hq k
/-- the reference's clause of a law -/
theorem c_clauseOf {d : Nat} {σ : Sg} {T : TT} {P : Int → AM → Prop} {t w : Int} {A : TA} (ht : 0 ≤ t) (ht4 : t < 4) (h : TRf (σ 73) t A) (h0 : 0 ≤ w) (h4 : w < 4) (k0 : A.1 w = [] → P (-1) (mk σ T)) (k1 : ∀ n b : Int, A.1 w ≠ [] → 0 ≤ n → n < 24 → 0 ≤ b → b + (A.1 w).length ≤ 300 → σ 73 (753 * t + 1 + 6 * n + 1) = b → σ 73 (753 * t + 1 + 6 * n + 2) = b + (A.1 w).length → CodeRf (σ 73) (753 * t + 145 + 2 * b) (A.1 w) → P n (mk σ T)) : wpI d 233 0 [aR 70, aI t, aI w, aU] [] (mk σ T) P := by
  obtain ⟨q1, q2, q3, q4, q5⟩ := h
  refine g_Mo_clauseOf_0 ?_
  rcases q5 w h0 h4 with ⟨e, ne⟩ | ⟨e, n, n0, n1, n2, n3, b, b0, b1, b2, b3, b4⟩
  · refine for_up (n := A.2.1) (Hd := fun i s => wpI d 233 2 [aR 70, aI t, aI w, aI i] [] (mk s T) P) (Inv := fun _ s => s = σ) ?_ ?_ rfl q2
    · rintro i s i0 i1 rfl ih
      refine g_Mo_clauseOf_2 ?_
      rw [w32_id (x := 753 * t) (by omega) (by omega), w32_id (x := 753 * t + 1) (by omega) (by omega), w32_id (x := 6 * i) (by omega) (by omega), w32_id (x := 753 * t + 1 + 6 * i) (by omega) (by omega), (q4 i i0 i1).1, q1, w32_id (x := i + 1) (by omega) (by omega)]
      exact cf (by omega) (ct (by omega) (ct (by omega) (ct (by omega) (cf (ne i i0 i1) (ih _ rfl)))))
    · rintro s rfl
      refine g_Mo_clauseOf_2 ?_
      rw [w32_id (x := 753 * t) (by omega) (by omega), q1]
      exact cf (by omega) (ct (by omega) (cf (by omega) (k0 e)))
  · refine for_up (n := n) (Hd := fun i s => wpI d 233 2 [aR 70, aI t, aI w, aI i] [] (mk s T) P) (Inv := fun _ s => s = σ) ?_ ?_ rfl n0
    · rintro i s i0 i1 rfl ih
      refine g_Mo_clauseOf_2 ?_
      rw [w32_id (x := 753 * t) (by omega) (by omega), w32_id (x := 753 * t + 1) (by omega) (by omega), w32_id (x := 6 * i) (by omega) (by omega), w32_id (x := 753 * t + 1 + 6 * i) (by omega) (by omega), (q4 i i0 (by omega)).1, q1, w32_id (x := i + 1) (by omega) (by omega)]
      exact cf (by omega) (ct (by omega) (ct (by omega) (ct (by omega) (cf (n3 i i0 i1) (ih _ rfl)))))
    · rintro s rfl
      refine g_Mo_clauseOf_2 ?_
      rw [w32_id (x := 753 * t) (by omega) (by omega), w32_id (x := 753 * t + 1) (by omega) (by omega), w32_id (x := 6 * n) (by omega) (by omega), w32_id (x := 753 * t + 1 + 6 * n) (by omega) (by omega), (q4 n n0 n1).1, q1]
      exact cf (by omega) (ct (by omega) (ct (by omega) (ct (by omega) (ct n2 (k1 n b e n0 (by omega) b0 b1 b2 b3 b4)))))
/-- what a law says, within bounds -/
def sayA (cd : List (Int × Int)) (nm : Int → Int) (wo lo hi : Int) : Int := if cd = [] then wo else max lo (min hi ((evA nm cd []).headD 0))
theorem c_says {d : Nat} {σ : Sg} {T : TT} {P : Int → AM → Prop} {t w hh wo lo hi : Int} {cd : List (Int × Int)} {nm : Int → Int} (h0 : 0 ≤ w) (h4 : w < 4) (hlh : lo ≤ hi) (hh0 : 0 ≤ hh) (hh6 : hh < 6)
    (hx : (t < 0 ∧ cd = []) ∨ (0 ≤ t ∧ t < 4 ∧ ∃ A, TRf (σ 73) t A ∧ WfT A ∧ cd = A.1 w)) (n0 : nm 0 = hh) (n1 : nm 1 = σ 71 (12 + hh)) (hnm : ∀ v, okn w v → -1000000 ≤ nm v ∧ nm v ≤ 1000000) (hq : ∀ v, okn w v → v ≠ 0 → v ≠ 1 → σ 76 v = nm v)
    (k : ∀ σ', Sm [76, 77] σ σ' → P (sayA cd nm wo lo hi) (mk σ' T)) : wpI (d + 4) 232 0 [aR 70, aI t, aI w, aI hh, aI wo, aI lo, aI hi, aU, aU] [] (mk σ T) P := by
  refine g_Mo_says_0 ?_
  rcases hx with ⟨t0, rfl⟩ | ⟨t0, t4, A, hA, hf, rfl⟩
  · refine g_Mo_clauseOf_0 (g_Mo_clauseOf_2 (ct t0 ?_))
    exact g_Mo_says_6 (ct (by omega) (k σ (sm_r _ _)))
  · refine c_clauseOf t0 t4 hA h0 h4 ?_ ?_
    · intro e
      refine g_Mo_says_6 (ct (by omega) ?_)
      have := k σ (sm_r _ _)
      unfold sayA at this; rw [if_pos e] at this; exact this
    · intro n b e m0 m1 b0 b1 b2 b3 b4
      refine g_Mo_says_6 (cf (by omega) ?_)
      rw [w32_id (x := 12 + hh) (by omega) (by omega)]
      refine ct (by omega) ?_
      refine g_Mo_worked_0 ?_
      rw [w32_id (x := 753 * t) (by omega) (by omega), w32_id (x := 753 * t + 1) (by omega) (by omega), w32_id (x := 6 * n) (by omega) (by omega), w32_id (x := 753 * t + 1 + 6 * n) (by omega) (by omega), w32_id (x := 753 * t + 1 + 6 * n + 1) (by omega) (by omega), w32_id (x := 753 * t + 145) (by omega) (by omega)]
      refine ct (by omega) ?_
      have u73 : up (up σ 76 0 hh) 76 1 (σ 71 (12 + hh)) 73 = σ 73 := by rw [up_c (by decide), up_c (by decide)]
      rw [u73, b2]
      refine wk_loop (by omega) (by omega) hnm (A.1 w) [] b _ aU aU b0 (by rw [u73]; exact b3) b1 (by rw [u73]; exact b4) trivial (fun _ h => absurd h List.not_mem_nil) (hf w h0 h4 e) ?_ ?_
      · intro v hv
        rw [up_e, up_e]
        by_cases e1 : v = 1
        · rw [if_pos e1, e1, n1]
        · rw [if_neg e1]
          by_cases e0 : v = 0
          · rw [if_pos e0, e0, n0]
          · rw [if_neg e0]; exact hq v hv e0 e1
      · intro σ' hs
        have hk := k σ' (sm_t (sm_u (sm_u (sm_r _ _) (by simp)) (by simp)) (sm_m hs (by simp)))
        unfold sayA at hk; rw [if_neg e] at hk
        refine g_Mo_says_45 ?_
        refine ci (fun hc => ?_) (fun hc => ci (fun hc' => ?_) (fun hc' => ?_))
        · rw [show max lo (min hi ((evA nm (A.1 w) []).headD 0)) = lo from by omega] at hk; exact hk
        · rw [show max lo (min hi ((evA nm (A.1 w) []).headD 0)) = hi from by omega] at hk; exact hk
        · rw [show max lo (min hi ((evA nm (A.1 w) []).headD 0)) = (evA nm (A.1 w) []).headD 0 from by omega] at hk; exact hk
end
