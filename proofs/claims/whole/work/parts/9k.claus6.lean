noncomputable section
set_option maxRecDepth 20000
/-! the reference reads a clause, and a text -/
theorem r_sortOf {D : Nat} {c : Int → Int} {n : Int} {s : Sg} {T : TT} {P : Int → AM → Prop} {l : List Tok} (h : TKr c n s l) (k1 : ∀ v st r, l = (1, v, st) :: r → 0 ≤ v → v ≤ 12 → P v (mk s T)) (k0 : (∀ t r, l = t :: r → ¬ (t.1 = 1 ∧ 0 ≤ t.2.1 ∧ t.2.1 ≤ 12)) → P (-1) (mk s T)) : wpI (D + 4) 196 0 [aR 70] [] (mk s T) P := by
  have z : s 70 9 ≠ 2 → (∀ t r, l = t :: r → ¬ (t.1 = 1 ∧ 0 ≤ t.2.1 ∧ t.2.1 ≤ 12)) → wpI (D + 4) 196 0 [aR 70] [] (mk s T) P := fun h2 e =>
    g_Mo_sortOf_0 (d := D) (cf h2 (cf h2 (cf h2 (cf h2 (g_Mo_sortOf_78 (d := D + 1) (cf h2 (g_Mo_sortOf_100 (d := D + 2) (cf h2 (g_Mo_sortOf_120 (d := D + 1) (cf h2 (g_Mo_sortOf_143 (d := D + 2) (cf h2 (g_Mo_sortOf_164 (d := D + 1) (cf h2 (g_Mo_sortOf_187 (d := D + 3) (cf h2 (g_Mo_sortOf_206 (d := D + 3) (cf h2 (g_Mo_sortOf_225 (d := D + 3) (cf h2 (g_Mo_sortOf_240 (d := D + 3) (cf h2 (g_Mo_sortOf_261 (g_Mo_sortOf_262 (k0 e)))))))))))))))))))))))))
  cases l with
  | nil => exact z (by have := h.1; omega) (fun t r e => by simp at e)
  | cons t r =>
    by_cases e : t.1 = 1
    · obtain ⟨a1, a2⟩ := tk_2 h e
      obtain ⟨t1, v, st⟩ := t
      have e : t1 = 1 := e
      subst e
      have a2 : WRr (s 70 11) v := a2
      have k : 0 ≤ v → v ≤ 12 → P v (mk s T) := k1 v st r rfl
      refine g_Mo_sortOf_0 (d := D) ?_
      rw [kx_0, kx_1, kx_2]
      refine ct a1 (cw_n a2 (by omega) (by omega) kv_0 (fun q => by rw [← q]; exact k (by omega) (by omega)) (fun n0 => ct a1 (cw_n a2 (by omega) (by omega) kv_1 (fun q => by rw [← q]; exact k (by omega) (by omega)) (fun n1 => ct a1 (cw_n a2 (by omega) (by omega) kv_2 (fun q => by rw [← q]; exact k (by omega) (by omega)) (fun n2 => ct a1 (cw_n a2 (by omega) (by omega) kv_3 (fun q => by rw [← q]; exact k (by omega) (by omega)) (fun n3 => g_Mo_sortOf_78 (d := D + 1) ?_))))))))
      rw [kx_4]
      refine ct a1 (cw_n a2 (by omega) (by omega) kv_4 (fun q => by rw [← q]; exact k (by omega) (by omega)) (fun n4 => g_Mo_sortOf_100 (d := D + 2) ?_))
      rw [kx_5]
      refine ct a1 (cw_n a2 (by omega) (by omega) kv_5 (fun q => by rw [← q]; exact k (by omega) (by omega)) (fun n5 => g_Mo_sortOf_120 (d := D + 1) ?_))
      rw [kx_6]
      refine ct a1 (cw_n a2 (by omega) (by omega) kv_6 (fun q => g_Mo_sortOf_140 (by rw [← q]; exact k (by omega) (by omega))) (fun n6 => g_Mo_sortOf_143 (d := D + 2) ?_))
      rw [kx_7]
      refine ct a1 (cw_n a2 (by omega) (by omega) kv_7 (fun q => g_Mo_sortOf_161 (by rw [← q]; exact k (by omega) (by omega))) (fun n7 => g_Mo_sortOf_164 (d := D + 1) ?_))
      rw [kx_8]
      refine ct a1 (cw_n a2 (by omega) (by omega) kv_8 (fun q => by rw [← q]; exact k (by omega) (by omega)) (fun n8 => g_Mo_sortOf_187 (d := D + 3) ?_))
      rw [kx_9]
      refine ct a1 (cw_n a2 (by omega) (by omega) kv_9 (fun q => by rw [← q]; exact k (by omega) (by omega)) (fun n9 => g_Mo_sortOf_206 (d := D + 3) ?_))
      rw [kx_10]
      refine ct a1 (cw_n a2 (by omega) (by omega) kv_10 (fun q => g_Mo_sortOf_222 (by rw [← q]; exact k (by omega) (by omega))) (fun n10 => g_Mo_sortOf_225 (d := D + 3) ?_))
      refine ct a1 (cw_n a2 (by omega) (by omega) kv_11 (fun q => g_Mo_sortOf_235 (g_Mo_sortOf_262 (by rw [← q]; exact k (by omega) (by omega)))) (fun n11 => g_Mo_sortOf_240 (d := D + 3) ?_))
      rw [kx_12]
      refine ct a1 (cw_n a2 (by omega) (by omega) kv_12 (fun q => g_Mo_sortOf_256 (g_Mo_sortOf_262 (by rw [← q]; exact k (by omega) (by omega)))) (fun n12 => g_Mo_sortOf_261 (g_Mo_sortOf_262 (k0 (fun t' r' e' => ?_)))))
      simp only [List.cons.injEq] at e'
      rw [← e'.1]
      show ¬ ((1 : Int) = 1 ∧ 0 ≤ v ∧ v ≤ 12)
      omega
    · exact z (tk_n2 h (fun u r' eu => by simp only [List.cons.injEq] at eu; rw [← eu.1]; exact e)) (fun t' r' e' => by simp only [List.cons.injEq] at e'; rw [← e'.1]; exact fun q => e q.1)
def Gx (c : Int → Int) (n : Int) (s0 : Sg) (t0 : Int) : Prop := (n ≤ 300) ∧ (∀ i, 0 ≤ i → i < n → s0 74 i = c i ∧ 0 ≤ c i ∧ c i < 256) ∧ (s0 70 4 = n) ∧ (s0 70 12 = t0) ∧ (0 ≤ t0) ∧ (t0 ≤ 2259)
theorem Gx.n3 {c : Int → Int} {n : Int} {s0 : Sg} {t0 : Int} (h : Gx c n s0 t0) : n ≤ 300 := h.1
theorem Gx.hc {c : Int → Int} {n : Int} {s0 : Sg} {t0 : Int} (h : Gx c n s0 t0) : ∀ i, 0 ≤ i → i < n → s0 74 i = c i ∧ 0 ≤ c i ∧ c i < 256 := h.2.1
theorem Gx.h4 {c : Int → Int} {n : Int} {s0 : Sg} {t0 : Int} (h : Gx c n s0 t0) : s0 70 4 = n := h.2.2.1
theorem Gx.h12 {c : Int → Int} {n : Int} {s0 : Sg} {t0 : Int} (h : Gx c n s0 t0) : s0 70 12 = t0 := h.2.2.2.1
theorem Gx.t1 {c : Int → Int} {n : Int} {s0 : Sg} {t0 : Int} (h : Gx c n s0 t0) : 0 ≤ t0 := h.2.2.2.2.1
theorem Gx.t2 {c : Int → Int} {n : Int} {s0 : Sg} {t0 : Int} (h : Gx c n s0 t0) : t0 ≤ 2259 := h.2.2.2.2.2
def Rf (s0 s : Sg) (t0 : Int) : Prop := Sm [70, 73, 75] s0 s ∧ (∀ i, i < 7 ∨ i = 12 ∨ 20 ≤ i → s 70 i = s0 70 i) ∧ ∀ i, i < t0 ∨ t0 + 753 ≤ i → s 73 i = s0 73 i
theorem rf_t {a b c : Sg} {t0 : Int} (h : Rf a b t0) (k : Rf b c t0) : Rf a c t0 := ⟨sm_t h.1 k.1, fun i hi => (k.2.1 i hi).trans (h.2.1 i hi), fun i hi => (k.2.2 i hi).trans (h.2.2 i hi)⟩
theorem rf_70 {a b : Sg} {t0 i v : Int} (h : Rf a b t0) (h7 : 7 ≤ i) (h12 : i ≠ 12) (h20 : i < 20) : Rf a (up b 70 i v) t0 := ⟨sm_u h.1 (by simp), fun j hj => by rw [up_i (by omega)]; exact h.2.1 j hj, fun j hj => by rw [up_c (by decide)]; exact h.2.2 j hj⟩
theorem rf_73 {a b : Sg} {t0 i v : Int} (h : Rf a b t0) (h7 : t0 ≤ i) (h12 : i < t0 + 753) : Rf a (up b 73 i v) t0 := ⟨sm_u h.1 (by simp), fun j hj => by rw [up_c (by decide)]; exact h.2.1 j hj, fun j hj => by rw [up_i (by omega)]; exact h.2.2 j hj⟩
theorem rf_k {a b : Sg} {t0 : Int} (h : Rtk a b) : Rf a b t0 := ⟨sm_m h.1 (by simp), fun i hi => h.2 i (by omega), fun i _ => by rw [h.1 73 (by decide)]⟩
theorem rf_b {a b : Sg} {t0 x : Int} (h : Fb a b x) (x0 : t0 ≤ x) (x1 : x + 5 ≤ t0 + 753) : Rf a b t0 := ⟨sm_m h.1 (by simp), fun i hi => h.2.1 i (by omega), fun i hi => h.2.2 i (by omega)⟩
theorem rf_l {a b : Sg} {t0 x u : Int} (h : Fl a b x t0 u) (x0 : t0 ≤ x) : Rf a b t0 := ⟨h.1, fun i hi => h.2.1 i (by omega), fun i hi => h.2.2 i (by omega)⟩
theorem gx_c {c : Int → Int} {n t0 : Int} {a b : Sg} (g : Gx c n a t0) (h : Rf a b t0) : Gx c n b t0 := ⟨g.n3, by rw [h.1 74 (by decide)]; exact g.hc, by rw [h.2.1 4 (by omega)]; exact g.h4, by rw [h.2.1 12 (by omega)]; exact g.h12, g.t1, g.t2⟩
theorem r_nx {d : Nat} {c : Int → Int} {n t0 : Int} {s : Sg} {T : TT} {P : AM → Prop} {t : Tok} {l : List Tok} (g : Gx c n s t0) (h : TKr c n s (t :: l)) (hg : t.1 ≠ 3 ∨ gs t.2.1) (k : ∀ s', TKr c n s' l → Rtk s s' → P (mk s' T)) : wpV (d + 1) 190 0 [aR 70, aU] [] (mk s T) P := by
  have lx := tk_l h hg
  exact r_nextToken (s0 := s) g.n3 g.hc lx.2 s (rtk_r s) g.h4 rfl lx.1 (fun s' rt tk => k s' tk rt)
def TRu (x : Int → Int) (t0 : Int) (A : TA) (u : Int) : Prop := x t0 = A.2.1 ∧ 0 ≤ A.2.1 ∧ A.2.1 ≤ 24 ∧ (∀ k, 0 ≤ k → k < A.2.1 → x (t0 + 1 + 6 * k) = A.2.2 k 0 ∧ 0 ≤ A.2.2 k 0 ∧ A.2.2 k 0 ≤ 12 ∧ ∀ w, 1 ≤ w → w ≤ npt (A.2.2 k 0) → x (t0 + 1 + 6 * k + w) = A.2.2 k w) ∧ ∀ w, 0 ≤ w → w < 4 → (A.1 w = [] ∧ ∀ k, 0 ≤ k → k < A.2.1 → A.2.2 k 0 ≠ w) ∨ (A.1 w ≠ [] ∧ ∃ k, 0 ≤ k ∧ k < A.2.1 ∧ A.2.2 k 0 = w ∧ (∀ k', 0 ≤ k' → k' < k → A.2.2 k' 0 ≠ w) ∧ ∃ b : Int, 0 ≤ b ∧ b + (A.1 w).length ≤ u ∧ x (t0 + 1 + 6 * k + 1) = b ∧ x (t0 + 1 + 6 * k + 2) = b + (A.1 w).length ∧ CodeRf x (t0 + 145 + 2 * b) (A.1 w))
theorem npt_4 (v : Int) : npt v ≤ 4 := by unfold npt; repeat' split <;> try omega
theorem tru_s {x x' : Int → Int} {t0 u u' v : Int} {A A' : TA} (ps : List Int) (h : TRu x t0 A u) (e1 : A'.2.1 = A.2.1 + 1) (e2 : ∀ k w, A'.2.2 k w = if k = A.2.1 then prw v ps w else A.2.2 k w) (hn : x' t0 = A.2.1 + 1) (a24 : A.2.1 < 24) (sm : ∀ i, (t0 < i ∧ i < t0 + 1 + 6 * A.2.1) ∨ (t0 + 145 ≤ i ∧ i < t0 + 145 + 2 * u) → x' i = x i) (hv : x' (t0 + 1 + 6 * A.2.1) = v) (v0 : 0 ≤ v) (v12 : v ≤ 12) (hp : ∀ w, 1 ≤ w → w ≤ npt v → x' (t0 + 1 + 6 * A.2.1 + w) = prw v ps w) (u0 : 0 ≤ u) (uu : u ≤ u') (hl : ∀ w, 0 ≤ w → w < 4 → (w ≠ v ∧ A'.1 w = A.1 w) ∨ (w = v ∧ A.1 w = [] ∧ A'.1 w ≠ [] ∧ x' (t0 + 1 + 6 * A.2.1 + 1) = u ∧ x' (t0 + 1 + 6 * A.2.1 + 2) = u + (A'.1 w).length ∧ u + (A'.1 w).length ≤ u' ∧ CodeRf x' (t0 + 145 + 2 * u) (A'.1 w))) : TRu x' t0 A' u' := by
  obtain ⟨h1, h2, h3, h4, h5⟩ := h
  have r0 : ∀ k, A'.2.2 k 0 = if k = A.2.1 then v else A.2.2 k 0 := fun k => by rw [e2]; unfold prw; rw [if_pos rfl]
  refine ⟨by rw [hn, e1], by omega, by omega, fun k k0 k1 => ?_, fun w w0 w4 => ?_⟩
  · rw [r0]
    by_cases ek : k = A.2.1
    · rw [if_pos ek, ek]
      refine ⟨hv, v0, v12, fun w w1 w2 => ?_⟩
      rw [hp w w1 w2, e2, if_pos rfl]
    · rw [if_neg ek]
      obtain ⟨g1, g2, g3, g4⟩ := h4 k k0 (by omega)
      refine ⟨by rw [sm _ (by omega)]; exact g1, g2, g3, fun w w1 w2 => ?_⟩
      have := npt_4 (A.2.2 k 0)
      rw [sm _ (by omega), e2, if_neg ek]; exact g4 w w1 w2
  · rcases hl w w0 w4 with ⟨nv, ea⟩ | ⟨ev, ea, ea', p1, p2, p3, p4⟩
    · rw [ea]
      rcases h5 w w0 w4 with ⟨g1, g2⟩ | ⟨g1, k, k0, k1, gk, gf, b, b0, b1, b2, b3, b4⟩
      · refine Or.inl ⟨g1, fun k k0 k1 => ?_⟩
        rw [r0]
        by_cases ek : k = A.2.1
        · rw [if_pos ek]; exact fun q => nv q.symm
        · rw [if_neg ek]; exact g2 k k0 (by omega)
      · refine Or.inr ⟨g1, k, k0, by omega, by rw [r0, if_neg (by omega)]; exact gk, fun k' q0 q1 => by rw [r0, if_neg (by omega)]; exact gf k' q0 q1, b, b0, by omega, by rw [sm _ (by omega)]; exact b2, by rw [sm _ (by omega)]; exact b3, cr_c (fun j j0 j1 => sm j (by omega)) b4⟩
    · refine Or.inr ⟨ea', A.2.1, h2, by omega, by rw [r0, if_pos rfl]; exact ev.symm, fun k' q0 q1 => ?_, u, u0, p3, p1, p2, p4⟩
      rw [r0, if_neg (by omega)]
      rcases h5 w w0 w4 with ⟨_, g2⟩ | ⟨g1, _⟩
      · exact g2 k' q0 q1
      · exact absurd ea g1
def RI (c : Int → Int) (n : Int) (s0 : Sg) (t0 : Int) (A : TA) (u : Int) (l : List Tok) (s : Sg) : Prop := TKr c n s l ∧ Rf s0 s t0 ∧ s 70 13 = u ∧ (0 ≤ u ∧ u + l.length ≤ 300) ∧ TRu (s 73) t0 A u ∧ (0 ≤ s 70 19 ∧ s 70 19 < 16) ∧ ∀ w, 0 ≤ w → w < 4 → (tb (s 70 19) w = true ↔ A.1 w ≠ [])
theorem r_clause {D : Nat} {c : Int → Int} {n t0 u : Int} {A : TA} {s0 s : Sg} {T : TT} {P : Int → AM → Prop} {l : List Tok} {a : CAns} (g0 : Gx c n s0 t0) (h : RI c n s0 t0 A u l s) (hc : Clz n A u l a) (ok : ∀ A' u' l' s', a = .inl (A', u', l') → RI c n s0 t0 A' u' l' s' → P 0 (mk s' T)) (er : ∀ f p s', a = .inr (f, p) → Rf s0 s' t0 → s' 70 8 = p → P f (mk s' T)) : wpI (D + 12) 195 0 [aR 70, aU, aU, aU, aU] [] (mk s T) P := by
  obtain ⟨h1, h2, h3, h4, h5, h6, h7⟩ := h
  have g := gx_c g0 h2
  have t1 := g.t1
  have t2 := g.t2
  have a1 := h5.2.1
  have a2 := h5.2.2.1
  -- the word is there
  have wd : ∀ {v st : Int} {r : List Tok} {Q : Int → AM → Prop}, l = (1, v, st) :: r → 0 ≤ v → v ≤ 12 → Q v (mk s T) → wpI (D + 11) 196 0 [aR 70] [] (mk s T) Q := fun e v0 v12 q => by
    refine r_sortOf (D := D + 7) h1 (fun v' st' r' e' _ _ => ?_) (fun no => absurd ⟨rfl, v0, v12⟩ (no _ _ e))
    rw [e] at e'
    simp only [List.cons.injEq, Prod.mk.injEq, true_and] at e'
    rw [← e'.1.1]; exact q
  -- what comes behind a clause's inside
  have bh : ∀ {v x r2 : Int} {r' : List Tok} {s3 : Sg}, Rf s0 s3 t0 → TKr c n s3 r' → s3 73 t0 = A.2.1 → (∀ st' r'', r' = (3, 59, st') :: r'' → ∀ s4, TKr c n s4 r'' → Rtk (up s3 73 t0 (A.2.1 + 1)) s4 → P 0 (mk s4 T)) → (¬ hdS r' 59 → ∀ s4, Rf s0 s4 t0 → s4 70 8 = plc n r' → P 1 (mk s4 T)) → wpI (D + 11 + 1) 195 99 [aR 70, aI v, aI r2, aI x, aU] [aI 0] (mk s3 T) P := by
    intro v x r2 r' s3 f3 tk3 e3 k1 k0
    have g3 := gx_c g0 f3
    refine g_Mo_clause_99 (ct rfl ?_)
    rw [g3.h12, e3, w32_id (x := A.2.1 + 1) (by omega) (by omega)]
    refine ct (by omega) (ct (by omega) (ci (fun q => ?_) (fun q => k0 (fun hd => q ((tk_s tk3 (by unfold gs; omega)).mpr hd)) _ (rf_73 f3 (by omega) (by omega)) (by rw [up_c (by decide)]; exact tk_p tk3))))
    obtain ⟨st', r'', rfl⟩ := (tk_s tk3 (by unfold gs; omega)).mp q
    exact r_nx (gx_c g0 (rf_73 f3 (i := t0) (v := A.2.1 + 1) (by omega) (by omega))) (tk_c tk3 (fun i _ _ => by rw [up_c (by decide)])) (Or.inr (by show gs 59; unfold gs; omega)) (fun s4 tk4 rt4 => g_Mo_clause_137 (k1 st' r'' rfl s4 tk4 rt4))
  have sh : s 73 t0 = A.2.1 := h5.1
  -- a body's clause, up to its inside
  have bd : ∀ {v st : Int} {r : List Tok}, l = (1, v, st) :: r → 4 ≤ v → v ≤ 12 → A.2.1 < 24 → (∀ s2, TKr c n s2 r → VT r → Rf s0 s2 t0 → s2 70 13 = u → s2 70 19 = s 70 19 → (∀ i, s2 73 i = if i = t0 + 1 + 6 * A.2.1 then v else s 73 i) → wpI (D + 11) 203 0 [aR 70, aI v, aI (t0 + 1 + 6 * A.2.1)] [] (mk s2 T) (fun r M' => wpI (D + 11 + 1) 195 99 [aR 70, aI v, aI A.2.1, aI (t0 + 1 + 6 * A.2.1), aU] [aI r] M' P)) → wpI (D + 12) 195 0 [aR 70, aU, aU, aU, aU] [] (mk s T) P := by
    intro v st r e v4 v12 a24 k
    refine g_Mo_clause_0 (wd e (by omega) v12 (g_Mo_clause_4 (cf (by omega) (ct (by omega) ?_))))
    rw [g.h12, sh]
    refine ct (by omega) (cf (by omega) (ct (by omega) ?_))
    rw [e] at h1
    have lx := tk_l h1 (Or.inl (by show (1 : Int) ≠ 3; decide))
    refine r_nx (t0 := t0) (gx_c g0 (rf_70 h2 (by omega) (by omega) (by omega))) (tk_c h1 (fun i _ _ => by rw [up_i (by omega)])) (Or.inl (by show (1 : Int) ≠ 3; decide)) (fun s1 tk1 rt1 => g_Mo_clause_74 ?_)
    have f1 : Rf s0 s1 t0 := rf_t (rf_70 h2 (by omega) (by omega) (by omega)) (rf_k rt1)
    have g1 := gx_c g0 f1
    rw [g1.h12, w32_id (x := t0 + 1) (by omega) (by omega), w32_id (x := 6 * A.2.1) (by omega) (by omega), w32_id (x := t0 + 1 + 6 * A.2.1) (by omega) (by omega)]
    refine ct (by omega) (k _ (tk_c tk1 (fun i _ _ => by rw [up_c (by decide)])) (lex_v lx.2) (rf_73 f1 (by omega) (by omega)) ?_ ?_ (fun i => ?_))
    · rw [up_c (by decide), rt1.2 13 (by omega), up_i (by decide)]; exact h3
    · rw [up_c (by decide), rt1.2 19 (by omega), up_i (by decide)]
    · rw [up_e, rt1.1 73 (by decide), up_c (by decide)]
  -- a law's
  have lw : ∀ {v st : Int} {r : List Tok}, l = (1, v, st) :: r → 0 ≤ v → v < 4 → A.1 v = [] → A.2.1 < 24 → (∀ s2, TKr c n s2 r → Rf s0 s2 t0 → s2 70 13 = u → s2 70 14 = v → s2 70 19 = bO (s 70 19) (sL 1 v) → (∀ i, s2 73 i = if i = t0 + 1 + 6 * A.2.1 then v else s 73 i) → wpI (D + 11) 203 0 [aR 70, aI v, aI (t0 + 1 + 6 * A.2.1)] [] (mk s2 T) (fun r M' => wpI (D + 11 + 1) 195 99 [aR 70, aI v, aI A.2.1, aI (t0 + 1 + 6 * A.2.1), aU] [aI r] M' P)) → wpI (D + 12) 195 0 [aR 70, aU, aU, aU, aU] [] (mk s T) P := by
    intro v st r e v0 v4 ev a24 k
    refine g_Mo_clause_0 (wd e (by omega) (by omega) (g_Mo_clause_4 (cf (by omega) (cf (by omega) (cf (fun q => ?_) ?_)))))
    · exact (h7 v v0 v4).mp ((has_1 h6.1 v0 (by omega)).mp q) ev
    rw [g.h12, sh]
    refine ct (by omega) (cf (by omega) (cf (by omega) ?_))
    rw [e] at h1
    have f0 : Rf s0 (up (up s 70 19 (bO (s 70 19) (sL 1 v))) 70 14 v) t0 := rf_70 (rf_70 h2 (by omega) (by omega) (by omega)) (by omega) (by omega) (by omega)
    refine r_nx (t0 := t0) (gx_c g0 f0) (tk_c h1 (fun i _ _ => by rw [up_i (by omega), up_i (by omega)])) (Or.inl (by show (1 : Int) ≠ 3; decide)) (fun s1 tk1 rt1 => g_Mo_clause_74 ?_)
    have f1 : Rf s0 s1 t0 := rf_t f0 (rf_k rt1)
    have g1 := gx_c g0 f1
    rw [g1.h12, w32_id (x := t0 + 1) (by omega) (by omega), w32_id (x := 6 * A.2.1) (by omega) (by omega), w32_id (x := t0 + 1 + 6 * A.2.1) (by omega) (by omega)]
    refine ct (by omega) (k _ (tk_c tk1 (fun i _ _ => by rw [up_c (by decide)])) (rf_73 f1 (by omega) (by omega)) ?_ ?_ ?_ (fun i => ?_))
    · rw [up_c (by decide), rt1.2 13 (by omega), up_i (by decide), up_i (by decide)]; exact h3
    · rw [up_c (by decide), rt1.2 14 (by omega), up_s]
    · rw [up_c (by decide), rt1.2 19 (by omega), up_i (by decide), up_s]
    · rw [up_e, rt1.1 73 (by decide), up_c (by decide), up_c (by decide)]
  have n59 : ∀ st' r'', nop ((3, 59, st') :: r'') := fun st' r'' q => by
    rcases q with ⟨a, b, e⟩ | ⟨a, b, e⟩ | ⟨a, b, e⟩ | ⟨a, b, e⟩ <;> (simp only [List.cons.injEq, Prod.mk.injEq] at e; omega)
  induction hc using Clz.ind with
  | noW_ no => exact g_Mo_clause_0 (r_sortOf (D := D + 7) h1 (fun v st r e v0 v12 => absurd ⟨rfl, v0, v12⟩ (no _ _ e)) (fun _ => g_Mo_clause_4 (ct (by omega) (er 1 _ s rfl h2 (tk_p h1)))))
  | twice_ v0 v4 ne => exact g_Mo_clause_0 (wd rfl v0 (by omega) (g_Mo_clause_4 (cf (by omega) (cf (by omega) (ct ((has_1 h6.1 v0 (by omega)).mpr ((h7 _ v0 v4).mpr ne)) (er 4 _ s rfl h2 (tk_p h1)))))))
  | many_ v0 v12 hA a24 =>
    rename_i v st r
    refine g_Mo_clause_0 (wd rfl v0 v12 (g_Mo_clause_4 ?_))
    rw [g.h12, sh]
    refine cf (by omega) (ci (fun q => ct (by omega) (ct a24 (er 6 _ s rfl h2 (tk_p h1)))) (fun q => cf (fun z => ?_) (ct (by omega) (ct a24 (er 6 _ s rfl h2 (tk_p h1))))))
    exact (h7 v v0 (by omega)).mp ((has_1 h6.1 v0 (by omega)).mp z) (hA (by omega))
  | lawE_ v0 v4 ev a24 hp hf =>
    refine lw rfl v0 v4 ev a24 (fun s2 tk2 f2 e13 e14 e19 e73 => ?_)
    have g2 := gx_c g0 f2
    simp only [List.length_cons] at h4
    refine r_law (d := D) (t0 := t0) (b := u) ⟨g2.n3, g2.hc, g2.h4, g2.h12, t1, t2, e14, h4.1⟩ v0 v4 hp (fun cd r e => by simp at e) tk2 e13 (by omega) (by omega) (by omega) (fun cd r s' e => by simp at e) (fun f p s' e fl e8 => ?_)
    simp only [Sum.inr.injEq, Prod.mk.injEq] at e
    rw [← e.1]
    exact g_Mo_clause_99 (cf hf (er _ _ s' rfl (rf_t f2 (rf_l fl (by omega))) (by rw [e8, e.2])))
  | lawN_ v0 v4 ev a24 hp no nh =>
    refine lw rfl v0 v4 ev a24 (fun s2 tk2 f2 e13 e14 e19 e73 => ?_)
    have g2 := gx_c g0 f2
    simp only [List.length_cons] at h4
    refine r_law (d := D) (t0 := t0) (b := u) ⟨g2.n3, g2.hc, g2.h4, g2.h12, t1, t2, e14, h4.1⟩ v0 v4 hp (fun cd r e => by simp only [Sum.inl.injEq, Prod.mk.injEq] at e; rw [← e.2]; exact no) tk2 e13 (by omega) (by omega) (by omega) (fun cd r s' e tk' fl b1 b2 b3 b4 => ?_) (fun f p s' e => by simp at e)
    simp only [Sum.inl.injEq, Prod.mk.injEq] at e
    rw [← e.2] at tk'
    refine bh (rf_t f2 (rf_l fl (by omega))) tk' ?_ (fun st' r'' er' => absurd ⟨st', r'', er'⟩ nh) (fun _ s4 f4 p4 => er 1 _ s4 rfl f4 p4)
    rw [fl.2.2 t0 (by omega), e73, if_neg (by omega)]; exact sh
  | law_ v0 v4 ev a24 hp =>
    rename_i v st st' r r' cd
    refine lw rfl v0 v4 ev a24 (fun s2 tk2 f2 e13 e14 e19 e73 => ?_)
    have g2 := gx_c g0 f2
    have pn := prs_n hp _ _ rfl
    have wf := sum_wf hp
    simp only [List.length_cons] at h4 pn
    refine r_law (d := D) (t0 := t0) (b := u) ⟨g2.n3, g2.hc, g2.h4, g2.h12, t1, t2, e14, h4.1⟩ v0 v4 hp (fun cd r e => by simp only [Sum.inl.injEq, Prod.mk.injEq] at e; rw [← e.2]; exact n59 _ _) tk2 e13 (by omega) (by omega) (by omega) (fun cd' r1 s3 e tk' fl b1 b2 b3 b4 => ?_) (fun f p s' e => by simp at e)
    simp only [Sum.inl.injEq, Prod.mk.injEq] at e
    obtain ⟨rfl, rfl⟩ := e
    refine bh (rf_t f2 (rf_l fl (by omega))) tk' (by rw [fl.2.2 t0 (by omega), e73, if_neg (by omega)]; exact sh) (fun st2 r2 er' s4 tk4 rt4 => ?_) (fun nh => absurd ⟨st', r', rfl⟩ nh)
    simp only [List.cons.injEq] at er'
    rw [← er'.2] at tk4
    have e4 : ∀ i, s4 73 i = if i = t0 then A.2.1 + 1 else s3 73 i := fun i => by rw [rt4.1 73 (by decide), up_e]
    have hL := sL_lt (k := v) (n := 4) v0 (by omega) (by omega)
    have ob := bO_b (n := 4) (by omega) h6.1 h6.2 (by omega) hL.2
    have m19 : s4 70 19 = bO (s 70 19) (sL 1 v) := by rw [rt4.2 19 (by omega), up_c (by decide), fl.2.1 19 (by omega)]; exact e19
    have k2 := h6.2
    have k3 := hL.2
    refine ok _ _ _ s4 rfl ⟨tk4, rf_t (rf_73 (rf_t f2 (rf_l fl (by omega))) (by omega) (by omega)) (rf_k rt4), ?_, by omega, tru_s (v := v) [] h5 rfl (fun k w => rfl) ?_ a24 (fun i hi => ?_) ?_ v0 (by omega) (fun w w1 w2 => ?_) h4.1 (by omega) (fun w w0 w4 => ?_), by rw [m19]; exact ob, fun w w0 w4 => ?_⟩
    · rw [rt4.2 13 (by omega), up_c (by decide)]; exact b3
    · rw [e4, if_pos rfl]
    · rw [e4, if_neg (by omega), fl.2.2 i (by omega), e73, if_neg (by omega)]
    · rw [e4, if_neg (by omega), fl.2.2 _ (by omega), e73, if_pos rfl]
    · unfold npt at w2
      rw [if_neg (by omega), if_neg (by omega), if_neg (by omega)] at w2
      omega
    · show (w ≠ v ∧ (if w = v then cd else A.1 w) = A.1 w) ∨ (w = v ∧ A.1 w = [] ∧ (if w = v then cd else A.1 w) ≠ [] ∧ s4 73 (t0 + 1 + 6 * A.2.1 + 1) = u ∧ s4 73 (t0 + 1 + 6 * A.2.1 + 2) = u + ((if w = v then cd else A.1 w).length : Int) ∧ u + ((if w = v then cd else A.1 w).length : Int) ≤ u + cd.length ∧ CodeRf (s4 73) (t0 + 145 + 2 * u) (if w = v then cd else A.1 w))
      by_cases e : w = v
      · simp only [if_pos e]
        refine Or.inr ⟨e, by rw [e]; exact ev, wf.1, by rw [e4, if_neg (by omega)]; exact b1, by rw [e4, if_neg (by omega)]; exact b2, by omega, cr_c (fun j j0 j1 => by rw [e4, if_neg (by omega)]) b4⟩
      · simp only [if_neg e]; exact Or.inl ⟨e, trivial⟩
    · rw [m19, tb_O h6.1 (by omega) (by omega) (by omega), tb_L v0 (by omega) w0]
      show _ ↔ (if w = v then cd else A.1 w) ≠ []
      by_cases e : w = v
      · rw [if_pos e, e]; simp [wf.1]
      · rw [if_neg e, ← h7 w w0 w4]
        have : ¬ v = w := fun q => e q.symm
        simp [this]
  | bodE_ v4 v12 a24 hb hf =>
    refine bd rfl v4 v12 a24 (fun s2 tk2 vt2 f2 e13 e19 e73 => ?_)
    have g2 := gx_c g0 f2
    refine r_body (D := D + 4) ⟨g2.n3, g2.hc, g2.h4, by omega, by omega⟩ tk2 vt2 v4 v12 (fun ps r s' e => by rw [hb] at e; simp at e) (fun f p s' e hf' fb e8 => ?_)
    rw [hb] at e
    simp only [Sum.inr.injEq, Prod.mk.injEq] at e
    rw [← e.1]
    exact g_Mo_clause_99 (cf hf (er _ _ s' rfl (rf_t f2 (rf_b fb (by omega) (by omega))) (by rw [e8, e.2])))
  | bodN_ v4 v12 a24 hb nh =>
    refine bd rfl v4 v12 a24 (fun s2 tk2 vt2 f2 e13 e19 e73 => ?_)
    have g2 := gx_c g0 f2
    refine r_body (D := D + 4) ⟨g2.n3, g2.hc, g2.h4, by omega, by omega⟩ tk2 vt2 v4 v12 (fun ps r1 s' e rb pr => ?_) (fun f p s' e => by rw [hb] at e; simp at e)
    rw [hb] at e
    simp only [Sum.inl.injEq, Prod.mk.injEq] at e
    obtain ⟨rfl, rfl⟩ := e
    refine bh (rf_t f2 (rf_b rb.2 (by omega) (by omega))) rb.1 ?_ (fun st' r'' er' => absurd ⟨st', r'', er'⟩ nh) (fun _ s4 f4 p4 => er 1 _ s4 rfl f4 p4)
    rw [rb.2.2.2 t0 (by omega), e73, if_neg (by omega)]; exact sh
  | bod_ v4 v12 a24 hb =>
    rename_i v st st' r r' ps
    have bl := body_l v4 v12 hb
    simp only [List.length_cons] at h4 bl
    refine bd rfl v4 v12 a24 (fun s2 tk2 vt2 f2 e13 e19 e73 => ?_)
    have g2 := gx_c g0 f2
    refine r_body (D := D + 4) ⟨g2.n3, g2.hc, g2.h4, by omega, by omega⟩ tk2 vt2 v4 v12 (fun ps1 r1 s3 e rb pr => ?_) (fun f p s' e => by rw [hb] at e; simp at e)
    rw [hb] at e
    simp only [Sum.inl.injEq, Prod.mk.injEq] at e
    obtain ⟨rfl, rfl⟩ := e
    refine bh (rf_t f2 (rf_b rb.2 (by omega) (by omega))) rb.1 (by rw [rb.2.2.2 t0 (by omega), e73, if_neg (by omega)]; exact sh) (fun st2 r2 er' s4 tk4 rt4 => ?_) (fun nh => absurd ⟨st', r', rfl⟩ nh)
    simp only [List.cons.injEq] at er'
    rw [← er'.2] at tk4
    have e4 : ∀ i, s4 73 i = if i = t0 then A.2.1 + 1 else s3 73 i := fun i => by rw [rt4.1 73 (by decide), up_e]
    have m19 : s4 70 19 = s 70 19 := by rw [rt4.2 19 (by omega), up_c (by decide), rb.2.2.1 19 (by omega)]; exact e19
    refine ok _ _ _ s4 rfl ⟨tk4, rf_t (rf_73 (rf_t f2 (rf_b rb.2 (by omega) (by omega))) (by omega) (by omega)) (rf_k rt4), ?_, by omega, tru_s (v := v) ps h5 rfl (fun k w => rfl) ?_ a24 (fun i hi => ?_) ?_ (by omega) v12 (fun w w1 w2 => ?_) h4.1 (Int.le_refl _) (fun w w0 w4 => Or.inl ⟨by omega, rfl⟩), by rw [m19]; exact h6, fun w w0 w4 => by rw [m19]; exact h7 w w0 w4⟩
    · rw [rt4.2 13 (by omega), up_c (by decide), rb.2.2.1 13 (by omega)]; exact e13
    · rw [e4, if_pos rfl]
    · rw [e4, if_neg (by omega), rb.2.2.2 i (by omega), e73, if_neg (by omega)]
    · rw [e4, if_neg (by omega), rb.2.2.2 _ (by omega), e73, if_pos rfl]
    · have := pr (w - 1) (by omega) (by omega)
      rw [e4, if_neg (by omega), show t0 + 1 + 6 * A.2.1 + w = t0 + 1 + 6 * A.2.1 + 1 + (w - 1) from by omega, this]
      unfold prw; rw [if_neg (by omega)]
theorem r_texts {D : Nat} {c : Int → Int} {n t0 : Int} {s0 : Sg} {T : TT} {P : Int → AM → Prop} {A : TA} {u : Int} {l : List Tok} {a : CAns} (g0 : Gx c n s0 t0) (ht : Txt n A u l a) : ∀ s, RI c n s0 t0 A u l s → (∀ A' u' s', a = .inl (A', u', []) → RI c n s0 t0 A' u' [] s' → P 0 (mk s' T)) → (∀ f p s', a = .inr (f, p) → f ≠ 0 → Rf s0 s' t0 → s' 70 8 = p → P f (mk s' T)) → ∀ l1 : AV, wpI (D + 13) 189 44 [aR 70, l1] [] (mk s T) P := by
  have hd : ∀ {l : List Tok} {s : Sg}, TKr c n s l → l ≠ [] → s 70 9 ≠ 0 := fun {l s} h ne => by
    cases l with
    | nil => exact absurd rfl ne
    | cons t r =>
      obtain ⟨_, h⟩ := h
      rcases h with ⟨_, q, _⟩ | ⟨_, q, _⟩ | ⟨_, q | q⟩
      · omega
      · omega
      · have g := q.1; unfold gs at g; have := q.2.1; omega
      · have := q.2.2; omega
  induction ht using Txt.ind with
  | done_ => exact fun s h ok _ l1 => g_Mo_readText_44 (ct h.1.1 (ok _ _ s rfl h))
  | bad_ ne hc hf =>
    intro s h ok er l1
    refine g_Mo_readText_44 (cf (hd h.1 ne) (r_clause g0 h hc (fun A' u' l' s' e => by simp at e) (fun f p s' e rf e8 => g_Mo_readText_55 ?_)))
    simp only [Sum.inr.injEq, Prod.mk.injEq] at e
    rw [← e.1]
    exact cf hf (er _ _ s' rfl hf rf (by rw [e8, e.2]))
  | st_ ne hc _ ih =>
    intro s h ok er l1
    refine g_Mo_readText_44 (cf (hd h.1 ne) (r_clause g0 h hc (fun A' u' l' s' e hi => g_Mo_readText_55 ?_) (fun f p s' e => by simp at e)))
    simp only [Sum.inl.injEq, Prod.mk.injEq] at e
    obtain ⟨rfl, rfl, rfl⟩ := e
    exact ct rfl (ih s' hi ok er _)
/-- the reference's text -/
theorem r_text {D : Nat} {c : Int → Int} {n : Int} {s : Sg} {T : TT} {P : Int → AM → Prop} {l : List Tok} {a : CAns} (n3 : n ≤ 300) (hc : ∀ i, 0 ≤ i → i < n → s 74 i = c i ∧ 0 ≤ c i ∧ c i < 256) (h4 : s 70 4 = n) (m0 : 0 ≤ s 71 6) (m4 : s 71 6 < 4) (hx : Lex c n 0 l) (hl : l.length ≤ 300) (ht : Txt n A0 0 l a) (ok : ∀ A u s', a = .inl (A, u, []) → Sm [70, 71, 73, 75] s s' → (∀ i, i < 4 ∨ 20 ≤ i → s' 70 i = s 70 i) → s' 70 4 = 0 → s' 70 5 = 0 → s' 70 6 = -1 → (∀ i, i ≠ 6 → s' 71 i = s 71 i) → s' 71 6 = s 71 6 + 1 → (∀ i, i < 753 * s 71 6 ∨ 753 * s 71 6 + 753 ≤ i → s' 73 i = s 73 i) → TRf (s' 73) (s 71 6) A → P (s 71 6) (mk s' T)) (er : ∀ f p s', a = .inr (f, p) → f ≠ 0 → Sm [70, 73, 75] s s' → (∀ i, i < 4 ∨ 20 ≤ i → s' 70 i = s 70 i) → s' 70 4 = 0 → s' 70 5 = f → s' 70 6 = p → (∀ i, i < 753 * s 71 6 ∨ 753 * s 71 6 + 753 ≤ i → s' 73 i = s 73 i) → P (-1) (mk s' T)) : wpI (D + 14) 188 0 [aR 70] [] (mk s T) P := by
  generalize em : s 71 6 = m at *
  refine g_Mo_text_0 ?_
  rw [em]
  refine cf (by omega) (g_Mo_readText_0 ?_)
  rw [em, w32_id (x := 753 * m) (by omega) (by omega)]
  refine ct (by omega) ?_
  generalize es0 : up (up (up (up (up s 70 12 (753 * m)) 73 (753 * m) 0) 70 13 0) 70 19 0) 70 7 0 = s0
  have d70 : ∀ i, s0 70 i = if i = 7 then 0 else if i = 19 then 0 else if i = 13 then 0 else if i = 12 then 753 * m else s 70 i := fun i => by rw [← es0, up_e, up_e, up_e, up_c (by decide), up_e]
  have d73 : ∀ i, s0 73 i = if i = 753 * m then 0 else s 73 i := fun i => by rw [← es0, up_c (by decide), up_c (by decide), up_c (by decide), up_e, up_c (by decide)]
  have sm0 : Sm [70, 73] s s0 := by rw [← es0]; exact sm_u (sm_u (sm_u (sm_u (sm_u (sm_r _ _) (by simp)) (by simp)) (by simp)) (by simp)) (by simp)
  have g0 : Gx c n s0 (753 * m) := ⟨n3, by rw [sm0 74 (by decide)]; exact hc, by rw [d70, if_neg (by decide), if_neg (by decide), if_neg (by decide), if_neg (by decide)]; exact h4, by rw [d70, if_neg (by decide), if_neg (by decide), if_neg (by decide), if_pos rfl], by omega, by omega⟩
  refine r_nextToken (s0 := s0) n3 g0.hc hx s0 (rtk_r s0) g0.h4 (by rw [d70, if_pos rfl]) (Int.le_refl _) (fun s1 rt tk => ?_)
  have i1 : RI c n s0 (753 * m) A0 0 l s1 := by
    refine ⟨tk, rf_k rt, ?_, by omega, ?_, ?_, ?_⟩
    · rw [rt.2 13 (by omega), d70, if_neg (by decide), if_neg (by decide), if_pos rfl]
    · rw [rt.1 73 (by decide)]
      refine ⟨by rw [d73, if_pos rfl]; rfl, by decide, by decide, fun k k0 k1 => absurd k1 (by show ¬ k < 0; omega), fun w _ _ => Or.inl ⟨rfl, fun k k0 k1 => absurd k1 (by show ¬ k < 0; omega)⟩⟩
    · rw [rt.2 19 (by omega), d70, if_neg (by decide), if_pos rfl]; omega
    · intro w _ _
      rw [rt.2 19 (by omega), d70, if_neg (by decide), if_pos rfl, tb_o]
      exact ⟨fun q => by simp at q, fun q => absurd rfl q⟩
  have fr70 : ∀ s', Rf s0 s' (753 * m) → ∀ i, i < 4 ∨ 20 ≤ i → s' 70 i = s 70 i := fun s' f i hi => by rw [f.2.1 i (by omega), d70, if_neg (by omega), if_neg (by omega), if_neg (by omega), if_neg (by omega)]
  have fr73 : ∀ s', Rf s0 s' (753 * m) → ∀ i, i < 753 * m ∨ 753 * m + 753 ≤ i → s' 73 i = s 73 i := fun s' f i hi => by rw [f.2.2 i (by omega), d73, if_neg (by omega)]
  refine r_texts (D := D) g0 ht s1 i1 (fun A u s' ea h => g_Mo_text_18 ?_) (fun f p s' ea hf h e8 => g_Mo_text_18 ?_) _
  · have m6 : s' 71 6 = m := by rw [h.2.1.1 71 (by decide), sm0 71 (by decide)]; exact em
    rw [m6, w32_id (x := m + 1) (by omega) (by omega), w32_id (x := m + 1 - 1) (by omega) (by omega), show m + 1 - 1 = m from by omega]
    refine ct rfl (ct rfl (ok A u _ ea ?_ (fun i hi => ?_) ?_ ?_ ?_ (fun i hi => ?_) ?_ (fun i hi => ?_) ?_))
    · exact sm_u (sm_u (sm_u (sm_u (sm_t (sm_m sm0 (by simp)) (sm_m h.2.1.1 (by simp))) (by simp)) (by simp)) (by simp)) (by simp)
    · rw [up_c (by decide), up_i (by omega), up_i (by omega), up_i (by omega)]; exact fr70 s' h.2.1 i hi
    · rw [up_c (by decide), up_s]
    · rw [up_c (by decide), up_i (by decide), up_i (by decide), up_s]
    · rw [up_c (by decide), up_i (by decide), up_s]
    · rw [up_i hi, up_c (by decide), up_c (by decide), up_c (by decide), h.2.1.1 71 (by decide), sm0 71 (by decide)]
    · rw [up_s]
    · rw [up_c (by decide), up_c (by decide), up_c (by decide), up_c (by decide)]; exact fr73 s' h.2.1 i hi
    · rw [up_c (by decide), up_c (by decide), up_c (by decide), up_c (by decide)]
      obtain ⟨_, _, _, hu, ⟨q1, q2, q3, q4, q5⟩, _⟩ := h
      simp only [List.length_nil] at hu
      refine ⟨q1, q2, q3, q4, fun w w0 w4 => ?_⟩
      rcases q5 w w0 w4 with q | ⟨p1, k, k0, k1, gk, gf, b, b0, b1, b2⟩
      · exact Or.inl q
      · exact Or.inr ⟨p1, k, k0, k1, gk, gf, b, b0, by omega, b2⟩
  · refine cf hf (cf hf (er f p _ ea hf ?_ (fun i hi => ?_) ?_ ?_ ?_ (fun i hi => ?_)))
    · exact sm_u (sm_u (sm_u (sm_t (sm_m sm0 (by simp)) (sm_m h.1 (by simp))) (by simp)) (by simp)) (by simp)
    · rw [up_i (by omega), up_i (by omega), up_i (by omega)]; exact fr70 s' h i hi
    · rw [up_s]
    · rw [up_i (by decide), up_i (by decide), up_s]
    · rw [up_i (by decide), up_s]; exact e8
    · rw [up_c (by decide), up_c (by decide), up_c (by decide)]; exact fr73 s' h i hi
end
