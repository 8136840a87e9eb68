noncomputable section
set_option maxRecDepth 20000
/-! a text is read, in the law's loop -/
theorem trf_c {x x' : Int → Int} {t : Int} {A : TA} (h : TRf x t A) (e : ∀ i, 753 * t ≤ i → i < 753 * t + 753 → x' i = x i) : TRf x' t A := by
  obtain ⟨h1, h2, h3, h4, h5⟩ := h
  refine ⟨by rw [e _ (by omega) (by omega)]; exact h1, h2, h3, fun k k0 k1 => ?_, fun w w0 w4 => ?_⟩
  · obtain ⟨g1, g2, g3, g4⟩ := h4 k k0 k1
    refine ⟨by rw [e _ (by omega) (by omega)]; exact g1, g2, g3, fun w w1 w2 => ?_⟩
    have := npt_4 (A.2.2 k 0)
    rw [e _ (by omega) (by omega)]; exact g4 w w1 w2
  · rcases h5 w w0 w4 with q | ⟨p1, k, k0, k1, gk, gf, b, b0, b1, b2, b3, b4⟩
    · exact Or.inl q
    · exact Or.inr ⟨p1, k, k0, k1, gk, gf, b, b0, b1, by rw [e _ (by omega) (by omega)]; exact b2, by rw [e _ (by omega) (by omega)]; exact b3, cr_c (fun j j0 j1 => e j (by omega) (by omega)) b4⟩
theorem nth_o {α : Type} {d : α} : ∀ {l : List α} {i : Nat}, l.length ≤ i → nth l i d = d
  | [], _, _ => rfl
  | a :: l, 0, h => absurd h (by simp)
  | a :: l, i + 1, h => nth_o (l := l) (by simpa using h)
theorem nth_g {α : Type} {d : α} {q : α} : ∀ {l : List α} {i : Nat}, i < l.length → nth (l ++ [q]) i d = nth l i d
  | [], _, h => absurd h (by simp)
  | a :: l, 0, _ => rfl
  | a :: l, i + 1, h => nth_g (l := l) (by simpa using h)
theorem nth_e {α : Type} {d : α} {q : α} : ∀ {l : List α}, nth (l ++ [q]) l.length d = q
  | [] => rfl
  | a :: l => nth_e (l := l)
theorem kd_7 {T : TT} {q : Int × Int} {x : Int} (h : kd (SHt T) x = 7) : kd (SHt (T.1, T.2 ++ [q])) x = 7 := by
  have i : x.toNat < (SHt T).length := by
    by_cases e : x.toNat < (SHt T).length
    · exact e
    · unfold kd at h; rw [nth_o (by omega)] at h; exact absurd h (by decide)
  rw [sh_a]
  unfold kd at h ⊢
  rw [nth_a i]; exact h
theorem tc_g {σ σ' : Sg} {T : TT} {q : Int × Int} {r : Int} {A : TA} (h : TC σ T r A) (k : ∀ a, 90 ≤ a → a < 90 + 5 * (T.2.length : Int) → σ' a = σ a) : TC σ' (T.1, T.2 ++ [q]) r A := by
  obtain ⟨j, h1, h2, h3, h4, h5, h6, h7, h8, h9⟩ := h
  refine ⟨j, by show j < (T.2 ++ [q]).length; simp; omega, h2, by rw [k r (by omega) (by omega)]; exact h3, h4, h5, ?_, ?_, ?_, ?_⟩
  · show A.2.1 * 5 ≤ (nth (T.2 ++ [q]) j (0, 0)).2
    rw [nth_g h1]; exact h6
  · show (nth (T.2 ++ [q]) j (0, 0)).1 ≤ 300
    rw [nth_g h1]; exact h7
  · rw [k (r - 1) (by omega) (by omega)]; exact h8
  · show ∀ w, 0 ≤ w → w < 4 → 0 ≤ σ' (r + 1) w ∧ σ' (r + 2) w ≤ (nth (T.2 ++ [q]) j (0, 0)).1 ∧ _
    rw [nth_g h1, k (r + 1) (by omega) (by omega), k (r + 2) (by omega) (by omega), k (r - 2) (by omega) (by omega)]; exact h9
/-- nothing was kept -/
theorem rl_e {σ s : Sg} {T : TT} {tx : Int → TA} {B : Int} (q : Rl σ σ T tx B) (eg : ∀ a, (3 ≤ a ∧ a ≤ 38) ∨ a = 71 ∨ a = 72 ∨ 90 ≤ a → s a = σ a) (e73 : ∀ i, i < 753 * σ 3 13 → s 73 i = σ 73 i) (p4 : s 70 4 = 0) (p13 : s 2 13 = 0) (p5 : s 70 5 = s 2 14) (p6 : s 70 6 = s 2 15) : Rl s s T tx B := by
  obtain ⟨q1, q2, q3, q4, q5, q6⟩ := q
  refine ⟨⟨?_, fun t t0 t1 => ?_⟩, ⟨by rw [p4, p13], by omega, by omega, fun i i0 i1 => by omega⟩, ⟨p5, p6⟩, ?_, ?_, ?_⟩
  · rw [eg 3 (by omega), eg 4 (by omega), eg 5 (by omega), eg 6 (by omega), eg 7 (by omega), eg 8 (by omega), eg 9 (by omega), eg 10 (by omega), eg 11 (by omega), eg 12 (by omega), eg 14 (by omega), eg 15 (by omega), eg 71 (by omega)]; exact q1.1
  · rw [eg 3 (by omega)] at t1
    obtain ⟨a1, a2, a3⟩ := q1.2 t t0 t1
    rw [eg 13 (by omega)]
    exact ⟨tc_c a1 (fun a ha => eg a (by omega)), trf_c a2 (fun i i0 i1 => e73 i (by omega)), a3⟩
  · rw [eg 16 (by omega), eg 17 (by omega), eg 18 (by omega), eg 3 (by omega), eg 71 (by omega)]; exact q4
  · rw [eg 19 (by omega), eg 20 (by omega), eg 3 (by omega), eg 71 (by omega)]; exact q5
  · exact im_c q6 (fun a h1 h2 => eg a (by omega)) (by rw [eg 3 (by omega)]) (fun t _ _ => by rw [eg 13 (by omega)]) (eg 72 (by omega))
/-- one text more -/
theorem rl_t {σ s : Sg} {T : TT} {tx : Int → TA} {B u : Int} {A : TA} (q : Rl σ σ T tx B) (eg : ∀ a, (4 ≤ a ∧ a ≤ 12) ∨ (14 ≤ a ∧ a ≤ 38) ∨ a = 72 ∨ (90 ≤ a ∧ a < 90 + 5 * (T.2.length : Int)) → s a = σ a) (m4 : σ 3 13 < 4) (e3 : ∀ i, s 3 i = if i = 13 then σ 3 13 + 1 else σ 3 i) (e13 : ∀ i, s 13 i = if i = σ 3 13 then 92 + 5 * (T.2.length : Int) else σ 13 i) (e71 : ∀ i, i ≠ 6 → s 71 i = σ 71 i) (e716 : s 71 6 = σ 3 13 + 1) (e73 : ∀ i, i < 753 * σ 3 13 → s 73 i = σ 73 i) (p4 : s 70 4 = 0) (p13 : s 2 13 = 0) (p5 : s 70 5 = s 2 14) (p6 : s 70 6 = s 2 15) (tr : TRf (s 73) (σ 3 13) A) (wf : WfT A) (tc : TC s (T.1, T.2 ++ [(u, A.2.1 * 5)]) (92 + 5 * (T.2.length : Int)) A) : Rl s s (T.1, T.2 ++ [(u, A.2.1 * 5)]) (fun t => if t = σ 3 13 then A else tx t) B := by
  obtain ⟨q1, q2, q3, q4, q5, q6⟩ := q
  have n13 := q1.1.1.2.2.2.2.1
  have r15 := q1.1.1.2.2.2.2.2.1
  have o3 : ∀ i, i ≠ 13 → s 3 i = σ 3 i := fun i hi => by rw [e3, if_neg hi]
  have s313 : s 3 13 = σ 3 13 + 1 := by rw [e3, if_pos rfl]
  have k7 : kd (SHt (T.1, T.2 ++ [(u, A.2.1 * 5)])) (92 + 5 * (T.2.length : Int)) = 7 := by
    have := sh_n T
    rw [sh_a, kdq_b (i := 2) (by omega)]; rfl
  refine ⟨⟨?_, fun t t0 t1 => ?_⟩, ⟨by rw [p4, p13], by omega, by omega, fun i i0 i1 => by omega⟩, ⟨p5, p6⟩, ?_, ?_, ?_⟩
  · rw [eg 4 (by omega), eg 5 (by omega), eg 6 (by omega), eg 7 (by omega), eg 8 (by omega), eg 9 (by omega), eg 10 (by omega), eg 11 (by omega), eg 12 (by omega), eg 14 (by omega), eg 15 (by omega)]
    obtain ⟨⟨z1, z2, z3, z4, z5, z6, z7, z8⟩, hf, hd, hj, hb, hk⟩ := q1.1
    refine ⟨⟨?_, ?_, ?_, ?_, ?_, ?_, ?_, ?_⟩, ?_, ?_, ?_, ?_, ?_⟩
    · rw [o3 _ (by decide), e71 _ (by decide)]; exact z1
    · rw [o3 _ (by decide), e71 _ (by decide)]; exact z2
    · rw [o3 _ (by decide), e71 _ (by decide)]; exact z3
    · rw [o3 _ (by decide), e71 _ (by decide)]; exact z4
    · rw [s313, e716]; omega
    · rw [o3 _ (by decide), e71 _ (by decide), s313]; omega
    · rw [o3 _ (by decide), e71 _ (by decide)]; exact z7
    · rw [o3 _ (by decide), e71 _ (by decide)]; exact z8
    · intro i i0 i1; rw [o3 _ (by decide)] at i1; rw [e71 _ (by omega)]; exact hf i i0 i1
    · intro i i0 i1; rw [o3 _ (by decide)] at i1
      rw [e71 (90 + 6 * i + 0) (by omega), e71 (90 + 6 * i + 1) (by omega), e71 (90 + 6 * i + 2) (by omega), e71 (90 + 6 * i + 3) (by omega), e71 (90 + 6 * i + 4) (by omega), e71 (90 + 6 * i + 5) (by omega), o3 _ (by decide)]; exact hd i i0 i1
    · intro i i0 i1; rw [o3 _ (by decide)] at i1; rw [e71 _ (by omega)]; exact hj i i0 i1
    · intro i i0 i1; rw [e71 _ (by omega)]; exact hb i i0 i1
    · intro i i0 i1; rw [o3 _ (by decide)] at i1
      rw [e71 (248 + 2 * i) (by omega), e71 (248 + 2 * i + 1) (by omega), o3 _ (by decide)]; exact hk i i0 i1
  · rw [s313] at t1
    rw [e13]
    by_cases et : t = σ 3 13
    · simp only [if_pos et]
      rw [et]; exact ⟨tc, tr, wf⟩
    · simp only [if_neg et]
      obtain ⟨a1, a2, a3⟩ := q1.2 t t0 (by omega)
      exact ⟨tc_g a1 (fun a a0 a1 => eg a (by omega)), trf_c a2 (fun i i0 i1 => e73 i (by omega)), a3⟩
  · rw [eg 16 (by omega), eg 17 (by omega), eg 18 (by omega), o3 0 (by decide)]
    exact mo_a (fun i hi => e71 i (by omega)) q4
  · rw [eg 19 (by omega), eg 20 (by omega), o3 0 (by decide)]
    exact tr_a (fun i hi => e71 i (by omega)) q5
  · obtain ⟨i1, i2, i3, i4, i5, i6⟩ := q6
    unfold Im
    rw [eg 21 (by omega), eg 22 (by omega), eg 23 (by omega), eg 24 (by omega), eg 25 (by omega), eg 26 (by omega), eg 27 (by omega), eg 28 (by omega), eg 29 (by omega), eg 30 (by omega), eg 31 (by omega), eg 32 (by omega), eg 33 (by omega), eg 34 (by omega), eg 35 (by omega), eg 36 (by omega), eg 37 (by omega), eg 38 (by omega), eg 72 (by omega), s313]
    refine ⟨i1, i2, i3, by omega, fun t t0 t1 => by rw [e13, if_neg (by omega)]; exact i5 t t0 t1, fun t t0 t4 => ⟨?_, ?_⟩⟩
    · rw [e13]
      by_cases et : t = σ 3 13
      · rw [if_pos et]; exact Or.inr k7
      · rw [if_neg et]
        rcases (i6 t t0 t4).1 with z | z
        · exact Or.inl z
        · exact Or.inr (kd_7 z)
    · rcases (i6 t t0 t4).2 with z | z
      · exact Or.inl z
      · exact Or.inr (kd_7 z)
theorem lwT : LwT := by
  intro σ T tx B l P q hB l0 l1 t1 rs K
  have n13 := q.1.1.1.2.2.2.2.1
  obtain ⟨tp1, tp2, tp3, tp4⟩ := q.2.1
  refine g_Law_518 (d := 1289) (g_Af_text_0 (d := 1288) (ci (fun m4 => ?_) (fun m4 => ?_)))
  · have hc : ∀ s : Sg, s 74 = σ 74 → ∀ i, 0 ≤ i → i < σ 2 13 → s 74 i = (fun i => σ 59 i % 256) i ∧ 0 ≤ (fun i => σ 59 i % 256) i ∧ (fun i => σ 59 i % 256) i < 256 := fun s e i i0 i1 => ⟨by rw [e]; exact tp4 i i0 i1, by show 0 ≤ σ 59 i % 256; omega, by show σ 59 i % 256 < 256; omega⟩
    refine c_read (D := 1287) (by omega) tp2 tp3 (fun lt A u s1 hx hl ht sm1 h1 l2 => ?_) (fun lt f p s1 hx hl ht hf sm1 f1 p1 => ?_)
    · -- it is kept
      obtain ⟨ck, h601, h604, h608, hA, hp, _, hlw, hu, wf, h602⟩ := h1
      simp only [List.length_nil] at hu
      refine c_kept (d := 1287) h604 hu.1 (by omega) h608 hA.1 hA.2 (fun s2 f2 g2a g2b g2c g2d g2e => g_Af_text_24 ?_)
      have o2 : ∀ a, a < 60 ∨ (69 ≤ a ∧ a < 90 + 5 * (T.2.length : Int)) → s2 a = σ a := fun a ha => by rw [f2 a (by omega), sm1 a (by simp [rdr2]; omega)]
      have k7 : kd (SHt (T.1, T.2 ++ [(u, A.2.1 * 5)])) (92 + 5 * (T.2.length : Int)) = 7 := by
        have := sh_n T
        rw [sh_a, kdq_b (i := 2) (by omega)]; rfl
      rw [o2 3 (by omega), k7, w32_id (x := σ 3 13 + 1) (by omega) (by omega), w32_id (x := σ 3 13 + 1 - 1) (by omega) (by omega), show σ 3 13 + 1 - 1 = σ 3 13 from by omega]
      refine cf (by omega) (ct (by omega) (g_Law_522 (d := 1289) ?_))
      generalize e3 : up (up (up (up (up s2 2 13 0) 2 14 (s2 60 1)) 2 15 (s2 60 2)) 13 (σ 3 13) (92 + 5 * (T.2.length : Int))) 3 13 (σ 3 13 + 1) = s3
      have o3 : ∀ a, a ≠ 2 → a ≠ 3 → a ≠ 13 → s3 a = s2 a := fun a a2 a3 a13 => by rw [← e3, up_c a3, up_c a13, up_c a2, up_c a2, up_c a2]
      have b3 : ∀ i, s3 3 i = if i = 13 then σ 3 13 + 1 else σ 3 i := fun i => by rw [← e3, up_e, up_c (by decide), up_c (by decide), up_c (by decide), up_c (by decide), o2 3 (by omega)]
      have b13 : ∀ i, s3 13 i = if i = σ 3 13 then 92 + 5 * (T.2.length : Int) else σ 13 i := fun i => by rw [← e3, up_c (by decide), up_e, up_c (by decide), up_c (by decide), up_c (by decide), o2 13 (by omega)]
      have b2 : s3 2 13 = 0 ∧ s3 2 14 = 0 ∧ s3 2 15 = -1 := by
        rw [← e3, up_c (by decide), up_c (by decide), up_i (by decide), up_i (by decide), up_s, up_i (by decide), up_s, up_s, f2 60 (by omega)]
        exact ⟨rfl, h601, h602⟩
      have o71 : s3 71 = σ 71 := by rw [o3 71 (by decide) (by decide) (by decide), o2 71 (by omega)]
      refine r_text (D := 1275) (c := fun i => σ 59 i % 256) (n := σ 2 13) tp3 (hc s3 (by rw [o3 74 (by decide) (by decide) (by decide), o2 74 (by omega)])) (by rw [o3 70 (by decide) (by decide) (by decide), o2 70 (by omega)]; exact tp1) (by rw [o71, n13.2.2]; exact n13.1) (by rw [o71, n13.2.2]; exact m4) hx hl ht (fun A' u' s4 ea sm4 r70 r4 r5 r6 r71 r716 r73 tr => ?_) (fun f p s4 ea => by simp at ea)
      simp only [Sum.inl.injEq, Prod.mk.injEq] at ea
      obtain ⟨rfl, rfl, _⟩ := ea
      rw [o71, n13.2.2] at r716 r73 tr ⊢
      refine g_Law_526 (ct rfl (K s4 (T.1, T.2 ++ [(u, A.2.1 * 5)]) (fun t => if t = σ 3 13 then A else tx t) (fun a ha => ?_) rfl (Or.inr ⟨u, A.2.1 * 5, rfl, by omega, by omega⟩) (rl_B (B := B) (by omega) (rl_t q (fun a ha => ?_) m4 (fun i => ?_) (fun i => ?_) (fun i hi => ?_) r716 (fun i hi => ?_) r4 ?_ ?_ ?_ tr wf ?_))))
      · rw [sm4 a (by simp; omega), o3 a (by omega) (by omega) (by omega), o2 a (by omega)]
      · rw [sm4 a (by simp; omega), o3 a (by omega) (by omega) (by omega), o2 a (by omega)]
      · rw [sm4 3 (by decide)]; exact b3 i
      · rw [sm4 13 (by decide)]; exact b13 i
      · rw [r71 i hi, o71]
      · rw [r73 i (by omega), o3 73 (by decide) (by decide) (by decide), o2 73 (by omega)]
      · rw [sm4 2 (by decide)]; exact b2.1
      · rw [sm4 2 (by decide), r5]; exact b2.2.1.symm
      · rw [sm4 2 (by decide), r6]; exact b2.2.2.symm
      · have o4 : ∀ a, 90 ≤ a → s4 a = s2 a := fun a ha => by rw [sm4 a (by simp; omega), o3 a (by omega) (by omega) (by omega)]
        refine ⟨T.2.length, by show T.2.length < (T.2 ++ [(u, A.2.1 * 5)]).length; simp, rfl, by rw [o4 _ (by omega)]; exact g2c, hA.1, hA.2, ?_, ?_, fun k w k0 k1 w0 w5 => ?_, fun w w0 w4 => ?_⟩
        · show A.2.1 * 5 ≤ (nth (T.2 ++ [(u, A.2.1 * 5)]) T.2.length (0, 0)).2
          rw [nth_e]; exact Int.le_refl _
        · show (nth (T.2 ++ [(u, A.2.1 * 5)]) T.2.length (0, 0)).1 ≤ 300
          rw [nth_e]; show u ≤ 300; omega
        · rw [show 92 + 5 * (T.2.length : Int) - 1 = 91 + 5 * (T.2.length : Int) from by omega, o4 _ (by omega), g2b _ (by omega) (by omega)]; exact hp k w k0 k1 w0 w5
        · show 0 ≤ s4 (92 + 5 * (T.2.length : Int) + 1) w ∧ s4 (92 + 5 * (T.2.length : Int) + 2) w ≤ (nth (T.2 ++ [(u, A.2.1 * 5)]) T.2.length (0, 0)).1 ∧ s4 (92 + 5 * (T.2.length : Int) + 2) w = s4 (92 + 5 * (T.2.length : Int) + 1) w + (A.1 w).length ∧ CodeAt (s4 (92 + 5 * (T.2.length : Int) - 2)) (s4 (92 + 5 * (T.2.length : Int) + 1) w) (A.1 w)
          rw [nth_e, show 92 + 5 * (T.2.length : Int) + 1 = 93 + 5 * (T.2.length : Int) from by omega, show 92 + 5 * (T.2.length : Int) + 2 = 94 + 5 * (T.2.length : Int) from by omega, show 92 + 5 * (T.2.length : Int) - 2 = 90 + 5 * (T.2.length : Int) from by omega, o4 (93 + 5 * (T.2.length : Int)) (by omega), o4 (94 + 5 * (T.2.length : Int)) (by omega), o4 (90 + 5 * (T.2.length : Int)) (by omega), g2d, g2e]
          obtain ⟨w1, w2, w3, w5⟩ := hlw w w0 w4
          exact ⟨w1, w3, w2, ca_c (fun i i0 i1 => g2a i (by omega) (by omega)) w5⟩
    · -- it isn't
      refine g_Af_text_24 (ct rfl (g_Law_522 (d := 1289) ?_))
      rw [f1, p1]
      generalize e3 : up (up (up s1 2 13 0) 2 14 f) 2 15 p = s3
      have o3 : ∀ a, a < 2 ∨ (3 ≤ a ∧ a < 60) ∨ 69 ≤ a → s3 a = σ a := fun a ha => by rw [← e3, up_c (by omega), up_c (by omega), up_c (by omega), sm1 a (by simp [rdr2]; omega)]
      have b2 : s3 2 13 = 0 ∧ s3 2 14 = f ∧ s3 2 15 = p := by
        rw [← e3, up_i (by decide), up_i (by decide), up_s, up_i (by decide), up_s, up_s]
        exact ⟨rfl, rfl, rfl⟩
      refine r_text (D := 1275) (c := fun i => σ 59 i % 256) (n := σ 2 13) tp3 (hc s3 (o3 74 (by omega))) (by rw [o3 70 (by omega)]; exact tp1) (by rw [o3 71 (by omega), n13.2.2]; exact n13.1) (by rw [o3 71 (by omega), n13.2.2]; exact m4) hx hl ht (fun A' u' s4 ea => by simp at ea) (fun f' p' s4 ea hf' sm4 r70 r4 r5 r6 r73 => ?_)
      simp only [Sum.inr.injEq, Prod.mk.injEq] at ea
      obtain ⟨rfl, rfl⟩ := ea
      rw [o3 71 (by omega), n13.2.2] at r73
      refine g_Law_526 (ct rfl (K s4 T tx (fun a ha => ?_) rfl (Or.inl rfl) (rl_B (B := B) (by omega) (rl_e q (fun a ha => ?_) (fun i hi => ?_) r4 ?_ ?_ ?_))))
      · rw [sm4 a (by simp; omega), o3 a (by omega)]
      · rw [sm4 a (by simp; omega), o3 a (by omega)]
      · rw [r73 i (by omega), o3 73 (by omega)]
      · rw [sm4 2 (by decide)]; exact b2.1
      · rw [sm4 2 (by decide), r5]; exact b2.2.1.symm
      · rw [sm4 2 (by decide), r6]; exact b2.2.2.symm
  · -- there is no room
    refine g_Law_522 (d := 1289) (g_Mo_text_0 (d := 1288) (ct ?_ (g_Law_526 (ct rfl (K σ T tx (fun _ _ => rfl) rfl (Or.inl rfl) (rl_B (by omega) q))))))
    rw [n13.2.2]; omega
end
