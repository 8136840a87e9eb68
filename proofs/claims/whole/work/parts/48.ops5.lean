noncomputable section
theorem o_lend {e : Nat} {g : Sg} {T : TT} {tx : Int → TA} {B x y z : Int} : Op (e + 60) 16 [aR 2, aI x, aI y, aI z, aU] 225 [aR 70, aI x, aI y, aI z] g T tx B := by
  refine op_l (fun h hr => ?_)
  have hn := hr.1.1.1.1
  have ht := hr.2.2.2.2.1
  have no : (x < 0 ∨ g 3 0 ≤ x ∨ y < 0 ∨ g 3 0 ≤ y ∨ x = y ∨ z < 0 ∨ 99 < z ∨ (0 ≤ x ∧ x < g 3 0 ∧ 0 ≤ y ∧ y < g 3 0 ∧ g 17 (x * 6 + y) = z)) → Lf (e + 60) 225 [aR 70, aI x, aI y, aI z] g T tx B 0 (mk g T) := by
    intro hx
    refine lf_n (fun h hr Q q => g_Mo_lend_0 ?_)
    rw [hr.1.1.1.1.2.2, w32_id (x := g 3 0 - 1) (by omega) (by omega)]
    refine ci (fun _ => q) (fun _ => ci (fun _ => q) (fun _ => ci (fun _ => q) (fun _ => ci (fun _ => q) (fun _ => ci (fun _ => q) (fun _ => ci (fun _ => q) (fun _ => ci (fun _ => q) (fun _ => ?_)))))))
    rw [w32_id (x := 6 * x) (by omega) (by omega), w32_id (x := 18 + 6 * x) (by omega) (by omega), w32_id (x := 18 + 6 * x + y) (by omega) (by omega), show 18 + 6 * x + y = 18 + (x * 6 + y) from by omega, (hr.2.2.2.1.2.2.2.2.2.1 (x * 6 + y) (by omega) (by omega)).2.2.1]
    exact ct (by omega) (ct (by omega) q)
  refine g_Af_lend_0 ?_
  refine ci (fun _ => no (by omega)) (fun _ => ci (fun _ => ci (fun _ => no (by omega)) (fun _ => ci (fun _ => ci (fun _ => no (by omega)) (fun _ => ci (fun _ => no (by omega)) (fun _ => ci (fun _ => no (by omega)) (fun _ => ?_)))) (fun _ => no (by omega)))) (fun _ => no (by omega)))
  rw [w32_id (x := x * 6) (by omega) (by omega), w32_id (x := x * 6 + y) (by omega) (by omega)]
  refine ct (by omega) (ci (fun c => no (by omega)) (fun c => ?_))
  refine c_keep ⟨ht.1.1, ht.1.2.1⟩ ht.2.1 (fun g1 ck => ?_)
  refine g_Af_lend_58 (ct (by omega) ?_)
  refine lf_c (cls_u (fun a ha => ck.1 a (by simp; omega)) (by omega) (by omega)) (fun h hr Q q => g_Mo_lend_0 ?_)
  have hl := hr.2.2.2.1.2.2.2.2.2.1
  rw [hr.1.1.1.1.2.2, w32_id (x := g 3 0 - 1) (by omega) (by omega), w32_id (x := 6 * x) (by omega) (by omega), w32_id (x := 18 + 6 * x) (by omega) (by omega), w32_id (x := 18 + 6 * x + y) (by omega) (by omega), show 18 + 6 * x + y = 18 + (x * 6 + y) from by omega, (hl (x * 6 + y) (by omega) (by omega)).2.2.1]
  refine cf (by omega) (cf (by omega) (cf (by omega) (cf (by omega) (cf (by omega) (cf (by omega) (cf (by omega) (ct (by omega) (cf c (r_keep (by rw [hr.2.2.2.2.1.1.2.2]; exact ⟨ht.1.1, ht.1.2.1⟩) (fun h1 rk => ?_))))))))))
  refine g_Mo_lend_55 ?_
  rw [w32_id (x := 6 * x) (by omega) (by omega), w32_id (x := 18 + 6 * x) (by omega) (by omega), w32_id (x := 18 + 6 * x + y) (by omega) (by omega), show 18 + 6 * x + y = 18 + (x * 6 + y) from by omega]
  refine ct (by omega) (q _ (rfo_u (fun a ha => rk.1 a (by simp; omega)) (by omega) (by omega)) ?_)
  have ea : ∀ i, i ≠ 18 + (x * 6 + y) → (i < 264 ∧ i ≠ 8) ∨ 1704 ≤ i → up h1 71 (18 + (x * 6 + y)) z 71 i = h 71 i := fun i h1 h2 => by rw [up_i h1, rk.2.1 i h2]
  have eg : ∀ a, a ≠ 17 → a ≠ 19 → a ≠ 20 → up g1 17 (x * 6 + y) z a = g a := fun a h1 h2 h3 => by rw [up_c h1, ck.1 a (by simp; omega)]
  refine rl_mom hr (fun a ha => eg a (by omega) (by omega) (by omega)) (fun a h1 h2 => by rw [up_c (by omega), rk.1 a (by simp; omega)]) (fun i _ _ => by rw [up_c (by decide), rk.1 70 (by decide)]) (fun i hi => ea i (by omega) (by omega)) ?_ ?_
  · rw [eg 16 (by decide) (by decide) (by decide), eg 18 (by decide) (by decide) (by decide)]
    obtain ⟨m1, m2, m3, m4, m5, m6, m7⟩ := mo_B (show B ≤ B + 24 by omega) hr.2.2.2.1
    refine ⟨m1, ?_, ?_, ?_, ?_, ?_, ?_⟩
    · intro i i0 i1; rw [ea _ (by omega) (by omega)]; exact m2 i i0 i1
    · rw [ea 4 (by omega) (by omega)]; exact m3
    · rw [ea 5 (by omega) (by omega)]; exact m4
    · rw [ea 11 (by omega) (by omega)]; exact m5
    · intro i i0 i1
      rw [up_e, ck.1 17 (by decide)]
      by_cases qi : i = x * 6 + y
      · rw [if_pos qi, qi, up_s]; omega
      · rw [if_neg qi, ea _ (by omega) (by omega)]; exact m6 i i0 i1
    · rw [ea 11 (by omega) (by omega)]
      intro i w i0 i1 w0 w1; rw [ea _ (by omega) (by omega)]; exact m7 i w i0 i1 w0 w1
  · rw [up_c (by decide), up_c (by decide)]
    have := tr_keep hr.2.2.2.2.1 hr.2.2.2.1 hr.1.1.1.1.2.2 hr.1.1.1.1.1 ck rk
    exact tr_a (fun i hi => up_i (by omega)) (tr_B (Int.le_refl _) (show B ≤ B + 24 by omega) (by omega) this)
theorem o_undo {e : Nat} {g : Sg} {T : TT} {tx : Int → TA} {B : Int} : Op (e + 60) 24 [aR 2] 224 [aR 70, aU, aU] g T tx B := by
  refine op_l (fun h hr => ?_)
  have ht := hr.2.2.2.2.1
  refine g_Af_undo_0 (c_giveBack ⟨ht.1.1, ht.1.2.1⟩ ht.2.1 (fun c => ?_) (fun c g1 hs hn q1 q2 q3 => ?_))
  · refine g_Af_undo_11 (ct rfl (lf_n (fun h hr Q q => ?_)))
    have h8 := hr.2.2.2.2.1.1.2.2
    exact r_undo (by rw [h8]; omega) (fun _ => q) (fun c' => by rw [h8] at c'; omega)
  · refine g_Af_undo_11 (cf (by omega) ?_)
    rw [hn 0, if_pos rfl]
    refine lf_c (fun a ha => hs a (by simp; omega)) (fun h hr Q q => ?_)
    obtain ⟨⟨t1, t2, h8⟩, t3, t4, t5, t6⟩ := hr.2.2.2.2.1
    refine r_undo (by rw [h8]; omega) (fun c' => by rw [h8] at c'; omega) (fun _ h1 rs ra r8 r242 r18 r4 r11 r5 => ?_)
    rw [h8] at r8 r242 r18 r4 r11 r5 ⊢
    obtain ⟨s1, s2, s3, s4, s5, s6, s7, s8⟩ := t4 (g 19 0 - 1) (by omega) (by omega)
    dsimp only at s2 s3 s4 s5 s6 s7 s8
    refine q h1 (fun a ha => rs a (by simp; omega)) ?_
    have e8 : g1 16 8 = cr (g 19) (g 20) (g 19 0 - 1) 8 := q1 8 (by omega) (by omega)
    refine rl_mom hr (fun a ha => hs a (by simp; omega)) (fun a _ _ => rs a (by simp; omega)) (fun i _ _ => by rw [rs 70 (by decide)]) (fun i hi => ra i (by omega)) ?_ ?_
    · refine ⟨?_, ?_, ?_, ?_, ?_, ?_, ?_⟩
      · rcases s1 with s1 | s1
        · left; rw [q1 0 (by omega) (by omega)]; exact s1
        · right; exact sk_c (fun i i0 i1 => q1 i i0 (by omega)) s1
      · intro i i0 i1; rw [q1 i i0 (by omega), r242 i i0 i1]; exact s2 i i0 i1
      · rw [q1 6 (by omega) (by omega), r4]; exact s3
      · rw [q1 7 (by omega) (by omega), r5]; exact s4
      · rw [e8, r11]; exact ⟨s5.1, by have := s5.2.1; omega, s5.2.2⟩
      · intro i i0 i1
        have a7 := s7 i i0 i1
        have b0 := s6
        rw [q2 i i0 i1, r18 i i0 i1]
        refine ⟨a7.1, a7.2.1, ?_, fun hh => a7.2.2.2 (by omega)⟩
        by_cases qq : i / 6 < h 71 (264 + 48 * (g 19 0 - 1) + 0) ∧ i % 6 < h 71 (264 + 48 * (g 19 0 - 1) + 0)
        · rw [if_pos qq]; exact a7.2.2.1
        · rw [if_neg qq]; exact (a7.2.2.2 (by omega)).symm
      · rw [e8, r11]
        intro i w i0 i1 w0 w1
        rw [q3 _ (by omega) (by omega), ra _ (by omega)]
        exact s8 i w i0 i1 w0 w1
    · have e20 : g1 20 = g 20 := hs 20 (by decide)
      have e191 : g1 19 1 = g 19 1 := by rw [hn 1, if_neg (by omega)]
      have e190 : g1 19 0 = g 19 0 - 1 := by rw [hn 0, if_pos rfl]
      have ecr : ∀ j, cr (g1 19) (g1 20) j = cr (g 19) (g 20) j := fun j => by funext i; unfold cr; rw [e191, e20]
      refine ⟨?_, ?_, ?_, ?_, ?_⟩
      · rw [e190, r8]; omega
      · rw [e191]; exact t3
      · rw [e190]
        intro j j0 j1
        rw [ecr j]
        exact st_h (Int.le_refl _) (show B ≤ B + 24 by omega) (st_c (fun _ _ _ => rfl) (fun i i0 i1 => ra _ (by omega)) (fun i hi => ra i (by omega)) (t4 j j0 (by omega)))
      · rw [e190]
        intro i j i0 i1 j1
        rw [ra _ (by omega), ra _ (by omega)]; exact t5 i j i0 i1 (by omega)
      · rw [e190, r11]
        intro i i0 i1
        rw [ra (264 + 48 * i + 44) (by omega)]
        have := t5 i (g 19 0 - 1) i0 (by omega) (by omega)
        omega
/-- the verdict -/
def VD (g : Sg) (c3 : List (Int × Int)) (h shown : Int) : Int := if g 4 h < shown then 0 else if w32 (shown + UPF g c3 h) < g 4 h then 2 else 1
theorem c_verdict {d : Nat} {σ η : Sg} {T : TT} {tx : Int → TA} {P : Int → AM → Prop} (ht : Td σ η T tx) (h0 : 0 ≤ σ 16 0) (h1 : σ 16 0 < σ 3 0) (k : ∀ s, Sm [40, 41] σ s → P (VD σ ((rA σ tx).1 3) (σ 16 0) (σ 16 2)) (mk s T)) : wpI (d + 4) 101 0 [aR 42, aU] [] (mk σ T) P := by
  have hn := ht.1.1.1
  refine g_Scale_verdict_0 (cf (by omega) (ct h1 (ct (by omega) (ci (fun c => ?_) (fun c => ?_)))))
  · have := k σ (sm_r _ _)
    unfold VD at this; rw [if_pos c] at this; exact this
  · refine c_upFor ht h0 h1 (fun s hs => g_Scale_verdict_46 ?_)
    have := k s hs
    unfold VD at this; rw [if_neg c] at this
    refine ci (fun c' => ?_) (fun c' => ?_)
    · rw [if_pos c'] at this; exact this
    · rw [if_neg c'] at this; exact this
theorem r_verdict {d : Nat} {γ σ : Sg} {T : TT} {tx : Int → TA} {P : Int → AM → Prop} {m : Int → Int} (ht : Td γ σ T tx) (hm : RM σ m) (h0 : 0 ≤ m 0) (h1 : m 0 < γ 3 0) (k : ∀ s, Sm [76, 77] σ s → P (VD γ ((rA γ tx).1 3) (m 0) (m 2)) (mk s T)) : wpI (d + 6) 249 0 [aR 70, aU] [] (mk σ T) P := by
  have hn := ht.1.1.1
  have hf := ht.1.2.1 (m 0) h0 h1
  obtain ⟨e0, e1, e2, e3, e4, e5⟩ := rm_e hm
  refine g_Mo_verdict_0 ?_
  rw [e0, e2, w32_id (x := 12 + m 0) (by omega) (by omega), hf.2.2]
  refine ct (by omega) (ci (fun c => ?_) (fun c => ?_))
  · have := k σ (sm_r _ _)
    unfold VD at this; rw [if_pos c] at this; exact this
  · refine r_upOf ht h0 h1 (fun s hs => g_Mo_verdict_44 ?_)
    rw [w32_id (x := 12 + m 0) (by omega) (by omega), hs 71 (by decide), hf.2.2]
    have := k s hs
    unfold VD at this; rw [if_neg c] at this
    refine ct (by omega) (ci (fun c' => ?_) (fun c' => ?_))
    · rw [if_pos c'] at this; exact this
    · rw [if_neg c'] at this; exact this
def enM (m : Int → Int) (v w : Int) : Int := if w = 0 then m 0 else if w = 1 then m 2 else if w = 2 then m 1 else if w = 3 then m 3 else v
def ilM (g : Sg) (v : Int) (m : Int → Int) : Int := if v = 0 then min 9999 (w32 (w32 (m 6 + m 2) - g 4 (m 0))) else m 6
def clM (g : Sg) (v : Int) (m : Int → Int) : Int → Int := fun i => if i = 0 then -1 else if i = 6 then ilM g v m else if i = 8 then min (m 8 + 1) 30 else m i
theorem c_writeDown {d : Nat} {σ : Sg} {T : TT} {P : AM → Prop} {v : Int} (h8 : 0 ≤ σ 16 8 ∧ σ 16 8 ≤ 30) (k : ∀ s, Sm [16, 18] σ s → (∀ i, s 16 i = if i = 8 then min (σ 16 8 + 1) 30 else σ 16 i) → (∀ i w, 0 ≤ i → i < min (σ 16 8 + 1) 30 → 0 ≤ w → w < 5 → s 18 (i * 5 + w) = if i = min (σ 16 8 + 1) 30 - 1 then enM (σ 16) v w else σ 18 ((i + (σ 16 8 + 1 - min (σ 16 8 + 1) 30)) * 5 + w)) → P (mk s T)) : wpV d 69 0 [aR 16, aI v, aU] [] (mk σ T) P := by
  have en : ∀ (s : Sg) (x w : Int), 0 ≤ w → w < 5 → up (up (up (up (up s 18 x (σ 16 0)) 18 (x + 1) (σ 16 2)) 18 (x + 2) (σ 16 1)) 18 (x + 3) (σ 16 3)) 18 (x + 4) v 18 (x + w) = enM (σ 16) v w := by
    intro s x w w0 w1
    unfold enM
    rcases (by omega : w = 0 ∨ w = 1 ∨ w = 2 ∨ w = 3 ∨ w = 4) with rfl | rfl | rfl | rfl | rfl
    · rw [up_i (by omega), up_i (by omega), up_i (by omega), up_i (by omega), Int.add_zero, up_s]; rfl
    · rw [up_i (by omega), up_i (by omega), up_i (by omega), up_s]; rfl
    · rw [up_i (by omega), up_i (by omega), up_s]; rfl
    · rw [up_i (by omega), up_s]; rfl
    · rw [up_s]; rfl
  have eo : ∀ (s : Sg) (x j : Int), j < x ∨ x + 5 ≤ j → up (up (up (up (up s 18 x (σ 16 0)) 18 (x + 1) (σ 16 2)) 18 (x + 2) (σ 16 1)) 18 (x + 3) (σ 16 3)) 18 (x + 4) v 18 j = s 18 j := by
    intro s x j hj
    rw [up_i (by omega), up_i (by omega), up_i (by omega), up_i (by omega), up_i (by omega)]
  refine g_Moment_writeDown_0 (ci (fun c => ?_) (fun c => ?_))
  · have em : min (σ 16 8 + 1) 30 = σ 16 8 + 1 := by omega
    rw [em] at k
    rw [w32_id (x := σ 16 8 * 5) (by omega) (by omega), w32_id (x := σ 16 8 * 5 + 1) (by omega) (by omega), w32_id (x := σ 16 8 * 5 + 2) (by omega) (by omega), w32_id (x := σ 16 8 * 5 + 3) (by omega) (by omega), w32_id (x := σ 16 8 * 5 + 4) (by omega) (by omega), w32_id (x := σ 16 8 + 1) (by omega) (by omega)]
    refine ct (by omega) (ct (by omega) (ct (by omega) (ct (by omega) (ct (by omega) (k _ (sm_u (sm_u (sm_u (sm_u (sm_u (sm_u (sm_r _ _) (by simp)) (by simp)) (by simp)) (by simp)) (by simp)) (by simp)) ?_ ?_)))))
    · intro i; rw [up_e, up_c (by decide), up_c (by decide), up_c (by decide), up_c (by decide), up_c (by decide)]
    · intro i w i0 i1 w0 w1
      rw [up_c (by decide)]
      by_cases q : i = σ 16 8
      · rw [if_pos (by omega), q]; exact en _ _ _ w0 w1
      · rw [if_neg (by omega), eo _ _ _ (by omega)]; congr 1; omega
  · have em : min (σ 16 8 + 1) 30 = 30 := by omega
    have e30 : σ 16 8 = 30 := by omega
    rw [em, e30] at k
    rw [show w32 ((29 : Int) * 5) = 145 from by unfold w32; omega, show w32 ((145 : Int) + 1) = 145 + 1 from by unfold w32; omega, show w32 ((145 : Int) + 2) = 145 + 2 from by unfold w32; omega, show w32 ((145 : Int) + 3) = 145 + 3 from by unfold w32; omega, show w32 ((145 : Int) + 4) = 145 + 4 from by unfold w32; omega, show w32 ((29 : Int) + 1) = 30 from by unfold w32; omega]
    refine ct (by omega) (ct (by omega) (ct (by omega) (ct (by omega) (ct (by omega) (k _ (sm_u (sm_u (sm_u (sm_u (sm_u (sm_u (sm_u (sm_cp (sm_r _ _) (by simp)) (by simp)) (by simp)) (by simp)) (by simp)) (by simp)) (by simp)) (by simp)) ?_ ?_)))))
    · intro i
      rw [up_e, up_c (by decide), up_c (by decide), up_c (by decide), up_c (by decide), up_c (by decide), up_e, cp_c (by decide)]
      by_cases q : i = 8
      · rw [if_pos q, if_pos q]
      · rw [if_neg q, if_neg q, if_neg q]
    · intro i w i0 i1 w0 w1
      rw [up_c (by decide)]
      by_cases q : i = 29
      · rw [if_pos (by omega), q]; exact en _ 145 _ w0 w1
      · rw [if_neg (by omega), eo _ 145 _ (by omega), up_c (by decide), cp_e, if_pos (by omega)]; congr 1; omega
theorem c_close {d : Nat} {σ η : Sg} {T : TT} {tx : Int → TA} {P : Int → AM → Prop} (ht : Td σ η T tx) (h0 : 0 ≤ σ 16 0) (h1 : σ 16 0 < σ 3 0) (h8 : 0 ≤ σ 16 8 ∧ σ 16 8 ≤ 30) (k : ∀ s, Sm [16, 18, 40, 41] σ s → s 16 = clM σ (VD σ ((rA σ tx).1 3) (σ 16 0) (σ 16 2)) (σ 16) → (∀ i w, 0 ≤ i → i < min (σ 16 8 + 1) 30 → 0 ≤ w → w < 5 → s 18 (i * 5 + w) = if i = min (σ 16 8 + 1) 30 - 1 then enM (σ 16) (VD σ ((rA σ tx).1 3) (σ 16 0) (σ 16 2)) w else σ 18 ((i + (σ 16 8 + 1 - min (σ 16 8 + 1) 30)) * 5 + w)) → P (VD σ ((rA σ tx).1 3) (σ 16 0) (σ 16 2)) (mk s T)) : wpI (d + 5) 100 0 [aR 42, aU] [] (mk σ T) P := by
  have hn := ht.1.1.1
  refine g_Scale_close_0 (c_verdict ht h0 h1 (fun s hs => ?_))
  generalize VD σ ((rA σ tx).1 3) (σ 16 0) (σ 16 2) = v at *
  have e16 := hs 16 (by decide)
  have fin : ∀ s2 : Sg, Sm [16, 40, 41] σ s2 → (∀ i, s2 16 i = if i = 6 then ilM σ v (σ 16) else σ 16 i) → wpV (d + 4) 69 0 [aR 16, aI v, aU] [] (mk s2 T) (fun M' => wpI (d + 4 + 1) 100 57 [aR 42, aI v] [] M' P) := by
    intro s2 hs2 h2
    have f8 : s2 16 8 = σ 16 8 := by rw [h2, if_neg (by decide)]
    have f0 : ∀ i, i < 6 → s2 16 i = σ 16 i := fun i hi => by rw [h2, if_neg (by omega)]
    refine c_writeDown (by rw [f8]; exact h8) (fun s3 hs3 h3 h4 => g_Scale_close_57 ?_)
    refine k _ (sm_u (sm_t (sm_m hs2 (by simp)) (sm_m hs3 (by simp))) (by simp)) ?_ ?_
    · rw [up_m]
      funext i
      unfold clM
      by_cases q0 : i = 0
      · rw [if_pos q0, if_pos q0]
      · rw [if_neg q0, if_neg q0, h3]
        by_cases q6 : i = 6
        · rw [if_pos q6, if_neg (by omega), h2, if_pos q6]
        · rw [if_neg q6, f8]
          by_cases q8 : i = 8
          · rw [if_pos q8, if_pos q8]
          · rw [if_neg q8, if_neg q8, h2, if_neg q6]
    · rw [f8] at h4
      intro i w i0 i1 w0 w1
      rw [up_c (by decide), h4 i w i0 i1 w0 w1, hs2 18 (by decide)]
      have : enM (s2 16) v w = enM (σ 16) v w := by unfold enM; rw [f0 0 (by omega), f0 1 (by omega), f0 2 (by omega), f0 3 (by omega)]
      rw [this]
  refine g_Scale_close_4 ?_
  rw [e16, hs 3 (by decide), hs 4 (by decide)]
  refine ci (fun c => cf (by omega) (ct h1 (ct (by omega) (fin _ (sm_u (sm_m hs (by simp)) (by simp)) (fun i => ?_))))) (fun c => fin _ (sm_m hs (by simp)) (fun i => ?_))
  · rw [up_e, e16]; unfold ilM; rw [if_pos c]
  · rw [e16]; unfold ilM; rw [if_neg c]
    by_cases q : i = 6
    · rw [if_pos q, q]
    · rw [if_neg q]
end
