noncomputable section
theorem o_about {e : Nat} {g : Sg} {T : TT} {tx : Int → TA} {B x : Int} : Op (e + 60) 53 [aR 2, aI x] 307 [aR 70, aI x] g T tx B := by
  refine op_l (fun h hr => ?_)
  have lo : ∀ v : Int, 0 ≤ x → x ≤ 10 → (∀ h, Rl g h T tx B → h 71 x = v) → Lf (e + 60) 307 [aR 70, aI x] g T tx B v (mk g T) := by
    intro v x0 x1 hv
    refine lf_n (fun h hr Q q => g_Mo_about_0 (cf (by omega) (cf (by omega) (ct (by omega) ?_))))
    rw [hv h hr]; exact q
  refine g_Af_about_0 ?_
  refine ci (fun c => lo _ (by omega) (by omega) (fun h hr => by rw [c]; exact hr.1.1.1.1.2.2)) (fun c0 => ?_)
  refine ci (fun c => lo _ (by omega) (by omega) (fun h hr => by rw [c]; exact hr.1.1.1.2.1.2.2)) (fun c1 => ?_)
  refine ci (fun c => lo _ (by omega) (by omega) (fun h hr => by rw [c]; exact hr.1.1.1.2.2.1.2.2)) (fun c2 => ?_)
  refine ci (fun c => lo _ (by omega) (by omega) (fun h hr => by rw [c]; exact hr.1.1.1.2.2.2.1.2.2)) (fun c3 => ?_)
  refine ci (fun c => lo _ (by omega) (by omega) (fun h hr => by rw [c]; exact hr.2.2.2.1.2.2.1.2.2)) (fun c4 => ?_)
  refine ci (fun c => lo _ (by omega) (by omega) (fun h hr => by rw [c]; exact hr.2.2.2.1.2.2.2.1.2.2)) (fun c5 => ?_)
  refine ci (fun c => lo _ (by omega) (by omega) (fun h hr => by rw [c]; exact hr.1.1.1.2.2.2.2.1.2.2)) (fun c6 => ?_)
  refine ci (fun c => lo _ (by omega) (by omega) (fun h hr => by rw [c]; exact hr.1.1.1.2.2.2.2.2.1.2.2)) (fun c7 => ?_)
  refine ci (fun c => lo _ (by omega) (by omega) (fun h hr => by rw [c]; exact hr.2.2.2.2.1.1.2.2)) (fun c8 => ?_)
  refine ci (fun c => lo _ (by omega) (by omega) (fun h hr => by rw [c]; exact hr.1.1.1.2.2.2.2.2.2.1.2.2)) (fun c9 => ?_)
  refine ci (fun c => lo _ (by omega) (by omega) (fun h hr => by rw [c]; exact hr.1.1.1.2.2.2.2.2.2.2.2.2)) (fun c10 => ?_)
  refine ci (fun c => lf_n (fun h hr Q q => ?_)) (fun c11 => lf_n (fun h hr Q q => ?_))
  · refine g_Mo_about_0 (cf (by omega) (ct (by omega) (ct c ?_)))
    rw [hr.2.1.1]; exact q
  · refine g_Mo_about_0 (ci (fun _ => cf c11 q) (fun _ => ct (by omega) (cf c11 q)))
theorem o_scale {e : Nat} {g : Sg} {T : TT} {tx : Int → TA} {B x : Int} : Op (e + 60) 25 [aR 2, aI x] 258 [aR 70, aI x] g T tx B := by
  refine op_l (fun h hr => ?_)
  refine g_Af_scale_0 ?_
  have e0 : ∀ h, Rl g h T tx B → h 71 242 = g 16 0 := fun h hr => hr.2.2.2.1.2.1 0 (by omega) (by omega)
  refine ci (fun c => lf_n (fun h hr Q q => g_Mo_scale_0 ?_)) (fun cn => ?_)
  · rw [e0 h hr]; exact ct c q
  have lo : 0 ≤ x → x ≤ 5 → Lf (e + 60) 258 [aR 70, aI x] g T tx B (g 16 x) (mk g T) := by
    intro x0 x1
    refine lf_n (fun h hr Q q => g_Mo_scale_0 ?_)
    rw [e0 h hr, w32_id (x := 242 + x) (by omega) (by omega), hr.2.2.2.1.2.1 x x0 (by omega)]
    exact cf cn (cf (by omega) (cf (by omega) (ct (by omega) q)))
  refine ci (fun c => by have := lo (by omega) (by omega); rw [c] at this ⊢; exact this) (fun c0 => ?_)
  refine ci (fun c => by have := lo (by omega) (by omega); rw [c] at this ⊢; exact this) (fun c1 => ?_)
  refine ci (fun c => by have := lo (by omega) (by omega); rw [c] at this ⊢; exact this) (fun c2 => ?_)
  refine ci (fun c => by have := lo (by omega) (by omega); rw [c] at this ⊢; exact this) (fun c3 => ?_)
  refine ci (fun c => by have := lo (by omega) (by omega); rw [c] at this ⊢; exact this) (fun c4 => ?_)
  refine ci (fun c => by have := lo (by omega) (by omega); rw [c] at this ⊢; exact this) (fun c5 => ?_)
  refine lf_n (fun h hr Q q => g_Mo_scale_0 ?_)
  rw [e0 h hr]
  exact cf cn (ci (fun _ => q) (fun _ => ct (by omega) q))
theorem o_book {e : Nat} {g : Sg} {T : TT} {tx : Int → TA} {B x y : Int} (hB : B ≤ 1000000) : Op (e + 60) 29 [aR 2, aI x, aI y] 264 [aR 70, aI x, aI y, aU] g T tx B := by
  refine op_l (fun h hr => ?_)
  have hm := hr.2.2.2.1.2.2.2.2.1
  have no : x ≠ -1 → (x < 0 ∨ g 16 8 ≤ x ∨ y < 0 ∨ 5 ≤ y) → Lf (e + 60) 264 [aR 70, aI x, aI y, aU] g T tx B (-100000) (mk g T) := by
    intro hx hy
    refine lf_n (fun h hr Q q => g_Mo_book_0 ?_)
    have hm := hr.2.2.2.1.2.2.2.2.1
    rw [w32_id (x := h 71 11 - 1) (by omega) (by omega), show w32 ((30 : Int) - 1) = 29 from by unfold w32; omega]
    refine ci (fun c => cf hx ?_) (fun c => cf hx ?_)
    · exact ci (fun _ => q) (fun _ => ci (fun _ => q) (fun _ => ci (fun _ => q) (fun _ => ct (by omega) q)))
    · exact ci (fun _ => q) (fun _ => ci (fun _ => q) (fun _ => ci (fun _ => q) (fun _ => ct (by omega) q)))
  refine g_Af_book_0 (ci (fun c => lf_n (fun h hr Q q => g_Mo_book_0 ?_)) (fun c0 => ?_))
  · have hm := hr.2.2.2.1.2.2.2.2.1
    refine ci (fun c1 => ct c ?_) (fun c1 => ct c ?_)
    · rw [hm.2.2, show min (h 71 11) 30 = h 71 11 from by omega] at q; exact q
    · rw [hm.2.2, show min (h 71 11) 30 = 30 from by omega] at q; exact q
  · refine ci (fun c => no c0 (by omega)) (fun c1 => ci (fun c2 => ci (fun c => no c0 (by omega)) (fun c3 => ci (fun c4 => ?_) (fun c => no c0 (by omega)))) (fun c => no c0 (by omega)))
    rw [w32_id (x := x * 5) (by omega) (by omega), w32_id (x := x * 5 + y) (by omega) (by omega)]
    refine ct (by omega) (lf_n (fun h hr Q q => g_Mo_book_0 ?_))
    have hm := hr.2.2.2.1.2.2.2.2.1
    have hp := hr.2.2.2.1.2.2.2.2.2.2 x y (by omega) c2 (by omega) c4
    rw [hp] at q
    rw [w32_id (x := h 71 11 - 1) (by omega) (by omega), show w32 ((30 : Int) - 1) = 29 from by unfold w32; omega, w32_id (x := h 71 11 - h 71 11) (by omega) (by omega), w32_id (x := h 71 11 - h 71 11 + x) (by omega) (by omega), Int.tmod_eq_emod_of_nonneg (a := h 71 11 - h 71 11 + x) (by omega), w32_id (x := 5 * ((h 71 11 - h 71 11 + x) % 768)) (by omega) (by omega), w32_id (x := 1704 + 5 * ((h 71 11 - h 71 11 + x) % 768)) (by omega) (by omega), w32_id (x := 1704 + 5 * ((h 71 11 - h 71 11 + x) % 768) + y) (by omega) (by omega)]
    refine ci (fun c5 => cf c0 (cf (by omega) (cf (by omega) (cf (by omega) (cf (by omega) (ct (by omega) ?_)))))) (fun c5 => ?_)
    · rw [show g 16 8 = h 71 11 from by omega] at q; exact q
    · rw [w32_id (x := h 71 11 - 30) (by omega) (by omega), w32_id (x := h 71 11 - 30 + x) (by omega) (by omega), Int.tmod_eq_emod_of_nonneg (a := h 71 11 - 30 + x) (by omega), w32_id (x := 5 * ((h 71 11 - 30 + x) % 768)) (by omega) (by omega), w32_id (x := 1704 + 5 * ((h 71 11 - 30 + x) % 768)) (by omega) (by omega), w32_id (x := 1704 + 5 * ((h 71 11 - 30 + x) % 768) + y) (by omega) (by omega)]
      refine cf c0 (cf (by omega) (cf (by omega) (cf (by omega) (cf (by omega) (ct (by omega) ?_)))))
      rw [show g 16 8 = 30 from by omega] at q; exact q
theorem o_bond {e : Nat} {g : Sg} {T : TT} {tx : Int → TA} {B x y z : Int} : Op (e + 60) 9 [aR 2, aI x, aI y, aI z] 184 [aR 70, aI x, aI y, aI z] g T tx B := by
  refine op_l (fun h hr => ?_)
  have hn := hr.1.1.1.1
  have no : (x < 0 ∨ g 3 0 ≤ x ∨ y < 0 ∨ g 3 0 ≤ y ∨ x = y ∨ z < 0 ∨ 99 < z) → Lf (e + 60) 184 [aR 70, aI x, aI y, aI z] g T tx B 0 (mk g T) := by
    intro hx
    refine lf_n (fun h hr Q q => g_Mo_bond_0 ?_)
    rw [hr.1.1.1.1.2.2, w32_id (x := g 3 0 - 1) (by omega) (by omega)]
    exact ci (fun _ => q) (fun _ => ci (fun _ => q) (fun _ => ci (fun _ => q) (fun _ => ci (fun _ => q) (fun _ => ci (fun _ => q) (fun _ => ci (fun _ => q) (fun _ => ct (by omega) q))))))
  refine g_Af_bond_0 ?_
  refine ci (fun _ => no (by omega)) (fun _ => ci (fun _ => ci (fun _ => no (by omega)) (fun _ => ci (fun _ => ci (fun _ => no (by omega)) (fun _ => ci (fun _ => no (by omega)) (fun _ => ci (fun _ => no (by omega)) (fun _ => ?_)))) (fun _ => no (by omega)))) (fun _ => no (by omega)))
  rw [w32_id (x := x * 6) (by omega) (by omega), w32_id (x := x * 6 + y) (by omega) (by omega)]
  refine ct (by omega) ?_
  refine lf_c (cls_u (cls_r g) (by omega) (by omega)) (fun h hr Q q => g_Mo_bond_0 ?_)
  rw [hr.1.1.1.1.2.2, w32_id (x := g 3 0 - 1) (by omega) (by omega), w32_id (x := 6 * x) (by omega) (by omega), w32_id (x := 54 + 6 * x) (by omega) (by omega), w32_id (x := 54 + 6 * x + y) (by omega) (by omega)]
  refine cf (by omega) (cf (by omega) (cf (by omega) (cf (by omega) (cf (by omega) (cf (by omega) (cf (by omega) (ct (by omega) (q _ (rfo_u (rfo_r h) (by omega) (by omega)) ?_))))))))
  refine rl_told hr ?_ (by rw [up_c (by decide)]) (by rw [up_c (by decide)]) (up_c (by decide)) (fun a ha => up_c (by omega)) (fun a ha => up_c ha) (fun i hi => up_i (by omega))
  obtain ⟨⟨b1, b2, b3, b4, b5, b6, b7, b8⟩, b9, b10, b11, b12, b13⟩ := hr.1.1
  have ea : ∀ i, i ≠ 54 + 6 * x + y → up h 71 (54 + 6 * x + y) z 71 i = h 71 i := fun i hi => up_i hi
  unfold TO
  simp only [up_c (show (3 : Int) ≠ 12 by decide), up_c (show (4 : Int) ≠ 12 by decide), up_c (show (5 : Int) ≠ 12 by decide), up_c (show (6 : Int) ≠ 12 by decide), up_c (show (7 : Int) ≠ 12 by decide), up_c (show (8 : Int) ≠ 12 by decide), up_c (show (9 : Int) ≠ 12 by decide), up_c (show (10 : Int) ≠ 12 by decide), up_c (show (11 : Int) ≠ 12 by decide), up_c (show (14 : Int) ≠ 12 by decide), up_c (show (15 : Int) ≠ 12 by decide)]
  rw [ea 0 (by omega), ea 1 (by omega), ea 2 (by omega), ea 3 (by omega), ea 6 (by omega), ea 7 (by omega), ea 9 (by omega), ea 10 (by omega)]
  refine ⟨⟨b1, b2, b3, b4, b5, b6, b7, b8⟩, ?_, ?_, ?_, ?_, ?_⟩
  · intro i i0 i1; rw [ea _ (by omega)]; exact b9 i i0 i1
  · intro d d0 d1
    rw [ea (90 + 6 * d + 0) (by omega), ea (90 + 6 * d + 1) (by omega), ea (90 + 6 * d + 2) (by omega), ea (90 + 6 * d + 3) (by omega), ea (90 + 6 * d + 4) (by omega), ea (90 + 6 * d + 5) (by omega)]
    exact b10 d d0 d1
  · intro i i0 i1; rw [ea _ (by omega)]; exact b11 i i0 i1
  · intro i i0 i1
    rw [up_e]
    by_cases q : i = x * 6 + y
    · rw [if_pos q, q, show 54 + (x * 6 + y) = 54 + 6 * x + y from by omega, up_s]; omega
    · rw [if_neg q, ea _ (by omega)]; exact b12 i i0 i1
  · intro i i0 i1; rw [ea _ (by omega), ea _ (by omega)]; exact b13 i i0 i1
theorem o_known {e : Nat} {g : Sg} {T : TT} {tx : Int → TA} {B x y : Int} : Op (e + 60) 39 [aR 2, aI x, aI y] 288 [aR 70, aI x, aI y] g T tx B := by
  refine op_l (fun h hr => ?_)
  have hn := hr.1.1.1.1
  have hk := hr.1.1.1.2.2.2.2.2.2.1
  refine g_Af_known_0 (ci (fun c => ?_) (fun c0 => ?_))
  · exact lf_c (cls_u (cls_r g) (by omega) (by omega)) (fun h hr Q q => g_Mo_known_0 (ct c (q _ (rfo_u (rfo_r h) (by omega) (by omega)) (rl_3 hr (by omega)))))
  have no : (x < 0 ∨ g 3 0 ≤ x ∨ y < -9999 ∨ 9999 < y ∨ g 3 16 = 8) → Lf (e + 60) 288 [aR 70, aI x, aI y] g T tx B (-2) (mk g T) := by
    intro hx
    refine lf_n (fun h hr Q q => g_Mo_known_0 ?_)
    rw [hr.1.1.1.1.2.2, hr.1.1.1.2.2.2.2.2.2.1.2.2, w32_id (x := g 3 0 - 1) (by omega) (by omega)]
    exact cf c0 (ci (fun _ => q) (fun _ => ci (fun _ => q) (fun _ => ci (fun _ => q) (fun _ => ci (fun _ => q) (fun _ => ct (by omega) q)))))
  refine ci (fun _ => no (by omega)) (fun _ => ci (fun _ => ci (fun _ => no (by omega)) (fun _ => ci (fun _ => no (by omega)) (fun _ => ci (fun _ => ?_) (fun _ => no (by omega))))) (fun _ => no (by omega)))
  rw [w32_id (x := g 3 16 + 1) (by omega) (by omega)]
  refine ct (by omega) (ct (by omega) ?_)
  refine lf_c (cls_u (cls_u (cls_u (cls_r g) (by omega) (by omega)) (by omega) (by omega)) (by omega) (by omega)) (fun h hr Q q => g_Mo_known_0 ?_)
  have h9 := hr.1.1.1.2.2.2.2.2.2.1.2.2
  rw [hr.1.1.1.1.2.2, h9, w32_id (x := g 3 0 - 1) (by omega) (by omega), w32_id (x := 2 * g 3 16) (by omega) (by omega), w32_id (x := 248 + 2 * g 3 16) (by omega) (by omega)]
  rw [up_i (σ := h) (a := 71) (i := 248 + 2 * g 3 16) (i' := 9) (by omega), h9, w32_id (x := 2 * g 3 16) (by omega) (by omega), w32_id (x := 248 + 2 * g 3 16) (by omega) (by omega), w32_id (x := 248 + 2 * g 3 16 + 1) (by omega) (by omega)]
  rw [show up (up h 71 (248 + 2 * g 3 16) x) 71 (248 + 2 * g 3 16 + 1) y 71 9 = g 3 16 from by rw [up_i (by omega), up_i (by omega)]; exact h9, w32_id (x := g 3 16 + 1) (by omega) (by omega)]
  refine cf c0 (cf (by omega) (cf (by omega) (cf (by omega) (cf (by omega) (cf (by omega) (ct (by omega) (ct (by omega) (q _ (rfo_u (rfo_u (rfo_u (rfo_r h) (by omega) (by omega)) (by omega) (by omega)) (by omega) (by omega)) ?_))))))))
  refine rl_told hr ?_ (by rw [up_i (by decide), up_c (by decide), up_c (by decide)]) (by rw [up_i (by decide), up_c (by decide), up_c (by decide)]) (by rw [up_c (by decide), up_c (by decide), up_c (by decide)]) (fun a ha => by rw [up_c (by omega), up_c (by omega), up_c (by omega)]) (fun a ha => by rw [up_c ha, up_c ha, up_c ha]) (fun i hi => by rw [up_i (by omega), up_i (by omega), up_i (by omega)])
  obtain ⟨⟨b1, b2, b3, b4, b5, b6, b7, b8⟩, b9, b10, b11, b12, b13⟩ := hr.1.1
  have ea : ∀ i, i ≠ 248 + 2 * g 3 16 → i ≠ 248 + 2 * g 3 16 + 1 → i ≠ 9 → up (up (up h 71 (248 + 2 * g 3 16) x) 71 (248 + 2 * g 3 16 + 1) y) 71 9 (g 3 16 + 1) 71 i = h 71 i := fun i h1 h2 h3 => by rw [up_i h3, up_i h2, up_i h1]
  have e1 : up (up (up h 71 (248 + 2 * g 3 16) x) 71 (248 + 2 * g 3 16 + 1) y) 71 9 (g 3 16 + 1) 71 9 = g 3 16 + 1 := up_s _ _ _ _
  have e2 : up (up (up h 71 (248 + 2 * g 3 16) x) 71 (248 + 2 * g 3 16 + 1) y) 71 9 (g 3 16 + 1) 71 (248 + 2 * g 3 16) = x := by rw [up_i (by omega), up_i (by omega), up_s]
  have e3 : up (up (up h 71 (248 + 2 * g 3 16) x) 71 (248 + 2 * g 3 16 + 1) y) 71 9 (g 3 16 + 1) 71 (248 + 2 * g 3 16 + 1) = y := by rw [up_i (by omega), up_s]
  generalize up (up (up h 71 (248 + 2 * g 3 16) x) 71 (248 + 2 * g 3 16 + 1) y) 71 9 (g 3 16 + 1) = h' at *
  unfold TO
  simp only [up, if_true, if_false, true_and, false_and, Int.reduceEq, and_true]
  rw [ea 0 (by omega) (by omega) (by omega), ea 1 (by omega) (by omega) (by omega), ea 2 (by omega) (by omega) (by omega), ea 3 (by omega) (by omega) (by omega), ea 6 (by omega) (by omega) (by omega), ea 7 (by omega) (by omega) (by omega), e1, ea 10 (by omega) (by omega) (by omega)]
  refine ⟨⟨b1, b2, b3, b4, b5, b6, by omega, b8⟩, ?_, ?_, ?_, ?_, ?_⟩
  · intro i i0 i1; rw [ea _ (by omega) (by omega) (by omega)]; exact b9 i i0 i1
  · intro d d0 d1
    rw [ea (90 + 6 * d + 0) (by omega) (by omega) (by omega), ea (90 + 6 * d + 1) (by omega) (by omega) (by omega), ea (90 + 6 * d + 2) (by omega) (by omega) (by omega), ea (90 + 6 * d + 3) (by omega) (by omega) (by omega), ea (90 + 6 * d + 4) (by omega) (by omega) (by omega), ea (90 + 6 * d + 5) (by omega) (by omega) (by omega)]
    exact b10 d d0 d1
  · intro i i0 i1; rw [ea _ (by omega) (by omega) (by omega)]; exact b11 i i0 i1
  · intro i i0 i1; rw [ea _ (by omega) (by omega) (by omega)]; exact b12 i i0 i1
  · intro i i0 i1
    by_cases q : i = g 3 16
    · rw [if_pos q, if_pos q, q, e2, e3]; omega
    · rw [if_neg q, if_neg q, ea _ (by omega) (by omega) (by omega), ea _ (by omega) (by omega) (by omega)]; exact b13 i i0 (by omega)
end
