noncomputable section
/-! lightest, passing, orderless, sticking -/
theorem r_endP {d : Nat} {γ σ : Sg} {T : TT} {tx : Int → TA} {P : Int → AM → Prop} {h st : Int} {p : List Nat} (ht : Td γ σ T tx) (hl : Ln γ σ) (h0 : 0 ≤ h) (h1 : h < γ 3 0) (hst : 0 ≤ st ∧ st ≤ 99) (n7 : (RW γ h).length ≤ 7) (hn : σ 70 23 = (RW γ h).length) (hp : OKp (RW γ h).length p) (ha : Ar (σ 78) (p.map (ow γ h))) (k : ∀ s m, Fm [76, 77] σ s → RM s m → SK (γ 3 0) m → m 0 = h → m 2 = vO γ tx st h p → P (vO γ tx st h p) (mk s T)) : wpI (d + 8) 268 0 [aR 70, aI h, aI st, aU] [] (mk σ T) P :=
  r_endOf ht hl h0 h1 hst (by rw [List.length_map, hp.1]; exact hn) ha (ow_m ht h hp.2.1) (ow_nd ht h hp.2.1 hp.2.2) (by rw [List.length_map, hp.1]; omega) (fun s m f r sk m0 _ _ _ _ m2 => k s m f r sk m0 m2)
theorem rw_ow (g : Sg) (h : Int) : (List.range (RW g h).length).map (ow g h) = RW g h := by
  refine List.ext_getElem (by simp) (fun i h1 h2 => ?_)
  rw [List.getElem_map, List.getElem_range]
  exact getD_e h2
theorem fz_n {σ s s' : Sg} (f : Fm [76, 77] s s') (e : s 70 23 = σ 70 23) : s' 70 23 = σ 70 23 := by rw [f.1 70 (by decide) (by decide)]; exact e
set_option maxRecDepth 20000 in
theorem r_lightLoop {d : Nat} {γ σ : Sg} {T : TT} {tx : Int → TA} {P : Int → AM → Prop} {h y z : Int} (ht : Td γ σ T tx) (hl : Ln γ σ) (h0 : 0 ≤ h) (h1 : h < γ 3 0) (n7 : (RW γ h).length ≤ 7) : ∀ (r : List (List Nat)) (p : List Nat) (b : Int × List Nat) (s : Sg) (l5 : AV), Chn (RW γ h).length p r → (∀ q ∈ p :: r, OKp (RW γ h).length q) → Fz σ s → s 70 23 = (RW γ h).length → Ar (s 78) (p.map (ow γ h)) → Ar (s 80) (b.2.map (ow γ h)) → (∀ q ∈ p :: r, q.length = (RW γ h).length) → (∀ s', Fz σ s' → s' 70 23 = (RW γ h).length → Ar (s' 80) ((bestF (decide (y ≠ 0)) (vO γ tx (γ 3 11) h) b r).2.map (ow γ h)) → wpV (d + 9) 272 0 [aR 70, aU] [] (mk s' T) (fun M' => wpI (d + 9 + 1) 265 104 [aR 70, aI h, aI y, aI z, aI (bestF (decide (y ≠ 0)) (vO γ tx (γ 3 11) h) b r).1, aU] [] M' P)) → wpI (d + 10) 265 45 [aR 70, aI h, aI y, aI z, aI b.1, l5] [] (mk s T) P := by
  have hst := ht.1.1.2.2.2.1
  intro r
  induction r with
  | nil =>
    intro p b s l5 hc hok hf hn ha hb hlen k
    have hc : nxt (RW γ h).length p = none := hc
    refine g_Mo_lightest_45 (r_nextRow (d := d + 8) ht n7 hn (hok p List.mem_cons_self) ha (fun _ => g_Mo_lightest_49 (ct rfl (k s hf hn hb))) (fun q e => by rw [hc] at e; exact absurd e (by simp)))
  | cons q0 r ih =>
    intro p b s l5 hc hok hf hn ha hb hlen k
    obtain ⟨hc1, hc2⟩ := hc
    refine g_Mo_lightest_45 (r_nextRow (d := d + 8) ht n7 hn (hok p List.mem_cons_self) ha (fun e => by rw [hc1] at e; exact absurd e (by simp)) (fun q e s1 e1 a1 => g_Mo_lightest_49 (cf (by omega) ?_)))
    rw [hc1] at e
    have e : q0 = q := by simpa using e
    subst e
    have f1 := fz_t hf (fz_s e1 (by decide))
    have hokq := hok q0 (List.mem_cons_of_mem _ List.mem_cons_self)
    rw [show s1 71 3 = γ 3 11 from by rw [f1.2.2 3 (by omega)]; exact hst.2.2]
    refine r_endP (d := d + 1) (fz_td ht f1) (fz_ln hl f1) h0 h1 ⟨hst.1, hst.2.1⟩ n7 (by rw [e1 70 (by decide)]; exact hn) hokq a1 (fun s2 m f2 _ _ _ _ => ?_)
    have f2' := fz_t f1 (fz_m f2)
    have n2 : s2 70 23 = (RW γ h).length := by rw [f2.1 70 (by decide) (by decide), e1 70 (by decide)]; exact hn
    have a2 : Ar (s2 78) (q0.map (ow γ h)) := by rw [f2.1 78 (by decide) (by decide)]; exact a1
    have b2 : Ar (s2 80) (b.2.map (ow γ h)) := by rw [f2.1 80 (by decide) (by decide), e1 80 (by decide)]; exact hb
    have take_ : btr (decide (y ≠ 0)) (vO γ tx (γ 3 11) h q0) b.1 = true → wpV (d + 9) 269 0 [aR 70, aU] [] (mk s2 T) (fun M' => wpI (d + 9 + 1) 265 97 [aR 70, aI h, aI y, aI z, aI (vO γ tx (γ 3 11) h q0), aI (vO γ tx (γ 3 11) h q0)] [] M' P) := by
      intro hb'
      refine r_takeRow (L := q0.map (ow γ h)) (by rw [List.length_map, hokq.1]; exact n2) (by rw [List.length_map, hokq.1]; omega) a2 (fun s3 e3 a3 => g_Mo_lightest_97 ?_)
      refine ih q0 (vO γ tx (γ 3 11) h q0, q0) s3 _ hc2 (fun q hq => hok q (List.mem_cons_of_mem _ hq)) (fz_t f2' (fz_s e3 (by decide))) (by rw [e3 70 (by decide)]; exact n2) (by rw [e3 78 (by decide)]; exact a2) a3 (fun q hq => hlen q (List.mem_cons_of_mem _ hq)) (fun s' f' n' a' => ?_)
      have := k s' f' n'
      unfold bestF at this
      rw [if_pos hb'] at this
      exact this a'
    have keep_ : btr (decide (y ≠ 0)) (vO γ tx (γ 3 11) h q0) b.1 = false → ∀ l5, wpI (d + 10) 265 45 [aR 70, aI h, aI y, aI z, aI b.1, l5] [] (mk s2 T) P := by
      intro hb' l5
      refine ih q0 b s2 _ hc2 (fun q hq => hok q (List.mem_cons_of_mem _ hq)) f2' n2 a2 b2 (fun q hq => hlen q (List.mem_cons_of_mem _ hq)) (fun s' f' n' a' => ?_)
      have := k s' f' n'
      unfold bestF at this
      rw [if_neg (by rw [hb']; decide)] at this
      exact this a'
    refine g_Mo_lightest_63 (ci (fun c => ?_) (fun c => ?_))
    · have hv : decide (y ≠ 0) = false := decide_eq_false (fun q => q c)
      exact ci (fun c2 => take_ (by rw [hv]; exact decide_eq_true c2)) (fun c2 => keep_ (by rw [hv]; exact decide_eq_false c2) _)
    · have hv : decide (y ≠ 0) = true := decide_eq_true c
      exact ci (fun c2 => take_ (by rw [hv]; exact decide_eq_true c2)) (fun c2 => keep_ (by rw [hv]; exact decide_eq_false c2) _)
theorem ln_of {g h : Sg} {T : TT} {tx : Int → TA} {B : Int} (hr : Rl g h T tx B) : Ln g h := fun i i0 i1 => by
  have hl := hr.2.2.2.1.2.2.2.2.2.1
  exact ⟨(hl i i0 i1).1, (hl i i0 i1).2.1, (hl i i0 i1).2.2.1⟩
theorem rsc_t {a b c : Sg} (h : Rsc a b) (k : Rsc b c) : Rsc a c := ⟨fun x h1 h2 => by rw [k.1 x h1 h2, h.1 x h1 h2], fun i i0 i1 => by rw [k.2 i i0 i1, h.2 i i0 i1]⟩
set_option maxRecDepth 20000 in
theorem o_lightest {e : Nat} {g : Sg} {T : TT} {tx : Int → TA} {B x y z : Int} : Op (e + 60) 30 [aR 2, aI x, aI y, aI z] 265 [aR 70, aI x, aI y, aI z, aU, aU] g T tx B := by
  refine op_l (fun h hr => ?_)
  have hst := hr.1.1.1.2.2.2.1
  refine g_Af_lightest_0 (c_canOrder (d := e + 58) hr.1 (fun h0 h1 n7 => ?_) (fun no => ?_))
  · have hl := ln_of hr
    refine g_Af_lightest_8 (cf (by omega) (c_searchOrders (d := e + 45) hr.1 (fun i i0 i1 => ⟨(hl i i0 i1).1, (hl i i0 i1).2.1⟩) (sm_r _ _) h0 h1 hst.1 n7 (fun s hs h5 hn => ?_)))
    obtain ⟨r0, er, hch, hok⟩ := all_n n7
    rw [er] at hn
    obtain ⟨⟨_, ⟨m1, m2⟩, ⟨m3, m4⟩⟩, _⟩ := hn
    have lens : ∀ hv, (bestF hv (vO g tx (g 3 11) x) (vO g tx (g 3 11) x (List.range (RW g x).length), List.range (RW g x).length) r0).2.length = (RW g x).length := by
      intro hv
      rcases best_m hv (vO g tx (g 3 11) x) r0 (vO g tx (g 3 11) x (List.range (RW g x).length), List.range (RW g x).length) with q | q
      · rw [q]; simp
      · exact (hok _ (List.mem_cons_of_mem _ q)).1
    -- what the class says
    have cls : ∀ (v : Int), (z < -1 → v = -100000) → (z = -1 → v = (bestF (decide (y ≠ 0)) (vO g tx (g 3 11) x) (vO g tx (g 3 11) x (List.range (RW g x).length), List.range (RW g x).length) r0).1) → (0 ≤ z → z < (RW g x).length → v = ((bestF (decide (y ≠ 0)) (vO g tx (g 3 11) x) (vO g tx (g 3 11) x (List.range (RW g x).length), List.range (RW g x).length) r0).2.map (ow g x)).getD z.toNat 0) → ((RW g x).length ≤ z → v = -100000) → Lf (e + 60) 265 [aR 70, aI x, aI y, aI z, aU, aU] g T tx B v (mk s T) := by
      intro v v1 v2 v3 v4
      refine lf_s hs (by decide) (fun h hr Q q => g_Mo_lightest_0 (r_isFew (d := e + 57) hr.1 (fun _ _ _ => g_Mo_lightest_7 (cf (by omega) ?_)) (fun no => absurd ⟨h0, h1, by omega⟩ no)))
      refine ci (fun c => ?_) (fun c => ?_)
      · rw [v1 c] at q; exact q h ⟨fun _ _ _ => rfl, fun _ _ _ => rfl⟩
      · refine r_setAside (fun s1 e1 a1 => g_Mo_lightest_23 ?_)
        have t1 : Td g s1 T tx := td_s hr.1 e1 (by decide) (by decide)
        have l1 : Ln g s1 := fun i i0 i1 => by rw [e1 71 (by decide)]; exact ln_of hr i i0 i1
        refine r_layRow t1 (fun s2 e2 b2 c2 d2 => g_Mo_lightest_28 ?_)
        have f2 := fz_rw e2 b2
        rw [show s2 71 3 = g 3 11 from by rw [f2.2.2 3 (by omega), e1 71 (by decide)]; exact hr.1.1.1.2.2.2.1.2.2]
        have ok0 := hok _ List.mem_cons_self
        rw [← rw_ow g x] at d2
        refine r_endP (d := e + 51) (fz_td t1 f2) (fz_ln l1 f2) h0 h1 ⟨hst.1, hst.2.1⟩ n7 c2 ok0 d2 (fun s3 m f3 _ _ _ _ => g_Mo_lightest_39 ?_)
        have f3' := fz_t f2 (fz_m f3)
        have n3 : s3 70 23 = (RW g x).length := by rw [f3.1 70 (by decide) (by decide)]; exact c2
        have a3 : Ar (s3 78) ((List.range (RW g x).length).map (ow g x)) := by rw [f3.1 78 (by decide) (by decide)]; exact d2
        refine r_takeRow (L := (List.range (RW g x).length).map (ow g x)) (by simp; exact n3) (by simp; omega) a3 (fun s4 e4 a4 => ?_)
        refine r_lightLoop (d := e + 50) (tx := tx) t1 l1 h0 h1 n7 r0 (List.range (RW g x).length) (vO g tx (g 3 11) x (List.range (RW g x).length), List.range (RW g x).length) s4 _ hch hok (fz_t f3' (fz_s e4 (by decide))) (by rw [e4 70 (by decide)]; exact n3) (by rw [e4 78 (by decide)]; exact a3) a4 (fun q hq => (hok q hq).1) (fun s5 f5 n5 a5 => r_putBack (fun s6 e6 a6 b6 => g_Mo_lightest_104 ?_))
        have rs := fz_rsc e1 a1 f5 e6 a6 b6
        have fin := q s6 rs
        rw [e6 70 (by decide), n5, e6 80 (by decide)]
        refine ci (fun c3 => by rw [v2 c3] at fin; exact fin) (fun c3 => ci (fun c4 => ct (by omega) ?_) (fun c4 => by rw [v4 (by omega)] at fin; exact fin))
        rw [v3 (by omega) c4] at fin
        rw [ar_i a5 (by omega) (by rw [List.length_map, lens]; exact c4)]
        exact fin
    refine g_Af_lightest_29 ?_
    rw [h5]
    by_cases c : y = 0
    · have hv : decide (y ≠ 0) = false := decide_eq_false (fun q => q c)
      rw [hv] at cls
      refine ci (fun c1 => ct c (cls _ (fun _ => by omega) (fun _ => m1) (fun _ => by omega) (fun _ => by omega))) (fun c1 => ci (fun c2 => cls _ (fun _ => rfl) (fun _ => by omega) (fun _ => by omega) (fun _ => by omega)) (fun c2 => ci (fun c3 => ct c (ct (by omega) (cls _ (fun _ => by omega) (fun _ => by omega) (fun _ _ => ?_) (fun _ => by omega)))) (fun c3 => cls _ (fun _ => by omega) (fun _ => by omega) (fun _ _ => by omega) (fun _ => rfl))))
      exact ar_i m2 (by omega) (by rw [List.length_map, lens]; exact c3)
    · have hv : decide (y ≠ 0) = true := decide_eq_true c
      rw [hv] at cls
      refine ci (fun c1 => cf c (cls _ (fun _ => by omega) (fun _ => m3) (fun _ => by omega) (fun _ => by omega))) (fun c1 => ci (fun c2 => cls _ (fun _ => rfl) (fun _ => by omega) (fun _ => by omega) (fun _ => by omega)) (fun c2 => ci (fun c3 => cf c (ct (by omega) (cls _ (fun _ => by omega) (fun _ => by omega) (fun _ _ => ?_) (fun _ => by omega)))) (fun c3 => cls _ (fun _ => by omega) (fun _ => by omega) (fun _ _ => by omega) (fun _ => rfl))))
      exact ar_i m4 (by omega) (by rw [List.length_map, lens]; exact c3)
  · refine g_Af_lightest_8 (ct rfl (lf_n (fun h hr Q q => g_Mo_lightest_0 (r_isFew (d := e + 57) hr.1 (fun a b c => absurd ⟨a, b, by omega⟩ no) (fun _ => g_Mo_lightest_7 (ct rfl q))))))
end
