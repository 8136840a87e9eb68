noncomputable section
set_option maxRecDepth 20000 in
theorem r_passLoop {d : Nat} {γ σ : Sg} {T : TT} {tx : Int → TA} {P : Int → AM → Prop} {h z : Int} (ht : Td γ σ T tx) (hl : Ln γ σ) (h0 : 0 ≤ h) (h1 : h < γ 3 0) (n7 : (RW γ h).length ≤ 7) : ∀ (r : List (List Nat)) (p : List Nat) (s : Sg) (l5 : AV), Chn (RW γ h).length p r → (∀ q ∈ p :: r, OKp (RW γ h).length q) → Fz σ s → s 70 23 = (RW γ h).length → Ar (s 78) (p.map (ow γ h)) → ((p :: r).find? (lgt γ tx (γ 3 11) h) = none → ∀ s', Fz σ s' → s' 70 23 = (RW γ h).length → wpV (d + 9) 272 0 [aR 70, aU] [] (mk s' T) (fun M' => wpI (d + 9 + 1) 273 107 [aR 70, aI h, aI z, aI 0, aI 0, aU] [] M' P)) → (∀ q, (p :: r).find? (lgt γ tx (γ 3 11) h) = some q → ∀ s', Fz σ s' → s' 70 23 = (RW γ h).length → Ar (s' 78) (q.map (ow γ h)) → wpV (d + 9) 272 0 [aR 70, aU] [] (mk s' T) (fun M' => wpI (d + 9 + 1) 273 107 [aR 70, aI h, aI z, aI 0, aI 1, aU] [] M' P)) → wpI (d + 10) 273 32 [aR 70, aI h, aI z, aI 1, aI 0, l5] [] (mk s T) P := by
  have hst := ht.1.1.2.2.2.1
  have hn0 := ht.1.1.1
  have hfe := ht.1.2.1 h h0 h1
  intro r
  induction r with
  | nil =>
    intro p s l5 hc hok hf hn ha kn ks
    have hc : nxt (RW γ h).length p = none := hc
    have hokp := hok p List.mem_cons_self
    refine g_Mo_passing_32 (cf (by omega) (ct rfl ?_))
    rw [show s 71 3 = γ 3 11 from by rw [hf.2.2 3 (by omega)]; exact hst.2.2]
    refine r_endP (d := d + 1) (fz_td ht hf) (fz_ln hl hf) h0 h1 ⟨hst.1, hst.2.1⟩ n7 hn hokp ha (fun s1 m f1 r1 sk m0 m2 => g_Mo_passing_52 ?_)
    have f1' := fz_t hf (fz_m f1)
    refine r_verdict (d := d + 3) (fz_td ht f1') r1 sk.1.1 sk.1.2 (fun s2 e2 => g_Mo_passing_58 ?_)
    have f2' := fz_t f1' (fz_s e2 (by decide))
    have n2 : s2 70 23 = (RW γ h).length := by rw [e2 70 (by decide), f1.1 70 (by decide) (by decide)]; exact hn
    have a2 : Ar (s2 78) (p.map (ow γ h)) := by rw [e2 78 (by decide), f1.1 78 (by decide) (by decide)]; exact ha
    rw [m0, m2, w32_id (x := 12 + h) (by omega) (by omega), f2'.2.2 (12 + h) (by omega), hfe.2.2]
    have nx_ : lgt γ tx (γ 3 11) h p = false → wpI (d + 9) 270 0 [aR 70, aU, aU, aU, aU] [] (mk s2 T) (fun r M' => wpI (d + 9 + 1) 273 91 [aR 70, aI h, aI z, aI 1, aI 0, aI (vO γ tx (γ 3 11) h p)] [aI r] M' P) := by
      intro hlg
      refine r_nextRow (d := d + 8) ht n7 n2 hokp a2 (fun _ => g_Mo_passing_91 (ct rfl (g_Mo_passing_32 (ct rfl (kn (by simp [List.find?, hlg]) s2 f2' n2))))) (fun q e => by rw [hc] at e; exact absurd e (by simp))
    refine ci (fun c => ct (by omega) (ci (fun c2 => nx_ (by simp [lgt, c2])) (fun c2 => g_Mo_passing_32 (ct rfl (ks p (by simp [List.find?, lgt, c2]) s2 f2' n2 a2))))) (fun c => nx_ ?_)
    simp only [lgt]; exact decide_eq_false (fun q => c (vd_p.mpr q))
  | cons q0 r ih =>
    intro p s l5 hc hok hf hn ha kn ks
    obtain ⟨hc1, hc2⟩ := hc
    have hokp := hok p List.mem_cons_self
    refine g_Mo_passing_32 (cf (by omega) (ct rfl ?_))
    rw [show s 71 3 = γ 3 11 from by rw [hf.2.2 3 (by omega)]; exact hst.2.2]
    refine r_endP (d := d + 1) (fz_td ht hf) (fz_ln hl hf) h0 h1 ⟨hst.1, hst.2.1⟩ n7 hn hokp ha (fun s1 m f1 r1 sk m0 m2 => g_Mo_passing_52 ?_)
    have f1' := fz_t hf (fz_m f1)
    refine r_verdict (d := d + 3) (fz_td ht f1') r1 sk.1.1 sk.1.2 (fun s2 e2 => g_Mo_passing_58 ?_)
    have f2' := fz_t f1' (fz_s e2 (by decide))
    have n2 : s2 70 23 = (RW γ h).length := by rw [e2 70 (by decide), f1.1 70 (by decide) (by decide)]; exact hn
    have a2 : Ar (s2 78) (p.map (ow γ h)) := by rw [e2 78 (by decide), f1.1 78 (by decide) (by decide)]; exact ha
    rw [m0, m2, w32_id (x := 12 + h) (by omega) (by omega), f2'.2.2 (12 + h) (by omega), hfe.2.2]
    have nx_ : lgt γ tx (γ 3 11) h p = false → wpI (d + 9) 270 0 [aR 70, aU, aU, aU, aU] [] (mk s2 T) (fun r M' => wpI (d + 9 + 1) 273 91 [aR 70, aI h, aI z, aI 1, aI 0, aI (vO γ tx (γ 3 11) h p)] [aI r] M' P) := by
      intro hlg
      refine r_nextRow (d := d + 8) ht n7 n2 hokp a2 (fun e => by rw [hc1] at e; exact absurd e (by simp)) (fun q e s3 e3 a3 => g_Mo_passing_91 (cf (by omega) ?_))
      rw [hc1] at e
      have e : q0 = q := by simpa using e
      subst e
      refine ih q0 s3 _ hc2 (fun q hq => hok q (List.mem_cons_of_mem _ hq)) (fz_t f2' (fz_s e3 (by decide))) (by rw [e3 70 (by decide)]; exact n2) a3 (fun hx => kn ?_) (fun q hx => ks q ?_)
      · rw [List.find?_cons, hlg]; exact hx
      · rw [List.find?_cons, hlg]; exact hx
    refine ci (fun c => ct (by omega) (ci (fun c2 => nx_ (by simp [lgt, c2])) (fun c2 => g_Mo_passing_32 (ct rfl (ks p (by simp [List.find?, lgt, c2]) s2 f2' n2 a2))))) (fun c => nx_ ?_)
    simp only [lgt]; exact decide_eq_false (fun q => c (vd_p.mpr q))
set_option maxRecDepth 20000 in
theorem o_passing {e : Nat} {g : Sg} {T : TT} {tx : Int → TA} {B x z : Int} : Op (e + 60) 31 [aR 2, aI x, aI z] 273 [aR 70, aI x, aI z, aU, aU, aU] g T tx B := by
  refine op_l (fun h hr => ?_)
  have hst := hr.1.1.1.2.2.2.1
  refine g_Af_passing_0 (c_canOrder (d := e + 58) hr.1 (fun h0 h1 n7 => ?_) (fun no => ?_))
  · have hl := ln_of hr
    refine g_Af_passing_8 (cf (by omega) (c_searchOrders (d := e + 45) hr.1 (fun i i0 i1 => ⟨(hl i i0 i1).1, (hl i i0 i1).2.1⟩) (sm_r _ _) h0 h1 hst.1 n7 (fun s hs h5 hn => ?_)))
    obtain ⟨r0, er, hch, hok⟩ := all_n n7
    rw [er] at hn
    obtain ⟨_, np⟩ := hn
    have cls : ∀ (v : Int), (z < -1 → v = -2) → (z = -1 → v = if (List.range (RW g x).length :: r0).find? (lgt g tx (g 3 11) x) = none then 0 else 1) → (-1 < z → (List.range (RW g x).length :: r0).find? (lgt g tx (g 3 11) x) = none → v = -2) → (∀ q, (List.range (RW g x).length :: r0).find? (lgt g tx (g 3 11) x) = some q → 0 ≤ z → z < (RW g x).length → v = (q.map (ow g x)).getD z.toNat 0) → ((RW g x).length ≤ z → v = -2) → Lf (e + 60) 273 [aR 70, aI x, aI z, aU, aU, aU] g T tx B v (mk s T) := by
      intro v v1 v2 v3 v4 v5
      refine lf_s hs (by decide) (fun h hr Q q => g_Mo_passing_0 (r_isFew (d := e + 57) hr.1 (fun _ _ _ => g_Mo_passing_7 (cf (by omega) ?_)) (fun no => absurd ⟨h0, h1, by omega⟩ no)))
      refine ci (fun c => ?_) (fun c => ?_)
      · rw [v1 c] at q; exact q h ⟨fun _ _ _ => rfl, fun _ _ _ => rfl⟩
      · refine r_setAside (fun s1 e1 a1 => g_Mo_passing_22 ?_)
        have t1 : Td g s1 T tx := td_s hr.1 e1 (by decide) (by decide)
        have l1 : Ln g s1 := fun i i0 i1 => by rw [e1 71 (by decide)]; exact ln_of hr i i0 i1
        refine r_layRow t1 (fun s2 e2 b2 c2 d2 => g_Mo_passing_27 ?_)
        have f2 := fz_rw e2 b2
        rw [← rw_ow g x] at d2
        refine r_passLoop (d := e + 50) (tx := tx) t1 l1 h0 h1 n7 r0 (List.range (RW g x).length) s2 _ hch hok f2 c2 d2 (fun hf s5 f5 n5 => r_putBack (fun s6 e6 a6 b6 => g_Mo_passing_107 ?_)) (fun q0 hf s5 f5 n5 a5 => r_putBack (fun s6 e6 a6 b6 => g_Mo_passing_107 ?_))
        · have fin := q s6 (fz_rsc e1 a1 f5 e6 a6 b6)
          exact ci (fun c3 => ct rfl (by rw [v2 c3, if_pos hf] at fin; exact fin)) (fun c3 => ct rfl (by rw [v3 (by omega) hf] at fin; exact fin))
        · have fin := q s6 (fz_rsc e1 a1 f5 e6 a6 b6)
          have lq : (q0.map (ow g x)).length = (RW g x).length := by rw [List.length_map]; exact (hok q0 (List.mem_of_find?_eq_some hf)).1
          rw [e6 70 (by decide), n5, e6 78 (by decide)]
          refine ci (fun c3 => cf (by omega) (by rw [v2 c3, if_neg (by rw [hf]; simp)] at fin; exact fin)) (fun c3 => cf (by omega) (ci (fun c4 => ct (by omega) ?_) (fun c4 => by rw [v5 (by omega)] at fin; exact fin)))
          rw [v4 q0 hf (by omega) c4] at fin
          rw [ar_i a5 (by omega) (by rw [lq]; exact c4)]
          exact fin
    refine g_Af_passing_29 ?_
    rw [h5]
    unfold NSp at np
    cases hf : (List.range (RW g x).length :: r0).find? (lgt g tx (g 3 11) x) with
    | none =>
      rw [hf] at np cls
      have np : s 44 14 = 0 := np
      refine ci (fun c1 => ct np (cls _ (fun _ => by omega) (fun _ => by rw [if_pos rfl]) (fun _ => by omega) (fun q hq => absurd hq (by simp)) (fun _ => by omega))) (fun c1 => ct np (cls _ (fun _ => rfl) (fun _ => by omega) (fun _ _ => rfl) (fun q hq => absurd hq (by simp)) (fun _ => rfl)))
    | some q =>
      rw [hf] at np cls
      obtain ⟨np1, np2⟩ := np
      have lq : (q.map (ow g x)).length = (RW g x).length := by rw [List.length_map]; exact (hok q (List.mem_of_find?_eq_some hf)).1
      refine ci (fun c1 => cf (by omega) (cls _ (fun _ => by omega) (fun _ => by rw [if_neg (by simp)]) (fun _ => by omega) (fun q hq => by omega) (fun _ => by omega))) (fun c1 => cf (by omega) (ci (fun c2 => cls _ (fun _ => rfl) (fun _ => by omega) (fun _ => by omega) (fun _ _ => by omega) (fun _ => by omega)) (fun c2 => ci (fun c3 => ct (by omega) (cls _ (fun _ => by omega) (fun _ => by omega) (fun _ h => absurd h (by simp)) (fun q' hq _ _ => ?_) (fun _ => by omega))) (fun c3 => cls _ (fun _ => by omega) (fun _ => by omega) (fun _ h => absurd h (by simp)) (fun _ _ _ => by omega) (fun _ => rfl)))))
      have hq : q = q' := by simpa using hq
      rw [← hq]
      exact ar_i np2 (by omega) (by rw [lq]; exact c3)
  · refine g_Af_passing_8 (ct rfl (lf_n (fun h hr Q q => g_Mo_passing_0 (r_isFew (d := e + 57) hr.1 (fun a b c => absurd ⟨a, b, by omega⟩ no) (fun _ => g_Mo_passing_7 (ct rfl q))))))
/-- whether no order matters -/
def OLs (g : Sg) (tx : Int → TA) (st h : Int) (r : List (List Nat)) : Prop := ∀ q ∈ r, vO g tx st h q = vO g tx st h (List.range (RW g h).length)
set_option maxRecDepth 20000 in
theorem r_isOrderless {d : Nat} {γ σ : Sg} {T : TT} {tx : Int → TA} {P : Int → AM → Prop} {h st : Int} {r0 : List (List Nat)} (ht : Td γ σ T tx) (hl : Ln γ σ) (h0 : 0 ≤ h) (h1 : h < γ 3 0) (hst : 0 ≤ st ∧ st ≤ 99) (n7 : (RW γ h).length ≤ 7) (hch : Chn (RW γ h).length (List.range (RW γ h).length) r0) (hok : ∀ p ∈ List.range (RW γ h).length :: r0, OKp (RW γ h).length p) (k1 : OLs γ tx st h r0 → ∀ s, Fz σ s → P 1 (mk s T)) (k0 : ¬ OLs γ tx st h r0 → ∀ s, Fz σ s → P 0 (mk s T)) : wpI (d + 10) 275 0 [aR 70, aI h, aI st, aU, aU] [] (mk σ T) P := by
  refine g_Mo_isOrderless_0 (r_layRow ht (fun s2 e2 b2 c2 d2 => g_Mo_isOrderless_5 ?_))
  have f2 := fz_rw e2 b2
  rw [← rw_ow γ h] at d2
  refine r_endP (d := d + 1) (fz_td ht f2) (fz_ln hl f2) h0 h1 hst n7 c2 (hok _ List.mem_cons_self) d2 (fun s3 m f3 _ _ _ _ => g_Mo_isOrderless_11 ?_)
  have lp : ∀ (r : List (List Nat)) (p : List Nat) (s : Sg), Chn (RW γ h).length p r → (∀ q ∈ p :: r, OKp (RW γ h).length q) → Fz σ s → s 70 23 = (RW γ h).length → Ar (s 78) (p.map (ow γ h)) → (OLs γ tx st h r → OLs γ tx st h r0) → (OLs γ tx st h r0 → OLs γ tx st h r) → wpI (d + 10) 275 15 [aR 70, aI h, aI st, aI (vO γ tx st h (List.range (RW γ h).length)), aI 1] [] (mk s T) P := by
    intro r
    induction r with
    | nil =>
      intro p s hc hok hf hn ha e1 e2
      have hc : nxt (RW γ h).length p = none := hc
      refine g_Mo_isOrderless_15 (cf (by omega) (r_nextRow (d := d + 8) ht n7 hn (hok p List.mem_cons_self) ha (fun _ => g_Mo_isOrderless_24 (ct rfl (ct (by omega) (k1 (e1 (fun q hq => absurd hq List.not_mem_nil)) s hf)))) (fun q e => by rw [hc] at e; exact absurd e (by simp))))
    | cons q0 r ih =>
      intro p s hc hok hf hn ha e1 e2
      obtain ⟨hc1, hc2⟩ := hc
      refine g_Mo_isOrderless_15 (cf (by omega) (r_nextRow (d := d + 8) ht n7 hn (hok p List.mem_cons_self) ha (fun e => by rw [hc1] at e; exact absurd e (by simp)) (fun q e s4 e4 a4 => g_Mo_isOrderless_24 (cf (by omega) ?_))))
      rw [hc1] at e
      have e : q0 = q := by simpa using e
      subst e
      have f4 := fz_t hf (fz_s e4 (by decide))
      refine r_endP (d := d + 1) (fz_td ht f4) (fz_ln hl f4) h0 h1 hst n7 (by rw [e4 70 (by decide)]; exact hn) (hok q0 (List.mem_cons_of_mem _ List.mem_cons_self)) a4 (fun s5 m f5 _ _ _ _ => g_Mo_isOrderless_33 ?_)
      have f5' := fz_t f4 (fz_m f5)
      refine ci (fun c => ?_) (fun c => ?_)
      · refine ih q0 s5 hc2 (fun q hq => hok q (List.mem_cons_of_mem _ hq)) f5' (by rw [f5.1 70 (by decide) (by decide), e4 70 (by decide)]; exact hn) (by rw [f5.1 78 (by decide) (by decide)]; exact a4) (fun q => e1 (fun z hz => ?_)) (fun q z hz => e2 q z (List.mem_cons_of_mem _ hz))
        rcases List.mem_cons.mp hz with rfl | hz
        · exact c
        · exact q z hz
      · exact g_Mo_isOrderless_15 (ct rfl (ct (by omega) (k0 (fun q => c (e2 q q0 List.mem_cons_self)) s5 f5')))
  exact lp r0 (List.range (RW γ h).length) s3 hch hok (fz_t f2 (fz_m f3)) (by rw [f3.1 70 (by decide) (by decide)]; exact c2) (by rw [f3.1 78 (by decide) (by decide)]; exact d2) id id
set_option maxRecDepth 20000 in
theorem o_orderless {e : Nat} {g : Sg} {T : TT} {tx : Int → TA} {B x : Int} : Op (e + 60) 32 [aR 2, aI x] 274 [aR 70, aI x, aU] g T tx B := by
  refine op_l (fun h hr => ?_)
  have hst := hr.1.1.1.2.2.2.1
  refine g_Af_orderless_0 (c_canOrder (d := e + 58) hr.1 (fun h0 h1 n7 => ?_) (fun no => ?_))
  · have hl := ln_of hr
    refine g_Af_orderless_8 (cf (by omega) (c_searchOrders (d := e + 45) hr.1 (fun i i0 i1 => ⟨(hl i i0 i1).1, (hl i i0 i1).2.1⟩) (sm_r _ _) h0 h1 hst.1 n7 (fun s hs h5 hn => ?_)))
    obtain ⟨r0, er, hch, hok⟩ := all_n n7
    rw [er] at hn
    obtain ⟨⟨_, ⟨m1, m2⟩, ⟨m3, m4⟩⟩, _⟩ := hn
    have be := best_eq (vO g tx (g 3 11) x) (List.range (RW g x).length) r0
    have cls : ∀ v : Int, (OLs g tx (g 3 11) x r0 → v = 1) → (¬ OLs g tx (g 3 11) x r0 → v = 0) → Lf (e + 60) 274 [aR 70, aI x, aU] g T tx B v (mk s T) := by
      intro v v1 v0
      refine lf_s hs (by decide) (fun h hr Q q => g_Mo_orderless_0 (r_isFew (d := e + 57) hr.1 (fun _ _ _ => g_Mo_orderless_7 (cf (by omega) ?_)) (fun no => absurd ⟨h0, h1, by omega⟩ no)))
      refine r_setAside (fun s1 e1 a1 => g_Mo_orderless_16 ?_)
      have t1 : Td g s1 T tx := td_s hr.1 e1 (by decide) (by decide)
      have l1 : Ln g s1 := fun i i0 i1 => by rw [e1 71 (by decide)]; exact ln_of hr i i0 i1
      rw [show s1 71 3 = g 3 11 from by rw [e1 71 (by decide)]; exact hr.1.1.1.2.2.2.1.2.2]
      refine r_isOrderless (d := e + 49) t1 l1 h0 h1 ⟨hst.1, hst.2.1⟩ n7 hch hok (fun ol s2 f2 => g_Mo_orderless_27 (r_putBack (fun s6 e6 a6 b6 => g_Mo_orderless_32 (cf (by omega) ?_)))) (fun ol s2 f2 => g_Mo_orderless_27 (r_putBack (fun s6 e6 a6 b6 => g_Mo_orderless_32 (ct rfl ?_))))
      · have fin := q s6 (fz_rsc e1 a1 f2 e6 a6 b6)
        rw [v1 ol] at fin; exact fin
      · have fin := q s6 (fz_rsc e1 a1 f2 e6 a6 b6)
        rw [v0 ol] at fin; exact fin
    refine g_Af_orderless_28 ?_
    rw [m1, m3]
    exact ci (fun c => cls 1 (fun _ => rfl) (fun q => absurd (be.mp c) q)) (fun c => cls 0 (fun q => absurd (be.mpr q) c) (fun _ => rfl))
  · refine g_Af_orderless_8 (ct rfl (lf_n (fun h hr Q q => g_Mo_orderless_0 (r_isFew (d := e + 57) hr.1 (fun a b c => absurd ⟨a, b, by omega⟩ no) (fun _ => g_Mo_orderless_7 (ct rfl q))))))
/-- how much the pan may stick -/
def SRs (O : Int → Prop) (r : Int) : Prop := (∃ i, 0 ≤ i ∧ i < 100 ∧ ¬ O i ∧ (∀ j, 0 ≤ j → j < i → O j) ∧ r = i - 1) ∨ ((∀ j, 0 ≤ j → j < 100 → O j) ∧ r = 99)
theorem srs_u {O : Int → Prop} {r r' : Int} (h : SRs O r) (k : SRs O r') : r = r' := by
  rcases h with ⟨i, i0, i1, i2, i3, rfl⟩ | ⟨h1, rfl⟩ <;> rcases k with ⟨j, j0, j1, j2, j3, rfl⟩ | ⟨k1, rfl⟩
  · rcases Int.lt_trichotomy i j with c | c | c
    · exact absurd (j3 i i0 c) i2
    · omega
    · exact absurd (i3 j j0 c) j2
  · exact absurd (k1 i i0 i1) i2
  · exact absurd (h1 j j0 j1) j2
  · rfl
set_option maxRecDepth 20000 in
theorem o_sticking {e : Nat} {g : Sg} {T : TT} {tx : Int → TA} {B x : Int} : Op (e + 60) 33 [aR 2, aI x] 276 [aR 70, aI x, aU] g T tx B := by
  refine op_l (fun h hr => ?_)
  have hd := hr.1.1.1.2.1
  have r5 : ∀ (h : Sg), Rl g h T tx B → ∀ Q : Int → AM → Prop, (¬ (0 ≤ x ∧ x < g 3 0 ∧ (RW g x).length ≤ 5) ∨ (rA g tx).1 1 ≠ [] → Q (-1) (mk h T)) → (0 ≤ x → x < g 3 0 → (RW g x).length ≤ 5 → (rA g tx).1 1 = [] → wpV (e + 59) 267 0 [aR 70, aU] [] (mk h T) (fun M' => wpI (e + 59 + 1) 276 30 [aR 70, aI x, aU] [] M' Q)) → wpI (e + 60) 276 0 [aR 70, aI x, aU] [] (mk h T) Q := by
    intro h hr Q q1 q2
    refine g_Mo_sticking_0 (r_isFew (d := e + 57) hr.1 (fun h0 h1 h5 => g_Mo_sticking_6 (cf (by omega) ?_)) (fun no => g_Mo_sticking_6 (ct rfl (q1 (Or.inl (fun q => no ⟨q.1, q.2.1, by have := q.2.2; omega⟩))))))
    rcases rr_x hr.1 1 with ⟨t0, ec⟩ | ⟨t0, t4, A, hA, hf, ec⟩
    · exact g_Mo_clauseOf_0 (g_Mo_clauseOf_2 (ct t0 (g_Mo_sticking_21 (ct (by omega) (q2 h0 h1 (by omega) ec)))))
    · refine c_clauseOf t0 t4 hA (by omega) (by omega) (fun e0 => g_Mo_sticking_21 (ct (by omega) (q2 h0 h1 (by omega) (by rw [ec]; exact e0)))) (fun n b e1 n0 _ _ _ _ _ _ => g_Mo_sticking_21 (cf (by omega) (q1 (Or.inr (by rw [ec]; exact e1)))))
  have non : (¬ (0 ≤ x ∧ x < g 3 0 ∧ (RW g x).length ≤ 5) ∨ (rA g tx).1 1 ≠ []) → Lf (e + 60) 276 [aR 70, aI x, aU] g T tx B (-1) (mk g T) := fun no => lf_n (fun h hr Q q => r5 h hr Q (fun _ => q) (fun a b c d => by
    rcases no with no | no
    · exact absurd ⟨a, b, c⟩ no
    · exact absurd d no))
  refine g_Af_sticking_0 (c_canOrder (d := e + 58) hr.1 (fun h0 h1 n7 => ?_) (fun no => g_Af_sticking_8 (ct rfl (non (Or.inl (fun q => no ⟨q.1, q.2.1, by have := q.2.2; omega⟩))))))
  refine g_Af_sticking_8 (cf (by omega) (g_Trials_mostStick_0 (c_hasSticks (d := e + 56) hr.1 (fun c => g_Trials_mostStick_7 (cf (by omega) (g_Af_sticking_19 (non (Or.inr c))))) (fun c => g_Trials_mostStick_7 (ct rfl ?_)))))
  have db := dof_b (σ := g) (h := x) hd.1 hd.2.1
  refine c_deedsOf hr.1 (g_Trials_mostStick_18 (c_bitCount db.1 db.2 (g_Trials_mostStick_21 ?_)))
  rw [bc_dl hr.1 x]
  refine ci (fun c5 => g_Af_sticking_19 (non (Or.inl (by omega)))) (fun c5 => ?_)
  have hl := ln_of hr
  obtain ⟨r0, er, hch, hok⟩ := all_n n7
  have be : ∀ st, (bestF false (vO g tx st x) (vO g tx st x (List.range (RW g x).length), List.range (RW g x).length) r0).1 = (bestF true (vO g tx st x) (vO g tx st x (List.range (RW g x).length), List.range (RW g x).length) r0).1 ↔ OLs g tx st x r0 := fun st => best_eq (vO g tx st x) (List.range (RW g x).length) r0
  have fin : ∀ (s : Sg) (v : Int), Sm [40, 41, 44, 45, 46, 47, 48, 49, 50] g s → SRs (fun st => OLs g tx st x r0) v → Lf (e + 60) 276 [aR 70, aI x, aU] g T tx B v (mk s T) := by
    intro s v hs hv
    refine lf_s hs (by decide) (fun h hr Q q => r5 h hr Q (fun no => ?_) (fun a b c5 d => ?_))
    · rcases no with no | no
      · exact absurd ⟨h0, h1, by omega⟩ no
      · exact absurd c no
    · refine r_setAside (fun s1 e1 a1 => g_Mo_sticking_30 ?_)
      have t1 : Td g s1 T tx := td_s hr.1 e1 (by decide) (by decide)
      have l1 : Ln g s1 := fun i i0 i1 => by rw [e1 71 (by decide)]; exact ln_of hr i i0 i1
      have done : ∀ (st : Int) (s' : Sg), 0 ≤ st → st ≤ 100 → Fz s1 s' → SRs (fun st => OLs g tx st x r0) (st - 1) → wpV (e + 59) 272 0 [aR 70, aU] [] (mk s' T) (fun M' => wpI (e + 59 + 1) 276 57 [aR 70, aI x, aI st] [] M' Q) := by
        intro st s' st0 st1 f' sr
        refine r_putBack (fun s6 e6 a6 b6 => g_Mo_sticking_57 ?_)
        rw [w32_id (x := st - 1) (by omega) (by omega), ← srs_u hv sr]
        exact q s6 (fz_rsc e1 a1 f' e6 a6 b6)
      have lp : (∀ j, 0 ≤ j → j < (0 : Int) → OLs g tx j x r0) → wpI (e + 60) 276 32 [aR 70, aI x, aI 0] [] (mk s1 T) Q := by
        refine for_up (n := 100) (Hd := fun i s => (∀ j, 0 ≤ j → j < i → OLs g tx j x r0) → wpI (e + 60) 276 32 [aR 70, aI x, aI i] [] (mk s T) Q) (Inv := fun _ s => Fz s1 s) ?_ ?_ (fz_r _) (by omega)
        · intro i s i0 i1 hf ih hO
          refine g_Mo_sticking_32 (ct i1 (r_isOrderless (d := e + 49) (fz_td t1 hf) (fz_ln l1 hf) h0 h1 ⟨i0, by omega⟩ n7 hch hok (fun ol s2 f2 => g_Mo_sticking_44 (cf (by omega) ?_)) (fun ol s2 f2 => g_Mo_sticking_44 (ct rfl (done i s2 i0 (by omega) (fz_t hf f2) (Or.inl ⟨i, i0, i1, ol, hO, rfl⟩))))))
          rw [w32_id (x := i + 1) (by omega) (by omega)]
          refine ih s2 (fz_t hf f2) (fun j j0 j1 => ?_)
          by_cases ej : j = i
          · rw [ej]; exact ol
          · exact hO j j0 (by omega)
        · intro s hf hO
          exact g_Mo_sticking_32 (cf (by omega) (done 100 s (by omega) (by omega) hf (Or.inr ⟨hO, rfl⟩)))
      exact lp (fun j j0 j1 => by omega)
  have lp : (∀ j, 0 ≤ j → j < (0 : Int) → OLs g tx j x r0) → wpI (e + 59) 114 29 [aR 44, aI x, aI 0] [] (mk g T) (fun r M' => wpI (e + 59 + 1) 33 19 [aR 2, aI x] [aI r] M' (Lf (e + 60) 276 [aR 70, aI x, aU] g T tx B)) := by
    refine for_up (n := 100) (Hd := fun i s => (∀ j, 0 ≤ j → j < i → OLs g tx j x r0) → wpI (e + 59) 114 29 [aR 44, aI x, aI i] [] (mk s T) (fun r M' => wpI (e + 59 + 1) 33 19 [aR 2, aI x] [aI r] M' (Lf (e + 60) 276 [aR 70, aI x, aU] g T tx B))) (Inv := fun _ s => Sm [40, 41, 44, 45, 46, 47, 48, 49, 50] g s) ?_ ?_ (sm_r _ _) (by omega)
    · intro i s i0 i1 hs ih hO
      refine g_Trials_mostStick_29 (cf (by omega) (c_searchOrders (d := e + 44) hr.1 (fun i i0 i1 => ⟨(hl i i0 i1).1, (hl i i0 i1).2.1⟩) hs h0 h1 i0 n7 (fun s2 hs2 h5 hn => g_Trials_mostStick_41 ?_)))
      rw [er] at hn
      obtain ⟨⟨_, ⟨m1, m2⟩, ⟨m3, m4⟩⟩, _⟩ := hn
      rw [m1, m3, w32_id (x := i + 1) (by omega) (by omega), w32_id (x := i - 1) (by omega) (by omega)]
      refine ci (fun c6 => ih s2 hs2 (fun j j0 j1 => ?_)) (fun c6 => g_Af_sticking_19 (fin s2 _ hs2 (Or.inl ⟨i, i0, i1, fun q => c6 ((be i).mpr q), hO, rfl⟩)))
      by_cases ej : j = i
      · rw [ej]; exact (be i).mp c6
      · exact hO j j0 (by omega)
    · intro s hs hO
      exact g_Trials_mostStick_29 (ct (by omega) (g_Af_sticking_19 (fin s 99 hs (Or.inr ⟨hO, rfl⟩))))
  exact lp (fun j j0 j1 => by omega)
end
