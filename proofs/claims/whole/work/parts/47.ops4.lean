noncomputable section
/-! calls that are steps -/
theorem rl_mom {g h g' h' : Sg} {T : TT} {tx : Int → TA} {B : Int} (hr : Rl g h T tx B) (eg : ∀ a, (2 ≤ a ∧ a ≤ 15) ∨ (21 ≤ a ∧ a ≤ 38) ∨ a = 59 ∨ 90 ≤ a → g' a = g a) (eh : ∀ a, 72 ≤ a → a ≤ 74 → h' a = h a) (e70 : ∀ i, 4 ≤ i → i ≤ 6 → h' 70 i = h 70 i) (ea : ∀ i, (0 ≤ i ∧ i < 4) ∨ (6 ≤ i ∧ i < 8) ∨ (9 ≤ i ∧ i < 11) ∨ (12 ≤ i ∧ i < 18) ∨ (54 ≤ i ∧ i < 242) ∨ (248 ≤ i ∧ i < 264) → h' 71 i = h 71 i) (hm : MO (g' 16) (g' 17) (g' 18) (g 3 0) (h' 71) (B + 24)) (ht : TRl (g' 19) (g' 20) (h' 71) (g 3 0) (B + 24) 0) : Rl g' h' T tx (B + 24) := by
  obtain ⟨hd, htp, hfl, hmo, htr, him⟩ := hr
  refine ⟨?_, ?_, ?_, ?_, ?_, ?_⟩
  · refine td_g (σ := h) ?_ (eh 73 (by omega) (by omega)) ea
    exact td_c hd (fun a ha => eg a (by omega)) rfl rfl
  · unfold Tp; rw [eg 2 (by omega), eg 59 (by omega), eh 74 (by omega) (by omega), e70 4 (by omega) (by omega)]; exact htp
  · rw [eg 2 (by omega), e70 5 (by omega) (by omega), e70 6 (by omega) (by omega)]; exact hfl
  · rw [eg 3 (by omega)]; exact hm
  · rw [eg 3 (by omega)]; exact ht
  · exact im_B (show B ≤ B + 24 by omega) (im_c him (fun a h1 h2 => eg a (by omega)) (by rw [eg 3 (by omega)]) (fun t _ _ => by rw [eg 13 (by omega)]) (eh 72 (by omega) (by omega)))
theorem mo_m {m m' l p a a' : Int → Int} {hs B : Int} (h : MO m l p hs a B) (e6 : ∀ i, 6 ≤ i → m' i = m i) (hk : m' 0 = -1 ∨ SK hs m') (hr : ∀ i, 0 ≤ i → i < 6 → a' (242 + i) = m' i) (ha : ∀ i, i = 4 ∨ i = 5 ∨ i = 11 ∨ (18 ≤ i ∧ i < 54) ∨ 1704 ≤ i → a' i = a i) : MO m' l p hs a' B := by
  obtain ⟨h1, h2, h3, h4, h5, h6, h7⟩ := h
  refine ⟨hk, hr, ?_, ?_, ?_, ?_, ?_⟩
  · rw [e6 6 (by omega), ha 4 (by omega)]; exact h3
  · rw [e6 7 (by omega), ha 5 (by omega)]; exact h4
  · rw [e6 8 (by omega), ha 11 (by omega)]; exact h5
  · intro i i0 i1; rw [ha _ (by omega)]; exact h6 i i0 i1
  · rw [e6 8 (by omega), ha 11 (by omega)]
    intro i w i0 i1 w0 w1; rw [ha _ (by omega)]; exact h7 i w i0 i1 w0 w1
theorem stlM_6 {σ : Sg} {c : List (Int × Int)} {k : Int} {m : Int → Int} {i : Int} (h : 6 ≤ i) : stlM σ c k m i = m i := by unfold stlM; rw [if_neg (by omega)]
theorem tkM_6 {l m : Int → Int} {x i : Int} (h : 6 ≤ i) : tkM l x m i = m i := by unfold tkM; rw [if_neg (by omega), if_neg (by omega), if_neg (by omega)]
theorem ptM_6 {σ : Sg} {c : List (Int × Int)} {k : Int} {m : Int → Int} {i : Int} (h : 6 ≤ i) : ptM σ c k m i = m i := by unfold ptM; rw [if_neg (by omega), if_neg (by omega)]
theorem anM_6 {k : Int} {m : Int → Int} {i : Int} (h : 6 ≤ i) : anM k m i = m i := by unfold anM; rw [if_neg (by omega)]
theorem liM_6 {σ : Sg} {c : List (Int × Int)} {k : Int} {m : Int → Int} {i : Int} (h : 6 ≤ i) : liM σ c k m i = m i := by unfold liM; rw [if_neg (by omega), if_neg (by omega)]
/-- a step of the weighing: what is left to show -/
theorem rl_step {g g1 g2 h h1 h2 : Sg} {T : TT} {tx : Int → TA} {B : Int} {m : Int → Int} (hr : Rl g h T tx B) (ck : CKp g g1) (rk : RKp h h1) (hs : Sm [16, 40, 41] g1 g2) (hm : g2 16 = m) (hf : Fm [76, 77] h1 h2) (hrm : RM h2 m) (e6 : ∀ i, 6 ≤ i → m i = g 16 i) (hk : m 0 = -1 ∨ SK (g 3 0) m) : Rl g2 h2 T tx (B + 24) := by
  have hx : ∀ a, a ≠ 16 → a ≠ 19 → a ≠ 20 → a ≠ 40 → a ≠ 41 → g2 a = g a := by
    intro a h1 h2 h3 h4 h5
    rw [hs a (by simp; omega), ck.1 a (by simp; omega)]
  have hy : ∀ a, a ≠ 71 → a ≠ 76 → a ≠ 77 → h2 a = h a := by
    intro a h1 h2 h3
    rw [hf.1 a (by simp; omega) h1, rk.1 a (by simp; omega)]
  have ha : ∀ i, (i < 264 ∧ i ≠ 8 ∧ ¬ (242 ≤ i ∧ i < 248)) ∨ 1704 ≤ i → h2 71 i = h 71 i := by
    intro i hi
    rw [hf.2 i (by omega), rk.2.1 i (by omega)]
  refine rl_mom hr (fun a ha => hx a (by omega) (by omega) (by omega) (by omega) (by omega)) (fun a h1 h2 => hy a (by omega) (by omega) (by omega)) (fun i h1 h2 => by rw [hy 70 (by decide) (by decide) (by decide)]) (fun i hi => ha i (by omega)) ?_ ?_
  · rw [hm, hx 17 (by decide) (by decide) (by decide) (by decide) (by decide), hx 18 (by decide) (by decide) (by decide) (by decide) (by decide)]
    exact mo_m (mo_B (show B ≤ B + 24 by omega) hr.2.2.2.1) e6 hk hrm (fun i hi => ha i (by omega))
  · rw [hs 19 (by decide), hs 20 (by decide)]
    have := tr_keep hr.2.2.2.2.1 hr.2.2.2.1 hr.1.1.1.1.2.2 hr.1.1.1.1.1 ck rk
    exact tr_a (fun i hi => hf.2 i (by omega)) (tr_B (Int.le_refl _) (show B ≤ B + 24 by omega) (by omega) this)
theorem td_rk {g h h1 : Sg} {T : TT} {tx : Int → TA} (hd : Td g h T tx) (rk : RKp h h1) : Td g h1 T tx := td_g hd (rk.1 73 (by decide)) (fun i hi => rk.2.1 i (by omega))
theorem td_ck {g g1 h : Sg} {T : TT} {tx : Int → TA} (hd : Td g h T tx) (ck : CKp g g1) : Td g1 h T tx := td_m hd ck.1 (by decide)
theorem wg_ck {g g1 : Sg} (ck : CKp g g1) : WG g1 = WG g := wg_m ck.1 (by decide)
theorem cls_ck {g g1 g2 : Sg} (ck : CKp g g1) (hs : Sm [16, 40, 41] g1 g2) : Cls g g2 := fun a ha => by rw [hs a (by simp; omega), ck.1 a (by simp; omega)]
theorem rfo_rk {h h1 h2 : Sg} (rk : RKp h h1) (hf : Fm [76, 77] h1 h2) : Rfo h h2 := fun a ha => by rw [hf.1 a (by simp; omega) (by omega), rk.1 a (by simp; omega)]
theorem o_weigh {e : Nat} {g : Sg} {T : TT} {tx : Int → TA} {B x : Int} : Op (e + 60) 17 [aR 2, aI x] 227 [aR 70, aI x] g T tx B := by
  refine op_l (fun h hr => ?_)
  have hn := hr.1.1.1.1
  have ht := hr.2.2.2.2.1
  have no : (x < 0 ∨ g 3 0 ≤ x) → Lf (e + 60) 227 [aR 70, aI x] g T tx B (-100000) (mk g T) := by
    intro hx
    refine lf_n (fun h hr Q q => g_Mo_weigh_0 ?_)
    rw [hr.1.1.1.1.2.2, w32_id (x := g 3 0 - 1) (by omega) (by omega)]
    exact ci (fun _ => q) (fun _ => ct (by omega) q)
  refine g_Af_weigh_0 (ci (fun _ => no (by omega)) (fun c1 => ci (fun c2 => ?_) (fun _ => no (by omega))))
  refine c_keep ⟨ht.1.1, ht.1.2.1⟩ ht.2.1 (fun g1 ck => ?_)
  refine g_Af_weigh_25 (c_take (td_ck hr.1 ck) (by omega) (by rw [ck.1 3 (by decide)]; exact c2) (fun g2 hs hm => ?_))
  refine g_Af_weigh_33 ?_
  rw [stlM_c (ck.1 4 (by decide)), ra_c tx (ck.1 3 (by decide)), ck.1 3 (by decide), ck.1 17 (by decide), ck.1 16 (by decide)] at hm
  rw [hm]
  refine lf_c (cls_ck ck hs) (fun h hr Q q => g_Mo_weigh_0 ?_)
  have hl := hr.2.2.2.1.2.2.2.2.2.1
  rw [hr.1.1.1.1.2.2, w32_id (x := g 3 0 - 1) (by omega) (by omega)]
  refine cf c1 (cf (by omega) (r_keep (by rw [hr.2.2.2.2.1.1.2.2]; exact ⟨ht.1.1, ht.1.2.1⟩) (fun h1 rk => ?_)))
  refine g_Mo_weigh_16 ?_
  rw [rk.2.1 3 (by omega), hr.1.1.1.2.2.2.1.2.2]
  refine r_weighNow (γ := g) (g 16) (td_rk hr.1 rk) (fun i i0 i1 => ?_) (by omega) c2 ⟨hr.1.1.1.2.2.2.1.1, hr.1.1.1.2.2.2.1.2.1⟩ (fun h2 hf hrm => ?_)
  · rw [rk.2.1 _ (by omega)]; exact ⟨(hl i i0 i1).1, (hl i i0 i1).2.1, (hl i i0 i1).2.2.1⟩
  · refine g_Mo_weigh_27 ?_
    rw [(rm_e hrm).2.2.1]
    refine q h2 (rfo_rk rk hf) (rl_step hr ck rk hs hm hf hrm (fun i hi => by rw [stlM_6 hi, tkM_6 hi]) (Or.inr (sk_stl _ _ _ (sk_tk (by omega) c2 (by omega) (fun i i0 i1 => ⟨(hl i i0 i1).1, (hl i i0 i1).2.1⟩)))))
theorem o_lay {e : Nat} {g : Sg} {T : TT} {tx : Int → TA} {B x : Int} : Op (e + 60) 18 [aR 2, aI x] 237 [aR 70, aI x] g T tx B := by
  refine op_l (fun h hr => ?_)
  have hd := hr.1.1.1.2.1
  have ht := hr.2.2.2.2.1
  have hsk := hr.2.2.2.1.1
  let ok : Prop := g 16 0 ≠ -1 ∧ 0 ≤ x ∧ x < g 3 2 ∧ g 5 x = g 16 0 ∧ tb (g 16 4) x = false
  have no : ¬ ok → Lf (e + 60) 237 [aR 70, aI x] g T tx B (-100000) (mk g T) := by
    intro hx
    refine lf_n (fun h hr Q q => g_Mo_lay_0 ?_)
    have e4 : h 71 246 = g 16 4 := hr.2.2.2.1.2.1 4 (by omega) (by omega)
    have e0 : h 71 242 = g 16 0 := hr.2.2.2.1.2.1 0 (by omega) (by omega)
    rw [hr.1.1.1.2.1.2.2, w32_id (x := g 3 2 - 1) (by omega) (by omega), e4, e0]
    refine ci (fun _ => q) (fun c1 => ci (fun _ => q) (fun c2 => ?_))
    have hdd := hr.1.1.2.2.1 x (by omega) (by omega)
    rw [w32_id (x := 6 * x) (by omega) (by omega), w32_id (x := 90 + 6 * x) (by omega) (by omega), w32_id (x := 90 + 6 * x + 0) (by omega) (by omega), hdd.1.2.2]
    refine ct (by omega) (ci (fun c3 => ?_) (fun _ => q))
    rcases hsk with hsk | hsk
    · omega
    · refine ct ?_ q
      rw [has_1 hsk.2.1.1 (by omega) (by omega)]
      cases e : tb (g 16 4) x with
      | true => rfl
      | false => exact absurd ⟨by omega, by omega, by omega, c3, e⟩ hx
  have yes : ok → wpV (e + 59) 74 0 [aR 19, aR 16] [] (mk g T) (fun M' => wpI (e + 59 + 1) 18 25 [aR 2, aI x] [] M' (Lf (e + 60) 237 [aR 70, aI x] g T tx B)) := by
    rintro ⟨k0, k1, k2, k3, k4⟩
    have hsk : SK (g 3 0) (g 16) := hsk.resolve_left k0
    refine c_keep ⟨ht.1.1, ht.1.2.1⟩ ht.2.1 (fun g1 ck => ?_)
    refine g_Af_lay_25 (c_put (td_ck hr.1 ck) (by rw [ck.1 3 (by decide), ck.1 16 (by decide)]; exact hsk) k1 (by rw [ck.1 3 (by decide)]; exact k2) (by rw [ck.1 16 (by decide)]; exact k4) (fun g2 hs hm => ?_))
    refine g_Af_lay_33 ?_
    have hpt : ptM g1 = ptM g := by funext a b c i; unfold ptM; rw [wg_ck ck]
    rw [stlM_c (ck.1 4 (by decide)), ra_c tx (ck.1 3 (by decide)), ck.1 3 (by decide), ck.1 16 (by decide), hpt] at hm
    rw [hm]
    refine lf_c (cls_ck ck hs) (fun h hr Q q => g_Mo_lay_0 ?_)
    have e4 : h 71 246 = g 16 4 := hr.2.2.2.1.2.1 4 (by omega) (by omega)
    have e0 : h 71 242 = g 16 0 := hr.2.2.2.1.2.1 0 (by omega) (by omega)
    have hdd := hr.1.1.2.2.1 x (by omega) (by omega)
    rw [hr.1.1.1.2.1.2.2, w32_id (x := g 3 2 - 1) (by omega) (by omega), e4, e0, w32_id (x := 6 * x) (by omega) (by omega), w32_id (x := 90 + 6 * x) (by omega) (by omega), w32_id (x := 90 + 6 * x + 0) (by omega) (by omega), hdd.1.2.2]
    refine cf (by omega) (cf (by omega) (ct (by omega) (ct k3 (cf (by rw [has_1 hsk.2.1.1 (by omega) (by omega), k4]; decide) ?_))))
    refine r_keep (by rw [hr.2.2.2.2.1.1.2.2]; exact ⟨ht.1.1, ht.1.2.1⟩) (fun h1 rk => ?_)
    refine g_Mo_lay_48 ?_
    rw [rk.2.1 3 (by omega), hr.1.1.1.2.2.2.1.2.2]
    refine r_layNow (γ := g) (m := g 16) (td_rk hr.1 rk) (fun i i0 i1 => ?_) hsk k1 k2 k4 ⟨hr.1.1.1.2.2.2.1.1, hr.1.1.1.2.2.2.1.2.1⟩ (fun h2 hf hrm => ?_)
    · rw [rk.2.1 _ (by omega)]; exact hr.2.2.2.1.2.1 i i0 i1
    · refine g_Mo_lay_59 ?_
      rw [(rm_e hrm).2.2.1]
      exact q h2 (rfo_rk rk hf) (rl_step hr ck rk hs hm hf hrm (fun i hi => by rw [stlM_6 hi, ptM_6 hi]) (Or.inr (sk_stl _ _ _ (sk_pt hr.1 _ hsk k1 k2 k4))))
  refine g_Af_lay_0 (g_Scale_canPut_0 ?_)
  have n0 : ¬ ok → wpI (e + 59 + 1) 18 8 [aR 2, aI x] [aI 0] (mk g T) (Lf (e + 60) 237 [aR 70, aI x] g T tx B) := fun hx => g_Af_lay_8 (ct rfl (no hx))
  have y1 : ok → wpI (e + 59 + 1) 18 8 [aR 2, aI x] [aI 1] (mk g T) (Lf (e + 60) 237 [aR 70, aI x] g T tx B) := fun hx => g_Af_lay_8 (cf (by omega) (yes hx))
  refine ci (fun c => n0 (fun o => o.1 c)) (fun c0 => ci (fun c => n0 (fun o => by have := o.2.1; omega)) (fun c1 => ci (fun c2 => ct (by omega) (ci (fun c3 => ?_) (fun c => n0 (fun o => c o.2.2.2.1)))) (fun c => n0 (fun o => c o.2.2.1))))
  have hsk' : SK (g 3 0) (g 16) := hsk.resolve_left c0
  refine ci (fun c4 => y1 ⟨c0, by omega, c2, c3, ?_⟩) (fun c4 => n0 (fun o => c4 ?_))
  · rw [has_0 hsk'.2.1.1 (by omega) (by omega)] at c4; exact c4
  · rw [has_0 hsk'.2.1.1 (by omega) (by omega)]; exact o.2.2.2.2
theorem o_answer {e : Nat} {g : Sg} {T : TT} {tx : Int → TA} {B x y : Int} (hy : y = 0 ∨ y = 1) : Op (e + 60) 19 [aR 2, aI x, aI y] 242 [aR 70, aI x, aI y] g T tx B := by
  refine op_l (fun h hr => ?_)
  have hj := hr.1.1.1.2.2.1
  have ht := hr.2.2.2.2.1
  have hsk := hr.2.2.2.1.1
  have no : (g 16 0 = -1 ∨ x < 0 ∨ g 3 9 ≤ x ∨ (g 16 0 ≠ -1 ∧ 0 ≤ x ∧ x < g 3 9 ∧ tb (g 16 5) x = true)) → Lf (e + 60) 242 [aR 70, aI x, aI y] g T tx B (-1) (mk g T) := by
    intro hx
    refine lf_n (fun h hr Q q => g_Mo_answer_0 ?_)
    have e5 : h 71 247 = g 16 5 := hr.2.2.2.1.2.1 5 (by omega) (by omega)
    have e0 : h 71 242 = g 16 0 := hr.2.2.2.1.2.1 0 (by omega) (by omega)
    rw [hr.1.1.1.2.2.1.2.2, w32_id (x := g 3 9 - 1) (by omega) (by omega), e5, e0]
    refine ci (fun _ => q) (fun c1 => ci (fun _ => q) (fun c2 => ci (fun _ => q) (fun c3 => ct ?_ q)))
    have hsk := hsk.resolve_left c3
    rw [has_1 hsk.2.2.1.1 (by omega) (by omega)]
    rcases hx with q | q | q | q
    · exact absurd q c3
    · omega
    · omega
    · exact q.2.2.2
  refine g_Af_answer_0 (ci (fun c => no (by omega)) (fun c0 => ci (fun c => no (by omega)) (fun c1 => ci (fun c2 => ci (fun c3 => ?_) (fun c3 => no ?_)) (fun c => no (by omega)))))
  · have hsk := hsk.resolve_left c0
    rw [has_0 hsk.2.2.1.1 (by omega) (by omega)] at c3
    refine c_keep ⟨ht.1.1, ht.1.2.1⟩ ht.2.1 (fun g1 ck => ?_)
    have e3 := ck.1 3 (by decide)
    have e16 := ck.1 16 (by decide)
    refine g_Af_answer_24 (c_weightyKinds (td_ck hr.1 ck) (fun g2 hs2 => ?_))
    have ht2 : Td g2 h T tx := td_m (td_ck hr.1 ck) hs2 (by decide)
    have e32 : g2 3 = g 3 := by rw [hs2 3 (by decide), e3]
    have e162 : g2 16 = g 16 := by rw [hs2 16 (by decide), e16]
    have e11 : g2 11 = g 11 := by rw [hs2 11 (by decide), ck.1 11 (by decide)]
    have hso : (if bA (g2 11 x) (KD g1 ((rA g1 tx).1 0) (g1 16 0) (g1 3 2)) = 0 then (0 : Int) else 1) = SO g ((rA g tx).1 0) x (g 16 0) := by
      unfold SO
      rw [e11, kd_c (ck.1 5 (by decide)) (ck.1 6 (by decide)) (wg_ck ck), ra_c tx e3, e16, e3]
    have cc : ∀ g3, Sm [16, 40, 41] g2 g3 → Sm [16, 40, 41] g1 g3 := fun g3 h3 => sm_t (sm_m hs2 (by simp)) h3
    have ref : ∀ g3 (r : Int), Sm [16, 40, 41] g2 g3 → r = (if y = SO g ((rA g tx).1 0) x (g 16 0) then 0 else 1) → g3 16 = (if y = SO g ((rA g tx).1 0) x (g 16 0) then anM x (g 16) else stlM g ((rA g tx).1 1) (g 3 11) (liM g ((rA g tx).1 2) x (anM x (g 16)))) → Lf (e + 60) 242 [aR 70, aI x, aI y] g T tx B r (mk g3 T) := by
      intro g3 r hs3 hre hm3
      refine lf_c (cls_ck ck (cc g3 hs3)) (fun h hr Q q => g_Mo_answer_0 ?_)
      have e5 : h 71 247 = g 16 5 := hr.2.2.2.1.2.1 5 (by omega) (by omega)
      have e0 : h 71 242 = g 16 0 := hr.2.2.2.1.2.1 0 (by omega) (by omega)
      rw [hr.1.1.1.2.2.1.2.2, w32_id (x := g 3 9 - 1) (by omega) (by omega), e5, e0]
      refine cf c1 (cf (by omega) (cf c0 (cf (by rw [has_1 hsk.2.2.1.1 (by omega) (by omega), c3]; decide) ?_)))
      refine r_keep (by rw [hr.2.2.2.2.1.1.2.2]; exact ⟨ht.1.1, ht.1.2.1⟩) (fun h1 rk => ?_)
      refine g_Mo_answer_41 ?_
      refine r_answerNow (γ := g) (m := g 16) (td_rk hr.1 rk) (fun i i0 i1 => ?_) hsk (by omega) c2 c3 ?_ ?_
      · rw [rk.2.1 _ (by omega)]; exact hr.2.2.2.1.2.1 i i0 i1
      · intro hq h2 hf hrm
        rw [if_pos hq] at hre hm3
        refine g_Mo_answer_47 (ct rfl ?_)
        rw [← hre]
        exact q h2 (rfo_rk rk hf) (rl_step hr ck rk (cc g3 hs3) hm3 hf hrm (fun i hi => anM_6 hi) (Or.inr (sk_an hsk (by omega) (by omega) c3)))
      · intro hq h2 hf hrm
        rw [if_neg hq] at hre hm3
        refine g_Mo_answer_47 (cf (by omega) ?_)
        rw [← hre]
        exact q h2 (rfo_rk rk hf) (rl_step hr ck rk (cc g3 hs3) hm3 hf hrm (fun i hi => by rw [stlM_6 hi, liM_6 hi, anM_6 hi]) (Or.inr (sk_stl _ _ _ (sk_li _ hsk (by omega) (by omega) c3))))
    refine g_Af_answer_44 (c_reply ht2 (by rw [e32, e162]; exact hsk) (by omega) (by rw [e32]; exact c2) (by rw [e162]; exact c3) hy ?_ ?_)
    · rw [hso]
      intro hq g3 hs3 hm3
      refine g_Af_answer_47 (ct rfl (ref g3 0 hs3 (by rw [if_pos hq]) (by rw [if_pos hq, hm3, e162])))
    · rw [hso]
      intro hq g3 hs3 hm3
      refine g_Af_answer_47 (cf (by omega) (ref g3 1 hs3 (by rw [if_neg hq]) ?_))
      have s4 : g2 4 = g 4 := by rw [hs2 4 (by decide), ck.1 4 (by decide)]
      have s5 : g2 5 = g 5 := by rw [hs2 5 (by decide), ck.1 5 (by decide)]
      have s6 : g2 6 = g 6 := by rw [hs2 6 (by decide), ck.1 6 (by decide)]
      have s8 : g2 8 = g 8 := by rw [hs2 8 (by decide), ck.1 8 (by decide)]
      have hli : liM g2 = liM g := by funext a b c i; unfold liM; rw [li_c e32 s4 s5 s6 s8 e11]
      rw [if_neg hq, hm3, stlM_c s4, ra_c tx e32, hli, e32, e162]
  · have hsk := hsk.resolve_left c0
    rw [has_0 hsk.2.2.1.1 (by omega) (by omega)] at c3
    exact Or.inr (Or.inr (Or.inr ⟨c0, by omega, c2, by cases e : tb (g 16 5) x <;> simp_all⟩))
end
