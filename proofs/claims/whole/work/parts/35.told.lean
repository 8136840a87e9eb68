noncomputable section
/-! what is told: the class's rows and the reference's row -/
def TO (t f dr kn sz mr bd wt ak bn kh kw a : Int → Int) : Prop :=
  ((0 ≤ t 0 ∧ t 0 ≤ 6 ∧ a 0 = t 0) ∧ (0 ≤ t 2 ∧ t 2 ≤ 24 ∧ a 1 = t 2) ∧ (0 ≤ t 9 ∧ t 9 ≤ 8 ∧ a 2 = t 9) ∧ (0 ≤ t 11 ∧ t 11 ≤ 99 ∧ a 3 = t 11) ∧ (0 ≤ t 13 ∧ t 13 ≤ 4 ∧ a 6 = t 13) ∧ (-1 ≤ t 15 ∧ t 15 < t 13 ∧ a 7 = t 15) ∧ (0 ≤ t 16 ∧ t 16 ≤ 8 ∧ a 9 = t 16) ∧ (0 ≤ t 19 ∧ t 19 < 64 ∧ a 10 = t 19)) ∧
  (∀ i, 0 ≤ i → i < t 0 → 0 ≤ f i ∧ f i ≤ 999 ∧ a (12 + i) = f i) ∧
  (∀ d, 0 ≤ d → d < t 2 → (0 ≤ dr d ∧ dr d < t 0 ∧ a (90 + 6 * d + 0) = dr d) ∧ (0 ≤ kn d ∧ kn d ≤ 9 ∧ a (90 + 6 * d + 1) = kn d) ∧ (0 ≤ sz d ∧ sz d ≤ 99 ∧ a (90 + 6 * d + 2) = sz d) ∧ (0 ≤ mr d ∧ mr d ≤ 7 ∧ a (90 + 6 * d + 3) = mr d) ∧ (-1 ≤ bd d ∧ bd d < 6 ∧ a (90 + 6 * d + 4) = bd d) ∧ (0 ≤ wt d ∧ wt d < 64 ∧ a (90 + 6 * d + 5) = wt d)) ∧
  (∀ j, 0 ≤ j → j < t 9 → 1 ≤ ak j ∧ ak j ≤ 1023 ∧ a (234 + j) = ak j) ∧
  (∀ i, 0 ≤ i → i < 36 → 0 ≤ bn i ∧ bn i ≤ 99 ∧ a (54 + i) = bn i) ∧
  (∀ k, 0 ≤ k → k < t 16 → 0 ≤ kh k ∧ kh k < t 0 ∧ -9999 ≤ kw k ∧ kw k ≤ 9999 ∧ a (248 + 2 * k) = kh k ∧ a (248 + 2 * k + 1) = kw k)
theorem to_a {t f dr kn sz mr bd wt ak bn kh kw a a' : Int → Int} (h : TO t f dr kn sz mr bd wt ak bn kh kw a) (e : ∀ i, (0 ≤ i ∧ i < 4) ∨ (6 ≤ i ∧ i < 8) ∨ (9 ≤ i ∧ i < 11) ∨ (12 ≤ i ∧ i < 18) ∨ (54 ≤ i ∧ i < 242) ∨ (248 ≤ i ∧ i < 264) → a' i = a i) : TO t f dr kn sz mr bd wt ak bn kh kw a' := by
  obtain ⟨⟨⟨n1, n2, n3⟩, ⟨d1, d2, d3⟩, ⟨j1, j2, j3⟩, ⟨s1, s2, s3⟩, ⟨t1, t2, t3⟩, ⟨r1, r2, r3⟩, ⟨k1, k2, k3⟩, ⟨w1, w2, w3⟩⟩, hf, hd, hj, hb, hk⟩ := h
  refine ⟨⟨⟨n1, n2, by rw [e _ (by omega)]; exact n3⟩, ⟨d1, d2, by rw [e _ (by omega)]; exact d3⟩, ⟨j1, j2, by rw [e _ (by omega)]; exact j3⟩, ⟨s1, s2, by rw [e _ (by omega)]; exact s3⟩, ⟨t1, t2, by rw [e _ (by omega)]; exact t3⟩, ⟨r1, r2, by rw [e _ (by omega)]; exact r3⟩, ⟨k1, k2, by rw [e _ (by omega)]; exact k3⟩, ⟨w1, w2, by rw [e _ (by omega)]; exact w3⟩⟩, ?_, ?_, ?_, ?_, ?_⟩
  · intro i i0 i1; rw [e _ (by omega)]; exact hf i i0 i1
  · intro i i0 i1; rw [e (90 + 6 * i + 0) (by omega), e (90 + 6 * i + 1) (by omega), e (90 + 6 * i + 2) (by omega), e (90 + 6 * i + 3) (by omega), e (90 + 6 * i + 4) (by omega), e (90 + 6 * i + 5) (by omega)]; exact hd i i0 i1
  · intro i i0 i1; rw [e _ (by omega)]; exact hj i i0 i1
  · intro i i0 i1; rw [e _ (by omega)]; exact hb i i0 i1
  · intro i i0 i1; rw [e (248 + 2 * i) (by omega), e (248 + 2 * i + 1) (by omega)]; exact hk i i0 i1
def Td (g h : Sg) (T : TT) (tx : Int → TA) : Prop := TO (g 3) (g 4) (g 5) (g 6) (g 7) (g 8) (g 9) (g 10) (g 11) (g 12) (g 14) (g 15) (h 71) ∧ ∀ t, 0 ≤ t → t < g 3 13 → TC g T (g 13 t) (tx t) ∧ TRf (h 73) t (tx t) ∧ WfT (tx t)
/-- cells of the list, and the scale in the reference's row, may have changed -/
def Fm (cs : List Int) (σ s : Sg) : Prop := (∀ a, a ∉ cs → a ≠ 71 → s a = σ a) ∧ (∀ i, i < 242 ∨ 248 ≤ i → s 71 i = σ 71 i)
theorem fm_r (cs : List Int) (σ : Sg) : Fm cs σ σ := ⟨fun _ _ _ => rfl, fun _ _ => rfl⟩
theorem fm_t {cs : List Int} {σ s s' : Sg} (h : Fm cs σ s) (k : Fm cs s s') : Fm cs σ s' := ⟨fun a h1 h2 => (k.1 a h1 h2).trans (h.1 a h1 h2), fun i hi => (k.2 i hi).trans (h.2 i hi)⟩
theorem fm_m {cs ds : List Int} {σ s : Sg} (h : Fm cs σ s) (k : ∀ a, a ∈ cs → a ∈ ds) : Fm ds σ s := ⟨fun a h1 h2 => h.1 a (fun q => h1 (k a q)) h2, h.2⟩
theorem fm_s {cs : List Int} {σ s : Sg} (h : Sm cs σ s) (k : (71 : Int) ∉ cs) : Fm cs σ s := ⟨fun a h1 _ => h a h1, fun i _ => by rw [h 71 k]⟩
theorem fm_u {cs : List Int} {σ s : Sg} {a i x : Int} (h : Fm cs σ s) (k : a ∈ cs) (k' : a ≠ 71) : Fm cs σ (up s a i x) := ⟨fun b h1 h2 => by rw [up_c (fun e => h1 (by rw [e]; exact k))]; exact h.1 b h1 h2, fun j hj => by rw [up_c (fun e => k' e.symm)]; exact h.2 j hj⟩
theorem fm_v {cs : List Int} {σ s : Sg} {i x : Int} (h : Fm cs σ s) (k : 242 ≤ i ∧ i < 248) : Fm cs σ (up s 71 i x) := ⟨fun b h1 h2 => by rw [up_c h2]; exact h.1 b h1 h2, fun j hj => by rw [up_i (by omega)]; exact h.2 j hj⟩
/-- the class's side -/
theorem td_m {cs : List Int} {σ s η : Sg} {T : TT} {tx : Int → TA} (h : Td σ η T tx) (f : Sm cs σ s) (k : ∀ a ∈ cs, a < 90 ∧ ¬ (3 ≤ a ∧ a ≤ 15)) : Td s η T tx := by
  have e : ∀ a, ((3 ≤ a ∧ a ≤ 15) ∨ 90 ≤ a) → s a = σ a := by
    intro a ha
    refine f a (fun q => ?_)
    have := k a q
    omega
  obtain ⟨h1, h2⟩ := h
  refine ⟨?_, ?_⟩
  · rw [e 3 (by omega), e 4 (by omega), e 5 (by omega), e 6 (by omega), e 7 (by omega), e 8 (by omega), e 9 (by omega), e 10 (by omega), e 11 (by omega), e 12 (by omega), e 14 (by omega), e 15 (by omega)]
    exact h1
  · rw [e 3 (by omega), e 13 (by omega)]
    intro t t0 t1
    obtain ⟨q1, q2, q3⟩ := h2 t t0 t1
    exact ⟨tc_c q1 (fun a ha => e a (by omega)), q2, q3⟩
/-- the reference's side -/
theorem td_f {cs : List Int} {γ σ s : Sg} {T : TT} {tx : Int → TA} (h : Td γ σ T tx) (f : Fm cs σ s) (k : (73 : Int) ∉ cs) : Td γ s T tx := by
  obtain ⟨h1, h2⟩ := h
  refine ⟨to_a h1 (fun i hi => f.2 i (by omega)), ?_⟩
  rw [f.1 73 k (by decide)]; exact h2
theorem td_s {cs : List Int} {γ σ s : Sg} {T : TT} {tx : Int → TA} (h : Td γ σ T tx) (f : Sm cs σ s) (k : (73 : Int) ∉ cs) (k' : (71 : Int) ∉ cs) : Td γ s T tx := td_f h (fm_s f k') k
/-- the text that rules -/
def nA : TA := (fun _ => [], 0, fun _ _ => 0)
def rA (σ : Sg) (tx : Int → TA) : TA := if σ 3 15 < 0 then nA else tx (σ 3 15)
def Lx (σ : Sg) (T : TT) (r : Int) (A : TA) : Prop := (r = 0 ∧ ∀ w, A.1 w = []) ∨ (r ≠ 0 ∧ TC σ T r A ∧ WfT A)
theorem lx_c {σ s : Sg} {T : TT} {r : Int} {A : TA} (h : Lx σ T r A) (k : ∀ a, 90 ≤ a → s a = σ a) : Lx s T r A := by
  rcases h with h | ⟨h1, h2, h3⟩
  · exact Or.inl h
  · exact Or.inr ⟨h1, tc_c h2 k, h3⟩
def Rx (x : Int → Int) (t : Int) (w : Int) (cd : List (Int × Int)) : Prop := (t < 0 ∧ cd = []) ∨ (0 ≤ t ∧ t < 4 ∧ ∃ A, TRf x t A ∧ WfT A ∧ cd = A.1 w)
theorem tx_l {σ η : Sg} {T : TT} {tx : Int → TA} (h : Td σ η T tx) {t : Int} (t0 : 0 ≤ t) (t1 : t < σ 3 13) : Lx σ T (σ 13 t) (tx t) := by
  obtain ⟨q1, q2, q3⟩ := h.2 t t0 t1
  exact Or.inr ⟨by have := (tc_sh q1).1; omega, q1, q3⟩
theorem tx_r {σ η : Sg} {T : TT} {tx : Int → TA} (h : Td σ η T tx) {t : Int} (t0 : 0 ≤ t) (t1 : t < σ 3 13) (w : Int) : Rx (η 73) t w ((tx t).1 w) := by
  obtain ⟨q1, q2, q3⟩ := h.2 t t0 t1
  have := h.1.1.2.2.2.2.1
  exact Or.inr ⟨t0, by omega, _, q2, q3, rfl⟩
theorem rl_0 {σ : Sg} {tx : Int → TA} (h : σ 3 15 < 0) : rA σ tx = nA := by unfold rA; rw [if_pos h]
theorem rl_1 {σ : Sg} {tx : Int → TA} (h : ¬ σ 3 15 < 0) : rA σ tx = tx (σ 3 15) := by unfold rA; rw [if_neg h]
theorem rl_n {σ : Sg} {T : TT} {tx : Int → TA} (h0 : σ 3 15 < 0) : Lx σ T 0 (rA σ tx) := by rw [rl_0 h0]; exact Or.inl ⟨rfl, fun _ => rfl⟩
theorem rl_x {σ η : Sg} {T : TT} {tx : Int → TA} (h : Td σ η T tx) (h0 : ¬ σ 3 15 < 0) : Lx σ T (σ 13 (σ 3 15)) (rA σ tx) := by
  have := h.1.1.2.2.2.2.2.1
  rw [rl_1 h0]; exact tx_l h (by omega) (by omega)
theorem rr_x {σ η : Sg} {T : TT} {tx : Int → TA} (h : Td σ η T tx) (w : Int) : Rx (η 73) (η 71 7) w ((rA σ tx).1 w) := by
  have := h.1.1.2.2.2.2.2.1
  rw [this.2.2]
  by_cases h0 : σ 3 15 < 0
  · rw [rl_0 h0]; exact Or.inl ⟨h0, rfl⟩
  · rw [rl_1 h0]; exact tx_r h (by omega) (by omega) w
theorem mk_b {m : Int} (h0 : 0 ≤ m) (h7 : m ≤ 7) : bA m 1 = m % 2 ∧ bA m 2 = 2 * (m / 2 % 2) ∧ bA m 4 = 4 * (m / 4) ∧ bA (sR m 1) 1 = m / 2 % 2 ∧ sR m 2 = m / 4 := by
  simp only [bA_d, sR_d]
  rcases (by omega : m = 0 ∨ m = 1 ∨ m = 2 ∨ m = 3 ∨ m = 4 ∨ m = 5 ∨ m = 6 ∨ m = 7) with rfl | rfl | rfl | rfl | rfl | rfl | rfl | rfl <;> decide +kernel
/-- the names of a deed -/
def wnm (σ : Sg) (d v : Int) : Int := if v = 0 then σ 5 d else if v = 1 then σ 4 (σ 5 d) else if v = 2 then σ 6 d else if v = 3 then σ 7 d else if v = 4 then σ 8 d % 2 else if v = 5 then σ 8 d / 2 % 2 else if v = 6 then σ 8 d / 4 else if σ 9 d = -1 then 0 else 1
def WG (σ : Sg) (cd : List (Int × Int)) (d : Int) : Int := sayA cd (wnm σ d) (σ 7 d) (-999) 999
theorem wg_c {σ s : Sg} (h4 : s 4 = σ 4) (h5 : s 5 = σ 5) (h6 : s 6 = σ 6) (h7 : s 7 = σ 7) (h8 : s 8 = σ 8) (h9 : s 9 = σ 9) : WG s = WG σ := by
  funext cd d
  unfold WG
  rw [show wnm s d = wnm σ d from by funext v; unfold wnm; rw [h4, h5, h6, h7, h8, h9], h7]
theorem wg_m {cs : List Int} {σ s : Sg} (h : Sm cs σ s) (k : ∀ a ∈ cs, ¬ (4 ≤ a ∧ a ≤ 9)) : WG s = WG σ := by
  have e : ∀ a, 4 ≤ a → a ≤ 9 → s a = σ a := fun a h1 h2 => h a (fun q => k a q ⟨h1, h2⟩)
  exact wg_c (e 4 (by omega) (by omega)) (e 5 (by omega) (by omega)) (e 6 (by omega) (by omega)) (e 7 (by omega) (by omega)) (e 8 (by omega) (by omega)) (e 9 (by omega) (by omega))
theorem wg_f {cs : List Int} {σ s : Sg} (h : Fm cs σ s) (k : ∀ a ∈ cs, ¬ (4 ≤ a ∧ a ≤ 9)) : WG s = WG σ := by
  have e : ∀ a, 4 ≤ a → a ≤ 9 → s a = σ a := fun a h1 h2 => h.1 a (fun q => k a q ⟨h1, h2⟩) (by omega)
  exact wg_c (e 4 (by omega) (by omega)) (e 5 (by omega) (by omega)) (e 6 (by omega) (by omega)) (e 7 (by omega) (by omega)) (e 8 (by omega) (by omega)) (e 9 (by omega) (by omega))
theorem say_b {cd : List (Int × Int)} {nm : Int → Int} {wo lo hi a b : Int} (h1 : a ≤ wo ∧ wo ≤ b) (h2 : a ≤ lo) (h3 : hi ≤ b) (h4 : lo ≤ hi) : a ≤ sayA cd nm wo lo hi ∧ sayA cd nm wo lo hi ≤ b := by
  unfold sayA; split <;> omega
theorem wg_b {σ η : Sg} {T : TT} {tx : Int → TA} (h : Td σ η T tx) (cd : List (Int × Int)) {d : Int} (d0 : 0 ≤ d) (d1 : d < σ 3 2) : -999 ≤ WG σ cd d ∧ WG σ cd d ≤ 999 := by
  obtain ⟨a1, a2, a3, a4, a5, a6⟩ := h.1.2.2.1 d d0 d1
  exact say_b (by omega) (by omega) (by omega) (by omega)
theorem wnm_b {σ η : Sg} {T : TT} {tx : Int → TA} (h : Td σ η T tx) {d : Int} (d0 : 0 ≤ d) (d1 : d < σ 3 2) : ∀ v, okn 0 v → -1000000 ≤ wnm σ d v ∧ wnm σ d v ≤ 1000000 := by
  intro v _
  obtain ⟨a1, a2, a3, a4, a5, a6⟩ := h.1.2.2.1 d d0 d1
  have hn := h.1.1.1
  have hf := h.1.2.1 (σ 5 d) (by omega) (by omega)
  unfold wnm
  (repeat' split) <;> omega
theorem wt_126 {d : Nat} {σ s : Sg} {T : TT} {P : Int → AM → Prop} {r dd : Int} {A : TA} {nm : Int → Int} (hx : TC s T r A) (hf : WfT A) (hne : A.1 0 ≠ []) (d0 : 0 ≤ dd) (d1 : dd < 24) (m0 : 0 ≤ σ 8 dd) (m7 : σ 8 dd ≤ 7) (hb : ∀ v, okn 0 v → -1000000 ≤ nm v ∧ nm v ≤ 1000000) (h0 : s 40 4 = nm 0) (h1 : s 40 16 = nm 1) (h2 : s 40 17 = nm 2) (h3 : s 40 18 = nm 3) (h4 : s 40 19 = nm 4) (h5 : s 40 20 = nm 5) (h6 : nm 6 = σ 8 dd / 4) (h7 : nm 7 = if s 9 dd = -1 then 0 else 1) (k : ∀ σ', Sm [40, 41] s σ' → P (max (-999) (min 999 ((evA nm (A.1 0) []).headD 0))) (mk σ' T)) : wpI (d + 2) 84 126 [aR 39, aR r, aI dd, aI (σ 8 dd)] [] (mk s T) P := by
  have hm := mk_b m0 m7
  have fin : ∀ x y : Int, x = nm 6 → y = nm 7 → wpI (d + 2) 84 169 [aR 39, aR r, aI dd, aI (σ 8 dd)] [] (mk (up (up s 40 21 x) 40 22 y) T) P := by
    intro x y ex ey
    refine g_Laws_weight_39_s_169 ?_
    refine c_valueOf (nm := nm) (tc_c hx (fun a ha => by rw [up_c (by omega), up_c (by omega)])) hf (by omega) (by omega) hne hb ?_ ?_
    · intro v hv
      rcases hv with rfl | rfl | ⟨-, v2, v7⟩ | ⟨h, -⟩ | ⟨h, -⟩ | ⟨h, -⟩
      · rw [← h0]; simp [up_e, wn]
      · rw [← h1]; simp [up_e, wn]
      · rcases (by omega : v = 2 ∨ v = 3 ∨ v = 4 ∨ v = 5 ∨ v = 6 ∨ v = 7) with rfl | rfl | rfl | rfl | rfl | rfl
        · rw [← h2]; simp [up_e, wn]
        · rw [← h3]; simp [up_e, wn]
        · rw [← h4]; simp [up_e, wn]
        · rw [← h5]; simp [up_e, wn]
        · rw [← ex]; simp [up_e, wn]
        · rw [← ey]; simp [up_e, wn]
      all_goals exact absurd h (by decide)
    · intro σ' hs
      exact g_Laws_weight_39_s_181 (k σ' (sm_t (sm_u (sm_u (sm_r _ _) (by simp)) (by simp)) (sm_m hs (by simp))))
  have nxt : ∀ x : Int, x = nm 6 → wpI (d + 2) 84 143 [aR 39, aR r, aI dd, aI (σ 8 dd)] [aI x, aI 21, aR 40] (mk s T) P := by
    intro x ex
    refine g_Laws_weight_39_s_143 (ct (by omega) ?_)
    refine g_Laws_weight_39_s_144 (ct (by omega) ?_)
    rw [up_c (show (9 : Int) ≠ 40 by decide)]
    refine g_Laws_weight_39_s_159 (ci (fun hc => ?_) (fun hc => ?_))
    · exact g_Laws_weight_39_s_167 (g_Laws_weight_39_s_168 (ct (by omega) (fin x 0 ex (by rw [h7, if_pos hc]))))
    · exact g_Laws_weight_39_s_163 (g_Laws_weight_39_s_168 (ct (by omega) (fin x 1 ex (by rw [h7, if_neg hc]))))
  refine g_Laws_weight_39_s_126 ?_
  rw [hm.2.2.1]
  refine ci (fun hc => ?_) (fun hc => ?_)
  · exact g_Laws_weight_39_s_142 (nxt 0 (by omega))
  · exact g_Laws_weight_39_s_138 (nxt 1 (by omega))
theorem c_weight {d : Nat} {σ η : Sg} {T : TT} {tx : Int → TA} {P : Int → AM → Prop} {r dd : Int} {A : TA} (ht : Td σ η T tx) (hx : Lx σ T r A) (d0 : 0 ≤ dd) (d1 : dd < σ 3 2) (k : ∀ σ', Sm [40, 41] σ σ' → P (WG σ (A.1 0) dd) (mk σ' T)) : wpI (d + 3) 84 0 [aR 39, aR r, aI dd, aU] [] (mk σ T) P := by
  obtain ⟨a1, a2, a3, a4, a5, a6⟩ := ht.1.2.2.1 dd d0 d1
  have hn := ht.1.1.1
  have hd := ht.1.1.2.1
  refine g_Laws_weight_39_s_0 (cf (by omega) (ct d1 ?_))
  have k0 : A.1 0 = [] → P (σ 7 dd) (mk σ T) := by
    intro e
    have := k σ (sm_r _ _)
    unfold WG sayA at this; rw [if_pos e] at this; exact this
  rcases hx with ⟨r0, e⟩ | ⟨r0, htc, hwf⟩
  · exact ct r0 (ct (by omega) (k0 (e 0)))
  · refine cf r0 (cbt (by rw [(tc_sh htc).2.1]; rfl) ?_)
    refine c_hasLaw htc (by omega) (by omega) ?_ ?_
    · intro hne
      refine g_Laws_weight_39_s_22 ?_
      have hm := mk_b a4.1 a4.2.1
      rw [hm.1, hm.2.1]
      have tl : ∀ x y : Int, x = σ 8 dd % 2 → y = σ 8 dd / 2 % 2 → wpI (d + 2 + 1) 84 126 [aR 39, aR r, aI dd, aI (σ 8 dd)] [] (mk (up (up (up (up (up (up σ 40 4 (σ 5 dd)) 40 16 (σ 4 (σ 5 dd))) 40 17 (σ 6 dd)) 40 18 (σ 7 dd)) 40 19 x) 40 20 y) T) P := by
        intro x y ex ey
        refine wt_126 (d := d + 1) (σ := σ) (nm := wnm σ dd) (tc_c htc (fun a ha => by rw [up_c (by omega), up_c (by omega), up_c (by omega), up_c (by omega), up_c (by omega), up_c (by omega)])) hwf hne d0 (by omega) a4.1 a4.2.1 (wnm_b ht d0 d1) ?_ ?_ ?_ ?_ ?_ ?_ ?_ ?_ ?_
        · simp [up_e, wnm]
        · simp [up_e, wnm]
        · simp [up_e, wnm]
        · simp [up_e, wnm]
        · simp [up_e, wnm]; exact ex
        · simp [up_e, wnm]; exact ey
        · simp [wnm]
        · rw [up_c (by decide), up_c (by decide), up_c (by decide), up_c (by decide), up_c (by decide), up_c (by decide)]; simp [wnm]
        · intro σ' hs
          have := k σ' (sm_t (sm_u (sm_u (sm_u (sm_u (sm_u (sm_u (sm_r _ _) (by simp)) (by simp)) (by simp)) (by simp)) (by simp)) (by simp)) hs)
          unfold WG sayA at this; rw [if_neg hne] at this; exact this
      refine cf (by omega) (ct (by omega) (ct (by omega) (cf (by omega) (ct (by omega) (ct (by omega) (ct (by omega) (ct (by omega) ?_)))))))
      refine ci (fun hc => ?_) (fun hc => ?_) <;> refine ci (fun hc' => ?_) (fun hc' => ?_) <;> exact tl _ _ (by omega) (by omega)
    · intro e
      exact g_Laws_weight_39_s_22 (ct rfl (ct (by omega) (k0 e)))
theorem c_weightBy {d : Nat} {γ σ : Sg} {T : TT} {tx : Int → TA} {P : Int → AM → Prop} {t dd : Int} {cd : List (Int × Int)} (ht : Td γ σ T tx) (hx : Rx (σ 73) t 0 cd) (d0 : 0 ≤ dd) (d1 : dd < γ 3 2) (k : ∀ σ', Sm [76, 77] σ σ' → P (WG γ cd dd) (mk σ' T)) : wpI (d + 5) 241 0 [aR 70, aI t, aI dd] [] (mk σ T) P := by
  obtain ⟨a1, a2, a3, a4, a5, a6⟩ := ht.1.2.2.1 dd d0 d1
  have hn := ht.1.1.1
  have hd := ht.1.1.2.1
  have hf := ht.1.2.1 (γ 5 dd) (by omega) (by omega)
  have hm := mk_b a4.1 a4.2.1
  refine g_Mo_weightBy_0 ?_
  rw [w32_id (x := 6 * dd) (by omega) (by omega), w32_id (x := 90 + 6 * dd) (by omega) (by omega), w32_id (x := 90 + 6 * dd + 0) (by omega) (by omega), w32_id (x := 90 + 6 * dd + 1) (by omega) (by omega), w32_id (x := 90 + 6 * dd + 2) (by omega) (by omega), w32_id (x := 90 + 6 * dd + 3) (by omega) (by omega), w32_id (x := 90 + 6 * dd + 4) (by omega) (by omega), a1.2.2, a2.2.2, a3.2.2, a4.2.2, a5.2.2, hm.1, hm.2.2.2.1, hm.2.2.2.2]
  refine ct (by omega) (ct (by omega) (ct (by omega) (ct (by omega) (ct (by omega) (ct (by omega) ?_)))))
  have tl : ∀ y : Int, y = (if γ 9 dd = -1 then 0 else 1) → wpI (d + 4) 232 0 [aR 70, aI t, aI 0, aI (γ 5 dd), aI (γ 7 dd), aI (-999), aI 999, aU, aU] [] (mk (up (up (up (up (up (up σ 76 2 (γ 6 dd)) 76 3 (γ 7 dd)) 76 4 (γ 8 dd % 2)) 76 5 (γ 8 dd / 2 % 2)) 76 6 (γ 8 dd / 4)) 76 7 y) T) (fun r M' => wpI (d + 4 + 1) 241 115 [aR 70, aI t, aI dd] [aI r] M' P) := by
    intro y ey
    refine c_says (cd := cd) (nm := wnm γ dd) (by omega) (by omega) (by omega) (by omega) (by omega) ?_ (by simp [wnm]) ?_ (wnm_b ht d0 d1) ?_ ?_
    · rw [up_c (by decide), up_c (by decide), up_c (by decide), up_c (by decide), up_c (by decide), up_c (by decide)]; exact hx
    · rw [up_c (by decide), up_c (by decide), up_c (by decide), up_c (by decide), up_c (by decide), up_c (by decide), hf.2.2]; simp [wnm]
    · intro v hv n0 n1
      rcases hv with rfl | rfl | ⟨-, v2, v7⟩ | ⟨h, -⟩ | ⟨h, -⟩ | ⟨h, -⟩
      · exact absurd rfl n0
      · exact absurd rfl n1
      · rcases (by omega : v = 2 ∨ v = 3 ∨ v = 4 ∨ v = 5 ∨ v = 6 ∨ v = 7) with rfl | rfl | rfl | rfl | rfl | rfl
        · simp [up_e, wnm]
        · simp [up_e, wnm]
        · simp [up_e, wnm]
        · simp [up_e, wnm]
        · simp [up_e, wnm]
        · simp [up_e, wnm]; exact ey
      all_goals exact absurd h (by decide)
    · intro σ' hs
      exact g_Mo_weightBy_115 (k σ' (sm_t (sm_u (sm_u (sm_u (sm_u (sm_u (sm_u (sm_r _ _) (by simp)) (by simp)) (by simp)) (by simp)) (by simp)) (by simp)) hs))
  refine ci (fun hc => ?_) (fun hc => ?_)
  · exact ct (by omega) (ct (by omega) (tl 0 (by rw [if_pos hc])))
  · exact ct (by omega) (ct (by omega) (tl 1 (by rw [if_neg hc])))
theorem c_weightOf {d : Nat} {γ σ : Sg} {T : TT} {tx : Int → TA} {P : Int → AM → Prop} {dd : Int} (ht : Td γ σ T tx) (d0 : 0 ≤ dd) (d1 : dd < γ 3 2) (k : ∀ σ', Sm [76, 77] σ σ' → P (WG γ ((rA γ tx).1 0) dd) (mk σ' T)) : wpI (d + 6) 240 0 [aR 70, aI dd] [] (mk σ T) P := by
  refine g_Mo_weightOf_0 ?_
  exact c_weightBy ht (rr_x ht 0) d0 d1 (fun σ' hs => g_Mo_weightOf_12 (k σ' hs))
end
