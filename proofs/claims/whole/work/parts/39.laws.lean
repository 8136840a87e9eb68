noncomputable section
/-! kinds that weigh, what is so, what is hidden, how much it sticks, a lie, how high -/
def KD (σ : Sg) (cd : List (Int × Int)) (h i : Int) : Int := it (fun d s => if σ 5 d = h ∧ 0 < WG σ cd d then bO s (sL 1 (σ 6 d)) else s) 0 i
theorem kd_s {σ : Sg} {cd : List (Int × Int)} {h i : Int} (i0 : 0 ≤ i) : KD σ cd h (i + 1) = if σ 5 i = h ∧ 0 < WG σ cd i then bO (KD σ cd h i) (sL 1 (σ 6 i)) else KD σ cd h i := it_s _ _ i0
theorem kd_b {σ η : Sg} {T : TT} {tx : Int → TA} (ht : Td σ η T tx) (cd : List (Int × Int)) (h : Int) {i : Int} (i0 : 0 ≤ i) (i1 : i ≤ σ 3 2) : 0 ≤ KD σ cd h i ∧ KD σ cd h i < 1024 := by
  refine it_inv (n := σ 3 2) (Q := fun _ s => 0 ≤ s ∧ s < 1024) (by omega) ?_ i i0 i1
  intro j s j0 j1 hs
  obtain ⟨a1, a2, _⟩ := ht.1.2.2.1 j j0 j1
  split
  · have := sL_lt (k := σ 6 j) (n := 10) (by omega) (by omega) (by omega)
    exact bO_b (n := 10) (by omega) hs.1 hs.2 (by omega) this.2
  · exact hs
theorem kd_t {σ η : Sg} {T : TT} {tx : Int → TA} (ht : Td σ η T tx) (cd : List (Int × Int)) (h : Int) {i : Int} (i0 : 0 ≤ i) (i1 : i ≤ σ 3 2) (k : Int) (k0 : 0 ≤ k) : tb (KD σ cd h i) k = true ↔ ∃ d, 0 ≤ d ∧ d < i ∧ σ 5 d = h ∧ 0 < WG σ cd d ∧ σ 6 d = k := by
  have key : ∀ n : Nat, (n : Int) ≤ σ 3 2 → (tb (KD σ cd h n) k = true ↔ ∃ d, 0 ≤ d ∧ d < (n : Int) ∧ σ 5 d = h ∧ 0 < WG σ cd d ∧ σ 6 d = k) := by
    intro n
    induction n with
    | zero => intro _; constructor
              · intro q; rw [show KD σ cd h ((0 : Nat) : Int) = 0 from rfl, tb_o] at q; exact absurd q (by decide)
              · rintro ⟨d, q0, q1, _⟩; omega
    | succ n ih =>
      intro hn
      have e : ((n + 1 : Nat) : Int) = (n : Int) + 1 := by omega
      rw [e, kd_s (by omega)]
      have hb := kd_b ht cd h (i := n) (by omega) (by omega)
      obtain ⟨a1, a2, _⟩ := ht.1.2.2.1 (n : Int) (by omega) (by omega)
      split
      · rename_i hd
        have hl := sL_lt (k := σ 6 (n : Int)) (n := 10) (by omega) (by omega) (by omega)
        rw [tb_O hb.1 (by omega) (by omega) (by omega), tb_L (by omega) (by omega) k0, Bool.or_eq_true, ih (by omega), decide_eq_true_iff]
        constructor
        · rintro (⟨d, q0, q1, q2⟩ | q)
          · exact ⟨d, q0, by omega, q2⟩
          · exact ⟨n, by omega, by omega, hd.1, hd.2, q⟩
        · rintro ⟨d, q0, q1, q2, q3, q4⟩
          by_cases q : d < n
          · exact Or.inl ⟨d, q0, q, q2, q3, q4⟩
          · have : d = n := by omega
            subst this; exact Or.inr q4
      · rename_i hd
        rw [ih (by omega)]
        constructor
        · rintro ⟨d, q0, q1, q2⟩; exact ⟨d, q0, by omega, q2⟩
        · rintro ⟨d, q0, q1, q2, q3, q4⟩
          by_cases q : d < n
          · exact ⟨d, q0, q, q2, q3, q4⟩
          · have : d = n := by omega
            subst this; exact absurd ⟨q2, q3⟩ hd
  obtain ⟨n, rfl⟩ := Int.eq_ofNat_of_zero_le i0
  exact key n i1
theorem ra_c {σ s : Sg} (tx : Int → TA) (h : s 3 = σ 3) : rA s tx = rA σ tx := by unfold rA; rw [h]
theorem c_weightyKinds {d : Nat} {σ η : Sg} {T : TT} {tx : Int → TA} {P : Int → AM → Prop} {h : Int} (ht : Td σ η T tx) (k : ∀ σ', Sm [40, 41] σ σ' → P (KD σ ((rA σ tx).1 0) h (σ 3 2)) (mk σ' T)) : wpI (d + 4) 85 0 [aR 39, aI h, aU, aU, aU] [] (mk σ T) P := by
  have hd := ht.1.1.2.1
  have hr := ht.1.1.2.2.2.2.2.1
  have h13 := ht.1.1.2.2.2.2.1
  have lp : ∀ r, Lx σ T r (rA σ tx) → wpI (d + 4) 85 13 [aR 39, aI h, aR r, aI 0, aI 0] [] (mk σ T) P := by
    intro r hx
    refine for_up (n := σ 3 2) (Hd := fun i s => wpI (d + 4) 85 13 [aR 39, aI h, aR r, aI (KD σ ((rA σ tx).1 0) h i), aI i] [] (mk s T) P) (Inv := fun _ s => Sm [40, 41] σ s) ?_ ?_ (sm_r _ _) hd.1
    · intro i s i0 i1 hs ih
      have hts := td_m ht hs (by decide)
      have e3 := hs 3 (by decide)
      have e5 := hs 5 (by decide)
      refine g_Laws_weightyKinds_13 ?_
      rw [e3, e5, w32_id (x := i + 1) (by omega) (by omega)]
      refine ct i1 (ct (by omega) (ci (fun hc => ?_) (fun hc => ?_)))
      · refine c_weight hts (lx_c hx (fun a ha => hs a (by simp; omega))) i0 (by rw [e3]; exact i1) ?_
        intro σ' hs'
        refine g_Laws_weightyKinds_46 ?_
        have q := ih σ' (sm_t hs hs')
        rw [w32_id (x := i + 1) (by omega) (by omega), wg_m hs (by decide), (sm_t hs hs') 6 (by decide)]
        rw [kd_s i0] at q
        refine ci (fun hc' => ?_) (fun hc' => ?_)
        · rw [if_pos ⟨hc, hc'⟩] at q
          exact ct (by omega) q
        · rw [if_neg (fun e => hc' e.2)] at q; exact q
      · have q := ih s hs
        rw [kd_s i0, if_neg (fun e => hc e.1)] at q; exact q
    · intro s hs
      refine g_Laws_weightyKinds_13 ?_
      rw [hs 3 (by decide)]
      exact cf (by omega) (k s hs)
  refine g_Laws_weightyKinds_0 ?_
  by_cases hc : σ 3 15 < 0
  · exact ct hc (lp _ (rl_n hc))
  · exact cf hc (ct (by omega) (ct (by omega) (lp _ (rl_x ht hc))))
/-- whether a judge asks what is so -/
def SO (σ : Sg) (cd : List (Int × Int)) (j h : Int) : Int := if bA (σ 11 j) (KD σ cd h (σ 3 2)) = 0 then 0 else 1
theorem so_i {σ η : Sg} {T : TT} {tx : Int → TA} (ht : Td σ η T tx) (cd : List (Int × Int)) {j : Int} (h : Int) (j0 : 0 ≤ j) (j1 : j < σ 3 9) : (bA (σ 11 j) (KD σ cd h (σ 3 2)) ≠ 0) ↔ ∃ d, 0 ≤ d ∧ d < σ 3 2 ∧ σ 5 d = h ∧ 0 < WG σ cd d ∧ tb (σ 11 j) (σ 6 d) = true := by
  have ha := ht.1.2.2.2.1 j j0 j1
  have hd := ht.1.1.2.1
  have hk := kd_b ht cd h hd.1 (Int.le_refl _)
  have hb := bA_b (x := σ 11 j) (y := KD σ cd h (σ 3 2)) (by omega) (by omega) hk.1 (by omega)
  rw [tb_nz (n := 10) hb.1 (by show _ < (1024 : Int); omega)]
  constructor
  · rintro ⟨k, k0, k1, q⟩
    rw [tb_A (by omega) (by omega) hk.1 (by omega), Bool.and_eq_true, kd_t ht cd h hd.1 (Int.le_refl _) k k0] at q
    obtain ⟨q1, d, q2, q3, q4, q5, q6⟩ := q
    exact ⟨d, q2, q3, q4, q5, by rw [q6]; exact q1⟩
  · rintro ⟨d, q2, q3, q4, q5, q6⟩
    obtain ⟨a1, a2, _⟩ := ht.1.2.2.1 d q2 q3
    refine ⟨σ 6 d, a2.1, by show σ 6 d < 10; omega, ?_⟩
    rw [tb_A (by omega) (by omega) hk.1 (by omega), Bool.and_eq_true, kd_t ht cd h hd.1 (Int.le_refl _) _ a2.1]
    exact ⟨q6, d, q2, q3, q4, q5, rfl⟩
theorem r_isSoOf {d : Nat} {γ σ : Sg} {T : TT} {tx : Int → TA} {P : Int → AM → Prop} {j h : Int} (ht : Td γ σ T tx) (j0 : 0 ≤ j) (j1 : j < γ 3 9) (k : ∀ σ', Sm [76, 77] σ σ' → P (SO γ ((rA γ tx).1 0) j h) (mk σ' T)) : wpI (d + 7) 245 0 [aR 70, aI j, aI h, aU] [] (mk σ T) P := by
  have hd := ht.1.1.2.1
  have hj := ht.1.1.2.2.1
  have ha := ht.1.2.2.2.1 j j0 j1
  refine g_Mo_isSoOf_0 ?_
  refine for_up (n := γ 3 2) (Hd := fun i s => wpI (d + 7) 245 2 [aR 70, aI j, aI h, aI i] [] (mk s T) P) (Inv := fun i s => Sm [76, 77] σ s ∧ ∀ d, 0 ≤ d → d < i → ¬ (γ 5 d = h ∧ 0 < WG γ ((rA γ tx).1 0) d ∧ tb (γ 11 j) (γ 6 d) = true)) ?_ ?_ ⟨sm_r _ _, fun d h0 h1 => by omega⟩ hd.1
  · rintro i s i0 i1 ⟨hs, hno⟩ ih
    have hts := td_s ht hs (by decide) (by decide)
    have e71 := hs 71 (by decide)
    obtain ⟨a1, a2, _⟩ := ht.1.2.2.1 i i0 i1
    refine g_Mo_isSoOf_2 ?_
    rw [e71, w32_id (x := 6 * i) (by omega) (by omega), w32_id (x := 90 + 6 * i) (by omega) (by omega), w32_id (x := 90 + 6 * i + 0) (by omega) (by omega), w32_id (x := 90 + 6 * i + 1) (by omega) (by omega), w32_id (x := 234 + j) (by omega) (by omega), w32_id (x := i + 1) (by omega) (by omega), a1.2.2, a2.2.2, ha.2.2, hd.2.2]
    refine ct i1 (ct (by omega) (ci (fun hc => ?_) (fun hc => ?_)))
    · refine ct (by omega) (ct (by omega) (ci (fun hc' => ?_) (fun hc' => ?_)))
      · rw [has_1 (by omega) (by omega) (by omega)] at hc'
        refine c_weightOf hts i0 i1 ?_
        intro σ' hs'
        refine g_Mo_isSoOf_49 ?_
        rw [w32_id (x := i + 1) (by omega) (by omega)]
        refine ci (fun hw => ?_) (fun hw => ?_)
        · have q := k σ' (sm_t hs hs')
          unfold SO at q
          rw [if_neg ((so_i ht _ h j0 j1).mpr ⟨i, i0, i1, hc, hw, hc'⟩)] at q
          exact q
        · refine ih σ' ⟨sm_t hs hs', fun dd d0 d1 q => ?_⟩
          by_cases e : dd = i
          · subst e; exact hw q.2.1
          · exact hno dd d0 (by omega) q
      · rw [has_1 (by omega) (by omega) (by omega)] at hc'
        refine ih s ⟨hs, fun dd d0 d1 q => ?_⟩
        by_cases e : dd = i
        · subst e; exact hc' q.2.2
        · exact hno dd d0 (by omega) q
    · refine ih s ⟨hs, fun dd d0 d1 q => ?_⟩
      by_cases e : dd = i
      · subst e; exact hc q.1
      · exact hno dd d0 (by omega) q
  · rintro s ⟨hs, hno⟩
    refine g_Mo_isSoOf_2 ?_
    rw [hs 71 (by decide), hd.2.2]
    refine cf (by omega) ?_
    have q := k s hs
    unfold SO at q
    rw [if_pos] at q
    · exact q
    · refine Classical.byContradiction (fun ne => ?_)
      obtain ⟨dd, d0, d1, d2⟩ := (so_i ht _ h j0 j1).mp ne
      exact hno dd d0 d1 d2
/-- hidden deeds -/
def HD (σ : Sg) (h ks i : Int) : Int := it (fun d s => if σ 5 d = h ∧ tb ks (σ 6 d) = true ∧ σ 8 d % 2 = 0 then w32 (s + 1) else s) 0 i
theorem hd_s {σ : Sg} {h ks i : Int} (i0 : 0 ≤ i) : HD σ h ks (i + 1) = if σ 5 i = h ∧ tb ks (σ 6 i) = true ∧ σ 8 i % 2 = 0 then w32 (HD σ h ks i + 1) else HD σ h ks i := it_s _ _ i0
theorem hd_b {σ : Sg} (h ks : Int) {i : Int} (i0 : 0 ≤ i) (i1 : i ≤ 24) : 0 ≤ HD σ h ks i ∧ HD σ h ks i ≤ i := by
  refine it_inv (n := 24) (Q := fun i s => 0 ≤ s ∧ s ≤ i) (by omega) ?_ i i0 i1
  intro j s j0 j1 hs
  split
  · rw [w32_id (by omega) (by omega)]; omega
  · omega
theorem hd_c {σ s : Sg} (h5 : s 5 = σ 5) (h6 : s 6 = σ 6) (h8 : s 8 = σ 8) : HD s = HD σ := by
  funext h ks i; unfold HD; rw [h5, h6, h8]
theorem c_hiddenOf {d : Nat} {σ η : Sg} {T : TT} {tx : Int → TA} {P : Int → AM → Prop} {h ks : Int} (ht : Td σ η T tx) (k0 : 0 ≤ ks) (k1 : ks < 1024) (k : P (HD σ h ks (σ 3 2)) (mk σ T)) : wpI d 87 0 [aR 39, aI h, aI ks, aU, aU, aU] [] (mk σ T) P := by
  have hd := ht.1.1.2.1
  refine g_Laws_hiddenOf_0 ?_
  suffices q : ∀ l5 : AV, wpI d 87 5 [aR 39, aI h, aI ks, aI 0, aI 0, l5] [] (mk σ T) P from q aU
  refine for_up (n := σ 3 2) (Hd := fun i s => ∀ l5 : AV, wpI d 87 5 [aR 39, aI h, aI ks, aI (HD σ h ks i), aI i, l5] [] (mk s T) P) (Inv := fun _ s => s = σ) ?_ ?_ rfl hd.1
  · rintro i s i0 i1 rfl ih l5
    obtain ⟨a1, a2, a3, a4, _⟩ := ht.1.2.2.1 i i0 i1
    have hm := mk_b a4.1 a4.2.1
    refine g_Laws_hiddenOf_5 ?_
    rw [hm.1, w32_id (x := i + 1) (by omega) (by omega)]
    have q := ih s rfl
    rw [hd_s i0] at q
    refine ct i1 (ct (by omega) (ci (fun hc => ct (by omega) (ci (fun hc' => ?_) (fun hc' => ?_))) (fun hc => ?_)))
    · rw [has_0 k0 (by omega) (by omega)] at hc'
      rw [if_neg (fun e => by rw [hc'] at e; exact absurd e.2.1 (by decide))] at q; exact q _
    · rw [has_0 k0 (by omega) (by omega)] at hc'
      have hc' : tb ks (s 6 i) = true := by cases e : tb ks (s 6 i) <;> simp_all
      refine ct (by omega) (ci (fun hm' => ?_) (fun hm' => ?_))
      · rw [if_pos ⟨hc, hc', hm'⟩] at q; exact q _
      · rw [if_neg (fun e => hm' e.2.2)] at q; exact q _
    · rw [if_neg (fun e => hc e.1)] at q; exact q _
  · rintro s rfl l5
    exact g_Laws_hiddenOf_5 (cf (by omega) k)
/-- how much the pan sticks -/
def snm (σ : Sg) (h shown laid v : Int) : Int := if v = 0 then h else if v = 1 then σ 4 h else if v = 8 then shown else laid
def STK (σ : Sg) (cd : List (Int × Int)) (h shown laid plain : Int) : Int := sayA cd (snm σ h shown laid) plain 0 99
theorem stk_b (σ : Sg) (cd : List (Int × Int)) (h shown laid : Int) {plain : Int} (p0 : 0 ≤ plain) (p1 : plain ≤ 99) : 0 ≤ STK σ cd h shown laid plain ∧ STK σ cd h shown laid plain ≤ 99 := say_b (by omega) (by omega) (by omega) (by omega)
theorem stk_e {σ s : Sg} (h : s 4 = σ 4) : STK s = STK σ := by
  funext cd a b c e; unfold STK; rw [show snm s a b c = snm σ a b c from by funext v; unfold snm; rw [h]]
theorem snm_b {σ η : Sg} {T : TT} {tx : Int → TA} (ht : Td σ η T tx) {h shown laid : Int} (h0 : 0 ≤ h) (h1 : h < σ 3 0) (bs : -1000000 ≤ shown ∧ shown ≤ 1000000) (bl : -1000000 ≤ laid ∧ laid ≤ 1000000) : ∀ v, okn 1 v → -1000000 ≤ snm σ h shown laid v ∧ snm σ h shown laid v ≤ 1000000 := by
  intro v _
  have hn := ht.1.1.1
  have hf := ht.1.2.1 h h0 h1
  unfold snm
  (repeat' split) <;> omega
theorem c_sticks {d : Nat} {σ η : Sg} {T : TT} {tx : Int → TA} {P : Int → AM → Prop} {h shown laid plain : Int} (ht : Td σ η T tx) (h0 : 0 ≤ h) (h1 : h < σ 3 0) (bs : -1000000 ≤ shown ∧ shown ≤ 1000000) (bl : -1000000 ≤ laid ∧ laid ≤ 1000000) (k : ∀ σ', Sm [40, 41] σ σ' → P (STK σ ((rA σ tx).1 1) h shown laid plain) (mk σ' T)) : wpI (d + 3) 78 0 [aR 39, aI h, aI shown, aI laid, aI plain, aU] [] (mk σ T) P := by
  have hn := ht.1.1.1
  have hr := ht.1.1.2.2.2.2.2.1
  have h13 := ht.1.1.2.2.2.2.1
  refine g_Laws_sticks_0 ?_
  have k0 : (rA σ tx).1 1 = [] → P plain (mk σ T) := by
    intro e
    have := k σ (sm_r _ _)
    unfold STK at this; rw [say_0 e] at this; exact this
  by_cases hc : σ 3 15 < 0
  · exact ct hc (k0 (by rw [rl_0 hc]; rfl))
  · refine cf hc (ct (by omega) (ct (by omega) ?_))
    rcases rl_x ht hc with ⟨r0, e⟩ | ⟨r0, htc, hwf⟩
    · exact ct r0 (k0 (e 1))
    · refine cf r0 (cbt (by rw [(tc_sh htc).2.1]; rfl) ?_)
      refine c_hasLaw htc (by omega) (by omega) ?_ ?_
      · intro hne
        refine g_Laws_sticks_20 (cf (by omega) (cf (by omega) (ct h1 (ct (by omega) ?_))))
        refine c_valueOf (nm := snm σ h shown laid) (tc_c htc (fun a ha => by rw [up_c (by omega), up_c (by omega), up_c (by omega), up_c (by omega)])) hwf (by omega) (by omega) hne (snm_b ht h0 h1 bs bl) ?_ ?_
        · intro v hv
          rcases hv with rfl | rfl | ⟨h, -⟩ | ⟨-, v8, v9⟩ | ⟨h, -⟩ | ⟨h, -⟩
          · simp [up_e, wn, snm]
          · simp [up_e, wn, snm]
          · exact absurd h (by decide)
          · rcases (by omega : v = 8 ∨ v = 9) with rfl | rfl <;> simp [up_e, wn, snm]
          · exact absurd h (by decide)
          · exact absurd h (by decide)
        · intro σ' hs
          refine g_Laws_sticks_57 ?_
          have := k σ' (sm_t (sm_u (sm_u (sm_u (sm_u (sm_r _ _) (by simp)) (by simp)) (by simp)) (by simp)) (sm_m hs (by simp)))
          unfold STK at this; rw [say_1 hne] at this; exact this
      · intro e
        exact g_Laws_sticks_20 (ct rfl (k0 e))
/-- a lie -/
def lnm (σ : Sg) (j h lied v : Int) : Int := if v = 0 then h else if v = 1 then σ 4 h else if v = 10 then lied else if v = 11 then j else if v = 12 then BC (σ 11 j) else HD σ h (σ 11 j) (σ 3 2)
def LI (σ : Sg) (cd : List (Int × Int)) (j h lied : Int) : Int := sayA cd (lnm σ j h lied) 3 0 999
theorem li_b (σ : Sg) (cd : List (Int × Int)) (j h lied : Int) : 0 ≤ LI σ cd j h lied ∧ LI σ cd j h lied ≤ 999 := say_b (by omega) (by omega) (by omega) (by omega)
theorem lnm_b {σ η : Sg} {T : TT} {tx : Int → TA} (ht : Td σ η T tx) {j h lied : Int} (j0 : 0 ≤ j) (j1 : j < σ 3 9) (h0 : 0 ≤ h) (h1 : h < σ 3 0) (bl : -1000000 ≤ lied ∧ lied ≤ 1000000) : ∀ v, okn 2 v → -1000000 ≤ lnm σ j h lied v ∧ lnm σ j h lied v ≤ 1000000 := by
  intro v _
  have hn := ht.1.1.1
  have hd := ht.1.1.2.1
  have hj := ht.1.1.2.2.1
  have hf := ht.1.2.1 h h0 h1
  have ha := ht.1.2.2.2.1 j j0 j1
  have hb := bc_b (x := σ 11 j) (by omega)
  have hh := hd_b (σ := σ) h (σ 11 j) hd.1 (by omega)
  unfold lnm
  (repeat' split) <;> omega
theorem c_lieTo {d : Nat} {σ η : Sg} {T : TT} {tx : Int → TA} {P : Int → AM → Prop} {j h lied : Int} (ht : Td σ η T tx) (j0 : 0 ≤ j) (j1 : j < σ 3 9) (h0 : 0 ≤ h) (h1 : h < σ 3 0) (bl : -1000000 ≤ lied ∧ lied ≤ 1000000) (k : ∀ σ', Sm [40, 41] σ σ' → P (LI σ ((rA σ tx).1 2) j h lied) (mk σ' T)) : wpI (d + 3) 86 0 [aR 39, aI j, aI h, aI lied, aU, aU] [] (mk σ T) P := by
  have hn := ht.1.1.1
  have hj := ht.1.1.2.2.1
  have hr := ht.1.1.2.2.2.2.2.1
  have h13 := ht.1.1.2.2.2.2.1
  have ha := ht.1.2.2.2.1 j j0 j1
  refine g_Laws_lieTo_0 ?_
  have k0 : (rA σ tx).1 2 = [] → P 3 (mk σ T) := by
    intro e
    have := k σ (sm_r _ _)
    unfold LI at this; rw [say_0 e] at this; exact this
  by_cases hc : σ 3 15 < 0
  · exact ct hc (k0 (by rw [rl_0 hc]; rfl))
  · refine cf hc (ct (by omega) (ct (by omega) ?_))
    rcases rl_x ht hc with ⟨r0, e⟩ | ⟨r0, htc, hwf⟩
    · exact ct r0 (k0 (e 2))
    · refine cf r0 (cbt (by rw [(tc_sh htc).2.1]; rfl) ?_)
      refine c_hasLaw htc (by omega) (by omega) ?_ ?_
      · intro hne
        refine g_Laws_lieTo_20 (cf (by omega) (cf (by omega) (ct j1 (ct (by omega) (cf (by omega) (ct h1 (ct (by omega) ?_)))))))
        refine c_bitCount (by omega) (by omega) ?_
        refine g_Laws_lieTo_79 (ct (by omega) ?_)
        have hs1 : Sm [40, 41] σ (up (up (up (up (up σ 40 4 h) 40 16 (σ 4 h)) 40 25 lied) 40 6 j) 40 26 (BC (σ 11 j))) := sm_u (sm_u (sm_u (sm_u (sm_u (sm_r _ _) (by simp)) (by simp)) (by simp)) (by simp)) (by simp)
        refine c_hiddenOf (td_m ht hs1 (by decide)) (by omega) (by omega) ?_
        rw [hd_c (hs1 5 (by decide)) (hs1 6 (by decide)) (hs1 8 (by decide)), hs1 3 (by decide)]
        refine g_Laws_lieTo_93 (ct (by omega) ?_)
        refine c_valueOf (nm := lnm σ j h lied) (tc_c htc (fun a ha => by rw [up_c (by omega)]; exact hs1 a (by simp; omega))) hwf (by omega) (by omega) hne (lnm_b ht j0 j1 h0 h1 bl) ?_ ?_
        · intro v hv
          rcases hv with rfl | rfl | ⟨h, -⟩ | ⟨h, -⟩ | ⟨-, v10, v13⟩ | ⟨h, -⟩
          · simp [up_e, wn, lnm]
          · simp [up_e, wn, lnm]
          · exact absurd h (by decide)
          · exact absurd h (by decide)
          · rcases (by omega : v = 10 ∨ v = 11 ∨ v = 12 ∨ v = 13) with rfl | rfl | rfl | rfl <;> simp [up_e, wn, lnm]
          · exact absurd h (by decide)
        · intro σ' hs
          refine g_Laws_lieTo_105 ?_
          have := k σ' (sm_t (sm_u hs1 (by simp)) (sm_m hs (by simp)))
          unfold LI at this; rw [say_1 hne] at this; exact this
      · intro e
        exact g_Laws_lieTo_20 (ct rfl (k0 e))
/-- how high -/
def unm (σ : Sg) (h v : Int) : Int := if v = 0 then h else if v = 1 then σ 4 h else BC (DOf σ h (σ 3 2))
def UPF (σ : Sg) (cd : List (Int × Int)) (h : Int) : Int := sayA cd (unm σ h) 50 0 999
theorem upf_b (σ : Sg) (cd : List (Int × Int)) (h : Int) : 0 ≤ UPF σ cd h ∧ UPF σ cd h ≤ 999 := say_b (by omega) (by omega) (by omega) (by omega)
theorem unm_b {σ η : Sg} {T : TT} {tx : Int → TA} (ht : Td σ η T tx) {h : Int} (h0 : 0 ≤ h) (h1 : h < σ 3 0) : ∀ v, okn 3 v → -1000000 ≤ unm σ h v ∧ unm σ h v ≤ 1000000 := by
  intro v _
  have hn := ht.1.1.1
  have hd := ht.1.1.2.1
  have hf := ht.1.2.1 h h0 h1
  have hb := bc_b (dof_b (σ := σ) (h := h) hd.1 hd.2.1).1
  unfold unm
  (repeat' split) <;> omega
theorem dof_c {σ s : Sg} (h5 : s 5 = σ 5) : DOf s = DOf σ := by funext h i; unfold DOf; rw [h5]
theorem c_upFor {d : Nat} {σ η : Sg} {T : TT} {tx : Int → TA} {P : Int → AM → Prop} {h : Int} (ht : Td σ η T tx) (h0 : 0 ≤ h) (h1 : h < σ 3 0) (k : ∀ σ', Sm [40, 41] σ σ' → P (UPF σ ((rA σ tx).1 3) h) (mk σ' T)) : wpI (d + 3) 88 0 [aR 39, aI h, aU] [] (mk σ T) P := by
  have hn := ht.1.1.1
  have hd := ht.1.1.2.1
  have hr := ht.1.1.2.2.2.2.2.1
  have h13 := ht.1.1.2.2.2.2.1
  have hb := dof_b (σ := σ) (h := h) hd.1 hd.2.1
  refine g_Laws_upFor_0 ?_
  have k0 : (rA σ tx).1 3 = [] → P 50 (mk σ T) := by
    intro e
    have := k σ (sm_r _ _)
    unfold UPF at this; rw [say_0 e] at this; exact this
  by_cases hc : σ 3 15 < 0
  · exact ct hc (k0 (by rw [rl_0 hc]; rfl))
  · refine cf hc (ct (by omega) (ct (by omega) ?_))
    rcases rl_x ht hc with ⟨r0, e⟩ | ⟨r0, htc, hwf⟩
    · exact ct r0 (k0 (e 3))
    · refine cf r0 (cbt (by rw [(tc_sh htc).2.1]; rfl) ?_)
      refine c_hasLaw htc (by omega) (by omega) ?_ ?_
      · intro hne
        refine g_Laws_upFor_17 (cf (by omega) (cf (by omega) (ct h1 (ct (by omega) ?_))))
        have hs1 : Sm [40, 41] σ (up (up σ 40 4 h) 40 16 (σ 4 h)) := sm_u (sm_u (sm_r _ _) (by simp)) (by simp)
        refine c_deedsOf (td_m ht hs1 (by decide)) ?_
        rw [dof_c (hs1 5 (by decide)), hs1 3 (by decide)]
        refine g_Laws_upFor_42 (c_bitCount hb.1 hb.2 ?_)
        refine g_Laws_upFor_45 (ct (by omega) ?_)
        refine c_valueOf (nm := unm σ h) (tc_c htc (fun a ha => by rw [up_c (by omega)]; exact hs1 a (by simp; omega))) hwf (by omega) (by omega) hne (unm_b ht h0 h1) ?_ ?_
        · intro v hv
          rcases hv with rfl | rfl | ⟨h, -⟩ | ⟨h, -⟩ | ⟨h, -⟩ | ⟨-, rfl⟩
          · simp [up_e, wn, unm]
          · simp [up_e, wn, unm]
          · exact absurd h (by decide)
          · exact absurd h (by decide)
          · exact absurd h (by decide)
          · simp [up_e, wn, unm]
        · intro σ' hs
          refine g_Laws_upFor_56 ?_
          have := k σ' (sm_t (sm_u hs1 (by simp)) (sm_m hs (by simp)))
          unfold UPF at this; rw [say_1 hne] at this; exact this
      · intro e
        exact g_Laws_upFor_17 (ct rfl (k0 e))
theorem r_upOf {d : Nat} {γ σ : Sg} {T : TT} {tx : Int → TA} {P : Int → AM → Prop} {h : Int} (ht : Td γ σ T tx) (h0 : 0 ≤ h) (h1 : h < γ 3 0) (k : ∀ σ', Sm [76, 77] σ σ' → P (UPF γ ((rA γ tx).1 3) h) (mk σ' T)) : wpI (d + 5) 250 0 [aR 70, aI h] [] (mk σ T) P := by
  have hn := ht.1.1.1
  have hf := ht.1.2.1 h h0 h1
  refine g_Mo_upOf_0 (r_deedsOf ht ?_)
  refine g_Mo_upOf_11 (c_bits ?_)
  refine g_Mo_upOf_14 (ct (by omega) ?_)
  refine c_says (cd := (rA γ tx).1 3) (nm := unm γ h) (by omega) (by omega) (by omega) h0 (by omega) ?_ (by simp [unm]) ?_ (unm_b ht h0 h1) ?_ ?_
  · rw [up_c (by decide)]; exact rr_x ht 3
  · rw [up_c (by decide), hf.2.2]; simp [unm]
  · intro v hv n0 n1
    rcases hv with rfl | rfl | ⟨h, -⟩ | ⟨h, -⟩ | ⟨h, -⟩ | ⟨-, rfl⟩
    · exact absurd rfl n0
    · exact absurd rfl n1
    · exact absurd h (by decide)
    · exact absurd h (by decide)
    · exact absurd h (by decide)
    · simp [up_e, unm]
  · intro σ' hs
    exact g_Mo_upOf_34 (k σ' (sm_t (sm_u (sm_r _ _) (by simp)) hs))
end
