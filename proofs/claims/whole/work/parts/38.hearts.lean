noncomputable section
/-! what a heart is worth: sums over its deeds -/
theorem say_0 {cd : List (Int × Int)} {nm : Int → Int} {wo lo hi : Int} (h : cd = []) : sayA cd nm wo lo hi = wo := by unfold sayA; rw [if_pos h]
theorem say_1 {cd : List (Int × Int)} {nm : Int → Int} {wo lo hi : Int} (h : cd ≠ []) : sayA cd nm wo lo hi = max lo (min hi ((evA nm cd []).headD 0)) := by unfold sayA; rw [if_neg h]
theorem sL_lt {k : Int} {n : Nat} (k0 : 0 ≤ k) (k1 : k < n) (hn : n ≤ 31) : 0 < sL 1 k ∧ sL 1 k < (2 ^ n : Nat) := by
  rw [sL_n k0 (by omega)]
  have := Nat.two_pow_pos k.toNat
  have : 2 ^ k.toNat < 2 ^ n := Nat.pow_lt_pow_right (by omega) (by omega)
  omega
/-- the deeds of a heart -/
def DOf (σ : Sg) (h i : Int) : Int := it (fun d s => if σ 5 d = h then bO s (sL 1 d) else s) 0 i
theorem dof_s {σ : Sg} {h i : Int} (i0 : 0 ≤ i) : DOf σ h (i + 1) = if σ 5 i = h then bO (DOf σ h i) (sL 1 i) else DOf σ h i := it_s _ _ i0
theorem dof_b {σ : Sg} {h : Int} {i : Int} (i0 : 0 ≤ i) (i1 : i ≤ 24) : 0 ≤ DOf σ h i ∧ DOf σ h i < 16777216 := by
  refine it_inv (n := 24) (Q := fun _ s => 0 ≤ s ∧ s < 16777216) (by omega) ?_ i i0 i1
  intro j s j0 j1 hs
  split
  · have := sL_lt (n := 24) j0 j1 (by omega)
    exact bO_b (n := 24) (by omega) hs.1 hs.2 (by omega) this.2
  · exact hs
theorem dof_t {σ : Sg} {h : Int} {i : Int} (i0 : 0 ≤ i) (i1 : i ≤ 24) (k : Int) (k0 : 0 ≤ k) : tb (DOf σ h i) k = true ↔ (k < i ∧ σ 5 k = h) := by
  have key : ∀ n : Nat, (n : Int) ≤ 24 → (tb (DOf σ h n) k = true ↔ (k < n ∧ σ 5 k = h)) := by
    intro n
    induction n with
    | zero => intro _; constructor
              · intro q; rw [show DOf σ h ((0 : Nat) : Int) = 0 from rfl, tb_o] at q; exact absurd q (by decide)
              · rintro ⟨q, _⟩; omega
    | succ n ih =>
      intro hn
      have e : ((n + 1 : Nat) : Int) = (n : Int) + 1 := by omega
      rw [e, dof_s (by omega)]
      have hb := dof_b (σ := σ) (h := h) (i := n) (by omega) (by omega)
      split
      · rename_i hd
        have hl := sL_lt (k := (n : Int)) (n := 24) (by omega) (by omega) (by omega)
        rw [tb_O hb.1 (by omega) (by omega) (by omega), tb_L (by omega) (by omega) k0, Bool.or_eq_true, ih (by omega), decide_eq_true_iff]
        constructor
        · rintro (⟨q1, q2⟩ | q)
          · exact ⟨by omega, q2⟩
          · subst q; exact ⟨by omega, hd⟩
        · rintro ⟨q1, q2⟩
          by_cases q : k < n
          · exact Or.inl ⟨q, q2⟩
          · exact Or.inr (by omega)
      · rename_i hd
        rw [ih (by omega)]
        constructor
        · rintro ⟨q1, q2⟩; exact ⟨by omega, q2⟩
        · rintro ⟨q1, q2⟩
          by_cases q : k < n
          · exact ⟨q, q2⟩
          · have : k = n := by omega
            subst this; exact absurd q2 hd
  obtain ⟨n, rfl⟩ := Int.eq_ofNat_of_zero_le i0
  exact key n i1
theorem c_deedsOf {d : Nat} {σ η : Sg} {T : TT} {tx : Int → TA} {P : Int → AM → Prop} {h : Int} (ht : Td σ η T tx) (k : P (DOf σ h (σ 3 2)) (mk σ T)) : wpI d 62 0 [aR 3, aI h, aU, aU] [] (mk σ T) P := by
  have hd := ht.1.1.2.1
  refine g_Told_deedsOf_0 ?_
  refine for_up (n := σ 3 2) (Hd := fun i s => wpI d 62 4 [aR 3, aI h, aI (DOf σ h i), aI i] [] (mk s T) P) (Inv := fun _ s => s = σ) ?_ ?_ rfl hd.1
  · rintro i s i0 i1 rfl ih
    refine g_Told_deedsOf_4 (ct i1 (ct (by omega) ?_))
    have q := ih s rfl
    rw [dof_s i0] at q
    rw [w32_id (x := i + 1) (by omega) (by omega)]
    refine ci (fun hc => ?_) (fun hc => ?_)
    · rw [if_pos hc] at q; exact q
    · rw [if_neg hc] at q; exact q
  · rintro s rfl
    exact g_Told_deedsOf_4 (cf (by omega) k)
theorem r_deedsOf {d : Nat} {γ σ : Sg} {T : TT} {tx : Int → TA} {P : Int → AM → Prop} {h : Int} (ht : Td γ σ T tx) (k : P (DOf γ h (γ 3 2)) (mk σ T)) : wpI (d + 1) 251 0 [aR 70, aI h, aU, aU] [] (mk σ T) P := by
  have hd := ht.1.1.2.1
  refine g_Mo_deedsOf_0 ?_
  refine for_up (n := γ 3 2) (Hd := fun i s => wpI (d + 1) 251 4 [aR 70, aI h, aI (DOf γ h i), aI i] [] (mk s T) P) (Inv := fun _ s => s = σ) ?_ ?_ rfl hd.1
  · rintro i s i0 i1 rfl ih
    refine g_Mo_deedsOf_4 ?_
    obtain ⟨a1, _⟩ := ht.1.2.2.1 i i0 i1
    have q := ih s rfl
    have hb := dof_b (σ := γ) (h := h) (i := i) i0 (by omega)
    rw [dof_s i0] at q
    rw [w32_id (x := 6 * i) (by omega) (by omega), w32_id (x := 90 + 6 * i) (by omega) (by omega), w32_id (x := 90 + 6 * i + 0) (by omega) (by omega), w32_id (x := i + 1) (by omega) (by omega), a1.2.2, hd.2.2]
    refine ct i1 (ct (by omega) ?_)
    refine ci (fun hc => ?_) (fun hc => ?_)
    · rw [if_pos hc] at q; exact q
    · rw [if_neg hc] at q; rw [bO_0 hb.1 (by omega)]; exact q
  · rintro s rfl
    refine g_Mo_deedsOf_4 ?_
    rw [hd.2.2]
    exact cf (by omega) k
/-- what a heart has lent -/
def Ln (g h : Sg) : Prop := ∀ i, 0 ≤ i → i < 36 → 0 ≤ g 17 i ∧ g 17 i ≤ 99 ∧ h 71 (18 + i) = g 17 i
def LTo (l : Int → Int) (h i : Int) : Int := it (fun o s => w32 (s + w32 (l (o * 6 + h) - l (h * 6 + o)))) 0 i
theorem lto_s {l : Int → Int} {h i : Int} (i0 : 0 ≤ i) : LTo l h (i + 1) = w32 (LTo l h i + w32 (l (i * 6 + h) - l (h * 6 + i))) := it_s _ _ i0
theorem lto_b {l : Int → Int} {h : Int} (h0 : 0 ≤ h) (h6 : h < 6) (hl : ∀ i, 0 ≤ i → i < 36 → 0 ≤ l i ∧ l i ≤ 99) : -600 ≤ LTo l h 6 ∧ LTo l h 6 ≤ 600 := by
  have := it_inv (f := fun o s => w32 (s + w32 (l (o * 6 + h) - l (h * 6 + o)))) (x := (0 : Int)) (n := 6) (Q := fun i s => -(100 * i) ≤ s ∧ s ≤ 100 * i) (by omega) ?_ 6 (by omega) (by omega)
  · exact ⟨by have := this.1; unfold LTo; omega, by have := this.2; unfold LTo; omega⟩
  · intro i s i0 i1 hs
    have a := hl (i * 6 + h) (by omega) (by omega)
    have b := hl (h * 6 + i) (by omega) (by omega)
    rw [w32_id (x := l (i * 6 + h) - l (h * 6 + i)) (by omega) (by omega), w32_id (by omega) (by omega)]
    omega
theorem c_lentTo {d : Nat} {σ : Sg} {T : TT} {P : Int → AM → Prop} {h : Int} (h0 : 0 ≤ h) (h6 : h < 6) (k : P (LTo (σ 17) h 6) (mk σ T)) : wpI d 68 0 [aR 16, aI h, aU, aU] [] (mk σ T) P := by
  refine g_Moment_lentTo_0 (cf (by omega) (ct h6 ?_))
  refine for_up (n := 6) (Hd := fun i s => wpI d 68 16 [aR 16, aI h, aI (LTo (σ 17) h i), aI i] [] (mk s T) P) (Inv := fun _ s => s = σ) ?_ ?_ rfl (by omega)
  · rintro i s i0 i1 rfl ih
    refine g_Moment_lentTo_16 ?_
    have q := ih s rfl
    rw [lto_s i0] at q
    rw [w32_id (x := i * 6) (by omega) (by omega), w32_id (x := i * 6 + h) (by omega) (by omega), w32_id (x := h * 6) (by omega) (by omega), w32_id (x := h * 6 + i) (by omega) (by omega), w32_id (x := i + 1) (by omega) (by omega)]
    exact ct i1 (ct (by omega) (ct (by omega) q))
  · rintro s rfl
    exact g_Moment_lentTo_16 (cf (by omega) k)
theorem r_lentOf {d : Nat} {γ σ : Sg} {T : TT} {P : Int → AM → Prop} {h : Int} (hl : Ln γ σ) (h0 : 0 ≤ h) (h6 : h < 6) (k : P (LTo (γ 17) h 6) (mk σ T)) : wpI d 229 0 [aR 70, aI h, aU, aU] [] (mk σ T) P := by
  refine g_Mo_lentOf_0 ?_
  refine for_up (n := 6) (Hd := fun i s => wpI d 229 4 [aR 70, aI h, aI (LTo (γ 17) h i), aI i] [] (mk s T) P) (Inv := fun _ s => s = σ) ?_ ?_ rfl (by omega)
  · rintro i s i0 i1 rfl ih
    refine g_Mo_lentOf_4 ?_
    have q := ih s rfl
    rw [lto_s i0] at q
    rw [w32_id (x := 6 * i) (by omega) (by omega), w32_id (x := 18 + 6 * i) (by omega) (by omega), w32_id (x := 18 + 6 * i + h) (by omega) (by omega), w32_id (x := 6 * h) (by omega) (by omega), w32_id (x := 18 + 6 * h) (by omega) (by omega), w32_id (x := 18 + 6 * h + i) (by omega) (by omega), w32_id (x := i + 1) (by omega) (by omega), show 18 + 6 * i + h = 18 + (i * 6 + h) from by omega, show 18 + 6 * h + i = 18 + (h * 6 + i) from by omega, (hl _ (by omega) (by omega)).2.2, (hl _ (by omega) (by omega)).2.2]
    exact ct i1 (ct (by omega) (ct (by omega) q))
  · rintro s rfl
    exact g_Mo_lentOf_4 (cf (by omega) k)
/-- the burden by a law -/
def BU (σ : Sg) (cd : List (Int × Int)) (h i : Int) : Int := it (fun d s => if σ 5 d = h then w32 (s + WG σ cd d) else s) 0 i
theorem bu_s {σ : Sg} {cd : List (Int × Int)} {h i : Int} (i0 : 0 ≤ i) : BU σ cd h (i + 1) = if σ 5 i = h then w32 (BU σ cd h i + WG σ cd i) else BU σ cd h i := it_s _ _ i0
theorem bu_b {σ η : Sg} {T : TT} {tx : Int → TA} (ht : Td σ η T tx) (cd : List (Int × Int)) (h : Int) {i : Int} (i0 : 0 ≤ i) (i1 : i ≤ σ 3 2) : -24000 ≤ BU σ cd h i ∧ BU σ cd h i ≤ 24000 := by
  have hd := ht.1.1.2.1
  have := it_inv (f := fun d s => if σ 5 d = h then w32 (s + WG σ cd d) else s) (x := (0 : Int)) (n := σ 3 2) (Q := fun i s => -(1000 * i) ≤ s ∧ s ≤ 1000 * i) (by omega) ?_ i i0 i1
  · exact ⟨by have := this.1; unfold BU; omega, by have := this.2; unfold BU; omega⟩
  · intro j s j0 j1 hs
    have := wg_b ht cd j0 j1
    split
    · rw [w32_id (by omega) (by omega)]; omega
    · omega
theorem bu_c {σ s : Sg} (h5 : s 5 = σ 5) (hw : WG s = WG σ) : BU s = BU σ := by
  funext cd h i; unfold BU; rw [h5, hw]
theorem c_burdenBy {d : Nat} {σ η : Sg} {T : TT} {tx : Int → TA} {P : Int → AM → Prop} {r h : Int} {A : TA} (ht : Td σ η T tx) (hx : Lx σ T r A) (k : ∀ σ', Sm [40, 41] σ σ' → P (BU σ (A.1 0) h (σ 3 2)) (mk σ' T)) : wpI (d + 4) 90 0 [aR 39, aR r, aI h, aU, aU] [] (mk σ T) P := by
  have hd := ht.1.1.2.1
  refine g_Laws_burdenBy_39_s_0 ?_
  refine for_up (n := σ 3 2) (Hd := fun i s => wpI (d + 4) 90 5 [aR 39, aR r, aI h, aI (BU σ (A.1 0) h i), aI i] [] (mk s T) P) (Inv := fun _ s => Sm [40, 41] σ s) ?_ ?_ (sm_r _ _) hd.1
  · intro i s i0 i1 hs ih
    have hts := td_m ht hs (by decide)
    have e3 := hs 3 (by decide)
    have e5 := hs 5 (by decide)
    refine g_Laws_burdenBy_39_s_5 ?_
    rw [e3, e5, w32_id (x := i + 1) (by omega) (by omega)]
    refine ct i1 (ct (by omega) (ci (fun hc => ?_) (fun hc => ?_)))
    · refine c_weight hts (lx_c hx (fun a ha => hs a (by simp; omega))) i0 (by rw [e3]; exact i1) ?_
      intro σ' hs'
      refine g_Laws_burdenBy_39_s_39 ?_
      rw [w32_id (x := i + 1) (by omega) (by omega), wg_m hs (by decide)]
      have q := ih σ' (sm_t hs hs')
      rw [bu_s i0, if_pos hc] at q; exact q
    · have q := ih s hs
      rw [bu_s i0, if_neg hc] at q; exact q
  · intro s hs
    refine g_Laws_burdenBy_39_s_5 ?_
    rw [hs 3 (by decide)]
    exact cf (by omega) (k s hs)
theorem c_burden {d : Nat} {σ η : Sg} {T : TT} {tx : Int → TA} {P : Int → AM → Prop} {h : Int} (ht : Td σ η T tx) (k : ∀ σ', Sm [40, 41] σ σ' → P (BU σ ((rA σ tx).1 0) h (σ 3 2)) (mk σ' T)) : wpI (d + 5) 89 0 [aR 39, aI h] [] (mk σ T) P := by
  have hr := ht.1.1.2.2.2.2.2.1
  have h13 := ht.1.1.2.2.2.2.1
  refine g_Laws_burden_0 ?_
  by_cases hc : σ 3 15 < 0
  · exact ct hc (c_burdenBy ht (rl_n hc) (fun σ' hs => g_Laws_burden_12 (k σ' hs)))
  · exact cf hc (ct (by omega) (ct (by omega) (c_burdenBy ht (rl_x ht hc) (fun σ' hs => g_Laws_burden_12 (k σ' hs)))))
theorem r_burdenOf {d : Nat} {γ σ : Sg} {T : TT} {tx : Int → TA} {P : Int → AM → Prop} {h : Int} (ht : Td γ σ T tx) (k : ∀ σ', Sm [76, 77] σ σ' → P (BU γ ((rA γ tx).1 0) h (γ 3 2)) (mk σ' T)) : wpI (d + 7) 260 0 [aR 70, aI h, aU, aU] [] (mk σ T) P := by
  have hd := ht.1.1.2.1
  refine g_Mo_burdenOf_0 ?_
  refine for_up (n := γ 3 2) (Hd := fun i s => wpI (d + 7) 260 4 [aR 70, aI h, aI (BU γ ((rA γ tx).1 0) h i), aI i] [] (mk s T) P) (Inv := fun _ s => Sm [76, 77] σ s) ?_ ?_ (sm_r _ _) hd.1
  · intro i s i0 i1 hs ih
    have hts := td_s ht hs (by decide) (by decide)
    have e71 := hs 71 (by decide)
    obtain ⟨a1, _⟩ := ht.1.2.2.1 i i0 i1
    have hb := bu_b ht ((rA γ tx).1 0) h i0 (by omega)
    refine g_Mo_burdenOf_4 ?_
    rw [e71, w32_id (x := 6 * i) (by omega) (by omega), w32_id (x := 90 + 6 * i) (by omega) (by omega), w32_id (x := 90 + 6 * i + 0) (by omega) (by omega), a1.2.2, hd.2.2]
    refine ct i1 (ct (by omega) (ci (fun hc => ?_) (fun hc => ?_)))
    · refine c_weightOf hts i0 i1 ?_
      intro σ' hs'
      refine g_Mo_burdenOf_30 ?_
      rw [w32_id (x := i + 1) (by omega) (by omega)]
      have q := ih σ' (sm_t hs hs')
      rw [bu_s i0, if_pos hc] at q; exact q
    · have q := ih s hs
      rw [bu_s i0, if_neg hc] at q
      first
        | (refine g_Mo_burdenOf_30 ?_; rw [w32_id (x := i + 1) (by omega) (by omega), Int.add_zero, w32_id (by omega) (by omega)]; exact q)
        | (rw [w32_id (x := i + 1) (by omega) (by omega), Int.add_zero, w32_id (by omega) (by omega)]; exact q)
  · intro s hs
    refine g_Mo_burdenOf_4 ?_
    rw [hs 71 (by decide), hd.2.2]
    exact cf (by omega) (k s hs)
end
