noncomputable section
/-! a feather for all -/
def JO (g : Sg) (tx : Int → TA) (f i : Int) : Int := it (fun h n => if (f < BU g ((rA g tx).1 0) h (g 3 2)) then (if tb (g 3 19) h = true then n + 1 else n) else (if tb (g 3 19) h = true then n else n + 1)) 0 i
theorem jo_b (g : Sg) (tx : Int → TA) (f : Int) {i : Int} (i0 : 0 ≤ i) : 0 ≤ JO g tx f i ∧ JO g tx f i ≤ i := by
  refine it_inv (n := i) (Q := fun i s => 0 ≤ s ∧ s ≤ i) (by omega) ?_ i i0 (Int.le_refl _)
  intro j s j0 j1 hs
  (repeat' split) <;> omega
theorem jo_s {g : Sg} {tx : Int → TA} {f i : Int} (i0 : 0 ≤ i) : JO g tx f (i + 1) = if (f < BU g ((rA g tx).1 0) i (g 3 2)) then (if tb (g 3 19) i = true then JO g tx f i + 1 else JO g tx f i) else (if tb (g 3 19) i = true then JO g tx f i else JO g tx f i + 1) := it_s _ _ i0
theorem c_judgedOtherwise {d : Nat} {g η s : Sg} {T : TT} {tx : Int → TA} {P : Int → AM → Prop} {f : Int} (ht : Td g η T tx) (e3 : s 3 = g 3) (hb : ∀ h, 0 ≤ h → h < g 3 0 → s 69 h = BU g ((rA g tx).1 0) h (g 3 2)) (k : P (JO g tx f (g 3 0)) (mk s T)) : wpI d 45 0 [aR 2, aI f, aU, aU, aU] [] (mk s T) P := by
  have hn := ht.1.1.1
  have hw := ht.1.1.2.2.2.2.2.2.2
  refine g_Af_judgedOtherwise_0 ?_
  suffices lp : ∀ l4 : AV, wpI d 45 4 [aR 2, aI f, aI 0, aI 0, l4] [] (mk s T) P from lp aU
  refine for_up (n := g 3 0) (Hd := fun i s' => ∀ l4 : AV, wpI d 45 4 [aR 2, aI f, aI (JO g tx f i), aI i, l4] [] (mk s' T) P) (Inv := fun _ s' => s' = s) ?_ ?_ rfl hn.1
  · rintro i s' i0 i1 rfl ih l4
    have hj := jo_b g tx f i0
    have q := ih s' rfl
    rw [jo_s i0] at q
    refine g_Af_judgedOtherwise_4 ?_
    rw [e3, hb i i0 i1, w32_id (x := i + 1) (by omega) (by omega), w32_id (x := JO g tx f i + 1) (by omega) (by omega)]
    refine ct i1 (ci (fun c => ct (by omega) (ci (fun c' => ?_) (fun c' => ?_))) (fun c => ct (by omega) (ci (fun c' => ?_) (fun c' => ?_))))
    · rw [has_0 hw.1 i0 (by omega)] at c
      rw [if_pos c', if_neg (by rw [c]; decide)] at q; exact q _
    · rw [has_0 hw.1 i0 (by omega)] at c
      rw [if_neg c', if_neg (by rw [c]; decide)] at q; exact q _
    · rw [has_0 hw.1 i0 (by omega)] at c
      have c : tb (g 3 19) i = true := by cases e : tb (g 3 19) i <;> simp_all
      rw [if_pos c', if_pos c] at q; exact q _
    · rw [has_0 hw.1 i0 (by omega)] at c
      have c : tb (g 3 19) i = true := by cases e : tb (g 3 19) i <;> simp_all
      rw [if_neg c', if_pos c] at q; exact q _
  · rintro s' rfl l4
    refine g_Af_judgedOtherwise_4 ?_
    rw [e3]
    exact cf (by omega) k
def FA (g : Sg) (tx : Int → TA) (k : Int) : Int × Int := it (fun f p => if JO g tx (f + 1) (g 3 0) < p.2 then (f + 1, JO g tx (f + 1) (g 3 0)) else p) (0, JO g tx 0 (g 3 0)) k
theorem fa_s {g : Sg} {tx : Int → TA} {k : Int} (k0 : 0 ≤ k) : FA g tx (k + 1) = if JO g tx (k + 1) (g 3 0) < (FA g tx k).2 then (k + 1, JO g tx (k + 1) (g 3 0)) else FA g tx k := it_s _ _ k0
theorem o_featherForAll {e : Nat} {g : Sg} {T : TT} {tx : Int → TA} {B y : Int} : Op (e + 60) 44 [aR 2, aI y, aU, aU, aU, aU] 298 [aR 70, aI y, aU, aU, aU, aU, aU] g T tx B := by
  refine op_l (fun h hr => ?_)
  have hn := hr.1.1.1.1
  have refs : ∀ h, Rl g h T tx B → ∀ Q : Int → AM → Prop, (∀ h', Rsc h h' → Q (if y = 0 then (FA g tx 999).1 else (FA g tx 999).2) (mk h' T)) → wpI (e + 60) 298 0 [aR 70, aI y, aU, aU, aU, aU, aU] [] (mk h T) Q := by
    intro h hr Q q
    have hw := hr.1.1.1.2.2.2.2.2.2.2
    refine g_Mo_featherForAll_0 ?_
    refine for_up (n := g 3 0) (Hd := fun i s => wpI (e + 60) 298 9 [aR 70, aI y, aI 0, aI 1000000, aI i, aU, aU] [] (mk s T) Q) (Inv := fun i s => Sm [76, 77, 88] h s ∧ ∀ j, 0 ≤ j → j < i → s 88 j = BU g ((rA g tx).1 0) j (g 3 2)) ?_ ?_ ⟨sm_r _ _, fun j _ _ => by omega⟩ hn.1
    · rintro i s i0 i1 ⟨hs, hb⟩ ih
      refine g_Mo_featherForAll_9 ?_
      rw [hs 71 (by decide), hr.1.1.1.1.2.2]
      refine ct i1 (r_burdenOf (td_s hr.1 hs (by decide) (by decide)) (fun s' hs' => g_Mo_featherForAll_32 (ct (by omega) ?_)))
      rw [w32_id (x := i + 1) (by omega) (by omega)]
      refine ih _ ⟨sm_u (sm_t hs (sm_m hs' (by simp))) (by simp), fun j j0 j1 => ?_⟩
      rw [up_e]
      by_cases c : j = i
      · rw [if_pos c, c]
      · rw [if_neg c, hs' 88 (by decide)]; exact hb j j0 (by omega)
    · rintro s ⟨hs, hb⟩
      refine g_Mo_featherForAll_9 ?_
      rw [hs 71 (by decide), hr.1.1.1.1.2.2]
      refine cf (by omega) ?_
      have inner : ∀ (f bst lst : Int), wpI (e + 60) 298 56 [aR 70, aI y, aI bst, aI lst, aI f, aI (JO g tx f (g 3 0)), aI (g 3 0)] [] (mk s T) Q → wpI (e + 60) 298 56 [aR 70, aI y, aI bst, aI lst, aI f, aI 0, aI 0] [] (mk s T) Q := by
        intro f bst lst w
        refine for_up (n := g 3 0) (Hd := fun i s' => wpI (e + 60) 298 56 [aR 70, aI y, aI bst, aI lst, aI f, aI (JO g tx f i), aI i] [] (mk s' T) Q) (Inv := fun _ s' => s' = s) ?_ ?_ rfl hn.1
        · rintro i s' i0 i1 rfl ih
          have hj := jo_b g tx f i0
          have q := ih s' rfl
          rw [jo_s i0] at q
          refine g_Mo_featherForAll_56 ?_
          rw [hs 71 (by decide), hr.1.1.1.1.2.2, hb i i0 i1, hw.2.2, w32_id (x := i + 1) (by omega) (by omega), w32_id (x := JO g tx f i + 1) (by omega) (by omega), Int.add_zero, w32_id (x := JO g tx f i) (by omega) (by omega)]
          refine ct i1 (ct (by omega) (ci (fun c => ci (fun c' => ?_) (fun c' => ?_)) (fun c => ci (fun c' => ?_) (fun c' => ?_)))) <;> rw [has_1 hw.1 i0 (by omega)] at c'
          · rw [if_pos c, if_pos c'] at q; exact q
          · rw [if_pos c, if_neg c'] at q; exact q
          · rw [if_neg c, if_pos c'] at q; exact q
          · rw [if_neg c, if_neg c'] at q; exact q
        · rintro s' rfl; exact w
      have b0 := jo_b g tx 0 hn.1
      refine g_Mo_featherForAll_42 (ct (by omega) (inner 0 0 1000000 (g_Mo_featherForAll_56 ?_)))
      rw [hs 71 (by decide), hr.1.1.1.1.2.2]
      refine cf (by omega) (ct (by omega) ?_)
      rw [show w32 (0 + 1) = 1 + 0 from by unfold w32; omega]
      suffices lp : ∀ l5 l6 : AV, wpI (e + 60) 298 42 [aR 70, aI y, aI 0, aI (JO g tx 0 (g 3 0)), aI (1 + 0), l5, l6] [] (mk s T) Q from lp _ _
      refine for_up (n := 999) (Hd := fun k s' => ∀ l5 l6 : AV, wpI (e + 60) 298 42 [aR 70, aI y, aI (FA g tx k).1, aI (FA g tx k).2, aI (1 + k), l5, l6] [] (mk s' T) Q) (Inv := fun _ s' => s' = s) ?_ ?_ rfl (by omega)
      · rintro k s' k0 k1 rfl ih l5 l6
        have q := ih s' rfl
        rw [fa_s k0] at q
        refine g_Mo_featherForAll_42 (ct (by omega) (inner (1 + k) _ _ (g_Mo_featherForAll_56 ?_)))
        rw [hs 71 (by decide), hr.1.1.1.1.2.2, w32_id (x := 1 + k + 1) (by omega) (by omega), show 1 + k = k + 1 from by omega]
        rw [show 1 + (k + 1) = k + 1 + 1 from by omega] at q
        refine cf (by omega) (ci (fun c => ?_) (fun c => ?_))
        · rw [if_pos c] at q; exact q _ _
        · rw [if_neg c] at q; exact q _ _
      · rintro s' rfl l5 l6
        have q := q s' (rsc_s hs (by decide))
        refine g_Mo_featherForAll_42 (cf (by omega) (ci (fun c => ?_) (fun c => ?_)))
        · rw [if_pos c] at q; exact q
        · rw [if_neg c] at q; exact q
  refine g_Af_featherForAll_0 ?_
  refine for_up (n := g 3 0) (Hd := fun i s => wpI (e + 60) 44 2 [aR 2, aI y, aI i, aU, aU, aU] [] (mk s T) (Lf (e + 60) 298 [aR 70, aI y, aU, aU, aU, aU, aU] g T tx B)) (Inv := fun i s => Sm [40, 41, 69] g s ∧ ∀ j, 0 ≤ j → j < i → s 69 j = BU g ((rA g tx).1 0) j (g 3 2)) ?_ ?_ ⟨sm_r _ _, fun j _ _ => by omega⟩ hn.1
  · rintro i s i0 i1 ⟨hs, hb⟩ ih
    have e3 := hs 3 (by decide)
    refine g_Af_featherForAll_2 ?_
    rw [e3]
    refine ct i1 (c_burden (td_m hr.1 hs (by decide)) (fun s' hs' => g_Af_featherForAll_26 (ct (by omega) ?_)))
    rw [w32_id (x := i + 1) (by omega) (by omega), bu_c (hs 5 (by decide)) (wg_m hs (by decide)), ra_c tx e3, e3]
    refine ih _ ⟨sm_u (sm_t hs (sm_m hs' (by simp))) (by simp), fun j j0 j1 => ?_⟩
    rw [up_e]
    by_cases c : j = i
    · rw [if_pos c, c]
    · rw [if_neg c, hs' 69 (by decide)]; exact hb j j0 (by omega)
  · rintro s ⟨hs, hb⟩
    have e3 := hs 3 (by decide)
    refine g_Af_featherForAll_2 ?_
    rw [e3]
    refine cf (by omega) (c_judgedOtherwise hr.1 e3 hb (g_Af_featherForAll_40 ?_))
    suffices lp : ∀ l5 : AV, wpI (e + 60) 44 44 [aR 2, aI y, aI 0, aI (JO g tx 0 (g 3 0)), aI (1 + 0), l5] [] (mk s T) (Lf (e + 60) 298 [aR 70, aI y, aU, aU, aU, aU, aU] g T tx B) from lp _
    refine for_up (n := 999) (Hd := fun k s' => ∀ l5 : AV, wpI (e + 60) 44 44 [aR 2, aI y, aI (FA g tx k).1, aI (FA g tx k).2, aI (1 + k), l5] [] (mk s' T) (Lf (e + 60) 298 [aR 70, aI y, aU, aU, aU, aU, aU] g T tx B)) (Inv := fun _ s' => s' = s) ?_ ?_ rfl (by omega)
    · rintro k s' k0 k1 rfl ih l5
      have q := ih s' rfl
      rw [fa_s k0] at q
      refine g_Af_featherForAll_44 (cf (by omega) (c_judgedOtherwise hr.1 e3 hb (g_Af_featherForAll_58 ?_)))
      rw [w32_id (x := 1 + k + 1) (by omega) (by omega), show 1 + k = k + 1 from by omega]
      rw [show 1 + (k + 1) = k + 1 + 1 from by omega] at q
      refine ci (fun c => ?_) (fun c => ?_)
      · rw [if_pos c] at q; exact q _
      · rw [if_neg c] at q; exact q _
    · rintro s' rfl l5
      refine g_Af_featherForAll_44 (ct (by omega) (ci (fun c => ?_) (fun c => ?_)))
      · refine lf_s hs (by decide) (fun h hr Q q => refs h hr Q ?_)
        rw [if_pos c]; exact q
      · refine lf_s hs (by decide) (fun h hr Q q => refs h hr Q ?_)
        rw [if_neg c]; exact q
end
