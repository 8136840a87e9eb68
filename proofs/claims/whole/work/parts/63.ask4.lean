noncomputable section
/-! the deed that tells most -/
def HAs (g : Sg) (tx : Int → TA) (d fit w t n : Int) : Int := if tb fit t = true ∧ WG g ((tx t).1 0) d = w then n + 1 else n
def HA (g : Sg) (tx : Int → TA) (d fit w i : Int) : Int := it (HAs g tx d fit w) 0 i
theorem ha_b (g : Sg) (tx : Int → TA) (d fit w : Int) {i : Int} (i0 : 0 ≤ i) : 0 ≤ HA g tx d fit w i ∧ HA g tx d fit w i ≤ i := by
  refine it_inv (n := i) (Q := fun i s => 0 ≤ s ∧ s ≤ i) (by omega) ?_ i i0 (Int.le_refl _)
  intro j s j0 j1 hs
  unfold HAs; split <;> omega
def MAs (g : Sg) (tx : Int → TA) (d fit n t m : Int) : Int := if tb fit t = true then max m (HA g tx d fit (WG g ((tx t).1 0) d) n) else m
def MA (g : Sg) (tx : Int → TA) (d fit n i : Int) : Int := it (MAs g tx d fit n) 0 i
theorem ma_b (g : Sg) (tx : Int → TA) (d fit : Int) {n i : Int} (n0 : 0 ≤ n) (i0 : 0 ≤ i) : 0 ≤ MA g tx d fit n i ∧ MA g tx d fit n i ≤ n := by
  refine it_inv (n := i) (Q := fun _ s => 0 ≤ s ∧ s ≤ n) (by omega) ?_ i i0 (Int.le_refl _)
  intro j s j0 j1 hs
  have := ha_b g tx d fit (WG g ((tx j).1 0) d) n0
  unfold MAs; split <;> omega
theorem c_howMany {d : Nat} {σ η : Sg} {T : TT} {tx : Int → TA} {P : Int → AM → Prop} {dd fit w : Int} (ht : Td σ η T tx) (f0 : 0 ≤ fit) (d0 : 0 ≤ dd) (d1 : dd < σ 3 2) (k : ∀ s, Sm [40, 41] σ s → P (HA σ tx dd fit w (σ 3 13)) (mk s T)) : wpI (d + 4) 141 0 [aR 55, aI dd, aI fit, aI w, aU, aU] [] (mk σ T) P := by
  have h13 := ht.1.1.2.2.2.2.1
  refine g_Fits_howManyAlike_0 ?_
  refine for_up (n := σ 3 13) (Hd := fun i s => wpI (d + 4) 141 6 [aR 55, aI dd, aI fit, aI w, aI (HA σ tx dd fit w i), aI i] [] (mk s T) P) (Inv := fun _ s => Sm [40, 41] σ s) ?_ ?_ (sm_r _ _) h13.1
  · intro i s i0 i1 hs ih
    have e3 := hs 3 (by decide)
    have hb := ha_b σ tx dd fit w i0
    have hi : HA σ tx dd fit w (i + 1) = HAs σ tx dd fit w i (HA σ tx dd fit w i) := it_s _ _ i0
    refine g_Fits_howManyAlike_6 ?_
    rw [e3, hs 13 (by decide), w32_id (x := i + 1) (by omega) (by omega)]
    refine ct i1 (ci (fun c => ?_) (fun c => cf (by omega) (ct i1 (ct (by omega) (c_weight (td_m ht hs (by decide)) (lx_c (tx_l ht i0 i1) (fun a ha => hs a (by simp; omega))) d0 (by rw [e3]; exact d1) (fun s' hs' => g_Fits_howManyAlike_44 ?_))))))
    · have q := ih s hs
      rw [has_0 f0 i0 (by omega)] at c
      rw [hi] at q; unfold HAs at q; rw [if_neg (by rw [c]; simp)] at q; exact q
    · have q := ih s' (sm_t hs hs')
      rw [has_0 f0 i0 (by omega)] at c
      have c : tb fit i = true := by cases e : tb fit i <;> simp_all
      rw [hi] at q; unfold HAs at q
      rw [wg_m hs (by decide), w32_id (x := i + 1) (by omega) (by omega), w32_id (x := HA σ tx dd fit w i + 1) (by omega) (by omega)]
      refine ci (fun c' => ?_) (fun c' => ?_)
      · rw [if_pos ⟨c, c'⟩] at q; exact q
      · rw [if_neg (fun x => c' x.2)] at q; exact q
  · intro s hs
    refine g_Fits_howManyAlike_6 ?_
    rw [hs 3 (by decide)]
    exact cf (by omega) (k s hs)
theorem ha_c {g s : Sg} (h : WG s = WG g) : HA s = HA g := by funext a b c d e; unfold HA HAs; rw [h]
theorem c_mostAlike {d : Nat} {σ η : Sg} {T : TT} {tx : Int → TA} {P : Int → AM → Prop} {dd fit : Int} (ht : Td σ η T tx) (f0 : 0 ≤ fit) (d0 : 0 ≤ dd) (d1 : dd < σ 3 2) (k : ∀ s, Sm [40, 41] σ s → P (MA σ tx dd fit (σ 3 13) (σ 3 13)) (mk s T)) : wpI (d + 5) 140 0 [aR 55, aI dd, aI fit, aU, aU] [] (mk σ T) P := by
  have h13 := ht.1.1.2.2.2.2.1
  refine g_Fits_mostAlike_0 ?_
  refine for_up (n := σ 3 13) (Hd := fun i s => wpI (d + 5) 140 5 [aR 55, aI dd, aI fit, aI (MA σ tx dd fit (σ 3 13) i), aI i] [] (mk s T) P) (Inv := fun _ s => Sm [40, 41] σ s) ?_ ?_ (sm_r _ _) h13.1
  · intro i s i0 i1 hs ih
    have e3 := hs 3 (by decide)
    have hi : MA σ tx dd fit (σ 3 13) (i + 1) = MAs σ tx dd fit (σ 3 13) i (MA σ tx dd fit (σ 3 13) i) := it_s _ _ i0
    refine g_Fits_mostAlike_5 ?_
    rw [e3, hs 13 (by decide), w32_id (x := i + 1) (by omega) (by omega)]
    refine ct i1 (ci (fun c => ?_) (fun c => cf (by omega) (ct i1 (ct (by omega) (c_weight (td_m ht hs (by decide)) (lx_c (tx_l ht i0 i1) (fun a ha => hs a (by simp; omega))) d0 (by rw [e3]; exact d1) (fun s' hs' => g_Fits_mostAlike_47 (c_howMany (td_m ht (sm_t hs hs') (by decide)) f0 d0 (by rw [hs' 3 (by decide), e3]; exact d1) (fun s2 hs2 => g_Fits_mostAlike_50 ?_))))))))
    · have q := ih s hs
      rw [has_0 f0 i0 (by omega)] at c
      rw [hi] at q; unfold MAs at q; rw [if_neg (by rw [c]; simp)] at q; exact q
    · have q := ih s2 (sm_t (sm_t hs hs') hs2)
      rw [has_0 f0 i0 (by omega)] at c
      have c : tb fit i = true := by cases e : tb fit i <;> simp_all
      rw [hi] at q; unfold MAs at q; rw [if_pos c] at q
      rw [wg_m hs (by decide), ha_c (wg_m (sm_t hs hs') (by decide)), hs' 3 (by decide), e3, w32_id (x := i + 1) (by omega) (by omega)]
      exact q
  · intro s hs
    refine g_Fits_mostAlike_5 ?_
    rw [hs 3 (by decide)]
    exact cf (by omega) (k s hs)
theorem r_alikeAt {d : Nat} {γ σ : Sg} {T : TT} {tx : Int → TA} {P : Int → AM → Prop} {dd fit : Int} (ht : Td γ σ T tx) (f0 : 0 ≤ fit) (d0 : 0 ≤ dd) (d1 : dd < γ 3 2) (k : ∀ s, Sm [76, 77] σ s → P (MA γ tx dd fit (γ 3 13) (γ 3 13)) (mk s T)) : wpI (d + 6) 296 0 [aR 70, aI dd, aI fit, aU, aU, aU, aU] [] (mk σ T) P := by
  have h13 := ht.1.1.2.2.2.2.1
  refine g_Mo_alikeAt_0 ?_
  suffices lp : ∀ l5 l6 : AV, wpI (d + 6) 296 5 [aR 70, aI dd, aI fit, aI 0, aI 0, l5, l6] [] (mk σ T) P from lp aU aU
  refine for_up (n := γ 3 13) (Hd := fun i s => ∀ l5 l6 : AV, wpI (d + 6) 296 5 [aR 70, aI dd, aI fit, aI (MA γ tx dd fit (γ 3 13) i), aI i, l5, l6] [] (mk s T) P) (Inv := fun _ s => Sm [76, 77] σ s) ?_ ?_ (sm_r _ _) h13.1
  · intro i s i0 i1 hs ih l5 l6
    have hi : MA γ tx dd fit (γ 3 13) (i + 1) = MAs γ tx dd fit (γ 3 13) i (MA γ tx dd fit (γ 3 13) i) := it_s _ _ i0
    refine g_Mo_alikeAt_5 ?_
    rw [hs 71 (by decide), h13.2.2]
    refine ct i1 ?_
    refine for_up (n := γ 3 13) (Hd := fun u s => wpI (d + 6) 296 23 [aR 70, aI dd, aI fit, aI (MA γ tx dd fit (γ 3 13) i), aI i, aI (HA γ tx dd fit (WG γ ((tx i).1 0) dd) u), aI u] [] (mk s T) P) (Inv := fun _ s => Sm [76, 77] σ s) ?_ ?_ hs h13.1
    · intro u s u0 u1 hs ihu
      have hb := ha_b γ tx dd fit (WG γ ((tx i).1 0) dd) u0
      have hu : HA γ tx dd fit (WG γ ((tx i).1 0) dd) (u + 1) = HAs γ tx dd fit (WG γ ((tx i).1 0) dd) u (HA γ tx dd fit (WG γ ((tx i).1 0) dd) u) := it_s _ _ u0
      refine g_Mo_alikeAt_23 ?_
      rw [hs 71 (by decide), h13.2.2, w32_id (x := u + 1) (by omega) (by omega), Int.add_zero, w32_id (x := HA γ tx dd fit (WG γ ((tx i).1 0) dd) u) (by omega) (by omega)]
      refine ct u1 (ci (fun c => ?_) (fun c => ?_))
      · rw [has_1 f0 u0 (by omega)] at c
        refine c_weightBy (td_s ht hs (by decide) (by decide)) (by rw [hs 73 (by decide)]; exact tx_r ht u0 u1 0) d0 d1 (fun s1 hs1 => g_Mo_alikeAt_53 ?_)
        have hs1' := sm_t hs hs1
        refine c_weightBy (td_s ht hs1' (by decide) (by decide)) (by rw [hs1' 73 (by decide)]; exact tx_r ht i0 i1 0) d0 d1 (fun s2 hs2 => g_Mo_alikeAt_60 ?_)
        have q := ihu s2 (sm_t hs1' hs2)
        rw [hu] at q; unfold HAs at q
        rw [w32_id (x := u + 1) (by omega) (by omega), w32_id (x := HA γ tx dd fit (WG γ ((tx i).1 0) dd) u + 1) (by omega) (by omega), Int.add_zero, w32_id (x := HA γ tx dd fit (WG γ ((tx i).1 0) dd) u) (by omega) (by omega)]
        refine ci (fun c' => ?_) (fun c' => ?_)
        · rw [if_pos ⟨c, c'⟩] at q; exact q
        · rw [if_neg (fun x => c' x.2)] at q; exact q
      · rw [has_1 f0 u0 (by omega)] at c
        have q := ihu s hs
        rw [hu] at q; unfold HAs at q; rw [if_neg (fun x => c x.1)] at q; exact q
    · intro s hs
      refine g_Mo_alikeAt_23 ?_
      rw [hs 71 (by decide), h13.2.2, w32_id (x := i + 1) (by omega) (by omega)]
      have q := ih s hs
      rw [hi] at q; unfold MAs at q
      refine cf (by omega) (ci (fun c => ?_) (fun c => ?_))
      · rw [has_1 f0 i0 (by omega)] at c
        rw [if_pos c] at q
        refine ci (fun c' => ?_) (fun c' => ?_)
        · rw [show max (MA γ tx dd fit (γ 3 13) i) (HA γ tx dd fit (WG γ ((tx i).1 0) dd) (γ 3 13)) = HA γ tx dd fit (WG γ ((tx i).1 0) dd) (γ 3 13) from by omega] at q; exact q _ _
        · rw [show max (MA γ tx dd fit (γ 3 13) i) (HA γ tx dd fit (WG γ ((tx i).1 0) dd) (γ 3 13)) = MA γ tx dd fit (γ 3 13) i from by omega] at q; exact q _ _
      · rw [has_1 f0 i0 (by omega)] at c
        rw [if_neg c] at q; exact q _ _
  · intro s hs l5 l6
    refine g_Mo_alikeAt_5 ?_
    rw [hs 71 (by decide), h13.2.2]
    exact cf (by omega) (k s hs)
def TLs (g : Sg) (tx : Int → TA) (fit : Int) (d : Int) (p : Int × Int) : Int × Int := if MA g tx d fit (g 3 13) (g 3 13) < p.2 then (d, MA g tx d fit (g 3 13) (g 3 13)) else p
def TL (g : Sg) (tx : Int → TA) (fit : Int) (i : Int) : Int × Int := it (TLs g tx fit) (-1, 5) i
theorem o_tells {e : Nat} {g : Sg} {T : TT} {tx : Int → TA} {B : Int} : Op (e + 60) 42 [aR 2] 295 [aR 70, aU, aU, aU, aU, aU] g T tx B := by
  refine op_l (fun h hr => ?_)
  have hd := hr.1.1.1.2.1
  have h13 := hr.1.1.1.2.2.2.2.1
  have fb := ft_b g tx h13.1 h13.2.1
  refine g_Af_tells_0 (g_Fits_mostTelling_0 (c_fit hr.1 (fun s hs => g_Fits_mostTelling_4 ?_)))
  by_cases hz : FT g tx (g 3 13) = 0
  · have fin : ∀ s', Sm [40, 41] g s' → wpI (e + 60) 42 7 [aR 2] [aI (-1)] (mk s' T) (Lf (e + 60) 295 [aR 70, aU, aU, aU, aU, aU] g T tx B) := by
      intro s' hs'
      refine g_Af_tells_7 (lf_s hs' (by decide) (fun h hr Q q => g_Mo_tells_0 (r_fit hr.1 (fun t ht => g_Mo_tells_4 (g_Mo_tells_14 ?_)))))
      have q := q t (rsc_s ht (by decide))
      exact ci (fun _ => ct hz q) (fun _ => q)
    refine g_Fits_mostTelling_12 ?_
    rw [hs 3 (by decide)]
    exact ci (fun _ => ct hz (fin s hs)) (fun _ => fin s hs)
  · suffices lp : ∀ l5 : AV, wpI (e + 59) 139 12 [aR 55, aI (FT g tx (g 3 13)), aI (-1), aI 5, aI 0, l5] [] (mk s T) (fun r M' => wpI (e + 59 + 1) 42 7 [aR 2] [aI r] M' (Lf (e + 60) 295 [aR 70, aU, aU, aU, aU, aU] g T tx B)) from lp aU
    refine for_up (n := g 3 2) (Hd := fun i s => ∀ l5 : AV, wpI (e + 59) 139 12 [aR 55, aI (FT g tx (g 3 13)), aI (TL g tx (FT g tx (g 3 13)) i).1, aI (TL g tx (FT g tx (g 3 13)) i).2, aI i, l5] [] (mk s T) (fun r M' => wpI (e + 59 + 1) 42 7 [aR 2] [aI r] M' (Lf (e + 60) 295 [aR 70, aU, aU, aU, aU, aU] g T tx B))) (Inv := fun _ s => Sm [40, 41] g s) ?_ ?_ hs hd.1
    · intro i s i0 i1 hs ih l5
      have e3 := hs 3 (by decide)
      have hi : TL g tx (FT g tx (g 3 13)) (i + 1) = TLs g tx (FT g tx (g 3 13)) i (TL g tx (FT g tx (g 3 13)) i) := it_s _ _ i0
      refine g_Fits_mostTelling_12 ?_
      rw [e3]
      refine ct i1 (cf hz (c_mostAlike (td_m hr.1 hs (by decide)) fb.1 i0 (by rw [e3]; exact i1) (fun s' hs' => g_Fits_mostTelling_35 ?_)))
      have hma : MA s = MA g := by funext a b c n i; unfold MA MAs; rw [ha_c (wg_m hs (by decide)), wg_m hs (by decide)]
      have q := ih s' (sm_t hs hs')
      rw [hi] at q; unfold TLs at q
      rw [hma, e3, w32_id (x := i + 1) (by omega) (by omega)]
      refine ci (fun c => ?_) (fun c => ?_)
      · rw [if_pos c] at q; exact q _
      · rw [if_neg c] at q; exact q _
    · intro s hs l5
      refine g_Fits_mostTelling_12 ?_
      rw [hs 3 (by decide)]
      refine cf (by omega) (g_Af_tells_7 (lf_s hs (by decide) (fun h hr Q q => g_Mo_tells_0 (r_fit hr.1 (fun t ht => g_Mo_tells_4 ?_)))))
      suffices lp : ∀ (l5 : AV) (w : Int), (w = (TL g tx (FT g tx (g 3 13)) 0).2 ∨ ((TL g tx (FT g tx (g 3 13)) 0).2 = 5 ∧ 5 ≤ w)) → wpI (e + 60) 295 14 [aR 70, aI (FT g tx (g 3 13)), aI (-1), aI w, aI 0, l5] [] (mk t T) Q from lp aU 1000000 (Or.inr ⟨rfl, by omega⟩)
      refine for_up (n := g 3 2) (Hd := fun i t => ∀ (l5 : AV) (w : Int), (w = (TL g tx (FT g tx (g 3 13)) i).2 ∨ ((TL g tx (FT g tx (g 3 13)) i).2 = 5 ∧ 5 ≤ w)) → wpI (e + 60) 295 14 [aR 70, aI (FT g tx (g 3 13)), aI (TL g tx (FT g tx (g 3 13)) i).1, aI w, aI i, l5] [] (mk t T) Q) (Inv := fun _ t => Sm [76, 77] h t) ?_ ?_ ht hd.1
      · intro i t i0 i1 ht ih l5 w hw
        have hi : TL g tx (FT g tx (g 3 13)) (i + 1) = TLs g tx (FT g tx (g 3 13)) i (TL g tx (FT g tx (g 3 13)) i) := it_s _ _ i0
        have hb := ma_b g tx i (FT g tx (g 3 13)) h13.1 h13.1
        refine g_Mo_tells_14 ?_
        rw [ht 71 (by decide), hr.1.1.1.2.1.2.2]
        refine ct i1 (cf hz (r_alikeAt (td_s hr.1 ht (by decide) (by decide)) fb.1 i0 i1 (fun t' ht' => g_Mo_tells_36 ?_)))
        have q := ih t' (sm_t ht ht')
        rw [hi] at q; unfold TLs at q
        rw [w32_id (x := i + 1) (by omega) (by omega)]
        refine ci (fun c => ?_) (fun c => ?_)
        · rw [if_pos (by omega)] at q; exact q _ _ (Or.inl rfl)
        · rw [if_neg (by omega)] at q; exact q _ w hw
      · intro t ht l5 w hw
        refine g_Mo_tells_14 ?_
        rw [ht 71 (by decide), hr.1.1.1.2.1.2.2]
        exact cf (by omega) (q t (rsc_s ht (by decide)))
end
