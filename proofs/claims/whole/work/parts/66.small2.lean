noncomputable section
def cq (c j : Int) : Int := it (fun _ x => x / 7) c j
theorem cq_s {c j : Int} (j0 : 0 ≤ j) : cq c (j + 1) = cq c j / 7 := it_s _ _ j0
theorem cq_b {c j : Int} (c0 : 0 ≤ c) (c1 : c < 2401) (j0 : 0 ≤ j) : 0 ≤ cq c j ∧ cq c j < 2401 := by
  refine it_inv (n := j) (Q := fun _ s => 0 ≤ s ∧ s < 2401) ⟨c0, c1⟩ ?_ j j0 (Int.le_refl _)
  intro i s i0 i1 hs; omega
def ctd (c i : Int) : Int := cq c (3 - i) % 7 - 3
theorem ctd_b (c i : Int) : -3 ≤ ctd c i ∧ ctd c i ≤ 3 := by unfold ctd; omega
def ab (x : Int) : Int := if x < 0 then -x else x
theorem ab_b {x : Int} (h : -3 ≤ x ∧ x ≤ 3) : 0 ≤ ab x ∧ ab x ≤ 3 := by unfold ab; split <;> omega
def szp (c j : Int) : Int := it (fun j s => s + ab (ctd c (3 - j))) 0 j
def szu (c j : Int) : Int := it (fun e s => s + ab (ctd c e)) 0 j
theorem szp_b (c : Int) {j : Int} (j0 : 0 ≤ j) : 0 ≤ szp c j ∧ szp c j ≤ 3 * j := by
  refine it_inv (n := j) (Q := fun i s => 0 ≤ s ∧ s ≤ 3 * i) (by omega) ?_ j j0 (Int.le_refl _)
  intro i s i0 i1 hs; have := ab_b (ctd_b c (3 - i)); omega
theorem szu_b (c : Int) {j : Int} (j0 : 0 ≤ j) : 0 ≤ szu c j ∧ szu c j ≤ 3 * j := by
  refine it_inv (n := j) (Q := fun i s => 0 ≤ s ∧ s ≤ 3 * i) (by omega) ?_ j j0 (Int.le_refl _)
  intro i s i0 i1 hs; have := ab_b (ctd_b c i); omega
theorem sz_e (c : Int) : szp c 4 = szu c 4 := by
  have a : szp c 4 = 0 + ab (ctd c (3 - 0)) + ab (ctd c (3 - 1)) + ab (ctd c (3 - 2)) + ab (ctd c (3 - 3)) := rfl
  have b : szu c 4 = 0 + ab (ctd c 0) + ab (ctd c 1) + ab (ctd c 2) + ab (ctd c 3) := rfl
  rw [a, b, show (3 : Int) - 0 = 3 from rfl, show (3 : Int) - 1 = 2 from rfl, show (3 : Int) - 2 = 1 from rfl, show (3 : Int) - 3 = 0 from rfl]
  omega
theorem c_choose {d : Nat} {σ : Sg} {T : TT} {P : Int → AM → Prop} {c : Int} (c0 : 0 ≤ c) (c1 : c < 2401) (k : ∀ s, Sm [57] σ s → (∀ i, 0 ≤ i → i < 4 → s 57 i = ctd c i) → P (szp c 4) (mk s T)) : wpI d 137 0 [aR 55, aI c, aU, aU, aU] [] (mk σ T) P := by
  refine g_Fits_choose_0 ?_
  have lp : wpI d 137 7 [aR 55, aI c, aI c, aI 0, aI (3 - 0)] [] (mk σ T) P := by
    refine for_up (n := 4) (Hd := fun j s => wpI d 137 7 [aR 55, aI c, aI (cq c j), aI (szp c j), aI (3 - j)] [] (mk s T) P) (Inv := fun j s => Sm [57] σ s ∧ (∀ i, 3 - j < i → i < 4 → s 57 i = ctd c i)) ?_ ?_ ⟨sm_r _ _, fun i _ _ => by omega⟩ (by omega)
    · rintro j s j0 j1 ⟨q1, q2⟩ ih
      have hb := cq_b c0 c1 j0
      have hz := szp_b c j0
      have hc := ctd_b c (3 - j)
      have ha := ab_b hc
      have ec : w32 (Int.tmod (cq c j) 7 - 3) = ctd c (3 - j) := by
        rw [Int.tmod_eq_emod_of_nonneg hb.1, w32_id (by omega) (by omega)]; unfold ctd; rw [show 3 - (3 - j) = j from by omega]
      refine g_Fits_choose_7 ?_
      rw [ec, up_s, Int.tdiv_eq_ediv_of_nonneg hb.1, w32_id (x := cq c j / 7) (by omega) (by omega), w32_id (x := 3 - j + -1) (by omega) (by omega), show 3 - j + -1 = 3 - (j + 1) from by omega, show iab (ctd c (3 - j)) = ab (ctd c (3 - j)) from by unfold iab ab; rw [w32_id (x := -ctd c (3 - j)) (by omega) (by omega)], w32_id (x := szp c j + ab (ctd c (3 - j))) (by omega) (by omega)]
      have q := ih (up s 57 (3 - j) (ctd c (3 - j))) ⟨sm_u q1 (by simp), fun i i0 i1 => ?_⟩
      · rw [cq_s j0, show szp c (j + 1) = szp c j + ab (ctd c (3 - j)) from it_s _ _ j0] at q
        exact cf (by omega) (ct (by omega) (ct (by omega) q))
      · rw [up_e]
        by_cases e : i = 3 - j
        · rw [if_pos e, e]
        · rw [if_neg e]; exact q2 i (by omega) i1
    · rintro s ⟨q1, q2⟩
      exact g_Fits_choose_7 (ct (by omega) (k s q1 (fun i i0 i1 => q2 i (by omega) i1)))
  exact lp
def wsm (g : Sg) (c k j : Int) : Int := it (fun i s => w32 (s + w32 (ctd c i * FS g (g 14 k) i (g 3 2)))) 0 j
def TFp (g : Sg) (c n : Int) : Prop := ∀ k, 0 ≤ k → k < n → wsm g c k 4 = g 15 k
theorem c_triedFits {d : Nat} {g η s : Sg} {T : TT} {tx : Int → TA} {P : Int → AM → Prop} {c : Int} (ht : Td g η T tx) (e3 : s 3 = g 3) (e15 : s 15 = g 15) (h56 : FSa g (s 56) (g 3 16)) (h57 : ∀ i, 0 ≤ i → i < 4 → s 57 i = ctd c i) (k1 : TFp g c (g 3 16) → P 1 (mk s T)) (k0 : ¬ TFp g c (g 3 16) → P 0 (mk s T)) : wpI d 138 0 [aR 55, aU, aU, aU] [] (mk s T) P := by
  have hk := ht.1.1.2.2.2.2.2.2.1
  refine g_Fits_triedFits_0 ?_
  suffices lp : ∀ l2 l3 : AV, wpI d 138 2 [aR 55, aI 0, l2, l3] [] (mk s T) P from lp _ _
  refine for_up (n := g 3 16) (Hd := fun n s' => ∀ l2 l3 : AV, wpI d 138 2 [aR 55, aI n, l2, l3] [] (mk s' T) P) (Inv := fun n s' => s' = s ∧ TFp g c n) ?_ ?_ ⟨rfl, fun k _ _ => by omega⟩ hk.1
  · rintro n s' n0 n1 ⟨rfl, hf⟩ ih l2 l3
    refine g_Fits_triedFits_2 ?_
    rw [e3]
    refine ct n1 ?_
    refine for_up (n := 4) (Hd := fun i s2 => wpI d 138 17 [aR 55, aI n, aI (wsm g c n i), aI i] [] (mk s2 T) P) (Inv := fun _ s2 => s2 = s') ?_ ?_ rfl (by omega)
    · rintro i s2 i0 i1 rfl ihi
      refine g_Fits_triedFits_17 ?_
      have q := ihi s2 rfl
      rw [show wsm g c n (i + 1) = w32 (wsm g c n i + w32 (ctd c i * FS g (g 14 n) i (g 3 2))) from it_s _ _ i0] at q
      rw [w32_id (x := n * 4) (by omega) (by omega), w32_id (x := n * 4 + i) (by omega) (by omega), h57 i i0 i1, h56 n i n0 n1 i0 i1, w32_id (x := i + 1) (by omega) (by omega)]
      exact ct i1 (ct (by omega) (ct (by omega) q))
    · rintro s2 rfl
      refine g_Fits_triedFits_17 (cf (by omega) (ct (by omega) ?_))
      rw [e15, w32_id (x := n + 1) (by omega) (by omega)]
      refine ci (fun c' => ih s2 ⟨rfl, fun k k0' k1' => ?_⟩ _ _) (fun c' => k0 (fun w => c' (w n n0 n1)))
      by_cases e : k = n
      · subst e; exact c'
      · exact hf k k0' (by omega)
  · rintro s' ⟨rfl, hf⟩ l2 l3
    refine g_Fits_triedFits_2 ?_
    rw [e3]
    exact cf (by omega) (k1 hf)
/-- the best up to a choice: its size, and which -/
def SMs (g : Sg) (c : Int) (b : Int × Int) : Int × Int := @ite _ ((b.1 = -1 ∨ szp c 4 < b.1) ∧ TFp g c (g 3 16)) (Classical.propDecidable _) (szp c 4, c) b
def SM (g : Sg) (i : Int) : Int × Int := it (SMs g) (-1, 0) i
theorem sm_p' {g : Sg} {c : Int} {b : Int × Int} (h : (b.1 = -1 ∨ szp c 4 < b.1) ∧ TFp g c (g 3 16)) : SMs g c b = (szp c 4, c) := @if_pos _ (Classical.propDecidable _) h _ _ _
theorem sm_n' {g : Sg} {c : Int} {b : Int × Int} (h : ¬ ((b.1 = -1 ∨ szp c 4 < b.1) ∧ TFp g c (g 3 16))) : SMs g c b = b := @if_neg _ (Classical.propDecidable _) h _ _ _
theorem sm_b' (g : Sg) {i : Int} (i0 : 0 ≤ i) : (SM g i).1 = -1 ∨ (0 ≤ (SM g i).1 ∧ (SM g i).1 ≤ 12) := by
  refine it_inv (n := i) (Q := fun _ (b : Int × Int) => b.1 = -1 ∨ (0 ≤ b.1 ∧ b.1 ≤ 12)) (Or.inl rfl) ?_ i i0 (Int.le_refl _)
  intro c b c0 c1 hb
  have := szp_b c (j := 4) (by omega)
  by_cases q : (b.1 = -1 ∨ szp c 4 < b.1) ∧ TFp g c (g 3 16)
  · rw [sm_p' q]; right; exact ⟨this.1, by show szp c 4 ≤ 12; omega⟩
  · rw [sm_n' q]; exact hb
theorem c_findSmallest {d : Nat} {g η : Sg} {T : TT} {tx : Int → TA} {P : Int → AM → Prop} (ht : Td g η T tx) (k0 : (SM g 2401).1 = -1 → ∀ s, Sm [56, 57, 58] g s → P 0 (mk s T)) (k1 : (SM g 2401).1 ≠ -1 → ∀ s, Sm [56, 57, 58] g s → (∀ i, 0 ≤ i → i < 4 → s 58 i = ctd (SM g 2401).2 i) → P 1 (mk s T)) : wpI (d + 1) 135 0 [aR 55, aU, aU, aU] [] (mk g T) P := by
  have hk := ht.1.1.2.2.2.2.2.2.1
  refine g_Fits_findSmallest_0 ?_
  refine for_up (n := g 3 16) (Hd := fun n s => wpI (d + 1) 135 2 [aR 55, aI n, aU, aU] [] (mk s T) P) (Inv := fun n s => Sm [56] g s ∧ FSa g (s 56) n) ?_ ?_ ⟨sm_r _ _, fun k i _ _ => by omega⟩ hk.1
  · rintro n s n0 n1 ⟨hs, hf⟩ ih
    refine g_Fits_findSmallest_2 ?_
    rw [hs 3 (by decide)]
    refine ct n1 (c_sumUp ht hs n0 (by omega) (fun s' q1 q2 q3 => g_Fits_findSmallest_18 ?_))
    rw [w32_id (x := n + 1) (by omega) (by omega)]
    refine ih s' ⟨q1, fun k i k0 k1 i0 i1 => ?_⟩
    by_cases e : k = n
    · subst e; exact q3 i i0 i1
    · rw [q2 _ (by omega)]; exact hf k i k0 (by omega) i0 i1
  · rintro s ⟨hs, hf⟩
    refine g_Fits_findSmallest_2 ?_
    rw [hs 3 (by decide)]
    refine cf (by omega) ?_
    suffices lp : ∀ l3 : AV, wpI (d + 1) 135 28 [aR 55, aI (-1), aI 0, l3] [] (mk s T) P from lp _
    refine for_up (n := 2401) (Hd := fun c s => ∀ l3 : AV, wpI (d + 1) 135 28 [aR 55, aI (SM g c).1, aI c, l3] [] (mk s T) P) (Inv := fun c s => Sm [56, 57, 58] g s ∧ FSa g (s 56) (g 3 16) ∧ ((SM g c).1 ≠ -1 → ∀ i, 0 ≤ i → i < 4 → s 58 i = ctd (SM g c).2 i)) ?_ ?_ ⟨sm_m hs (by simp), hf, fun w => absurd rfl w⟩ (by omega)
    · rintro c s c0 c1 ⟨hs, hf, h58⟩ ih l3
      have hi : SM g (c + 1) = SMs g c (SM g c) := it_s _ _ c0
      refine g_Fits_findSmallest_28 (ct c1 (c_choose c0 c1 (fun s1 hs1 h57 => g_Fits_findSmallest_40 ?_)))
      have hs1' : Sm [56, 57, 58] g s1 := sm_t hs (sm_m hs1 (by simp))
      have h561 : FSa g (s1 56) (g 3 16) := by rw [hs1 56 (by decide)]; exact hf
      have h581 : (SM g c).1 ≠ -1 → ∀ i, 0 ≤ i → i < 4 → s1 58 i = ctd (SM g c).2 i := by rw [hs1 58 (by decide)]; exact h58
      have keep : ∀ l3 : AV, ¬ (((SM g c).1 = -1 ∨ szp c 4 < (SM g c).1) ∧ TFp g c (g 3 16)) → wpI (d + 1) 135 28 [aR 55, aI (SM g c).1, aI (c + 1), l3] [] (mk s1 T) P := by
        intro l3 w
        have q := ih s1 ⟨hs1', h561, by rw [hi, sm_n' w]; exact h581⟩ l3
        rw [hi, sm_n' w] at q; exact q
      have tr : ((SM g c).1 = -1 ∨ szp c 4 < (SM g c).1) → wpI d 138 0 [aR 55, aU, aU, aU] [] (mk s1 T) (fun r M' => wpI (d + 1) 135 55 [aR 55, aI (SM g c).1, aI c, aI (szp c 4)] [aI r] M' P) := by
        intro w
        refine c_triedFits ht (hs1' 3 (by decide)) (hs1' 15 (by decide)) h561 h57 (fun hf => g_Fits_findSmallest_55 (cf (by omega) ?_)) (fun hf => g_Fits_findSmallest_55 (ct rfl ?_))
        · rw [w32_id (x := c + 1) (by omega) (by omega)]
          have q := ih (cp s1 57 0 58 0 4) ⟨sm_cp hs1' (by simp), by rw [cp_c (by decide)]; exact h561, fun _ i i0 i1 => ?_⟩ (aI (szp c 4))
          · rw [hi, sm_p' ⟨w, hf⟩] at q; exact q
          · rw [hi, sm_p' ⟨w, hf⟩, cp_e, if_pos (by omega), show 0 + (i - 0) = i from by omega]; exact h57 i i0 i1
        · rw [w32_id (x := c + 1) (by omega) (by omega)]; exact keep _ (fun x => hf x.2)
      refine ci (fun c' => tr (Or.inl c')) (fun c' => ci (fun c'' => tr (Or.inr c'')) (fun c'' => ?_))
      rw [w32_id (x := c + 1) (by omega) (by omega)]; exact keep _ (fun x => x.1.elim c' c'')
    · rintro s ⟨hs, hf, h58⟩ l3
      exact g_Fits_findSmallest_28 (cf (by omega) (ci (fun c => k0 c s hs) (fun c => k1 c s hs (h58 c))))
theorem r_findFacts {d : Nat} {γ σ : Sg} {T : TT} {tx : Int → TA} {P : AM → Prop} (ht : Td γ σ T tx) (k : ∀ s, Sm [86] σ s → FSa γ (s 86) (γ 3 16) → P (mk s T)) : wpV (d + 1) 292 0 [aR 70, aU, aU, aU] [] (mk σ T) P := by
  have hk := ht.1.1.2.2.2.2.2.2.1
  have hd := ht.1.1.2.1
  refine g_Mo_findFacts_0 ?_
  suffices lp : ∀ l2 : AV, wpV (d + 1) 292 2 [aR 70, aI 0, l2, aU] [] (mk σ T) P from lp _
  refine for_up (n := γ 3 16) (Hd := fun n s => ∀ l2 : AV, wpV (d + 1) 292 2 [aR 70, aI n, l2, aU] [] (mk s T) P) (Inv := fun n s => Sm [86] σ s ∧ FSa γ (s 86) n) ?_ ?_ ⟨sm_r _ _, fun k i _ _ => by omega⟩ hk.1
  · rintro n s n0 n1 ⟨hs, hf⟩ ih l2
    have hkk := ht.1.2.2.2.2.2 n n0 n1
    refine g_Mo_findFacts_2 ?_
    rw [hs 71 (by decide), hk.2.2]
    refine ct n1 ?_
    refine for_up (n := 4) (Hd := fun i s' => wpV (d + 1) 292 15 [aR 70, aI n, aI i, aU] [] (mk s' T) P) (Inv := fun m s' => Sm [86] σ s' ∧ (∀ i, i < 4 * n ∨ 4 * n + 4 ≤ i → s' 86 i = s 86 i) ∧ (∀ i, 0 ≤ i → i < m → s' 86 (4 * n + i) = 0)) ?_ ?_ ⟨hs, fun _ _ => rfl, fun i _ _ => by omega⟩ (by omega)
    · rintro i s' i0 i1 ⟨q1, q2, q3⟩ ihi
      refine g_Mo_findFacts_15 ?_
      rw [w32_id (x := 4 * n) (by omega) (by omega), w32_id (x := 4 * n + i) (by omega) (by omega), w32_id (x := i + 1) (by omega) (by omega)]
      refine ct i1 (ct (by omega) (ihi _ ⟨sm_u q1 (by simp), fun j hj => by rw [up_i (by omega)]; exact q2 j hj, fun j j0 j1 => ?_⟩))
      rw [up_e]
      by_cases c : j = i
      · rw [if_pos (by omega)]
      · rw [if_neg (by omega)]; exact q3 j j0 (by omega)
    · rintro s' ⟨q1, q2, q3⟩
      refine g_Mo_findFacts_15 (cf (by omega) ?_)
      suffices lp : ∀ l3 : AV, wpV (d + 1) 292 39 [aR 70, aI n, aI 0, l3] [] (mk s' T) P from lp _
      refine for_up (n := γ 3 2) (Hd := fun j s' => ∀ l3 : AV, wpV (d + 1) 292 39 [aR 70, aI n, aI j, l3] [] (mk s' T) P) (Inv := fun j s' => Sm [86] σ s' ∧ (∀ i, i < 4 * n ∨ 4 * n + 4 ≤ i → s' 86 i = s 86 i) ∧ (∀ i, 0 ≤ i → i < 4 → s' 86 (4 * n + i) = FS γ (γ 14 n) i j)) ?_ ?_ ⟨q1, q2, q3⟩ hd.1
      · rintro j s' j0 j1 ⟨q1, q2, q3⟩ ihj l3
        obtain ⟨a1, a2, a3, a4, _⟩ := ht.1.2.2.1 j j0 j1
        have u0 := q3 0 (by omega) (by omega)
        rw [Int.add_zero] at u0
        refine g_Mo_findFacts_39 ?_
        rw [q1 71 (by decide), hd.2.2, w32_id (x := 6 * j) (by omega) (by omega), w32_id (x := 90 + 6 * j) (by omega) (by omega), w32_id (x := 90 + 6 * j + 0) (by omega) (by omega), w32_id (x := 90 + 6 * j + 2) (by omega) (by omega), w32_id (x := 2 * n) (by omega) (by omega), w32_id (x := 248 + 2 * n) (by omega) (by omega), w32_id (x := 4 * n) (by omega) (by omega), w32_id (x := j + 1) (by omega) (by omega), a1.2.2, a3.2.2, hkk.2.2.2.2.1, u0]
        refine ct j1 (ct (by omega) (ct (by omega) (ci (fun c => ct (by omega) (ct (by omega) (ct (by omega) ?_))) (fun c => ?_))))
        · refine for_up (n := 3) (Hd := fun e s2 => wpV (d + 1) 292 92 [aR 70, aI n, aI j, aI e] [] (mk s2 T) P) (Inv := fun m s2 => Sm [86] σ s2 ∧ (∀ i, i < 4 * n ∨ 4 * n + 4 ≤ i → s2 86 i = s 86 i) ∧ (∀ i, 0 ≤ i → i ≤ m → s2 86 (4 * n + i) = w32 (FS γ (γ 14 n) i j + fvl γ j i)) ∧ (∀ i, m < i → i < 4 → s2 86 (4 * n + i) = FS γ (γ 14 n) i j)) ?_ ?_ ⟨sm_u q1 (by simp), fun i hi => by rw [up_i (by omega)]; exact q2 i hi, fun i i0 i1 => ?_, fun i i0 i1 => by rw [up_i (by omega)]; exact q3 i (by omega) i1⟩ (by omega)
          · rintro m s2 m0 m1 ⟨b1, b2, b3, b4⟩ ihm
            refine g_Mo_findFacts_92 ?_
            have hv : bA (sR (γ 8 j) m) 1 = fvl γ j (1 + m) := by
              rw [bA_1]
              rcases (by omega : m = 0 ∨ m = 1 ∨ m = 2) with rfl | rfl | rfl
              · rw [sR_n (by omega) (by omega)]; unfold fvl; rw [if_neg (by omega), if_pos (by omega)]; show γ 8 j / 1 % 2 = _; omega
              · rw [sR_n (by omega) (by omega)]; unfold fvl; rw [if_neg (by omega), if_neg (by omega), if_pos (by omega)]; show γ 8 j / 2 % 2 = _; omega
              · rw [sR_n (by omega) (by omega)]; unfold fvl; rw [if_neg (by omega), if_neg (by omega), if_neg (by omega)]; show γ 8 j / 4 % 2 = _; omega
            rw [b1 71 (by decide), w32_id (x := 6 * j) (by omega) (by omega), w32_id (x := 90 + 6 * j) (by omega) (by omega), w32_id (x := 90 + 6 * j + 3) (by omega) (by omega), w32_id (x := 4 * n) (by omega) (by omega), w32_id (x := 4 * n + 1) (by omega) (by omega), w32_id (x := 4 * n + 1 + m) (by omega) (by omega), w32_id (x := m + 1) (by omega) (by omega), a4.2.2, hv, show 4 * n + 1 + m = 4 * n + (1 + m) from by omega, b4 (1 + m) (by omega) (by omega)]
            refine ct m1 (ct (by omega) (ct (by omega) (ct (by omega) (ihm _ ⟨sm_u b1 (by simp), fun i hi => by rw [up_i (by omega)]; exact b2 i hi, fun i i0 i1 => ?_, fun i i0 i1 => by rw [up_i (by omega)]; exact b4 i (by omega) i1⟩))))
            rw [up_e]
            by_cases c' : i = 1 + m
            · rw [if_pos (by omega), c']
            · rw [if_neg (by omega)]; exact b3 i i0 (by omega)
          · rintro s2 ⟨b1, b2, b3, b4⟩
            refine g_Mo_findFacts_92 (cf (by omega) ?_)
            rw [w32_id (x := j + 1) (by omega) (by omega)]
            refine ihj s2 ⟨b1, b2, fun i i0 i1 => ?_⟩ _
            rw [fs_s j0, if_pos c]; exact b3 i i0 (by omega)
          · have : i = 0 := by omega
            subst this
            rw [Int.add_zero, up_s]; rfl
        · refine ihj s' ⟨q1, q2, fun i i0 i1 => ?_⟩ _
          rw [fs_s j0, if_neg c]; exact q3 i i0 i1
      · rintro s' ⟨q1, q2, q3⟩ l3
        refine g_Mo_findFacts_39 ?_
        rw [q1 71 (by decide), hd.2.2, w32_id (x := n + 1) (by omega) (by omega)]
        refine cf (by omega) (ih s' ⟨q1, fun k i k0 k1 i0 i1 => ?_⟩ _)
        by_cases e : k = n
        · subst e; rw [show k * 4 + i = 4 * k + i from by omega]; exact q3 i i0 i1
        · rw [q2 _ (by omega)]; exact hf k i k0 (by omega) i0 i1
  · rintro s ⟨hs, hf⟩ l2
    refine g_Mo_findFacts_2 ?_
    rw [hs 71 (by decide), hk.2.2]
    exact cf (by omega) (k s hs hf)
theorem r_isRight {d : Nat} {γ σ : Sg} {T : TT} {tx : Int → TA} {P : Int → AM → Prop} {c : Int} (ht : Td γ σ T tx) (hf : FSa γ (σ 86) (γ 3 16)) (c0 : 0 ≤ c) (c1 : c < 2401) (k1 : TFp γ c (γ 3 16) → ∀ s, Sm [87] σ s → (∀ i, 0 ≤ i → i < 4 → s 87 i = ctd c i) → P 1 (mk s T)) (k0 : ¬ TFp γ c (γ 3 16) → ∀ s, Sm [87] σ s → P 0 (mk s T)) : wpI d 293 0 [aR 70, aI c, aU, aU, aU] [] (mk σ T) P := by
  have hk := ht.1.1.2.2.2.2.2.2.1
  refine g_Mo_isRight_0 ?_
  have lp : wpI d 293 4 [aR 70, aI c, aI (3 - 0), aI c, aU] [] (mk σ T) P := by
    refine for_up (n := 4) (Hd := fun j s => wpI d 293 4 [aR 70, aI c, aI (3 - j), aI (cq c j), aU] [] (mk s T) P) (Inv := fun j s => Sm [87] σ s ∧ (∀ i, 3 - j < i → i < 4 → s 87 i = ctd c i)) ?_ ?_ ⟨sm_r _ _, fun i _ _ => by omega⟩ (by omega)
    · rintro j s j0 j1 ⟨q1, q2⟩ ih
      have hb := cq_b c0 c1 j0
      have hc := ctd_b c (3 - j)
      have ec : w32 (Int.tmod (cq c j) 7 - 3) = ctd c (3 - j) := by
        rw [Int.tmod_eq_emod_of_nonneg hb.1, w32_id (by omega) (by omega)]; unfold ctd; rw [show 3 - (3 - j) = j from by omega]
      refine g_Mo_isRight_4 ?_
      rw [ec, Int.tdiv_eq_ediv_of_nonneg hb.1, w32_id (x := cq c j / 7) (by omega) (by omega), w32_id (x := 3 - j + -1) (by omega) (by omega), show 3 - j + -1 = 3 - (j + 1) from by omega]
      have q := ih (up s 87 (3 - j) (ctd c (3 - j))) ⟨sm_u q1 (by simp), fun i i0 i1 => ?_⟩
      · rw [cq_s j0] at q
        exact cf (by omega) (ct (by omega) q)
      · rw [up_e]
        by_cases e : i = 3 - j
        · rw [if_pos e, e]
        · rw [if_neg e]; exact q2 i (by omega) i1
    · rintro s ⟨q1, q2⟩
      have q2 : ∀ i, 0 ≤ i → i < 4 → s 87 i = ctd c i := fun i i0 i1 => q2 i (by omega) i1
      refine g_Mo_isRight_4 (ct (by omega) ?_)
      suffices lp : ∀ (l3 : Int) (l4 : AV), wpI d 293 33 [aR 70, aI c, aI 0, aI l3, l4] [] (mk s T) P from lp _ _
      refine for_up (n := γ 3 16) (Hd := fun n s' => ∀ (l3 : Int) (l4 : AV), wpI d 293 33 [aR 70, aI c, aI n, aI l3, l4] [] (mk s' T) P) (Inv := fun n s' => s' = s ∧ TFp γ c n) ?_ ?_ ⟨rfl, fun k _ _ => by omega⟩ hk.1
      · rintro n s' n0 n1 ⟨rfl, hff⟩ ih l3 l4
        have hkk := ht.1.2.2.2.2.2 n n0 n1
        refine g_Mo_isRight_33 ?_
        rw [q1 71 (by decide), hk.2.2]
        refine ct n1 ?_
        refine for_up (n := 4) (Hd := fun i s2 => wpI d 293 49 [aR 70, aI c, aI n, aI (wsm γ c n i), aI i] [] (mk s2 T) P) (Inv := fun _ s2 => s2 = s') ?_ ?_ rfl (by omega)
        · rintro i s2 i0 i1 rfl ihi
          refine g_Mo_isRight_49 ?_
          have q := ihi s2 rfl
          rw [show wsm γ c n (i + 1) = w32 (wsm γ c n i + w32 (ctd c i * FS γ (γ 14 n) i (γ 3 2))) from it_s _ _ i0] at q
          rw [w32_id (x := 4 * n) (by omega) (by omega), w32_id (x := 4 * n + i) (by omega) (by omega), q2 i i0 i1, q1 86 (by decide), show 4 * n + i = n * 4 + i from by omega, hf n i n0 n1 i0 i1, w32_id (x := i + 1) (by omega) (by omega)]
          exact ct i1 (ct (by omega) (ct (by omega) q))
        · rintro s2 rfl
          refine g_Mo_isRight_49 ?_
          rw [q1 71 (by decide), w32_id (x := 2 * n) (by omega) (by omega), w32_id (x := 248 + 2 * n) (by omega) (by omega), w32_id (x := 248 + 2 * n + 1) (by omega) (by omega), hkk.2.2.2.2.2, w32_id (x := n + 1) (by omega) (by omega)]
          refine cf (by omega) (ct (by omega) (ci (fun c' => ih s2 ⟨rfl, fun k k0' k1' => ?_⟩ _ _) (fun c' => k0 (fun w => c' (w n n0 n1)) s2 q1)))
          by_cases e : k = n
          · subst e; exact c'
          · exact hff k k0' (by omega)
      · rintro s' ⟨rfl, hff⟩ l3 l4
        refine g_Mo_isRight_33 ?_
        rw [q1 71 (by decide), hk.2.2]
        exact cf (by omega) (k1 hff s' q1 q2)
  exact lp
theorem o_smallest {e : Nat} {g : Sg} {T : TT} {tx : Int → TA} {B x : Int} : Op (e + 60) 41 [aR 2, aI x] 291 [aR 70, aI x, aU, aU, aU, aU, aU] g T tx B := by
  refine op_l (fun h hr => ?_)
  have no : (x < 0 ∨ 4 ≤ x) → Lf (e + 60) 291 [aR 70, aI x, aU, aU, aU, aU, aU] g T tx B (-100) (mk g T) := by
    intro hx
    refine lf_n (fun h hr Q q => g_Mo_smallest_0 ?_)
    exact ci (fun _ => q) (fun _ => ct (by omega) q)
  refine g_Af_smallest_0 (ci (fun _ => no (by omega)) (fun c1 => ci (fun c2 => ?_) (fun _ => no (by omega))))
  have refs : ∀ h, Rl g h T tx B → ∀ Q : Int → AM → Prop, (∀ h', Rsc h h' → Q (if (SM g 2401).1 = -1 then -100 else ctd (SM g 2401).2 x) (mk h' T)) → wpI (e + 60) 291 0 [aR 70, aI x, aU, aU, aU, aU, aU] [] (mk h T) Q := by
    intro h hr Q q
    refine g_Mo_smallest_0 (cf c1 (cf (by omega) (r_findFacts hr.1 (fun s hs hf => g_Mo_smallest_16 ?_))))
    suffices lp : ∀ (l5 l6 : AV) (fo le : Int), fo = (if (SM g 0).1 = -1 then -100 else ctd (SM g 0).2 x) → le = (if (SM g 0).1 = -1 then 1000000 else (SM g 0).1) → wpI (e + 60) 291 26 [aR 70, aI x, aI fo, aI le, aI 0, l5, l6] [] (mk s T) Q from lp _ _ _ _ rfl rfl
    refine for_up (n := 2401) (Hd := fun c s => ∀ (l5 l6 : AV) (fo le : Int), fo = (if (SM g c).1 = -1 then -100 else ctd (SM g c).2 x) → le = (if (SM g c).1 = -1 then 1000000 else (SM g c).1) → wpI (e + 60) 291 26 [aR 70, aI x, aI fo, aI le, aI c, l5, l6] [] (mk s T) Q) (Inv := fun _ s => Sm [86, 87] h s ∧ FSa g (s 86) (g 3 16)) ?_ ?_ ⟨sm_m hs (by simp), hf⟩ (by omega)
    · rintro c s c0 c1' ⟨hs, hf⟩ ih l5 l6 fo le hfo hle
      have hi : SM g (c + 1) = SMs g c (SM g c) := it_s _ _ c0
      have hb := sm_b' g c0
      have hz := szp_b c (j := 4) (by omega)
      refine g_Mo_smallest_26 (ct c1' (r_isRight (td_s hr.1 hs (by decide) (by decide)) hf c0 c1' (fun ht s1 hs1 h87 => g_Mo_smallest_40 (cf (by omega) ?_)) (fun ht s1 hs1 => g_Mo_smallest_40 (ct rfl ?_))))
      · have hs1' : Sm [86, 87] h s1 := sm_t hs (sm_m hs1 (by simp))
        refine for_up (n := 4) (Hd := fun i s2 => wpI (e + 60) 291 52 [aR 70, aI x, aI fo, aI le, aI c, aI (szu c i), aI i] [] (mk s2 T) Q) (Inv := fun _ s2 => s2 = s1) ?_ ?_ rfl (by omega)
        · rintro i s2 i0 i1 rfl ihi
          have hu := szu_b c i0
          have hc := ctd_b c i
          have ha := ab_b hc
          have q := ihi s2 rfl
          rw [show szu c (i + 1) = szu c i + ab (ctd c i) from it_s _ _ i0] at q
          refine g_Mo_smallest_52 ?_
          rw [h87 i i0 i1, w32_id (x := i + 1) (by omega) (by omega), w32_id (x := -ctd c i) (by omega) (by omega), w32_id (x := szu c i + -ctd c i) (by omega) (by omega), w32_id (x := szu c i + ctd c i) (by omega) (by omega)]
          refine ct i1 (ct (by omega) (ci (fun c' => ?_) (fun c' => ?_)))
          · rw [show ab (ctd c i) = -ctd c i from by unfold ab; rw [if_pos c']] at q; exact q
          · rw [show ab (ctd c i) = ctd c i from by unfold ab; rw [if_neg c']] at q; exact q
        · rintro s2 rfl
          refine g_Mo_smallest_52 ?_
          rw [← sz_e, w32_id (x := c + 1) (by omega) (by omega)]
          have q := ih s2 ⟨hs1', by rw [hs1 86 (by decide)]; exact hf⟩
          rw [hi] at q
          refine cf (by omega) (ci (fun c' => ct (by omega) ?_) (fun c' => ?_))
          · have w : ((SM g c).1 = -1 ∨ szp c 4 < (SM g c).1) ∧ TFp g c (g 3 16) := by
              refine ⟨?_, ht⟩
              by_cases z : (SM g c).1 = -1
              · exact Or.inl z
              · rw [if_neg z] at hle; right; omega
            rw [sm_p' w] at q
            rw [h87 x (by omega) c2]
            refine q _ _ _ _ ?_ ?_
            · show _ = if szp c 4 = -1 then _ else _
              rw [if_neg (by omega)]
            · show _ = if szp c 4 = -1 then _ else _
              rw [if_neg (by omega)]
          · have w : ¬ (((SM g c).1 = -1 ∨ szp c 4 < (SM g c).1) ∧ TFp g c (g 3 16)) := by
              rintro ⟨w1, _⟩
              by_cases z : (SM g c).1 = -1
              · rw [if_pos z] at hle; omega
              · rw [if_neg z] at hle; omega
            rw [sm_n' w] at q
            exact q _ _ _ _ hfo hle
      · rw [w32_id (x := c + 1) (by omega) (by omega)]
        have q := ih s1 ⟨sm_t hs (sm_m hs1 (by simp)), by rw [hs1 86 (by decide)]; exact hf⟩
        rw [hi, sm_n' (fun x => ht x.2)] at q
        exact q _ _ _ _ hfo hle
    · rintro s ⟨hs, hf⟩ l5 l6 fo le hfo hle
      refine g_Mo_smallest_26 (cf (by omega) ?_)
      rw [hfo]; exact q s (rsc_s hs (by decide))
  refine c_findSmallest hr.1 (fun c s hs => g_Af_smallest_16 (ct rfl (lf_s hs (by decide) (fun h hr Q q => refs h hr Q ?_)))) (fun c s hs h58 => g_Af_smallest_16 (cf (by omega) (ct (by omega) ?_)))
  · rw [if_pos c]; exact q
  · rw [h58 x (by omega) c2]
    refine lf_s hs (by decide) (fun h hr Q q => refs h hr Q ?_)
    rw [if_neg c]; exact q
end
