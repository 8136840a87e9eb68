noncomputable section
/-! a heart's deeds in a row -/
def DL (g : Sg) (h i : Int) : List Int := it (fun d s => if g 5 d = h then s ++ [d] else s) [] i
theorem dl_s {g : Sg} {h i : Int} (i0 : 0 ≤ i) : DL g h (i + 1) = if g 5 i = h then DL g h i ++ [i] else DL g h i := it_s _ _ i0
theorem dl_m {g : Sg} {h : Int} : ∀ n : Nat, (∀ d, d ∈ DL g h n ↔ (0 ≤ d ∧ d < n ∧ g 5 d = h)) ∧ (DL g h n).Pairwise (· < ·) ∧ (DL g h n).length ≤ n
  | 0 => ⟨fun d => ⟨fun q => absurd q List.not_mem_nil, fun q => by omega⟩, List.Pairwise.nil, Nat.le_refl _⟩
  | n + 1 => by
    obtain ⟨h1, h2, h3⟩ := dl_m (g := g) (h := h) n
    have e : ((n + 1 : Nat) : Int) = (n : Int) + 1 := by omega
    rw [e, dl_s (by omega)]
    split
    · rename_i hd
      refine ⟨fun d => ?_, ?_, ?_⟩
      · rw [List.mem_append, h1, List.mem_singleton]
        constructor
        · rintro (q | q)
          · exact ⟨q.1, by omega, q.2.2⟩
          · subst q; exact ⟨by omega, by omega, hd⟩
        · rintro ⟨q1, q2, q3⟩
          by_cases q : d < n
          · exact Or.inl ⟨q1, q, q3⟩
          · exact Or.inr (by omega)
      · rw [List.pairwise_append]
        refine ⟨h2, List.pairwise_singleton _ _, fun a ha b hb => ?_⟩
        rw [List.mem_singleton] at hb
        have := (h1 a).mp ha
        omega
      · rw [List.length_append, List.length_singleton]; omega
    · rename_i hd
      refine ⟨fun d => ?_, h2, by omega⟩
      rw [h1]
      constructor
      · rintro ⟨q1, q2, q3⟩; exact ⟨q1, by omega, q3⟩
      · rintro ⟨q1, q2, q3⟩
        refine ⟨q1, ?_, q3⟩
        by_cases q : d = n
        · subst q; exact absurd q3 hd
        · omega
/-- the row of all its deeds -/
def RW (g : Sg) (h : Int) : List Int := DL g h (g 3 2)
theorem rw_m {g η : Sg} {T : TT} {tx : Int → TA} (ht : Td g η T tx) (h : Int) : (∀ d, d ∈ RW g h ↔ (0 ≤ d ∧ d < g 3 2 ∧ g 5 d = h)) ∧ (RW g h).Pairwise (· < ·) ∧ (RW g h).length ≤ 24 := by
  have hd := ht.1.1.2.1
  obtain ⟨h1, h2, h3⟩ := dl_m (g := g) (h := h) (g 3 2).toNat
  rw [show (((g 3 2).toNat : Nat) : Int) = g 3 2 from by omega] at h1 h2 h3
  exact ⟨h1, h2, by unfold RW; omega⟩
theorem rw_c {g s : Sg} (h3 : s 3 = g 3) (h5 : s 5 = g 5) : RW s = RW g := by funext h; unfold RW DL; rw [h3, h5]
/-- an array that begins with a list -/
def Ar (f : Int → Int) (L : List Int) : Prop := ∀ i : Nat, i < L.length → f i = L.getD i 0
theorem getD_e {L : List Int} {i : Nat} (h : i < L.length) : L.getD i 0 = L[i] := by rw [List.getD_eq_getElem?_getD, List.getElem?_eq_getElem h]; rfl
theorem ar_a {f : Int → Int} {L : List Int} {x : Int} (h : Ar f L) (hx : f L.length = x) : Ar f (L ++ [x]) := by
  intro i hi
  rw [List.length_append, List.length_singleton] at hi
  by_cases q : i < L.length
  · rw [h i q, getD_e q, getD_e (by rw [List.length_append]; omega), List.getElem_append_left q]
  · have e : i = L.length := by omega
    subst e
    rw [hx, getD_e (by rw [List.length_append, List.length_singleton]; omega), List.getElem_append_right (Nat.le_refl _)]
    simp
theorem ar_c {f f' : Int → Int} {L : List Int} (h : Ar f L) (e : ∀ i : Int, 0 ≤ i → i < L.length → f' i = f i) : Ar f' L := fun i hi => by rw [e i (by omega) (by omega)]; exact h i hi
theorem ar_i {f : Int → Int} {L : List Int} (h : Ar f L) {i : Int} (i0 : 0 ≤ i) (i1 : i < L.length) : f i = L.getD i.toNat 0 := by
  have := h i.toNat (by omega)
  rw [show ((i.toNat : Nat) : Int) = i from by omega] at this
  exact this
theorem getD_mem {L : List Int} {i : Nat} (h : i < L.length) : L.getD i 0 ∈ L := by
  rw [getD_e h]; exact List.getElem_mem h
theorem getD_inj {L : List Int} (hp : L.Pairwise (· < ·)) {i j : Nat} (hi : i < L.length) (hj : j < L.length) (e : L.getD i 0 = L.getD j 0) : i = j := by
  rw [getD_e hi, getD_e hj] at e
  have hp := List.pairwise_iff_getElem.mp hp
  rcases Nat.lt_trichotomy i j with q | q | q
  · have := hp i j hi hj q; omega
  · exact q
  · have := hp j i hj hi q; omega
theorem c_list43 {d : Nat} {σ η : Sg} {T : TT} {tx : Int → TA} {P : Int → AM → Prop} {h : Int} (ht : Td σ η T tx) (k : ∀ s, Sm [43] σ s → Ar (s 43) (RW σ h) → P (RW σ h).length (mk s T)) : wpI d 63 0 [aR 3, aI h, aR 43, aU, aU] [] (mk σ T) P := by
  have hd := ht.1.1.2.1
  refine g_Told_listDeeds_3_43_0 ?_
  refine for_up (n := σ 3 2) (Hd := fun i s => wpI d 63 5 [aR 3, aI h, aR 43, aI (DL σ h i).length, aI i] [] (mk s T) P) (Inv := fun i s => Sm [43] σ s ∧ Ar (s 43) (DL σ h i)) ?_ ?_ ⟨sm_r _ _, fun i hi => absurd hi (by simp [DL, it_0])⟩ hd.1
  · rintro i s i0 i1 ⟨hs, ha⟩ ih
    refine g_Told_listDeeds_3_43_5 ?_
    have hl := (dl_m (g := σ) (h := h) i.toNat).2.2
    rw [show ((i.toNat : Nat) : Int) = i from by omega] at hl
    rw [hs 3 (by decide), hs 5 (by decide), w32_id (x := i + 1) (by omega) (by omega)]
    refine ct i1 (ct (by omega) (ct (by omega) (ci (fun c => ct (by omega) ?_) (fun c => ?_))))
    · rw [w32_id (by omega) (by omega)]
      have q := ih (up s 43 (DL σ h i).length i) ⟨sm_u hs (by simp), ?_⟩
      · rw [dl_s i0, if_pos c, List.length_append, List.length_singleton] at q
        exact q
      · rw [dl_s i0, if_pos c]
        exact ar_a (ar_c ha (fun j j0 j1 => up_i (by omega))) (up_s _ _ _ _)
    · have q := ih s ⟨hs, by rw [dl_s i0, if_neg c]; exact ha⟩
      rw [dl_s i0, if_neg c] at q
      exact q
  · rintro s ⟨hs, ha⟩
    refine g_Told_listDeeds_3_43_5 ?_
    rw [hs 3 (by decide)]
    exact cf (by omega) (k s hs ha)
theorem c_list45 {d : Nat} {σ η : Sg} {T : TT} {tx : Int → TA} {P : Int → AM → Prop} {h : Int} (ht : Td σ η T tx) (k : ∀ s, Sm [45] σ s → Ar (s 45) (RW σ h) → P (RW σ h).length (mk s T)) : wpI d 63 0 [aR 3, aI h, aR 45, aU, aU] [] (mk σ T) P := by
  have hd := ht.1.1.2.1
  refine g_Told_listDeeds_3_45_0 ?_
  refine for_up (n := σ 3 2) (Hd := fun i s => wpI d 63 5 [aR 3, aI h, aR 45, aI (DL σ h i).length, aI i] [] (mk s T) P) (Inv := fun i s => Sm [45] σ s ∧ Ar (s 45) (DL σ h i)) ?_ ?_ ⟨sm_r _ _, fun i hi => absurd hi (by simp [DL, it_0])⟩ hd.1
  · rintro i s i0 i1 ⟨hs, ha⟩ ih
    refine g_Told_listDeeds_3_45_5 ?_
    have hl := (dl_m (g := σ) (h := h) i.toNat).2.2
    rw [show ((i.toNat : Nat) : Int) = i from by omega] at hl
    rw [hs 3 (by decide), hs 5 (by decide), w32_id (x := i + 1) (by omega) (by omega)]
    refine ct i1 (ct (by omega) (ct (by omega) (ci (fun c => ct (by omega) ?_) (fun c => ?_))))
    · rw [w32_id (by omega) (by omega)]
      have q := ih (up s 45 (DL σ h i).length i) ⟨sm_u hs (by simp), ?_⟩
      · rw [dl_s i0, if_pos c, List.length_append, List.length_singleton] at q
        exact q
      · rw [dl_s i0, if_pos c]
        exact ar_a (ar_c ha (fun j j0 j1 => up_i (by omega))) (up_s _ _ _ _)
    · have q := ih s ⟨hs, by rw [dl_s i0, if_neg c]; exact ha⟩
      rw [dl_s i0, if_neg c] at q
      exact q
  · rintro s ⟨hs, ha⟩
    refine g_Told_listDeeds_3_45_5 ?_
    rw [hs 3 (by decide)]
    exact cf (by omega) (k s hs ha)
theorem r_layRow {d : Nat} {γ σ : Sg} {T : TT} {tx : Int → TA} {P : AM → Prop} {h : Int} (ht : Td γ σ T tx) (k : ∀ s, Sm [70, 78] σ s → (∀ i, i ≠ 23 → s 70 i = σ 70 i) → s 70 23 = (RW γ h).length → Ar (s 78) (RW γ h) → P (mk s T)) : wpV (d + 1) 257 0 [aR 70, aI h, aU] [] (mk σ T) P := by
  have hd := ht.1.1.2.1
  refine g_Mo_layRow_0 ?_
  refine for_up (n := γ 3 2) (Hd := fun i s => wpV (d + 1) 257 7 [aR 70, aI h, aI i] [] (mk s T) P) (Inv := fun i s => Sm [70, 78] σ s ∧ (∀ i, i ≠ 23 → s 70 i = σ 70 i) ∧ s 70 23 = (DL γ h i).length ∧ Ar (s 78) (DL γ h i)) ?_ ?_ ⟨sm_u (sm_r _ _) (by simp), fun i hi => up_i hi, up_s _ _ _ _, fun i hi => absurd hi (by simp [DL, it_0])⟩ hd.1
  · rintro i s i0 i1 ⟨hs, h7, h23, ha⟩ ih
    obtain ⟨a1, _⟩ := ht.1.2.2.1 i i0 i1
    refine g_Mo_layRow_7 ?_
    have hl := (dl_m (g := γ) (h := h) i.toNat).2.2
    rw [show ((i.toNat : Nat) : Int) = i from by omega] at hl
    rw [hs 71 (by decide), hd.2.2, w32_id (x := 6 * i) (by omega) (by omega), w32_id (x := 90 + 6 * i) (by omega) (by omega), w32_id (x := 90 + 6 * i + 0) (by omega) (by omega), a1.2.2, w32_id (x := i + 1) (by omega) (by omega), h23]
    refine ct i1 (ct (by omega) (ci (fun c => ct (by omega) ?_) (fun c => ?_)))
    · rw [w32_id (by omega) (by omega)]
      refine ih _ ⟨sm_u (sm_u hs (by simp)) (by simp), fun j hj => ?_, ?_, ?_⟩
      · rw [up_i hj, up_c (by decide)]; exact h7 j hj
      · rw [up_s, dl_s i0, if_pos c, List.length_append, List.length_singleton]; omega
      · rw [dl_s i0, if_pos c, up_c (by decide)]
        exact ar_a (ar_c ha (fun j j0 j1 => up_i (by omega))) (up_s _ _ _ _)
    · refine ih s ⟨hs, h7, ?_, ?_⟩
      · rw [dl_s i0, if_neg c]; exact h23
      · rw [dl_s i0, if_neg c]; exact ha
  · rintro s ⟨hs, h7, h23, ha⟩
    refine g_Mo_layRow_7 ?_
    rw [hs 71 (by decide), hd.2.2]
    exact cf (by omega) (k s hs h7 h23 ha)
theorem bc_dl {g η : Sg} {T : TT} {tx : Int → TA} (ht : Td g η T tx) (h : Int) : BC (DOf g h (g 3 2)) = ((RW g h).length : Int) := by
  have hd := ht.1.1.2.1
  have key : ∀ n : Nat, (n : Int) ≤ 24 → BC (DOf g h n) = ((DL g h n).length : Int) := by
    intro n
    induction n with
    | zero => intro _; exact bc_0
    | succ n ih =>
      intro hn
      have e : ((n + 1 : Nat) : Int) = (n : Int) + 1 := by omega
      rw [e, dof_s (by omega), dl_s (by omega)]
      have hb := dof_b (σ := g) (h := h) (i := n) (by omega) (by omega)
      split
      · rw [bc_o hb.1 hb.2 (by omega) (by omega), ih (by omega), List.length_append, List.length_singleton]
        · omega
        · cases q : tb (DOf g h n) n with
          | false => rfl
          | true => have := (dof_t (by omega) (by omega) (n : Int) (by omega)).mp q; omega
      · exact ih (by omega)
  have := key (g 3 2).toNat (by omega)
  rw [show (((g 3 2).toNat : Nat) : Int) = g 3 2 from by omega] at this
  exact this
end
