noncomputable section
/-! the reference's scale -/
def RM (s : Sg) (m : Int → Int) : Prop := ∀ i, 0 ≤ i → i < 6 → s 71 (242 + i) = m i
theorem rm_e {s : Sg} {m : Int → Int} (h : RM s m) : s 71 242 = m 0 ∧ s 71 243 = m 1 ∧ s 71 244 = m 2 ∧ s 71 245 = m 3 ∧ s 71 246 = m 4 ∧ s 71 247 = m 5 :=
  ⟨h 0 (by omega) (by omega), h 1 (by omega) (by omega), h 2 (by omega) (by omega), h 3 (by omega) (by omega), h 4 (by omega) (by omega), h 5 (by omega) (by omega)⟩
theorem rm_i {s : Sg} {m : Int → Int} (h0 : s 71 242 = m 0) (h1 : s 71 243 = m 1) (h2 : s 71 244 = m 2) (h3 : s 71 245 = m 3) (h4 : s 71 246 = m 4) (h5 : s 71 247 = m 5) : RM s m := by
  intro i i0 i1
  rcases (by omega : i = 0 ∨ i = 1 ∨ i = 2 ∨ i = 3 ∨ i = 4 ∨ i = 5) with rfl | rfl | rfl | rfl | rfl | rfl
  · exact h0
  · exact h1
  · exact h2
  · exact h3
  · exact h4
  · exact h5
theorem rm_c {s s' : Sg} {m : Int → Int} (h : RM s m) (e : s' 71 = s 71) : RM s' m := fun i i0 i1 => by rw [e]; exact h i i0 i1
theorem r_settle {d : Nat} {γ σ : Sg} {T : TT} {tx : Int → TA} {P : AM → Prop} {m : Int → Int} {st : Int} (ht : Td γ σ T tx) (hm : RM σ m) (h0 : 0 ≤ m 0 ∧ m 0 < γ 3 0) (h2 : -1000000 ≤ m 2 ∧ m 2 ≤ 1000000) (h4 : 0 ≤ m 4 ∧ m 4 < 16777216) (hst : 0 ≤ st ∧ st ≤ 99) (k : ∀ σ', Fm [76, 77] σ σ' → RM σ' (stlM γ ((rA γ tx).1 1) st m) → P (mk σ' T)) : wpV (d + 5) 230 0 [aR 70, aI st, aU, aU, aU] [] (mk σ T) P := by
  have hb := bc_b h4.1
  have hn := ht.1.1.1
  have hf := ht.1.2.1 (m 0) h0.1 h0.2
  obtain ⟨e0, e1, e2, e3, e4, e5⟩ := rm_e hm
  refine g_Mo_settle_0 ?_
  rw [w32_id (x := 242 + 2) (by omega) (by omega), w32_id (x := 242 + 4) (by omega) (by omega), show (242 : Int) + 2 = 244 from rfl, show (242 : Int) + 4 = 246 from rfl, e2, e4]
  refine ct (by omega) (ct (by omega) (c_bits ?_))
  refine g_Mo_settle_36 (ct (by omega) ?_)
  have hs1 : Sm [76, 77] σ (up (up σ 76 8 (m 2)) 76 9 (BC (m 4))) := sm_u (sm_u (sm_r _ _) (by simp)) (by simp)
  rw [w32_id (x := 242 + 0) (by omega) (by omega), show (242 : Int) + 0 = 242 from rfl, up_c (show (71 : Int) ≠ 76 by decide), e0]
  refine ct (by omega) ?_
  refine c_says (cd := (rA γ tx).1 1) (nm := snm γ (m 0) (m 2) (BC (m 4))) (by omega) (by omega) (by omega) h0.1 (by omega) ?_ (by simp [snm]) ?_ (snm_b ht h0.1 h0.2 h2 (by omega)) ?_ ?_
  · rw [hs1 73 (by decide)]; exact rr_x ht 1
  · rw [hs1 71 (by decide), hf.2.2]; simp [snm]
  · intro v hv n0 n1
    rcases hv with rfl | rfl | ⟨h, -⟩ | ⟨-, v8, v9⟩ | ⟨h, -⟩ | ⟨h, -⟩
    · exact absurd rfl n0
    · exact absurd rfl n1
    · exact absurd h (by decide)
    · rcases (by omega : v = 8 ∨ v = 9) with rfl | rfl <;> simp [up_e, snm]
    · exact absurd h (by decide)
    · exact absurd h (by decide)
  · intro s2 hs2
    have hs := sm_t hs1 hs2
    have hst2 : 0 ≤ STK γ ((rA γ tx).1 1) (m 0) (m 2) (BC (m 4)) st := (stk_b γ _ _ _ _ hst.1 hst.2).1
    have hS : sayA ((rA γ tx).1 1) (snm γ (m 0) (m 2) (BC (m 4))) st 0 99 = STK γ ((rA γ tx).1 1) (m 0) (m 2) (BC (m 4)) st := rfl
    refine g_Mo_settle_61 ?_
    have hf2 : Fm [76, 77] σ s2 := fm_s hs (by decide)
    rw [hS, w32_id (x := 242 + 2) (by omega) (by omega), w32_id (x := 242 + 1) (by omega) (by omega), show (242 : Int) + 2 = 244 from rfl, show (242 : Int) + 1 = 243 from rfl, hs 71 (by decide), e2, e1]
    have hmm : stlM γ ((rA γ tx).1 1) st m 2 = stl (m 1) (m 2) (STK γ ((rA γ tx).1 1) (m 0) (m 2) (BC (m 4)) st) := rfl
    have hA : STK γ ((rA γ tx).1 1) (m 0) (m 2) (BC (m 4)) st < iab (w32 (m 2 - m 1)) → P (mk (up s2 71 244 (m 1)) T) := by
      intro hc
      refine k _ (fm_v hf2 (by omega)) (rm_i ?_ ?_ ?_ ?_ ?_ ?_)
      · rw [up_i (by decide), hs 71 (by decide)]; exact e0
      · rw [up_i (by decide), hs 71 (by decide)]; exact e1
      · rw [up_s, hmm]; unfold stl; rw [if_pos hc]
      · rw [up_i (by decide), hs 71 (by decide)]; exact e3
      · rw [up_i (by decide), hs 71 (by decide)]; exact e4
      · rw [up_i (by decide), hs 71 (by decide)]; exact e5
    have hB : ¬ STK γ ((rA γ tx).1 1) (m 0) (m 2) (BC (m 4)) st < iab (w32 (m 2 - m 1)) → P (mk s2 T) := by
      intro hc
      refine k _ hf2 (rm_i ?_ ?_ ?_ ?_ ?_ ?_)
      · rw [hs 71 (by decide)]; exact e0
      · rw [hs 71 (by decide)]; exact e1
      · rw [hs 71 (by decide), hmm]; unfold stl; rw [if_neg hc]; exact e2
      · rw [hs 71 (by decide)]; exact e3
      · rw [hs 71 (by decide)]; exact e4
      · rw [hs 71 (by decide)]; exact e5
    obtain ⟨q1, q2, q3⟩ := stl_2 (m 1) (m 2) hst2 hA hB
    refine ct (by omega) (ct (by omega) (ci (fun hc => ct (by omega) (ct (by omega) (q1 hc))) (fun hc => ci (fun hc' => ct (by omega) (ct (by omega) (q2 hc hc'))) (fun hc' => q3 hc hc'))))
theorem r_weighNow {d : Nat} {γ σ : Sg} {T : TT} {tx : Int → TA} {P : AM → Prop} {h st : Int} (m : Int → Int) (ht : Td γ σ T tx) (hl : Ln γ σ) (h0 : 0 ≤ h) (h1 : h < γ 3 0) (hst : 0 ≤ st ∧ st ≤ 99) (k : ∀ σ', Fm [76, 77] σ σ' → RM σ' (stlM γ ((rA γ tx).1 1) st (tkM (γ 17) h m)) → P (mk σ' T)) : wpV (d + 6) 228 0 [aR 70, aI h, aI st, aU] [] (mk σ T) P := by
  have hn := ht.1.1.1
  refine g_Mo_weighNow_0 ?_
  refine for_up (n := 6) (Hd := fun i s => wpV (d + 6) 228 2 [aR 70, aI h, aI st, aI i] [] (mk s T) P) (Inv := fun i s => Fm [76, 77] σ s ∧ ∀ j, 0 ≤ j → j < i → s 71 (242 + j) = 0) ?_ ?_ ⟨fm_r _ _, fun j _ _ => by omega⟩ (by omega)
  · rintro i s i0 i1 ⟨hs, hz⟩ ih
    refine g_Mo_weighNow_2 ?_
    rw [w32_id (x := 242 + i) (by omega) (by omega), w32_id (x := i + 1) (by omega) (by omega)]
    refine ct i1 (ct (by omega) (ih _ ⟨fm_v hs (by omega), fun j j0 j1 => ?_⟩))
    rw [up_e]
    by_cases e : j = i
    · rw [if_pos (by omega)]
    · rw [if_neg (by omega)]; exact hz j j0 (by omega)
  · rintro s ⟨hs, hz⟩
    refine g_Mo_weighNow_2 (cf (by omega) ?_)
    have hs1 : Fm [76, 77] σ (up s 71 242 h) := fm_v hs (by omega)
    refine r_lentOf (γ := γ) ?_ h0 (by omega) ?_
    · intro i i0 i1
      rw [hs1.2 _ (by omega)]; exact hl i i0 i1
    · refine g_Mo_weighNow_46 (ct (by omega) ?_)
      have hs2 : Fm [76, 77] σ (up (up s 71 242 h) 71 243 (LTo (γ 17) h 6)) := fm_v hs1 (by omega)
      have hm : RM (up (up s 71 242 h) 71 243 (LTo (γ 17) h 6)) (tkM (γ 17) h m) := by
        refine rm_i ?_ ?_ ?_ ?_ ?_ ?_
        · rw [up_i (by decide), up_s]; rfl
        · rw [up_s]; rfl
        · rw [up_i (by decide), up_i (by decide)]; exact hz 2 (by omega) (by omega)
        · rw [up_i (by decide), up_i (by decide)]; exact hz 3 (by omega) (by omega)
        · rw [up_i (by decide), up_i (by decide)]; exact hz 4 (by omega) (by omega)
        · rw [up_i (by decide), up_i (by decide)]; exact hz 5 (by omega) (by omega)
      generalize up (up s 71 242 h) 71 243 (LTo (γ 17) h 6) = s2 at *
      refine r_settle (td_f ht hs2 (by decide)) hm ?_ ?_ ?_ hst ?_
      · exact ⟨h0, h1⟩
      · show -1000000 ≤ 0 ∧ 0 ≤ 1000000; omega
      · show 0 ≤ 0 ∧ 0 < 16777216; omega
      · intro σ' hs3 hs4
        exact g_Mo_weighNow_52 (k σ' (fm_t hs2 hs3) hs4)
theorem r_layNow {d : Nat} {γ σ : Sg} {T : TT} {tx : Int → TA} {P : AM → Prop} {dd st : Int} {m : Int → Int} (ht : Td γ σ T tx) (hm : RM σ m) (hk : SK (γ 3 0) m) (d0 : 0 ≤ dd) (d1 : dd < γ 3 2) (hb : tb (m 4) dd = false) (hst : 0 ≤ st ∧ st ≤ 99) (k : ∀ σ', Fm [76, 77] σ σ' → RM σ' (stlM γ ((rA γ tx).1 1) st (ptM γ ((rA γ tx).1 0) dd m)) → P (mk σ' T)) : wpV (d + 7) 239 0 [aR 70, aI dd, aI st] [] (mk σ T) P := by
  obtain ⟨e0, e1, e2, e3, e4, e5⟩ := rm_e hm
  have hk' := sk_pt ht ((rA γ tx).1 0) hk d0 d1 hb
  have hbb := sk_b hk'
  refine g_Mo_layNow_0 ?_
  have hs1 : Fm [76, 77] σ (up σ 71 246 (bO (σ 71 246) (sL 1 dd))) := fm_v (fm_r _ _) (by omega)
  have ht1 := td_f ht hs1 (by decide)
  refine c_weightOf ht1 d0 d1 ?_
  intro s2 hs2
  refine g_Mo_layNow_28 (ct (by omega) ?_)
  rw [e1]
  have hs3 : Fm [76, 77] σ (up s2 71 243 (w32 (m 1 + WG γ ((rA γ tx).1 0) dd))) := fm_v (fm_t hs1 (fm_s hs2 (by decide))) (by omega)
  have hm3 : RM (up s2 71 243 (w32 (m 1 + WG γ ((rA γ tx).1 0) dd))) (ptM γ ((rA γ tx).1 0) dd m) := by
    refine rm_i ?_ ?_ ?_ ?_ ?_ ?_
    · rw [up_i (by decide), hs2 71 (by decide), up_i (by decide)]; exact e0
    · rw [up_s]; rfl
    · rw [up_i (by decide), hs2 71 (by decide), up_i (by decide)]; exact e2
    · rw [up_i (by decide), hs2 71 (by decide), up_i (by decide)]; exact e3
    · rw [up_i (by decide), hs2 71 (by decide), up_s, e4]; rfl
    · rw [up_i (by decide), hs2 71 (by decide), up_i (by decide)]; exact e5
  generalize up s2 71 243 (w32 (m 1 + WG γ ((rA γ tx).1 0) dd)) = s3 at *
  refine r_settle (td_f ht hs3 (by decide)) hm3 hk'.1 (by omega) hk'.2.1 hst ?_
  intro σ' hs4 hs5
  exact g_Mo_layNow_35 (k σ' (fm_t hs3 hs4) hs5)
theorem r_lieNow {d : Nat} {γ σ : Sg} {T : TT} {tx : Int → TA} {P : AM → Prop} {j : Int} {m : Int → Int} (ht : Td γ σ T tx) (hm : RM σ m) (h0 : 0 ≤ m 0 ∧ m 0 < γ 3 0) (h3 : -1000000 ≤ m 3 ∧ m 3 ≤ 1000000) (h2 : -1000000 ≤ m 2 ∧ m 2 ≤ 1000000) (h4 : 0 ≤ m 4 ∧ m 4 < 16777216) (j0 : 0 ≤ j) (j1 : j < γ 3 9) (k : ∀ σ', Fm [76, 77] σ σ' → RM σ' (stlM γ ((rA γ tx).1 1) (γ 3 11) (liM γ ((rA γ tx).1 2) j m)) → P (mk σ' T)) : wpV (d + 6) 246 0 [aR 70, aI j, aU, aU, aU] [] (mk σ T) P := by
  obtain ⟨e0, e1, e2, e3, e4, e5⟩ := rm_e hm
  have hn := ht.1.1.1
  have hd := ht.1.1.2.1
  have hj := ht.1.1.2.2.1
  have h11 := ht.1.1.2.2.2.1
  have ha := ht.1.2.2.2.1 j j0 j1
  have hf := ht.1.2.1 (m 0) h0.1 h0.2
  refine g_Mo_lieNow_0 ?_
  rw [e0]
  refine for_up (n := γ 3 2) (Hd := fun i s => wpV (d + 6) 246 14 [aR 70, aI j, aI (m 0), aI (HD γ (m 0) (γ 11 j) i), aI i] [] (mk s T) P) (Inv := fun _ s => s = σ) ?_ ?_ rfl hd.1
  · rintro i s i0 i1 rfl ih
    obtain ⟨a1, a2, a3, a4, _⟩ := ht.1.2.2.1 i i0 i1
    have hh := hd_b (σ := γ) (m 0) (γ 11 j) i0 (by omega)
    refine g_Mo_lieNow_14 ?_
    have q := ih s rfl
    rw [hd_s i0] at q
    rw [w32_id (x := 6 * i) (by omega) (by omega), w32_id (x := 90 + 6 * i) (by omega) (by omega), w32_id (x := 90 + 6 * i + 0) (by omega) (by omega), w32_id (x := 90 + 6 * i + 1) (by omega) (by omega), w32_id (x := 90 + 6 * i + 3) (by omega) (by omega), w32_id (x := 234 + j) (by omega) (by omega), w32_id (x := i + 1) (by omega) (by omega), a1.2.2, a2.2.2, a4.2.2, ha.2.2, hd.2.2, Int.add_zero (HD γ (m 0) (γ 11 j) i), w32_id (x := HD γ (m 0) (γ 11 j) i) (by omega) (by omega), Int.tmod_eq_emod_of_nonneg a4.1]
    refine ct i1 (ct (by omega) (ci (fun hc => ct (by omega) (ct (by omega) (ci (fun hc' => ct (by omega) (ci (fun hm' => ?_) (fun hm' => ?_))) (fun hc' => ?_)))) (fun hc => ?_)))
    · rw [has_1 (by omega) (by omega) (by omega)] at hc'
      rw [if_pos ⟨hc, hc', hm'⟩] at q; exact q
    · rw [if_neg (fun e => hm' e.2.2)] at q; exact q
    · rw [has_1 (by omega) (by omega) (by omega)] at hc'
      rw [if_neg (fun e => hc' e.2.1)] at q; exact q
    · rw [if_neg (fun e => hc e.1)] at q; exact q
  · rintro s rfl
    refine g_Mo_lieNow_14 ?_
    rw [w32_id (x := 234 + j) (by omega) (by omega), ha.2.2, hd.2.2, e3]
    refine cf (by omega) ?_
    first | refine ct (by omega) ?_ | skip
    refine c_bits ?_
    refine g_Mo_lieNow_127 (ct (by omega) ?_)
    have hs1 : Sm [76, 77] s (up (up (up (up s 76 10 (m 3)) 76 11 j) 76 12 (BC (γ 11 j))) 76 13 (HD γ (m 0) (γ 11 j) (γ 3 2))) := sm_u (sm_u (sm_u (sm_u (sm_r _ _) (by simp)) (by simp)) (by simp)) (by simp)
    rw [show up (up s 76 10 (m 3)) 76 11 j 71 = s 71 from by rw [up_c (by decide), up_c (by decide)]]
    refine c_says (cd := (rA γ tx).1 2) (nm := lnm γ j (m 0) (m 3)) (by omega) (by omega) (by omega) h0.1 (by omega) ?_ (by simp [lnm]) ?_ (lnm_b ht j0 j1 h0.1 h0.2 h3) ?_ ?_
    · rw [hs1 73 (by decide)]; exact rr_x ht 2
    · rw [hs1 71 (by decide), hf.2.2]; simp [lnm]
    · intro v hv n0 n1
      rcases hv with rfl | rfl | ⟨h, -⟩ | ⟨h, -⟩ | ⟨-, v10, v13⟩ | ⟨h, -⟩
      · exact absurd rfl n0
      · exact absurd rfl n1
      · exact absurd h (by decide)
      · exact absurd h (by decide)
      · rcases (by omega : v = 10 ∨ v = 11 ∨ v = 12 ∨ v = 13) with rfl | rfl | rfl | rfl <;> simp [up_e, lnm]
      · exact absurd h (by decide)
    · intro s2 hs2
      have hs := sm_t hs1 hs2
      have hS : sayA ((rA γ tx).1 2) (lnm γ j (m 0) (m 3)) 3 0 999 = LI γ ((rA γ tx).1 2) j (m 0) (m 3) := rfl
      rw [hS]
      refine g_Mo_lieNow_154 ?_
      rw [hs 71 (by decide), e1, e3, h11.2.2]
      have hs3 : Fm [76, 77] s (up (up s2 71 245 (w32 (m 3 + 1))) 71 243 (w32 (m 1 + LI γ ((rA γ tx).1 2) j (m 0) (m 3)))) := fm_v (fm_v (fm_s hs (by decide)) (by omega)) (by omega)
      have hm3 : RM (up (up s2 71 245 (w32 (m 3 + 1))) 71 243 (w32 (m 1 + LI γ ((rA γ tx).1 2) j (m 0) (m 3)))) (liM γ ((rA γ tx).1 2) j m) := by
        refine rm_i ?_ ?_ ?_ ?_ ?_ ?_
        · rw [up_i (by decide), up_i (by decide), hs 71 (by decide)]; exact e0
        · rw [up_s]; rfl
        · rw [up_i (by decide), up_i (by decide), hs 71 (by decide)]; exact e2
        · rw [up_i (by decide), up_s]; rfl
        · rw [up_i (by decide), up_i (by decide), hs 71 (by decide)]; exact e4
        · rw [up_i (by decide), up_i (by decide), hs 71 (by decide)]; exact e5
      generalize up (up s2 71 245 (w32 (m 3 + 1))) 71 243 (w32 (m 1 + LI γ ((rA γ tx).1 2) j (m 0) (m 3))) = s3 at *
      refine r_settle (td_f ht hs3 (by decide)) hm3 h0 h2 h4 ⟨h11.1, h11.2.1⟩ ?_
      intro σ' hs4 hs5
      exact g_Mo_lieNow_191 (k σ' (fm_t hs3 hs4) hs5)
theorem kd_c {σ s : Sg} (h5 : s 5 = σ 5) (h6 : s 6 = σ 6) (hw : WG s = WG σ) : KD s = KD σ := by funext c h i; unfold KD; rw [h5, h6, hw]
theorem so_f {cs : List Int} {σ s : Sg} (f : Fm cs σ s) (k : ∀ a ∈ cs, ¬ (3 ≤ a ∧ a ≤ 15)) : SO s = SO σ := by
  have e : ∀ a, 3 ≤ a → a ≤ 15 → s a = σ a := fun a h1 h2 => f.1 a (fun q => k a q ⟨h1, h2⟩) (by omega)
  funext c j h; unfold SO
  rw [e 3 (by omega) (by omega), e 11 (by omega) (by omega), kd_c (e 5 (by omega) (by omega)) (e 6 (by omega) (by omega)) (wg_f f (fun a ha q => k a ha (by omega)))]
theorem li_f {cs : List Int} {σ s : Sg} (f : Fm cs σ s) (k : ∀ a ∈ cs, ¬ (3 ≤ a ∧ a ≤ 15)) : LI s = LI σ := by
  have e : ∀ a, 3 ≤ a → a ≤ 15 → s a = σ a := fun a h1 h2 => f.1 a (fun q => k a q ⟨h1, h2⟩) (by omega)
  exact li_c (e 3 (by omega) (by omega)) (e 4 (by omega) (by omega)) (e 5 (by omega) (by omega)) (e 6 (by omega) (by omega)) (e 8 (by omega) (by omega)) (e 11 (by omega) (by omega))
theorem liM_f {cs : List Int} {σ s : Sg} (f : Fm cs σ s) (k : ∀ a ∈ cs, ¬ (3 ≤ a ∧ a ≤ 15)) : liM s = liM σ := by funext c j m i; unfold liM; rw [li_f f k]
theorem ptM_f {cs : List Int} {σ s : Sg} (f : Fm cs σ s) (k : ∀ a ∈ cs, ¬ (3 ≤ a ∧ a ≤ 15)) : ptM s = ptM σ := by funext c j m i; unfold ptM; rw [wg_f f (fun a ha q => k a ha (by omega))]
theorem r_answerNow {d : Nat} {γ σ : Sg} {T : TT} {tx : Int → TA} {P : Int → AM → Prop} {j y : Int} {m : Int → Int} (ht : Td γ σ T tx) (hm : RM σ m) (hk : SK (γ 3 0) m) (j0 : 0 ≤ j) (j1 : j < γ 3 9) (hb : tb (m 5) j = false)
    (k0 : y = SO γ ((rA γ tx).1 0) j (m 0) → ∀ σ', Fm [76, 77] σ σ' → RM σ' (anM j m) → P 0 (mk σ' T))
    (k1 : y ≠ SO γ ((rA γ tx).1 0) j (m 0) → ∀ σ', Fm [76, 77] σ σ' → RM σ' (stlM γ ((rA γ tx).1 1) (γ 3 11) (liM γ ((rA γ tx).1 2) j (anM j m))) → P 1 (mk σ' T)) : wpI (d + 8) 244 0 [aR 70, aI j, aI y, aU] [] (mk σ T) P := by
  obtain ⟨e0, e1, e2, e3, e4, e5⟩ := rm_e hm
  have hj := ht.1.1.2.2.1
  have hbk := sk_b hk
  refine g_Mo_answerNow_0 ?_
  have hs1 : Fm [76, 77] σ (up σ 71 247 (bO (σ 71 247) (sL 1 j))) := fm_v (fm_r _ _) (by omega)
  have hm1 : RM (up σ 71 247 (bO (σ 71 247) (sL 1 j))) (anM j m) := by
    refine rm_i ?_ ?_ ?_ ?_ ?_ ?_
    · rw [up_i (by decide)]; exact e0
    · rw [up_i (by decide)]; exact e1
    · rw [up_i (by decide)]; exact e2
    · rw [up_i (by decide)]; exact e3
    · rw [up_i (by decide)]; exact e4
    · rw [up_s, e5]; rfl
  generalize up σ 71 247 (bO (σ 71 247) (sL 1 j)) = s1 at *
  rw [e0]
  refine r_isSoOf (td_f ht hs1 (by decide)) j0 j1 ?_
  intro s2 hs2
  have hs3 : Fm [76, 77] σ s2 := fm_t hs1 (fm_s hs2 (by decide))
  have hm3 : RM s2 (anM j m) := rm_c hm1 (hs2 71 (by decide))
  refine g_Mo_answerNow_27 (ci (fun hc => k0 hc.symm s2 hs3 hm3) (fun hc => ?_))
  have a0 : anM j m 0 = m 0 := rfl
  have a2 : anM j m 2 = m 2 := rfl
  have a3 : anM j m 3 = m 3 := rfl
  have a4 : anM j m 4 = m 4 := rfl
  refine r_lieNow (td_f ht hs3 (by decide)) hm3 (by rw [a0]; exact hk.1) (by rw [a3]; omega) (by rw [a2]; omega) (by rw [a4]; exact hk.2.1) j0 j1 ?_
  intro σ' hs4 hs5
  refine g_Mo_answerNow_46 (ct (by omega) ?_)
  exact k1 (fun e => hc e.symm) σ' (fm_t hs3 hs4) hs5
end
