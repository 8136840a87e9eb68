noncomputable section
theorem wpV_m {d a pc : Nat} {L S : List AV} {M : AM} {P : AM → Prop} (m : Nat) (h : wpV d a pc L S M P) : wpV (d + m) a pc L S M P := by
  induction m with
  | zero => exact h
  | succ m ih => exact wp_d ih
theorem wpI_m {d a pc : Nat} {L S : List AV} {M : AM} {P : Int → AM → Prop} (m : Nat) (h : wpI d a pc L S M P) : wpI (d + m) a pc L S M P := by
  induction m with
  | zero => exact h
  | succ m ih => exact wp_d ih
theorem ow_m {g η : Sg} {T : TT} {tx : Int → TA} (ht : Td g η T tx) (h : Int) {p : List Nat} (hp : ∀ x ∈ p, x < (RW g h).length) : ∀ d ∈ p.map (ow g h), 0 ≤ d ∧ d < g 3 2 := by
  obtain ⟨m1, m2, m3⟩ := rw_m ht h
  intro d hd
  obtain ⟨x, hx, rfl⟩ := List.mem_map.mp hd
  have := (m1 _).mp (getD_mem (hp x hx))
  exact ⟨this.1, this.2.1⟩
set_option maxRecDepth 20000 in
theorem c_layNext {d : Nat} {g η : Sg} {T : TT} {tx : Int → TA} {h st : Int} (ht : Td g η T tx) (hl : ∀ i, 0 ≤ i → i < 36 → 0 ≤ g 17 i ∧ g 17 i ≤ 99) (h0 : 0 ≤ h) (h1 : h < g 3 0) (st0 : 0 ≤ st) (n7 : (RW g h).length ≤ 7) : ∀ (k m : Nat) (p : List Nat) (s : Sg) (A : List (List Nat)) (P : AM → Prop), p.length + k = (RW g h).length → m < 128 → (∀ x ∈ p, x < (RW g h).length) → OSt g s tx h st → NSm s g tx st h A ∧ NSp s g tx st h A → Ar (s 47) (p.map (ow g h)) → (∀ s', OSt g s' tx h st → NSm s' g tx st h (A ++ vs (RW g h).length id k m p) ∧ NSp s' g tx st h (A ++ vs (RW g h).length id k m p) → (∀ i : Int, 0 ≤ i → i < p.length → s' 47 i = s 47 i) → P (mk s' T)) → wpV (d + k + 6) 111 0 [aR 44, aI p.length, aI m, aI (lyE g ((rA g tx).1 0) ((rA g tx).1 1) st h (p.map (ow g h))).1, aI (lyE g ((rA g tx).1 0) ((rA g tx).1 1) st h (p.map (ow g h))).2.1, aU, aU] [] (mk s T) P := by
  have hn0 := ht.1.1.1
  intro k
  induction k with
  | zero =>
    intro m p s A P hk hm hp hq hn ha kk
    refine g_Trials_layNext_0 ?_
    rw [hq.2.2.1]
    refine cf (by omega) (c_noteEnd (d := d + 3) ht h0 h1 hq hn ha (by omega) (fun s' q' e' n' => g_Trials_layNext_20 (kk s' q' n' (fun i _ _ => by rw [e']))))
  | succ k ih =>
    intro m p s A P hk hm hp hq hn ha kk
    obtain ⟨⟨b0, b1, b2⟩, b3⟩ := ly_b ht ((rA g tx).1 0) ((rA g tx).1 1) st h0 (by omega) hl (p := p.map (ow g h)) (ow_m ht h hp) (by rw [List.length_map]; omega)
    rw [List.length_map] at b3
    refine g_Trials_layNext_0 ?_
    rw [hq.2.2.1]
    refine ct (by omega) (ct (by omega) ?_)
    have lp : ∀ l6 : AV, wpV (d + (k + 1) + 6) 111 24 [aR 44, aI p.length, aI m, aI (lyE g ((rA g tx).1 0) ((rA g tx).1 1) st h (p.map (ow g h))).1, aI (lyE g ((rA g tx).1 0) ((rA g tx).1 1) st h (p.map (ow g h))).2.1, aI 0, l6] [] (mk s T) P := by
      refine for_up (n := (RW g h).length) (Hd := fun i s => ∀ l6 : AV, wpV (d + (k + 1) + 6) 111 24 [aR 44, aI p.length, aI m, aI (lyE g ((rA g tx).1 0) ((rA g tx).1 1) st h (p.map (ow g h))).1, aI (lyE g ((rA g tx).1 0) ((rA g tx).1 1) st h (p.map (ow g h))).2.1, aI i, l6] [] (mk s T) P) (Inv := fun i s' => OSt g s' tx h st ∧ (NSm s' g tx st h (A ++ (List.range i.toNat).flatMap (fun i => bif m.testBit i then [] else vs (RW g h).length id k (m ||| 2 ^ i) (p ++ [id i]))) ∧ NSp s' g tx st h (A ++ (List.range i.toNat).flatMap (fun i => bif m.testBit i then [] else vs (RW g h).length id k (m ||| 2 ^ i) (p ++ [id i])))) ∧ ∀ i : Int, 0 ≤ i → i < p.length → s' 47 i = s 47 i) ?_ ?_ ⟨hq, by simpa using hn, fun _ _ _ => rfl⟩ (by omega)
      · rintro i s1 i0 i1 ⟨q1, q2, q3⟩ ih2 l6
        have er : List.range (i + 1).toNat = List.range i.toNat ++ [i.toNat] := by rw [show (i + 1).toNat = i.toNat + 1 from by omega, List.range_succ]
        refine g_Trials_layNext_24 ?_
        rw [q1.2.2.1]
        have tbe : tb (m : Int) i = m.testBit i.toNat := by unfold tb; rw [Int.toNat_natCast]
        refine ct i1 (ci (fun c => ct (by omega) (ct (by omega) (ct (by omega) ?_))) (fun c => ?_))
        · have tf : m.testBit i.toNat = false := by rw [← tbe]; exact (has_0 (by omega) i0 (by omega)).mp c
          rw [w32_id (x := (p.length : Int) + 1) (by omega) (by omega), q1.2.2.2.2 i i0 i1]
          have e45 : s1 45 i = ow g h i.toNat := ar_i q1.2.2.2.1 i0 i1
          have o2 : OSt g (up s1 47 p.length (s1 45 i)) tx h st := ost_c (cs := [47]) q1 (sm_u (sm_r _ _) (by simp)) (by decide) (fun j _ => by rw [up_c (by decide)])
          have n2 := ns_c (s' := up s1 47 p.length (s1 45 i)) (fun j _ _ => by rw [up_c (by decide)]) (up_c (by decide)) (up_c (by decide)) (up_c (by decide)) q2
          have a2 : Ar (up s1 47 p.length (s1 45 i) 47) ((p ++ [i.toNat]).map (ow g h)) := by
            rw [List.map_append]
            refine ar_a (ar_c ha (fun j j0 j1 => ?_)) ?_
            · rw [List.length_map] at j1; rw [up_i (by omega)]; exact q3 j j0 j1
            · rw [List.length_map, up_s]; exact e45
          have q3' : ∀ j : Int, 0 ≤ j → j < p.length → up s1 47 p.length (s1 45 i) 47 j = s 47 j := fun j j0 j1 => by rw [up_i (by omega)]; exact q3 j j0 j1
          generalize up s1 47 p.length (s1 45 i) = s2 at *
          refine c_settled (d := d + (k + 1) + 1) ht o2.1 h0 h1 st0 o2.2.1 (by omega) (by omega) (fun s3 e3 => g_Trials_layNext_89 ?_)
          have o3 : OSt g s3 tx h st := ost_c o2 e3 (by decide) (fun j _ => by rw [e3 44 (by decide)])
          have n3 := ns_c (s' := s3) (fun j _ _ => by rw [e3 44 (by decide)]) (e3 48 (by decide)) (e3 49 (by decide)) (e3 50 (by decide)) n2
          have hL := pow31 (k := i.toNat) (by omega)
          have h2i : 2 ^ i.toNat < 2 ^ 7 := Nat.pow_lt_pow_right (by omega) (by omega)
          have e2 : bO (m : Int) (sL 1 i) = ((m ||| 2 ^ i.toNat : Nat) : Int) := by
            rw [sL_n i0 (by omega), bO_n (by omega) (by omega) (by omega) (by omega), Int.toNat_natCast, Int.toNat_natCast]
          have e1 : ((p ++ [i.toNat]).length : Int) = p.length + 1 := by simp
          have e4 : lyE g ((rA g tx).1 0) ((rA g tx).1 1) st h ((p ++ [i.toNat]).map (ow g h)) = (w32 ((lyE g ((rA g tx).1 0) ((rA g tx).1 1) st h (p.map (ow g h))).1 + WG g ((rA g tx).1 0) ((RW g h).getD i.toNat 0)), stl (w32 ((lyE g ((rA g tx).1 0) ((rA g tx).1 1) st h (p.map (ow g h))).1 + WG g ((rA g tx).1 0) ((RW g h).getD i.toNat 0))) (lyE g ((rA g tx).1 0) ((rA g tx).1 1) st h (p.map (ow g h))).2.1 (STK g ((rA g tx).1 1) h (lyE g ((rA g tx).1 0) ((rA g tx).1 1) st h (p.map (ow g h))).2.1 ((p.length : Int) + 1) st), (p.length : Int) + 1) := by
            rw [List.map_append, show [i.toNat].map (ow g h) = [ow g h i.toNat] from rfl, ly_a]
            unfold lyS
            rw [b3]; rfl
          have r := ih (m ||| 2 ^ i.toNat) (p ++ [i.toNat]) s3 (A ++ (List.range i.toNat).flatMap (fun i => bif m.testBit i then [] else vs (RW g h).length id k (m ||| 2 ^ i) (p ++ [id i]))) (fun M' => wpV (d + (k + 1) + 6) 111 92 [aR 44, aI p.length, aI m, aI (lyE g ((rA g tx).1 0) ((rA g tx).1 1) st h (p.map (ow g h))).1, aI (lyE g ((rA g tx).1 0) ((rA g tx).1 1) st h (p.map (ow g h))).2.1, aI i, aI (w32 ((lyE g ((rA g tx).1 0) ((rA g tx).1 1) st h (p.map (ow g h))).1 + WG g ((rA g tx).1 0) ((RW g h).getD i.toNat 0)))] [] M' P) (by simp; omega) (Nat.or_lt_two_pow (n := 7) hm h2i) (fun x hx => by
            rcases List.mem_append.mp hx with hx | hx
            · exact hp x hx
            · have : x = i.toNat := by simpa using hx
              omega) o3 n3 (by rw [e3 47 (by decide)]; exact a2) (fun s4 o4 n4 q4 => g_Trials_layNext_92 (by
            rw [w32_id (x := i + 1) (by omega) (by omega)]
            refine ih2 s4 ⟨o4, ?_, fun j j0 j1 => ?_⟩ _
            · rw [er, List.flatMap_append, ← List.append_assoc]
              rw [show [i.toNat].flatMap (fun i => bif m.testBit i then [] else vs (RW g h).length id k (m ||| 2 ^ i) (p ++ [id i])) = vs (RW g h).length id k (m ||| 2 ^ i.toNat) (p ++ [i.toNat]) from by simp [tf]]
              exact n4
            · rw [q4 j j0 (by simp; omega), e3 47 (by decide)]; exact q3' j j0 j1))
          rw [e1, e4] at r
          rw [e2]
          exact r
        · have tf : m.testBit i.toNat = true := by
            rw [← tbe]
            cases e : tb (m : Int) i with
            | true => rfl
            | false => exact absurd ((has_0 (by omega) i0 (by omega)).mpr e) c
          rw [w32_id (x := i + 1) (by omega) (by omega)]
          refine ih2 s1 ⟨q1, ?_, q3⟩ _
          rw [er, List.flatMap_append, show [i.toNat].flatMap (fun i => bif m.testBit i then [] else vs (RW g h).length id k (m ||| 2 ^ i) (p ++ [id i])) = [] from by simp [tf], List.append_nil]
          exact q2
      · rintro s1 ⟨q1, q2, q3⟩ l6
        refine g_Trials_layNext_24 ?_
        rw [q1.2.2.1]
        rw [Int.toNat_natCast] at q2
        exact cf (by omega) (kk s1 q1 q2 q3)
    exact lp aU
theorem c_searchOrders {d : Nat} {g η s : Sg} {T : TT} {tx : Int → TA} {P : AM → Prop} {h st : Int} (ht : Td g η T tx) (hl : ∀ i, 0 ≤ i → i < 36 → 0 ≤ g 17 i ∧ g 17 i ≤ 99) (hs : Sm [40, 41, 44, 45, 46, 47, 48, 49, 50] g s) (h0 : 0 ≤ h) (h1 : h < g 3 0) (st0 : 0 ≤ st) (n7 : (RW g h).length ≤ 7) (k : ∀ s', Sm [40, 41, 44, 45, 46, 47, 48, 49, 50] g s' → s' 44 5 = (RW g h).length → NSm s' g tx st h (vs (RW g h).length id (RW g h).length 0 []) ∧ NSp s' g tx st h (vs (RW g h).length id (RW g h).length 0 []) → P (mk s' T)) : wpV (d + 14) 108 0 [aR 44, aI h, aI st, aU] [] (mk s T) P := by
  have hn0 := ht.1.1.1
  refine g_Trials_searchOrders_0 (c_prepare (d := d + 8) ht hs (fun s1 q1 q2 q3 q4 q5 => g_Trials_searchOrders_6 ?_))
  have f1 : Sm [40, 41, 44, 45, 46, 47, 48, 49, 50] g s1 := sm_t hs (sm_m q1 (by simp))
  have o2 : OSt g (up (up s1 44 9 0) 44 14 0) tx h st := ⟨sm_u (sm_u f1 (by simp)) (by simp), ⟨by rw [up_i (by decide), up_i (by decide)]; exact q2.1, by rw [up_i (by decide), up_i (by decide)]; exact q2.2⟩, by rw [up_i (by decide), up_i (by decide)]; exact q3, by rw [up_c (by decide), up_c (by decide)]; exact q4, by rw [up_c (by decide), up_c (by decide)]; exact q5⟩
  have n2 : NSm (up (up s1 44 9 0) 44 14 0) g tx st h [] ∧ NSp (up (up s1 44 9 0) 44 14 0) g tx st h [] := ⟨by show up (up s1 44 9 0) 44 14 0 44 9 = 0; rw [up_i (by decide), up_s], by show up (up s1 44 9 0) 44 14 0 44 14 = 0; rw [up_s]⟩
  generalize up (up s1 44 9 0) 44 14 0 = s2 at *
  refine c_lentTo h0 (by omega) (g_Trials_searchOrders_24 ?_)
  rw [o2.1 17 (by decide)]
  refine c_settled (d := d + 9) ht o2.1 h0 h1 st0 o2.2.1 (by omega) (by omega) (fun s3 e3 => g_Trials_searchOrders_36 ?_)
  have o3 : OSt g s3 tx h st := ost_c o2 e3 (by decide) (fun j _ => by rw [e3 44 (by decide)])
  have n3 := ns_c (s' := s3) (fun j _ _ => by rw [e3 44 (by decide)]) (e3 48 (by decide)) (e3 49 (by decide)) (e3 50 (by decide)) n2
  have r := c_layNext (d := d) ht hl h0 h1 st0 n7 (RW g h).length 0 [] s3 [] (fun M' => wpV (d + 13 + 1) 108 39 [aR 44, aI h, aI st, aI (LTo (g 17) h 6)] [] M' P) (by simp) (by omega) (fun x hx => absurd hx List.not_mem_nil) o3 n3 (fun i hi => by simp at hi) (fun s4 o4 n4 _ => g_Trials_searchOrders_39 (k s4 o4.1 o4.2.2.1 n4))
  have w := wpV_m (7 - (RW g h).length) r
  rw [show d + (RW g h).length + 6 + (7 - (RW g h).length) = d + 13 from by omega] at w
  exact w
theorem c_canOrder {d : Nat} {σ η : Sg} {T : TT} {tx : Int → TA} {P : Int → AM → Prop} {h : Int} (ht : Td σ η T tx) (k1 : 0 ≤ h → h < σ 3 0 → (RW σ h).length ≤ 7 → P 1 (mk σ T)) (k0 : ¬ (0 ≤ h ∧ h < σ 3 0 ∧ (RW σ h).length ≤ 7) → P 0 (mk σ T)) : wpI (d + 1) 107 0 [aR 44, aI h] [] (mk σ T) P := by
  have hd := ht.1.1.2.1
  refine g_Trials_canOrder_0 (ci (fun c => k0 (by omega)) (fun c => ci (fun c2 => ?_) (fun c2 => k0 (by omega))))
  have db := dof_b (σ := σ) (h := h) hd.1 hd.2.1
  refine c_deedsOf ht (g_Trials_canOrder_19 (c_bitCount db.1 db.2 (g_Trials_canOrder_22 ?_)))
  rw [bc_dl ht h]
  exact ci (fun c3 => k0 (by omega)) (fun c3 => k1 (by omega) c2 (by omega))
theorem r_isFew {d : Nat} {γ σ : Sg} {T : TT} {tx : Int → TA} {P : Int → AM → Prop} {h c : Int} (ht : Td γ σ T tx) (k1 : 0 ≤ h → h < γ 3 0 → (RW γ h).length ≤ c → P 1 (mk σ T)) (k0 : ¬ (0 ≤ h ∧ h < γ 3 0 ∧ (RW γ h).length ≤ c) → P 0 (mk σ T)) : wpI (d + 2) 266 0 [aR 70, aI h, aI c] [] (mk σ T) P := by
  have hn := ht.1.1.1
  refine g_Mo_isFew_0 ?_
  rw [hn.2.2, w32_id (x := γ 3 0 - 1) (by omega) (by omega)]
  refine ci (fun c => k0 (by omega)) (fun c1 => ci (fun c2 => k0 (by omega)) (fun c2 => r_deedsOf ht (g_Mo_isFew_13 (c_bits (g_Mo_isFew_16 ?_)))))
  rw [bc_dl (show Td γ σ T tx from ht) h]
  exact ci (fun c3 => k0 (by omega)) (fun c3 => k1 (by omega) (by omega) (by omega))
end
