noncomputable section
/-! what would be, if a heart were weighed anew -/
def lyS (g : Sg) (c0 c1 : List (Int × Int)) (st h : Int) (d : Int) (q : Int × Int × Int) : Int × Int × Int :=
  (w32 (q.1 + WG g c0 d), stl (w32 (q.1 + WG g c0 d)) q.2.1 (STK g c1 h q.2.1 (q.2.2 + 1) st), q.2.2 + 1)
def ly0 (g : Sg) (c1 : List (Int × Int)) (st h : Int) : Int × Int × Int := (LTo (g 17) h 6, stl (LTo (g 17) h 6) 0 (STK g c1 h 0 0 st), 0)
def lyE (g : Sg) (c0 c1 : List (Int × Int)) (st h : Int) (p : List Int) : Int × Int × Int := p.foldl (fun q d => lyS g c0 c1 st h d q) (ly0 g c1 st h)
theorem ly_a {g : Sg} {c0 c1 : List (Int × Int)} {st h d : Int} {p : List Int} : lyE g c0 c1 st h (p ++ [d]) = lyS g c0 c1 st h d (lyE g c0 c1 st h p) := by
  unfold lyE; rw [List.foldl_append]; rfl
def BqL (q : Int × Int × Int) : Prop := 0 ≤ q.2.2 ∧ (-600 - 1000 * q.2.2 ≤ q.1 ∧ q.1 ≤ 600 + 1000 * q.2.2) ∧ (-600 - 1000 * q.2.2 ≤ q.2.1 ∧ q.2.1 ≤ 600 + 1000 * q.2.2)
theorem ly_q {g η : Sg} {T : TT} {tx : Int → TA} (ht : Td g η T tx) (c0 c1 : List (Int × Int)) (st h : Int) : ∀ (p : List Int) (q : Int × Int × Int), (∀ d ∈ p, 0 ≤ d ∧ d < g 3 2) → q.2.2 + p.length ≤ 24 → BqL q → BqL (p.foldl (fun q d => lyS g c0 c1 st h d q) q) ∧ (p.foldl (fun q d => lyS g c0 c1 st h d q) q).2.2 = q.2.2 + p.length
  | [], q, _, _, hb => ⟨hb, by simp⟩
  | d :: r, q, hm, hl, hb => by
    obtain ⟨b0, b1, b2⟩ := hb
    have hd := hm d List.mem_cons_self
    have hw := wg_b ht c0 hd.1 hd.2
    rw [List.length_cons] at hl
    have e : w32 (q.1 + WG g c0 d) = q.1 + WG g c0 d := w32_id (by omega) (by omega)
    have hb' : BqL (lyS g c0 c1 st h d q) := by
      unfold lyS; rw [e]
      refine ⟨by show 0 ≤ q.2.2 + 1; omega, ?_, ?_⟩
      · show -600 - 1000 * (q.2.2 + 1) ≤ q.1 + WG g c0 d ∧ q.1 + WG g c0 d ≤ 600 + 1000 * (q.2.2 + 1); omega
      · show -600 - 1000 * (q.2.2 + 1) ≤ stl _ _ _ ∧ stl _ _ _ ≤ 600 + 1000 * (q.2.2 + 1)
        rcases stl_or (q.1 + WG g c0 d) q.2.1 (STK g c1 h q.2.1 (q.2.2 + 1) st) with e' | e' <;> rw [e'] <;> omega
    have e2 : (lyS g c0 c1 st h d q).2.2 = q.2.2 + 1 := rfl
    obtain ⟨r1, r2⟩ := ly_q ht c0 c1 st h r (lyS g c0 c1 st h d q) (fun x hx => hm x (List.mem_cons_of_mem _ hx)) (by rw [e2]; omega) hb'
    refine ⟨r1, ?_⟩
    rw [List.foldl_cons, r2, e2, List.length_cons]; omega
theorem ly_0 {g : Sg} (c1 : List (Int × Int)) (st : Int) {h : Int} (h0 : 0 ≤ h) (h6 : h < 6) (hl : ∀ i, 0 ≤ i → i < 36 → 0 ≤ g 17 i ∧ g 17 i ≤ 99) : BqL (ly0 g c1 st h) := by
  have := lto_b h0 h6 hl
  refine ⟨Int.le_refl _, ?_, ?_⟩
  · show -600 - 1000 * 0 ≤ LTo (g 17) h 6 ∧ LTo (g 17) h 6 ≤ 600 + 1000 * 0; omega
  · show -600 - 1000 * 0 ≤ stl _ _ _ ∧ stl _ _ _ ≤ 600 + 1000 * 0
    rcases stl_or (LTo (g 17) h 6) 0 (STK g c1 h 0 0 st) with e' | e' <;> rw [e'] <;> omega
theorem ly_b {g η : Sg} {T : TT} {tx : Int → TA} (ht : Td g η T tx) (c0 c1 : List (Int × Int)) (st : Int) {h : Int} (h0 : 0 ≤ h) (h6 : h < 6) (hl : ∀ i, 0 ≤ i → i < 36 → 0 ≤ g 17 i ∧ g 17 i ≤ 99) {p : List Int} (hm : ∀ d ∈ p, 0 ≤ d ∧ d < g 3 2) (hp : p.length ≤ 24) : BqL (lyE g c0 c1 st h p) ∧ (lyE g c0 c1 st h p).2.2 = p.length := by
  have := ly_q ht c0 c1 st h p (ly0 g c1 st h) hm (by show (0 : Int) + p.length ≤ 24; omega) (ly_0 c1 st h0 h6 hl)
  refine ⟨this.1, ?_⟩
  rw [show lyE g c0 c1 st h p = p.foldl (fun q d => lyS g c0 c1 st h d q) (ly0 g c1 st h) from rfl, this.2]
  show (0 : Int) + p.length = _; omega
/-- the class's settling -/
def Tst (s : Sg) (c1 : List (Int × Int)) (h st : Int) : Prop := s 44 3 = h ∧ ((c1 ≠ [] ∧ s 44 4 = -1) ∨ (c1 = [] ∧ s 44 4 = st))
theorem c_settled {d : Nat} {g η s : Sg} {T : TT} {tx : Int → TA} {P : Int → AM → Prop} {h st t sh n : Int} (ht : Td g η T tx) (hs : Sm [40, 41, 44, 45, 46, 47, 48, 49, 50] g s) (h0 : 0 ≤ h) (h1 : h < g 3 0) (st0 : 0 ≤ st) (tr : Tst s ((rA g tx).1 1) h st) (bs : -1000000 ≤ sh ∧ sh ≤ 1000000) (bl : -1000000 ≤ n ∧ n ≤ 1000000) (k : ∀ s', Sm [40, 41] s s' → P (stl t sh (STK g ((rA g tx).1 1) h sh n st)) (mk s' T)) : wpI (d + 4) 110 0 [aR 44, aI t, aI sh, aI n, aU] [] (mk s T) P := by
  obtain ⟨e3, e4⟩ := tr
  have e3' := hs 3 (by decide)
  refine g_Trials_settled_0 ?_
  rw [e3]
  rcases e4 with ⟨c, e4⟩ | ⟨c, e4⟩
  · rw [e4]
    refine ct rfl ?_
    have ht' : Td s η T tx := td_m ht hs (by decide)
    refine c_sticks (d := d) ht' h0 (by rw [e3']; exact h1) bs bl (fun s' hs' => g_Trials_settled_22 ?_)
    rw [stk_e (hs 4 (by decide)), ra_c tx e3']
    have k' := k s' hs'
    have e : STK g ((rA g tx).1 1) h sh n 0 = STK g ((rA g tx).1 1) h sh n st := by unfold STK; rw [say_1 c, say_1 c]
    rw [e]
    unfold stl at k'
    exact ci (fun q => by rw [if_pos q] at k'; exact k') (fun q => by rw [if_neg q] at k'; exact k')
  · rw [e4]
    have k' := k s (sm_r _ _)
    have e : STK g ((rA g tx).1 1) h sh n st = st := by unfold STK; rw [say_0 c]
    rw [e] at k'
    unfold stl at k'
    exact cf (by omega) (ci (fun q => by rw [if_pos q] at k'; exact k') (fun q => by rw [if_neg q] at k'; exact k'))
theorem c_hasSticks {d : Nat} {σ η : Sg} {T : TT} {tx : Int → TA} {P : Int → AM → Prop} (ht : Td σ η T tx) (k1 : (rA σ tx).1 1 ≠ [] → P 1 (mk σ T)) (k0 : (rA σ tx).1 1 = [] → P 0 (mk σ T)) : wpI (d + 2) 91 0 [aR 39, aU] [] (mk σ T) P := by
  have h13 := ht.1.1.2.2.2.2.1
  have h15 := ht.1.1.2.2.2.2.2.1
  refine g_Laws_hasSticks_0 (ci (fun c => ?_) (fun c => ct (by omega) (ct (by omega) ?_)))
  · exact k0 (by rw [rl_0 c]; rfl)
  · rcases rl_x ht c with ⟨r0, e⟩ | ⟨r0, tc, wf⟩
    · exact ct r0 (k0 (e 1))
    · exact cf r0 (cbt (by rw [(tc_sh tc).2.1]; rfl) (c_hasLaw tc (by omega) (by omega) (fun e => g_Laws_hasSticks_17 (cf (by omega) (k1 e))) (fun e => g_Laws_hasSticks_17 (ct rfl (k0 e)))))
theorem c_prepare {d : Nat} {g η s : Sg} {T : TT} {tx : Int → TA} {P : AM → Prop} {h st : Int} (ht : Td g η T tx) (hs : Sm [40, 41, 44, 45, 46, 47, 48, 49, 50] g s) (k : ∀ s', Sm [40, 41, 44, 45, 46] s s' → Tst s' ((rA g tx).1 1) h st → s' 44 5 = (RW g h).length → Ar (s' 45) (RW g h) → (∀ i : Int, 0 ≤ i → i < (RW g h).length → s' 46 i = WG g ((rA g tx).1 0) ((RW g h).getD i.toNat 0)) → P (mk s' T)) : wpV (d + 5) 109 0 [aR 44, aI h, aI st, aU] [] (mk s T) P := by
  have e3 := hs 3 (by decide)
  have h13 := ht.1.1.2.2.2.2.1
  have h15 := ht.1.1.2.2.2.2.2.1
  obtain ⟨m1, m2, m3⟩ := rw_m ht h
  refine g_Trials_prepare_0 ?_
  have h1 : Sm [40, 41, 44, 45, 46] s (up s 44 3 h) := sm_u (sm_r _ _) (by simp)
  have u1 : up s 44 3 h 44 3 = h := up_s _ _ _ _
  generalize up s 44 3 h = s1 at *
  have f1 : Sm [40, 41, 44, 45, 46, 47, 48, 49, 50] g s1 := sm_t hs (sm_m h1 (by simp))
  have t1 : Td s1 η T tx := td_m ht f1 (by decide)
  have rest : ∀ v : Int, (((rA g tx).1 1 ≠ [] ∧ v = -1) ∨ ((rA g tx).1 1 = [] ∧ v = st)) → wpI (d + 4) 63 0 [aR 3, aI h, aR 45, aU, aU] [] (mk (up s1 44 4 v) T) (fun r M' => wpV (d + 4 + 1) 109 37 [aR 44, aI h, aI st, aU] [aI r, aR 44] M' P) := by
    intro v hv
    have h2 : Sm [40, 41, 44, 45, 46] s (up s1 44 4 v) := sm_u h1 (by simp)
    have u2 : up s1 44 4 v 44 3 = h := by rw [up_i (by decide)]; exact u1
    have u2' : up s1 44 4 v 44 4 = v := up_s _ _ _ _
    generalize up s1 44 4 v = s2 at *
    have f2 : Sm [40, 41, 44, 45, 46, 47, 48, 49, 50] g s2 := sm_t hs (sm_m h2 (by simp))
    refine c_list45 (td_m ht f2 (by decide)) (fun s3 h3 a3 => g_Trials_prepare_37 ?_)
    rw [rw_c (f2 3 (by decide)) (f2 5 (by decide))] at a3 ⊢
    have h4 : Sm [40, 41, 44, 45, 46] s (up s3 44 5 (RW g h).length) := sm_u (sm_t h2 (sm_m h3 (by simp))) (by simp)
    refine for_up (n := (RW g h).length) (Hd := fun i s => wpV (d + 5) 109 42 [aR 44, aI h, aI st, aI i] [] (mk s T) P) (Inv := fun i s' => Sm [40, 41, 44, 45, 46] s s' ∧ Tst s' ((rA g tx).1 1) h st ∧ s' 44 5 = (RW g h).length ∧ Ar (s' 45) (RW g h) ∧ (∀ j : Int, 0 ≤ j → j < i → s' 46 j = WG g ((rA g tx).1 0) ((RW g h).getD j.toNat 0))) ?_ ?_ ⟨h4, ⟨by rw [up_i (by decide), h3 44 (by decide)]; exact u2, by rw [up_i (by decide), h3 44 (by decide), u2']; exact hv⟩, up_s _ _ _ _, by rw [up_c (by decide)]; exact a3, fun j j0 j1 => by omega⟩ (by omega)
    · rintro i s4 i0 i1 ⟨q1, q2, q3, q4, q5⟩ ih
      have f4 : Sm [40, 41, 44, 45, 46, 47, 48, 49, 50] g s4 := sm_t hs (sm_m q1 (by simp))
      have t4 : Td s4 η T tx := td_m ht f4 (by decide)
      have e45 := ar_i q4 i0 i1
      have hd := (m1 _).mp (getD_mem (L := RW g h) (i := i.toNat) (by omega))
      have e34 := f4 3 (by decide)
      have go : ∀ r : Int, Lx s4 T r (rA g tx) → wpI (d + 4) 84 0 [aR 39, aR r, aI (s4 45 i), aU] [] (mk s4 T) (fun r M' => wpV (d + 4 + 1) 109 75 [aR 44, aI h, aI st, aI i] [aI r, aI i, aR 46] M' P) := by
        intro r hx
        rw [e45]
        refine c_weight (d := d + 1) t4 hx hd.1 (by rw [e34]; exact hd.2.1) (fun s5 h5 => g_Trials_prepare_75 (ct (by omega) ?_))
        rw [w32_id (x := i + 1) (by omega) (by omega), wg_m f4 (by decide)]
        have h5' : Sm [40, 41, 44, 45, 46] s s5 := sm_t q1 (sm_m h5 (by simp))
        refine ih _ ⟨sm_u h5' (by simp), ⟨by rw [up_c (by decide), h5 44 (by decide)]; exact q2.1, by rw [up_c (by decide), h5 44 (by decide)]; exact q2.2⟩, by rw [up_c (by decide), h5 44 (by decide)]; exact q3, by rw [up_c (by decide), h5 45 (by decide)]; exact q4, fun j j0 j1 => ?_⟩
        rw [up_e]
        by_cases ej : j = i
        · rw [if_pos ej, ej]
        · rw [if_neg ej, h5 46 (by decide)]; exact q5 j j0 (by omega)
      refine g_Trials_prepare_42 ?_
      rw [q3, e34]
      refine ct i1 (ci (fun c => ct (by omega) (go 0 ?_)) (fun c => ct (by omega) (ct (by omega) (ct (by omega) (go _ ?_)))))
      · rw [rl_0 c]; exact Or.inl ⟨rfl, fun _ => rfl⟩
      · have := rl_x t4 (by rw [e34]; exact c)
        rw [e34, ra_c tx e34] at this; exact this
    · rintro s4 ⟨q1, q2, q3, q4, q5⟩
      refine g_Trials_prepare_42 ?_
      rw [q3]
      exact cf (by omega) (k s4 q1 q2 q3 q4 q5)
  refine c_hasSticks (d := d + 2) t1 (fun e => g_Trials_prepare_13 (cf (by omega) (rest (-1) (Or.inl ⟨?_, rfl⟩)))) (fun e => g_Trials_prepare_13 (ct rfl (rest st (Or.inr ⟨?_, rfl⟩))))
  · rw [ra_c tx (f1 3 (by decide))] at e; exact e
  · rw [ra_c tx (f1 3 (by decide))] at e; exact e
/-- the reference's row laid -/
theorem sq_ly {g η : Sg} {T : TT} {tx : Int → TA} (ht : Td g η T tx) (c0 c1 : List (Int × Int)) (st : Int) {h : Int} {p : List Int} {mm : Int → Int} (hm : ∀ d ∈ p, 0 ≤ d ∧ d < g 3 2) (hd : p.Nodup) (hl : ∀ i, 0 ≤ i → i < 36 → 0 ≤ g 17 i ∧ g 17 i ≤ 99) (h0 : 0 ≤ h) (h1 : h < g 3 0) (h6 : h < 6) : ∀ k : Nat, k ≤ p.length → SK (g 3 0) (sqM g c0 c1 st (fun i => p.getD i.toNat 0) (stlM g c1 st (tkM (g 17) h mm)) k) ∧ (∀ j : Int, k ≤ j → j < p.length → tb (sqM g c0 c1 st (fun i => p.getD i.toNat 0) (stlM g c1 st (tkM (g 17) h mm)) k 4) (p.getD j.toNat 0) = false) ∧ (sqM g c0 c1 st (fun i => p.getD i.toNat 0) (stlM g c1 st (tkM (g 17) h mm)) k 0 = h ∧ sqM g c0 c1 st (fun i => p.getD i.toNat 0) (stlM g c1 st (tkM (g 17) h mm)) k 3 = 0 ∧ sqM g c0 c1 st (fun i => p.getD i.toNat 0) (stlM g c1 st (tkM (g 17) h mm)) k 5 = 0) ∧ sqM g c0 c1 st (fun i => p.getD i.toNat 0) (stlM g c1 st (tkM (g 17) h mm)) k 1 = (lyE g c0 c1 st h (p.take k)).1 ∧ sqM g c0 c1 st (fun i => p.getD i.toNat 0) (stlM g c1 st (tkM (g 17) h mm)) k 2 = (lyE g c0 c1 st h (p.take k)).2.1 ∧ BC (sqM g c0 c1 st (fun i => p.getD i.toNat 0) (stlM g c1 st (tkM (g 17) h mm)) k 4) = k ∧ (lyE g c0 c1 st h (p.take k)).2.2 = k := by
  have sk0 : SK (g 3 0) (stlM g c1 st (tkM (g 17) h mm)) := sk_stl _ _ _ (sk_tk h0 h1 h6 hl)
  have m4 : stlM g c1 st (tkM (g 17) h mm) 4 = 0 := rfl
  have inj : ∀ i j : Int, 0 ≤ i → i < p.length → 0 ≤ j → j < p.length → p.getD i.toNat 0 = p.getD j.toNat 0 → i = j := by
    intro i j i0 i1 j0 j1 e
    rw [getD_e (by omega), getD_e (by omega)] at e
    have pw := List.pairwise_iff_getElem.mp hd
    rcases Nat.lt_trichotomy i.toNat j.toNat with q | q | q
    · exact absurd e (pw _ _ (by omega) (by omega) q)
    · omega
    · exact absurd e.symm (pw _ _ (by omega) (by omega) q)
  have base := sq_i ht c0 c1 st (hs := g 3 0) (n := p.length) (f := fun i => p.getD i.toNat 0) (m := stlM g c1 st (tkM (g 17) h mm)) (fun k k0 k1 => hm _ (getD_mem (by omega))) inj sk0 (fun k k0 k1 => by rw [m4]; exact tb_o _)
  intro k
  induction k with
  | zero =>
    intro _
    obtain ⟨b1, b2, b3⟩ := base 0 (by omega) (by omega)
    refine ⟨b1, fun j j0 j1 => b2 j j0 j1, ⟨rfl, rfl, rfl⟩, rfl, ?_, bc_0, rfl⟩
    show stl (LTo (g 17) h 6) 0 (STK g c1 h 0 (BC 0) st) = stl (LTo (g 17) h 6) 0 (STK g c1 h 0 0 st)
    rw [bc_0]
  | succ k ih =>
    intro hk
    obtain ⟨a1, a2, a3, a4, a5, a6, a7⟩ := ih (by omega)
    obtain ⟨b1, b2, b3⟩ := base ((k + 1 : Nat) : Int) (by omega) (by omega)
    have e : ((k + 1 : Nat) : Int) = (k : Int) + 1 := by omega
    have et : p.take (k + 1) = p.take k ++ [p.getD (k : Int).toNat 0] := by
      rw [getD_e (by omega), List.take_succ_eq_append_getElem (by omega)]; rfl
    have hb := a2 k (by omega) (by omega)
    have hdk := hm _ (getD_mem (L := p) (i := (k : Int).toNat) (by omega))
    have hd3 := ht.1.1.2.1
    refine ⟨b1, fun j j0 j1 => b2 j j0 j1, ?_, ?_⟩
    · refine ⟨?_, ?_, ?_⟩
      · rw [b3 0 (by omega)]; rfl
      · rw [b3 3 (by omega)]; rfl
      · rw [b3 5 (by omega)]; rfl
    · rw [e, sq_s (by omega), et, ly_a]
      generalize hm0 : sqM g c0 c1 st (fun i => p.getD i.toNat 0) (stlM g c1 st (tkM (g 17) h mm)) k = m at *
      have x1 : ptM g c0 (p.getD (k : Int).toNat 0) m 1 = w32 ((lyE g c0 c1 st h (p.take k)).1 + WG g c0 (p.getD (k : Int).toNat 0)) := by rw [← a4]; rfl
      have x4 : BC (ptM g c0 (p.getD (k : Int).toNat 0) m 4) = k + 1 := by
        show BC (bO (m 4) (sL 1 (p.getD (k : Int).toNat 0))) = _
        rw [bc_o a1.2.1.1 a1.2.1.2 hdk.1 (by omega) hb, a6]
      refine ⟨x1, ?_, x4, by show (lyE g c0 c1 st h (p.take k)).2.2 + 1 = _; omega⟩
      show stl (ptM g c0 (p.getD (k : Int).toNat 0) m 1) (m 2) (STK g c1 (m 0) (m 2) (BC (ptM g c0 (p.getD (k : Int).toNat 0) m 4)) st) = stl _ _ _
      rw [x1, x4, a5, a3.1, a7]
theorem r_endOf {d : Nat} {γ σ : Sg} {T : TT} {tx : Int → TA} {P : Int → AM → Prop} {h st : Int} {p : List Int} (ht : Td γ σ T tx) (hl : Ln γ σ) (h0 : 0 ≤ h) (h1 : h < γ 3 0) (hst : 0 ≤ st ∧ st ≤ 99) (hn : σ 70 23 = p.length) (hp : Ar (σ 78) p) (hm : ∀ d ∈ p, 0 ≤ d ∧ d < γ 3 2) (hd : p.Nodup) (hlen : p.length ≤ 24) (k : ∀ s m, Fm [76, 77] σ s → RM s m → SK (γ 3 0) m → m 0 = h → m 3 = 0 → m 5 = 0 → BC (m 4) = p.length → m 1 = (lyE γ ((rA γ tx).1 0) ((rA γ tx).1 1) st h p).1 → m 2 = (lyE γ ((rA γ tx).1 0) ((rA γ tx).1 1) st h p).2.1 → P (lyE γ ((rA γ tx).1 0) ((rA γ tx).1 1) st h p).2.1 (mk s T)) : wpI (d + 8) 268 0 [aR 70, aI h, aI st, aU] [] (mk σ T) P := by
  have hn0 := ht.1.1.1
  have sl := sq_ly ht ((rA γ tx).1 0) ((rA γ tx).1 1) st (mm := fun _ => 0) hm hd (fun i i0 i1 => ⟨(hl i i0 i1).1, (hl i i0 i1).2.1⟩) h0 h1 (by omega)
  refine g_Mo_endOf_0 (r_weighNow (fun _ => 0) ht hl h0 h1 hst (fun s0 f0 r0 => g_Mo_endOf_6 ?_))
  refine for_up (n := p.length) (Hd := fun i s => wpI (d + 8) 268 8 [aR 70, aI h, aI st, aI i] [] (mk s T) P) (Inv := fun i s => Fm [76, 77] σ s ∧ RM s (sqM γ ((rA γ tx).1 0) ((rA γ tx).1 1) st (fun i => p.getD i.toNat 0) (stlM γ ((rA γ tx).1 1) st (tkM (γ 17) h (fun _ => 0))) i)) ?_ ?_ ⟨f0, r0⟩ (by omega)
  · rintro i s i0 i1 ⟨q1, q2⟩ ih
    obtain ⟨a1, a2, a3, a4, a5, a6, a7⟩ := sl i.toNat (by omega)
    rw [show ((i.toNat : Nat) : Int) = i from by omega] at a1 a2
    have hdk := hm _ (getD_mem (L := p) (i := i.toNat) (by omega))
    refine g_Mo_endOf_8 ?_
    have e78 : s 78 i = p.getD i.toNat 0 := by rw [q1.1 78 (by decide) (by decide)]; exact ar_i hp i0 i1
    rw [q1.1 70 (by decide) (by decide), hn, e78]
    refine ct i1 (ct (by omega) (r_layNow (td_f ht q1 (by decide)) q2 a1 hdk.1 hdk.2 (a2 i (Int.le_refl _) i1) hst (fun s' f' r' => g_Mo_endOf_27 ?_)))
    rw [w32_id (x := i + 1) (by omega) (by omega)]
    refine ih s' ⟨fm_t q1 f', ?_⟩
    rw [sq_s i0]; exact r'
  · rintro s ⟨q1, q2⟩
    obtain ⟨a1, a2, a3, a4, a5, a6, a7⟩ := sl p.length (Nat.le_refl _)
    rw [List.take_length] at a4 a5
    refine g_Mo_endOf_8 ?_
    rw [q1.1 70 (by decide) (by decide), hn, show s 71 244 = _ from q2 2 (by omega) (by omega), a5]
    exact cf (by omega) (k s _ q1 q2 a1 a3.1 a3.2.1 a3.2.2 a6 a4 a5)
/-- the scale is set aside and put back -/
theorem r_setAside {d : Nat} {σ : Sg} {T : TT} {P : AM → Prop} (k : ∀ s, Sm [79] σ s → (∀ i, 0 ≤ i → i < 6 → s 79 i = σ 71 (242 + i)) → P (mk s T)) : wpV d 267 0 [aR 70, aU] [] (mk σ T) P := by
  refine g_Mo_setAside_0 ?_
  refine for_up (n := 6) (Hd := fun i s => wpV d 267 2 [aR 70, aI i] [] (mk s T) P) (Inv := fun n s => Sm [79] σ s ∧ ∀ i, 0 ≤ i → i < n → s 79 i = σ 71 (242 + i)) ?_ ?_ ⟨sm_r _ _, fun i _ _ => by omega⟩ (by omega)
  · rintro i s i0 i1 ⟨q1, q2⟩ ih
    refine g_Mo_setAside_2 ?_
    rw [w32_id (x := 242 + i) (by omega) (by omega), w32_id (x := i + 1) (by omega) (by omega), q1 71 (by decide)]
    refine ct i1 (ct (by omega) (ct (by omega) (ih _ ⟨sm_u q1 (by simp), fun j j0 j1 => ?_⟩)))
    rw [up_e]
    by_cases q : j = i
    · rw [if_pos q, q]
    · rw [if_neg q]; exact q2 j j0 (by omega)
  · rintro s ⟨q1, q2⟩
    exact g_Mo_setAside_2 (cf (by omega) (k s q1 q2))
theorem r_putBack {d : Nat} {σ : Sg} {T : TT} {P : AM → Prop} (k : ∀ s, Sm [71] σ s → (∀ i, 0 ≤ i → i < 6 → s 71 (242 + i) = σ 79 i) → (∀ i, i < 242 ∨ 248 ≤ i → s 71 i = σ 71 i) → P (mk s T)) : wpV d 272 0 [aR 70, aU] [] (mk σ T) P := by
  refine g_Mo_putBack_0 ?_
  refine for_up (n := 6) (Hd := fun i s => wpV d 272 2 [aR 70, aI i] [] (mk s T) P) (Inv := fun n s => Sm [71] σ s ∧ (∀ i, 0 ≤ i → i < n → s 71 (242 + i) = σ 79 i) ∧ ∀ i, i < 242 ∨ 248 ≤ i → s 71 i = σ 71 i) ?_ ?_ ⟨sm_r _ _, fun i _ _ => by omega, fun _ _ => rfl⟩ (by omega)
  · rintro i s i0 i1 ⟨q1, q2, q3⟩ ih
    refine g_Mo_putBack_2 ?_
    rw [w32_id (x := 242 + i) (by omega) (by omega), w32_id (x := i + 1) (by omega) (by omega), q1 79 (by decide)]
    refine ct i1 (ct (by omega) (ct (by omega) (ih _ ⟨sm_u q1 (by simp), fun j j0 j1 => ?_, fun j hj => ?_⟩)))
    · rw [up_e]
      by_cases q : j = i
      · rw [if_pos (by omega), q]
      · rw [if_neg (by omega)]; exact q2 j j0 (by omega)
    · rw [up_i (by omega)]; exact q3 j hj
  · rintro s ⟨q1, q2, q3⟩
    exact g_Mo_putBack_2 (cf (by omega) (k s q1 q2 q3))
end
