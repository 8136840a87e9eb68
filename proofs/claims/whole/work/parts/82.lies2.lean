noncomputable section
theorem so_m {cs : List Int} {σ s : Sg} (f : Sm cs σ s) (k : ∀ a ∈ cs, ¬ (3 ≤ a ∧ a ≤ 15)) : SO s = SO σ := by
  have e : ∀ a, 3 ≤ a → a ≤ 15 → s a = σ a := fun a h1 h2 => f a (fun q => k a q ⟨h1, h2⟩)
  have hk : KD s = KD σ := kd_c (e 5 (by omega) (by omega)) (e 6 (by omega) (by omega)) (wg_m f (fun a ha q => k a ha (by omega)))
  funext c j h; unfold SO; rw [hk, e 3 (by omega) (by omega), e 11 (by omega) (by omega)]
theorem sj_c {g s : Sg} (h : SO s = SO g) : SJ s = SJ g := by funext c x i; unfold SJ; rw [h]
theorem take_s {p : List Int} {i : Int} (i0 : 0 ≤ i) (i1 : i < p.length) : p.take (i + 1).toNat = p.take i.toNat ++ [p.getD i.toNat 0] := by
  rw [show (i + 1).toNat = i.toNat + 1 from by omega, getD_e (by omega), List.take_succ_eq_append_getElem (by omega)]
/-- how it stands when all deeds lie there -/
def qL (g : Sg) (tx : Int → TA) (st h : Int) : Int × Int × Int := ((lyE g ((rA g tx).1 0) ((rA g tx).1 1) st h (RW g h)).1, (lyE g ((rA g tx).1 0) ((rA g tx).1 1) st h (RW g h)).2.1, 0)
theorem ql_b {g η : Sg} {T : TT} {tx : Int → TA} (ht : Td g η T tx) (st : Int) {h : Int} (h0 : 0 ≤ h) (h1 : h < g 3 0) (hl : ∀ i, 0 ≤ i → i < 36 → 0 ≤ g 17 i ∧ g 17 i ≤ 99) : BqJ 0 (qL g tx st h) := by
  have hn := ht.1.1.1
  obtain ⟨m1, m2, m3⟩ := rw_m ht h
  obtain ⟨⟨b0, b1, b2⟩, b3⟩ := ly_b ht ((rA g tx).1 0) ((rA g tx).1 1) st h0 (by omega) hl (p := RW g h) (fun d hd => ⟨((m1 d).mp hd).1, ((m1 d).mp hd).2.1⟩) m3
  unfold BqJ qL
  refine ⟨?_, ?_, by simp, by simp⟩
  · show -30000 - 1000 * 0 ≤ (lyE _ _ _ _ _ _).1 ∧ (lyE _ _ _ _ _ _).1 ≤ 30000 + 1000 * 0; omega
  · show -30000 - 1000 * 0 ≤ (lyE _ _ _ _ _ _).2.1 ∧ (lyE _ _ _ _ _ _).2.1 ≤ 30000 + 1000 * 0; omega
theorem c_fewestLies {d : Nat} {g η : Sg} {T : TT} {tx : Int → TA} {P : Int → AM → Prop} {h y : Int} (ht : Td g η T tx) (hl : ∀ i, 0 ≤ i → i < 36 → 0 ≤ g 17 i ∧ g 17 i ≤ 99) (h0 : 0 ≤ h) (h1 : h < g 3 0) (k : ∀ s b, Sm [40, 41, 44, 45, 46, 47, 48, 49, 50] g s → Bst (LG g ((rA g tx).1 1) ((rA g tx).1 2) (g 3 11) h (RW g h).length (qL g tx (g 3 11) h) (SJ g ((rA g tx).1 0) h (g 3 9)) y (g 3 9)) (Dm (SJ g ((rA g tx).1 0) h (g 3 9))) b → P b (mk s T)) : wpI (d + 20) 116 0 [aR 44, aI h, aI y, aU, aU, aU] [] (mk g T) P := by
  have hn := ht.1.1.1
  have hJ := ht.1.1.2.2.1
  have hst := ht.1.1.2.2.2.1
  obtain ⟨m1, m2, m3⟩ := rw_m ht h
  have hso := sj_b g ((rA g tx).1 0) h hJ.1 hJ.2.1
  have hsJ : ∀ i, g 3 9 ≤ i → tb (SJ g ((rA g tx).1 0) h (g 3 9)) i = false := fun i hi => by
    have := sj_t g ((rA g tx).1 0) h hJ.1 hJ.2.1 i (by omega)
    cases e : tb (SJ g ((rA g tx).1 0) h (g 3 9)) i with
    | false => rfl
    | true => exact absurd (this.mp e).1 (by omega)
  refine g_Trials_fewestLies_0 (c_prepare (d := d + 14) ht (sm_r _ _) (fun s1 q1 q2 q3 q4 q5 => g_Trials_fewestLies_12 ?_))
  have f1 : Sm [40, 41, 44, 45, 46, 47, 48, 49, 50] g s1 := sm_m q1 (by simp)
  refine c_soJudges (d := d + 14) (td_m ht f1 (by decide)) (fun s2 e2 => g_Trials_fewestLies_18 ?_)
  rw [sj_c (so_m f1 (by decide)), ra_c tx (f1 3 (by decide)), f1 3 (by decide)]
  generalize hso' : SJ g ((rA g tx).1 0) h (g 3 9) = so at *
  have f2 : Sm [40, 41, 44, 45, 46, 47, 48, 49, 50] g s2 := sm_t f1 (sm_m e2 (by simp))
  have l3 : LSt g (up (up (up s2 44 16 so) 44 17 y) 44 18 (-1)) ((rA g tx).1 1) h (g 3 11) (RW g h).length so y := by
    refine ⟨sm_u (sm_u (sm_u f2 (by simp)) (by simp)) (by simp), ⟨?_, ?_⟩, ?_, ?_, ?_⟩
    · rw [up_i (by decide), up_i (by decide), up_i (by decide), e2 44 (by decide)]; exact q2.1
    · rw [up_i (by decide), up_i (by decide), up_i (by decide), e2 44 (by decide)]; exact q2.2
    · rw [up_i (by decide), up_i (by decide), up_i (by decide), e2 44 (by decide)]; exact q3
    · rw [up_i (by decide), up_i (by decide), up_s]
    · rw [up_i (by decide), up_s]
  have b3 : up (up (up s2 44 16 so) 44 17 y) 44 18 (-1) 44 18 = -1 := up_s _ _ _ _
  have w3 : up (up (up s2 44 16 so) 44 17 y) 44 18 (-1) 46 = s1 46 := by rw [up_c (by decide), up_c (by decide), up_c (by decide), e2 46 (by decide)]
  have t3 : up (up (up s2 44 16 so) 44 17 y) 44 18 (-1) 17 = g 17 := by rw [up_c (by decide), up_c (by decide), up_c (by decide), f2 17 (by decide)]
  generalize up (up (up s2 44 16 so) 44 17 y) 44 18 (-1) = s3 at *
  refine c_lentTo h0 (by omega) (g_Trials_fewestLies_39 ?_)
  rw [t3]
  refine c_settled (d := d + 15) ht l3.1 h0 h1 hst.1 l3.2.1 (by omega) (by omega) (fun s4 e4 => g_Trials_fewestLies_47 ?_)
  refine for_up (n := (RW g h).length) (Hd := fun i s => wpI (d + 20) 116 52 [aR 44, aI h, aI y, aI (lyE g ((rA g tx).1 0) ((rA g tx).1 1) (g 3 11) h ((RW g h).take i.toNat)).1, aI (lyE g ((rA g tx).1 0) ((rA g tx).1 1) (g 3 11) h ((RW g h).take i.toNat)).2.1, aI i] [] (mk s T) P) (Inv := fun i s => LSt g s ((rA g tx).1 1) h (g 3 11) (RW g h).length so y ∧ s 44 18 = -1 ∧ s 46 = s1 46) ?_ ?_ ⟨lst_s l3 e4, by rw [e4 44 (by decide)]; exact b3, by rw [e4 46 (by decide)]; exact w3⟩ (by omega)
  · rintro i s i0 i1 ⟨a1, a2, a3⟩ ih
    obtain ⟨⟨b0, b1, b2⟩, b3⟩ := ly_b ht ((rA g tx).1 0) ((rA g tx).1 1) (g 3 11) h0 (by omega) hl (p := (RW g h).take i.toNat) (fun d hd => ⟨((m1 d).mp (List.mem_of_mem_take hd)).1, ((m1 d).mp (List.mem_of_mem_take hd)).2.1⟩) (by rw [List.length_take]; omega)
    have elen : (((RW g h).take i.toNat).length : Int) = i := by rw [List.length_take]; omega
    rw [elen] at b3
    refine g_Trials_fewestLies_52 ?_
    rw [a1.2.2.1, a3, q5 i i0 i1, w32_id (x := i + 1) (by omega) (by omega)]
    refine ct i1 (ct (by omega) (c_settled (d := d + 15) ht a1.1 h0 h1 hst.1 a1.2.1 (by omega) (by omega) (fun s' e' => g_Trials_fewestLies_82 ?_)))
    rw [w32_id (x := i + 1) (by omega) (by omega)]
    have := ih s' ⟨lst_s a1 e', by rw [e' 44 (by decide)]; exact a2, by rw [e' 46 (by decide)]; exact a3⟩
    rw [take_s i0 i1, ly_a] at this
    unfold lyS at this
    rw [b3] at this
    exact this
  · rintro s ⟨a1, a2, a3⟩
    have et : (RW g h).take ((RW g h).length : Int).toNat = RW g h := by rw [Int.toNat_natCast, List.take_length]
    rw [et]
    refine g_Trials_fewestLies_52 ?_
    rw [a1.2.2.1]
    refine cf (by omega) ?_
    have r := c_replyNext (d := d + 5) (y := y) (n := (RW g h).length) ht h0 h1 hst.1 ⟨by omega, by omega⟩ hso.1 hso.2 hsJ (ql_b ht (g 3 11) h0 h1 hl) (g 3 9).toNat 0 0 s (fun _ => False) (fun M' => wpI (d + 20) 116 99 [aR 44, aI h, aI y, aI (lyE g ((rA g tx).1 0) ((rA g tx).1 1) (g 3 11) h (RW g h)).1, aI (lyE g ((rA g tx).1 0) ((rA g tx).1 1) (g 3 11) h (RW g h)).2.1, aI (RW g h).length] [] M' P) (by omega) (by omega) ⟨by omega, by omega, fun i _ q => by rw [tb_o] at q; exact absurd q (by decide)⟩ (fun i _ => tb_o i) (by rw [bc_0]; rfl) a1 (Or.inl ⟨a2, fun _ q => q.elim⟩) (fun s' l' b' => g_Trials_fewestLies_99 (k s' _ l'.1 (bst_c (fun z => ⟨fun q => Or.inr ⟨q, fun i i0 i1 => by omega⟩, fun q => q.elim False.elim (fun q => q.1)⟩) b')))
    have up8 : ∀ m : Nat, wpV (d + 5 + (g 3 9).toNat + 6) 117 0 [aR 44, aI 0, aI (lyE g ((rA g tx).1 0) ((rA g tx).1 1) (g 3 11) h (RW g h)).1, aI (lyE g ((rA g tx).1 0) ((rA g tx).1 1) (g 3 11) h (RW g h)).2.1, aI 0, aU] [] (mk s T) (fun M' => wpI (d + 20) 116 99 [aR 44, aI h, aI y, aI (lyE g ((rA g tx).1 0) ((rA g tx).1 1) (g 3 11) h (RW g h)).1, aI (lyE g ((rA g tx).1 0) ((rA g tx).1 1) (g 3 11) h (RW g h)).2.1, aI (RW g h).length] [] M' P) → wpV (d + 5 + (g 3 9).toNat + 6 + m) 117 0 [aR 44, aI 0, aI (lyE g ((rA g tx).1 0) ((rA g tx).1 1) (g 3 11) h (RW g h)).1, aI (lyE g ((rA g tx).1 0) ((rA g tx).1 1) (g 3 11) h (RW g h)).2.1, aI 0, aU] [] (mk s T) (fun M' => wpI (d + 20) 116 99 [aR 44, aI h, aI y, aI (lyE g ((rA g tx).1 0) ((rA g tx).1 1) (g 3 11) h (RW g h)).1, aI (lyE g ((rA g tx).1 0) ((rA g tx).1 1) (g 3 11) h (RW g h)).2.1, aI (RW g h).length] [] M' P) := by
      intro m
      induction m with
      | zero => exact id
      | succ m ih => exact fun w => wp_d (ih w)
    have w := up8 (8 - (g 3 9).toNat) r
    rw [show d + 5 + (g 3 9).toNat + 6 + (8 - (g 3 9).toNat) = d + 19 from by omega] at w
    exact w
/-- what the reference's trials may change -/
def Fz (σ s : Sg) : Prop := (∀ a, a ∉ [70, 71, 76, 77, 78, 80] → s a = σ a) ∧ (∀ i, i ≠ 23 → s 70 i = σ 70 i) ∧ (∀ i, i < 242 ∨ 248 ≤ i → s 71 i = σ 71 i)
theorem fz_r (σ : Sg) : Fz σ σ := ⟨fun _ _ => rfl, fun _ _ => rfl, fun _ _ => rfl⟩
theorem fz_t {a b c : Sg} (h : Fz a b) (k : Fz b c) : Fz a c := ⟨fun x hx => (k.1 x hx).trans (h.1 x hx), fun i hi => (k.2.1 i hi).trans (h.2.1 i hi), fun i h1 => (k.2.2 i h1).trans (h.2.2 i h1)⟩
theorem fz_m {σ s : Sg} (h : Fm [76, 77] σ s) : Fz σ s := ⟨fun a ha => h.1 a (fun q => ha (by simp at q; simp; omega)) (fun q => ha (by simp [q])), fun i _ => by rw [h.1 70 (by decide) (by decide)], fun i h2 => h.2 i h2⟩
theorem fz_rw {σ s : Sg} (h : Sm [70, 78] σ s) (h7 : ∀ i, i ≠ 23 → s 70 i = σ 70 i) : Fz σ s := ⟨fun a ha => h a (fun q => ha (by simp at q; simp; omega)), h7, fun i _ => by rw [h 71 (by decide)]⟩
theorem fz_s {cs : List Int} {σ s : Sg} (h : Sm cs σ s) (k : ∀ a ∈ cs, a = 76 ∨ a = 77 ∨ a = 78 ∨ a = 80) : Fz σ s := ⟨fun a ha => h a (fun q => ha (by have := k a q; simp; omega)), fun i _ => by rw [h 70 (fun q => by have := k _ q; omega)], fun i _ => by rw [h 71 (fun q => by have := k _ q; omega)]⟩
theorem fz_td {γ σ s : Sg} {T : TT} {tx : Int → TA} (ht : Td γ σ T tx) (h : Fz σ s) : Td γ s T tx := td_g ht (h.1 73 (by decide)) (fun i hi => h.2.2 i (by omega))
theorem fz_ln {γ σ s : Sg} (hl : Ln γ σ) (h : Fz σ s) : Ln γ s := fun i i0 i1 => by rw [h.2.2 _ (by omega)]; exact hl i i0 i1
theorem fz_rsc {h s1 s2 s3 : Sg} (e1 : Sm [79] h s1) (a1 : ∀ i, 0 ≤ i → i < 6 → s1 79 i = h 71 (242 + i)) (f : Fz s1 s2) (e3 : Sm [71] s2 s3) (a3 : ∀ i, 0 ≤ i → i < 6 → s3 71 (242 + i) = s2 79 i) (b3 : ∀ i, i < 242 ∨ 248 ≤ i → s3 71 i = s2 71 i) : Rsc h s3 := by
  refine ⟨fun a n7 nr => ?_, fun i i0 i1 => by rw [e3 70 (by decide), f.2.1 i (by omega), e1 70 (by decide)]⟩
  by_cases e : a = 71
  · subst e
    funext i
    by_cases q : i < 242 ∨ 248 ≤ i
    · rw [b3 i q, f.2.2 i q, e1 71 (by decide)]
    · have := a3 (i - 242) (by omega) (by omega)
      rw [show 242 + (i - 242) = i from by omega] at this
      rw [this, f.1 79 (by decide), a1 (i - 242) (by omega) (by omega), show 242 + (i - 242) = i from by omega]
  · rw [e3 a (by simp; exact e), f.1 a (by simp; omega), e1 a (by simp; omega)]
theorem vd_p {g : Sg} {c3 : List (Int × Int)} {h sh : Int} : 0 < VD g c3 h sh ↔ ¬ g 4 h < sh := by
  unfold VD
  split
  · rename_i q; exact ⟨fun a => by omega, fun a => absurd q a⟩
  · rename_i q
    refine ⟨fun _ => q, fun _ => ?_⟩
    split <;> omega
theorem r_comes {d : Nat} {γ σ : Sg} {T : TT} {tx : Int → TA} {P : Int → AM → Prop} {h x : Int} (ht : Td γ σ T tx) (hl : Ln γ σ) (h0 : 0 ≤ h) (h1 : h < γ 3 0) (hx : Dm (SJ γ ((rA γ tx).1 0) h (γ 3 9)) x) (k1 : ¬ γ 4 h < (LQ γ ((rA γ tx).1 1) ((rA γ tx).1 2) (γ 3 11) h (RW γ h).length (qL γ tx (γ 3 11) h) x (γ 3 9)).2.1 → ∀ s, Fz σ s → P 1 (mk s T)) (k0 : γ 4 h < (LQ γ ((rA γ tx).1 1) ((rA γ tx).1 2) (γ 3 11) h (RW γ h).length (qL γ tx (γ 3 11) h) x (γ 3 9)).2.1 → ∀ s, Fz σ s → P 0 (mk s T)) : wpI (d + 10) 279 0 [aR 70, aI h, aI x, aU, aU, aU] [] (mk σ T) P := by
  have hn := ht.1.1.1
  have hJ := ht.1.1.2.2.1
  have hst := ht.1.1.2.2.2.1
  obtain ⟨m1, m2, m3⟩ := rw_m ht h
  have nd : (RW γ h).Nodup := List.Pairwise.imp (fun q => Int.ne_of_lt q) m2
  obtain ⟨⟨b0, b1, b2⟩, b3⟩ := ly_b ht ((rA γ tx).1 0) ((rA γ tx).1 1) (γ 3 11) h0 (by omega) (fun i i0 i1 => ⟨(hl i i0 i1).1, (hl i i0 i1).2.1⟩) (p := RW γ h) (fun d hd => ⟨((m1 d).mp hd).1, ((m1 d).mp hd).2.1⟩) m3
  refine g_Mo_comesThrough_0 (r_layRow ht (fun s1 e1 a1 a2 a3 => g_Mo_comesThrough_5 ?_))
  have f1 := fz_rw e1 a1
  rw [show s1 71 3 = γ 3 11 from by rw [e1 71 (by decide)]; exact hst.2.2]
  refine r_endOf (d := d + 1) (fz_td ht f1) (fz_ln hl f1) h0 h1 ⟨hst.1, hst.2.1⟩ a2 a3 (fun d hd => ⟨((m1 d).mp hd).1, ((m1 d).mp hd).2.1⟩) nd m3 (fun s2 m f2 r2 sk n0 n3 n5 n4 n1 n2 => g_Mo_comesThrough_16 ?_)
  have f2' := fz_t f1 (fz_m f2)
  have fin : ∀ l5 : AV, wpI (d + 10) 279 20 [aR 70, aI h, aI x, aI (lyE γ ((rA γ tx).1 0) ((rA γ tx).1 1) (γ 3 11) h (RW γ h)).2.1, aI 0, l5] [] (mk s2 T) P := by
    refine for_up (n := γ 3 9) (Hd := fun j s => ∀ l5 : AV, wpI (d + 10) 279 20 [aR 70, aI h, aI x, aI (lyE γ ((rA γ tx).1 0) ((rA γ tx).1 1) (γ 3 11) h (RW γ h)).2.1, aI j, l5] [] (mk s T) P) (Inv := fun j s => Fz σ s ∧ ∃ m, RM s m ∧ SK (γ 3 0) m ∧ m 0 = h ∧ (∀ i, j ≤ i → tb (m 5) i = false) ∧ BC (m 4) = (RW γ h).length ∧ (m 1, m 2, m 3) = LQ γ ((rA γ tx).1 1) ((rA γ tx).1 2) (γ 3 11) h (RW γ h).length (qL γ tx (γ 3 11) h) x j) ?_ ?_ ⟨f2', m, r2, sk, n0, fun i _ => by rw [n5]; exact tb_o i, n4, by rw [n1, n2, n3]; rfl⟩ hJ.1
    · rintro j s j0 j1 ⟨q1, m', p1, p2, p3, p4, p5, p6⟩ ih l5
      have tdj := fz_td ht q1
      refine g_Mo_comesThrough_20 ?_
      rw [q1.2.2 2 (by omega), hJ.2.2]
      refine ct j1 (r_isSoOf (d := d + 2) tdj j0 j1 (fun s3 e3 => g_Mo_comesThrough_41 ?_))
      have f3 := fz_t q1 (fz_s e3 (by decide))
      have p1' : RM s3 m' := rm_c p1 (e3 71 (by decide))
      have hL := sL_lt (k := j) (n := 8) j0 (by omega) (by omega)
      have p4j := p4 j (Int.le_refl _)
      have lq := lq_s (g := γ) (c1 := (rA γ tx).1 1) (c2 := (rA γ tx).1 2) (st := γ 3 11) (h := h) (n := (RW γ h).length) (q0 := qL γ tx (γ 3 11) h) (x := x) j0
      have t5 : ∀ i, j + 1 ≤ i → tb (bO (m' 5) (sL 1 j)) i = false := fun i hi => by
        rw [tb_O p2.2.2.1.1 (by have := p2.2.2.1.2; omega) (by omega) (by omega), p4 i (by omega), tb_L j0 (by omega) (by omega), decide_eq_false (by omega)]; rfl
      have sjt := sj_t γ ((rA γ tx).1 0) h hJ.1 hJ.2.1 j j0
      have go : ∀ y : Int, (y = SO γ ((rA γ tx).1 0) j h ↔ tb x j = false) → wpI (d + 9) 244 0 [aR 70, aI j, aI y, aU] [] (mk s3 T) (fun r M' => wpI (d + 9 + 1) 279 61 [aR 70, aI h, aI x, aI (lyE γ ((rA γ tx).1 0) ((rA γ tx).1 1) (γ 3 11) h (RW γ h)).2.1, aI j, aU] [aI r] M' P) := by
        intro y hy
        refine r_answerNow (d := d + 1) (fz_td ht f3) p1' p2 j0 j1 p4j ?_ ?_
        · intro ey s4 f4 r4
          rw [p3] at ey
          refine g_Mo_comesThrough_61 ?_
          rw [w32_id (x := j + 1) (by omega) (by omega)]
          refine ih s4 ⟨fz_t f3 (fz_m f4), anM j m', r4, sk_an p2 j0 (by omega) p4j, p3, t5, p5, ?_⟩ _
          rw [lq]; unfold liS; rw [if_neg (by rw [hy.mp ey]; decide)]; exact p6
        · intro ey s4 f4 r4
          rw [p3] at ey
          refine g_Mo_comesThrough_61 ?_
          rw [w32_id (x := j + 1) (by omega) (by omega)]
          have hxj : tb x j = true := by
            cases e : tb x j with
            | true => rfl
            | false => exact absurd (hy.mpr e) ey
          refine ih s4 ⟨fz_t f3 (fz_m f4), _, r4, sk_stl _ _ _ (sk_li _ p2 j0 (by omega) p4j), p3, t5, p5, ?_⟩ _
          rw [lq]; unfold liS; rw [if_pos hxj, ← p6]
          show (w32 (m' 1 + LI γ ((rA γ tx).1 2) j (m' 0) (m' 3)), stl (w32 (m' 1 + LI γ ((rA γ tx).1 2) j (m' 0) (m' 3))) (m' 2) (STK γ ((rA γ tx).1 1) (m' 0) (m' 2) (BC (m' 4)) (γ 3 11)), w32 (m' 3 + 1)) = _
          have b3 := (sk_b p2).2.2
          rw [p3, p5, w32_id (x := m' 3 + 1) (by omega) (by omega)]
      have s01 := so_01 γ ((rA γ tx).1 0) j h
      refine ci (fun c => go 0 ?_) (fun c => ci (fun c2 => go 0 ?_) (fun c2 => go 1 ?_))
      · refine ⟨fun _ => ?_, fun _ => c.symm⟩
        cases e : tb x j with
        | false => rfl
        | true => exact absurd c (sjt.mp (hx.2.2 j j0 e)).2
      · have := (has_1 hx.1 j0 (by omega)).mp c2
        rw [this]
        exact ⟨fun q => absurd q.symm c, fun q => absurd q (by decide)⟩
      · have : tb x j = false := by
          cases e : tb x j with
          | false => rfl
          | true => exact absurd ((has_1 hx.1 j0 (by omega)).mpr e) c2
        exact ⟨fun _ => this, fun _ => by omega⟩
    · rintro s ⟨q1, m', p1, p2, p3, p4, p5, p6⟩ l5
      refine g_Mo_comesThrough_20 ?_
      rw [q1.2.2 2 (by omega), hJ.2.2]
      refine cf (by omega) (r_verdict (d := d + 3) (fz_td ht q1) p1 p2.1.1 p2.1.2 (fun s3 e3 => g_Mo_comesThrough_73 ?_))
      have f3 := fz_t q1 (fz_s e3 (by decide))
      have e2 : m' 2 = (LQ γ ((rA γ tx).1 1) ((rA γ tx).1 2) (γ 3 11) h (RW γ h).length (qL γ tx (γ 3 11) h) x (γ 3 9)).2.1 := by rw [← p6]
      rw [p3, e2]
      refine ci (fun c => cf (by omega) (k1 (vd_p.mp c) s3 f3)) (fun c => k0 ?_ s3 f3)
      by_cases q : γ 4 h < (LQ γ ((rA γ tx).1 1) ((rA γ tx).1 2) (γ 3 11) h (RW γ h).length (qL γ tx (γ 3 11) h) x (γ 3 9)).2.1
      · exact q
      · exact absurd (vd_p.mpr q) c
  exact fin aU
end
