noncomputable section
theorem bA_cm (x y : Int) : bA x y = bA y x := by rw [bA_d, bA_d]; unfold bAc; rw [Nat.and_comm]
theorem tb_M {n : Int} (n0 : 0 ≤ n) (n8 : n ≤ 24) : 0 ≤ w32 (sL 1 n - 1) ∧ w32 (sL 1 n - 1) < 16777216 ∧ ∀ k, 0 ≤ k → tb (w32 (sL 1 n - 1)) k = decide (k < n) := by
  have hp := pow31 (k := n.toNat) (by omega)
  have hp8 : 2 ^ n.toNat ≤ 2 ^ 24 := Nat.pow_le_pow_right (by omega) (by omega)
  have h24 : (2 : Nat) ^ 24 = 16777216 := rfl
  have e1 : w32 (sL 1 n - 1) = ((2 ^ n.toNat - 1 : Nat) : Int) := by rw [sL_n n0 (by omega), w32_id (by omega) (by omega)]; omega
  rw [e1]
  refine ⟨by omega, by omega, fun k k0 => ?_⟩
  unfold tb; rw [Int.toNat_natCast, Nat.testBit_two_pow_sub_one]
  by_cases q : k < n
  · rw [decide_eq_true q]; simp; omega
  · rw [decide_eq_false q]; simp; omega
theorem r_truly2 {d : Nat} {γ σ : Sg} {T : TT} {tx : Int → TA} {P : Int → AM → Prop} {x : Int} (ht : Td γ σ T tx) (x0 : 0 ≤ x) (x1 : x < γ 3 0) (k : ∀ s r, Sm [76, 77] σ s → 0 ≤ r → r < 256 → (∀ i, 0 ≤ i → (tb r i = true ↔ (i < γ 3 9 ∧ SO γ ((rA γ tx).1 0) i x = 0))) → P r (mk s T)) : wpI (d + 9) 277 0 [aR 70, aI x, aU, aU] [] (mk σ T) P := by
  have hn := ht.1.1.1
  have hj := ht.1.1.2.2.1
  refine g_Mo_truly_0 ?_
  rw [hn.2.2, w32_id (x := γ 3 0 - 1) (by omega) (by omega)]
  refine cf (by omega) (cf (by omega) ?_)
  have key : ∀ r : Int, (0 ≤ r ∧ r < 256 ∧ ∀ i, 0 ≤ i → (tb r i = true ↔ (i < 0 ∧ SO γ ((rA γ tx).1 0) i x = 0))) → wpI (d + 9) 277 14 [aR 70, aI x, aI r, aI 0] [] (mk σ T) P := by
    refine for_up (n := γ 3 9) (Hd := fun j s => ∀ r : Int, (0 ≤ r ∧ r < 256 ∧ ∀ i, 0 ≤ i → (tb r i = true ↔ (i < j ∧ SO γ ((rA γ tx).1 0) i x = 0))) → wpI (d + 9) 277 14 [aR 70, aI x, aI r, aI j] [] (mk s T) P) (Inv := fun _ s => Sm [76, 77] σ s) ?_ ?_ (sm_r _ _) hj.1
    · rintro j s j0 j1 hs ih r ⟨r0, r1, r2⟩
      refine g_Mo_truly_14 ?_
      rw [hs 71 (by decide), hj.2.2]
      refine ct j1 (r_isSoOf (td_s ht hs (by decide) (by decide)) j0 j1 (fun s' hs' => g_Mo_truly_31 ?_))
      have hL := sL_lt (k := j) (n := 8) j0 (by omega) (by omega)
      have hb := bO_b (n := 8) (by omega) r0 r1 (by omega) hL.2
      rw [w32_id (x := j + 1) (by omega) (by omega), bO_0 r0 (by omega)]
      refine ci (fun c => ih s' (sm_t hs hs') _ ⟨hb.1, hb.2, fun i i0 => ?_⟩) (fun c => ih s' (sm_t hs hs') _ ⟨r0, r1, fun i i0 => ?_⟩)
      · rw [tb_O r0 (by omega) (by omega) (by omega), tb_L j0 (by omega) i0, Bool.or_eq_true, r2 i i0, decide_eq_true_iff]
        constructor
        · rintro (⟨a, b⟩ | a)
          · exact ⟨by omega, b⟩
          · subst a; exact ⟨by omega, c⟩
        · rintro ⟨a, b⟩
          by_cases q : i < j
          · exact Or.inl ⟨q, b⟩
          · exact Or.inr (by omega)
      · rw [r2 i i0]
        constructor
        · rintro ⟨a, b⟩; exact ⟨by omega, b⟩
        · rintro ⟨a, b⟩
          by_cases q : i < j
          · exact ⟨q, b⟩
          · have : i = j := by omega
            subst this; exact absurd b c
    · rintro s hs r ⟨r0, r1, r2⟩
      refine g_Mo_truly_14 ?_
      rw [hs 71 (by decide), hj.2.2]
      exact cf (by omega) (k s r hs r0 r1 r2)
  exact key 0 ⟨by omega, by omega, fun i i0 => ⟨fun q => by rw [tb_o] at q; exact absurd q (by decide), fun q => by omega⟩⟩
theorem sb_i {so x : Int} (s0 : 0 ≤ so) (s1 : so < 256) (x0 : 0 ≤ x) (x1 : x < 256) : (bA x (bX so (-1)) = 0) ↔ Sb so x := by
  have hb := bN_b (x := x) (y := so) x0 (by omega)
  have hz := tb_nz (x := bA x (bX so (-1))) (n := 8) hb.1 (by have : ((2 ^ 8 : Nat) : Int) = 256 := rfl; omega)
  constructor
  · intro e i i0 hi
    have := bN_n (x := x) (y := so) x0 (by omega) s0 (by omega) i
    rw [e, tb_o, hi] at this
    cases e2 : tb so i with
    | true => rfl
    | false => rw [e2] at this; exact absurd this (by decide)
  · intro h
    by_cases q : bA x (bX so (-1)) = 0
    · exact q
    · obtain ⟨i, i0, i1, i2⟩ := hz.mp q
      rw [bN_n x0 (by omega) s0 (by omega), Bool.and_eq_true] at i2
      rw [h i i0 i2.1] at i2
      exact absurd i2.2 (by decide)
set_option maxRecDepth 20000 in
theorem o_lies {e : Nat} {g : Sg} {T : TT} {tx : Int → TA} {B x y : Int} : Op (e + 60) 35 [aR 2, aI x, aI y] 278 [aR 70, aI x, aI y, aU, aU, aU] g T tx B := by
  refine op_l (fun h hr => ?_)
  have hn := hr.1.1.1.1
  have hJ := hr.1.1.1.2.2.1
  have no : (x < 0 ∨ g 3 0 ≤ x ∨ y < 0 ∨ 8 < y) → Lf (e + 60) 278 [aR 70, aI x, aI y, aU, aU, aU] g T tx B (-1) (mk g T) := by
    intro hx
    refine lf_n (fun h hr Q q => g_Mo_lies_0 ?_)
    rw [hr.1.1.1.1.2.2, w32_id (x := g 3 0 - 1) (by omega) (by omega)]
    exact ci (fun _ => q) (fun _ => ci (fun _ => q) (fun _ => ci (fun _ => q) (fun _ => ct (by omega) q)))
  have hl := hr.2.2.2.1.2.2.2.2.2.1
  refine g_Af_lies_0 (ci (fun _ => no (by omega)) (fun c1 => ci (fun c2 => ci (fun _ => no (by omega)) (fun c3 => ci (fun _ => no (by omega)) (fun c4 => ?_))) (fun _ => no (by omega))))
  refine c_fewestLies (d := e + 39) hr.1 (fun i i0 i1 => ⟨(hl i i0 i1).1, (hl i i0 i1).2.1⟩) (by omega) c2 (fun s b hs hb => g_Af_lies_31 ?_)
  refine lf_s hs (by decide) (fun h hr Q q => g_Mo_lies_0 ?_)
  have hl := hr.2.2.2.1.2.2.2.2.2.1
  have ln : Ln g h := fun i i0 i1 => ⟨(hl i i0 i1).1, (hl i i0 i1).2.1, (hl i i0 i1).2.2.1⟩
  rw [hr.1.1.1.1.2.2, w32_id (x := g 3 0 - 1) (by omega) (by omega)]
  refine cf c1 (cf (by omega) (cf c3 (cf c4 (r_truly2 (d := e + 50) hr.1 (by omega) c2 (fun s1 r e1 r0 r1 r2 => g_Mo_lies_25 ?_)))))
  rw [e1 71 (by decide), hr.1.1.1.2.2.1.2.2]
  have hso := sj_b g ((rA g tx).1 0) x hJ.1 hJ.2.1
  obtain ⟨t0, t1, t2⟩ := tb_M hJ.1 (by omega)
  have eso : bA (bX r (-1)) (w32 (sL 1 (g 3 9) - 1)) = SJ g ((rA g tx).1 0) x (g 3 9) := by
    rw [bA_cm]
    have hb := bN_b (x := w32 (sL 1 (g 3 9) - 1)) (y := r) t0 (by omega)
    refine tb_ext (n := 24) hb.1 (by have : ((2 ^ 24 : Nat) : Int) = 16777216 := rfl; omega) hso.1 (by have : ((2 ^ 24 : Nat) : Int) = 16777216 := rfl; omega) (fun k k0 k1 => ?_)
    rw [bN_n t0 (by omega) r0 (by omega), t2 k k0]
    have a := r2 k k0
    have b := sj_t g ((rA g tx).1 0) x hJ.1 hJ.2.1 k k0
    by_cases q : k < g 3 9
    · by_cases q' : SO g ((rA g tx).1 0) k x = 0
      · rw [a.mpr ⟨q, q'⟩]
        cases e : tb (SJ g ((rA g tx).1 0) x (g 3 9)) k with
        | false => simp
        | true => exact absurd q' (b.mp e).2
      · rw [b.mpr ⟨q, q'⟩]
        cases e : tb r k with
        | false => simp [q]
        | true => exact absurd (a.mp e).2 q'
    · cases e : tb (SJ g ((rA g tx).1 0) x (g 3 9)) k with
      | false => simp [q]
      | true => exact absurd (b.mp e).1 q
  rw [eso]
  have f1 : Td g s1 T tx := td_s hr.1 e1 (by decide) (by decide)
  refine r_setAside (fun s2 e2 a2 => g_Mo_lies_46 ?_)
  have f2 : Td g s2 T tx := td_s f1 e2 (by decide) (by decide)
  have ln2 : Ln g s2 := fun i i0 i1 => by rw [e2 71 (by decide), e1 71 (by decide)]; exact ln i i0 i1
  have eJ : s2 71 2 = g 3 9 := by rw [e2 71 (by decide), e1 71 (by decide)]; exact hr.1.1.1.2.2.1.2.2
  have hp := sL_n hJ.1 (by omega)
  have hp8 : 2 ^ (g 3 9).toNat ≤ 2 ^ 8 := Nat.pow_le_pow_right (by omega) (by omega)
  have h256 : (2 : Nat) ^ 8 = 256 := rfl
  obtain ⟨N, hN⟩ : ∃ N, N = 2 ^ (g 3 9).toNat := ⟨_, rfl⟩
  rw [← hN] at hp hp8
  have lp : ∀ f : Int, Bst (LG g ((rA g tx).1 1) ((rA g tx).1 2) (g 3 11) x (RW g x).length (qL g tx (g 3 11) x) (SJ g ((rA g tx).1 0) x (g 3 9)) y (g 3 9)) (fun z => Dm (SJ g ((rA g tx).1 0) x (g 3 9)) z ∧ z < 0) f → wpI (e + 60) 278 49 [aR 70, aI x, aI y, aI (SJ g ((rA g tx).1 0) x (g 3 9)), aI f, aI 0] [] (mk s2 T) Q := by
    refine for_up (n := sL 1 (g 3 9)) (Hd := fun i s => ∀ f : Int, Bst (LG g ((rA g tx).1 1) ((rA g tx).1 2) (g 3 11) x (RW g x).length (qL g tx (g 3 11) x) (SJ g ((rA g tx).1 0) x (g 3 9)) y (g 3 9)) (fun z => Dm (SJ g ((rA g tx).1 0) x (g 3 9)) z ∧ z < i) f → wpI (e + 60) 278 49 [aR 70, aI x, aI y, aI (SJ g ((rA g tx).1 0) x (g 3 9)), aI f, aI i] [] (mk s T) Q) (Inv := fun _ s => Fz s2 s) ?_ ?_ (fz_r _) (by omega)
    · intro i s i0 i1 hz ih f hf
      have skip : (¬ Dm (SJ g ((rA g tx).1 0) x (g 3 9)) i ∨ ¬ LG g ((rA g tx).1 1) ((rA g tx).1 2) (g 3 11) x (RW g x).length (qL g tx (g 3 11) x) (SJ g ((rA g tx).1 0) x (g 3 9)) y (g 3 9) i ∨ (f ≠ -1 ∧ BC f ≤ BC i)) → ∀ s', Fz s2 s' → wpI (e + 60) 278 49 [aR 70, aI x, aI y, aI (SJ g ((rA g tx).1 0) x (g 3 9)), aI f, aI (i + 1)] [] (mk s' T) Q := by
        intro hc s' hz'
        refine ih s' hz' f ?_
        by_cases dm : Dm (SJ g ((rA g tx).1 0) x (g 3 9)) i
        · have st : Bst (LG g ((rA g tx).1 1) ((rA g tx).1 2) (g 3 11) x (RW g x).length (qL g tx (g 3 11) x) (SJ g ((rA g tx).1 0) x (g 3 9)) y (g 3 9)) (fun z => (Dm (SJ g ((rA g tx).1 0) x (g 3 9)) z ∧ z < i) ∨ z = i) f := by
            rcases hc with hc | hc | ⟨hc, hc'⟩
            · exact absurd dm hc
            · exact bst_n hf hc
            · refine bst_k hf hc ?_
              rcases hf with ⟨q1, _⟩ | ⟨_, _, q3, _, _⟩
              · exact absurd q1 hc
              · have := q3.2; omega
          refine bst_c (fun z => ⟨fun q => ?_, fun q => ?_⟩) st
          · by_cases ez : z = i
            · exact Or.inr ez
            · exact Or.inl ⟨q.1, by have := q.2; omega⟩
          · rcases q with q | rfl
            · exact ⟨q.1, by have := q.2; omega⟩
            · exact ⟨dm, by omega⟩
        · refine bst_c (fun z => ⟨fun q => ⟨q.1, ?_⟩, fun q => ⟨q.1, by have := q.2; omega⟩⟩) hf
          by_cases ez : z = i
          · subst ez; exact absurd q.1 dm
          · have := q.2; omega
      have eJ' : s 71 2 = g 3 9 := by rw [hz.2.2 2 (by omega)]; exact eJ
      refine g_Mo_lies_49 ?_
      rw [eJ', w32_id (x := i + 1) (by omega) (by omega)]
      refine ct i1 (ci (fun c => ?_) (fun c => skip (Or.inl (fun q => c ((sb_i hso.1 hso.2 i0 (by omega)).mpr q.2.2))) s hz))
      have sb := (sb_i hso.1 hso.2 i0 (by omega)).mp c
      have dm : Dm (SJ g ((rA g tx).1 0) x (g 3 9)) i := ⟨i0, by omega, sb⟩
      have bs := bc_b hso.1
      have bi := bc_b i0
      refine c_bits (g_Mo_lies_75 (c_bits (g_Mo_lies_80 ?_)))
      rw [w32_id (x := i + 1) (by omega) (by omega), w32_id (x := BC (SJ g ((rA g tx).1 0) x (g 3 9)) - BC i) (by omega) (by omega)]
      refine ci (fun c5 => skip (Or.inr (Or.inl (fun q => q.1 c5))) s hz) (fun c5 => ?_)
      have try_ : (f = -1 ∨ BC i < BC f) → wpI (e + 59) 279 0 [aR 70, aI x, aI i, aU, aU, aU] [] (mk s T) (fun r M' => wpI (e + 59 + 1) 278 113 [aR 70, aI x, aI y, aI (SJ g ((rA g tx).1 0) x (g 3 9)), aI f, aI i] [aI r] M' Q) := by
        intro hw
        refine r_comes (d := e + 49) (fz_td f2 hz) (fz_ln ln2 hz) (by omega) c2 dm ?_ ?_
        · intro lt s' hz'
          refine g_Mo_lies_113 (cf (by omega) ?_)
          rw [w32_id (x := i + 1) (by omega) (by omega)]
          refine ih s' (fz_t hz hz') i ?_
          refine bst_c (fun z => ⟨fun q => ?_, fun q => ?_⟩) (bst_y hf i0 (by omega) ⟨c5, lt⟩ (by rcases hw with hw | hw; exact Or.inl hw; exact Or.inr (Or.inl hw)))
          · by_cases ez : z = i
            · exact Or.inr ez
            · exact Or.inl ⟨q.1, by have := q.2; omega⟩
          · rcases q with q | rfl
            · exact ⟨q.1, by have := q.2; omega⟩
            · exact ⟨dm, by omega⟩
        · intro lt s' hz'
          refine g_Mo_lies_113 (ct rfl ?_)
          rw [w32_id (x := i + 1) (by omega) (by omega)]
          exact skip (Or.inr (Or.inl (fun q => q.2 lt))) s' (fz_t hz hz')
      have hf0 : f = -1 ∨ 0 ≤ f := by rcases hf with ⟨q, _⟩ | ⟨q, _⟩; exact Or.inl q; exact Or.inr q
      refine ci (fun c6 => try_ (by omega)) (fun c6 => c_bits (g_Mo_lies_95 (c_bits (g_Mo_lies_100 ?_))))
      rw [w32_id (x := i + 1) (by omega) (by omega)]
      exact ci (fun c7 => try_ (by omega)) (fun c7 => skip (Or.inr (Or.inr ⟨by omega, by omega⟩)) s hz)
    · intro s hz f hf
      have eJ' : s 71 2 = g 3 9 := by rw [hz.2.2 2 (by omega)]; exact eJ
      refine g_Mo_lies_49 ?_
      rw [eJ']
      refine cf (by omega) (r_putBack (fun s3 e3 a3 b3 => g_Mo_lies_130 ?_))
      have hu : b = f := by
        refine bst_u hb (bst_c (fun z => ⟨fun q => ⟨q, ?_⟩, fun q => q.1⟩) hf)
        have : z.toNat < N := by
          rw [hN]
          refine Nat.lt_pow_two_of_testBit _ (fun i hi => ?_)
          cases e : z.toNat.testBit i with
          | false => rfl
          | true =>
            have h1 := q.2.2 i (by omega) (by unfold tb; rw [Int.toNat_natCast]; exact e)
            have := ((sj_t g ((rA g tx).1 0) x hJ.1 hJ.2.1 i (by omega)).mp h1).1
            omega
        have := q.1
        omega
      rw [← hu]
      refine q s3 ?_
      have rs := fz_rsc e2 a2 hz e3 a3 b3
      refine ⟨fun a h1 h2 => ?_, fun i i0 i1 => ?_⟩
      · rw [rs.1 a h1 h2, e1 a (by simp; omega)]
      · rw [rs.2 i i0 i1, e1 70 (by decide)]
  exact lp (-1) (Or.inl ⟨rfl, fun z hz => by have := hz.1.1; have := hz.2; omega⟩)
end
