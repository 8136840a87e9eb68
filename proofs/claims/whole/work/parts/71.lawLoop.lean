/-! the law's loop (GENERATED: wip/whole/genlaw3.py) -/
section
def TBd (n : Nat) (T : TT) : Prop := T.2.length ≤ n ∧ ∀ p : Int × Int, p ∈ T.2 → p.1 ≤ 2000 ∧ p.2 ≤ 2000
def LKT (d : Nat) (σ : Sg) (T : TT) (B l : Int) (P : Int → AM → Prop) : Prop := ∀ (σ' : Sg) (T' : TT) (tx' : Int → TA), (∀ a, a < 2 → σ' a = σ a) → T'.1 = T.1 → (T'.2 = T.2 ∨ ∃ c s : Int, T'.2 = T.2 ++ [(c, s)] ∧ c ≤ 2000 ∧ s ≤ 2000) → Rl σ' σ' T' tx' (B + 600) → wpI d 0 1501 [aR 1, aR 2, aR 70, aI l] [] (mk σ' T') P
/-- a call that is still to come -/
def LwR (pc : Nat) : Prop := ∀ (σ : Sg) (T : TT) (tx : Int → TA) (B l : Int) (P : Int → AM → Prop), Rl σ σ T tx B → B ≤ 900000 → 0 ≤ l → l + 6 ≤ T.1 → T.1 ≤ 1000000 → (∀ i, r32 (σ 1 i)) → LK 1290 σ T tx B l P → wpI 1290 0 pc [aR 1, aR 2, aR 70, aI l] [] (mk σ T) P
def LwT : Prop := ∀ (σ : Sg) (T : TT) (tx : Int → TA) (B l : Int) (P : Int → AM → Prop), Rl σ σ T tx B → B ≤ 900000 → 0 ≤ l → l + 6 ≤ T.1 → T.1 ≤ 1000000 → (∀ i, r32 (σ 1 i)) → LKT 1290 σ T B l P → wpI 1290 0 518 [aR 1, aR 2, aR 70, aI l] [] (mk σ T) P
theorem tbd_s {n : Nat} {T T' : TT} (h : TBd n T) (k : T'.2 = T.2 ∨ ∃ c s : Int, T'.2 = T.2 ++ [(c, s)] ∧ c ≤ 2000 ∧ s ≤ 2000) : TBd (n + 1) T' := by
  unfold TBd
  rcases k with k | ⟨c, s, k, hc, hs⟩
  · rw [k]; exact ⟨by have := h.1; omega, h.2⟩
  · rw [k]
    refine ⟨by have := h.1; simp; omega, fun p hp => ?_⟩
    rcases List.mem_append.mp hp with hp | hp
    · exact h.2 p hp
    · rw [List.mem_singleton.mp hp]; exact ⟨hc, hs⟩
set_option maxRecDepth 20000 in
theorem law_loop (t : LwT) (a1 : LwR 952) (a2 : LwR 1011) (a3 : LwR 1044) (a4 : LwR 1067) (a5 : LwR 1113) (a6 : LwR 1146) (a7 : LwR 1179) {P : Int → AM → Prop} (fin : ∀ (σ : Sg) (T : TT), TBd 600 T → T.1 ≤ 3072 → P 1 (mk σ T)) : ∀ (n m : Nat) (σ : Sg) (T : TT) (tx : Int → TA) (B l : Int), Rl σ σ T tx B → B + 600 * (n : Int) ≤ 900000 → TBd m T → m + n ≤ 600 → 0 ≤ T.1 → T.1 ≤ 3072 → 0 ≤ l → T.1 < l + 6 + 6 * (n : Int) → l ≤ 4000 → (∀ i, r32 (σ 1 i)) → wpI 1290 0 18 [aR 1, aR 2, aR 70, aI l] [] (mk σ T) P
  | n, m, σ, T, tx, B, l, q, hB, hT, hm, z0, z1, l0, l1, l2, rs => by
    apply g_Law_18
    have w6 : w32 (T.1 - 6) = T.1 - 6 := w32_id (by omega) (by omega)
    rw [w6]
    refine ci (fun _ => fin σ T ⟨by have := hT.1; omega, hT.2⟩ z1) (fun b => ?_)
    match n, hB, hm, l1 with
    | 0, hB, hm, l1 => exact absurd l1 (by omega)
    | n + 1, hB, hm, l1 =>
      have w7 : w32 (l + 6) = l + 6 := w32_id (by omega) (by omega)
      have kt : LKT 1290 σ T B l P := by
        intro σ' T' tx' c e1 e2 q'
        apply g_Law_1501
        rw [w7]
        exact law_loop t a1 a2 a3 a4 a5 a6 a7 fin n (m + 1) σ' T' tx' (B + 600) (l + 6) q' (by omega) (tbd_s hT e2) (by omega) (by omega) (by omega) (by omega) (by omega) (by omega) (fun i => by rw [c 1 (by omega)]; exact rs i)
      have kk : LK 1290 σ T tx B l P := fun σ' c q' => kt σ' T tx c rfl (Or.inl rfl) q'
      have x0 : B ≤ 900000 := by omega
      have x1 : l + 6 ≤ T.1 := by omega
      have x2 : T.1 ≤ 1000000 := by omega
      refine ct ⟨l0, by omega⟩ ?_
      refine ci (fun _ => lw_heart (e := 1227) q x0 l0 x1 x2 kk) (fun _ => ?_)
      refine ci (fun _ => lw_deed (e := 1227) q x0 l0 x1 x2 kk) (fun _ => ?_)
      refine ci (fun _ => lw_witness (e := 1227) q x0 l0 x1 x2 kk) (fun _ => ?_)
      refine ci (fun _ => lw_judge (e := 1227) q x0 l0 x1 x2 kk) (fun _ => ?_)
      refine ci (fun _ => lw_stick (e := 1227) q x0 l0 x1 x2 kk) (fun _ => ?_)
      refine ci (fun _ => lw_bond (e := 1227) q x0 l0 x1 x2 kk) (fun _ => ?_)
      refine ci (fun _ => lw_feed (e := 1227) q x0 l0 x1 x2 kk) (fun _ => ?_)
      refine ci (fun _ => lw_end (e := 1227) q x0 l0 x1 x2 kk) (fun _ => ?_)
      refine ci (fun _ => t σ T tx B l P q x0 l0 x1 x2 rs kt) (fun _ => ?_)
      refine ci (fun _ => lw_fault (e := 1227) q x0 l0 x1 x2 kk) (fun _ => ?_)
      refine ci (fun _ => lw_by (e := 1227) q x0 l0 x1 x2 kk) (fun _ => ?_)
      refine ci (fun _ => lw_lend (e := 1227) q x0 l0 x1 x2 kk) (fun _ => ?_)
      refine ci (fun _ => lw_weigh (e := 1227) q x0 l0 x1 x2 kk) (fun _ => ?_)
      refine ci (fun _ => lw_lay (e := 1227) q x0 l0 x1 x2 kk) (fun _ => ?_)
      refine ci (fun _ => lw_answer (e := 1227) q x0 l0 x1 x2 kk) (fun _ => ?_)
      refine ci (fun _ => lw_judged (e := 1227) q x0 l0 x1 x2 kk) (fun _ => ?_)
      refine ci (fun _ => lw_played (e := 1227) q x0 l0 x1 x2 kk) (fun _ => ?_)
      refine ci (fun _ => lw_day (e := 1227) q x0 l0 x1 x2 kk) (fun _ => ?_)
      refine ci (fun _ => lw_undo (e := 1227) q x0 l0 x1 x2 kk) (fun _ => ?_)
      refine ci (fun _ => lw_scale (e := 1227) q x0 l0 x1 x2 kk) (fun _ => ?_)
      refine ci (fun _ => lw_ofHeart (e := 1227) q x0 l0 x1 x2 rs kk) (fun _ => ?_)
      refine ci (fun _ => lw_ofDeed (e := 1227) q x0 l0 x1 x2 kk) (fun _ => ?_)
      refine ci (fun _ => lw_isSo (e := 1227) q x0 l0 x1 x2 kk) (fun _ => ?_)
      refine ci (fun _ => lw_book (e := 1227) q x0 l0 x1 x2 kk) (fun _ => ?_)
      refine ci (fun _ => a1 σ T tx B l P q x0 l0 x1 x2 rs kk) (fun _ => ?_)
      refine ci (fun _ => a2 σ T tx B l P q x0 l0 x1 x2 rs kk) (fun _ => ?_)
      refine ci (fun _ => a3 σ T tx B l P q x0 l0 x1 x2 rs kk) (fun _ => ?_)
      refine ci (fun _ => a4 σ T tx B l P q x0 l0 x1 x2 rs kk) (fun _ => ?_)
      refine ci (fun _ => lw_truly (e := 1227) q x0 l0 x1 x2 kk) (fun _ => ?_)
      refine ci (fun _ => a5 σ T tx B l P q x0 l0 x1 x2 rs kk) (fun _ => ?_)
      refine ci (fun _ => a6 σ T tx B l P q x0 l0 x1 x2 rs kk) (fun _ => ?_)
      refine ci (fun _ => a7 σ T tx B l P q x0 l0 x1 x2 rs kk) (fun _ => ?_)
      refine ci (fun _ => lw_kindness (e := 1227) q x0 l0 x1 x2 kk) (fun _ => ?_)
      refine ci (fun _ => lw_known (e := 1227) q x0 l0 x1 x2 kk) (fun _ => ?_)
      refine ci (fun _ => lw_fit (e := 1227) q x0 l0 x1 x2 kk) (fun _ => ?_)
      refine ci (fun _ => lw_smallest (e := 1227) q x0 l0 x1 x2 kk) (fun _ => ?_)
      refine ci (fun _ => lw_tells (e := 1227) q x0 l0 x1 x2 kk) (fun _ => ?_)
      refine ci (fun _ => lw_should (e := 1227) q x0 l0 x1 x2 kk) (fun _ => ?_)
      refine ci (fun _ => lw_featherForAll (e := 1227) q x0 l0 x1 x2 kk) (fun _ => ?_)
      refine ci (fun _ => lw_odds (e := 1227) q x0 l0 x1 x2 kk) (fun _ => ?_)
      refine ci (fun _ => lw_often (e := 1227) q x0 l0 x1 x2 kk) (fun _ => ?_)
      refine ci (fun _ => lw_image (e := 1227) q x0 l0 x1 x2 kk) (fun _ => ?_)
      refine ci (fun _ => lw_back (e := 1227) q x0 l0 x1 x2 kk) (fun _ => ?_)
      refine ci (fun _ => lw_about (e := 1227) q x0 l0 x1 x2 kk) (fun _ => ?_)
      exact kk σ (fun _ _ => rfl) (rl_B (by omega) q)
end
