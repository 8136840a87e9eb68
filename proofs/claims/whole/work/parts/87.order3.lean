noncomputable section
/-! the reference's orders -/
theorem ow_lt {g η : Sg} {T : TT} {tx : Int → TA} (ht : Td g η T tx) (h : Int) {i j : Nat} (hi : i < (RW g h).length) (hj : j < (RW g h).length) : ow g h i < ow g h j ↔ i < j := by
  obtain ⟨m1, m2, m3⟩ := rw_m ht h
  have pw := List.pairwise_iff_getElem.mp m2
  unfold ow
  rw [getD_e hi, getD_e hj]
  constructor
  · intro q
    rcases Nat.lt_trichotomy i j with c | c | c
    · exact c
    · subst c; omega
    · have := pw _ _ hj hi c; omega
  · intro q; exact pw _ _ hi hj q
theorem ow_nd {g η : Sg} {T : TT} {tx : Int → TA} (ht : Td g η T tx) (h : Int) {p : List Nat} (hp : ∀ x ∈ p, x < (RW g h).length) (nd : p.Nodup) : (p.map (ow g h)).Nodup := by
  induction p with
  | nil => exact List.nodup_nil
  | cons x r ih =>
    rw [List.map_cons, List.nodup_cons]
    rw [List.nodup_cons] at nd
    refine ⟨fun q => ?_, ih (fun y hy => hp y (List.mem_cons_of_mem _ hy)) nd.2⟩
    obtain ⟨y, hy, e⟩ := List.mem_map.mp q
    have hx := hp x List.mem_cons_self
    have hy' := hp y (List.mem_cons_of_mem _ hy)
    have a1 := ow_lt ht h hx hy'
    have a2 := ow_lt ht h hy' hx
    have : x = y := by
      rcases Nat.lt_trichotomy x y with c | c | c
      · have := a1.mpr c; omega
      · exact c
      · have := a2.mpr c; omega
    subst this
    exact nd.1 hy
theorem gd_lt {n : Nat} {p : List Nat} (hp : OKp n p) {x : Nat} (hx : x < n) : p.getD x 0 < n := by
  have h1 := hp.1
  rw [List.getD_eq_getElem?_getD, List.getElem?_eq_getElem (by omega)]
  exact hp.2.1 _ (List.getElem_mem _)
theorem ar_p {f : Int → Int} {own : Nat → Int} {n : Nat} {p : List Nat} (h : Ar f (p.map own)) (hl : p.length = n) {x : Int} (x0 : 0 ≤ x) (x1 : x < n) : f x = own (p.getD x.toNat 0) := by
  have := ar_i h x0 (by rw [List.length_map]; omega)
  rw [this, List.getD_eq_getElem?_getD, List.getD_eq_getElem?_getD, List.getElem?_map, List.getElem?_eq_getElem (by omega)]
  rfl
theorem blt_t {a b : Nat} : Nat.blt a b = true ↔ a < b := by
  unfold Nat.blt; rw [Nat.ble_eq]; omega
theorem blt_f {a b : Nat} (h : ¬ a < b) : Nat.blt a b = false := by
  cases e : Nat.blt a b with
  | false => rfl
  | true => exact absurd (blt_t.mp e) h
/-- the row's end part is turned round -/
theorem r_turn {d : Nat} {s0 : Sg} {T : TT} {P : Int → AM → Prop} {n i k : Int} {b : Int → Int} (n1 : n ≤ 24) (i0 : 0 ≤ i) (i1 : i < n) (k0 : ∀ s, Sm [78] s0 s → (∀ z, 0 ≤ z → z < n → s 78 z = if z ≤ i then b z else b (n + i - z)) → P 1 (mk s T)) : ∀ (m : Nat) (x y : Int) (s : Sg), (m : Int) = y + 1 - x ∨ (m = 0 ∧ y < x) → i < x → y < n → x + y = n + i → Sm [78] s0 s → (∀ z, 0 ≤ z → z < n → s 78 z = if z ≤ i then b z else if z < x ∨ y < z then b (n + i - z) else b z) → wpI (d + 1) 270 86 [aR 70, aI i, aI k, aI x, aI y] [] (mk s T) P := by
  intro m
  induction m using Nat.strongRecOn with
  | _ m ih =>
    intro x y s hm hx hy hxy hs hz
    refine g_Mo_nextRow_86 (ci (fun c => ct (by omega) (ct (by omega) (ct (by omega) (ct (by omega) ?_)))) (fun c => ?_))
    · rw [w32_id (x := x + 1) (by omega) (by omega), w32_id (x := y + -1) (by omega) (by omega)]
      refine ih (m - 2) (by omega) (x + 1) (y + -1) _ (by omega) (by omega) (by omega) (by omega) (sm_u (sm_u hs (by simp)) (by simp)) (fun z z0 z1 => ?_)
      have ex := hz x (by omega) (by omega)
      have ey := hz y (by omega) (by omega)
      rw [if_neg (by omega), if_neg (by omega)] at ex ey
      rw [up_e, up_e]
      by_cases q1 : z = y
      · rw [if_pos q1, if_neg (by omega), if_pos (by omega), ex, show n + i - z = x from by omega]
      · rw [if_neg q1]
        by_cases q2 : z = x
        · rw [if_pos q2, if_neg (by omega), if_pos (by omega), ey, show n + i - z = y from by omega]
        · rw [if_neg q2, hz z z0 z1]
          by_cases q3 : z ≤ i
          · rw [if_pos q3, if_pos q3]
          · rw [if_neg q3, if_neg q3]
            by_cases q4 : z < x ∨ y < z
            · rw [if_pos q4, if_pos (by omega)]
            · rw [if_neg q4, if_neg (by omega)]
    · refine k0 s hs (fun z z0 z1 => ?_)
      rw [hz z z0 z1]
      by_cases q3 : z ≤ i
      · rw [if_pos q3, if_pos q3]
      · rw [if_neg q3, if_neg q3]
        by_cases q4 : z < x ∨ y < z
        · rw [if_pos q4]
        · rw [if_neg q4, show n + i - z = z from by omega]
theorem r_nextRow {d : Nat} {γ η σ : Sg} {T : TT} {tx : Int → TA} {P : Int → AM → Prop} {h : Int} {p : List Nat} (ht : Td γ η T tx) (n7 : (RW γ h).length ≤ 7) (hn : σ 70 23 = (RW γ h).length) (hp : OKp (RW γ h).length p) (ha : Ar (σ 78) (p.map (ow γ h))) (k0 : nxt (RW γ h).length p = none → P 0 (mk σ T)) (k1 : ∀ q, nxt (RW γ h).length p = some q → ∀ s, Sm [78] σ s → Ar (s 78) (q.map (ow γ h)) → P 1 (mk s T)) : wpI (d + 1) 270 0 [aR 70, aU, aU, aU, aU] [] (mk σ T) P := by
  generalize hN : (RW γ h).length = n at *
  have av : ∀ x : Int, 0 ≤ x → x < n → σ 78 x = ow γ h (p.getD x.toNat 0) := fun x x0 x1 => ar_p ha hp.1 x0 x1
  have cmp : ∀ x y : Nat, x < n → y < n → (σ 78 (x : Int) < σ 78 (y : Int) ↔ p.getD x 0 < p.getD y 0) := by
    intro x y hx hy
    rw [av x (by omega) (by omega), av y (by omega) (by omega), Int.toNat_natCast, Int.toNat_natCast]
    exact ow_lt ht h (by rw [hN]; exact gd_lt hp hx) (by rw [hN]; exact gd_lt hp hy)
  refine g_Mo_nextRow_0 ?_
  rw [hn, w32_id (x := (n : Int) - 2) (by omega) (by omega)]
  -- the place that grows
  have found : ∀ i : Nat, i + 1 < n → ¬ p.getD (i + 1) 0 < p.getD i 0 → (∀ q, some ((List.range n).map (nw n i (kx (fun x => p.getD x 0) i (n - 1)) (fun x => p.getD x 0))) = some q → nxt n p = some q) → wpI (d + 1) 270 47 [aR 70, aI (i : Int), aI ((n : Int) - 1), aU, aU] [] (mk σ T) P := by
    intro i hi hc hq
    have l2 : ∀ k : Nat, i + 1 ≤ k → k < n → kx (fun x => p.getD x 0) i k = kx (fun x => p.getD x 0) i (n - 1) → wpI (d + 1) 270 47 [aR 70, aI (i : Int), aI (k : Int), aU, aU] [] (mk σ T) P := by
      intro k
      induction k with
      | zero => intro q; omega
      | succ k ih =>
        intro hk hkn hkx
        refine g_Mo_nextRow_47 (ct (by omega) (ct (by omega) (ci (fun c => ?_) (fun c => ?_))))
        · have c' := (cmp (k + 1) i hkn (by omega)).mp c
          rw [w32_id (x := ((k + 1 : Nat) : Int) + -1) (by omega) (by omega), show ((k + 1 : Nat) : Int) + -1 = (k : Int) from by omega]
          have : k ≠ i := by intro e; subst e; exact hc c'
          refine ih (by omega) (by omega) ?_
          rw [← hkx]
          show _ = bif Nat.blt (p.getD (k + 1) 0) (p.getD i 0) then _ else _
          rw [blt_t.mpr c']; rfl
        · have c' : ¬ p.getD (k + 1) 0 < p.getD i 0 := fun q => c ((cmp (k + 1) i hkn (by omega)).mpr q)
          have ek : kx (fun x => p.getD x 0) i (n - 1) = k + 1 := by
            rw [← hkx]
            show (bif Nat.blt (p.getD (k + 1) 0) (p.getD i 0) then _ else _) = _
            rw [blt_f c']; rfl
          refine ct (by omega) (ct (by omega) (ct (by omega) (ct (by omega) ?_)))
          rw [hn, w32_id (x := (i : Int) + 1) (by omega) (by omega), w32_id (x := (n : Int) - 1) (by omega) (by omega)]
          have hnx := hq _ rfl
          refine r_turn (d := d) (s0 := σ) (n := n) (i := i) (b := up (up σ 78 i (σ 78 ((k + 1 : Nat) : Int))) 78 ((k + 1 : Nat) : Int) (σ 78 i) 78) (by omega) (by omega) (by omega) ?_ (n - 1 - i) ((i : Int) + 1) ((n : Int) - 1) _ (by omega) (by omega) (by omega) (by omega) (sm_u (sm_u (sm_r _ _) (by simp)) (by simp)) ?_
          · intro s hs hz
            refine k1 _ hnx s hs ?_
            intro x hx
            have hx : x < n := by simpa using hx
            rw [hz x (by omega) (by omega), up_e, up_e, up_e, up_e, List.map_map, List.getD_eq_getElem?_getD, List.getElem?_map, List.getElem?_range hx, ek]
            show _ = ow γ h (nw n i (k + 1) (fun x => p.getD x 0) x)
            unfold nw
            by_cases q1 : x < i
            · rw [if_pos (by omega), if_neg (by omega), if_neg (by omega), blt_t.mpr q1, av x (by omega) (by omega), Int.toNat_natCast]; rfl
            · rw [blt_f q1]
              by_cases q2 : x = i
              · rw [if_pos (by omega), if_neg (by omega), if_pos (by omega), show Nat.beq x i = true from Nat.beq_eq.mpr q2, av _ (by omega) (by omega), Int.toNat_natCast]; rfl
              · rw [if_neg (by omega), show Nat.beq x i = false from by cases e : Nat.beq x i with
                  | false => rfl
                  | true => exact absurd (Nat.beq_eq.mp e) q2]
                by_cases q3 : n + i - x = k + 1
                · rw [if_pos (by omega), show Nat.beq (n + i - x) (k + 1) = true from Nat.beq_eq.mpr q3, av _ (by omega) (by omega), Int.toNat_natCast]; rfl
                · rw [if_neg (by omega), if_neg (by omega), show Nat.beq (n + i - x) (k + 1) = false from by cases e : Nat.beq (n + i - x) (k + 1) with
                    | false => rfl
                    | true => exact absurd (Nat.beq_eq.mp e) q3, av _ (by omega) (by omega), show ((n : Int) + i - x).toNat = n + i - x from by omega]; rfl
          · intro z z0 z1
            by_cases q : z ≤ i
            · rw [if_pos q]
            · rw [if_neg q, if_neg (by omega)]
    have := l2 (n - 1) (by omega) (by omega) rfl
    rw [show ((n - 1 : Nat) : Int) = (n : Int) - 1 from by omega] at this
    exact this
  have l1 : ∀ j : Nat, j < n → pv (fun x => p.getD x 0) j = pv (fun x => p.getD x 0) (n - 1) → wpI (d + 1) 270 7 [aR 70, aI ((j : Int) - 1), aU, aU, aU] [] (mk σ T) P := by
    intro j
    induction j with
    | zero =>
      intro _ hpv
      refine g_Mo_nextRow_7 (ct (by omega) (ct (by omega) (k0 ?_)))
      unfold nxt; rw [← hpv]; rfl
    | succ j ih =>
      intro hj hpv
      refine g_Mo_nextRow_7 ?_
      rw [show ((j + 1 : Nat) : Int) - 1 = (j : Int) from by omega, w32_id (x := (j : Int) + 1) (by omega) (by omega), w32_id (x := (j : Int) + -1) (by omega) (by omega), hn, w32_id (x := (n : Int) - 1) (by omega) (by omega)]
      have cm := cmp (j + 1) j hj (by omega)
      rw [show ((j + 1 : Nat) : Int) = (j : Int) + 1 from by omega] at cm
      refine cf (by omega) (ct (by omega) (ct (by omega) (ci (fun c => ?_) (fun c => cf (by omega) ?_))))
      · have := ih (by omega) (by
          rw [← hpv]
          show _ = bif Nat.blt (p.getD (j + 1) 0) (p.getD j 0) then _ else _
          rw [blt_t.mpr (cm.mp c)]; rfl)
        exact this
      · have nc : ¬ p.getD (j + 1) 0 < p.getD j 0 := fun q => c (cm.mpr q)
        refine found j (by omega) nc (fun q hq => ?_)
        rw [← hq]
        unfold nxt; rw [← hpv]
        show (match (bif Nat.blt (p.getD (j + 1) 0) (p.getD j 0) then pv (fun x => p.getD x 0) j else some j) with
          | none => none
          | some i => some ((List.range n).map (nw n i (kx (fun x => p.getD x 0) i (n - 1)) (fun x => p.getD x 0)))) = _
        rw [blt_f nc]; rfl
  by_cases hz : n = 0
  · refine g_Mo_nextRow_7 (ct (by omega) (ct (by omega) (k0 ?_)))
    unfold nxt; rw [hz]; rfl
  · have := l1 (n - 1) (by omega) rfl
    rw [show ((n - 1 : Nat) : Int) - 1 = (n : Int) - 2 from by omega] at this
    exact this
theorem r_takeRow {d : Nat} {σ : Sg} {T : TT} {P : AM → Prop} {L : List Int} (hn : σ 70 23 = L.length) (hl : L.length ≤ 24) (ha : Ar (σ 78) L) (k : ∀ s, Sm [80] σ s → Ar (s 80) L → P (mk s T)) : wpV d 269 0 [aR 70, aU] [] (mk σ T) P := by
  refine g_Mo_takeRow_0 ?_
  refine for_up (n := L.length) (Hd := fun i s => wpV d 269 2 [aR 70, aI i] [] (mk s T) P) (Inv := fun n s => Sm [80] σ s ∧ ∀ i, 0 ≤ i → i < n → s 80 i = σ 78 i) ?_ ?_ ⟨sm_r _ _, fun i _ _ => by omega⟩ (by omega)
  · rintro i s i0 i1 ⟨q1, q2⟩ ih
    refine g_Mo_takeRow_2 ?_
    rw [q1 70 (by decide), hn, w32_id (x := i + 1) (by omega) (by omega), q1 78 (by decide)]
    refine ct i1 (ct (by omega) (ct (by omega) (ih _ ⟨sm_u q1 (by simp), fun j j0 j1 => ?_⟩)))
    rw [up_e]
    by_cases q : j = i
    · rw [if_pos q, q]
    · rw [if_neg q]; exact q2 j j0 (by omega)
  · rintro s ⟨q1, q2⟩
    refine g_Mo_takeRow_2 ?_
    rw [q1 70 (by decide), hn]
    exact cf (by omega) (k s q1 (fun i hi => by rw [q2 i (by omega) (by omega)]; exact ha i hi))
end
