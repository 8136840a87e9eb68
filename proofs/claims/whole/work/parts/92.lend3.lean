noncomputable section
/-! the class's lending -/
def CRl (g s : Sg) (W : Int) (L t m : Int → Int) : Prop := s 3 = g 3 ∧ s 51 2 = W ∧ (∀ h, 0 ≤ h → h < g 3 0 → (tb W h = true → s 52 h = -L h) ∧ (tb W h = false → s 52 h = t h)) ∧ (∀ k h, 0 ≤ k → k < 6 → tb W k = true → 0 ≤ h → h < g 3 0 → 0 < t h → s 53 (k * 6 + h) = m (6 * k + h)) ∧ (∀ i, 0 ≤ i → i < 36 → 0 ≤ s 53 i ∧ s 53 i ≤ 99)
/-- the sides: who lacks takes nothing, who takes lacks nothing -/
def SDl (g : Sg) (W : Int) (L t : Int → Int) : Prop := (0 ≤ W ∧ W < 64) ∧ (0 ≤ g 3 0 ∧ g 3 0 ≤ 6) ∧ (∀ h, 0 ≤ h → tb W h = true → h < g 3 0) ∧ ∀ h, 0 ≤ h → h < 6 → (tb W h = true → t h = 0) ∧ (tb W h = false → L h = 0) ∧ (g 3 0 ≤ h → t h = 0)
theorem c_mostFrom {d : Nat} {s : Sg} {T : TT} {P : Int → AM → Prop} {x h n : Int} (hx : S6 x) (h0 : 0 ≤ h) (h6 : h < 6) (n0 : 0 ≤ n) (n6 : n ≤ 6) (en : s 3 0 = n) (hb : ∀ i, 0 ≤ i → i < 36 → 0 ≤ s 53 i ∧ s 53 i ≤ 99) (k : P (psum (fun k => ix x k (s 53 (k * 6 + h))) n) (mk s T)) : wpI d 129 0 [aR 51, aI x, aI h, aU, aU] [] (mk s T) P := by
  have bb : ∀ j, 0 ≤ j → j ≤ 6 → 0 ≤ psum (fun k => ix x k (s 53 (k * 6 + h))) j ∧ psum (fun k => ix x k (s 53 (k * 6 + h))) j ≤ 99 * j := ps_b (fun k k0 k6 => by
    have := hb (k * 6 + h) (by omega) (by omega)
    have := ix_b (x := x) (h := k) this.1
    omega)
  refine g_Loans_mostFrom_0 ?_
  refine for_up (n := n) (Hd := fun i s' => wpI d 129 5 [aR 51, aI x, aI h, aI (psum (fun k => ix x k (s 53 (k * 6 + h))) i), aI i] [] (mk s' T) P) (Inv := fun _ s' => s' = s) ?_ ?_ rfl n0
  · rintro i s' i0 i1 rfl ih
    have ih := ih s' rfl
    rw [ps_s i0] at ih
    have b1 := bb i i0 (by omega)
    have b2 := hb (i * 6 + h) (by omega) (by omega)
    refine g_Loans_mostFrom_5 ?_
    rw [en, w32_id (x := i * 6) (by omega) (by omega), w32_id (x := i * 6 + h) (by omega) (by omega), w32_id (x := i + 1) (by omega) (by omega)]
    refine ct i1 (ci (fun c => ?_) (fun c => ct (by omega) ?_))
    · rw [ix_0 ((has_0 hx.1 i0 (by omega)).mp c), Int.add_zero] at ih; exact ih
    · have e : tb x i = true := by
        cases e : tb x i with
        | true => rfl
        | false => exact absurd ((has_0 hx.1 i0 (by omega)).mpr e) c
      rw [ix_1 e] at ih
      rw [w32_id (by omega) (by omega)]; exact ih
  · rintro s' rfl
    refine g_Loans_mostFrom_5 ?_
    rw [en]
    exact cf (by omega) k
theorem c_lackOf {d : Nat} {g s : Sg} {T : TT} {P : Int → AM → Prop} {W x : Int} {L t m : Int → Int} (hb : BdL L t m) (hr : CRl g s W L t m) (sd : SDl g W L t) (hx : S6 x) (sx : Sb W x) (k : P (LKs L t m x) (mk s T)) : wpI (d + 1) 128 0 [aR 51, aI x, aU, aU] [] (mk s T) P := by
  obtain ⟨r1, r2, r3, r4, r5⟩ := hr
  obtain ⟨w6, n6, wh, sd⟩ := sd
  have hm : NN m 36 := fun i i0 i1 => (hb.2 i i0 i1).1
  have tkb : ∀ h, 0 ≤ h → h < 6 → 0 ≤ TKs t m x h ∧ TKs t m x h ≤ 30000 := fun h h0 h6 => by
    have := bm_n (m := m) (x := x) h0 h6 hm
    have := hb.1 h h0 h6
    unfold TKs; omega
  have lb : ∀ h, 0 ≤ h → h < 6 → 0 ≤ ix x h (L h) ∧ ix x h (L h) ≤ 30000 := fun h h0 h6 => by
    have := hb.1 h h0 h6
    have := ix_b (x := x) (h := h) this.1.1
    omega
  have e6 : psum (fun h => ix x h (L h) - TKs t m x h) 6 = LKs L t m x := by
    unfold LKs; rw [ps_6, ps_6, ps_6]; omega
  have bF : ∀ i, 0 ≤ i → i ≤ 6 → -30000 * i ≤ psum (fun h => ix x h (L h) - TKs t m x h) i ∧ psum (fun h => ix x h (L h) - TKs t m x h) i ≤ 30000 * i := by
    refine it_inv (n := 6) (Q := fun i s => -30000 * i ≤ s ∧ s ≤ 30000 * i) (by omega) ?_
    intro i s i0 i1 hs
    have a1 := lb i i0 i1
    have a2 := tkb i i0 i1
    show -30000 * (i + 1) ≤ s + (ix x i (L i) - TKs t m x i) ∧ s + (ix x i (L i) - TKs t m x i) ≤ 30000 * (i + 1)
    omega
  have t0z : ∀ h, 0 ≤ h → h < 6 → t h = 0 → TKs t m x h = 0 := fun h h0 h6 e => by
    have := bm_n (m := m) (x := x) h0 h6 hm
    unfold TKs; omega
  refine g_Loans_lackOf_0 ?_
  refine for_up (n := g 3 0) (Hd := fun i s' => wpI (d + 1) 128 4 [aR 51, aI x, aI (psum (fun h => ix x h (L h) - TKs t m x h) i), aI i] [] (mk s' T) P) (Inv := fun _ s' => s' = s) ?_ ?_ rfl n6.1
  · rintro i s' i0 i1 rfl ih
    have ih := ih s' rfl
    rw [ps_s i0] at ih
    have b1 := bF i i0 (by omega)
    have b2 := hb.1 i i0 (by omega)
    have sdi := sd i i0 (by omega)
    refine g_Loans_lackOf_4 ?_
    rw [r1, w32_id (x := i + 1) (by omega) (by omega)]
    refine ct i1 (ci (fun c => ct (by omega) ?_) (fun c => ct (by omega) ?_))
    · have e := (has_0 hx.1 i0 (by omega)).mp c
      rw [ix_0 e] at ih
      refine ci (fun c2 => ct (by omega) ?_) (fun c2 => ?_)
      · have ew : tb W i = false := by
          cases ew : tb W i with
          | false => rfl
          | true => have := (r3 i i0 i1).1 ew; omega
        have eb := (r3 i i0 i1).2 ew
        refine c_mostFrom hx i0 (by omega) n6.1 n6.2 (by rw [r1]) r5 (g_Loans_lackOf_57 ?_)
        have em : psum (fun k => ix x k (s' 53 (k * 6 + i))) (g 3 0) = Bm m x i := by
          rw [ps_t n6.1 n6.2 (fun k k0 k6 => ?_)]
          · refine ps_c (fun k k0 k6 => ?_)
            cases ek : tb x k with
            | false => rw [ix_0 ek, ix_0 ek]
            | true => rw [ix_1 ek, ix_1 ek]; exact r4 k i k0 k6 (sx k k0 ek) i0 i1 (by omega)
          · cases ek : tb x k with
            | false => rw [ix_0 ek]
            | true => have := wh k (by omega) (sx k (by omega) ek); omega
        have bm := bm_n (m := m) (x := x) i0 (by omega) hm
        rw [em, eb, w32_id (x := i + 1) (by omega) (by omega)]
        have et : TKs t m x i = min (t i) (Bm m x i) := by unfold TKs; omega
        rw [et] at ih
        rw [w32_id (by omega) (by omega), show psum (fun h => ix x h (L h) - TKs t m x h) i - min (t i) (Bm m x i) = psum (fun h => ix x h (L h) - TKs t m x h) i + (0 - min (t i) (Bm m x i)) from by omega]
        exact ih
      · have tz : t i = 0 := by
          cases ew : tb W i with
          | true => exact sdi.1 ew
          | false => have := (r3 i i0 i1).2 ew; omega
        rw [t0z i i0 (by omega) tz, Int.sub_zero, Int.add_zero] at ih
        exact ih
    · have e : tb x i = true := by
        cases e : tb x i with
        | true => rfl
        | false => exact absurd ((has_0 hx.1 i0 (by omega)).mpr e) c
      have ew := sx i i0 e
      rw [ix_1 e, t0z i i0 (by omega) (sdi.1 ew), Int.sub_zero] at ih
      rw [(r3 i i0 i1).1 ew, w32_id (by omega) (by omega), show psum (fun h => ix x h (L h) - TKs t m x h) i - -L i = psum (fun h => ix x h (L h) - TKs t m x h) i + L i from by omega]
      exact ih
  · rintro s' rfl
    refine g_Loans_lackOf_4 ?_
    rw [r1]
    refine cf (by omega) ?_
    rw [ps_t n6.1 n6.2 (fun k k0 k6 => ?_), e6]
    · exact k
    · rw [t0z k (by omega) k6 ((sd k (by omega) k6).2.2 k0)]
      cases ek : tb x k with
      | false => rw [ix_0 ek]; rfl
      | true => have := wh k (by omega) (sx k (by omega) ek); omega
theorem sb6 {W x : Int} (w : 0 ≤ W ∧ W < 64) (hx : S6 x) : (bA x (bX W (-1)) = 0) ↔ Sb W x := sb_i w.1 (by omega) hx.1 (by have := hx.2; omega)
theorem sb_lt {W x n : Int} (hx : S6 x) (n0 : 0 ≤ n) (n6 : n ≤ 6) (wh : ∀ h, 0 ≤ h → tb W h = true → h < n) (sx : Sb W x) : x < sL 1 n := by
  rw [sL_n n0 (by omega)]
  have : x.toNat < 2 ^ n.toNat := by
    refine Nat.lt_pow_two_of_testBit _ (fun i hi => ?_)
    cases e : x.toNat.testBit i with
    | false => rfl
    | true =>
      have := wh i (by omega) (sx i (by omega) (by unfold tb; rw [Int.toNat_natCast]; exact e))
      omega
  have := hx.1
  generalize 2 ^ n.toNat = N at *
  omega
theorem sL_6 {n : Int} (n0 : 0 ≤ n) (n6 : n ≤ 6) : 1 ≤ sL 1 n ∧ sL 1 n ≤ 64 := by
  rw [sL_n n0 (by omega)]
  have h1 : 2 ^ n.toNat ≤ 2 ^ 6 := Nat.pow_le_pow_right (by omega) (by omega)
  have h2 : 0 < 2 ^ n.toNat := Nat.two_pow_pos _
  generalize 2 ^ n.toNat = N at *
  omega
theorem c_lowestLacking {d : Nat} {g s : Sg} {T : TT} {P : Int → AM → Prop} {W : Int} {L t m : Int → Int} (hb : BdL L t m) (hr : CRl g s W L t m) (sd : SDl g W L t) (k : ∀ r, LLp W L t m r → P r (mk s T)) : wpI (d + 2) 127 0 [aR 51, aU] [] (mk s T) P := by
  have sd' := sd
  obtain ⟨r1, r2, r3, r4, r5⟩ := hr
  obtain ⟨w6, n6, wh, sd⟩ := sd
  have hL := sL_6 n6.1 n6.2
  refine g_Loans_lowestLacking_0 ?_
  have lp : (∀ x, 1 ≤ x → x < 0 + 1 → Sb W x → ¬ 0 < LKs L t m x) → wpI (d + 2) 127 2 [aR 51, aI (0 + 1)] [] (mk s T) P := by
    refine for_up (n := sL 1 (g 3 0) - 1) (Hd := fun i s => (∀ x, 1 ≤ x → x < i + 1 → Sb W x → ¬ 0 < LKs L t m x) → wpI (d + 2) 127 2 [aR 51, aI (i + 1)] [] (mk s T) P) (Inv := fun _ s' => s' = s) ?_ ?_ rfl (by omega)
    · rintro i s' i0 i1 rfl ih hO
      have ih := ih s' rfl
      have x6 : S6 (i + 1) := ⟨by omega, by omega⟩
      have skip : (Sb W (i + 1) → ¬ 0 < LKs L t m (i + 1)) → wpI (d + 2) 127 2 [aR 51, aI (i + 1 + 1)] [] (mk s' T) P := fun hn => ih (fun x x1 x2 x3 => by
        by_cases e : x = i + 1
        · subst e; exact hn x3
        · exact hO x x1 (by omega) x3)
      refine g_Loans_lowestLacking_2 ?_
      rw [r1, r2, w32_id (x := i + 1 + 1) (by omega) (by omega)]
      refine ct (by omega) (ci (fun c => ?_) (fun c => skip (fun q => absurd ((sb6 w6 x6).mpr q) c)))
      have sx := (sb6 w6 x6).mp c
      refine c_lackOf (d := d) hb ⟨r1, r2, r3, r4, r5⟩ sd' x6 sx (g_Loans_lowestLacking_31 (ci (fun c2 => k _ (Or.inr ⟨by omega, by omega, sx, c2, hO⟩)) (fun c2 => ?_)))
      rw [w32_id (x := i + 1 + 1) (by omega) (by omega)]
      exact skip (fun _ => c2)
    · rintro s' rfl hO
      refine g_Loans_lowestLacking_2 ?_
      rw [r1]
      refine cf (by omega) (k (-1) (Or.inl ⟨rfl, fun x x1 x2 x3 => hO x x1 ?_ x3⟩))
      have := sb_lt (x := x) ⟨by omega, x2⟩ n6.1 n6.2 wh x3
      omega
  exact lp (fun x x1 x2 => by omega)
theorem lk_00 {L t m : Int → Int} (ht : NN t 6) : LKs L t m 0 ≤ 0 := by
  have e1 : psum (fun h => ix 0 h (L h)) 6 = 0 := by
    rw [ps_6, ix_0 (tb_o _), ix_0 (tb_o _), ix_0 (tb_o _), ix_0 (tb_o _), ix_0 (tb_o _), ix_0 (tb_o _)]; rfl
  have e2 : psum (fun _ => 0) 6 ≤ psum (TKs t m 0) 6 := ps_l (fun k k0 k6 => by
    have : Bm m 0 k = 0 := by
      unfold Bm; rw [ps_6, ix_0 (tb_o _), ix_0 (tb_o _), ix_0 (tb_o _), ix_0 (tb_o _), ix_0 (tb_o _), ix_0 (tb_o _)]; rfl
    have := ht k k0 k6
    unfold TKs; omega)
  rw [ps_6 (fun _ => 0)] at e2
  unfold LKs
  rw [e1]; omega
/-- the greatest lack, as a number -/
def glv (W : Int) (L t m : Int → Int) (i : Int) : Int := it (fun i s => if bA (i + 1) (bX W (-1)) = 0 then max s (LKs L t m (i + 1)) else s) 0 i
theorem gl_s {W : Int} {L t m : Int → Int} {i : Int} (i0 : 0 ≤ i) : glv W L t m (i + 1) = if bA (i + 1) (bX W (-1)) = 0 then max (glv W L t m i) (LKs L t m (i + 1)) else glv W L t m i := it_s _ _ i0
theorem gl_i {W : Int} {L t m : Int → Int} (w : 0 ≤ W ∧ W < 64) : ∀ i, 0 ≤ i → i ≤ 63 → 0 ≤ glv W L t m i ∧ (∀ x, 1 ≤ x → x ≤ i → Sb W x → LKs L t m x ≤ glv W L t m i) ∧ (glv W L t m i = 0 ∨ ∃ x, S6 x ∧ Sb W x ∧ LKs L t m x = glv W L t m i) := by
  refine it_inv (n := 63) (Q := fun i s => 0 ≤ s ∧ (∀ x, 1 ≤ x → x ≤ i → Sb W x → LKs L t m x ≤ s) ∧ (s = 0 ∨ ∃ x, S6 x ∧ Sb W x ∧ LKs L t m x = s)) ⟨Int.le_refl _, fun x x1 x2 => by omega, Or.inl rfl⟩ ?_
  rintro i s i0 i1 ⟨q1, q2, q3⟩
  have x6 : S6 (i + 1) := ⟨by omega, by omega⟩
  by_cases c : bA (i + 1) (bX W (-1)) = 0
  · rw [if_pos c]
    refine ⟨by omega, fun x x1 x2 x3 => ?_, ?_⟩
    · by_cases e : x = i + 1
      · subst e; omega
      · have := q2 x x1 (by omega) x3; omega
    · by_cases c2 : LKs L t m (i + 1) ≤ s
      · rw [show max s (LKs L t m (i + 1)) = s from by omega]; exact q3
      · rw [show max s (LKs L t m (i + 1)) = LKs L t m (i + 1) from by omega]
        exact Or.inr ⟨i + 1, x6, (sb6 w x6).mp c, rfl⟩
  · rw [if_neg c]
    refine ⟨q1, fun x x1 x2 x3 => ?_, q3⟩
    by_cases e : x = i + 1
    · subst e; exact absurd ((sb6 w x6).mpr x3) c
    · exact q2 x x1 (by omega) x3
theorem gl_p {W : Int} {L t m : Int → Int} (w : 0 ≤ W ∧ W < 64) (ht : NN t 6) : GLp W L t m (glv W L t m 63) := by
  obtain ⟨a, b, c⟩ := gl_i (L := L) (t := t) (m := m) w 63 (by omega) (by omega)
  refine ⟨a, fun x hx sx => ?_, c⟩
  by_cases e : x = 0
  · subst e; have := lk_00 (L := L) (m := m) ht; omega
  · exact b x (by have := hx.1; omega) (by have := hx.2; omega) sx
theorem gl_t {W : Int} {L t m : Int → Int} {n : Int} (w : 0 ≤ W ∧ W < 64) (n0 : 0 ≤ n) (n6 : n ≤ 6) (wh : ∀ h, 0 ≤ h → tb W h = true → h < n) : glv W L t m (sL 1 n - 1) = glv W L t m 63 := by
  have hL := sL_6 n0 n6
  have key : ∀ j : Nat, sL 1 n - 1 + j ≤ 63 → glv W L t m (sL 1 n - 1 + j) = glv W L t m (sL 1 n - 1) := by
    intro j
    induction j with
    | zero => intro _; rw [show sL 1 n - 1 + ((0 : Nat) : Int) = sL 1 n - 1 from by omega]
    | succ j ih =>
      intro hj
      rw [show sL 1 n - 1 + ((j + 1 : Nat) : Int) = sL 1 n - 1 + (j : Int) + 1 from by omega, gl_s (by omega), if_neg]
      · exact ih (by omega)
      · intro c
        have x6 : S6 (sL 1 n - 1 + (j : Int) + 1) := ⟨by omega, by omega⟩
        have := sb_lt x6 n0 n6 wh ((sb6 w x6).mp c)
        omega
  have := key (63 - (sL 1 n - 1)).toNat (by omega)
  rw [show sL 1 n - 1 + (((63 - (sL 1 n - 1)).toNat : Nat) : Int) = 63 from by omega] at this
  exact this.symm
theorem c_greatestLack {d : Nat} {g s : Sg} {T : TT} {P : Int → AM → Prop} {W : Int} {L t m : Int → Int} (hb : BdL L t m) (hr : CRl g s W L t m) (sd : SDl g W L t) (k : P (glv W L t m 63) (mk s T)) : wpI (d + 2) 131 0 [aR 51, aU, aU] [] (mk s T) P := by
  have sd' := sd
  obtain ⟨r1, r2, r3, r4, r5⟩ := hr
  obtain ⟨w6, n6, wh, sd⟩ := sd
  have hL := sL_6 n6.1 n6.2
  refine g_Loans_greatestLack_0 ?_
  have lp : wpI (d + 2) 131 4 [aR 51, aI (glv W L t m 0), aI (0 + 1)] [] (mk s T) P := by
    refine for_up (n := sL 1 (g 3 0) - 1) (Hd := fun i s => wpI (d + 2) 131 4 [aR 51, aI (glv W L t m i), aI (i + 1)] [] (mk s T) P) (Inv := fun _ s' => s' = s) ?_ ?_ rfl (by omega)
    · rintro i s' i0 i1 rfl ih
      have ih := ih s' rfl
      rw [gl_s i0] at ih
      have x6 : S6 (i + 1) := ⟨by omega, by omega⟩
      refine g_Loans_greatestLack_4 ?_
      rw [r1, r2, w32_id (x := i + 1 + 1) (by omega) (by omega)]
      refine ct (by omega) (ci (fun c => ?_) (fun c => by rw [if_neg c] at ih; exact ih))
      rw [if_pos c] at ih
      refine c_lackOf (d := d) hb ⟨r1, r2, r3, r4, r5⟩ sd' x6 ((sb6 w6 x6).mp c) (g_Loans_greatestLack_34 ?_)
      rw [w32_id (x := i + 1 + 1) (by omega) (by omega)]
      exact ih
    · rintro s' rfl
      refine g_Loans_greatestLack_4 ?_
      rw [r1]
      refine cf (by omega) ?_
      rw [gl_t w6 n6.1 n6.2 wh]; exact k
  exact lp
theorem c_prepareL {d : Nat} {g η : Sg} {T : TT} {tx : Int → TA} {P : AM → Prop} (ht : Td g η T tx) (k : ∀ s, Sm [40, 41, 51, 52, 53, 54] g s → CRl g s (WB g tx (g 3 0)) (L0 g tx) (t0 g tx) (m0L g tx) → (∀ j, 0 ≤ j → j < 36 → s 54 j = 0) → P (mk s T)) : wpV (d + 6) 126 0 [aR 51, aU] [] (mk g T) P := by
  have hn := ht.1.1.1
  refine g_Loans_prepare_0 ?_
  refine for_up (n := g 3 0) (Hd := fun i s => wpV (d + 6) 126 7 [aR 51, aI i] [] (mk s T) P) (Inv := fun i s => Sm [40, 41, 51, 52, 53, 54] g s ∧ s 51 2 = WB g tx i ∧ ∀ h, 0 ≤ h → h < i → s 52 h = bal g tx h) ?_ ?_ ⟨sm_u (sm_r _ _) (by simp), up_s _ _ _ _, fun h _ _ => by omega⟩ hn.1
  · rintro i s i0 i1 ⟨q1, q2, q3⟩ ih
    refine g_Loans_prepare_7 ?_
    rw [q1 3 (by decide), q1 4 (by decide)]
    refine ct i1 (ct (by omega) (c_burden (d := d) (td_m ht q1 (by decide)) (fun s1 e1 => g_Loans_prepare_40 (ct (by omega) (ct (by omega) ?_)))))
    rw [show BU s = BU g from bu_c (q1 5 (by decide)) (wg_m q1 (by decide)), ra_c tx (q1 3 (by decide)), q1 3 (by decide), show w32 (g 4 i - BU g ((rA g tx).1 0) i (g 3 2)) = bal g tx i from rfl, up_s, w32_id (x := i + 1) (by omega) (by omega), e1 51 (by decide), q2]
    have q1' : Sm [40, 41, 51, 52, 53, 54] g s1 := sm_t q1 (sm_m e1 (by simp))
    have b52 : ∀ h, 0 ≤ h → h < i + 1 → up s1 52 i (bal g tx i) 52 h = bal g tx h := fun h h0 h1 => by
      rw [up_e]
      by_cases e : h = i
      · rw [if_pos e, e]
      · rw [if_neg e, e1 52 (by decide)]; exact q3 h h0 (by omega)
    refine ci (fun c => ih _ ⟨sm_u (sm_u q1' (by simp)) (by simp), ?_, fun h h0 h1 => ?_⟩) (fun c => ih _ ⟨sm_u q1' (by simp), ?_, b52⟩)
    · rw [up_s, wb_s i0, if_pos c]
    · rw [up_c (by decide)]; exact b52 h h0 h1
    · rw [up_c (by decide), e1 51 (by decide), q2, wb_s i0, if_neg c]
  · rintro s ⟨q1, q2, q3⟩
    refine g_Loans_prepare_7 ?_
    rw [q1 3 (by decide)]
    refine cf (by omega) ?_
    refine for_up (n := 36) (Hd := fun i s => wpV (d + 6) 126 71 [aR 51, aI i] [] (mk s T) P) (Inv := fun i s' => Sm [53, 54] s s' ∧ ∀ j, 0 ≤ j → j < i → s' 53 j = g 12 j ∧ s' 54 j = 0) ?_ ?_ ⟨sm_r _ _, fun j _ _ => by omega⟩ (by omega)
    · rintro i s' i0 i1 ⟨p1, p2⟩ ih
      refine g_Loans_prepare_71 ?_
      rw [p1 12 (by decide), q1 12 (by decide), w32_id (x := i + 1) (by omega) (by omega)]
      refine ct i1 (ct (by omega) (ct (by omega) (ct (by omega) (ih _ ⟨sm_u (sm_u p1 (by simp)) (by simp), fun j j0 j1 => ?_⟩))))
      rw [up_c (show (53 : Int) ≠ 54 by decide), up_e, up_e, up_c (show (54 : Int) ≠ 53 by decide)]
      by_cases e : j = i
      · rw [if_pos e, if_pos e, e]; exact ⟨rfl, rfl⟩
      · rw [if_neg e, if_neg e]; exact p2 j j0 (by omega)
    · rintro s' ⟨p1, p2⟩
      refine g_Loans_prepare_71 (cf (by omega) (k s' (sm_t q1 (sm_m p1 (by simp))) ⟨?_, ?_, ?_, ?_, ?_⟩ (fun j j0 j1 => (p2 j j0 j1).2)))
      · rw [p1 3 (by decide), q1 3 (by decide)]
      · rw [p1 51 (by decide)]; exact q2
      · intro h h0 h1
        rw [p1 52 (by decide), q3 h h0 h1]
        have w := (wb_t g tx (g 3 0) hn.1 hn.2.1).2 h h0
        refine ⟨fun e => ?_, fun e => ?_⟩
        · have := (w.mp e).2
          unfold L0; rw [if_pos ⟨h1, this⟩]; omega
        · have nb : ¬ bal g tx h < 0 := fun q => by rw [w.mpr ⟨h1, q⟩] at e; exact absurd e (by decide)
          unfold t0
          by_cases c : 0 < bal g tx h
          · rw [if_pos ⟨h1, c⟩]
          · rw [if_neg (by omega)]; omega
      · intro kk h k0 k6 wk h0 h1 th
        rw [(p2 (kk * 6 + h) (by omega) (by omega)).1, show kk * 6 + h = 6 * kk + h from by omega]
        unfold m0L
        rw [show (6 * kk + h) / 6 = kk from by omega, show (6 * kk + h) % 6 = h from by omega, if_pos ⟨(l0_w g tx kk hn.1 hn.2.1 k0).mpr wk, th⟩]
      · intro i i0 i1
        rw [(p2 i i0 i1).1]
        have := ht.1.2.2.2.2.1 i i0 i1
        omega
theorem sd_0 {g η : Sg} {T : TT} {tx : Int → TA} (ht : Td g η T tx) : SDl g (WB g tx (g 3 0)) (L0 g tx) (t0 g tx) := by
  have hn := ht.1.1.1
  obtain ⟨w1, w2⟩ := wb_t g tx (g 3 0) hn.1 hn.2.1
  refine ⟨w1, ⟨hn.1, hn.2.1⟩, fun h h0 e => ((w2 h h0).mp e).1, fun h h0 h6 => ⟨fun e => ?_, fun e => ?_, fun e => ?_⟩⟩
  · have := (w2 h h0).mp e
    unfold t0; rw [if_neg (by omega)]
  · unfold L0; rw [if_neg]
    intro q; rw [(w2 h h0).mpr q] at e; exact absurd e (by decide)
  · unfold t0; rw [if_neg (by omega)]
theorem o_whoCannot {e : Nat} {g : Sg} {T : TT} {tx : Int → TA} {B : Int} : Op (e + 60) 37 [aR 2] 286 [aR 70] g T tx B := by
  refine op_l (fun h hr => ?_)
  have bd := bd_0 hr.1
  refine g_Af_whoCannot_0 (c_prepareL (d := e + 53) hr.1 (fun s hs hc _ => g_Af_whoCannot_7 (c_lowestLacking (d := e + 57) bd hc (sd_0 hr.1) (fun r hl => g_Af_whoCannot_14 ?_))))
  refine lf_s hs (by decide) (fun h hr Q q => g_Mo_whoCannot_0 (r_findBelow (d := e + 49) hr.1 (fun s1 e1 a1 _ w1 => g_Mo_whoCannot_4 (r_tooMuch (d := e + 57) bd a1 w1 (fun r' hl' => g_Mo_whoCannot_8 ?_)))))
  rw [← llp_u hl hl']
  exact q s1 (rsc_s e1 (by decide))
end
