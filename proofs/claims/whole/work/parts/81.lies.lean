noncomputable section
/-! the fewest lies -/
theorem c_bitAny {d : Nat} {σ : Sg} {T : TT} {P : Int → AM → Prop} {x : Int} (k : ∀ v, P v (mk σ T)) : wpI d 308 0 [aI x] [] (mk σ T) P := g_Integer_bitCount_0 (k _)
theorem cnt_add {a b c : Nat} : ∀ n, (∀ k, k < n → (a.testBit k).toNat + (b.testBit k).toNat = (c.testBit k).toNat) → cnt a n + cnt b n = cnt c n
  | 0, _ => rfl
  | n + 1, h => by
    have := cnt_add n (fun k hk => h k (by omega))
    have := h n (by omega)
    rw [cnt_t, cnt_t, cnt_t]; omega
theorem bc_add {a b c : Int} (a0 : 0 ≤ a) (b0 : 0 ≤ b) (c0 : 0 ≤ c) (h : ∀ k : Int, 0 ≤ k → (tb a k).toNat + (tb b k).toNat = (tb c k).toNat) : BC a + BC b = BC c := by
  rw [bc_n a0, bc_n b0, bc_n c0, ← cnt_add 24 (a := a.toNat) (b := b.toNat) (c := c.toNat) (fun k _ => by have := h k (by omega); unfold tb at this; rwa [Int.toNat_natCast] at this)]
  omega
def Sb (so x : Int) : Prop := ∀ i, 0 ≤ i → tb x i = true → tb so i = true
theorem bc_sub {so x : Int} (s0 : 0 ≤ so) (s1 : so < 256) (x0 : 0 ≤ x) (x1 : x < 256) (h : Sb so x) : BC (bA so (bX x (-1))) = BC so - BC x := by
  have hb := bN_b (x := so) (y := x) s0 (by omega)
  have := bc_add (a := bA so (bX x (-1))) (b := x) (c := so) hb.1 x0 s0 (fun k k0 => by
    rw [bN_n s0 (by omega) x0 (by omega)]
    have := h k k0
    cases e1 : tb so k <;> cases e2 : tb x k <;> simp_all)
  omega
def liS (g : Sg) (c1 c2 : List (Int × Int)) (st h n x : Int) (j : Int) (q : Int × Int × Int) : Int × Int × Int := if tb x j = true then (w32 (q.1 + LI g c2 j h q.2.2), stl (w32 (q.1 + LI g c2 j h q.2.2)) q.2.1 (STK g c1 h q.2.1 n st), q.2.2 + 1) else q
def LQ (g : Sg) (c1 c2 : List (Int × Int)) (st h n : Int) (q0 : Int × Int × Int) (x j : Int) : Int × Int × Int := it (liS g c1 c2 st h n x) q0 j
theorem lq_s {g : Sg} {c1 c2 : List (Int × Int)} {st h n : Int} {q0 : Int × Int × Int} {x j : Int} (j0 : 0 ≤ j) : LQ g c1 c2 st h n q0 x (j + 1) = liS g c1 c2 st h n x j (LQ g c1 c2 st h n q0 x j) := it_s _ _ j0
theorem lq_c {g : Sg} {c1 c2 : List (Int × Int)} {st h n : Int} {q0 : Int × Int × Int} {x x' j : Int} (e : ∀ i, 0 ≤ i → i < j → tb x i = tb x' i) : LQ g c1 c2 st h n q0 x j = LQ g c1 c2 st h n q0 x' j := it_c (fun i y i0 i1 => by unfold liS; rw [e i i0 i1])
def BqJ (j : Int) (q : Int × Int × Int) : Prop := (-30000 - 1000 * j ≤ q.1 ∧ q.1 ≤ 30000 + 1000 * j) ∧ (-30000 - 1000 * j ≤ q.2.1 ∧ q.2.1 ≤ 30000 + 1000 * j) ∧ 0 ≤ q.2.2 ∧ q.2.2 ≤ j
theorem lq_b (g : Sg) (c1 c2 : List (Int × Int)) (st h n : Int) {q0 : Int × Int × Int} (x : Int) (h0 : BqJ 0 q0) : ∀ j, 0 ≤ j → j ≤ 8 → BqJ j (LQ g c1 c2 st h n q0 x j) := by
  refine it_inv (n := 8) (Q := fun j q => BqJ j q) h0 ?_
  rintro j q j0 j1 ⟨b1, b2, b3⟩
  unfold liS
  split
  · have hl := li_b g c2 j h q.2.2
    have e : w32 (q.1 + LI g c2 j h q.2.2) = q.1 + LI g c2 j h q.2.2 := w32_id (by omega) (by omega)
    rw [e]
    refine ⟨?_, ?_, ?_⟩
    · show -30000 - 1000 * (j + 1) ≤ q.1 + LI g c2 j h q.2.2 ∧ q.1 + LI g c2 j h q.2.2 ≤ 30000 + 1000 * (j + 1); omega
    · show -30000 - 1000 * (j + 1) ≤ stl _ _ _ ∧ stl _ _ _ ≤ 30000 + 1000 * (j + 1)
      rcases stl_or (q.1 + LI g c2 j h q.2.2) q.2.1 (STK g c1 h q.2.1 n st) with e' | e' <;> rw [e'] <;> omega
    · show 0 ≤ q.2.2 + 1 ∧ q.2.2 + 1 ≤ j + 1; omega
  · exact ⟨by omega, by omega, by omega⟩
/-- the best of those that were met -/
def Bst (G S : Int → Prop) (b : Int) : Prop := (b = -1 ∧ ∀ z, S z → ¬ G z) ∨ (0 ≤ b ∧ b < 256 ∧ S b ∧ G b ∧ ∀ z, S z → G z → BC b < BC z ∨ (BC b = BC z ∧ b ≤ z))
theorem bst_c {G S S' : Int → Prop} {b : Int} (e : ∀ z, S' z ↔ S z) (h : Bst G S b) : Bst G S' b := by
  rcases h with ⟨h1, h2⟩ | ⟨h1, h2, h3, h4, h5⟩
  · exact Or.inl ⟨h1, fun z hz => h2 z ((e z).mp hz)⟩
  · exact Or.inr ⟨h1, h2, (e b).mpr h3, h4, fun z hz => h5 z ((e z).mp hz)⟩
theorem bst_n {G S : Int → Prop} {b x : Int} (h : Bst G S b) (hx : ¬ G x) : Bst G (fun z => S z ∨ z = x) b := by
  rcases h with ⟨h1, h2⟩ | ⟨h1, h2, h3, h4, h5⟩
  · refine Or.inl ⟨h1, fun z hz => ?_⟩
    rcases hz with hz | rfl
    · exact h2 z hz
    · exact hx
  · refine Or.inr ⟨h1, h2, Or.inl h3, h4, fun z hz hg => ?_⟩
    rcases hz with hz | rfl
    · exact h5 z hz hg
    · exact absurd hg hx
theorem bst_k {G S : Int → Prop} {b x : Int} (h : Bst G S b) (hb : b ≠ -1) (hw : BC b < BC x ∨ (BC b = BC x ∧ b ≤ x)) : Bst G (fun z => S z ∨ z = x) b := by
  rcases h with ⟨h1, h2⟩ | ⟨h1, h2, h3, h4, h5⟩
  · exact absurd h1 hb
  · refine Or.inr ⟨h1, h2, Or.inl h3, h4, fun z hz hg => ?_⟩
    rcases hz with hz | rfl
    · exact h5 z hz hg
    · exact hw
theorem bst_y {G S : Int → Prop} {b x : Int} (h : Bst G S b) (x0 : 0 ≤ x) (x1 : x < 256) (hx : G x) (hw : b = -1 ∨ BC x < BC b ∨ (BC x = BC b ∧ x ≤ b)) : Bst G (fun z => S z ∨ z = x) x := by
  refine Or.inr ⟨x0, x1, Or.inr rfl, hx, fun z hz hg => ?_⟩
  rcases hz with hz | rfl
  · rcases h with ⟨h1, h2⟩ | ⟨h1, h2, h3, h4, h5⟩
    · exact absurd hg (h2 z hz)
    · have := h5 z hz hg
      omega
  · exact Or.inr ⟨rfl, Int.le_refl _⟩
theorem bst_u {G S : Int → Prop} {b c : Int} (h : Bst G S b) (k : Bst G S c) : b = c := by
  rcases h with ⟨h1, h2⟩ | ⟨h1, h2, h3, h4, h5⟩ <;> rcases k with ⟨k1, k2⟩ | ⟨k1, k2, k3, k4, k5⟩
  · omega
  · exact absurd k4 (h2 _ k3)
  · exact absurd h4 (k2 _ h3)
  · have := h5 c k3 k4
    have := k5 b h3 h4
    omega
/-- the sets of lies that go on from one -/
def Dm (so z : Int) : Prop := 0 ≤ z ∧ z < 256 ∧ Sb so z
def Ex (so j x z : Int) : Prop := Dm so z ∧ ∀ i, 0 ≤ i → i < j → tb z i = tb x i
theorem ex_l {so J x z : Int} (hJ : ∀ i, J ≤ i → tb so i = false) (hx : Dm so x) : Ex so J x z ↔ z = x := by
  constructor
  · rintro ⟨⟨z0, z1, z2⟩, z3⟩
    refine tb_ext (n := 8) z0 z1 hx.1 hx.2.1 (fun k k0 k1 => ?_)
    by_cases q : k < J
    · exact z3 k k0 q
    · have hs := hJ k (by omega)
      have a1 := z2 k k0
      have a2 := hx.2.2 k k0
      rw [hs] at a1 a2
      cases e1 : tb z k <;> cases e2 : tb x k <;> simp_all
  · rintro rfl; exact ⟨hx, fun _ _ _ => rfl⟩
theorem ex_n {so j x z : Int} (j0 : 0 ≤ j) (j8 : j < 8) (hx : Dm so x) (hj : tb x j = false) : Ex so j x z ↔ Ex so (j + 1) x z ∨ (tb so j = true ∧ Ex so (j + 1) (bO x (sL 1 j)) z) := by
  have hl := sL_lt (k := j) (n := 8) j0 (by omega) (by omega)
  have ht : ∀ i, 0 ≤ i → tb (bO x (sL 1 j)) i = (tb x i || decide (j = i)) := fun i i0 => by
    rw [tb_O hx.1 (by have := hx.2.1; omega) (by omega) (by omega), tb_L j0 (by omega) i0]
  constructor
  · rintro ⟨hz, h2⟩
    cases e : tb z j with
    | false =>
      refine Or.inl ⟨hz, fun i i0 i1 => ?_⟩
      by_cases q : i = j
      · rw [q, e, hj]
      · exact h2 i i0 (by omega)
    | true =>
      refine Or.inr ⟨hz.2.2 j j0 e, hz, fun i i0 i1 => ?_⟩
      rw [ht i i0]
      by_cases q : i = j
      · rw [q, e]; simp
      · rw [h2 i i0 (by omega), decide_eq_false (by omega), Bool.or_false]
  · rintro (⟨hz, h2⟩ | ⟨_, hz, h2⟩)
    · exact ⟨hz, fun i i0 i1 => h2 i i0 (by omega)⟩
    · refine ⟨hz, fun i i0 i1 => ?_⟩
      rw [h2 i i0 (by omega), ht i i0, decide_eq_false (by omega), Bool.or_false]
def LSt (g s : Sg) (c1 : List (Int × Int)) (h st n so y : Int) : Prop := Sm [40, 41, 44, 45, 46, 47, 48, 49, 50] g s ∧ Tst s c1 h st ∧ s 44 5 = n ∧ s 44 16 = so ∧ s 44 17 = y
theorem lst_s {g s s' : Sg} {c1 : List (Int × Int)} {h st n so y : Int} (q : LSt g s c1 h st n so y) (e : Sm [40, 41] s s') : LSt g s' c1 h st n so y := by
  obtain ⟨q1, q2, q3, q4, q5⟩ := q
  have e4 := e 44 (by decide)
  exact ⟨sm_t q1 (sm_m e (by simp)), ⟨by rw [e4]; exact q2.1, by rw [e4]; exact q2.2⟩, by rw [e4]; exact q3, by rw [e4]; exact q4, by rw [e4]; exact q5⟩
theorem lst_u {g s : Sg} {c1 : List (Int × Int)} {h st n so y v : Int} (q : LSt g s c1 h st n so y) : LSt g (up s 44 18 v) c1 h st n so y := by
  obtain ⟨q1, q2, q3, q4, q5⟩ := q
  exact ⟨sm_u q1 (by simp), ⟨by rw [up_i (by decide)]; exact q2.1, by rw [up_i (by decide)]; exact q2.2⟩, by rw [up_i (by decide)]; exact q3, by rw [up_i (by decide)]; exact q4, by rw [up_i (by decide)]; exact q5⟩
def LG (g : Sg) (c1 c2 : List (Int × Int)) (st h n : Int) (q0 : Int × Int × Int) (so y J z : Int) : Prop := ¬ y < BC so - BC z ∧ ¬ g 4 h < (LQ g c1 c2 st h n q0 z J).2.1
set_option maxRecDepth 20000 in
theorem c_noteLies {d : Nat} {g η s : Sg} {T : TT} {tx : Int → TA} {P : AM → Prop} {c1 c2 : List (Int × Int)} {h st n so y J x : Int} {q0 : Int × Int × Int} {S : Int → Prop} (ht : Td g η T tx) (hl : LSt g s c1 h st n so y) (h0 : 0 ≤ h) (h1 : h < g 3 0) (s0 : 0 ≤ so) (s1 : so < 256) (hx : Dm so x) (hb : Bst (LG g c1 c2 st h n q0 so y J) S (s 44 18)) (k : ∀ s', LSt g s' c1 h st n so y → Bst (LG g c1 c2 st h n q0 so y J) (fun z => S z ∨ z = x) (s' 44 18) → P (mk s' T)) : wpV (d + 3) 118 0 [aR 44, aI (LQ g c1 c2 st h n q0 x J).2.1, aI x, aU] [] (mk s T) P := by
  obtain ⟨x0, x1, x2⟩ := hx
  have hn := ht.1.1.1
  have hN := bN_b (x := so) (y := x) s0 (by omega)
  refine g_Trials_noteLies_0 ?_
  rw [hl.2.2.2.1]
  refine c_bitCount hN.1 (by omega) (g_Trials_noteLies_11 ?_)
  rw [bc_sub s0 s1 x0 x1 x2, hl.2.2.2.2, hl.2.1.1, hl.1 3 (by decide), hl.1 4 (by decide)]
  refine ci (fun c => k s hl (bst_n hb (fun q => q.1 c))) (fun c => cf (by omega) (ct h1 (ct (by omega) (ci (fun c2 => k s hl (bst_n hb (fun q => q.2 c2))) (fun c2 => ?_)))))
  have hg : LG g c1 _ st h n q0 so y J x := ⟨c, c2⟩
  refine c_bitCount x0 (by omega) (g_Trials_noteLies_31 ?_)
  have bx := bc_b x0
  have yes : (s 44 18 = -1 ∨ BC x < BC (s 44 18) ∨ (BC x = BC (s 44 18) ∧ x ≤ s 44 18)) → P (mk (up s 44 18 x) T) := fun hw => k _ (lst_u hl) (by rw [up_s]; exact bst_y hb x0 x1 hg hw)
  by_cases e : s 44 18 = -1
  · refine c_bitAny (fun v => g_Trials_noteLies_38 (ct e (yes (Or.inl e))))
  · have hb' : 0 ≤ s 44 18 ∧ s 44 18 < 256 := by
      rcases hb with ⟨h1, h2⟩ | ⟨h1, h2, h3, h4, h5⟩
      · exact absurd h1 e
      · exact ⟨h1, h2⟩
    have bb := bc_b hb'.1
    refine c_bitCount hb'.1 (by omega) (g_Trials_noteLies_38 (cf e ?_))
    rw [w32_id (x := BC x - BC (s 44 18)) (by omega) (by omega)]
    exact ci (fun c => yes (by omega)) (fun c => ci (fun c' => ci (fun c3 => yes (by omega)) (fun c3 => k s hl (bst_k hb e (by omega)))) (fun c' => k s hl (bst_k hb e (by omega))))
theorem c_replyNext {d : Nat} {g η : Sg} {T : TT} {tx : Int → TA} {h st n so y : Int} {q0 : Int × Int × Int} (ht : Td g η T tx) (h0 : 0 ≤ h) (h1 : h < g 3 0) (st0 : 0 ≤ st) (n0 : 0 ≤ n ∧ n ≤ 24) (s0 : 0 ≤ so) (s1 : so < 256) (sJ : ∀ i, g 3 9 ≤ i → tb so i = false) (hq : BqJ 0 q0) : ∀ (k : Nat) (j x : Int) (s : Sg) (S : Int → Prop) (P : AM → Prop), j + k = g 3 9 → 0 ≤ j → Dm so x → (∀ i, j ≤ i → tb x i = false) → (LQ g ((rA g tx).1 1) ((rA g tx).1 2) st h n q0 x j).2.2 = BC x → LSt g s ((rA g tx).1 1) h st n so y → Bst (LG g ((rA g tx).1 1) ((rA g tx).1 2) st h n q0 so y (g 3 9)) S (s 44 18) → (∀ s', LSt g s' ((rA g tx).1 1) h st n so y → Bst (LG g ((rA g tx).1 1) ((rA g tx).1 2) st h n q0 so y (g 3 9)) (fun z => S z ∨ Ex so j x z) (s' 44 18) → P (mk s' T)) → wpV (d + k + 6) 117 0 [aR 44, aI j, aI (LQ g ((rA g tx).1 1) ((rA g tx).1 2) st h n q0 x j).1, aI (LQ g ((rA g tx).1 1) ((rA g tx).1 2) st h n q0 x j).2.1, aI x, aU] [] (mk s T) P := by
  have hJ := ht.1.1.2.2.1
  intro k
  induction k with
  | zero =>
    intro j x s S P hj j0 hx hxj hbc hl hb k
    have e : j = g 3 9 := by omega
    subst e
    refine g_Trials_replyNext_0 ?_
    rw [hl.1 3 (by decide)]
    refine cf (by omega) (c_noteLies (d := d + 2) ht hl h0 h1 s0 s1 hx hb (fun s' hl' hb' => g_Trials_replyNext_24 (k s' hl' (bst_c (fun z => ?_) hb'))))
    rw [ex_l sJ hx]
  | succ k ih =>
    intro j x s S P hj j0 hx hxj hbc hl hb kk
    obtain ⟨lq1, lq2, lq3⟩ := lq_b g ((rA g tx).1 1) ((rA g tx).1 2) st h n x hq j j0 (by omega)
    have hxj0 := hxj j (Int.le_refl _)
    have same : LQ g ((rA g tx).1 1) ((rA g tx).1 2) st h n q0 x (j + 1) = LQ g ((rA g tx).1 1) ((rA g tx).1 2) st h n q0 x j := by
      rw [lq_s j0]; unfold liS; rw [if_neg (by rw [hxj0]; decide)]
    refine g_Trials_replyNext_0 ?_
    rw [hl.1 3 (by decide), w32_id (x := j + 1) (by omega) (by omega)]
    refine ct (by omega) (ct (by omega) ?_)
    have r1 := ih (j + 1) x s S (fun M' => wpV (d + (k + 1) + 5 + 1) 117 36 [aR 44, aI j, aI (LQ g ((rA g tx).1 1) ((rA g tx).1 2) st h n q0 x j).1, aI (LQ g ((rA g tx).1 1) ((rA g tx).1 2) st h n q0 x j).2.1, aI x, aU] [] M' P) (by omega) (by omega) hx (fun i hi => hxj i (by omega)) (by rw [same]; exact hbc) hl hb
    rw [same] at r1
    refine r1 (fun s2 hl2 hb2 => g_Trials_replyNext_36 ?_)
    rw [hl2.2.2.2.1]
    refine ci (fun c => ?_) (fun c => ?_)
    · have hsj := (has_0 s0 j0 (by omega)).mp c
      refine kk s2 hl2 (bst_c (fun z => ?_) hb2)
      rw [ex_n j0 (by omega) hx hxj0, hsj]; simp
    · have hsj : tb so j = true := by
        cases e : tb so j with
        | true => rfl
        | false => exact absurd ((has_0 s0 j0 (by omega)).mpr e) c
      have f2 : Td s2 η T tx := td_m ht hl2.1 (by decide)
      refine c_bitCount hx.1 (by have := hx.2.1; omega) (g_Trials_replyNext_62 ?_)
      rw [hl2.2.1.1]
      have bx := bc_b hx.1
      refine c_lieTo (d := d + k + 3) f2 j0 (by rw [hl2.1 3 (by decide)]; omega) h0 (by rw [hl2.1 3 (by decide)]; exact h1) (by omega) (fun s3 e3 => g_Trials_replyNext_65 ?_)
      have hl3 := lst_s hl2 e3
      have li : LI s2 = LI g := li_c (hl2.1 3 (by decide)) (hl2.1 4 (by decide)) (hl2.1 5 (by decide)) (hl2.1 6 (by decide)) (hl2.1 8 (by decide)) (hl2.1 11 (by decide))
      rw [hl3.2.2.1, li, ra_c tx (hl2.1 3 (by decide)), w32_id (x := j + 1) (by omega) (by omega)]
      refine c_settled (d := d + k + 2) ht hl3.1 h0 h1 st0 hl3.2.1 (by omega) (by omega) (fun s4 e4 => g_Trials_replyNext_85 ?_)
      have hl4 := lst_s hl3 e4
      have hL := sL_lt (k := j) (n := 8) j0 (by omega) (by omega)
      have tO : ∀ i, 0 ≤ i → tb (bO x (sL 1 j)) i = (tb x i || decide (j = i)) := fun i i0 => by
        rw [tb_O hx.1 (by have := hx.2.1; omega) (by omega) (by omega), tb_L j0 (by omega) i0]
      have hx' : Dm so (bO x (sL 1 j)) := by
        have := bO_b (n := 8) (by omega) hx.1 hx.2.1 (by omega) hL.2
        refine ⟨this.1, this.2, fun i i0 hi => ?_⟩
        rw [tO i i0, Bool.or_eq_true, decide_eq_true_iff] at hi
        rcases hi with hi | rfl
        · exact hx.2.2 i i0 hi
        · exact hsj
      have eq1 : LQ g ((rA g tx).1 1) ((rA g tx).1 2) st h n q0 (bO x (sL 1 j)) j = LQ g ((rA g tx).1 1) ((rA g tx).1 2) st h n q0 x j := lq_c (fun i i0 i1 => by rw [tO i i0, decide_eq_false (by omega), Bool.or_false])
      have eq2 : LQ g ((rA g tx).1 1) ((rA g tx).1 2) st h n q0 (bO x (sL 1 j)) (j + 1) = (w32 ((LQ g ((rA g tx).1 1) ((rA g tx).1 2) st h n q0 x j).1 + LI g ((rA g tx).1 2) j h (BC x)), stl (w32 ((LQ g ((rA g tx).1 1) ((rA g tx).1 2) st h n q0 x j).1 + LI g ((rA g tx).1 2) j h (BC x))) (LQ g ((rA g tx).1 1) ((rA g tx).1 2) st h n q0 x j).2.1 (STK g ((rA g tx).1 1) h (LQ g ((rA g tx).1 1) ((rA g tx).1 2) st h n q0 x j).2.1 n st), BC x + 1) := by
        rw [lq_s j0, eq1]; unfold liS
        rw [if_pos (by rw [tO j j0]; simp), hbc]
      have hb4 : Bst (LG g ((rA g tx).1 1) ((rA g tx).1 2) st h n q0 so y (g 3 9)) (fun z => S z ∨ Ex so (j + 1) x z) (s4 44 18) := by
        rw [e4 44 (by decide), e3 44 (by decide)]; exact hb2
      have r2 := ih (j + 1) (bO x (sL 1 j)) s4 (fun z => S z ∨ Ex so (j + 1) x z) (fun M' => wpV (d + (k + 1) + 5 + 1) 117 94 [aR 44, aI j, aI (LQ g ((rA g tx).1 1) ((rA g tx).1 2) st h n q0 x j).1, aI (LQ g ((rA g tx).1 1) ((rA g tx).1 2) st h n q0 x j).2.1, aI x, aI (w32 ((LQ g ((rA g tx).1 1) ((rA g tx).1 2) st h n q0 x j).1 + LI g ((rA g tx).1 2) j h (BC x)))] [] M' P) (by omega) (by omega) hx' (fun i hi => by rw [tO i (by omega), hxj i (by omega), decide_eq_false (by omega)]; rfl) (by rw [eq2, bc_o hx.1 (by have := hx.2.1; omega) j0 (by omega) hxj0]) hl4 hb4
      rw [eq2] at r2
      refine r2 (fun s5 hl5 hb5 => g_Trials_replyNext_94 (kk s5 hl5 (bst_c (fun z => ?_) hb5)))
      rw [ex_n j0 (by omega) hx hxj0, hsj]
      constructor
      · rintro (a | a | ⟨_, a⟩)
        · exact Or.inl (Or.inl a)
        · exact Or.inl (Or.inr a)
        · exact Or.inr a
      · rintro ((a | a) | a)
        · exact Or.inl a
        · exact Or.inr (Or.inl a)
        · exact Or.inr (Or.inr ⟨rfl, a⟩)
end
