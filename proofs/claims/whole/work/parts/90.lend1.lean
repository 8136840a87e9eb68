noncomputable section
/-! what some lack, and what others could take of them -/
def psum (f : Int → Int) (i : Int) : Int := it (fun k s => s + f k) 0 i
theorem ps_s {f : Int → Int} {i : Int} (i0 : 0 ≤ i) : psum f (i + 1) = psum f i + f i := it_s _ _ i0
theorem ps_6 (f : Int → Int) : psum f 6 = f 0 + f 1 + f 2 + f 3 + f 4 + f 5 := by
  rw [show (6 : Int) = 5 + 1 from rfl, ps_s (by omega), show (5 : Int) = 4 + 1 from rfl, ps_s (by omega), show (4 : Int) = 3 + 1 from rfl, ps_s (by omega), show (3 : Int) = 2 + 1 from rfl, ps_s (by omega), show (2 : Int) = 1 + 1 from rfl, ps_s (by omega), show (1 : Int) = 0 + 1 from rfl, ps_s (by omega)]
  rw [show psum f 0 = 0 from rfl]; omega
theorem ps_l {f g : Int → Int} (h : ∀ k, 0 ≤ k → k < 6 → f k ≤ g k) : psum f 6 ≤ psum g 6 := by
  rw [ps_6, ps_6]
  have h0 := h 0 (by omega) (by omega)
  have h1 := h 1 (by omega) (by omega)
  have h2 := h 2 (by omega) (by omega)
  have h3 := h 3 (by omega) (by omega)
  have h4 := h 4 (by omega) (by omega)
  have h5 := h 5 (by omega) (by omega)
  omega
theorem ps_c {f g : Int → Int} (h : ∀ k, 0 ≤ k → k < 6 → f k = g k) : psum f 6 = psum g 6 := Int.le_antisymm (ps_l (fun k a b => Int.le_of_eq (h k a b))) (ps_l (fun k a b => Int.le_of_eq (h k a b).symm))
theorem ps_a (f g : Int → Int) : psum (fun k => f k + g k) 6 = psum f 6 + psum g 6 := by rw [ps_6, ps_6, ps_6]; omega
theorem ps_u {f g : Int → Int} {j : Int} (j0 : 0 ≤ j) (j6 : j < 6) (h : ∀ k, 0 ≤ k → k < 6 → k ≠ j → f k = g k) : psum f 6 - f j = psum g 6 - g j := by
  rw [ps_6, ps_6]
  rcases (by omega : j = 0 ∨ j = 1 ∨ j = 2 ∨ j = 3 ∨ j = 4 ∨ j = 5) with rfl | rfl | rfl | rfl | rfl | rfl
  · rw [h 1 (by omega) (by omega) (by omega), h 2 (by omega) (by omega) (by omega), h 3 (by omega) (by omega) (by omega), h 4 (by omega) (by omega) (by omega), h 5 (by omega) (by omega) (by omega)]; omega
  · rw [h 0 (by omega) (by omega) (by omega), h 2 (by omega) (by omega) (by omega), h 3 (by omega) (by omega) (by omega), h 4 (by omega) (by omega) (by omega), h 5 (by omega) (by omega) (by omega)]; omega
  · rw [h 0 (by omega) (by omega) (by omega), h 1 (by omega) (by omega) (by omega), h 3 (by omega) (by omega) (by omega), h 4 (by omega) (by omega) (by omega), h 5 (by omega) (by omega) (by omega)]; omega
  · rw [h 0 (by omega) (by omega) (by omega), h 1 (by omega) (by omega) (by omega), h 2 (by omega) (by omega) (by omega), h 4 (by omega) (by omega) (by omega), h 5 (by omega) (by omega) (by omega)]; omega
  · rw [h 0 (by omega) (by omega) (by omega), h 1 (by omega) (by omega) (by omega), h 2 (by omega) (by omega) (by omega), h 3 (by omega) (by omega) (by omega), h 5 (by omega) (by omega) (by omega)]; omega
  · rw [h 0 (by omega) (by omega) (by omega), h 1 (by omega) (by omega) (by omega), h 2 (by omega) (by omega) (by omega), h 3 (by omega) (by omega) (by omega), h 4 (by omega) (by omega) (by omega)]; omega
def ix (x h v : Int) : Int := if tb x h = true then v else 0
theorem ix_b {x h v : Int} (v0 : 0 ≤ v) : 0 ≤ ix x h v ∧ ix x h v ≤ v := by unfold ix; split <;> omega
theorem ix_1 {x h v : Int} (e : tb x h = true) : ix x h v = v := by unfold ix; rw [if_pos e]
theorem ix_0 {x h v : Int} (e : tb x h = false) : ix x h v = 0 := by unfold ix; rw [if_neg (by rw [e]; decide)]
def Bm (m : Int → Int) (x h : Int) : Int := psum (fun k => ix x k (m (6 * k + h))) 6
def TKs (t m : Int → Int) (x h : Int) : Int := min (Bm m x h) (t h)
def LKs (L t m : Int → Int) (x : Int) : Int := psum (fun h => ix x h (L h)) 6 - psum (TKs t m x) 6
def u1 (f : Int → Int) (j v : Int) : Int → Int := fun i => if i = j then v else f i
theorem u1_s (f : Int → Int) (j v : Int) : u1 f j v j = v := by unfold u1; rw [if_pos rfl]
theorem u1_n {f : Int → Int} {j v i : Int} (h : i ≠ j) : u1 f j v i = f i := by unfold u1; rw [if_neg h]
def S6 (x : Int) : Prop := 0 ≤ x ∧ x < 64
def Fsb (W : Int) (L t m : Int → Int) : Prop := ∀ x, S6 x → Sb W x → LKs L t m x ≤ 0
def NN (m : Int → Int) (n : Int) : Prop := ∀ i, 0 ≤ i → i < n → 0 ≤ m i
theorem ix_ui {x y h v : Int} (hx : S6 x) (hy : S6 y) : ix (bO x y) h v + ix (bA x y) h v = ix x h v + ix y h v := by
  unfold ix
  have := hx.2; have := hy.2
  rw [tb_O hx.1 (by omega) hy.1 (by omega), tb_A hx.1 (by omega) hy.1 (by omega)]
  cases tb x h <;> cases tb y h <;> simp <;> omega
theorem bm_ui {m : Int → Int} {x y : Int} (h : Int) (hx : S6 x) (hy : S6 y) : Bm m (bO x y) h + Bm m (bA x y) h = Bm m x h + Bm m y h := by
  unfold Bm
  rw [← ps_a, ← ps_a]
  exact ps_c (fun k _ _ => ix_ui hx hy)
theorem bm_l {m : Int → Int} {x y h : Int} (h0 : 0 ≤ h) (h6 : h < 6) (hm : NN m 36) (e : ∀ k, 0 ≤ k → k < 6 → tb x k = true → tb y k = true) : Bm m x h ≤ Bm m y h := by
  refine ps_l (fun k k0 k6 => ?_)
  have := hm (6 * k + h) (by omega) (by omega)
  cases e1 : tb x k with
  | false => rw [ix_0 e1]; exact (ix_b this).1
  | true => rw [ix_1 e1, ix_1 (e k k0 k6 e1)]; exact Int.le_refl _
theorem bm_n {m : Int → Int} {x h : Int} (h0 : 0 ≤ h) (h6 : h < 6) (hm : NN m 36) : 0 ≤ Bm m x h := by
  have := ps_l (f := fun _ => 0) (g := fun k => ix x k (m (6 * k + h))) (fun k k0 k6 => (ix_b (hm (6 * k + h) (by omega) (by omega))).1)
  rw [ps_6 (fun _ => 0)] at this
  exact this
theorem s6_o {x y : Int} (hx : S6 x) (hy : S6 y) : S6 (bO x y) := bO_b (n := 6) (by omega) hx.1 hx.2 hy.1 hy.2
theorem s6_a {x y : Int} (hx : S6 x) (hy : S6 y) : S6 (bA x y) := by
  have := hx.2; have := hy.2
  have b := bA_b (x := x) (y := y) hx.1 (by omega) hy.1 (by omega)
  exact ⟨b.1, by omega⟩
theorem sb_o {W x y : Int} (hx : S6 x) (hy : S6 y) (a : Sb W x) (b : Sb W y) : Sb W (bO x y) := fun i i0 hi => by
  have := hx.2; have := hy.2
  rw [tb_O hx.1 (by omega) hy.1 (by omega), Bool.or_eq_true] at hi
  rcases hi with hi | hi
  · exact a i i0 hi
  · exact b i i0 hi
theorem sb_a {W x y : Int} (hx : S6 x) (hy : S6 y) (a : Sb W x) : Sb W (bA x y) := fun i i0 hi => by
  have := hx.2; have := hy.2
  rw [tb_A hx.1 (by omega) hy.1 (by omega), Bool.and_eq_true] at hi
  exact a i i0 hi.1
/-- one bond taken away -/
theorem bm_0 {m : Int → Int} {x h f c : Int} (f0 : 0 ≤ f) (f6 : f < 6) (c0 : 0 ≤ c) (c6 : c < 6) (h0 : 0 ≤ h) (h6 : h < 6) : Bm (u1 m (6 * f + c) 0) x h = Bm m x h - if h = c then ix x f (m (6 * f + c)) else 0 := by
  unfold Bm
  by_cases e : h = c
  · subst e
    rw [if_pos rfl]
    have := ps_u (f := fun k => ix x k (u1 m (6 * f + h) 0 (6 * k + h))) (g := fun k => ix x k (m (6 * k + h))) (j := f) f0 f6 (fun k k0 k6 hk => by rw [u1_n (by omega)])
    simp only [u1_s] at this
    have z : ix x f 0 = 0 := by unfold ix; split <;> rfl
    omega
  · rw [if_neg e, Int.sub_zero]
    exact ps_c (fun k k0 k6 => by rw [u1_n (by omega)])
/-- what a set lacks at most, once the bond is away -/
def GLp (W : Int) (L t m : Int → Int) (r : Int) : Prop := 0 ≤ r ∧ (∀ x, S6 x → Sb W x → LKs L t m x ≤ r) ∧ (r = 0 ∨ ∃ x, S6 x ∧ Sb W x ∧ LKs L t m x = r)
theorem glp_u {W : Int} {L t m : Int → Int} {r r' : Int} (h : GLp W L t m r) (k : GLp W L t m r') : r = r' := by
  obtain ⟨h1, h2, h3⟩ := h
  obtain ⟨k1, k2, k3⟩ := k
  have a : r ≤ r' := by
    rcases h3 with h3 | ⟨x, x1, x2, x3⟩
    · omega
    · have := k2 x x1 x2; omega
  have b : r' ≤ r := by
    rcases k3 with k3 | ⟨x, x1, x2, x3⟩
    · omega
    · have := h2 x x1 x2; omega
  omega
theorem tk_0 {t m : Int → Int} {x f c : Int} (f0 : 0 ≤ f) (f6 : f < 6) (c0 : 0 ≤ c) (c6 : c < 6) : psum (TKs t (u1 m (6 * f + c) 0) x) 6 - min (Bm m x c - ix x f (m (6 * f + c))) (t c) = psum (TKs t m x) 6 - min (Bm m x c) (t c) := by
  have := ps_u (f := TKs t (u1 m (6 * f + c) 0) x) (g := TKs t m x) (j := c) c0 c6 (fun k k0 k6 hk => by unfold TKs; rw [bm_0 f0 f6 c0 c6 k0 k6, if_neg hk, Int.sub_zero])
  unfold TKs at this ⊢
  rw [bm_0 f0 f6 c0 c6 c0 c6, if_pos rfl] at this
  exact this
theorem lk_f {L t m : Int → Int} {x f c : Int} (f0 : 0 ≤ f) (f6 : f < 6) (c0 : 0 ≤ c) (c6 : c < 6) (hx : tb x f = false) : LKs L t (u1 m (6 * f + c) 0) x = LKs L t m x := by
  have := tk_0 (t := t) (m := m) (x := x) f0 f6 c0 c6
  rw [ix_0 hx, Int.sub_zero] at this
  unfold LKs; omega
theorem lk_v {L t m : Int → Int} {x f c v : Int} (f0 : 0 ≤ f) (f6 : f < 6) (c0 : 0 ≤ c) (c6 : c < 6) : LKs (u1 L f (L f - v)) (u1 t c (t c - v)) m x = LKs L t m x - ix x f v + min (Bm m x c) (t c) - min (Bm m x c) (t c - v) := by
  unfold LKs
  have a := ps_u (f := fun h => ix x h (u1 L f (L f - v) h)) (g := fun h => ix x h (L h)) (j := f) f0 f6 (fun k _ _ hk => by rw [u1_n hk])
  have b := ps_u (f := TKs (u1 t c (t c - v)) m x) (g := TKs t m x) (j := c) c0 c6 (fun k _ _ hk => by unfold TKs; rw [u1_n hk])
  simp only [u1_s] at a
  have e1 : TKs (u1 t c (t c - v)) m x c = min (Bm m x c) (t c - v) := by unfold TKs; rw [u1_s]
  have e2 : TKs t m x c = min (Bm m x c) (t c) := rfl
  have e3 : ix x f (L f - v) = ix x f (L f) - ix x f v := by unfold ix; split <;> omega
  omega
/-- the least number of a pair is what some set lacks without it -/
theorem lend_key {W : Int} {L t m : Int → Int} {f c r : Int} (hW : 0 ≤ W ∧ W < 64) (f0 : 0 ≤ f) (f6 : f < 6) (c0 : 0 ≤ c) (c6 : c < 6) (hm : NN m 36) (ht : NN t 6) (hL : NN L 6) (hF : Fsb W L t m) (hG : GLp W L t (u1 m (6 * f + c) 0) r) :
    r ≤ L f ∧ r ≤ t c ∧ r ≤ m (6 * f + c) ∧ (∀ v, 0 ≤ v → v < r → ∃ x, S6 x ∧ Sb W x ∧ 0 < LKs (u1 L f (L f - v)) (u1 t c (t c - v)) (u1 m (6 * f + c) 0) x) ∧ Fsb W (u1 L f (L f - r)) (u1 t c (t c - r)) (u1 m (6 * f + c) 0) := by
  obtain ⟨g0, g1, g2⟩ := hG
  have mfc := hm (6 * f + c) (by omega) (by omega)
  have tc0 := ht c c0 c6
  have lf0 := hL f f0 f6
  have hm0 : NN (u1 m (6 * f + c) 0) 36 := fun i i0 i1 => by
    unfold u1; split
    · omega
    · exact hm i i0 i1
  -- the set that lacks most
  have top : r = 0 ∨ ∃ y, S6 y ∧ Sb W y ∧ LKs L t (u1 m (6 * f + c) 0) y = r ∧ tb y f = true := by
    rcases g2 with g2 | ⟨y, y1, y2, y3⟩
    · exact Or.inl g2
    · cases e : tb y f with
      | true => exact Or.inr ⟨y, y1, y2, y3, e⟩
      | false =>
        have := hF y y1 y2
        rw [lk_f f0 f6 c0 c6 e] at y3
        left; omega
  have b0 : ∀ x, tb x f = true → Bm (u1 m (6 * f + c) 0) x c = Bm m x c - m (6 * f + c) := fun x hx => by
    rw [bm_0 f0 f6 c0 c6 c0 c6, if_pos rfl, ix_1 hx]
  have tk : ∀ x, tb x f = true → psum (TKs t (u1 m (6 * f + c) 0) x) 6 - min (Bm m x c - m (6 * f + c)) (t c) = psum (TKs t m x) 6 - min (Bm m x c) (t c) := fun x hx => by
    have := tk_0 (t := t) (m := m) (x := x) f0 f6 c0 c6
    rw [ix_1 hx] at this; exact this
  refine ⟨?_, ?_, ?_, ?_, ?_⟩
  · rcases top with q | ⟨y, y1, y2, y3, y4⟩
    · omega
    · -- without that one
      have hl := sL_lt (k := f) (n := 6) f0 (by omega) (by omega)
      have hb := bN_b (x := y) (y := sL 1 f) y1.1 (by have := y1.2; omega)
      have z6 : S6 (bA y (bX (sL 1 f) (-1))) := ⟨hb.1, by have := y1.2; omega⟩
      have tz : ∀ k, 0 ≤ k → tb (bA y (bX (sL 1 f) (-1))) k = (tb y k && !decide (f = k)) := fun k k0 => by
        rw [bN_n y1.1 (by have := y1.2; omega) (by omega) (by omega), tb_L f0 (by omega) k0]
      have zs : Sb W (bA y (bX (sL 1 f) (-1))) := fun i i0 hi => by
        rw [tz i i0, Bool.and_eq_true] at hi; exact y2 i i0 hi.1
      have zF := hF _ z6 zs
      have zf : tb (bA y (bX (sL 1 f) (-1))) f = false := by rw [tz f f0]; simp
      generalize bA y (bX (sL 1 f) (-1)) = z at *
      have s1 := ps_u (f := fun h => ix y h (L h)) (g := fun h => ix z h (L h)) (j := f) f0 f6 (fun k k0 _ hk => by
        unfold ix; rw [tz k k0, show decide (f = k) = false from decide_eq_false (fun q => hk q.symm)]; simp)
      rw [ix_1 y4, ix_0 zf] at s1
      have s2 : psum (TKs t m z) 6 ≤ psum (TKs t (u1 m (6 * f + c) 0) y) 6 := ps_l (fun k k0 k6 => by
        have a1 : Bm m z k = Bm (u1 m (6 * f + c) 0) z k := by
          rw [bm_0 f0 f6 c0 c6 k0 k6, ix_0 zf]; split <;> omega
        have a2 : Bm (u1 m (6 * f + c) 0) z k ≤ Bm (u1 m (6 * f + c) 0) y k := bm_l k0 k6 hm0 (fun j j0 _ hj => by rw [tz j j0, Bool.and_eq_true] at hj; exact hj.1)
        unfold TKs; omega)
      unfold LKs at y3 zF
      omega
  · rcases top with q | ⟨y, y1, y2, y3, y4⟩
    · omega
    · have := hF y y1 y2
      have := tk y y4
      have := bm_n (m := u1 m (6 * f + c) 0) (x := y) c0 c6 hm0
      rw [b0 y y4] at this
      unfold LKs at *
      omega
  · rcases top with q | ⟨y, y1, y2, y3, y4⟩
    · omega
    · have := hF y y1 y2
      have := tk y y4
      unfold LKs at *
      omega
  · intro v v0 v1
    rcases top with q | ⟨y, y1, y2, y3, y4⟩
    · omega
    · refine ⟨y, y1, y2, ?_⟩
      rw [lk_v f0 f6 c0 c6, ix_1 y4]
      omega
  · intro x x1 x2
    rw [lk_v f0 f6 c0 c6]
    cases e : tb x f with
    | true =>
      have a1 := g1 x x1 x2
      have a2 := hF x x1 x2
      have a3 := tk x e
      rw [ix_1 e, b0 x e]
      have a4 : LKs L t (u1 m (6 * f + c) 0) x = LKs L t m x + min (Bm m x c) (t c) - min (Bm m x c - m (6 * f + c)) (t c) := by unfold LKs; omega
      omega
    | false =>
      have a2 := hF x x1 x2
      have eb : Bm (u1 m (6 * f + c) 0) x c = Bm m x c := by rw [bm_0 f0 f6 c0 c6 c0 c6, if_pos rfl, ix_0 e, Int.sub_zero]
      rw [lk_f f0 f6 c0 c6 e, ix_0 e, eb]
      rcases top with q | ⟨y, y1, y2, y3, y4⟩
      · omega
      · by_cases hc : Bm m x c ≤ t c - r
        · omega
        · have fu := hF _ (s6_o x1 y1) (sb_o x1 y1 x2 y2)
          have fi := hF _ (s6_a x1 y1) (sb_a x1 y1 x2)
          have su : psum (fun h => ix (bO x y) h (L h)) 6 + psum (fun h => ix (bA x y) h (L h)) 6 = psum (fun h => ix x h (L h)) 6 + psum (fun h => ix y h (L h)) 6 := by
            rw [← ps_a, ← ps_a]; exact ps_c (fun k _ _ => ix_ui x1 y1)
          have tO : ∀ k, tb (bO x y) k = (tb x k || tb y k) := fun k => tb_O x1.1 (by have := x1.2; omega) y1.1 (by have := y1.2; omega) k
          have tA : ∀ k, tb (bA x y) k = (tb x k && tb y k) := fun k => tb_A x1.1 (by have := x1.2; omega) y1.1 (by have := y1.2; omega) k
          have fi0 : tb (bA x y) f = false := by rw [tA, e]; rfl
          have key : psum (TKs t m (bO x y)) 6 + psum (TKs t m (bA x y)) 6 ≤ psum (u1 (TKs t m x) c (t c)) 6 + psum (TKs t (u1 m (6 * f + c) 0) y) 6 := by
            rw [← ps_a, ← ps_a]
            refine ps_l (fun k k0 k6 => ?_)
            by_cases ek : k = c
            · subst ek
              have q1 : Bm m (bA x y) k ≤ Bm (u1 m (6 * f + k) 0) y k := by
                have a1 : Bm m (bA x y) k = Bm (u1 m (6 * f + k) 0) (bA x y) k := by
                  rw [bm_0 f0 f6 c0 c6 k0 k6, ix_0 fi0]; split <;> omega
                rw [a1]
                exact bm_l k0 k6 hm0 (fun j _ _ hj => by rw [tA, Bool.and_eq_true] at hj; exact hj.2)
              rw [u1_s]
              unfold TKs; omega
            · rw [u1_n ek]
              have q1 := bm_ui (m := m) k x1 y1
              have q2 : Bm m (bA x y) k ≤ Bm m x k := bm_l k0 k6 hm (fun j _ _ hj => by rw [tA, Bool.and_eq_true] at hj; exact hj.1)
              have q3 : Bm m (bA x y) k ≤ Bm m y k := bm_l k0 k6 hm (fun j _ _ hj => by rw [tA, Bool.and_eq_true] at hj; exact hj.2)
              have q4 : Bm (u1 m (6 * f + c) 0) y k = Bm m y k := by rw [bm_0 f0 f6 c0 c6 k0 k6, if_neg ek, Int.sub_zero]
              unfold TKs; rw [q4]; omega
          have kc := ps_u (f := u1 (TKs t m x) c (t c)) (g := TKs t m x) (j := c) c0 c6 (fun k _ _ hk => u1_n hk)
          rw [u1_s] at kc
          have e2 : TKs t m x c = min (Bm m x c) (t c) := rfl
          unfold LKs at *
          omega
end
