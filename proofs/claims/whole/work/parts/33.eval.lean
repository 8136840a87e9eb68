noncomputable section
/-! a law's sum: what it comes to, in the class and in the reference -/
def wn (v : Int) : Int := if v = 0 then 4 else if v = 1 then 16 else if v = 11 then 6 else if v ≤ 10 then 15 + v else 14 + v
def cv (p : Int × Int) : Int := if p.1 = 0 then p.2 else if p.1 = 1 then 10000 + wn p.2 else if p.1 = 2 then 20004 else if p.1 = 3 then 20005 else 19996 + p.1
def clm (x : Int) : Int := if 1000000 < x then 1000000 else if x < -1000000 then -1000000 else x
def j2 (o x y : Int) : Int := if o = 4 then clm (x + y) else if o = 5 then clm (x - y) else if o = 6 then clm (x * y) else if y = 0 then 0 else Int.tdiv x y
def st1 (nm : Int → Int) (p : Int × Int) (s : List Int) : List Int := if p.1 = 0 then p.2 :: s else if p.1 = 1 then nm p.2 :: s else match s with
  | [] => []
  | x :: t => if p.1 = 2 then -x :: t else if p.1 = 3 then (if x < 0 then -x else x) :: t else match t with
    | [] => []
    | y :: t' => j2 p.1 y x :: t'
def evA (nm : Int → Int) : List (Int × Int) → List Int → List Int
  | [], s => s
  | p :: r, s => evA nm r (st1 nm p s)
def wfc (ok : Int → Prop) : List (Int × Int) → Nat → Prop
  | [], n => n = 1
  | p :: r, n => ((p.1 = 0 ∧ 0 ≤ p.2 ∧ p.2 ≤ 9999 ∧ n < 30 ∧ wfc ok r (n + 1)) ∨ (p.1 = 1 ∧ ok p.2 ∧ 0 ≤ p.2 ∧ p.2 < 15 ∧ n < 30 ∧ wfc ok r (n + 1))) ∨ ((p.1 = 2 ∨ p.1 = 3) ∧ 1 ≤ n ∧ n ≤ 30 ∧ wfc ok r n) ∨ (4 ≤ p.1 ∧ p.1 ≤ 7 ∧ 2 ≤ n ∧ n ≤ 30 ∧ wfc ok r (n - 1))
def CodeAt (c : Int → Int) : Int → List (Int × Int) → Prop
  | _, [] => True
  | i, p :: r => c i = cv p ∧ CodeAt c (i + 1) r
def CodeRf (x : Int → Int) : Int → List (Int × Int) → Prop
  | _, [] => True
  | i, p :: r => x i = p.1 ∧ x (i + 1) = p.2 ∧ CodeRf x (i + 2) r
def StkAt (s : Int → Int) : List Int → Prop
  | [] => True
  | x :: t => s (t.length : Int) = x ∧ StkAt s t
def Sml (l : List Int) : Prop := ∀ x ∈ l, -1000000 ≤ x ∧ x ≤ 1000000
theorem stk_c {s s' : Int → Int} : ∀ {t : List Int}, (∀ k : Int, 0 ≤ k → k < t.length → s' k = s k) → StkAt s t → StkAt s' t
  | [], _, _ => trivial
  | x :: t, h, ⟨h1, h2⟩ => ⟨by rw [h _ (by omega) (by rw [List.length_cons]; omega)]; exact h1, stk_c (fun k a b => h k a (by rw [List.length_cons]; omega)) h2⟩
theorem stk_p {σ : Sg} {a x n : Int} {t : List Int} (hn : n = t.length) (h : StkAt (σ a) t) : StkAt (up σ a n x a) (x :: t) := by
  subst hn
  exact ⟨up_s _ _ _ _, stk_c (fun k _ b => up_i (by omega)) h⟩
theorem sml_c {x : Int} {t : List Int} : Sml (x :: t) ↔ (-1000000 ≤ x ∧ x ≤ 1000000) ∧ Sml t := by
  constructor
  · intro h; exact ⟨h x (by simp), fun y hy => h y (by simp [hy])⟩
  · rintro ⟨h1, h2⟩ y hy
    rcases List.mem_cons.mp hy with rfl | hy
    · exact h1
    · exact h2 y hy
theorem cl_gt (a b : Int) : (0 < cmpL a b) ↔ b < a := by unfold cmpL; split <;> (try split) <;> omega
theorem cl_lt (a b : Int) : (cmpL a b < 0) ↔ a < b := by unfold cmpL; split <;> (try split) <;> omega
theorem cl_eq (a b : Int) : (cmpL a b = 0) ↔ a = b := by unfold cmpL; split <;> (try split) <;> omega
theorem clm_b (x : Int) : -1000000 ≤ clm x ∧ clm x ≤ 1000000 := by unfold clm; split <;> (try split) <;> omega
theorem tdiv_b {x y : Int} (hx : -1000000 ≤ x ∧ x ≤ 1000000) : -1000000 ≤ Int.tdiv x y ∧ Int.tdiv x y ≤ 1000000 := by
  have h : (Int.tdiv x y).natAbs ≤ x.natAbs := by rw [Int.natAbs_tdiv]; exact Nat.div_le_self _ _
  omega
theorem mul_b {x y : Int} (hx : -1000000 ≤ x ∧ x ≤ 1000000) (hy : -1000000 ≤ y ∧ y ≤ 1000000) : -1000000000000 ≤ x * y ∧ x * y ≤ 1000000000000 := by
  have h : (x * y).natAbs ≤ 1000000 * 1000000 := by rw [Int.natAbs_mul]; exact Nat.mul_le_mul (by omega) (by omega)
  omega
theorem j2_b {o x y : Int} (hx : -1000000 ≤ x ∧ x ≤ 1000000) : -1000000 ≤ j2 o x y ∧ j2 o x y ≤ 1000000 := by
  unfold j2
  split
  · exact clm_b _
  · split
    · exact clm_b _
    · split
      · exact clm_b _
      · split
        · omega
        · exact tdiv_b hx
theorem clm_i {v : Int} (A : Int → Prop) (h1 : -9000000000000 ≤ v) (h2 : v ≤ 9000000000000) (k : A (clm v)) : brK (decide (0 < cmpL (w64 v) 1000000)) (A 1000000) (brK (decide (cmpL (w64 v) (-1000000) < 0)) (A (-1000000)) (A (w32 (w64 v)))) := by
  rw [w64_id (by omega) (by omega)]
  refine ci (fun h => ?_) (fun h => ?_)
  · rw [cl_gt] at h
    rw [show clm v = 1000000 from by unfold clm; rw [if_pos h]] at k; exact k
  · rw [cl_gt] at h
    refine ci (fun h' => ?_) (fun h' => ?_)
    · rw [cl_lt] at h'
      rw [show clm v = -1000000 from by unfold clm; rw [if_neg h, if_pos h']] at k; exact k
    · rw [cl_lt] at h'
      rw [show clm v = v from by unfold clm; rw [if_neg h, if_neg h']] at k
      rw [w32_id (by omega) (by omega)]; exact k
theorem clm_l {v : Int} (A : Int → Prop) (h1 : -9000000000000 ≤ v) (h2 : v ≤ 9000000000000) (k : A (clm v)) : brK (decide (0 < cmpL (w64 v) 1000000)) (A 1000000) (brK (decide (cmpL (w64 v) (-1000000) < 0)) (A (-1000000)) (A (w64 v))) := by
  rw [w64_id (by omega) (by omega)]
  refine ci (fun h => ?_) (fun h => ?_)
  · rw [cl_gt] at h
    rw [show clm v = 1000000 from by unfold clm; rw [if_pos h]] at k; exact k
  · rw [cl_gt] at h
    refine ci (fun h' => ?_) (fun h' => ?_)
    · rw [cl_lt] at h'
      rw [show clm v = -1000000 from by unfold clm; rw [if_neg h, if_pos h']] at k; exact k
    · rw [cl_lt] at h'
      rw [show clm v = v from by unfold clm; rw [if_neg h, if_neg h']] at k
      exact k
theorem j2_4 (x y : Int) : j2 4 x y = clm (x + y) := by unfold j2; rw [if_pos rfl]
theorem j2_5 (x y : Int) : j2 5 x y = clm (x - y) := by unfold j2; rw [if_neg (by omega), if_pos rfl]
theorem j2_6 (x y : Int) : j2 6 x y = clm (x * y) := by unfold j2; rw [if_neg (by omega), if_neg (by omega), if_pos rfl]
theorem c_joined {d : Nat} {σ : Sg} {T : TT} {P : Int → AM → Prop} {o x y : Int} (h4 : 4 ≤ o) (h7 : o ≤ 7) (hx : -1000000 ≤ x ∧ x ≤ 1000000) (hy : -1000000 ≤ y ∧ y ≤ 1000000) (k : P (j2 o x y) (mk σ T)) : wpI d 82 0 [aI (19996 + o), aI x, aI y, aU, aU] [] (mk σ T) P := by
  have hm := mul_b hx hy
  have ht := tdiv_b (y := y) hx
  refine g_Laws_joined_0 ?_
  rcases (by omega : o = 4 ∨ o = 5 ∨ o = 6 ∨ o = 7) with rfl | rfl | rfl | rfl
  · refine ct (by omega) ?_
    rw [j2_4] at k
    exact clm_i (fun z => P z (mk σ T)) (by omega) (by omega) k
  · refine cf (by omega) (ct (by omega) ?_)
    rw [j2_5] at k
    exact clm_i (fun z => P z (mk σ T)) (by omega) (by omega) k
  · refine cf (by omega) (cf (by omega) (ct (by omega) ?_))
    rw [j2_6] at k
    exact clm_i (fun z => P z (mk σ T)) (by omega) (by omega) k
  · refine cf (by omega) (cf (by omega) (cf (by omega) ?_))
    refine ci (fun h => ?_) (fun h => ?_)
    · have e : j2 7 x y = 0 := by
        unfold j2; rw [if_neg (by omega), if_neg (by omega), if_neg (by omega), if_pos h]
      rw [e] at k
      rw [w32_id (x := 0) (by omega) (by omega)]
      exact k
    · have e : j2 7 x y = Int.tdiv x y := by
        unfold j2; rw [if_neg (by omega), if_neg (by omega), if_neg (by omega), if_neg h]
      rw [e] at k
      refine cf h ?_
      rw [w32_id (by omega) (by omega)]
      refine cf (by rw [cl_gt]; omega) (cf (by rw [cl_lt]; omega) ?_)
      rw [w32_id (by omega) (by omega)]
      exact k
theorem c_two {d : Nat} {σ : Sg} {T : TT} {P : Int → AM → Prop} {o x y : Int} (h4 : 4 ≤ o) (h7 : o ≤ 7) (hx : -1000000 ≤ x ∧ x ≤ 1000000) (hy : -1000000 ≤ y ∧ y ≤ 1000000) (k : P (j2 o x y) (mk σ T)) : wpL (d + 1) 235 0 [aI o, aL x, a2, aL y, a2] [] (mk σ T) P := by
  have hm := mul_b hx hy
  have ht := tdiv_b (y := y) hx
  refine g_Mo_two_0 ?_
  rcases (by omega : o = 4 ∨ o = 5 ∨ o = 6 ∨ o = 7) with rfl | rfl | rfl | rfl
  · refine ct (by omega) ?_
    rw [j2_4] at k
    exact clm_l (fun z => P z (mk σ T)) (by omega) (by omega) k
  · refine cf (by omega) (ct (by omega) ?_)
    rw [j2_5] at k
    exact clm_l (fun z => P z (mk σ T)) (by omega) (by omega) k
  · refine cf (by omega) (cf (by omega) (ct (by omega) ?_))
    rw [j2_6] at k
    exact clm_l (fun z => P z (mk σ T)) (by omega) (by omega) k
  · refine cf (by omega) (cf (by omega) (cf (by omega) ?_))
    refine ci (fun h => ?_) (fun h => ?_)
    · rw [cl_eq] at h
      have e : j2 7 x y = 0 := by
        unfold j2; rw [if_neg (by omega), if_neg (by omega), if_neg (by omega), if_pos h]
      rw [e] at k
      exact k
    · rw [cl_eq] at h
      have e : j2 7 x y = Int.tdiv x y := by
        unfold j2; rw [if_neg (by omega), if_neg (by omega), if_neg (by omega), if_neg h]
      rw [e] at k
      refine cf h ?_
      rw [w64_id (by omega) (by omega)]
      exact k
theorem vo_loop {d : Nat} {T : TT} {P : Int → AM → Prop} {r wh e : Int} {nm : Int → Int} {ok : Int → Prop} (hk : kd (SHt T) r = 7) (hc : kd (SHt T) (RFt T r 0) = 50) (hl : e ≤ ln (SHt T) (RFt T r 0)) (he : e ≤ 300) (hn : RFt T r 0 ≠ 41) (hnm : ∀ v, ok v → -1000000 ≤ nm v ∧ nm v ≤ 1000000) : ∀ (cd : List (Int × Int)) (st : List Int) (i : Int) (σ : Sg) (l6 : AV), 0 ≤ i → i + cd.length = e → CodeAt (σ (RFt T r 0)) i cd → StkAt (σ 41) st → Sml st → wfc ok cd st.length → (∀ v, ok v → σ 40 (wn v) = nm v) → (∀ σ', Sm [41] σ σ' → P ((evA nm cd st).headD 0) (mk σ' T)) → wpI (d + 1) 80 16 [aR 39, aR r, aI wh, aI st.length, aI e, aI i, l6] [] (mk σ T) P := by
  intro cd
  induction cd with
  | nil =>
    intro st i σ l6 h0 hi hcd hs hb hw hq k
    have hw : st.length = 1 := hw
    refine g_Laws_valueOf_16 ?_
    refine cf (by simp at hi; omega) ?_
    refine ct (by omega) ?_
    obtain ⟨x, rfl⟩ := List.length_eq_one_iff.mp hw
    have e1 : σ 41 0 = x := hs.1
    rw [e1]; exact k σ (sm_r _ _)
  | cons p rr ih =>
    intro st i σ l6 h0 hi hcd hs hb hw hq k
    obtain ⟨hp, hcd⟩ := hcd
    have hle : ((p :: rr).length : Int) = rr.length + 1 := by simp
    refine g_Laws_valueOf_16 ?_
    refine ct (by omega) ?_
    refine cbt (by rw [hk]; rfl) ?_
    refine cbt (by rw [hc]; rfl) ?_
    refine ct (by omega) ?_
    rw [hp]
    have ei : w32 (i + 1) = i + 1 := w32_id (by omega) (by omega)
    rcases hw with (⟨a1, a2, a3, a4, a5⟩ | ⟨a1, a2, a3, a4, a5, a6⟩) | ⟨a1, a2, hn3, a3⟩ | ⟨a1, a2, a3, hn3, a4⟩
    · have ec : cv p = p.2 := by unfold cv; rw [if_pos a1]
      have es : evA nm (p :: rr) st = evA nm rr (p.2 :: st) := by simp only [evA, st1]; rw [if_pos a1]
      rw [es] at k
      rw [ec]
      refine ct (by omega) (ct (by omega) (ct (by omega) (ct (by omega) ?_)))
      rw [ei, show w32 ((st.length : Int) + 1) = ((p.2 :: st).length : Int) from by rw [w32_id (by omega) (by omega)]; simp]
      exact ih _ _ _ _ (by omega) (by omega) (by rw [up_c hn]; exact hcd) (stk_p rfl hs) (sml_c.mpr ⟨by omega, hb⟩) a5 (fun v hv => by rw [up_c (by decide)]; exact hq v hv) (fun σ' h' => k σ' (sm_t (sm_u (sm_r _ _) (by simp)) h'))
    · have hwn : 0 ≤ wn p.2 ∧ wn p.2 < 29 := by unfold wn; (repeat' split) <;> omega
      have ec : cv p = 10000 + wn p.2 := by unfold cv; rw [if_neg (by omega), if_pos a1]
      have es : evA nm (p :: rr) st = evA nm rr (nm p.2 :: st) := by simp only [evA, st1]; rw [if_neg (by omega), if_pos a1]
      rw [es] at k
      rw [ec, show w32 (10000 + wn p.2 - 10000) = wn p.2 from by rw [w32_id (by omega) (by omega)]; omega]
      refine ct (by omega) (ct (by omega) (cf (by omega) (cf (by omega) (ct (by omega) (ct (by omega) (ct (by omega) ?_))))))
      rw [ei, show w32 ((st.length : Int) + 1) = ((nm p.2 :: st).length : Int) from by rw [w32_id (by omega) (by omega)]; simp, hq _ a2]
      exact ih _ _ _ _ (by omega) (by omega) (by rw [up_c hn]; exact hcd) (stk_p rfl hs) (sml_c.mpr ⟨hnm _ a2, hb⟩) a6 (fun v hv => by rw [up_c (by decide)]; exact hq v hv) (fun σ' h' => k σ' (sm_t (sm_u (sm_r _ _) (by simp)) h'))
    · obtain ⟨x, t, rfl⟩ : ∃ x t, st = x :: t := by
        cases st with
        | nil => simp at a2
        | cons x t => exact ⟨x, t, rfl⟩
      obtain ⟨hb1, hb2⟩ := sml_c.mp hb
      obtain ⟨hs1, hs2⟩ := hs
      have el : w32 (((x :: t).length : Int) - 1) = (t.length : Int) := by
        simp only [List.length_cons] at hn3 ⊢
        rw [w32_id (by omega) (by omega)]; omega
      have hll : ((x :: t).length : Int) = t.length + 1 := by simp
      rw [el, hs1, ei]
      rcases a1 with a1 | a1
      · have ec : cv p = 20004 := by unfold cv; rw [if_neg (by omega), if_neg (by omega), if_pos a1]
        have es : evA nm (p :: rr) (x :: t) = evA nm rr (-x :: t) := by simp only [evA, st1]; rw [if_neg (by omega), if_neg (by omega), if_pos a1]
        rw [es] at k
        rw [ec]
        refine cf (by omega) (cf (by omega) (cf (by omega) (ct rfl (ct (by omega) (ct (by omega) ?_)))))
        rw [w32_id (by omega) (by omega)]
        exact ih (-x :: t) _ _ _ (by omega) (by omega) (by rw [up_c hn]; exact hcd) (stk_p rfl hs2) (sml_c.mpr ⟨by omega, hb2⟩) a3 (fun v hv => by rw [up_c (by decide)]; exact hq v hv) (fun σ' h' => k σ' (sm_t (sm_u (sm_r _ _) (by simp)) h'))
      · have ec : cv p = 20005 := by unfold cv; rw [if_neg (by omega), if_neg (by omega), if_neg (by omega), if_pos a1]
        have es : evA nm (p :: rr) (x :: t) = evA nm rr ((if x < 0 then -x else x) :: t) := by simp only [evA, st1]; rw [if_neg (by omega), if_neg (by omega), if_neg (by omega), if_pos a1]
        rw [es] at k
        rw [ec]
        refine cf (by omega) (cf (by omega) (cf (by omega) (cf (by omega) (ct (by omega) (ct (by omega) ?_)))))
        rw [show iab x = (if x < 0 then -x else x) from by unfold iab; rw [w32_id (x := -x) (by omega) (by omega)]]
        exact ih ((if x < 0 then -x else x) :: t) _ _ _ (by omega) (by omega) (by rw [up_c hn]; exact hcd) (stk_p rfl hs2) (sml_c.mpr ⟨by split <;> omega, hb2⟩) a3 (fun v hv => by rw [up_c (by decide)]; exact hq v hv) (fun σ' h' => k σ' (sm_t (sm_u (sm_r _ _) (by simp)) h'))
    · obtain ⟨y, x, t, rfl⟩ : ∃ y x t, st = y :: x :: t := by
        match st, a3 with
        | [], h => simp at h
        | [_], h => simp at h
        | y :: x :: t, _ => exact ⟨y, x, t, rfl⟩
      obtain ⟨hb1, hb2⟩ := sml_c.mp hb
      obtain ⟨hb2, hb3⟩ := sml_c.mp hb2
      obtain ⟨hs1, hs2, hs3⟩ := hs
      have hll : ((y :: x :: t).length : Int) = t.length + 2 := by simp only [List.length_cons]; omega
      have hs1 : σ 41 ((t.length : Int) + 1) = y := by rw [← hs1]; simp
      have hl3 : t.length + 2 ≤ 30 := by simpa using hn3
      have ec : cv p = 19996 + p.1 := by unfold cv; rw [if_neg (by omega), if_neg (by omega), if_neg (by omega), if_neg (by omega)]
      have es : evA nm (p :: rr) (y :: x :: t) = evA nm rr (j2 p.1 x y :: t) := by simp only [evA, st1]; rw [if_neg (by omega), if_neg (by omega), if_neg (by omega), if_neg (by omega)]
      rw [es] at k
      rw [ec, show w32 (((y :: x :: t).length : Int) - 2) = t.length from by rw [w32_id (by omega) (by omega)]; omega, show w32 (((y :: x :: t).length : Int) - 1) = t.length + 1 from by rw [w32_id (by omega) (by omega)]; omega, hs1, hs2]
      refine cf (by omega) (ct (by omega) (cf (by omega) (ct (by omega) (ct (by omega) ?_))))
      refine c_joined a1 a2 hb2 hb1 ?_
      refine g_Laws_valueOf_175 ?_
      refine ct (by omega) ?_
      rw [ei, show w32 (((y :: x :: t).length : Int) + (-1)) = ((j2 p.1 x y :: t).length : Int) from by rw [w32_id (by omega) (by omega)]; simp only [List.length_cons]; omega]
      exact ih _ _ _ _ (by omega) (by omega) (by rw [up_c hn]; exact hcd) (stk_p rfl hs3) (sml_c.mpr ⟨j2_b hb2, hb3⟩) (by simpa using a4) (fun v hv => by rw [up_c (by decide)]; exact hq v hv) (fun σ' h' => k σ' (sm_t (sm_u (sm_r _ _) (by simp)) h'))
set_option maxRecDepth 20000 in
theorem wk_loop {d : Nat} {T : TT} {P : Int → AM → Prop} {l1 l2 x c : Int} {nm : Int → Int} {ok : Int → Prop} (hx : 0 ≤ x ∧ x < 3000) (hc : 0 ≤ c ∧ c ≤ 2405) (hnm : ∀ v, ok v → -1000000 ≤ nm v ∧ nm v ≤ 1000000) : ∀ (cd : List (Int × Int)) (st : List Int) (i : Int) (σ : Sg) (l7 l8 : AV), 0 ≤ i → σ 73 (x + 2) = i + cd.length → i + cd.length ≤ 300 → CodeRf (σ 73) (c + 2 * i) cd → StkAt (σ 77) st → Sml st → wfc ok cd st.length → (∀ v, ok v → σ 76 v = nm v) → (∀ σ', Sm [77] σ σ' → P ((evA nm cd st).headD 0) (mk σ' T)) → wpI (d + 2) 234 37 [aR 70, aI l1, aI l2, aI x, aI c, aI st.length, aI i, l7, l8] [] (mk σ T) P := by
  intro cd
  induction cd with
  | nil =>
    intro st i σ l7 l8 h0 hi hle hcd hs hb hw hq k
    have hw : st.length = 1 := hw
    refine g_Mo_worked_37 ?_
    rw [w32_id (x := x + 2) (by omega) (by omega)]
    refine ct (by omega) ?_
    refine cf (by simp at hi; omega) ?_
    obtain ⟨y, rfl⟩ := List.length_eq_one_iff.mp hw
    have e1 : σ 77 0 = y := hs.1
    have hb1 := (sml_c.mp hb).1
    rw [e1, w32_id (by omega) (by omega)]; exact k σ (sm_r _ _)
  | cons p rr ih =>
    intro st i σ l7 l8 h0 hi hle hcd hs hb hw hq k
    obtain ⟨hp, hp2, hcd⟩ := hcd
    have hln : ((p :: rr).length : Int) = rr.length + 1 := by simp
    have hcd : CodeRf (σ 73) (c + 2 * (i + 1)) rr := by rw [show c + 2 * (i + 1) = c + 2 * i + 2 from by omega]; exact hcd
    refine g_Mo_worked_37 ?_
    have ei : w32 (i + 1) = i + 1 := w32_id (by omega) (by omega)
    rw [w32_id (x := x + 2) (by omega) (by omega), w32_id (x := 2 * i) (by omega) (by omega), w32_id (x := c + 2 * i) (by omega) (by omega), w32_id (x := c + 2 * i + 1) (by omega) (by omega), hp, hp2, ei]
    refine ct (by omega) (ct (by omega) (ct (by omega) (ct (by omega) ?_)))
    rcases hw with (⟨a1, a2, a3, a4, a5⟩ | ⟨a1, a2, a3, a4, a5, a6⟩) | ⟨a1, a2, hn3, a3⟩ | ⟨a1, a2, a3, hn3, a4⟩
    · have es : evA nm (p :: rr) st = evA nm rr (p.2 :: st) := by simp only [evA, st1]; rw [if_pos a1]
      rw [es] at k
      refine cf (by omega) (ct (by omega) (ct (by omega) ?_))
      rw [show w32 ((st.length : Int) + 1) = ((p.2 :: st).length : Int) from by rw [w32_id (by omega) (by omega)]; simp]
      exact ih _ _ _ _ _ (by omega) (by rw [up_c (by decide), hi]; omega) (by omega) (by rw [up_c (by decide)]; exact hcd) (stk_p rfl hs) (sml_c.mpr ⟨by omega, hb⟩) a5 (fun v hv => by rw [up_c (by decide)]; exact hq v hv) (fun σ' h' => k σ' (sm_t (sm_u (sm_r _ _) (by simp)) h'))
    · have es : evA nm (p :: rr) st = evA nm rr (nm p.2 :: st) := by simp only [evA, st1]; rw [if_neg (by omega), if_pos a1]
      rw [es] at k
      refine cf (by omega) (cf (by omega) (ct (by omega) (ct (by omega) ?_)))
      rw [show w32 ((st.length : Int) + 1) = ((nm p.2 :: st).length : Int) from by rw [w32_id (by omega) (by omega)]; simp, hq _ a2]
      exact ih _ _ _ _ _ (by omega) (by rw [up_c (by decide), hi]; omega) (by omega) (by rw [up_c (by decide)]; exact hcd) (stk_p rfl hs) (sml_c.mpr ⟨hnm _ a2, hb⟩) a6 (fun v hv => by rw [up_c (by decide)]; exact hq v hv) (fun σ' h' => k σ' (sm_t (sm_u (sm_r _ _) (by simp)) h'))
    · obtain ⟨y, t, rfl⟩ : ∃ y t, st = y :: t := by
        cases st with
        | nil => simp at a2
        | cons x t => exact ⟨x, t, rfl⟩
      obtain ⟨hb1, hb2⟩ := sml_c.mp hb
      obtain ⟨hs1, hs2⟩ := hs
      have hll : ((y :: t).length : Int) = t.length + 1 := by simp
      have hn4 : t.length + 1 ≤ 30 := by simpa using hn3
      rw [show w32 (((y :: t).length : Int) - 1) = (t.length : Int) from by rw [w32_id (by omega) (by omega)]; omega, hs1]
      rcases a1 with a1 | a1
      · have es : evA nm (p :: rr) (y :: t) = evA nm rr (-y :: t) := by simp only [evA, st1]; rw [if_neg (by omega), if_neg (by omega), if_pos a1]
        rw [es] at k
        refine ct (by omega) (ct (by omega) (ct (by omega) (ct (by omega) ?_)))
        rw [w64_id (by omega) (by omega)]
        exact ih (-y :: t) _ _ _ _ (by omega) (by rw [up_c (by decide), hi]; omega) (by omega) (by rw [up_c (by decide)]; exact hcd) (stk_p rfl hs2) (sml_c.mpr ⟨by omega, hb2⟩) a3 (fun v hv => by rw [up_c (by decide)]; exact hq v hv) (fun σ' h' => k σ' (sm_t (sm_u (sm_r _ _) (by simp)) h'))
      · have es : evA nm (p :: rr) (y :: t) = evA nm rr ((if y < 0 then -y else y) :: t) := by simp only [evA, st1]; rw [if_neg (by omega), if_neg (by omega), if_neg (by omega), if_pos a1]
        rw [es] at k
        refine ct (by omega) (cf (by omega) (ct (by omega) (ct (by omega) ?_)))
        refine ci (fun hc => ?_) (fun hc => ?_)
        · rw [cl_lt] at hc
          refine ct (by omega) (ct (by omega) ?_)
          rw [w64_id (by omega) (by omega)]
          rw [if_pos hc] at k
          exact ih (-y :: t) _ _ _ _ (by omega) (by rw [up_c (by decide), hi]; omega) (by omega) (by rw [up_c (by decide)]; exact hcd) (stk_p rfl hs2) (sml_c.mpr ⟨by omega, hb2⟩) a3 (fun v hv => by rw [up_c (by decide)]; exact hq v hv) (fun σ' h' => k σ' (sm_t (sm_u (sm_r _ _) (by simp)) h'))
        · rw [cl_lt] at hc
          refine ct (by omega) (ct (by omega) ?_)
          rw [if_neg hc] at k
          exact ih (y :: t) _ _ _ _ (by omega) (by rw [up_c (by decide), hi]; omega) (by omega) (by rw [up_c (by decide)]; exact hcd) (stk_p rfl hs2) (sml_c.mpr ⟨by omega, hb2⟩) a3 (fun v hv => by rw [up_c (by decide)]; exact hq v hv) (fun σ' h' => k σ' (sm_t (sm_u (sm_r _ _) (by simp)) h'))
    · obtain ⟨y, z, t, rfl⟩ : ∃ y z t, st = y :: z :: t := by
        match st, a3 with
        | [], h => simp at h
        | [_], h => simp at h
        | y :: x :: t, _ => exact ⟨y, x, t, rfl⟩
      obtain ⟨hb1, hb2⟩ := sml_c.mp hb
      obtain ⟨hb2, hb3⟩ := sml_c.mp hb2
      obtain ⟨hs1, hs2, hs3⟩ := hs
      have hll : ((y :: z :: t).length : Int) = t.length + 2 := by simp only [List.length_cons]; omega
      have hs1 : σ 77 ((t.length : Int) + 1) = y := by rw [← hs1]; simp
      have hl3 : t.length + 2 ≤ 30 := by simpa using hn3
      have es : evA nm (p :: rr) (y :: z :: t) = evA nm rr (j2 p.1 z y :: t) := by simp only [evA, st1]; rw [if_neg (by omega), if_neg (by omega), if_neg (by omega), if_neg (by omega)]
      rw [es] at k
      rw [show w32 (((y :: z :: t).length : Int) + (-1)) = t.length + 1 from by rw [w32_id (by omega) (by omega)]; omega, show w32 ((t.length : Int) + 1 - 1) = t.length from by rw [w32_id (by omega) (by omega)]; omega, hs1, hs2]
      refine ct (by omega) (cf (by omega) (cf (by omega) (ct (by omega) (ct (by omega) ?_))))
      refine c_two a1 a2 hb2 hb1 ?_
      refine g_Mo_worked_232 ?_
      refine ct (by omega) ?_
      rw [ei, show ((t.length : Int) + 1) = ((j2 p.1 z y :: t).length : Int) from by simp]
      exact ih _ _ _ _ _ (by omega) (by rw [up_c (by decide), hi]; omega) (by omega) (by rw [up_c (by decide)]; exact hcd) (stk_p rfl hs3) (sml_c.mpr ⟨j2_b hb2, hb3⟩) (by simpa using a4) (fun v hv => by rw [up_c (by decide)]; exact hq v hv) (fun σ' h' => k σ' (sm_t (sm_u (sm_r _ _) (by simp)) h'))
end
