noncomputable section
/-! the scale: what is laid and answered -/
theorem cnt_t (x n : Nat) : cnt x (n + 1) = cnt x n + (x.testBit n).toNat := by
  show cnt x n + x / 2 ^ n % 2 = _
  rw [Nat.testBit_eq_decide_div_mod_eq]
  by_cases q : x / 2 ^ n % 2 = 1
  · rw [decide_eq_true q]; show _ = cnt x n + 1; omega
  · rw [decide_eq_false q]; show _ = cnt x n + 0; omega
theorem cnt_o {x d : Nat} (h : x.testBit d = false) : ∀ n, cnt (x ||| 2 ^ d) n = cnt x n + (if d < n then 1 else 0)
  | 0 => rfl
  | n + 1 => by
    rw [cnt_t, cnt_t, cnt_o h n, Nat.testBit_or, Nat.testBit_two_pow]
    by_cases e : d = n
    · subst e
      rw [h, if_neg (by omega), if_pos (by omega), decide_eq_true rfl]; rfl
    · rw [decide_eq_false e, Bool.or_false]
      by_cases q : d < n
      · rw [if_pos q, if_pos (by omega)]; omega
      · rw [if_neg q, if_neg (by omega)]; omega
theorem bc_o {x d : Int} (x0 : 0 ≤ x) (x1 : x < 16777216) (d0 : 0 ≤ d) (d1 : d < 24) (h : tb x d = false) : BC (bO x (sL 1 d)) = BC x + 1 := by
  have hl := sL_lt (n := 24) d0 d1 (by omega)
  have hb := bO_b (n := 24) (x := x) (y := sL 1 d) (by omega) x0 x1 (by omega) hl.2
  rw [bc_n hb.1, bc_n x0, bO_n x0 (by omega) (by omega) (by omega), Int.toNat_natCast, sL_n d0 (by omega), Int.toNat_natCast, cnt_o h, if_pos (by omega)]
  omega
theorem bc_0 : BC 0 = 0 := by rw [bc_n (by omega)]; decide
def stl (t s k : Int) : Int := if k < iab (w32 (s - t)) then t else s
theorem stl_2 (t s : Int) {k : Int} (k0 : 0 ≤ k) {A B : Prop} (ha : k < iab (w32 (s - t)) → A) (hb : ¬ k < iab (w32 (s - t)) → B) : (k < w32 (s - t) → A) ∧ (¬ k < w32 (s - t) → k < w32 (-(w32 (s - t))) → A) ∧ (¬ k < w32 (s - t) → ¬ k < w32 (-(w32 (s - t))) → B) := by
  have hr := w32_r (s - t)
  generalize w32 (s - t) = x at *
  refine ⟨fun h => ha ?_, fun h1 h2 => ha ?_, fun h1 h2 => hb ?_⟩
  · unfold iab; rw [if_neg (by omega)]; exact h
  · unfold iab
    by_cases q : x < 0
    · rw [if_pos q]; exact h2
    · unfold r32 at hr; rw [w32_id (by omega) (by omega)] at h2; omega
  · unfold iab
    by_cases q : x < 0
    · rw [if_pos q]; exact h2
    · rw [if_neg q]; exact h1
def stlM (σ : Sg) (c1 : List (Int × Int)) (k : Int) (m : Int → Int) : Int → Int := fun i => if i = 2 then stl (m 1) (m 2) (STK σ c1 (m 0) (m 2) (BC (m 4)) k) else m i
def tkM (l : Int → Int) (h : Int) (m : Int → Int) : Int → Int := fun i => if i = 0 then h else if i = 1 then LTo l h 6 else if 2 ≤ i ∧ i ≤ 5 then 0 else m i
def ptM (σ : Sg) (c0 : List (Int × Int)) (d : Int) (m : Int → Int) : Int → Int := fun i => if i = 1 then w32 (m 1 + WG σ c0 d) else if i = 4 then bO (m 4) (sL 1 d) else m i
def anM (j : Int) (m : Int → Int) : Int → Int := fun i => if i = 5 then bO (m 5) (sL 1 j) else m i
def liM (σ : Sg) (c2 : List (Int × Int)) (j : Int) (m : Int → Int) : Int → Int := fun i => if i = 1 then w32 (m 1 + LI σ c2 j (m 0) (m 3)) else if i = 3 then w32 (m 3 + 1) else m i
/-- a weighing as it may stand -/
def SK (hs : Int) (m : Int → Int) : Prop := (0 ≤ m 0 ∧ m 0 < hs) ∧ (0 ≤ m 4 ∧ m 4 < 16777216) ∧ (0 ≤ m 5 ∧ m 5 < 256) ∧ (0 ≤ m 3 ∧ m 3 ≤ BC (m 5)) ∧ (-600 - 1000 * (BC (m 4) + BC (m 5)) ≤ m 1 ∧ m 1 ≤ 600 + 1000 * (BC (m 4) + BC (m 5))) ∧ (-600 - 1000 * (BC (m 4) + BC (m 5)) ≤ m 2 ∧ m 2 ≤ 600 + 1000 * (BC (m 4) + BC (m 5)))
theorem sk_b {hs : Int} {m : Int → Int} (h : SK hs m) : (-50000 ≤ m 1 ∧ m 1 ≤ 50000) ∧ (-50000 ≤ m 2 ∧ m 2 ≤ 50000) ∧ (0 ≤ m 3 ∧ m 3 ≤ 24) := by
  obtain ⟨h1, h2, h3, h4, h5, h6⟩ := h
  have a := bc_b h2.1
  have b := bc_b h3.1
  omega
theorem stl_or (t s k : Int) : stl t s k = t ∨ stl t s k = s := by unfold stl; split <;> simp
theorem sk_stl {hs : Int} {m : Int → Int} (σ : Sg) (c1 : List (Int × Int)) (k : Int) (h : SK hs m) : SK hs (stlM σ c1 k m) := by
  obtain ⟨h1, h2, h3, h4, h5, h6⟩ := h
  have e : ∀ i, i ≠ 2 → stlM σ c1 k m i = m i := fun i hi => by unfold stlM; rw [if_neg hi]
  have e2 : stlM σ c1 k m 2 = m 1 ∨ stlM σ c1 k m 2 = m 2 := by unfold stlM; rw [if_pos rfl]; exact stl_or _ _ _
  unfold SK
  rw [e 0 (by omega), e 1 (by omega), e 3 (by omega), e 4 (by omega), e 5 (by omega)]
  refine ⟨h1, h2, h3, h4, h5, ?_⟩
  rcases e2 with q | q <;> rw [q]
  · exact h5
  · exact h6
theorem sk_tk {hs h : Int} {l m : Int → Int} (h0 : 0 ≤ h) (h1 : h < hs) (h6 : h < 6) (hl : ∀ i, 0 ≤ i → i < 36 → 0 ≤ l i ∧ l i ≤ 99) : SK hs (tkM l h m) := by
  have := lto_b (l := l) h0 h6 hl
  have e0 : tkM l h m 0 = h := rfl
  have e1 : tkM l h m 1 = LTo l h 6 := rfl
  have e2 : tkM l h m 2 = 0 := rfl
  have e3 : tkM l h m 3 = 0 := rfl
  have e4 : tkM l h m 4 = 0 := rfl
  have e5 : tkM l h m 5 = 0 := rfl
  unfold SK
  rw [e0, e1, e2, e3, e4, e5, bc_0]
  omega
theorem sk_pt {σ η : Sg} {T : TT} {tx : Int → TA} (ht : Td σ η T tx) (c0 : List (Int × Int)) {hs d : Int} {m : Int → Int} (h : SK hs m) (d0 : 0 ≤ d) (d1 : d < σ 3 2) (hd : tb (m 4) d = false) : SK hs (ptM σ c0 d m) := by
  have hbb := sk_b h
  obtain ⟨h1, h2, h3, h4, h5, h6⟩ := h
  have hn := ht.1.1.2.1
  have hw := wg_b ht c0 d0 d1
  have e0 : ptM σ c0 d m 0 = m 0 := rfl
  have e1 : ptM σ c0 d m 1 = w32 (m 1 + WG σ c0 d) := rfl
  have e2 : ptM σ c0 d m 2 = m 2 := rfl
  have e3 : ptM σ c0 d m 3 = m 3 := rfl
  have e4 : ptM σ c0 d m 4 = bO (m 4) (sL 1 d) := rfl
  have e5 : ptM σ c0 d m 5 = m 5 := rfl
  have hl := sL_lt (n := 24) d0 (by omega) (by omega)
  have hb := bO_b (n := 24) (x := m 4) (y := sL 1 d) (by omega) h2.1 h2.2 (by omega) hl.2
  unfold SK
  rw [e0, e1, e2, e3, e4, e5, bc_o h2.1 h2.2 d0 (by omega) hd, w32_id (by omega) (by omega)]
  exact ⟨h1, hb, h3, h4, by omega, by omega⟩
theorem sk_an {hs j : Int} {m : Int → Int} (h : SK hs m) (j0 : 0 ≤ j) (j1 : j < 8) (hj : tb (m 5) j = false) : SK hs (anM j m) := by
  obtain ⟨h1, h2, h3, h4, h5, h6⟩ := h
  have e0 : anM j m 0 = m 0 := rfl
  have e1 : anM j m 1 = m 1 := rfl
  have e2 : anM j m 2 = m 2 := rfl
  have e3 : anM j m 3 = m 3 := rfl
  have e4 : anM j m 4 = m 4 := rfl
  have e5 : anM j m 5 = bO (m 5) (sL 1 j) := rfl
  have hl := sL_lt (n := 8) j0 (by omega) (by omega)
  have hb := bO_b (n := 8) (x := m 5) (y := sL 1 j) (by omega) h3.1 h3.2 (by omega) hl.2
  unfold SK
  rw [e0, e1, e2, e3, e4, e5, bc_o h3.1 (by omega) j0 (by omega) hj]
  exact ⟨h1, h2, hb, by omega, by omega, by omega⟩
theorem sk_li {σ : Sg} (c2 : List (Int × Int)) {hs j : Int} {m : Int → Int} (h : SK hs m) (j0 : 0 ≤ j) (j1 : j < 8) (hj : tb (m 5) j = false) : SK hs (liM σ c2 j (anM j m)) := by
  have hbb := sk_b h
  obtain ⟨h1, h2, h3, h4, h5, h6⟩ := h
  have hw := li_b σ c2 j (m 0) (m 3)
  have e0 : liM σ c2 j (anM j m) 0 = m 0 := rfl
  have e1 : liM σ c2 j (anM j m) 1 = w32 (m 1 + LI σ c2 j (m 0) (m 3)) := rfl
  have e2 : liM σ c2 j (anM j m) 2 = m 2 := rfl
  have e3 : liM σ c2 j (anM j m) 3 = w32 (m 3 + 1) := rfl
  have e4 : liM σ c2 j (anM j m) 4 = m 4 := rfl
  have e5 : liM σ c2 j (anM j m) 5 = bO (m 5) (sL 1 j) := rfl
  have hl := sL_lt (n := 8) j0 (by omega) (by omega)
  have hb := bO_b (n := 8) (x := m 5) (y := sL 1 j) (by omega) h3.1 h3.2 (by omega) hl.2
  unfold SK
  rw [e0, e1, e2, e3, e4, e5, bc_o h3.1 (by omega) j0 (by omega) hj, w32_id (by omega) (by omega), w32_id (by omega) (by omega)]
  exact ⟨h1, h2, hb, by omega, by omega, by omega⟩
/-- the class -/
theorem up_m (σ : Sg) (i x : Int) : up σ 16 i x 16 = fun k => if k = i then x else σ 16 k := by funext k; exact up_e _ _ _ _ _
theorem c_settle {d : Nat} {σ η : Sg} {T : TT} {tx : Int → TA} {P : AM → Prop} (ht : Td σ η T tx) (h0 : 0 ≤ σ 16 0 ∧ σ 16 0 < σ 3 0) (h2 : -1000000 ≤ σ 16 2 ∧ σ 16 2 ≤ 1000000) (h4 : 0 ≤ σ 16 4 ∧ σ 16 4 < 16777216) (k : ∀ σ', Sm [16, 40, 41] σ σ' → σ' 16 = stlM σ ((rA σ tx).1 1) (σ 3 11) (σ 16) → P (mk σ' T)) : wpV (d + 4) 94 0 [aR 42, aU] [] (mk σ T) P := by
  have hb := bc_b h4.1
  refine g_Scale_settle_0 (c_bitCount h4.1 h4.2 ?_)
  refine g_Scale_settle_28 ?_
  refine c_sticks ht h0.1 h0.2 h2 (by omega) ?_
  intro σ' hs
  have e16 := hs 16 (by decide)
  refine g_Scale_settle_38 ?_
  rw [e16]
  refine ci (fun hc => ?_) (fun hc => ?_)
  · refine k _ (sm_u (sm_m hs (by simp)) (by simp)) ?_
    rw [up_m]
    funext i
    unfold stlM stl
    by_cases hi : i = 2
    · rw [if_pos hi, if_pos hi, if_pos hc]
    · rw [if_neg hi, if_neg hi, e16]
  · refine k _ (sm_m hs (by simp)) ?_
    rw [e16]
    funext i
    unfold stlM stl
    by_cases hi : i = 2
    · rw [if_pos hi, if_neg hc, hi]
    · rw [if_neg hi]
theorem stlM_c {σ s : Sg} (h : s 4 = σ 4) : stlM s = stlM σ := by funext a b c i; unfold stlM; rw [stk_e h]
theorem c_take {d : Nat} {σ η : Sg} {T : TT} {tx : Int → TA} {P : AM → Prop} {h : Int} (ht : Td σ η T tx) (h0 : 0 ≤ h) (h1 : h < σ 3 0) (k : ∀ σ', Sm [16, 40, 41] σ σ' → σ' 16 = stlM σ ((rA σ tx).1 1) (σ 3 11) (tkM (σ 17) h (σ 16)) → P (mk σ' T)) : wpV (d + 5) 93 0 [aR 42, aI h] [] (mk σ T) P := by
  have hn := ht.1.1.1
  refine g_Scale_take_0 (c_lentTo h0 (by omega) ?_)
  refine g_Scale_take_44 ?_
  have e17 : up (up (up (up σ 16 0 h) 16 4 0) 16 5 0) 16 3 0 17 = σ 17 := by rw [up_c (by decide), up_c (by decide), up_c (by decide), up_c (by decide)]
  rw [e17]
  have hs1 : Sm [16, 40, 41] σ (up (up (up (up (up (up σ 16 0 h) 16 4 0) 16 5 0) 16 3 0) 16 1 (LTo (σ 17) h 6)) 16 2 0) := sm_u (sm_u (sm_u (sm_u (sm_u (sm_u (sm_r _ _) (by simp)) (by simp)) (by simp)) (by simp)) (by simp)) (by simp)
  have hm : up (up (up (up (up (up σ 16 0 h) 16 4 0) 16 5 0) 16 3 0) 16 1 (LTo (σ 17) h 6)) 16 2 0 16 = tkM (σ 17) h (σ 16) := by
    funext i
    simp only [up_e]
    unfold tkM
    (repeat' split) <;> first | rfl | omega
  generalize up (up (up (up (up (up σ 16 0 h) 16 4 0) 16 5 0) 16 3 0) 16 1 (LTo (σ 17) h 6)) 16 2 0 = s at *
  have e3 := hs1 3 (by decide)
  refine c_settle (td_m ht hs1 (by decide)) ?_ ?_ ?_ ?_
  · rw [hm, e3]; exact ⟨h0, h1⟩
  · rw [hm]; show -1000000 ≤ 0 ∧ 0 ≤ 1000000; omega
  · rw [hm]; show 0 ≤ 0 ∧ 0 < 16777216; omega
  · intro σ' hs hs'
    refine g_Scale_take_59 (k σ' (sm_t hs1 hs) ?_)
    rw [hs', hm, stlM_c (hs1 4 (by decide)), ra_c tx e3, e3]
theorem c_put {d : Nat} {σ η : Sg} {T : TT} {tx : Int → TA} {P : AM → Prop} {dd : Int} (ht : Td σ η T tx) (hk : SK (σ 3 0) (σ 16)) (d0 : 0 ≤ dd) (d1 : dd < σ 3 2) (hb : tb (σ 16 4) dd = false) (k : ∀ σ', Sm [16, 40, 41] σ σ' → σ' 16 = stlM σ ((rA σ tx).1 1) (σ 3 11) (ptM σ ((rA σ tx).1 0) dd (σ 16)) → P (mk σ' T)) : wpV (d + 5) 96 0 [aR 42, aI dd] [] (mk σ T) P := by
  have hr := ht.1.1.2.2.2.2.2.1
  have h13 := ht.1.1.2.2.2.2.1
  have hk' := sk_pt ht ((rA σ tx).1 0) hk d0 d1 hb
  have hs1 : Sm [16, 40, 41] σ (up σ 16 4 (bO (σ 16 4) (sL 1 dd))) := sm_u (sm_r _ _) (by simp)
  have ht1 := td_m ht hs1 (by decide)
  have e3 := hs1 3 (by decide)
  have fin : ∀ r, Lx σ T r (rA σ tx) → wpI (d + 4) 84 0 [aR 39, aR r, aI dd, aU] [] (mk (up σ 16 4 (bO (σ 16 4) (sL 1 dd))) T) (fun r M' => wpV (d + 4 + 1) 96 38 [aR 42, aI dd] [aI r, aI (σ 16 1), aR 16] M' P) := by
    intro r hx
    refine c_weight ht1 (lx_c hx (fun a ha => hs1 a (by simp; omega))) d0 (by rw [e3]; exact d1) ?_
    intro s2 hs2
    refine g_Scale_put_38 ?_
    rw [wg_m hs1 (by decide)]
    have hs3 : Sm [16, 40, 41] σ (up s2 16 1 (w32 (σ 16 1 + WG σ ((rA σ tx).1 0) dd))) := sm_u (sm_t hs1 (sm_m hs2 (by simp))) (by simp)
    have hm : up s2 16 1 (w32 (σ 16 1 + WG σ ((rA σ tx).1 0) dd)) 16 = ptM σ ((rA σ tx).1 0) dd (σ 16) := by
      rw [up_m, hs2 16 (by decide), up_m]; rfl
    generalize up s2 16 1 (w32 (σ 16 1 + WG σ ((rA σ tx).1 0) dd)) = s3 at *
    have e33 := hs3 3 (by decide)
    have hbb := sk_b hk'
    refine c_settle (td_m ht hs3 (by decide)) ?_ ?_ ?_ ?_
    · rw [hm, e33]; exact hk'.1
    · rw [hm]; omega
    · rw [hm]; exact hk'.2.1
    · intro σ' hs hs'
      refine g_Scale_put_46 (k σ' (sm_t hs3 hs) ?_)
      rw [hs', hm, stlM_c (hs3 4 (by decide)), ra_c tx e33, e33]
  refine g_Scale_put_0 ?_
  by_cases hc : σ 3 15 < 0
  · exact ct hc (fin _ (rl_n hc))
  · exact cf hc (ct (by omega) (ct (by omega) (fin _ (rl_x ht hc))))
theorem li_c {σ s : Sg} (h3 : s 3 = σ 3) (h4 : s 4 = σ 4) (h5 : s 5 = σ 5) (h6 : s 6 = σ 6) (h8 : s 8 = σ 8) (h11 : s 11 = σ 11) : LI s = LI σ := by
  funext cd j h l; unfold LI; rw [show lnm s j h l = lnm σ j h l from by funext v; unfold lnm; rw [h3, h4, h11, hd_c h5 h6 h8]]
theorem c_reply {d : Nat} {σ η : Sg} {T : TT} {tx : Int → TA} {P : Int → AM → Prop} {j y ks : Int} (ht : Td σ η T tx) (hk : SK (σ 3 0) (σ 16)) (j0 : 0 ≤ j) (j1 : j < σ 3 9) (hb : tb (σ 16 5) j = false) (hy : y = 0 ∨ y = 1)
    (k0 : y = (if bA (σ 11 j) ks = 0 then 0 else 1) → ∀ σ', Sm [16, 40, 41] σ σ' → σ' 16 = anM j (σ 16) → P 0 (mk σ' T))
    (k1 : y ≠ (if bA (σ 11 j) ks = 0 then 0 else 1) → ∀ σ', Sm [16, 40, 41] σ σ' → σ' 16 = stlM σ ((rA σ tx).1 1) (σ 3 11) (liM σ ((rA σ tx).1 2) j (anM j (σ 16))) → P 1 (mk σ' T)) : wpI (d + 5) 98 0 [aR 42, aI j, aI y, aI ks] [] (mk σ T) P := by
  have hj := ht.1.1.2.2.1
  have hs1 : Sm [16, 40, 41] σ (up σ 16 5 (bO (σ 16 5) (sL 1 j))) := sm_u (sm_r _ _) (by simp)
  have ht1 := td_m ht hs1 (by decide)
  have e3 := hs1 3 (by decide)
  have hm1 : up σ 16 5 (bO (σ 16 5) (sL 1 j)) 16 = anM j (σ 16) := up_m _ _ _
  have hbk := sk_b hk
  have hk' := sk_li (σ := σ) ((rA σ tx).1 2) hk j0 (by omega) hb
  have fin : y ≠ (if bA (σ 11 j) ks = 0 then 0 else 1) → wpI (d + 4) 86 0 [aR 39, aI j, aI (σ 16 0), aI (σ 16 3), aU, aU] [] (mk (up σ 16 5 (bO (σ 16 5) (sL 1 j))) T) (fun r M' => wpI (d + 4 + 1) 98 57 [aR 42, aI j, aI y, aI ks] [aI r, aI (σ 16 1), aR 16] M' P) := by
    intro hne
    refine c_lieTo ht1 j0 (by rw [e3]; exact j1) hk.1.1 (by rw [e3]; exact hk.1.2) (by omega) ?_
    intro s2 hs2
    refine g_Scale_reply_57 ?_
    have e16 : s2 16 = anM j (σ 16) := by rw [hs2 16 (by decide)]; exact hm1
    rw [e16, li_c e3 (hs1 4 (by decide)) (hs1 5 (by decide)) (hs1 6 (by decide)) (hs1 8 (by decide)) (hs1 11 (by decide)), ra_c tx e3]
    have hs3 : Sm [16, 40, 41] σ (up (up s2 16 1 (w32 (σ 16 1 + LI σ ((rA σ tx).1 2) j (σ 16 0) (σ 16 3)))) 16 3 (w32 (anM j (σ 16) 3 + 1))) := sm_u (sm_u (sm_t hs1 (sm_m hs2 (by simp))) (by simp)) (by simp)
    have hm : up (up s2 16 1 (w32 (σ 16 1 + LI σ ((rA σ tx).1 2) j (σ 16 0) (σ 16 3)))) 16 3 (w32 (anM j (σ 16) 3 + 1)) 16 = liM σ ((rA σ tx).1 2) j (anM j (σ 16)) := by
      funext i
      simp only [up_e, e16]
      unfold liM
      (repeat' split) <;> first | rfl | omega
    generalize up (up s2 16 1 (w32 (σ 16 1 + LI σ ((rA σ tx).1 2) j (σ 16 0) (σ 16 3)))) 16 3 (w32 (anM j (σ 16) 3 + 1)) = s3 at *
    have e33 := hs3 3 (by decide)
    have hbb := sk_b hk'
    refine c_settle (td_m ht hs3 (by decide)) ?_ ?_ ?_ ?_
    · rw [hm, e33]; exact hk'.1
    · rw [hm]; omega
    · rw [hm]; exact hk'.2.1
    · intro σ' hs hs'
      refine g_Scale_reply_78 (k1 hne σ' (sm_t hs3 hs) ?_)
      rw [hs', hm, stlM_c (hs3 4 (by decide)), ra_c tx e33, e33]
  refine g_Scale_reply_0 (cf (by omega) (ct j1 (ct (by omega) ?_)))
  refine ci (fun hc => ?_) (fun hc => ?_)
  · rw [if_pos hc] at k0 fin
    exact ci (fun q => k0 q _ hs1 hm1) (fun q => fin q)
  · rw [if_neg hc] at k0 fin
    exact ci (fun q => k0 q _ hs1 hm1) (fun q => fin q)
end
