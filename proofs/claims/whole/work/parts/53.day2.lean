noncomputable section
def nx (x : Int) : Int := (x * 223 + 109) % 30161
def dwM (m : Int → Int) : Int → Int := fun i => if i = 7 then nx (m 7) else m i
def yDr (g : Sg) (c0 : List (Int × Int)) (h j x : Int) : Int := if x % 10 < 5 then 0 else SO g c0 j h
def rpM (g : Sg) (c0 c1 c2 : List (Int × Int)) (st h j : Int) (m : Int → Int) : Int → Int := if yDr g c0 h j (m 7) = SO g c0 j h then anM j m else stlM g c1 st (liM g c2 j (anM j m))
def jdM (g : Sg) (c0 c1 c2 : List (Int × Int)) (st h : Int) (m : Int → Int) (k : Int) : Int → Int := it (fun j m => dwM (rpM g c0 c1 c2 st h j m)) m k
theorem jd_s {g : Sg} {c0 c1 c2 : List (Int × Int)} {st h : Int} {m : Int → Int} {k : Int} (k0 : 0 ≤ k) : jdM g c0 c1 c2 st h m (k + 1) = dwM (rpM g c0 c1 c2 st h k (jdM g c0 c1 c2 st h m k)) := it_s _ _ k0
theorem nx_b (x : Int) : 0 ≤ nx x ∧ nx x ≤ 30160 := by unfold nx; omega
theorem sk_dw {hs : Int} {m : Int → Int} (h : SK hs m) : SK hs (dwM m) := sk_c (fun i i0 i1 => by unfold dwM; rw [if_neg (by omega)]) h
theorem so_01 (g : Sg) (c0 : List (Int × Int)) (j h : Int) : SO g c0 j h = 0 ∨ SO g c0 j h = 1 := by unfold SO; split <;> simp
theorem jd_i {g : Sg} {c0 c1 c2 : List (Int × Int)} {st h : Int} {hs n : Int} {m : Int → Int} (hn : n ≤ 8) (h0 : SK hs m) (h5 : m 5 = 0) (h7 : 0 ≤ m 7 ∧ m 7 ≤ 30160) : ∀ k, 0 ≤ k → k ≤ n → SK hs (jdM g c0 c1 c2 st h m k) ∧ (∀ j, k ≤ j → j < n → tb (jdM g c0 c1 c2 st h m k 5) j = false) ∧ (0 ≤ jdM g c0 c1 c2 st h m k 7 ∧ jdM g c0 c1 c2 st h m k 7 ≤ 30160) ∧ (∀ i, i = 0 ∨ i = 4 ∨ i = 6 ∨ 8 ≤ i → jdM g c0 c1 c2 st h m k i = m i) := by
  refine it_inv (n := n) (Q := fun k s => SK hs s ∧ (∀ j, k ≤ j → j < n → tb (s 5) j = false) ∧ (0 ≤ s 7 ∧ s 7 ≤ 30160) ∧ (∀ i, i = 0 ∨ i = 4 ∨ i = 6 ∨ 8 ≤ i → s i = m i)) ⟨h0, fun j _ _ => by rw [h5]; exact tb_o _, h7, fun _ _ => rfl⟩ ?_
  rintro k s k0 k1 ⟨q1, q2, q3, q4⟩
  have hb := q2 k (Int.le_refl _) k1
  have hl := sL_lt (k := k) (n := 8) k0 (by omega) (by omega)
  have e5 : dwM (rpM g c0 c1 c2 st h k s) 5 = bO (s 5) (sL 1 k) := by
    unfold dwM rpM; rw [if_neg (by decide)]
    split <;> rfl
  refine ⟨?_, ?_, ?_, ?_⟩
  · refine sk_dw ?_
    unfold rpM
    split
    · exact sk_an q1 k0 (by omega) hb
    · exact sk_stl _ _ _ (sk_li c2 q1 k0 (by omega) hb)
  · intro j j0 j1
    rw [e5, tb_O q1.2.2.1.1 (by have := q1.2.2.1.2; omega) (by omega) (by omega), q2 j (by omega) j1, tb_L k0 (by omega) (by omega), Bool.false_or]
    exact decide_eq_false (by omega)
  · unfold dwM; rw [if_pos rfl]; exact nx_b _
  · intro i hi
    unfold dwM rpM; rw [if_neg (by omega)]
    split
    · unfold anM; rw [if_neg (by omega)]; exact q4 i hi
    · unfold stlM liM anM; rw [if_neg (by omega), if_neg (by omega), if_neg (by omega), if_neg (by omega)]; exact q4 i hi
/-- one of a day's hearts, up to its verdict -/
def wdH (g : Sg) (m : Int → Int) : Int := m 7 % g 3 0
def wd1 (g : Sg) (tx : Int → TA) (l m : Int → Int) : Int → Int := dwM (stlM g ((rA g tx).1 1) (g 3 11) (tkM l (wdH g m) m))
def wd2 (g : Sg) (tx : Int → TA) (l m : Int → Int) : Int → Int := dwM (sqM g ((rA g tx).1 0) ((rA g tx).1 1) (g 3 11) (rot (RW g (wdH g m)) (wd1 g tx l m 7 % (RW g (wdH g m)).length)) (wd1 g tx l m) (RW g (wdH g m)).length)
def wd3 (g : Sg) (tx : Int → TA) (l m : Int → Int) (k : Int) : Int → Int := jdM g ((rA g tx).1 0) ((rA g tx).1 1) ((rA g tx).1 2) (g 3 11) (wdH g m) (wd2 g tx l m) k
theorem wd_i {g η : Sg} {T : TT} {tx : Int → TA} {l m : Int → Int} (ht : Td g η T tx) (hl : ∀ i, 0 ≤ i → i < 36 → 0 ≤ l i ∧ l i ≤ 99) (hn : 0 < g 3 0) (h7 : 0 ≤ m 7) : (0 ≤ wdH g m ∧ wdH g m < g 3 0) ∧ SK (g 3 0) (stlM g ((rA g tx).1 1) (g 3 11) (tkM l (wdH g m) m)) ∧ SK (g 3 0) (wd1 g tx l m) ∧ wd1 g tx l m 4 = 0 ∧ wd1 g tx l m 5 = 0 ∧ wd1 g tx l m 7 = nx (m 7) ∧ SK (g 3 0) (wd2 g tx l m) ∧ wd2 g tx l m 5 = 0 ∧ wd2 g tx l m 7 = nx (nx (m 7)) ∧ wd2 g tx l m 0 = wdH g m ∧ (∀ i, i = 6 ∨ 8 ≤ i → wd2 g tx l m i = m i) := by
  have h6 := ht.1.1.1
  have hh : 0 ≤ wdH g m ∧ wdH g m < g 3 0 := ⟨Int.emod_nonneg _ (by omega), Int.emod_lt_of_pos _ hn⟩
  have s0 : SK (g 3 0) (stlM g ((rA g tx).1 1) (g 3 11) (tkM l (wdH g m) m)) := sk_stl _ _ _ (sk_tk hh.1 hh.2 (by omega) hl)
  have s1 : SK (g 3 0) (wd1 g tx l m) := sk_dw s0
  have e4 : wd1 g tx l m 4 = 0 := rfl
  have e5 : wd1 g tx l m 5 = 0 := rfl
  have e0 : wd1 g tx l m 0 = wdH g m := rfl
  have e7 : wd1 g tx l m 7 = nx (m 7) := rfl
  have e6 : ∀ i, i = 6 ∨ 8 ≤ i → wd1 g tx l m i = m i := fun i hi => by unfold wd1 dwM; rw [if_neg (by omega), stlM_6 (by omega), tkM_6 (by omega)]
  have key : SK (g 3 0) (sqM g ((rA g tx).1 0) ((rA g tx).1 1) (g 3 11) (rot (RW g (wdH g m)) (wd1 g tx l m 7 % (RW g (wdH g m)).length)) (wd1 g tx l m) (RW g (wdH g m)).length) ∧ (∀ i, i = 0 ∨ i = 3 ∨ 5 ≤ i → sqM g ((rA g tx).1 0) ((rA g tx).1 1) (g 3 11) (rot (RW g (wdH g m)) (wd1 g tx l m 7 % (RW g (wdH g m)).length)) (wd1 g tx l m) (RW g (wdH g m)).length i = wd1 g tx l m i) := by
    by_cases q : (RW g (wdH g m)).length = 0
    · rw [q]; exact ⟨s1, fun _ _ => rfl⟩
    · have hb := nx_b (m 7)
      have f0 : 0 ≤ wd1 g tx l m 7 % ((RW g (wdH g m)).length : Int) := Int.emod_nonneg _ (by omega)
      have f1 : wd1 g tx l m 7 % ((RW g (wdH g m)).length : Int) < (RW g (wdH g m)).length := Int.emod_lt_of_pos _ (by omega)
      obtain ⟨r1, r2⟩ := rot_f ht (h := wdH g m) f0 f1
      have := sq_i ht ((rA g tx).1 0) ((rA g tx).1 1) (g 3 11) r1 r2 s1 (fun k _ _ => by rw [e4]; exact tb_o _) (RW g (wdH g m)).length (by omega) (Int.le_refl _)
      exact ⟨this.1, this.2.2⟩
  refine ⟨hh, s0, s1, e4, e5, e7, sk_dw key.1, ?_, ?_, ?_, ?_⟩
  · show dwM _ 5 = 0
    unfold dwM; rw [if_neg (by decide), key.2 5 (by omega)]; exact e5
  · show dwM _ 7 = _
    unfold dwM; rw [if_pos rfl, key.2 7 (by omega), e7]
  · show dwM _ 0 = _
    unfold dwM; rw [if_neg (by decide), key.2 0 (by omega)]; exact e0
  · intro i hi
    show dwM _ i = _
    unfold dwM; rw [if_neg (by omega), key.2 i (by omega)]; exact e6 i hi
theorem w_nx {x : Int} (h : 0 ≤ x ∧ x ≤ 30160) : Int.tmod (w32 (w32 (x * 223) + 109)) 30161 = nx x := by
  rw [w32_id (x := x * 223) (by omega) (by omega), w32_id (x := x * 223 + 109) (by omega) (by omega), Int.tmod_eq_emod_of_nonneg (by omega)]; rfl
theorem dw_u (s : Sg) : up s 16 7 (nx (s 16 7)) 16 = dwM (s 16) := up_m _ _ _
theorem c_weighDrawn {d : Nat} {σ η : Sg} {T : TT} {tx : Int → TA} {P : Int → AM → Prop} (ht : Td σ η T tx) (hl : ∀ i, 0 ≤ i → i < 36 → 0 ≤ σ 17 i ∧ σ 17 i ≤ 99) (hn : 0 < σ 3 0) (h7 : 0 ≤ σ 16 7 ∧ σ 16 7 ≤ 30160) (h8 : 0 ≤ σ 16 8 ∧ σ 16 8 ≤ 30)
    (k : ∀ s m v, m = wd3 σ tx (σ 17) (σ 16) (σ 3 9) → v = VD σ ((rA σ tx).1 3) (m 0) (m 2) → Sm [16, 18, 40, 41, 43] σ s → s 16 = clM σ v m → (∀ i w, 0 ≤ i → i < min (m 8 + 1) 30 → 0 ≤ w → w < 5 → s 18 (i * 5 + w) = if i = min (m 8 + 1) 30 - 1 then enM m v w else σ 18 ((i + (m 8 + 1 - min (m 8 + 1) 30)) * 5 + w)) → P v (mk s T)) : wpI (d + 9) 103 0 [aR 42, aU, aU, aU, aU] [] (mk σ T) P := by
  obtain ⟨w1, w2, w3, w4, w5, w6, w7, w8, w9, w10, w11⟩ := wd_i (tx := tx) (l := σ 17) (m := σ 16) ht hl hn h7.1
  have h9 := ht.1.1.2.2.1
  refine g_Scale_weighDrawn_0 (ct hn ?_)
  rw [Int.tmod_eq_emod_of_nonneg h7.1]
  refine cf (by omega) ?_
  show wpV (d + 8) 93 0 [aR 42, aI (wdH σ (σ 16))] [] (mk σ T) (fun M' => wpI (d + 8 + 1) 103 35 [aR 42, aI (wdH σ (σ 16)), aU, aU, aU] [] M' P)
  refine c_take ht w1.1 w1.2 (fun s1 hs1 hm1 => g_Scale_weighDrawn_35 ?_)
  have x7 : s1 16 7 = σ 16 7 := by rw [hm1, stlM_6 (by omega), tkM_6 (by omega)]
  rw [show Int.tmod (w32 (w32 (s1 16 7 * 223) + 109)) 30161 = nx (s1 16 7) from w_nx (by rw [x7]; exact h7)]
  have hs2 : Sm [16, 40, 41, 43] σ (up s1 16 7 (nx (s1 16 7))) := sm_u (sm_m hs1 (by simp)) (by simp)
  have hm2 : up s1 16 7 (nx (s1 16 7)) 16 = wd1 σ tx (σ 17) (σ 16) := by rw [dw_u, hm1]; rfl
  generalize up s1 16 7 (nx (s1 16 7)) = s2 at *
  have e3 := hs2 3 (by decide)
  have hrw : RW s2 = RW σ := rw_c e3 (hs2 5 (by decide))
  refine c_putAround (td_m ht hs2 (by decide)) (by rw [e3, hm2]; exact w3) (by rw [hm2]; exact w4) (by rw [hm2, w6]; exact (nx_b _).1) (fun s3 hs3 hm3 => g_Scale_weighDrawn_44 ?_)
  have e4 := hs2 4 (by decide)
  have hpt : ptM s2 = ptM σ := by funext a b c i; unfold ptM; rw [wg_m hs2 (by decide)]
  have hsq : sqM s2 = sqM σ := by funext a b c f m k; unfold sqM; rw [stlM_c e4, hpt]
  rw [hsq, ra_c tx e3, e3, hrw, hm2] at hm3
  have y7 : s3 16 7 = nx (σ 16 7) := by
    rw [hm3]
    have : wd2 σ tx (σ 17) (σ 16) 7 = nx (nx (σ 16 7)) := w9
    by_cases q : (RW σ (wdH σ (σ 16))).length = 0
    · rw [q]; exact w6
    · have f0 : 0 ≤ wd1 σ tx (σ 17) (σ 16) 7 % ((RW σ (wdH σ (σ 16))).length : Int) := Int.emod_nonneg _ (by omega)
      have f1 : wd1 σ tx (σ 17) (σ 16) 7 % ((RW σ (wdH σ (σ 16))).length : Int) < (RW σ (wdH σ (σ 16))).length := Int.emod_lt_of_pos _ (by omega)
      obtain ⟨r1, r2⟩ := rot_f ht (h := wdH σ (σ 16)) f0 f1
      have := sq_i ht ((rA σ tx).1 0) ((rA σ tx).1 1) (σ 3 11) r1 r2 w3 (fun k _ _ => by rw [w4]; exact tb_o _) (RW σ (wdH σ (σ 16))).length (by omega) (Int.le_refl _)
      rw [this.2.2 7 (by omega)]; exact w6
  rw [show Int.tmod (w32 (w32 (s3 16 7 * 223) + 109)) 30161 = nx (s3 16 7) from w_nx (by rw [y7]; exact nx_b _)]
  have hs4 : Sm [16, 40, 41, 43] σ (up s3 16 7 (nx (s3 16 7))) := sm_u (sm_t hs2 hs3) (by simp)
  have hm4 : up s3 16 7 (nx (s3 16 7)) 16 = wd2 σ tx (σ 17) (σ 16) := by rw [dw_u, hm3]; rfl
  generalize up s3 16 7 (nx (s3 16 7)) = s4 at *
  have f3 := hs4 3 (by decide)
  refine c_weightyKinds (td_m ht hs4 (by decide)) (fun s5 hs5 => g_Scale_weighDrawn_56 ?_)
  have hs6 : Sm [16, 40, 41, 43] σ s5 := sm_t hs4 (sm_m hs5 (by simp))
  have hm6 : s5 16 = wd2 σ tx (σ 17) (σ 16) := by rw [hs5 16 (by decide)]; exact hm4
  rw [kd_c (hs4 5 (by decide)) (hs4 6 (by decide)) (wg_m hs4 (by decide)), ra_c tx f3, f3]
  have hji := jd_i (g := σ) (c0 := (rA σ tx).1 0) (c1 := (rA σ tx).1 1) (c2 := (rA σ tx).1 2) (st := σ 3 11) (h := wdH σ (σ 16)) (n := σ 3 9) h9.2.1 w7 w8 (by rw [w9]; exact nx_b _)
  suffices lp : ∀ l4 : AV, wpI (d + 9) 103 59 [aR 42, aI (wdH σ (σ 16)), aI (KD σ ((rA σ tx).1 0) (wdH σ (σ 16)) (σ 3 2)), aI 0, l4] [] (mk s5 T) P from lp aU
  refine for_up (n := σ 3 9) (Hd := fun j s => ∀ l4 : AV, wpI (d + 9) 103 59 [aR 42, aI (wdH σ (σ 16)), aI (KD σ ((rA σ tx).1 0) (wdH σ (σ 16)) (σ 3 2)), aI j, l4] [] (mk s T) P) (Inv := fun j s => Sm [16, 40, 41, 43] σ s ∧ s 16 = wd3 σ tx (σ 17) (σ 16) j) ?_ ?_ ⟨hs6, hm6⟩ h9.1
  · rintro j s j0 j1 ⟨q1, q2⟩ ih l4
    have g3 := q1 3 (by decide)
    obtain ⟨b1, b2, b3, b4⟩ := hji j j0 (by omega)
    have nxt : ∀ (y r : Int) (s' : Sg), y = yDr σ ((rA σ tx).1 0) (wdH σ (σ 16)) j (s 16 7) → Sm [16, 40, 41] s s' → s' 16 = rpM σ ((rA σ tx).1 0) ((rA σ tx).1 1) ((rA σ tx).1 2) (σ 3 11) (wdH σ (σ 16)) j (s 16) → ∀ l4 : Int, wpI (d + 9) 103 116 [aR 42, aI (wdH σ (σ 16)), aI (KD σ ((rA σ tx).1 0) (wdH σ (σ 16)) (σ 3 2)), aI j, aI l4] [aI r] (mk s' T) P := by
      intro y r s' hy hs' hm' l4
      refine g_Scale_weighDrawn_116 ?_
      have z7 : s' 16 7 = s 16 7 := by
        rw [hm']; unfold rpM
        split
        · rfl
        · rfl
      rw [show Int.tmod (w32 (w32 (s' 16 7 * 223) + 109)) 30161 = nx (s' 16 7) from w_nx (by rw [z7, q2]; exact b3), w32_id (x := j + 1) (by omega) (by omega)]
      refine ih _ ⟨sm_u (sm_t q1 (sm_m hs' (by simp))) (by simp), ?_⟩ _
      rw [dw_u, hm', q2]
      exact (jd_s j0).symm
    have rep : ∀ (y l5 : Int), y = yDr σ ((rA σ tx).1 0) (wdH σ (σ 16)) j (s 16 7) → (y = 0 ∨ y = 1) → wpI (d + 8) 98 0 [aR 42, aI j, aI y, aI (KD σ ((rA σ tx).1 0) (wdH σ (σ 16)) (σ 3 2))] [] (mk s T) (fun r M' => wpI (d + 8 + 1) 103 116 [aR 42, aI (wdH σ (σ 16)), aI (KD σ ((rA σ tx).1 0) (wdH σ (σ 16)) (σ 3 2)), aI j, aI l5] [aI r] M' P) := by
      intro y l5 hy hy01
      have hso : (if bA (s 11 j) (KD σ ((rA σ tx).1 0) (wdH σ (σ 16)) (σ 3 2)) = 0 then (0 : Int) else 1) = SO σ ((rA σ tx).1 0) j (wdH σ (σ 16)) := by rw [q1 11 (by decide)]; rfl
      refine c_reply (td_m ht q1 (by decide)) (by rw [g3, q2]; exact b1) j0 (by rw [g3]; exact j1) (by rw [q2]; exact b2 j (Int.le_refl _) j1) hy01 ?_ ?_
      · rw [hso]
        intro hq s' hs' hm'
        refine nxt y 0 s' hy hs' ?_ l5
        rw [hm']; unfold rpM; rw [← hy, if_pos hq]
      · rw [hso]
        intro hq s' hs' hm'
        refine nxt y 1 s' hy hs' ?_ l5
        have hli : liM s = liM σ := by funext a b c i; unfold liM; rw [li_c g3 (q1 4 (by decide)) (q1 5 (by decide)) (q1 6 (by decide)) (q1 8 (by decide)) (q1 11 (by decide))]
        rw [hm', stlM_c (q1 4 (by decide)), ra_c tx g3, g3, hli]; unfold rpM; rw [← hy, if_neg hq]
    refine g_Scale_weighDrawn_59 ?_
    have b3' : 0 ≤ s 16 7 ∧ s 16 7 ≤ 30160 := by rw [q2]; exact b3
    rw [g3, Int.tmod_eq_emod_of_nonneg b3'.1, q1 11 (by decide)]
    refine ct j1 (ci (fun c => rep 0 1 (by unfold yDr; rw [if_pos c]) (by omega)) (fun c => cf (by omega) (ct j1 (ct (by omega) (ci (fun c' => rep 0 0 ?_ (by omega)) (fun c' => rep 1 0 ?_ (by omega)))))))
    · unfold yDr SO; rw [if_neg c, if_pos c']
    · unfold yDr SO; rw [if_neg c, if_neg c']
  · rintro s ⟨q1, q2⟩ l4
    have g3 := q1 3 (by decide)
    obtain ⟨b1, b2, b3, b4⟩ := hji (σ 3 9) h9.1 (Int.le_refl _)
    refine g_Scale_weighDrawn_59 ?_
    rw [g3]
    refine cf (by omega) (c_close (td_m ht q1 (by decide)) (by rw [q2]; exact b1.1.1) (by rw [q2, g3]; exact b1.1.2) ?_ (fun s' hs' hm' hp' => g_Scale_weighDrawn_131 ?_))
    · rw [q2]; show 0 ≤ wd3 σ tx (σ 17) (σ 16) (σ 3 9) 8 ∧ wd3 σ tx (σ 17) (σ 16) (σ 3 9) 8 ≤ 30
      rw [show wd3 σ tx (σ 17) (σ 16) (σ 3 9) 8 = σ 16 8 from by rw [← w11 8 (by omega)]; exact b4 8 (by omega)]; exact h8
    · have evd : VD s = VD σ := by
        funext a b c; unfold VD UPF
        rw [q1 4 (by decide), show unm s b = unm σ b from by funext v; unfold unm; rw [q1 4 (by decide), dof_c (q1 5 (by decide)), g3]]
      have hil : clM s = clM σ := by funext a b i; unfold clM ilM; rw [q1 4 (by decide)]
      rw [evd, q2, ra_c tx g3, hil] at hm'
      rw [evd, q2, ra_c tx g3, q1 18 (by decide)] at hp'
      rw [evd, q2, ra_c tx g3]
      exact k s' _ _ rfl rfl (sm_t (sm_m q1 (by simp)) (sm_m hs' (by simp))) hm' hp'
end
