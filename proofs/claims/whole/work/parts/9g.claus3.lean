noncomputable section
set_option maxRecDepth 20000
/-! the reference reads a clause's parts -/
def Cb (c : Int → Int) (n : Int) (s0 : Sg) (x : Int) : Prop := (n ≤ 300) ∧ (∀ i, 0 ≤ i → i < n → s0 74 i = c i ∧ 0 ≤ c i ∧ c i < 256) ∧ (s0 70 4 = n) ∧ (0 ≤ x) ∧ (x + 6 ≤ 3012)
theorem Cb.n3 {c : Int → Int} {n : Int} {s0 : Sg} {x : Int} (h : Cb c n s0 x) : n ≤ 300 := h.1
theorem Cb.hc {c : Int → Int} {n : Int} {s0 : Sg} {x : Int} (h : Cb c n s0 x) : ∀ i, 0 ≤ i → i < n → s0 74 i = c i ∧ 0 ≤ c i ∧ c i < 256 := h.2.1
theorem Cb.h4 {c : Int → Int} {n : Int} {s0 : Sg} {x : Int} (h : Cb c n s0 x) : s0 70 4 = n := h.2.2.1
theorem Cb.x0 {c : Int → Int} {n : Int} {s0 : Sg} {x : Int} (h : Cb c n s0 x) : 0 ≤ x := h.2.2.2.1
theorem Cb.x1 {c : Int → Int} {n : Int} {s0 : Sg} {x : Int} (h : Cb c n s0 x) : x + 6 ≤ 3012 := h.2.2.2.2
def Fb (s0 s : Sg) (x : Int) : Prop := Sm [70, 73] s0 s ∧ (∀ i, i < 7 ∨ 12 ≤ i → s 70 i = s0 70 i) ∧ ∀ i, i < x + 1 ∨ x + 5 ≤ i → s 73 i = s0 73 i
def RB (c : Int → Int) (n : Int) (s0 s : Sg) (x : Int) (l : List Tok) : Prop := TKr c n s l ∧ Fb s0 s x
theorem rb_73 {c : Int → Int} {n x j v : Int} {s0 s : Sg} {l : List Tok} (h : RB c n s0 s x l) (j1 : x + 1 ≤ j) (j5 : j < x + 5) : RB c n s0 (up s 73 j v) x l := ⟨tk_c h.1 (fun i _ _ => by rw [up_c (by decide)]), sm_u h.2.1 (by simp), fun i hi => by rw [up_c (by decide)]; exact h.2.2.1 i hi, fun i hi => by rw [up_i (by omega)]; exact h.2.2.2 i hi⟩
theorem rb_n {d : Nat} {c : Int → Int} {n x : Int} {s0 s : Sg} {T : TT} {P : AM → Prop} {t : Tok} {l : List Tok} (cb : Cb c n s0 x) (h : RB c n s0 s x (t :: l)) (hg : t.1 ≠ 3 ∨ gs t.2.1) (k : ∀ s', RB c n s0 s' x l → s' 73 = s 73 → P (mk s' T)) : wpV (d + 1) 190 0 [aR 70, aU] [] (mk s T) P := by
  obtain ⟨h1, h2, h3, h4⟩ := h
  have lx := tk_l h1 hg
  refine r_nextToken (s0 := s) cb.n3 (fun i i0 i1 => by rw [h2 74 (by decide)]; exact cb.hc i i0 i1) lx.2 s (rtk_r s) (by rw [h3 4 (by omega)]; exact cb.h4) rfl lx.1 (fun s' rt tk => k s' ⟨tk, ?_, fun i hi => ?_, ?_⟩ (rt.1 73 (by decide)))
  · exact sm_t h2 (sm_m rt.1 (by simp))
  · rw [rt.2 i (by omega)]; exact h3 i hi
  · rw [rt.1 73 (by decide)]; exact h4
theorem tk_1 {c : Int → Int} {n : Int} {s : Sg} {t : Tok} {l : List Tok} (h : TKr c n s (t :: l)) (e : t.1 = 2) : s 70 9 = 1 ∧ 0 ≤ s 70 10 ∧ t.2.1 = min 10000 (s 70 10) := by
  obtain ⟨_, h⟩ := h
  rcases h with ⟨_, a, b, c', _⟩ | ⟨q, _⟩ | ⟨q, _⟩
  · exact ⟨a, b, c'⟩
  · omega
  · omega
theorem tk_2 {c : Int → Int} {n : Int} {s : Sg} {t : Tok} {l : List Tok} (h : TKr c n s (t :: l)) (e : t.1 = 1) : s 70 9 = 2 ∧ WRr (s 70 11) t.2.1 := by
  obtain ⟨_, h⟩ := h
  rcases h with ⟨q, _⟩ | ⟨_, a, b, _⟩ | ⟨q, _⟩
  · omega
  · exact ⟨a, b⟩
  · omega
theorem tk_n1 {c : Int → Int} {n : Int} {s : Sg} {l : List Tok} (h : TKr c n s l) (e : ∀ t r, l = t :: r → t.1 ≠ 2) : s 70 9 ≠ 1 := by
  cases l with
  | nil => have := h.1; omega
  | cons t r =>
    have := e t r rfl
    obtain ⟨_, h⟩ := h
    rcases h with ⟨q, _⟩ | ⟨_, a, _⟩ | ⟨_, q | q⟩
    · exact absurd q this
    · omega
    · have g := q.1; unfold gs at g; have := q.2.1; omega
    · have := q.2.2; omega
theorem tk_n2 {c : Int → Int} {n : Int} {s : Sg} {l : List Tok} (h : TKr c n s l) (e : ∀ t r, l = t :: r → t.1 ≠ 1) : s 70 9 ≠ 2 := by
  cases l with
  | nil => have := h.1; omega
  | cons t r =>
    have := e t r rfl
    obtain ⟨_, h⟩ := h
    rcases h with ⟨_, a, _⟩ | ⟨q, _⟩ | ⟨_, q | q⟩
    · omega
    · exact absurd q this
    · have g := q.1; unfold gs at g; have := q.2.1; omega
    · have := q.2.2; omega
theorem r_fig {D : Nat} {c : Int → Int} {n x j m : Int} {s0 s : Sg} {T : TT} {P : Int → AM → Prop} {l : List Tok} (cb : Cb c n s0 x) (h : RB c n s0 s x l) (m9 : m ≤ 9999) (j1 : x + 1 ≤ j) (j5 : j < x + 5) (ok : ∀ v r s', (∀ k, figF n m l k = k v r) → 0 ≤ v → v ≤ m → RB c n s0 s' x r → s' 73 = up s 73 j v 73 → P 0 (mk s' T)) (er : ∀ f p, (∀ k, figF n m l k = .inr (f, p)) → f ≠ 0 → s 70 8 = p → P f (mk s T)) : wpI (D + 2) 204 0 [aR 70, aI j, aI 0, aI m] [] (mk s T) P := by
  have x0 := cb.x0
  have x1 := cb.x1
  have pl := tk_p h.1
  refine g_Mo_figure_0 ?_
  cases l with
  | nil =>
    have := h.1.1
    exact cf (by omega) (er 1 n (fun k => rfl) (by decide) pl)
  | cons t r =>
    by_cases e : t.1 = 2
    · obtain ⟨a1, a2, a3⟩ := tk_1 h.1 e
      rw [a1]
      refine ct rfl (cf (by omega) (ci (fun q => er 2 t.2.2 (fun k => ?_) (by decide) pl) (fun q => ct (by omega) ?_)))
      · show (if t.1 = 2 then (if t.2.1 ≤ m then k t.2.1 r else .inr (2, t.2.2)) else .inr (1, t.2.2)) = _
        rw [if_pos e, if_neg (by omega)]
      · have ev : s 70 10 = t.2.1 := by omega
        rw [ev]
        refine rb_n cb (rb_73 (v := t.2.1) h j1 j5) (Or.inl (by omega)) (fun s' h' e73 => g_Mo_figure_38 (ok t.2.1 r s' (fun k => ?_) (by omega) (by omega) h' e73))
        show (if t.1 = 2 then (if t.2.1 ≤ m then k t.2.1 r else .inr (2, t.2.2)) else .inr (1, t.2.2)) = _
        rw [if_pos e, if_pos (by omega)]
    · have nt := tk_n1 h.1 (fun u r' eu => by simp only [List.cons.injEq] at eu; rw [← eu.1]; exact e)
      refine cf nt (er 1 t.2.2 (fun k => ?_) (by decide) pl)
      show (if t.1 = 2 then (if t.2.1 ≤ m then k t.2.1 r else .inr (2, t.2.2)) else .inr (1, t.2.2)) = _
      rw [if_neg e]
theorem r_worded {D : Nat} {c : Int → Int} {n x j m i lit : Int} {s0 s : Sg} {T : TT} {P : Int → AM → Prop} {l : List Tok} (cb : Cb c n s0 x) (h : RB c n s0 s x l) (m9 : m ≤ 9999) (j1 : x + 1 ≤ j) (j5 : j < x + 5) (i0 : 0 ≤ i) (i1 : i < 29) (hi : KWd i = lit) (ok : ∀ v r s', (∀ k, wrdF n i l (fun r => figF n m r k) = k v r) → 0 ≤ v → v ≤ m → RB c n s0 s' x r → s' 73 = up s 73 j v 73 → P 0 (mk s' T)) (er : ∀ f p s', (∀ k, wrdF n i l (fun r => figF n m r k) = .inr (f, p)) → f ≠ 0 → Fb s0 s' x → s' 70 8 = p → P f (mk s' T)) : wpI (D + 3) 206 0 [aR 70, aL lit, a2, aI j, aI 0, aI m] [] (mk s T) P := by
  have pl := tk_p h.1
  refine g_Mo_worded_0 ?_
  cases l with
  | nil =>
    have := h.1.1
    exact cf (by omega) (er 1 n s (fun k => rfl) (by decide) h.2 pl)
  | cons t r =>
    by_cases e : t.1 = 1
    · obtain ⟨a1, a2⟩ := tk_2 h.1 e
      refine ct a1 (cw_n a2 i0 i1 hi (fun ev => rb_n cb h (Or.inl (by omega)) (fun s1 h1 f1 => g_Mo_worded_14 ?_)) (fun ev => er 1 t.2.2 s (fun k => ?_) (by decide) h.2 pl))
      · have ew : ∀ k, wrdF n i (t :: r) (fun r => figF n m r k) = figF n m r k := fun k => by
          show (if t.1 = 1 ∧ t.2.1 = i then figF n m r k else .inr (1, t.2.2)) = _
          rw [if_pos ⟨e, ev⟩]
        refine r_fig (D := D) cb h1 m9 j1 j5 (fun v r' s' ek v0 vm h' f' => g_Mo_worded_23 (ok v r' s' (fun k => by rw [ew]; exact ek k) v0 vm h' ?_)) (fun f p ek hf hp => g_Mo_worded_23 (er f p s1 (fun k => by rw [ew]; exact ek k) hf h1.2 hp))
        rw [f']; funext z; rw [up_e, up_e, f1]
      · show (if t.1 = 1 ∧ t.2.1 = i then figF n m r k else .inr (1, t.2.2)) = _
        rw [if_neg (fun q => ev q.2)]
    · have nt := tk_n2 h.1 (fun u r' eu => by simp only [List.cons.injEq] at eu; rw [← eu.1]; exact e)
      refine cf nt (er 1 t.2.2 s (fun k => ?_) (by decide) h.2 pl)
      show (if t.1 = 1 ∧ t.2.1 = i then figF n m r k else .inr (1, t.2.2)) = _
      rw [if_neg (fun q => e q.1)]
def mkL : List Tok → Int
  | [] => 0
  | u :: _ => mkO u
theorem r_marksOf {D : Nat} {c : Int → Int} {n : Int} {s : Sg} {T : TT} {P : Int → AM → Prop} {l : List Tok} (h : TKr c n s l) (k : P (mkL l) (mk s T)) : wpI (D + 4) 207 0 [aR 70] [] (mk s T) P := by
  have z : s 70 9 ≠ 2 → mkL l = 0 → wpI (D + 4) 207 0 [aR 70] [] (mk s T) P := fun h2 e => by
    rw [e] at k
    exact g_Mo_marksOf_0 (cf h2 (cf h2 (g_Mo_marksOf_48 (d := D + 2) (cf h2 (g_Mo_marksOf_70 (g_Mo_marksOf_71 k))))))
  cases l with
  | nil => exact z (by have := h.1; omega) rfl
  | cons t r =>
    by_cases e : t.1 = 1
    · obtain ⟨a1, a2⟩ := tk_2 h e
      have ek : mkL (t :: r) = if t.2.1 = 19 then 1 else if t.2.1 = 20 then 2 else if t.2.1 = 21 then 4 else 0 := by
        show (if t.1 = 1 then _ else _) = _
        rw [if_pos e]
      rw [ek] at k
      refine g_Mo_marksOf_0 ?_
      rw [kx_19, kx_20]
      refine ct a1 (cw_n a2 (by omega) (by omega) kv_19 (fun q => g_Mo_marksOf_71 (by rw [if_pos q] at k; exact k)) (fun q => ?_))
      rw [if_neg q] at k
      refine ct a1 (cw_n a2 (by omega) (by omega) kv_20 (fun q => g_Mo_marksOf_71 (by rw [if_pos q] at k; exact k)) (fun q => g_Mo_marksOf_48 (d := D + 2) ?_))
      rw [if_neg q] at k
      rw [kx_21]
      refine ct a1 (cw_n a2 (by omega) (by omega) kv_21 (fun q => g_Mo_marksOf_66 (g_Mo_marksOf_71 (by rw [if_pos q] at k; exact k))) (fun q => g_Mo_marksOf_70 (g_Mo_marksOf_71 (by rw [if_neg q] at k; exact k))))
    · exact z (tk_n2 h (fun u r' eu => by simp only [List.cons.injEq] at eu; rw [← eu.1]; exact e)) (by show (if t.1 = 1 then _ else _) = _; rw [if_neg e])
theorem cm_t {c : Int → Int} {n : Int} {s : Sg} {t : Tok} {l : List Tok} (h : TKr c n s (t :: l)) : s 70 9 = 44 ↔ cm t := by
  rw [tk_s h (show gs 44 by unfold gs; omega)]
  obtain ⟨t1, t2, t3⟩ := t
  constructor
  · rintro ⟨st, r, e⟩
    simp only [List.cons.injEq, Prod.mk.injEq] at e
    exact ⟨e.1.1, e.1.2.1⟩
  · rintro ⟨h1, h2⟩
    have h1 : t1 = 3 := h1
    have h2 : t2 = 44 := h2
    exact ⟨t3, l, by rw [h1, h2]⟩
theorem mko_v (u : Tok) : mkO u = 0 ∨ (u.1 = 1 ∧ (mkO u = 1 ∨ mkO u = 2 ∨ mkO u = 4)) := by
  unfold mkO
  by_cases e : u.1 = 1
  · rw [if_pos e]
    by_cases q : u.2.1 = 19
    · rw [if_pos q]; exact Or.inr ⟨e, by omega⟩
    · rw [if_neg q]
      by_cases q : u.2.1 = 20
      · rw [if_pos q]; exact Or.inr ⟨e, by omega⟩
      · rw [if_neg q]
        by_cases q : u.2.1 = 21
        · rw [if_pos q]; exact Or.inr ⟨e, by omega⟩
        · rw [if_neg q]; exact Or.inl rfl
  · rw [if_neg e]; exact Or.inl rfl
theorem r_marks {D : Nat} {c : Int → Int} {n x : Int} {s0 : Sg} {T : TT} {P : Int → AM → Prop} (cb : Cb c n s0 x) : ∀ (j : Nat) (l : List Tok), l.length ≤ j → ∀ (acc : Int) (s : Sg) (l3 : AV), RB c n s0 s x l → s 73 (x + 4) = acc → (∀ m r s', (∀ k, mrkF n k l acc = k m r) → RB c n s0 s' x r → s' 73 (x + 4) = m → (∀ i, i ≠ x + 4 → s' 73 i = s 73 i) → P 0 (mk s' T)) → (∀ f p s', (∀ k, mrkF n k l acc = .inr (f, p)) → f ≠ 0 → Fb s0 s' x → s' 70 8 = p → P f (mk s' T)) → wpI (D + 5) 205 63 [aR 70, aI x, aI 0, l3] [] (mk s T) P := by
  have x0 := cb.x0
  have x1 := cb.x1
  intro j
  induction j with
  | zero =>
    intro l hl acc s l3 h h4 ok er
    have : l = [] := List.length_eq_zero_iff.mp (by omega)
    subst this
    have := h.1.1
    exact g_Mo_deedClause_63 (ct rfl (cf (by omega) (ok acc [] s (fun k => rfl) h h4 (fun _ _ => rfl))))
  | succ j ih =>
    intro l hl acc s l3 h h4 ok er
    cases l with
    | nil =>
      have := h.1.1
      exact g_Mo_deedClause_63 (ct rfl (cf (by omega) (ok acc [] s (fun k => rfl) h h4 (fun _ _ => rfl))))
    | cons t r =>
      have ct_ := cm_t h.1
      refine g_Mo_deedClause_63 (ct rfl (ci (fun q => ?_) (fun q => ok acc (t :: r) s (fun k => ?_) h h4 (fun _ _ => rfl))))
      · have hc := ct_.mp q
        refine rb_n cb h (Or.inr (by show gs t.2.1; rw [hc.2]; unfold gs; omega)) (fun s1 h1 f1 => g_Mo_deedClause_80 (r_marksOf (D := D) h1.1 (g_Mo_deedClause_84 ?_)))
        have a4 : s1 73 (x + 4) = acc := by rw [f1]; exact h4
        rw [w32_id (x := x + 4) (by omega) (by omega), a4]
        cases r with
        | nil =>
          exact ct rfl (er 1 n s1 (fun k => by show (if cm t then _ else _) = _; rw [if_pos hc]) (by decide) h1.2 (tk_p h1.1))
        | cons u r =>
          have hm := mko_v u
          simp only [List.length_cons] at hl
          rw [show mkL (u :: r) = mkO u from rfl]
          refine ci (fun z => er 1 u.2.2 s1 (fun k => ?_) (by decide) h1.2 (tk_p h1.1)) (fun z => ct (by omega) (ci (fun z2 => ct (by omega) (ct (by omega) ?_)) (fun z2 => er 4 u.2.2 s1 (fun k => ?_) (by decide) h1.2 (tk_p h1.1))))
          · show (if cm t then (if mkO u = 0 then _ else _) else _) = _
            rw [if_pos hc, if_pos z]
          · have u1 : u.1 = 1 := by
              rcases hm with hm | hm
              · exact absurd hm z
              · exact hm.1
            have ek : ∀ k, mrkF n k (t :: u :: r) acc = mrkF n k r (bO acc (mkO u)) := fun k => by
              show (if cm t then (if mkO u = 0 then _ else if bA acc (mkO u) = 0 then _ else _) else _) = _
              rw [if_pos hc, if_neg z, if_pos z2]
            refine rb_n cb (rb_73 (v := bO acc (mkO u)) h1 (by omega) (by omega)) (Or.inl (by omega)) (fun s2 h2 f2 => g_Mo_deedClause_122 ?_)
            refine ih r (by omega) (bO acc (mkO u)) s2 _ h2 (by rw [f2, up_s]) (fun m r' s' e h' e4 eo => ok m r' s' (fun k => by rw [ek]; exact e k) h' e4 (fun i hi => ?_)) (fun f p s' e => er f p s' (fun k => by rw [ek]; exact e k))
            rw [eo i hi, f2, up_i hi, f1]
          · show (if cm t then (if mkO u = 0 then _ else if bA acc (mkO u) = 0 then _ else _) else _) = _
            rw [if_pos hc, if_neg z, if_neg z2]
      · have hc : ¬ cm t := fun z => q (ct_.mpr z)
        cases r with
        | nil => show (if cm t then _ else _) = _; rw [if_neg hc]
        | cons u r => show (if cm t then _ else _) = _; rw [if_neg hc]
theorem r_kinds {D : Nat} {c : Int → Int} {n x : Int} {s0 : Sg} {T : TT} {P : Int → AM → Prop} (cb : Cb c n s0 x) : ∀ (j : Nat) (l : List Tok), l.length ≤ j → ∀ (set : Int) (s : Sg), RB c n s0 s x l → VT l → 0 ≤ set → set < 1024 → (∀ m r s', (∀ k, kdF n k l set = k m r) → RB c n s0 s' x r → s' 73 = up s 73 (x + 1) m 73 → P 0 (mk s' T)) → (∀ f p s', (∀ k, kdF n k l set = .inr (f, p)) → f ≠ 0 → Fb s0 s' x → s' 70 8 = p → P f (mk s' T)) → wpI (D + 2) 208 4 [aR 70, aI x, aI set, aI 1] [] (mk s T) P := by
  have x0 := cb.x0
  have x1 := cb.x1
  intro j
  induction j with
  | zero =>
    intro l hl set s h hv a0 a8 ok er
    have : l = [] := List.length_eq_zero_iff.mp (by omega)
    subst this
    have := h.1.1
    exact g_Mo_judgeClause_4 (cf (by decide) (cf (by omega) (er 1 n s (fun k => rfl) (by decide) h.2 (tk_p h.1))))
  | succ j ih =>
    intro l hl set s h hv a0 a8 ok er
    have pl := tk_p h.1
    cases l with
    | nil =>
      have := h.1.1
      exact g_Mo_judgeClause_4 (cf (by decide) (cf (by omega) (er 1 n s (fun k => rfl) (by decide) h.2 pl)))
    | cons t r =>
      simp only [List.length_cons] at hl
      refine g_Mo_judgeClause_4 (cf (by decide) ?_)
      by_cases e : t.1 = 2
      · obtain ⟨a1, a2, a3⟩ := tk_1 h.1 e
        rw [a1]
        refine ct rfl (ci (fun q => er 2 t.2.2 s (fun k => ?_) (by decide) h.2 pl) (fun q => ?_))
        · rw [kdf_c, if_pos e, if_neg (by omega)]
        · have ev : s 70 10 = t.2.1 := by omega
          have v0 : 0 ≤ t.2.1 := by omega
          rw [ev]
          refine ci (fun q2 => er 4 t.2.2 s (fun k => ?_) (by decide) h.2 pl) (fun q2 => rb_n cb h (Or.inl (by omega)) (fun s1 h1 f1 => g_Mo_judgeClause_55 ?_))
          · rw [kdf_c, if_pos e, if_pos (by omega), if_pos ((has_1 a0 v0 (by omega)).mp q2)]
          · have nd : tb set t.2.1 = false := by
              cases et : tb set t.2.1 with
              | false => rfl
              | true => exact absurd ((has_1 a0 v0 (by omega)).mpr et) q2
            have hL := sL_lt (k := t.2.1) (n := 10) v0 (by omega) (by omega)
            have ob := bO_b (n := 10) (by omega) a0 a8 (by omega) hL.2
            have ek : ∀ k, kdF n k (t :: r) set = kdT n k r (bO set (sL 1 t.2.1)) := fun k => by rw [kdf_c, if_pos e, if_pos (by omega), if_neg (by rw [nd]; decide)]
            have stop : (∀ k, kdT n k r (bO set (sL 1 t.2.1)) = k (bO set (sL 1 t.2.1)) r) → wpI (D + 2) 208 4 [aR 70, aI x, aI (bO set (sL 1 t.2.1)), aI 0] [] (mk s1 T) P := fun ek2 => by
              refine g_Mo_judgeClause_4 (ct rfl ?_)
              rw [w32_id (x := x + 1) (by omega) (by omega)]
              refine ct (by omega) (ok (bO set (sL 1 t.2.1)) r _ (fun k => by rw [ek]; exact ek2 k) (rb_73 h1 (by omega) (by omega)) ?_)
              funext z; rw [up_e, up_e, f1]
            cases r with
            | nil =>
              have := h1.1.1
              exact cf (by omega) (stop (fun k => rfl))
            | cons u r =>
              have cu := cm_t h1.1
              refine ci (fun q3 => ?_) (fun q3 => stop (fun k => ?_))
              · have hc := cu.mp q3
                simp only [List.length_cons] at hl
                refine rb_n cb h1 (Or.inr (by show gs u.2.1; rw [hc.2]; unfold gs; omega)) (fun s2 h2 f2 => g_Mo_judgeClause_78 ?_)
                have ek3 : ∀ k, kdF n k (t :: u :: r) set = kdF n k r (bO set (sL 1 t.2.1)) := fun k => by
                  rw [ek]; show (if cm u then _ else _) = _; rw [if_pos hc]
                refine ih r (by omega) (bO set (sL 1 t.2.1)) s2 h2 (fun y hy => hv y (List.mem_cons_of_mem _ (List.mem_cons_of_mem _ hy))) ob.1 ob.2 (fun m r' s' e' h' e7 => ok m r' s' (fun k => by rw [ek3]; exact e' k) h' ?_) (fun f p s' e' => er f p s' (fun k => by rw [ek3]; exact e' k))
                rw [e7]; funext z; rw [up_e, up_e, f2, f1]
              · show (if cm u then _ else _) = _
                rw [if_neg (fun z => q3 (cu.mpr z))]
      · have nt := tk_n1 h.1 (fun u r' eu => by simp only [List.cons.injEq] at eu; rw [← eu.1]; exact e)
        refine cf nt (er 1 t.2.2 s (fun k => ?_) (by decide) h.2 pl)
        rw [kdf_c, if_neg e]
/-- the body of a clause that is no law -/
def Pr2 (s s' : Sg) (x : Int) (ps : List Int) : Prop := ∀ i : Int, 0 ≤ i → i < ps.length → s' 73 (x + 1 + i) = ps.getD i.toNat 0
theorem r_body {D : Nat} {c : Int → Int} {n x w : Int} {s : Sg} {T : TT} {P : Int → AM → Prop} {l : List Tok} (cb : Cb c n s x) (h : TKr c n s l) (hv : VT l) (w4 : 4 ≤ w) (w12 : w ≤ 12) (ok : ∀ ps r s', bodyF n w l = .inl (ps, r) → RB c n s s' x r → Pr2 s s' x ps → P 0 (mk s' T)) (er : ∀ f p s', bodyF n w l = .inr (f, p) → f ≠ 0 → Fb s s' x → s' 70 8 = p → P f (mk s' T)) : wpI (D + 7) 203 0 [aR 70, aI w, aI x] [] (mk s T) P := by
  have x0 := cb.x0
  have x1 := cb.x1
  have h1 : RB c n s s x l := ⟨h, sm_r _ _, fun _ _ => rfl, fun _ _ => rfl⟩
  have p1 : ∀ (v : Int) (s' : Sg), s' 73 = up s 73 (x + 1) v 73 → Pr2 s s' x [v] := fun v s' e i i0 i1 => by
    have : i = 0 := by simp at i1; omega
    subst this
    rw [e, Int.add_zero, up_s]; rfl
  have sg : ∀ (m : Int) (Q : Int → AM → Prop), m ≤ 9999 → bodyF n w l = figF n m l (fun v r => .inl ([v], r)) → (∀ f s', P f (mk s' T) → Q f (mk s' T)) → wpI (D + 6) 204 0 [aR 70, aI (x + 1), aI 0, aI m] [] (mk s T) Q := fun m Q m9 hb hQ => by
    refine r_fig (D := D + 4) cb h1 m9 (by omega) (by omega) (fun v r s' e v0 vm h' f' => hQ 0 s' (ok [v] r s' (by rw [hb]; exact e _) h' (p1 v s' f'))) (fun f p e hf hp => hQ f s (er f p s (by rw [hb]; exact e _) hf h1.2 hp))
  refine g_Mo_body_0 ?_
  rw [w32_id (x := x + 1) (by omega) (by omega)]
  refine ci (fun q4 => sg 999 _ (by omega) (by unfold bodyF; rw [if_pos q4]) (fun f s' p => g_Mo_body_63 p)) (fun q4 => ci (fun q5 => ?_) (fun q5 => ci (fun q6 => ?_) (fun q6 => ci (fun q7 => ?_) (fun q7 => ci (fun q8 => sg 5 _ (by omega) (by unfold bodyF; rw [if_neg q4, if_neg q5, if_neg q6, if_neg q7, if_pos q8]) (fun f s' p => g_Mo_body_91 p)) (fun q8 => ci (fun q9 => sg 23 _ (by omega) (by unfold bodyF; rw [if_neg q4, if_neg q5, if_neg q6, if_neg q7, if_neg q8, if_pos q9]) (fun f s' p => g_Mo_body_102 p)) (fun q9 => ci (fun q10 => sg 7 _ (by omega) (by unfold bodyF; rw [if_neg q4, if_neg q5, if_neg q6, if_neg q7, if_neg q8, if_neg q9, if_pos (Or.inl q10)]) (fun f s' p => g_Mo_body_113 p)) (fun q10 => ci (fun q11 => sg 7 _ (by omega) (by unfold bodyF; rw [if_neg q4, if_neg q5, if_neg q6, if_neg q7, if_neg q8, if_neg q9, if_pos (Or.inr q11)]) (fun f s' p => g_Mo_body_124 p)) (fun q11 => ct (by omega) (ok [] l s (by unfold bodyF; rw [if_neg q4, if_neg q5, if_neg q6, if_neg q7, if_neg q8, if_neg q9, if_neg (by omega)]) h1 (fun i i0 i1 => by simp at i1; omega))))))))))
  · -- a deed
    have eb : bodyF n w l = figF n 9 l (fun x r => wrdF n 18 r (fun r => figF n 99 r (fun y r => wrdF n 13 r (fun r => figF n 5 r (fun z r => mrkF n (fun m r => .inl ([x, y, z, m], r)) r 0))))) := by unfold bodyF; rw [if_neg q4, if_pos q5]
    have bad : ∀ (f p : Int) (s' : Sg), bodyF n w l = .inr (f, p) → f ≠ 0 → Fb s s' x → s' 70 8 = p → wpI (D + 6) 205 63 [aR 70, aI x, aI f, aU] [] (mk (up s' 73 (x + 4) 0) T) (fun r M' => wpI (D + 6 + 1) 203 69 [aR 70, aI w, aI x] [aI r] M' P) := fun f p s' e hf hb hp => by
      refine g_Mo_deedClause_63 (cf hf (g_Mo_body_69 (er f p _ e hf ⟨sm_u hb.1 (by simp), fun i hi => by rw [up_c (by decide)]; exact hb.2.1 i hi, fun i hi => by rw [up_i (by omega)]; exact hb.2.2 i hi⟩ (by rw [up_c (by decide)]; exact hp))))
    refine g_Mo_deedClause_0 ?_
    rw [w32_id (x := x + 1) (by omega) (by omega)]
    refine r_fig (D := D + 3) cb h1 (by omega) (by omega) (by omega) (fun a r s1 e1 a0 am h1 f1 => g_Mo_deedClause_10 (d := D + 4) (ct rfl ?_)) (fun f p e hf hp => g_Mo_deedClause_10 (d := D + 4) (cf hf (cf hf ?_)))
    · rw [kx_18, w32_id (x := x + 2) (by omega) (by omega)]
      refine r_worded (D := D + 2) (i := 18) cb h1 (by omega) (by omega) (by omega) (by omega) (by omega) kv_18 (fun b r2 s2 e2 b0 bm h2 f2 => g_Mo_deedClause_36 (d := D + 5) (ct rfl ?_)) (fun f p s' e hf hb hp => g_Mo_deedClause_36 (d := D + 5) (cf hf ?_))
      · rw [w32_id (x := x + 3) (by omega) (by omega)]
        refine r_worded (D := D + 2) (i := 13) cb h2 (by omega) (by omega) (by omega) (by omega) (by omega) kv_13 (fun z r3 s3 e3 z0 zm h3 f3 => g_Mo_deedClause_53 ?_) (fun f p s' e hf hb hp => g_Mo_deedClause_53 ?_)
        · rw [w32_id (x := x + 4) (by omega) (by omega)]
          refine ct (by omega) (r_marks (D := D + 1) cb r3.length r3 (Nat.le_refl _) 0 _ _ (rb_73 h3 (by omega) (by omega)) (up_s _ _ _ _) (fun m r4 s4 e4 h4 g4 o4 => g_Mo_body_69 (ok [a, b, z, m] r4 s4 ?_ h4 ?_)) (fun f p s' e hf hb hp => g_Mo_body_69 (er f p s' ?_ hf hb hp)))
          · rw [eb, e1, e2, e3]; exact e4 _
          · intro i i0 i1
            have k3 : ∀ i, i ≠ x + 4 → s4 73 i = if i = x + 3 then z else if i = x + 2 then b else if i = x + 1 then a else s 73 i := fun i hi => by
              rw [o4 i hi, up_i hi, f3, up_e, f2, up_e, f1, up_e]
            have i4 : i < 4 := by simpa using i1
            rcases (by omega : i = 0 ∨ i = 1 ∨ i = 2 ∨ i = 3) with rfl | rfl | rfl | rfl
            · rw [k3 _ (by omega), if_neg (by omega), if_neg (by omega), if_pos (by omega)]; rfl
            · rw [k3 _ (by omega), if_neg (by omega), if_pos (by omega)]; rfl
            · rw [k3 _ (by omega), if_pos (by omega)]; rfl
            · rw [show x + 1 + 3 = x + 4 from by omega, g4]; rfl
          · rw [eb, e1, e2, e3]; exact e _
        · rw [w32_id (x := x + 4) (by omega) (by omega)]
          exact ct (by omega) (bad f p s' (by rw [eb, e1, e2]; exact e _) hf hb hp)
      · rw [w32_id (x := x + 4) (by omega) (by omega)]
        exact ct (by omega) (bad f p s' (by rw [eb, e1]; exact e _) hf hb hp)
    · rw [w32_id (x := x + 4) (by omega) (by omega)]
      exact ct (by omega) (bad f p s (by rw [eb]; exact e _) hf h1.2 hp)
  · -- a judge
    have eb : bodyF n w l = kdF n (fun m r => .inl ([m], r)) l 0 := by unfold bodyF; rw [if_neg q4, if_neg q5, if_pos q6]
    exact g_Mo_judgeClause_0 (r_kinds (D := D + 4) cb l.length l (Nat.le_refl _) 0 s h1 hv (by omega) (by omega) (fun m r s' e h' f' => g_Mo_body_75 (ok [m] r s' (by rw [eb]; exact e _) h' (p1 m s' f'))) (fun f p s' e hf hb hp => g_Mo_body_75 (er f p s' (by rw [eb]; exact e _) hf hb hp)))
  · -- lent
    have eb : bodyF n w l = figF n 5 l (fun x r => wrdF n 14 r (fun r => figF n 5 r (fun y r => wrdF n 15 r (fun r => figF n 99 r (fun z r => .inl ([x, y, z], r)))))) := by unfold bodyF; rw [if_neg q4, if_neg q5, if_neg q6, if_pos q7]
    refine g_Mo_lendClause_0 ?_
    rw [w32_id (x := x + 1) (by omega) (by omega)]
    refine r_fig (D := D + 3) cb h1 (by omega) (by omega) (by omega) (fun a r s1 e1 a0 am h1 f1 => g_Mo_lendClause_9 (ct rfl ?_)) (fun f p e hf hp => g_Mo_lendClause_9 (cf hf (cf hf (g_Mo_body_81 (er f p s (by rw [eb]; exact e _) hf h1.2 hp)))))
    rw [w32_id (x := x + 2) (by omega) (by omega)]
    refine r_worded (D := D + 2) (i := 14) cb h1 (by omega) (by omega) (by omega) (by omega) (by omega) kv_14 (fun b r2 s2 e2 b0 bm h2 f2 => g_Mo_lendClause_26 (ct rfl ?_)) (fun f p s' e hf hb hp => g_Mo_lendClause_26 (cf hf (g_Mo_body_81 (er f p s' (by rw [eb, e1]; exact e _) hf hb hp))))
    rw [w32_id (x := x + 3) (by omega) (by omega)]
    refine r_worded (D := D + 2) (i := 15) cb h2 (by omega) (by omega) (by omega) (by omega) (by omega) kv_15 (fun z r3 s3 e3 z0 zm h3 f3 => g_Mo_lendClause_48 (g_Mo_body_81 (ok [a, b, z] r3 s3 ?_ h3 ?_))) (fun f p s' e hf hb hp => g_Mo_lendClause_48 (g_Mo_body_81 (er f p s' (by rw [eb, e1, e2]; exact e _) hf hb hp)))
    · rw [eb, e1, e2, e3]
    · intro i i0 i1
      have k3 : ∀ i, s3 73 i = if i = x + 3 then z else if i = x + 2 then b else if i = x + 1 then a else s 73 i := fun i => by
        rw [f3, up_e, f2, up_e, f1, up_e]
      have i4 : i < 3 := by simpa using i1
      rcases (by omega : i = 0 ∨ i = 1 ∨ i = 2) with rfl | rfl | rfl
      · rw [k3, if_neg (by omega), if_neg (by omega), if_pos (by omega)]; rfl
      · rw [k3, if_neg (by omega), if_pos (by omega)]; rfl
      · rw [k3, if_pos (by omega)]; rfl
end
