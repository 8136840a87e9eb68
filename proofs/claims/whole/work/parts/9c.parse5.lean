noncomputable section
set_option maxRecDepth 20000
theorem cw_n {w v i lit : Int} {A B : Prop} (hw : WRr w v) (i0 : 0 ≤ i) (i1 : i < 29) (e : KWd i = lit) (a : v = i → A) (b : v ≠ i → B) : brK (decide (cmpL w lit = 0)) A B := by
  refine ci (fun q => a ((hw i i0 i1).mp ?_)) (fun q => b (fun ev => q ?_))
  · rw [e]; exact (cl_eq _ _).mp q
  · rw [cl_eq, ← e]; exact (hw i i0 i1).mpr ev
theorem r_nameOf {d : Nat} {s : Sg} {T : TT} {P : Int → AM → Prop} {v : Int} (h9 : s 70 9 = 2) (hw : WRr (s 70 11) v) (k1 : ∀ m, 0 ≤ m → m < 15 → wn m = v → P m (mk s T)) (k0 : (∀ m, 0 ≤ m → m < 15 → wn m ≠ v) → P (-1) (mk s T)) : wpI (d + 5) 218 0 [aR 70] [] (mk s T) P := by
  refine g_Mo_nameOf_0 (ct h9 ?_)
  rw [kx_4, kx_16, kx_17, kx_18, kx_19, kx_20, kx_21, kx_22]
  refine cw_n hw (by omega) (by omega) kv_4 (fun e => k1 0 (by omega) (by omega) (by rw [e]; rfl)) (fun n4 => ?_)
  refine cw_n hw (by omega) (by omega) kv_16 (fun e => k1 1 (by omega) (by omega) (by rw [e]; rfl)) (fun n16 => ?_)
  refine cw_n hw (by omega) (by omega) kv_17 (fun e => k1 2 (by omega) (by omega) (by rw [e]; rfl)) (fun n17 => ?_)
  refine cw_n hw (by omega) (by omega) kv_18 (fun e => k1 3 (by omega) (by omega) (by rw [e]; rfl)) (fun n18 => ?_)
  refine cw_n hw (by omega) (by omega) kv_19 (fun e => k1 4 (by omega) (by omega) (by rw [e]; rfl)) (fun n19 => ?_)
  refine cw_n hw (by omega) (by omega) kv_20 (fun e => k1 5 (by omega) (by omega) (by rw [e]; rfl)) (fun n20 => ?_)
  refine cw_n hw (by omega) (by omega) kv_21 (fun e => k1 6 (by omega) (by omega) (by rw [e]; rfl)) (fun n21 => ?_)
  refine cw_n hw (by omega) (by omega) kv_22 (fun e => k1 7 (by omega) (by omega) (by rw [e]; rfl)) (fun n22 => ?_)
  refine g_Mo_laterName_0 (d := d) ?_
  rw [kx_23, kx_24, kx_25, kx_6, kx_26, kx_27, kx_28]
  refine cw_n hw (by omega) (by omega) kv_23 (fun e => g_Mo_nameOf_203 (k1 8 (by omega) (by omega) (by rw [e]; rfl))) (fun n23 => ?_)
  refine cw_n hw (by omega) (by omega) kv_24 (fun e => g_Mo_nameOf_203 (k1 9 (by omega) (by omega) (by rw [e]; rfl))) (fun n24 => ?_)
  refine cw_n hw (by omega) (by omega) kv_25 (fun e => g_Mo_nameOf_203 (k1 10 (by omega) (by omega) (by rw [e]; rfl))) (fun n25 => ?_)
  refine cw_n hw (by omega) (by omega) kv_6 (fun e => g_Mo_nameOf_203 (k1 11 (by omega) (by omega) (by rw [e]; rfl))) (fun n6 => ?_)
  refine cw_n hw (by omega) (by omega) kv_26 (fun e => g_Mo_nameOf_203 (k1 12 (by omega) (by omega) (by rw [e]; rfl))) (fun n26 => ?_)
  refine cw_n hw (by omega) (by omega) kv_27 (fun e => g_Mo_nameOf_203 (k1 13 (by omega) (by omega) (by rw [e]; rfl))) (fun n27 => ?_)
  refine cw_n hw (by omega) (by omega) kv_28 (fun e => g_Mo_nameOf_203 (k1 14 (by omega) (by omega) (by rw [e]; rfl))) (fun n28 => g_Mo_nameOf_203 (k0 (fun m m0 m1 e => ?_)))
  rcases (by omega : m = 0 ∨ m = 1 ∨ m = 2 ∨ m = 3 ∨ m = 4 ∨ m = 5 ∨ m = 6 ∨ m = 7 ∨ m = 8 ∨ m = 9 ∨ m = 10 ∨ m = 11 ∨ m = 12 ∨ m = 13 ∨ m = 14) with rfl | rfl | rfl | rfl | rfl | rfl | rfl | rfl | rfl | rfl | rfl | rfl | rfl | rfl | rfl
  · exact n4 e.symm
  · exact n16 e.symm
  · exact n17 e.symm
  · exact n18 e.symm
  · exact n19 e.symm
  · exact n20 e.symm
  · exact n21 e.symm
  · exact n22 e.symm
  · exact n23 e.symm
  · exact n24 e.symm
  · exact n25 e.symm
  · exact n6 e.symm
  · exact n26 e.symm
  · exact n27 e.symm
  · exact n28 e.symm
theorem r_isOf {d : Nat} {s : Sg} {T : TT} {P : Int → AM → Prop} {w m : Int} (h14 : s 70 14 = w) (w0 : 0 ≤ w) (w4 : w < 4) (m0 : 0 ≤ m) (m1 : m < 15) (k1 : okn w m → P 1 (mk s T)) (k0 : ¬ okn w m → P 0 (mk s T)) : wpI d 220 0 [aR 70, aI m] [] (mk s T) P := by
  refine g_Mo_isOf_0 ?_
  rw [h14]
  unfold okn at k1 k0
  refine ci (fun c => k1 (by omega)) (fun c => ci (fun c2 => ci (fun c3 => k1 (by omega)) (fun c3 => k0 (by omega))) (fun c2 => ci (fun c3 => ci (fun c4 => k1 (by omega)) (fun c4 => k0 (by omega))) (fun c3 => ci (fun c4 => ci (fun c5 => k1 (by omega)) (fun c5 => k0 (by omega))) (fun c4 => ci (fun c5 => k1 (by omega)) (fun c5 => k0 (by omega))))))
theorem r_openAt {d : Nat} {s : Sg} {T : TT} {P : Int → AM → Prop} {π : List Int} (hp : (π = [] → P (-1) (mk s T)) ∧ (∀ x t, π = x :: t → 40 ≤ x ∧ P x (mk s T))) (r : List Int) (hr : ∀ x ∈ r, x < 40) (h16 : s 70 16 = (r ++ π).length) (hst : StkAt (s 75) (r ++ π)) (hl : (r ++ π).length ≤ 100) : wpI d 216 0 [aR 70, aU] [] (mk s T) P := by
  have key : ∀ (r : List Int), (∀ x ∈ r, x < 40) → StkAt (s 75) (r ++ π) → (r ++ π).length ≤ 100 → wpI d 216 7 [aR 70, aI (((r ++ π).length : Int) - 1)] [] (mk s T) P := by
    intro r
    induction r with
    | nil =>
      intro _ h2 hl
      cases π with
      | nil => exact g_Mo_openAt_7 (ct (by simp) (ct (by simp) (hp.1 rfl)))
      | cons x t =>
        have hx := hp.2 x t rfl
        have h3 : s 75 t.length = x := h2.1
        simp only [List.nil_append, List.length_cons] at hl ⊢
        rw [show ((t.length + 1 : Nat) : Int) - 1 = t.length from by omega]
        refine g_Mo_openAt_7 ?_
        rw [h3]
        exact cf (by omega) (ct (by omega) (cf (by omega) (cf (by omega) (ct (by omega) hx.2))))
    | cons x r ih =>
      intro h1 h2 hl
      have h3 : s 75 (r ++ π).length = x := h2.1
      have hx := h1 x List.mem_cons_self
      simp only [List.cons_append, List.length_cons] at hl ⊢
      rw [show (((r ++ π).length + 1 : Nat) : Int) - 1 = (r ++ π).length from by omega]
      refine g_Mo_openAt_7 ?_
      rw [h3, w32_id (x := ((r ++ π).length : Int) + -1) (by omega) (by omega)]
      have := ih (fun y hy => h1 y (List.mem_cons_of_mem _ hy)) h2.2 (by omega)
      rw [show ((r ++ π).length : Int) - 1 = ((r ++ π).length : Int) + -1 from by omega] at this
      exact cf (by omega) (ct (by omega) (ct hx this))
  refine g_Mo_openAt_0 ?_
  rw [h16, w32_id (x := ((r ++ π).length : Int) - 1) (by omega) (by omega)]
  exact key r hr hst hl
theorem strip_q : ∀ π : List Int, ∃ q, π = q ++ strip π ∧ (∀ x ∈ q, x = 2) ∧ ops q = ngs π ∧ nng q = nng π ∧ topR (strip π) < 3
  | [] => ⟨[], rfl, fun x hx => absurd hx List.not_mem_nil, rfl, rfl, by decide⟩
  | x :: r => by
    by_cases e : x = 2
    · obtain ⟨q, h1, h2, h3, h4, h5⟩ := strip_q r
      refine ⟨x :: q, ?_, ?_, ?_, ?_, ?_⟩
      · unfold strip; rw [if_pos e, List.cons_append, ← h1]
      · intro y hy
        rcases List.mem_cons.mp hy with rfl | hy
        · exact e
        · exact h2 y hy
      · unfold ngs; rw [if_pos e, ← h3, e]; rfl
      · unfold nng; rw [if_pos e, if_pos e, h4]
      · unfold strip; rw [if_pos e]; exact h5
    · refine ⟨[], ?_, fun x hx => absurd hx List.not_mem_nil, ?_, ?_, ?_⟩
      · unfold strip; rw [if_neg e]; rfl
      · unfold ngs; rw [if_neg e]; rfl
      · show nng [] = nng (x :: r); unfold nng; rw [if_neg e]
      · unfold strip; rw [if_neg e]
        show rk x < 3
        unfold rk; split
        · split <;> omega
        · omega
theorem strip_0 {π : List Int} (h : topR π < 3) : strip π = π ∧ ngs π = [] ∧ nng π = 0 := by
  cases π with
  | nil => exact ⟨rfl, rfl, rfl⟩
  | cons x r =>
    have e : x ≠ 2 := fun e => by
      have h : rk x < 3 := h
      rw [e] at h; exact absurd h (by decide)
    exact ⟨by unfold strip; rw [if_neg e], by unfold ngs; rw [if_neg e], by unfold nng; rw [if_neg e]⟩
section
variable (d : Nat) (c : Int → Int) (n w t0 b : Int) (T : TT) (P : Int → AM → Prop) (s0 : Sg)
def Hd2 (s : Sg) : Prop := ∀ l1 : AV, wpI (d + 9) 211 15 [aR 70, l1] [] (mk s T) P
def Fin2 (s : Sg) : Prop := Sm [70, 73, 75] s0 s ∧ (∀ i, i < 7 ∨ i = 12 ∨ i = 14 ∨ 19 ≤ i → s 70 i = s0 70 i) ∧ ∀ i, i < t0 + 145 + 2 * b ∨ t0 + 753 ≤ i → s 73 i = s0 73 i
def EndK (K : List (Int × Int) → List Tok → Prop) : Ans → Prop
  | .inl (cd, l) => K cd l
  | .inr (f, p) => ∀ s, Fin2 t0 b s0 s → s 70 8 = p → 0 ≤ s 70 13 → s 70 13 ≤ 300 → P f (mk s T)
def Q1 (q : List Int) : Prop := q = [] ∨ q = [6] ∨ q = [7]
def Q3 (r : List Int) : Prop := r.length ≤ 2 ∧ ∀ x ∈ r, 4 ≤ x ∧ x ≤ 7
def Mt (k : Nat) (o : Int) (l : List Tok) (a : Ans) : Prop :=
  (k = 0 → ∀ π e s, R2 c n s0 t0 b l π e o 0 s → π.length ≤ 3 * o + 2 → nng π ≤ o → EndK t0 b T P s0 (fun cd l' => ∀ s', R2 c n s0 t0 b l' (strip π) (e ++ cd ++ ngs π) (o - nng π) 1 s' → Hd2 d T P s') a → Hd2 d T P s) ∧
  (k = 1 → ∀ π q e s, R2 c n s0 t0 b l (q ++ π) e o 1 s → Q1 q → topR π ≤ 1 → π.length ≤ 3 * o + 1 → EndK t0 b T P s0 (fun cd l' => ∀ s' q' e', R2 c n s0 t0 b l' (q' ++ π) e' o 1 s' → Q1 q' → e' ++ ops q' = e ++ ops q ++ cd → Hd2 d T P s') a → Hd2 d T P s) ∧
  (k = 2 → ∀ π e s, R2 c n s0 t0 b l π e o 0 s → topR π ≤ 1 → π.length ≤ 3 * o + 1 → EndK t0 b T P s0 (fun cd l' => ∀ s' q' e', R2 c n s0 t0 b l' (q' ++ π) e' o 1 s' → Q1 q' → e' ++ ops q' = e ++ cd → Hd2 d T P s') a → Hd2 d T P s) ∧
  (k = 3 → ∀ π r e s, R2 c n s0 t0 b l (r ++ π) e o 1 s → Q3 r → topR π = 0 → π.length ≤ 3 * o → EndK t0 b T P s0 (fun cd l' => ∀ s' r' e', R2 c n s0 t0 b l' (r' ++ π) e' o 1 s' → Q3 r' → e' ++ ops r' = e ++ ops r ++ cd → Hd2 d T P s') a → Hd2 d T P s) ∧
  (k = 4 → ∀ π e s, R2 c n s0 t0 b l π e o 0 s → topR π = 0 → π.length ≤ 3 * o → EndK t0 b T P s0 (fun cd l' => ∀ s' r' e', R2 c n s0 t0 b l' (r' ++ π) e' o 1 s' → Q3 r' → e' ++ ops r' = e ++ cd → Hd2 d T P s') a → Hd2 d T P s)
end
end
