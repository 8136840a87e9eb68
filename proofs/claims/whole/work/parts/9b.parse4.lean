noncomputable section
set_option maxRecDepth 20000
/-! the reference reads a sum -/
theorem cr_a {c : Int → Int} : ∀ {i : Int} {a b : List (Int × Int)}, CodeRf c i (a ++ b) ↔ CodeRf c i a ∧ CodeRf c (i + 2 * a.length) b
  | i, [], b => by simp [CodeRf]
  | i, x :: a, b => by
    have := cr_a (c := c) (i := i + 2) (a := a) (b := b)
    simp only [List.cons_append, CodeRf, this, List.length_cons]
    rw [show i + 2 + 2 * (a.length : Int) = i + 2 * ((a.length + 1 : Nat) : Int) from by omega, and_assoc, and_assoc]
theorem cr_c {c c' : Int → Int} : ∀ {i : Int} {a : List (Int × Int)}, (∀ j, i ≤ j → j < i + 2 * a.length → c' j = c j) → CodeRf c i a → CodeRf c' i a
  | _, [], _, _ => trivial
  | i, x :: a, h, ⟨h1, h2, h3⟩ => ⟨by rw [h i (Int.le_refl _) (by rw [List.length_cons]; omega)]; exact h1, by rw [h (i + 1) (by omega) (by rw [List.length_cons]; omega)]; exact h2, cr_c (fun j j0 j1 => h j (by omega) (by rw [List.length_cons]; omega)) h3⟩
def rk (x : Int) : Int := if x < 40 then (if x = 2 then 3 else if x < 6 then 1 else 2) else 0
def topR : List Int → Int
  | [] => 0
  | x :: _ => rk x
def ops (q : List Int) : List (Int × Int) := q.map (fun x => (x, 0))
def strip : List Int → List Int
  | [] => []
  | x :: r => if x = 2 then strip r else x :: r
def ngs : List Int → List (Int × Int)
  | [] => []
  | x :: r => if x = 2 then (2, 0) :: ngs r else []
def nng : List Int → Int
  | [] => 0
  | x :: r => if x = 2 then 1 + nng r else 0
theorem nng_0 : ∀ q : List Int, 0 ≤ nng q
  | [] => Int.le_refl _
  | x :: r => by
    have := nng_0 r
    unfold nng; split <;> omega
/-- what stays the same all the while -/
def Cx (c : Int → Int) (n : Int) (s0 : Sg) (w t0 b : Int) : Prop := (n ≤ 300) ∧ (∀ i, 0 ≤ i → i < n → s0 74 i = c i ∧ 0 ≤ c i ∧ c i < 256) ∧ (s0 70 4 = n) ∧ (s0 70 12 = t0) ∧ (0 ≤ t0) ∧ (t0 ≤ 2259) ∧ (s0 70 14 = w) ∧ (0 ≤ b)
theorem Cx.n3 {c : Int → Int} {n : Int} {s0 : Sg} {w t0 b : Int} (h : Cx c n s0 w t0 b) : n ≤ 300 := h.1
theorem Cx.hc {c : Int → Int} {n : Int} {s0 : Sg} {w t0 b : Int} (h : Cx c n s0 w t0 b) : ∀ i, 0 ≤ i → i < n → s0 74 i = c i ∧ 0 ≤ c i ∧ c i < 256 := h.2.1
theorem Cx.h4 {c : Int → Int} {n : Int} {s0 : Sg} {w t0 b : Int} (h : Cx c n s0 w t0 b) : s0 70 4 = n := h.2.2.1
theorem Cx.h12 {c : Int → Int} {n : Int} {s0 : Sg} {w t0 b : Int} (h : Cx c n s0 w t0 b) : s0 70 12 = t0 := h.2.2.2.1
theorem Cx.t1 {c : Int → Int} {n : Int} {s0 : Sg} {w t0 b : Int} (h : Cx c n s0 w t0 b) : 0 ≤ t0 := h.2.2.2.2.1
theorem Cx.t2 {c : Int → Int} {n : Int} {s0 : Sg} {w t0 b : Int} (h : Cx c n s0 w t0 b) : t0 ≤ 2259 := h.2.2.2.2.2.1
theorem Cx.h14 {c : Int → Int} {n : Int} {s0 : Sg} {w t0 b : Int} (h : Cx c n s0 w t0 b) : s0 70 14 = w := h.2.2.2.2.2.2.1
theorem Cx.b0 {c : Int → Int} {n : Int} {s0 : Sg} {w t0 b : Int} (h : Cx c n s0 w t0 b) : 0 ≤ b := h.2.2.2.2.2.2.2
def R2n (c : Int → Int) (n : Int) (s0 : Sg) (t0 b : Int) (l : List Tok) (π : List Int) (e : List (Int × Int)) (o wh : Int) (s : Sg) : Prop :=
  TKr c n s l ∧ (Sm [70, 73, 75] s0 s ∧ (∀ i, i < 7 ∨ i = 12 ∨ i = 14 ∨ 19 ≤ i → s 70 i = s0 70 i) ∧ ∀ i, i < t0 + 145 + 2 * b ∨ t0 + 753 ≤ i → s 73 i = s0 73 i) ∧ (s 70 16 = π.length ∧ StkAt (s 75) π) ∧ (s 70 13 = b + e.length ∧ CodeRf (s 73) (t0 + 145 + 2 * b) e) ∧ (s 70 17 = o ∧ s 70 18 = wh)
def R2 (c : Int → Int) (n : Int) (s0 : Sg) (t0 b : Int) (l : List Tok) (π : List Int) (e : List (Int × Int)) (o wh : Int) (s : Sg) : Prop := R2n c n s0 t0 b l π e o wh s ∧ b + e.length + π.length + l.length ≤ 300
theorem tk_c {c : Int → Int} {n : Int} {s s' : Sg} {l : List Tok} (h : TKr c n s l) (e : ∀ i, 7 ≤ i → i ≤ 11 → s' 70 i = s 70 i) : TKr c n s' l := by
  cases l with
  | nil => unfold TKr; rw [e 9 (by omega) (by omega), e 8 (by omega) (by omega)]; exact h
  | cons t l => unfold TKr; rw [e 9 (by omega) (by omega), e 8 (by omega) (by omega), e 10 (by omega) (by omega), e 11 (by omega) (by omega), e 7 (by omega) (by omega)]; exact h
theorem tk_p {c : Int → Int} {n : Int} {s : Sg} {l : List Tok} (h : TKr c n s l) : s 70 8 = plc n l := by
  cases l with
  | nil => exact h.2
  | cons t l => exact h.1
theorem tk_s {c : Int → Int} {n : Int} {s : Sg} {l : List Tok} (h : TKr c n s l) {b : Int} (hb : gs b) : s 70 9 = b ↔ hdS l b := by
  have hb' := hb
  unfold gs at hb'
  cases l with
  | nil =>
    have := h.1
    exact ⟨fun q => by omega, fun ⟨_, _, e⟩ => by simp at e⟩
  | cons t l =>
    obtain ⟨t1, t2, t3⟩ := t
    obtain ⟨_, h⟩ := h
    constructor
    · intro q
      rcases h with ⟨_, h, _⟩ | ⟨_, h, _⟩ | ⟨e1, h | ⟨_, h, _⟩⟩
      · omega
      · omega
      · have e1 : t1 = 3 := e1
        have e2 : s 70 9 = t2 := h.2.1
        exact ⟨t3, l, by rw [e1, ← e2, q]⟩
      · rw [q] at h; exact absurd hb h
    · rintro ⟨st, r, e⟩
      simp only [List.cons.injEq, Prod.mk.injEq] at e
      obtain ⟨⟨rfl, rfl, rfl⟩, rfl⟩ := e
      rcases h with ⟨h, _⟩ | ⟨h, _⟩ | ⟨_, h | ⟨h, _⟩⟩
      · exact absurd (show (3 : Int) = 2 from h) (by decide)
      · exact absurd (show (3 : Int) = 1 from h) (by decide)
      · exact h.2.1
      · exact absurd hb h
theorem tk_l {c : Int → Int} {n : Int} {s : Sg} {t : Tok} {l : List Tok} (h : TKr c n s (t :: l)) (hg : t.1 ≠ 3 ∨ gs t.2.1) : 0 ≤ s 70 7 ∧ Lex c n (s 70 7) l := by
  obtain ⟨_, h⟩ := h
  rcases h with ⟨_, _, _, _, h⟩ | ⟨_, _, _, h⟩ | ⟨e1, h | ⟨h, _⟩⟩
  · exact h
  · exact h
  · exact h.2.2
  · rcases hg with hg | hg
    · exact absurd e1 hg
    · exact absurd hg h
theorem r_next2 {d : Nat} {c : Int → Int} {n w t0 b : Int} {T : TT} {P : AM → Prop} {s0 s : Sg} {t : Tok} {l : List Tok} {π : List Int} {e : List (Int × Int)} {o wh : Int} (cx : Cx c n s0 w t0 b) (h : R2n c n s0 t0 b (t :: l) π e o wh s) (hg : t.1 ≠ 3 ∨ gs t.2.1) (k : ∀ s', R2n c n s0 t0 b l π e o wh s' → P (mk s' T)) : wpV (d + 1) 190 0 [aR 70, aU] [] (mk s T) P := by
  obtain ⟨h1, ⟨h2, h3, h4⟩, ⟨h5, h6⟩, ⟨h7, h8⟩, h9, h10⟩ := h
  have lx := tk_l h1 hg
  refine r_nextToken (s0 := s) cx.n3 (fun i i0 i1 => by rw [h2 74 (by decide)]; exact cx.hc i i0 i1) lx.2 s (rtk_r s) (by rw [h3 4 (by omega)]; exact cx.h4) rfl lx.1 (fun s' rt tk => k s' ⟨tk, ⟨?_, fun i hi => ?_, ?_⟩, ⟨?_, ?_⟩, ⟨?_, ?_⟩, ?_, ?_⟩)
  · exact sm_t h2 (sm_m rt.1 (by simp))
  · rw [rt.2 i (by omega)]; exact h3 i hi
  · rw [rt.1 73 (by decide)]; exact h4
  · rw [rt.2 16 (by omega)]; exact h5
  · rw [rt.1 75 (by decide)]; exact h6
  · rw [rt.2 13 (by omega)]; exact h7
  · rw [rt.1 73 (by decide)]; exact h8
  · rw [rt.2 17 (by omega)]; exact h9
  · rw [rt.2 18 (by omega)]; exact h10
/-- one sign of code more -/
theorem r_emit2 {d : Nat} {c : Int → Int} {n w t0 b : Int} {T : TT} {P : AM → Prop} {s0 s : Sg} {l : List Tok} {π : List Int} {e : List (Int × Int)} {o wh x y : Int} (cx : Cx c n s0 w t0 b) (h : R2n c n s0 t0 b l π e o wh s) (hr : b + e.length < 300) (k : ∀ s', R2n c n s0 t0 b l π (e ++ [(x, y)]) o wh s' → s' 75 = s 75 → P (mk s' T)) : wpV d 215 0 [aR 70, aI x, aI y] [] (mk s T) P := by
  obtain ⟨h1, ⟨h2, h3, h4⟩, ⟨h5, h6⟩, ⟨h7, h8⟩, h9, h10⟩ := h
  have c1 := cx.t1
  have c2 := cx.t2
  have c3 := cx.b0
  refine g_Mo_emit_0 ?_
  rw [h3 12 (by omega), cx.h12, h7, w32_id (x := t0 + 145) (by omega) (by omega), w32_id (x := 2 * (b + (e.length : Int))) (by omega) (by omega), w32_id (x := t0 + 145 + 2 * (b + (e.length : Int))) (by omega) (by omega), w32_id (x := t0 + 145 + 2 * (b + (e.length : Int)) + 1) (by omega) (by omega), w32_id (x := b + (e.length : Int) + 1) (by omega) (by omega)]
  refine ct (by omega) (ct (by omega) (k _ ⟨tk_c h1 (fun i i0 i1 => by rw [up_i (by omega), up_c (by decide), up_c (by decide)]), ⟨sm_u (sm_u (sm_u h2 (by simp)) (by simp)) (by simp), fun i hi => ?_, fun i hi => ?_⟩, ⟨?_, ?_⟩, ⟨?_, ?_⟩, ?_, ?_⟩ (by rw [up_c (by decide), up_c (by decide), up_c (by decide)])))
  · rw [up_i (by omega), up_c (by decide), up_c (by decide)]; exact h3 i hi
  · rw [up_c (by decide), up_i (by omega), up_i (by omega)]; exact h4 i hi
  · rw [up_i (by decide), up_c (by decide), up_c (by decide)]; exact h5
  · rw [up_c (by decide), up_c (by decide), up_c (by decide)]; exact h6
  · rw [up_s]; simp; omega
  · rw [cr_a]
    refine ⟨cr_c (fun j j0 j1 => by rw [up_c (by decide), up_i (by omega), up_i (by omega)]) h8, ?_, ?_, trivial⟩
    · rw [up_c (by decide), up_i (by omega), show t0 + 145 + 2 * b + 2 * (e.length : Int) = t0 + 145 + 2 * (b + (e.length : Int)) from by omega, up_s]
    · rw [up_c (by decide), show t0 + 145 + 2 * b + 2 * (e.length : Int) + 1 = t0 + 145 + 2 * (b + (e.length : Int)) + 1 from by omega, up_s]
  · rw [up_i (by decide), up_c (by decide), up_c (by decide)]; exact h9
  · rw [up_i (by decide), up_c (by decide), up_c (by decide)]; exact h10
/-- the pile is settled: q goes, what is below stays -/
def okx (x : Int) : Prop := x = 2 ∨ (4 ≤ x ∧ x ≤ 7) ∨ x = 40 ∨ x = 41
theorem r_settle2 {d : Nat} {c : Int → Int} {n w t0 b : Int} {T : TT} {P : AM → Prop} {s0 : Sg} {l : List Tok} {π : List Int} {wh least : Int} (cx : Cx c n s0 w t0 b) (l1 : 1 ≤ least) (l3 : least ≤ 3) (hπ : topR π < least) : ∀ (q : List Int) (e : List (Int × Int)) (o : Int) (s : Sg), (∀ x ∈ q, least ≤ rk x ∧ x < 40) → R2n c n s0 t0 b l (q ++ π) e o wh s → (q ++ π).length ≤ 100 → b + e.length + q.length ≤ 300 → 0 ≤ o - nng q → o ≤ 8 → (∀ x ∈ q, x = 2 → ∀ y ∈ q, y = 2) → (∀ s', R2n c n s0 t0 b l π (e ++ ops q) (o - nng q) wh s' → P (mk s' T)) → wpV (d + 1) 214 0 [aR 70, aI least] [] (mk s T) P := by
  intro q
  induction q with
  | nil =>
    intro e o s hq h hl hr ho o8 hm k
    have k' := k s (by simpa [ops, nng] using h)
    have hs := h.2.2.1
    refine g_Mo_settlePile_0 ?_
    cases π with
    | nil =>
      have h16 : s 70 16 = 0 := hs.1
      exact cf (by omega) k'
    | cons x r =>
      have h16 : s 70 16 = r.length + 1 := by rw [hs.1]; simp
      have hx : s 75 r.length = x := hs.2.1
      simp only [List.nil_append, List.length_cons] at hl
      rw [h16, w32_id (x := (r.length : Int) + 1 - 1) (by omega) (by omega), show (r.length : Int) + 1 - 1 = r.length from by omega, hx]
      have hπ : rk x < least := hπ
      unfold rk at hπ
      refine ct (by omega) (ct (by omega) (ci (fun c1 => ci (fun c2 => ?_) (fun c2 => ci (fun c3 => ?_) (fun c3 => ?_))) (fun c1 => ct (by omega) k')))
      · rw [if_pos c1, if_pos c2] at hπ; exact ct (by omega) k'
      · rw [if_pos c1, if_neg c2, if_pos c3] at hπ; exact ct (by omega) k'
      · rw [if_pos c1, if_neg c2, if_neg c3] at hπ; exact ct (by omega) k'
  | cons x r ih =>
    intro e o s hq h hl hr ho o8 hm k
    have hs := h.2.2.1
    simp only [List.cons_append, List.length_cons] at hl hr
    have h16 : s 70 16 = (r ++ π).length + 1 := by rw [hs.1]; simp
    have hx : s 75 (r ++ π).length = x := hs.2.1
    have hx1 := hq x List.mem_cons_self
    have hx2 := hx1.1
    unfold rk at hx2
    refine g_Mo_settlePile_0 ?_
    rw [h16, w32_id (x := ((r ++ π).length : Int) + 1 - 1) (by omega) (by omega), show ((r ++ π).length : Int) + 1 - 1 = (r ++ π).length from by omega, hx]
    have h' : R2n c n s0 t0 b l (r ++ π) e o wh (up s 70 16 ((r ++ π).length : Int)) := by
      obtain ⟨h1, ⟨h2, h3, h4⟩, ⟨h5, h6⟩, ⟨h7, h8⟩, h9, h10⟩ := h
      refine ⟨tk_c h1 (fun i i0 i1 => by rw [up_i (by omega)]), ⟨sm_u h2 (by simp), fun i hi => by rw [up_i (by omega)]; exact h3 i hi, by rw [up_c (by decide)]; exact h4⟩, ⟨up_s _ _ _ _, by rw [up_c (by decide)]; exact h6.2⟩, ⟨by rw [up_i (by decide)]; exact h7, by rw [up_c (by decide)]; exact h8⟩, by rw [up_i (by decide)]; exact h9, by rw [up_i (by decide)]; exact h10⟩
    have hx' : up s 70 16 ((r ++ π).length : Int) 75 (r ++ π).length = x := by rw [up_c (by decide)]; exact hx
    generalize up s 70 16 ((r ++ π).length : Int) = s1 at *
    have go : wpV d 215 0 [aR 70, aI x, aI 0] [] (mk s1 T) (fun M' => wpV (d + 1) 214 49 [aR 70, aI least] [] M' P) := by
      refine r_emit2 cx h' (by omega) (fun s2 h2 e2 => g_Mo_settlePile_49 ?_)
      rw [h2.2.2.1.1, e2, hx']
      refine ct (by simp only [List.length_append] at hl ⊢; omega) (ci (fun c2 => ?_) (fun c2 => ?_))
      · have all2 : ∀ y ∈ r, y = 2 := fun y hy => hm x List.mem_cons_self c2 y (List.mem_cons_of_mem _ hy)
        have en : nng (x :: r) = 1 + nng r := by unfold nng; rw [if_pos c2]; cases r <;> rfl
        rw [en] at ho
        have n0 := nng_0 r
        rw [h2.2.2.2.2.1, w32_id (x := o - 1) (by omega) (by omega)]
        have h3 : R2n c n s0 t0 b l (r ++ π) (e ++ [(x, 0)]) (o - 1) wh (up s2 70 17 (o - 1)) := by
          obtain ⟨h1, ⟨h2, h3, h4⟩, ⟨h5, h6⟩, ⟨h7, h8⟩, h9, h10⟩ := h2
          exact ⟨tk_c h1 (fun i i0 i1 => by rw [up_i (by omega)]), ⟨sm_u h2 (by simp), fun i hi => by rw [up_i (by omega)]; exact h3 i hi, by rw [up_c (by decide)]; exact h4⟩, ⟨by rw [up_i (by decide)]; exact h5, by rw [up_c (by decide)]; exact h6⟩, ⟨by rw [up_i (by decide)]; exact h7, by rw [up_c (by decide)]; exact h8⟩, up_s _ _ _ _, by rw [up_i (by decide)]; exact h10⟩
        refine ih (e ++ [(x, 0)]) (o - 1) _ (fun y hy => hq y (List.mem_cons_of_mem _ hy)) h3 (by omega) (by simp; omega) (by omega) (by omega) (fun y hy hy2 z hz => all2 z hz) (fun s' hs' => k s' ?_)
        rw [en]
        rw [show e ++ ops (x :: r) = e ++ [(x, 0)] ++ ops r from by simp [ops], show o - (1 + nng r) = o - 1 - nng r from by omega]
        exact hs'
      · have n2 : ∀ y ∈ r, y ≠ 2 := fun y hy hy2 => c2 (hm y (List.mem_cons_of_mem _ hy) hy2 x List.mem_cons_self)
        have en : nng (x :: r) = 0 := by unfold nng; rw [if_neg c2]
        have er : nng r = 0 := by
          cases r with
          | nil => rfl
          | cons y r => unfold nng; rw [if_neg (n2 y List.mem_cons_self)]
        refine ih (e ++ [(x, 0)]) o s2 (fun y hy => hq y (List.mem_cons_of_mem _ hy)) h2 (by omega) (by simp; omega) (by rw [er]; rw [en] at ho; exact ho) o8 (fun y hy hy2 z hz => absurd hy2 (n2 y hy)) (fun s' hs' => k s' ?_)
        rw [en]
        rw [er] at hs'
        rw [show e ++ ops (x :: r) = e ++ [(x, 0)] ++ ops r from by simp [ops]]
        exact hs'
    simp only [List.length_append] at hl
    have lr : ((r ++ π).length : Int) = r.length + π.length := by simp
    refine ct (by omega) (ct (by omega) (ct hx1.2 (ci (fun c2 => ?_) (fun c2 => ci (fun c3 => ?_) (fun c3 => ?_)))))
    · exact cf (by omega) (ct (by omega) go)
    · rw [if_pos hx1.2, if_neg c2, if_pos c3] at hx2; exact cf (by omega) (ct (by omega) go)
    · rw [if_pos hx1.2, if_neg c2, if_neg c3] at hx2; exact cf (by omega) (ct (by omega) go)
end
