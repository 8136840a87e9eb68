noncomputable section
set_option maxRecDepth 20000
/-! the reference reads a law's clause -/
def Fl (s s' : Sg) (x t0 b : Int) : Prop := Sm [70, 73, 75] s s' ∧ (∀ i, i < 7 ∨ i = 12 ∨ i = 14 ∨ 19 ≤ i → s' 70 i = s 70 i) ∧ ∀ i, i < x + 1 ∨ (x + 3 ≤ i ∧ i < t0 + 145 + 2 * b) ∨ t0 + 753 ≤ i → s' 73 i = s 73 i
theorem cr_u {c : Int → Int} {i : Int} {a : List (Int × Int)} {s : Sg} {j v : Int} (h : CodeRf (s 73) i a) (hj : j < i) : CodeRf (up s 73 j v 73) i a := cr_c (fun k k0 _ => up_i (by omega)) h
theorem r_summed {d : Nat} {c : Int → Int} {n w t0 b : Int} {s : Sg} {T : TT} {P : Int → AM → Prop} {l : List Tok} {a : Ans} (cx : Cx c n s w t0 b) (w0 : 0 ≤ w) (w4 : w < 4) (hp : Prs w n 4 0 l a) (hno : ∀ cd r, a = .inl (cd, r) → nop r) (tk : TKr c n s l) (h13 : s 70 13 = b) (hl : b + l.length ≤ 300) (ok : ∀ cd r s', a = .inl (cd, r) → TKr c n s' r → Fin2 t0 b s s' → s' 70 13 = b + cd.length → CodeRf (s' 73) (t0 + 145 + 2 * b) cd → P 0 (mk s' T)) (er : ∀ f p s', a = .inr (f, p) → Fin2 t0 b s s' → s' 70 8 = p → P f (mk s' T)) : wpI (d + 9) 211 0 [aR 70, aU] [] (mk s T) P := by
  refine g_Mo_summed_0 ?_
  have r2 : R2 c n s t0 b l [] [] 0 0 (up (up (up s 70 16 0) 70 17 0) 70 18 0) := by
    refine ⟨⟨tk_c tk (fun i i0 i1 => by rw [up_i (by omega), up_i (by omega), up_i (by omega)]), ⟨sm_u (sm_u (sm_u (sm_r _ _) (by simp)) (by simp)) (by simp), fun i hi => by rw [up_i (by omega), up_i (by omega), up_i (by omega)], fun i hi => by rw [up_c (by decide), up_c (by decide), up_c (by decide)]⟩, ⟨by rw [up_i (by decide), up_i (by decide), up_s]; rfl, trivial⟩, ⟨by rw [up_i (by decide), up_i (by decide), up_i (by decide)]; simpa using h13, trivial⟩, by rw [up_i (by decide), up_s], up_s _ _ _ _⟩, by simp; omega⟩
  have m := (r_sum (d := d) (T := T) (P := P) cx w0 w4 hp (Int.le_refl _) (by omega)).2.2.2.2 rfl [] [] _ r2 rfl (by simp)
  refine m ?_ aU
  cases a with
  | inr xy => obtain ⟨f, p⟩ := xy; exact fun s' hf h8 _ _ => er f p s' rfl hf h8
  | inl xy =>
    obtain ⟨cd, r⟩ := xy
    intro s' r' e' h q3 ee l1
    have no := hno cd r rfl
    obtain ⟨hn, hr⟩ := h
    have q3l := q3.1
    simp only [List.append_nil, List.nil_append] at hn hr ee
    have tn : ∀ x : Int, gs x → ¬ hdS r x → s' 70 9 ≠ x := fun x gx hx e => hx ((tk_s hn.1 gx).mp e)
    have g43 := tn 43 (by unfold gs; omega) (fun q => no (Or.inl q))
    have g45 := tn 45 (by unfold gs; omega) (fun q => no (Or.inr (Or.inl q)))
    have g42 := tn 42 (by unfold gs; omega) (fun q => no (Or.inr (Or.inr (Or.inl q))))
    have g47 := tn 47 (by unfold gs; omega) (fun q => no (Or.inr (Or.inr (Or.inr q))))
    have oa : ∀ (D : Nat) (Q : Int → AM → Prop), Q (-1) (mk s' T) → wpI D 216 0 [aR 70, aU] [] (mk s' T) Q := fun D Q q => by
      refine r_openAt (π := []) ⟨fun _ => q, fun z t ez => by simp at ez⟩ r' (fun z hz => by have := q3.2 z hz; omega) (by simpa using hn.2.2.1.1) (by simpa using hn.2.2.1.2) (by simp; omega)
    have nq : nng r' = 0 := by
      cases r' with
      | nil => rfl
      | cons z q => unfold nng; rw [if_neg (by have := q3.2 z List.mem_cons_self; omega)]
    have en : wpI (d + 8 + 1) 211 26 [aR 70, aU] [aI 1] (mk s' T) P := by
      refine g_Mo_summed_26 ?_
      rw [hn.2.2.2.2.2]
      refine cf (by decide) (cf (by decide) (cf (by decide) (oa _ _ (g_Mo_summed_68 (ct (by omega) ?_)))))
      refine r_settle2 (π := []) cx (by omega) (by omega) (by decide) r' e' 0 s' (fun z hz => by have := q3.2 z hz; refine ⟨?_, by omega⟩; unfold rk; rw [if_pos (by omega), if_neg (by omega)]; split <;> omega) (by simpa using hn) (by simp; omega) (by omega) (by rw [nq]; omega) (by omega) (fun z hz hz2 => by have := q3.2 z hz; omega) (fun s1 h1 => g_Mo_summed_78 ?_)
      rw [ee] at h1
      exact ok cd r s1 rfl h1.1 h1.2.1 h1.2.2.2.1.1 h1.2.2.2.1.2
    refine g_Mo_summed_15 ?_
    rw [hn.2.2.2.2.2]
    refine cf (by omega) (g_Mo_behindOne_0 (cf g43 (cf g45 (cf g42 (cf g47 (oa _ _ (g_Mo_behindOne_103 ?_)))))))
    exact ci (fun _ => cf (by decide) (ci (fun _ => cf (by decide) en) (fun _ => en))) (fun _ => ci (fun _ => cf (by decide) en) (fun _ => en))
theorem r_law {d : Nat} {c : Int → Int} {n w x t0 b : Int} {s : Sg} {T : TT} {P : Int → AM → Prop} {l : List Tok} {a : Ans} (cx : Cx c n s w t0 b) (w0 : 0 ≤ w) (w4 : w < 4) (hp : Prs w n 4 0 l a) (hno : ∀ cd r, a = .inl (cd, r) → nop r) (tk : TKr c n s l) (h13 : s 70 13 = b) (hl : b + l.length ≤ 300) (x0 : t0 + 1 ≤ x) (x1 : x + 6 ≤ t0 + 145) (ok : ∀ cd r s', a = .inl (cd, r) → TKr c n s' r → Fl s s' x t0 b → s' 73 (x + 1) = b → s' 73 (x + 2) = b + cd.length → s' 70 13 = b + cd.length → CodeRf (s' 73) (t0 + 145 + 2 * b) cd → P 0 (mk s' T)) (er : ∀ f p s', a = .inr (f, p) → Fl s s' x t0 b → s' 70 8 = p → P f (mk s' T)) : wpI (d + 11) 203 0 [aR 70, aI w, aI x] [] (mk s T) P := by
  have c1 := cx.t1
  have c2 := cx.t2
  have c3 := cx.b0
  refine g_Mo_body_0 (cf (by omega) (cf (by omega) (cf (by omega) (cf (by omega) (cf (by omega) (cf (by omega) (cf (by omega) (cf (by omega) (cf (by omega) (g_Mo_lawClause_0 ?_))))))))))
  rw [w32_id (x := x + 1) (by omega) (by omega), h13]
  refine ct (by omega) ?_
  have cx' : Cx c n (up s 73 (x + 1) b) w t0 b := ⟨cx.n3, by rw [up_c (by decide)]; exact cx.hc, by rw [up_c (by decide)]; exact cx.h4, by rw [up_c (by decide)]; exact cx.h12, c1, c2, by rw [up_c (by decide)]; exact cx.h14, c3⟩
  have fl : ∀ s', Fin2 t0 b (up s 73 (x + 1) b) s' → ∀ v, Fl s (up s' 73 (x + 2) v) x t0 b := fun s' f v => by
    refine ⟨sm_u (sm_t (sm_u (sm_r _ _) (by simp)) f.1) (by simp), fun i hi => ?_, fun i hi => ?_⟩
    · rw [up_c (by decide), f.2.1 i hi, up_c (by decide)]
    · rw [up_i (by omega), f.2.2 i (by omega), up_i (by omega)]
  refine r_summed (d := d) cx' w0 w4 hp hno (tk_c tk (fun i _ _ => by rw [up_c (by decide)])) (by rw [up_c (by decide)]; exact h13) hl (fun cd r s' ea tk' f e13 cr => g_Mo_lawClause_16 ?_) (fun f p s' ea ff h8 => g_Mo_lawClause_16 ?_)
  · rw [w32_id (x := x + 2) (by omega) (by omega), e13]
    refine ct (by omega) (g_Mo_body_132 (ok cd r _ ea (tk_c tk' (fun i _ _ => by rw [up_c (by decide)])) (fl s' f _) ?_ (up_s _ _ _ _) (by rw [up_c (by decide)]; exact e13) (cr_u (c := c) cr (by omega))))
    rw [up_i (by omega), f.2.2 _ (by omega), up_s]
  · rw [w32_id (x := x + 2) (by omega) (by omega)]
    exact ct (by omega) (g_Mo_body_132 (er f p _ ea (fl s' ff _) (by rw [up_c (by decide)]; exact h8)))
end
