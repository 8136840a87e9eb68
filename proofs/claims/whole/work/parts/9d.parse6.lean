noncomputable section
set_option maxRecDepth 20000
theorem r2_18 {c : Int → Int} {n t0 b : Int} {s0 s : Sg} {l : List Tok} {π : List Int} {e : List (Int × Int)} {o wh v : Int} (h : R2n c n s0 t0 b l π e o wh s) : R2n c n s0 t0 b l π e o v (up s 70 18 v) := by
  obtain ⟨h1, ⟨h2, h3, h4⟩, ⟨h5, h6⟩, ⟨h7, h8⟩, h9, h10⟩ := h
  exact ⟨tk_c h1 (fun i i0 i1 => by rw [up_i (by omega)]), ⟨sm_u h2 (by simp), fun i hi => by rw [up_i (by omega)]; exact h3 i hi, by rw [up_c (by decide)]; exact h4⟩, ⟨by rw [up_i (by decide)]; exact h5, by rw [up_c (by decide)]; exact h6⟩, ⟨by rw [up_i (by decide)]; exact h7, by rw [up_c (by decide)]; exact h8⟩, by rw [up_i (by decide)]; exact h9, up_s _ _ _ _⟩
theorem r2_17 {c : Int → Int} {n t0 b : Int} {s0 s : Sg} {l : List Tok} {π : List Int} {e : List (Int × Int)} {o wh v : Int} (h : R2n c n s0 t0 b l π e o wh s) : R2n c n s0 t0 b l π e v wh (up s 70 17 v) := by
  obtain ⟨h1, ⟨h2, h3, h4⟩, ⟨h5, h6⟩, ⟨h7, h8⟩, h9, h10⟩ := h
  exact ⟨tk_c h1 (fun i i0 i1 => by rw [up_i (by omega)]), ⟨sm_u h2 (by simp), fun i hi => by rw [up_i (by omega)]; exact h3 i hi, by rw [up_c (by decide)]; exact h4⟩, ⟨by rw [up_i (by decide)]; exact h5, by rw [up_c (by decide)]; exact h6⟩, ⟨by rw [up_i (by decide)]; exact h7, by rw [up_c (by decide)]; exact h8⟩, up_s _ _ _ _, by rw [up_i (by decide)]; exact h10⟩
theorem r2_push {c : Int → Int} {n t0 b : Int} {s0 s : Sg} {l : List Tok} {π : List Int} {e : List (Int × Int)} {o wh x : Int} (h : R2n c n s0 t0 b l π e o wh s) : R2n c n s0 t0 b l (x :: π) e o wh (up (up s 75 π.length x) 70 16 (π.length + 1)) := by
  obtain ⟨h1, ⟨h2, h3, h4⟩, ⟨h5, h6⟩, ⟨h7, h8⟩, h9, h10⟩ := h
  exact ⟨tk_c h1 (fun i i0 i1 => by rw [up_i (by omega), up_c (by decide)]), ⟨sm_u (sm_u h2 (by simp)) (by simp), fun i hi => by rw [up_i (by omega), up_c (by decide)]; exact h3 i hi, by rw [up_c (by decide), up_c (by decide)]; exact h4⟩, ⟨by rw [up_s]; simp, by rw [up_c (by decide)]; exact stk_p rfl h6⟩, ⟨by rw [up_i (by decide), up_c (by decide)]; exact h7, by rw [up_c (by decide), up_c (by decide)]; exact h8⟩, by rw [up_i (by decide), up_c (by decide)]; exact h9, by rw [up_i (by decide), up_c (by decide)]; exact h10⟩
theorem r2_pop {c : Int → Int} {n t0 b : Int} {s0 s : Sg} {l : List Tok} {π : List Int} {e : List (Int × Int)} {o wh x : Int} (h : R2n c n s0 t0 b l (x :: π) e o wh s) : R2n c n s0 t0 b l π e o wh (up s 70 16 π.length) := by
  obtain ⟨h1, ⟨h2, h3, h4⟩, ⟨h5, h6⟩, ⟨h7, h8⟩, h9, h10⟩ := h
  exact ⟨tk_c h1 (fun i i0 i1 => by rw [up_i (by omega)]), ⟨sm_u h2 (by simp), fun i hi => by rw [up_i (by omega)]; exact h3 i hi, by rw [up_c (by decide)]; exact h4⟩, ⟨up_s _ _ _ _, by rw [up_c (by decide)]; exact h6.2⟩, ⟨by rw [up_i (by decide)]; exact h7, by rw [up_c (by decide)]; exact h8⟩, by rw [up_i (by decide)]; exact h9, by rw [up_i (by decide)]; exact h10⟩
section
variable {d : Nat} {c : Int → Int} {n w t0 b : Int} {T : TT} {P : Int → AM → Prop} {s0 : Sg}
/-- back to the loop's head -/
theorem bk33 {s : Sg} {wh : Int} (h : s 70 18 = wh) (hw : wh = 0 ∨ wh = 1) (k : Hd2 d T P s) : wpI (d + 9) 211 33 [aR 70, aU] [aI 0] (mk s T) P := by
  refine g_Mo_summed_33 ?_
  rw [h]
  rcases hw with rfl | rfl
  · exact ct rfl (ct rfl (ct rfl (k _)))
  · exact cf (by decide) (cf (by decide) (ct rfl (k _)))
theorem bk26 {s : Sg} {wh : Int} (h : s 70 18 = wh) (hw : wh = 0 ∨ wh = 1) (k : Hd2 d T P s) : wpI (d + 9) 211 26 [aR 70, aU] [aI 0] (mk s T) P := by
  refine g_Mo_summed_26 ?_
  rw [h]
  rcases hw with rfl | rfl
  · exact ct rfl (ct rfl (ct rfl (k _)))
  · exact cf (by decide) (cf (by decide) (ct rfl (k _)))
theorem er33 {s : Sg} {f : Int} (h : s 70 18 = 0) (hf : f ≠ 0) (k : P f (mk s T)) : wpI (d + 9) 211 33 [aR 70, aU] [aI f] (mk s T) P := by
  refine g_Mo_summed_33 ?_
  rw [h]
  exact ct rfl (cf hf k)
theorem fin_of {s : Sg} {l : List Tok} {π : List Int} {e : List (Int × Int)} {o wh : Int} (h : R2n c n s0 t0 b l π e o wh s) : Fin2 t0 b s0 s := h.2.1
/-- behind one: what was put there goes on the pile's signs that bind it -/
theorem r_whole {s : Sg} {l : List Tok} {π : List Int} {e : List (Int × Int)} {o : Int} {Q : AM → Prop} (cx : Cx c n s0 w t0 b) (h : R2n c n s0 t0 b l π e o 1 s) (hl : π.length ≤ 3 * o + 2) (ho : nng π ≤ o) (o8 : o ≤ 8) (o0 : 0 ≤ o) (hr : b + e.length + π.length + l.length ≤ 300) (k : ∀ s', R2 c n s0 t0 b l (strip π) (e ++ ngs π) (o - nng π) 1 s' → Q (mk s' T)) : wpV (d + 1) 214 0 [aR 70, aI 3] [] (mk s T) Q := by
  obtain ⟨q, h1, h2, h3, h4, h5⟩ := strip_q π
  have lq : π.length = q.length + (strip π).length := by rw [← List.length_append, ← h1]
  rw [h1] at h
  refine r_settle2 (π := strip π) cx (by omega) (by omega) h5 q e o s (fun x hx => by rw [h2 x hx]; decide) h (by rw [← h1]; omega) (by omega) (by rw [h4]; omega) o8 (fun x _ _ y hy => h2 y hy) (fun s' hs' => k s' ?_)
  rw [h3, h4] at hs'
  refine ⟨hs', ?_⟩
  have : (ngs π).length = q.length := by rw [← h3]; unfold ops; simp
  rw [List.length_append, this]; omega
theorem r_sum {k : Nat} {o : Int} {l : List Tok} {a : Ans} (cx : Cx c n s0 w t0 b) (w0 : 0 ≤ w) (w4 : w < 4) (hp : Prs w n k o l a) : 0 ≤ o → o ≤ 8 → Mt d c n t0 b T P s0 k o l a := by
  have nn : ∀ {j : Nat} {A : Prop} {i : Nat}, j ≠ i → (j = i → A) := fun h e => absurd e h
  have b0 := cx.b0
  -- an opening sign
  have opn : ∀ {o st x y : Int} {l : List Tok} {π : List Int} {e : List (Int × Int)} {s : Sg}, 0 ≤ o → o < 8 → R2 c n s0 t0 b ((3, x, st) :: l) π e o 0 s → (x = 40 ∧ y = 40 ∨ x = 124 ∧ y = 41 ∨ x = 45 ∧ y = 2) → π.length ≤ 3 * o + 2 → (∀ s', R2 c n s0 t0 b l (y :: π) e (o + 1) 0 s' → Hd2 d T P s') → Hd2 d T P s := by
    intro o st x y l π e s o0 o8 h hxy hl k l1
    obtain ⟨hn, hr⟩ := h
    simp only [List.length_cons] at hr
    have tk : s 70 9 = x := (tk_s hn.1 (by unfold gs; omega)).mpr ⟨st, l, rfl⟩
    refine g_Mo_summed_15 (ct hn.2.2.2.2.2 (g_Mo_beginOne_0 ?_))
    rw [tk]
    refine cf (by omega) (g_Mo_nameOf_0 (d := d + 3) ?_)
    rw [tk]
    refine cf (by omega) (g_Mo_beginOne_24 ?_)
    rw [tk]
    have op : ∀ (Q : Int → AM → Prop), (∀ s', R2 c n s0 t0 b l (y :: π) e (o + 1) 0 s' → Q 0 (mk s' T)) → wpI (d + 7) 221 0 [aR 70, aI y] [] (mk s T) Q := fun Q kq => by
      refine g_Mo_opened_0 ?_
      rw [hn.2.2.2.2.1, hn.2.2.1.1, w32_id (x := o + 1) (by omega) (by omega), w32_id (x := (π.length : Int) + 1) (by omega) (by omega)]
      refine cf (by omega) (ct (by omega) ?_)
      have h2 := r2_push (x := y) (r2_17 (v := o + 1) hn)
      exact r_next2 cx h2 (Or.inr (by show gs x; unfold gs; omega)) (fun s' hs' => g_Mo_opened_45 (kq s' ⟨hs', by simp only [List.length_cons]; omega⟩))
    refine ct (by omega) (cf (by omega) (ct (by omega) ?_))
    rcases hxy with ⟨rfl, rfl⟩ | ⟨rfl, rfl⟩ | ⟨rfl, rfl⟩
    · exact ct rfl (op _ (fun s' hs' => g_Mo_beginOne_115 (bk33 hs'.1.2.2.2.2.2 (Or.inl rfl) (k s' hs'))))
    · exact cf (by omega) (ct rfl (op _ (fun s' hs' => g_Mo_beginOne_133 (bk33 hs'.1.2.2.2.2.2 (Or.inl rfl) (k s' hs')))))
    · exact cf (by omega) (cf (by omega) (ct rfl (op _ (fun s' hs' => g_Mo_beginOne_150 (bk33 hs'.1.2.2.2.2.2 (Or.inl rfl) (k s' hs'))))))
  -- an operator
  have opr : ∀ {o st x y least : Int} {l : List Tok} {q π : List Int} {e : List (Int × Int)} {s : Sg}, 0 ≤ o → o ≤ 8 → R2 c n s0 t0 b ((3, x, st) :: l) (q ++ π) e o 1 s → (x = 43 ∧ y = 4 ∧ least = 1 ∨ x = 45 ∧ y = 5 ∧ least = 1 ∨ x = 42 ∧ y = 6 ∧ least = 2 ∨ x = 47 ∧ y = 7 ∧ least = 2) → (∀ z ∈ q, least ≤ rk z ∧ z < 40 ∧ z ≠ 2) → topR π < least → (q ++ π).length ≤ 3 * o + 3 → (∀ s', R2 c n s0 t0 b l (y :: π) (e ++ ops q) o 0 s' → Hd2 d T P s') → Hd2 d T P s := by
    intro o st x y least l q π e s o0 o8 h hxy hq hπ hl k l1
    obtain ⟨hn, hr⟩ := h
    simp only [List.length_cons, List.length_append] at hr hl
    have tk : s 70 9 = x := (tk_s hn.1 (by unfold gs; omega)).mpr ⟨st, l, rfl⟩
    have nq : nng q = 0 := by
      cases q with
      | nil => rfl
      | cons z q => unfold nng; rw [if_neg (hq z List.mem_cons_self).2.2]
    have st_ : wpV (d + 7) 214 0 [aR 70, aI least] [] (mk s T) (fun M' => wpI (d + 7 + 1) 212 68 [aR 70, aI y, aU] [] M' (fun r M' => wpI (d + 8 + 1) 211 26 [aR 70, aU] [aI r] M' P)) := by
      refine r_settle2 cx (by omega) (by omega) hπ q e o s (fun z hz => ⟨(hq z hz).1, (hq z hz).2.1⟩) hn (by simp; omega) (by omega) (by rw [nq]; omega) o8 (fun z hz hz2 => absurd hz2 (hq z hz).2.2) (fun s1 h1 => g_Mo_behindOne_68 ?_)
      rw [nq, Int.sub_zero] at h1
      rw [h1.2.2.1.1, w32_id (x := (π.length : Int) + 1) (by omega) (by omega)]
      refine ct (by omega) (r_next2 cx (r2_18 (v := 0) (r2_push (x := y) h1)) (Or.inr (by show gs x; unfold gs; omega)) (fun s2 h2 => g_Mo_behindOne_97 (bk26 h2.2.2.2.2.2 (Or.inl rfl) (k s2 ⟨h2, ?_⟩))))
      have : (ops q).length = q.length := by unfold ops; simp
      simp only [List.length_cons, List.length_append, this]; omega
    refine g_Mo_summed_15 ?_
    rw [hn.2.2.2.2.2]
    refine cf (by omega) (g_Mo_behindOne_0 ?_)
    rw [tk]
    rcases hxy with ⟨rfl, rfl, rfl⟩ | ⟨rfl, rfl, rfl⟩ | ⟨rfl, rfl, rfl⟩ | ⟨rfl, rfl, rfl⟩
    · exact ct rfl st_
    · exact cf (by omega) (ct rfl st_)
    · exact cf (by omega) (cf (by omega) (ct rfl st_))
    · exact cf (by omega) (cf (by omega) (cf (by omega) (ct rfl st_)))
  -- behind a sum that is open
  have cls : ∀ {o st x y : Int} {l : List Tok} {r π : List Int} {e : List (Int × Int)} {s : Sg}, 0 ≤ o → o < 8 → R2 c n s0 t0 b ((3, x, st) :: l) (r ++ y :: π) e (o + 1) 1 s → Q3 r → (x = 41 ∧ y = 40 ∨ x = 124 ∧ y = 41) → π.length ≤ 3 * o + 2 → nng π ≤ o → (∀ s', R2 c n s0 t0 b l (strip π) (e ++ ops r ++ (if y = 41 then [(3, 0)] else []) ++ ngs π) (o - nng π) 1 s' → Hd2 d T P s') → Hd2 d T P s := by
    intro o st x y l r π e s o0 o8 h hr3 hxy hl hng k l1
    obtain ⟨hn, hr⟩ := h
    simp only [List.length_cons, List.length_append] at hr
    have hr3l := hr3.1
    have tk : s 70 9 = x := (tk_s hn.1 (by unfold gs; omega)).mpr ⟨st, l, rfl⟩
    have nq : nng r = 0 := by
      cases r with
      | nil => rfl
      | cons z q => unfold nng; rw [if_neg (by have := hr3.2 z List.mem_cons_self; omega)]
    have lo : (ops r).length = r.length := by unfold ops; simp
    refine g_Mo_summed_15 ?_
    rw [hn.2.2.2.2.2]
    refine cf (by omega) (g_Mo_behindOne_0 ?_)
    rw [tk]
    have o1 : wpI (d + 7) 216 0 [aR 70, aU] [] (mk s T) (fun r M' => wpI (d + 7 + 1) 212 103 [aR 70, aI (-1), aU] [aI r] M' (fun r M' => wpI (d + 8 + 1) 211 26 [aR 70, aU] [aI r] M' P)) := by
      refine r_openAt (π := y :: π) ⟨fun e => by simp at e, fun z t ez => ?_⟩ r (fun z hz => by have := hr3.2 z hz; omega) hn.2.2.1.1 hn.2.2.1.2 (by simp; omega)
      simp only [List.cons.injEq] at ez
      obtain ⟨rfl, rfl⟩ := ez
      refine ⟨by omega, g_Mo_behindOne_103 ?_⟩
      rw [tk]
      have st_ : wpV (d + 7) 214 0 [aR 70, aI 1] [] (mk s T) (fun M' => wpI (d + 7 + 1) 212 141 [aR 70, aI (-1), aI y] [] M' (fun r M' => wpI (d + 8 + 1) 211 26 [aR 70, aU] [aI r] M' P)) := by
        refine r_settle2 (π := y :: π) cx (by omega) (by omega) (by show rk y < 1; unfold rk; rw [if_neg (by omega)]; omega) r e (o + 1) s (fun z hz => by have := hr3.2 z hz; refine ⟨?_, by omega⟩; unfold rk; rw [if_pos (by omega), if_neg (by omega)]; split <;> omega) hn (by simp; omega) (by omega) (by rw [nq]; omega) (by omega) (fun z hz hz2 => by have := hr3.2 z hz; omega) (fun s1 h1 => g_Mo_behindOne_141 ?_)
        rw [nq, Int.sub_zero] at h1
        have h16 : s1 70 16 = π.length + 1 := by rw [h1.2.2.1.1]; simp
        rw [h16, h1.2.2.2.2.1, w32_id (x := (π.length : Int) + 1 - 1) (by omega) (by omega), w32_id (x := o + 1 - 1) (by omega) (by omega), show (π.length : Int) + 1 - 1 = π.length from by omega, show o + 1 - 1 = o from by omega]
        have h2 := r2_17 (v := o) (r2_pop h1)
        generalize up (up s1 70 16 (π.length : Int)) 70 17 o = s2 at *
        refine ci (fun c1 => ?_) (fun c1 => ?_)
        · refine r_emit2 cx h2 (by simp [lo]; omega) (fun s3 h3 _ => g_Mo_behindOne_173 (r_next2 cx h3 (Or.inr (by show gs x; unfold gs; omega)) (fun s4 h4 => g_Mo_behindOne_177 (r_whole (d := d + 6) cx h4 hl hng (by omega) o0 (by simp only [List.length_append, lo, List.length_singleton]; omega) (fun s5 h5 => g_Mo_behindOne_182 (bk26 h5.1.2.2.2.2.2 (Or.inr rfl) (k s5 ?_)))))))
          rw [if_pos c1]; exact h5
        · refine r_next2 cx h2 (Or.inr (by show gs x; unfold gs; omega)) (fun s4 h4 => g_Mo_behindOne_177 (r_whole (d := d + 6) cx h4 hl hng (by omega) o0 (by simp only [List.length_append, lo]; omega) (fun s5 h5 => g_Mo_behindOne_182 (bk26 h5.1.2.2.2.2.2 (Or.inr rfl) (k s5 ?_)))))
          rw [if_neg c1, List.append_nil]; exact h5
      rcases hxy with ⟨rfl, rfl⟩ | ⟨rfl, rfl⟩
      · exact ct rfl (ct rfl st_)
      · exact cf (by omega) (ct rfl (ct rfl st_))
    exact cf (by omega) (cf (by omega) (cf (by omega) (cf (by omega) o1)))
  -- it isn't closed
  have ncl : ∀ {o y : Int} {l : List Tok} {r π : List Int} {e : List (Int × Int)} {s : Sg}, 0 ≤ o → o < 8 → R2 c n s0 t0 b l (r ++ y :: π) e (o + 1) 1 s → Q3 r → (y = 40 ∧ ¬ hdS l 41 ∨ y = 41 ∧ ¬ hdS l 124) → ¬ (hdS l 43 ∨ hdS l 45 ∨ hdS l 42 ∨ hdS l 47) → π.length ≤ 3 * o + 2 → (∀ s', Fin2 t0 b s0 s' → s' 70 8 = plc n l → 0 ≤ s' 70 13 → s' 70 13 ≤ 300 → P 1 (mk s' T)) → Hd2 d T P s := by
    intro o y l r π e s o0 o8 h hr3 hy hno hl k l1
    obtain ⟨hn, hr⟩ := h
    have hr3l := hr3.1
    simp only [List.length_cons, List.length_append] at hr
    have tn : ∀ x : Int, gs x → ¬ hdS l x → s 70 9 ≠ x := fun x gx hx e => hx ((tk_s hn.1 gx).mp e)
    have g43 := tn 43 (by unfold gs; omega) (fun q => hno (Or.inl q))
    have g45 := tn 45 (by unfold gs; omega) (fun q => hno (Or.inr (Or.inl q)))
    have g42 := tn 42 (by unfold gs; omega) (fun q => hno (Or.inr (Or.inr (Or.inl q))))
    have g47 := tn 47 (by unfold gs; omega) (fun q => hno (Or.inr (Or.inr (Or.inr q))))
    have oa : ∀ (D : Nat) (Q : Int → AM → Prop), Q y (mk s T) → wpI D 216 0 [aR 70, aU] [] (mk s T) Q := fun D Q q => by
      refine r_openAt (π := y :: π) ⟨fun e => by simp at e, fun z t ez => ?_⟩ r (fun z hz => by have := hr3.2 z hz; omega) hn.2.2.1.1 hn.2.2.1.2 (by simp; omega)
      simp only [List.cons.injEq] at ez
      obtain ⟨rfl, rfl⟩ := ez
      exact ⟨by omega, q⟩
    have en : wpI (d + 8 + 1) 211 26 [aR 70, aU] [aI 1] (mk s T) P := by
      refine g_Mo_summed_26 ?_
      rw [hn.2.2.2.2.2]
      refine cf (by decide) (cf (by decide) (cf (by decide) (oa _ _ (g_Mo_summed_68 (cf (by omega) (k s (fin_of hn) (tk_p hn.1) (by rw [hn.2.2.2.1.1]; omega) (by rw [hn.2.2.2.1.1]; omega)))))))
    refine g_Mo_summed_15 ?_
    rw [hn.2.2.2.2.2]
    refine cf (by omega) (g_Mo_behindOne_0 (cf g43 (cf g45 (cf g42 (cf g47 (oa _ _ (g_Mo_behindOne_103 ?_)))))))
    rcases hy with ⟨rfl, h41⟩ | ⟨rfl, h124⟩
    · have g41 := tn 41 (by unfold gs; omega) h41
      exact cf g41 (ci (fun _ => cf (by decide) en) (fun _ => en))
    · have g124 := tn 124 (by unfold gs; omega) h124
      exact ci (fun _ => cf (by decide) (cf g124 en)) (fun _ => cf g124 en)
  -- one's fault
  have flt : ∀ {f o : Int} {l : List Tok} {π : List Int} {e : List (Int × Int)} {s : Sg}, R2 c n s0 t0 b l π e o 0 s → (∀ s', Fin2 t0 b s0 s' → s' 70 8 = plc n l → 0 ≤ s' 70 13 → s' 70 13 ≤ 300 → P f (mk s' T)) → P f (mk s T) := fun h k => k _ (fin_of h.1) (tk_p h.1.1) (by rw [h.1.2.2.2.1.1]; omega) (by rw [h.1.2.2.2.1.1]; have := h.2; omega)
  -- a number or a name
  have lit : ∀ {o x y : Int} {t : Tok} {l : List Tok} {π : List Int} {e : List (Int × Int)} {s : Sg} {z : Int}, R2 c n s0 t0 b (t :: l) π e o 0 s → t.1 ≠ 3 → π.length ≤ 3 * o + 2 → nng π ≤ o → o ≤ 8 → 0 ≤ o → (∀ s', R2 c n s0 t0 b l (strip π) (e ++ [(x, y)] ++ ngs π) (o - nng π) 1 s' → Hd2 d T P s') → wpV (d + 7) 215 0 [aR 70, aI x, aI y] [] (mk s T) (fun M' => wpI (d + 7 + 1) 217 84 [aR 70, aI z] [] M' (fun r M' => wpI (d + 8 + 1) 211 33 [aR 70, aU] [aI r] M' P)) := by
    intro o x y t l π e s z h ht hl hng o8 o0 k
    obtain ⟨hn, hr⟩ := h
    simp only [List.length_cons] at hr
    refine r_emit2 cx hn (by omega) (fun s1 h1 _ => g_Mo_beginOne_84 (r_next2 cx h1 (Or.inl ht) (fun s2 h2 => g_Mo_beginOne_88 (r_whole (d := d + 6) cx (r2_18 (v := 1) h2) hl hng o8 o0 (by simp only [List.length_append, List.length_singleton]; omega) (fun s3 h3 => g_Mo_beginOne_98 (bk33 h3.1.2.2.2.2.2 (Or.inr rfl) (k s3 h3)))))))
  induction hp using Prs.ind with
  | num_ v0 v9 =>
    rename_i o v st l
    intro o0 o8
    refine ⟨fun _ π e s h hl hng k l1 => ?_, nn (by decide), nn (by decide), nn (by decide), nn (by decide)⟩
    have tk := h.1.1
    obtain ⟨_, tk⟩ := tk
    rcases tk with ⟨_, a9, a10, am, _⟩ | ⟨q, _⟩ | ⟨q, _⟩
    · have am : v = min 10000 (s 70 10) := am
      have e10 : s 70 10 = v := by omega
      refine g_Mo_summed_15 (ct h.1.2.2.2.2.2 (g_Mo_beginOne_0 ?_))
      rw [a9, e10]
      refine ct rfl (cf (by omega) (g_Mo_nameOf_0 (d := d + 3) ?_))
      rw [a9]
      refine cf (by decide) (g_Mo_beginOne_24 ?_)
      rw [a9, e10]
      exact ct (by decide) (ct rfl (ct rfl (ct rfl (lit h (by show (2 : Int) ≠ 3; decide) hl hng o8 o0 k))))
    · exact absurd (show (2 : Int) = 1 from q) (by decide)
    · exact absurd (show (2 : Int) = 3 from q) (by decide)
  | numF_ v9 =>
    rename_i o v st l
    intro o0 o8
    refine ⟨fun _ π e s h hl hng k l1 => ?_, nn (by decide), nn (by decide), nn (by decide), nn (by decide)⟩
    have tk := h.1.1
    obtain ⟨_, tk⟩ := tk
    rcases tk with ⟨_, a9, a10, am, _⟩ | ⟨q, _⟩ | ⟨q, _⟩
    · have am : v = min 10000 (s 70 10) := am
      refine g_Mo_summed_15 (ct h.1.2.2.2.2.2 (g_Mo_beginOne_0 (ct a9 (ct (by omega) (er33 h.1.2.2.2.2.2 (by decide) (flt h k))))))
    · exact absurd (show (2 : Int) = 1 from q) (by decide)
    · exact absurd (show (2 : Int) = 3 from q) (by decide)
  | name_ m0 m1 ok =>
    rename_i o m st l
    intro o0 o8
    refine ⟨fun _ π e s h hl hng k l1 => ?_, nn (by decide), nn (by decide), nn (by decide), nn (by decide)⟩
    have tk := h.1.1
    obtain ⟨_, tk⟩ := tk
    rcases tk with ⟨q, _⟩ | ⟨_, a9, aw, _⟩ | ⟨q, _⟩
    · exact absurd (show (1 : Int) = 2 from q) (by decide)
    · refine g_Mo_summed_15 (ct h.1.2.2.2.2.2 (g_Mo_beginOne_0 ?_))
      rw [a9]
      refine cf (by decide) (r_nameOf (d := d + 2) a9 aw (fun m' m0' m1' e' => ?_) (fun no => absurd rfl (no m m0 m1)))
      have em : m' = m := by
        have z : ∀ a b : Fin 15, wn (a.1 : Int) = wn (b.1 : Int) → a = b := by decide +kernel
        have e' : wn m' = wn m := e'
        have := z ⟨m'.toNat, by omega⟩ ⟨m.toNat, by omega⟩ (by simp only [show ((m'.toNat : Nat) : Int) = m' from by omega, show ((m.toNat : Nat) : Int) = m from by omega]; exact e')
        have : m'.toNat = m.toNat := by simpa using this
        omega
      subst em
      refine g_Mo_beginOne_24 (cf (by omega) (r_isOf (w := w) (by rw [h.1.2.1.2.1 14 (by omega)]; exact cx.h14) w0 w4 m0 m1 (fun _ => g_Mo_beginOne_34 (cf (by decide) ?_)) (fun nok => absurd ok nok)))
      rw [a9]
      exact cf (by decide) (cf (by omega) (cf (by decide) (cf (by decide) (lit h (by show (1 : Int) ≠ 3; decide) hl hng o8 o0 k))))
    · exact absurd (show (1 : Int) = 3 from q) (by decide)
  | nameF_ m0 m1 nok =>
    rename_i o m st l
    intro o0 o8
    refine ⟨fun _ π e s h hl hng k l1 => ?_, nn (by decide), nn (by decide), nn (by decide), nn (by decide)⟩
    have tk := h.1.1
    obtain ⟨_, tk⟩ := tk
    rcases tk with ⟨q, _⟩ | ⟨_, a9, aw, _⟩ | ⟨q, _⟩
    · exact absurd (show (1 : Int) = 2 from q) (by decide)
    · refine g_Mo_summed_15 (ct h.1.2.2.2.2.2 (g_Mo_beginOne_0 ?_))
      rw [a9]
      refine cf (by decide) (r_nameOf (d := d + 2) a9 aw (fun m' m0' m1' e' => ?_) (fun no => absurd rfl (no m m0 m1)))
      have em : m' = m := by
        have z : ∀ a b : Fin 15, wn (a.1 : Int) = wn (b.1 : Int) → a = b := by decide +kernel
        have e' : wn m' = wn m := e'
        have := z ⟨m'.toNat, by omega⟩ ⟨m.toNat, by omega⟩ (by simp only [show ((m'.toNat : Nat) : Int) = m' from by omega, show ((m.toNat : Nat) : Int) = m from by omega]; exact e')
        have : m'.toNat = m.toNat := by simpa using this
        omega
      subst em
      exact g_Mo_beginOne_24 (cf (by omega) (r_isOf (w := w) (by rw [h.1.2.1.2.1 14 (by omega)]; exact cx.h14) w0 w4 m0 m1 (fun ok => absurd ok nok) (fun _ => g_Mo_beginOne_34 (ct rfl (er33 h.1.2.2.2.2.2 (by decide) (flt h k))))))
    · exact absurd (show (1 : Int) = 3 from q) (by decide)
  | noName_ hno =>
    rename_i o v st l
    intro o0 o8
    refine ⟨fun _ π e s h hl hng k l1 => ?_, nn (by decide), nn (by decide), nn (by decide), nn (by decide)⟩
    have tk := h.1.1
    obtain ⟨_, tk⟩ := tk
    rcases tk with ⟨q, _⟩ | ⟨_, a9, aw, _⟩ | ⟨q, _⟩
    · exact absurd (show (1 : Int) = 2 from q) (by decide)
    · refine g_Mo_summed_15 (ct h.1.2.2.2.2.2 (g_Mo_beginOne_0 ?_))
      rw [a9]
      refine cf (by decide) (r_nameOf (d := d + 2) a9 aw (fun m' m0' m1' e' => absurd e' (hno m' m0' m1')) (fun no => g_Mo_beginOne_24 ?_))
      rw [a9]
      exact ct (by decide) (cf (by decide) (ct (by decide) (cf (by decide) (cf (by decide) (cf (by decide) (er33 h.1.2.2.2.2.2 (by decide) (flt h k)))))))
    · exact absurd (show (1 : Int) = 3 from q) (by decide)
  | none_ ht h40 h124 h45 =>
    rename_i o l
    intro o0 o8
    refine ⟨fun _ π e s h hl hng k l1 => ?_, nn (by decide), nn (by decide), nn (by decide), nn (by decide)⟩
    have tk := h.1.1
    have n1 : s 70 9 ≠ 1 ∧ s 70 9 ≠ 2 := by
      cases l with
      | nil => have := tk.1; omega
      | cons t r =>
        have := ht t r rfl
        obtain ⟨_, tk⟩ := tk
        rcases tk with ⟨q, _⟩ | ⟨q, _⟩ | ⟨_, q | q⟩
        · exact absurd q this.2
        · exact absurd q this.1
        · have g := q.1
          unfold gs at g
          have := q.2.1
          omega
        · have := q.2.2; omega
    have g40 : s 70 9 ≠ 40 := fun q => h40 ((tk_s tk (by unfold gs; omega)).mp q)
    have g124 : s 70 9 ≠ 124 := fun q => h124 ((tk_s tk (by unfold gs; omega)).mp q)
    have g45 : s 70 9 ≠ 45 := fun q => h45 ((tk_s tk (by unfold gs; omega)).mp q)
    exact g_Mo_summed_15 (ct h.1.2.2.2.2.2 (g_Mo_beginOne_0 (cf n1.1 (g_Mo_nameOf_0 (d := d + 3) (cf n1.2 (g_Mo_beginOne_24 (ct (by decide) (cf n1.1 (ct (by decide) (cf g40 (cf g124 (cf g45 (er33 h.1.2.2.2.2.2 (by decide) (flt h k))))))))))))))
  | deep_ hb ho =>
    rename_i o x st l
    intro o0 o8
    refine ⟨fun _ π e s h hl hng k l1 => ?_, nn (by decide), nn (by decide), nn (by decide), nn (by decide)⟩
    have tk : s 70 9 = x := (tk_s h.1.1 (by unfold gs; omega)).mpr ⟨st, l, rfl⟩
    have o17 := h.1.2.2.2.2.1
    have fl := flt h k
    refine g_Mo_summed_15 (ct h.1.2.2.2.2.2 (g_Mo_beginOne_0 ?_))
    rw [tk]
    refine cf (by omega) (g_Mo_nameOf_0 (d := d + 3) ?_)
    rw [tk]
    refine cf (by omega) (g_Mo_beginOne_24 ?_)
    rw [tk]
    refine ct (by decide) (cf (by omega) (ct (by decide) ?_))
    rcases hb with rfl | rfl | rfl
    · exact ct rfl (g_Mo_opened_0 (ct (by omega) (g_Mo_beginOne_115 (er33 h.1.2.2.2.2.2 (by decide) fl))))
    · exact cf (by decide) (ct rfl (g_Mo_opened_0 (ct (by omega) (g_Mo_beginOne_133 (er33 h.1.2.2.2.2.2 (by decide) fl)))))
    · exact cf (by decide) (cf (by decide) (ct rfl (g_Mo_opened_0 (ct (by omega) (g_Mo_beginOne_150 (er33 h.1.2.2.2.2.2 (by decide) fl))))))
  | neg_ o7 _ ih =>
    rename_i o st l l' cd hpp
    intro o0 o8
    refine ⟨fun _ π e s h hl hng k => ?_, nn (by decide), nn (by decide), nn (by decide), nn (by decide)⟩
    have en : nng (2 :: π) = 1 + nng π := by unfold nng; rw [if_pos rfl]; cases π <;> rfl
    refine opn o0 o7 h (Or.inr (Or.inr ⟨rfl, rfl⟩)) hl (fun s1 h1 => (ih (by omega) (by omega)).1 rfl (2 :: π) e s1 h1 (by simp only [List.length_cons]; omega) (by rw [en]; omega) (fun s2 h2 => k s2 ?_))
    rw [en, show strip (2 :: π) = strip π from by unfold strip; rw [if_pos rfl]; cases π <;> rfl, show ngs (2 :: π) = (2, 0) :: ngs π from by unfold ngs; rw [if_pos rfl]; cases π <;> rfl, show o + 1 - (1 + nng π) = o - nng π from by omega] at h2
    rw [show e ++ (cd ++ [(2, 0)]) ++ ngs π = e ++ cd ++ (2, 0) :: ngs π from by simp]
    exact h2
  | negF_ o7 _ ih =>
    intro o0 o8
    refine ⟨fun _ π e s h hl hng k => ?_, nn (by decide), nn (by decide), nn (by decide), nn (by decide)⟩
    have en : nng (2 :: π) = 1 + nng π := by unfold nng; rw [if_pos rfl]; cases π <;> rfl
    exact opn o0 o7 h (Or.inr (Or.inr ⟨rfl, rfl⟩)) hl (fun s1 h1 => (ih (by omega) (by omega)).1 rfl (2 :: π) e s1 h1 (by simp only [List.length_cons]; omega) (by rw [en]; omega) k)
  | par_ o7 _ ih =>
    intro o0 o8
    refine ⟨fun _ π e s h hl hng k => ?_, nn (by decide), nn (by decide), nn (by decide), nn (by decide)⟩
    refine opn o0 o7 h (Or.inl ⟨rfl, rfl⟩) hl (fun s1 h1 => (ih (by omega) (by omega)).2.2.2.2 rfl (40 :: π) e s1 h1 (show rk 40 = 0 by decide) (by simp only [List.length_cons]; omega) (fun s2 r' e' h2 hq he => cls o0 o7 h2 hq (Or.inl ⟨rfl, rfl⟩) hl hng (fun s3 h3 => k s3 ?_)))
    rw [he, if_neg (by decide), List.append_nil] at h3
    exact h3
  | bar_ o7 _ ih =>
    rename_i o st st' l l' cd hpp
    intro o0 o8
    refine ⟨fun _ π e s h hl hng k => ?_, nn (by decide), nn (by decide), nn (by decide), nn (by decide)⟩
    refine opn o0 o7 h (Or.inr (Or.inl ⟨rfl, rfl⟩)) hl (fun s1 h1 => (ih (by omega) (by omega)).2.2.2.2 rfl (41 :: π) e s1 h1 (show rk 41 = 0 by decide) (by simp only [List.length_cons]; omega) (fun s2 r' e' h2 hq he => cls o0 o7 h2 hq (Or.inr ⟨rfl, rfl⟩) hl hng (fun s3 h3 => k s3 ?_)))
    rw [he, if_pos rfl] at h3
    rw [show e ++ (cd ++ [(3, 0)]) ++ ngs π = e ++ cd ++ [(3, 0)] ++ ngs π from by simp]
    exact h3
  | inF_ hb o7 _ ih =>
    intro o0 o8
    refine ⟨fun _ π e s h hl hng k => ?_, nn (by decide), nn (by decide), nn (by decide), nn (by decide)⟩
    rcases hb with rfl | rfl
    · exact opn o0 o7 h (Or.inl ⟨rfl, rfl⟩) hl (fun s1 h1 => (ih (by omega) (by omega)).2.2.2.2 rfl (40 :: π) e s1 h1 (show rk 40 = 0 by decide) (by simp only [List.length_cons]; omega) k)
    · exact opn o0 o7 h (Or.inr (Or.inl ⟨rfl, rfl⟩)) hl (fun s1 h1 => (ih (by omega) (by omega)).2.2.2.2 rfl (41 :: π) e s1 h1 (show rk 41 = 0 by decide) (by simp only [List.length_cons]; omega) k)
  | parN_ o7 _ hn hno ih =>
    intro o0 o8
    refine ⟨fun _ π e s h hl hng k => ?_, nn (by decide), nn (by decide), nn (by decide), nn (by decide)⟩
    exact opn o0 o7 h (Or.inl ⟨rfl, rfl⟩) hl (fun s1 h1 => (ih (by omega) (by omega)).2.2.2.2 rfl (40 :: π) e s1 h1 (show rk 40 = 0 by decide) (by simp only [List.length_cons]; omega) (fun s2 r' e' h2 hq he => ncl o0 o7 h2 hq (Or.inl ⟨rfl, hn⟩) hno hl k))
  | barN_ o7 _ hn hno ih =>
    intro o0 o8
    refine ⟨fun _ π e s h hl hng k => ?_, nn (by decide), nn (by decide), nn (by decide), nn (by decide)⟩
    exact opn o0 o7 h (Or.inr (Or.inl ⟨rfl, rfl⟩)) hl (fun s1 h1 => (ih (by omega) (by omega)).2.2.2.2 rfl (41 :: π) e s1 h1 (show rk 41 = 0 by decide) (by simp only [List.length_cons]; omega) (fun s2 r' e' h2 hq he => ncl o0 o7 h2 hq (Or.inr ⟨rfl, hn⟩) hno hl k))
  | t0_ =>
    intro o0 o8
    refine ⟨nn (by decide), fun _ π q e s h hq hπ hl k => k s q e h hq (by simp), nn (by decide), nn (by decide), nn (by decide)⟩
  | t1_ hb _ _ ih1 ih2 =>
    rename_i o x st l l1 cd a h1 h2
    intro o0 o8
    refine ⟨nn (by decide), fun _ π q e s h hq hπ hl k => ?_, nn (by decide), nn (by decide), nn (by decide)⟩
    have lq : q.length ≤ 1 := by rcases hq with rfl | rfl | rfl <;> decide
    have hqz : ∀ z ∈ q, 2 ≤ rk z ∧ z < 40 ∧ z ≠ 2 := fun z hz => by
      rcases hq with rfl | rfl | rfl
      · exact absurd hz List.not_mem_nil
      · rw [List.mem_singleton.mp hz]; decide
      · rw [List.mem_singleton.mp hz]; decide
    have oo : opc x = 6 ∨ opc x = 7 := by rcases hb with rfl | rfl <;> decide
    refine opr (y := opc x) (least := 2) o0 o8 h (by rcases hb with rfl | rfl; exact Or.inr (Or.inr (Or.inl ⟨rfl, rfl, rfl⟩)); exact Or.inr (Or.inr (Or.inr ⟨rfl, rfl, rfl⟩))) hqz (by omega) (by simp only [List.length_append]; omega) (fun s1 r1 => ?_)
    have tr : topR (opc x :: π) < 3 := by show rk (opc x) < 3; rcases oo with e | e <;> rw [e] <;> decide
    obtain ⟨z1, z2, z3⟩ := strip_0 tr
    refine (ih1 o0 o8).1 rfl (opc x :: π) (e ++ ops q) s1 r1 (by simp only [List.length_cons]; omega) (by rw [z3]; exact o0) (fun s2 r2 => ?_)
    rw [z1, z2, z3, Int.sub_zero, List.append_nil] at r2
    refine (ih2 o0 o8).2.1 rfl π [opc x] (e ++ ops q ++ cd) s2 r2 (by rcases oo with e | e <;> rw [e]; exact Or.inr (Or.inl rfl); exact Or.inr (Or.inr rfl)) hπ hl ?_
    cases a with
    | inl xy =>
      obtain ⟨cd', l'⟩ := xy
      refine fun s3 q' e' r3 hq' he => k s3 q' e' r3 hq' ?_
      rw [he]
      simp [ops]
    | inr xy => exact k
  | t1F_ hb _ ih =>
    rename_i o x st f p l h1
    intro o0 o8
    refine ⟨nn (by decide), fun _ π q e s h hq hπ hl k => ?_, nn (by decide), nn (by decide), nn (by decide)⟩
    have lq : q.length ≤ 1 := by rcases hq with rfl | rfl | rfl <;> decide
    have hqz : ∀ z ∈ q, 2 ≤ rk z ∧ z < 40 ∧ z ≠ 2 := fun z hz => by
      rcases hq with rfl | rfl | rfl
      · exact absurd hz List.not_mem_nil
      · rw [List.mem_singleton.mp hz]; decide
      · rw [List.mem_singleton.mp hz]; decide
    have oo : opc x = 6 ∨ opc x = 7 := by rcases hb with rfl | rfl <;> decide
    refine opr (y := opc x) (least := 2) o0 o8 h (by rcases hb with rfl | rfl; exact Or.inr (Or.inr (Or.inl ⟨rfl, rfl, rfl⟩)); exact Or.inr (Or.inr (Or.inr ⟨rfl, rfl, rfl⟩))) hqz (by omega) (by simp only [List.length_append]; omega) (fun s1 r1 => ?_)
    have tr : topR (opc x :: π) < 3 := by show rk (opc x) < 3; rcases oo with e | e <;> rw [e] <;> decide
    obtain ⟨z1, z2, z3⟩ := strip_0 tr
    exact (ih o0 o8).1 rfl (opc x :: π) (e ++ ops q) s1 r1 (by simp only [List.length_cons]; omega) (by rw [z3]; exact o0) k
  | pr_ _ _ ih1 ih2 =>
    rename_i o l l1 cd a h1 h2
    intro o0 o8
    refine ⟨nn (by decide), nn (by decide), fun _ π e s h hπ hl k => ?_, nn (by decide), nn (by decide)⟩
    obtain ⟨z1, z2, z3⟩ := strip_0 (π := π) (by omega)
    refine (ih1 o0 o8).1 rfl π e s h (by omega) (by rw [z3]; exact o0) (fun s2 r2 => ?_)
    rw [z1, z2, z3, Int.sub_zero, List.append_nil] at r2
    refine (ih2 o0 o8).2.1 rfl π [] (e ++ cd) s2 r2 (Or.inl rfl) hπ hl ?_
    cases a with
    | inl xy =>
      obtain ⟨cd', l'⟩ := xy
      refine fun s3 q' e' r3 hq' he => k s3 q' e' r3 hq' ?_
      rw [he]
      simp [ops]
    | inr xy => exact k
  | prF_ _ ih =>
    intro o0 o8
    refine ⟨nn (by decide), nn (by decide), fun _ π e s h hπ hl k => ?_, nn (by decide), nn (by decide)⟩
    obtain ⟨z1, z2, z3⟩ := strip_0 (π := π) (by omega)
    exact (ih o0 o8).1 rfl π e s h (by omega) (by rw [z3]; exact o0) k
  | s0_ =>
    intro o0 o8
    refine ⟨nn (by decide), nn (by decide), nn (by decide), fun _ π r e s h hq hπ hl k => k s r e h hq (by simp), nn (by decide)⟩
  | s1_ hb _ _ ih1 ih2 =>
    rename_i o x st l l1 cd a h1 h2
    intro o0 o8
    refine ⟨nn (by decide), nn (by decide), nn (by decide), fun _ π r e s h hq hπ hl k => ?_, nn (by decide)⟩
    have oo : opc x = 4 ∨ opc x = 5 := by rcases hb with rfl | rfl <;> decide
    have hql := hq.1
    refine opr (y := opc x) (least := 1) o0 o8 h (by rcases hb with rfl | rfl; exact Or.inl ⟨rfl, rfl, rfl⟩; exact Or.inr (Or.inl ⟨rfl, rfl, rfl⟩)) (fun z hz => by have := hq.2 z hz; refine ⟨?_, by omega, by omega⟩; unfold rk; rw [if_pos (by omega), if_neg (by omega)]; split <;> omega) (by omega) (by simp only [List.length_append]; omega) (fun s1 r1 => ?_)
    refine (ih1 o0 o8).2.2.1 rfl (opc x :: π) (e ++ ops r) s1 r1 (by show rk (opc x) ≤ 1; rcases oo with e | e <;> rw [e] <;> decide) (by simp only [List.length_cons]; omega) (fun s2 q' e' r2 hq' he' => ?_)
    have lq : q'.length ≤ 1 := by rcases hq' with rfl | rfl | rfl <;> decide
    refine (ih2 o0 o8).2.2.2.1 rfl π (q' ++ [opc x]) e' s2 (by rw [List.append_assoc]; exact r2) ⟨by simp only [List.length_append, List.length_singleton]; omega, fun z hz => ?_⟩ hπ hl ?_
    · rcases List.mem_append.mp hz with hz | hz
      · rcases hq' with rfl | rfl | rfl
        · exact absurd hz List.not_mem_nil
        · rw [List.mem_singleton.mp hz]; decide
        · rw [List.mem_singleton.mp hz]; decide
      · rw [List.mem_singleton.mp hz]; rcases oo with e | e <;> rw [e] <;> decide
    · cases a with
      | inl xy =>
        obtain ⟨cd', l'⟩ := xy
        refine fun s3 r' e'' r3 hq3 he => k s3 r' e'' r3 hq3 ?_
        rw [he, show ops (q' ++ [opc x]) = ops q' ++ [(opc x, 0)] from by simp [ops], ← List.append_assoc, he']
        simp
      | inr xy => exact k
  | s1F_ hb _ ih =>
    rename_i o x st f p l h1
    intro o0 o8
    refine ⟨nn (by decide), nn (by decide), nn (by decide), fun _ π r e s h hq hπ hl k => ?_, nn (by decide)⟩
    have oo : opc x = 4 ∨ opc x = 5 := by rcases hb with rfl | rfl <;> decide
    have hql := hq.1
    refine opr (y := opc x) (least := 1) o0 o8 h (by rcases hb with rfl | rfl; exact Or.inl ⟨rfl, rfl, rfl⟩; exact Or.inr (Or.inl ⟨rfl, rfl, rfl⟩)) (fun z hz => by have := hq.2 z hz; refine ⟨?_, by omega, by omega⟩; unfold rk; rw [if_pos (by omega), if_neg (by omega)]; split <;> omega) (by omega) (by simp only [List.length_append]; omega) (fun s1 r1 => ?_)
    exact (ih o0 o8).2.2.1 rfl (opc x :: π) (e ++ ops r) s1 r1 (by show rk (opc x) ≤ 1; rcases oo with e | e <;> rw [e] <;> decide) (by simp only [List.length_cons]; omega) k
  | sm_ _ _ ih1 ih2 =>
    rename_i o l l1 cd a h1 h2
    intro o0 o8
    refine ⟨nn (by decide), nn (by decide), nn (by decide), nn (by decide), fun _ π e s h hπ hl k => ?_⟩
    refine (ih1 o0 o8).2.2.1 rfl π e s h (by omega) (by omega) (fun s2 q' e' r2 hq' he' => ?_)
    have lq : q'.length ≤ 1 := by rcases hq' with rfl | rfl | rfl <;> decide
    refine (ih2 o0 o8).2.2.2.1 rfl π q' e' s2 r2 ⟨by omega, fun z hz => ?_⟩ hπ hl ?_
    · rcases hq' with rfl | rfl | rfl
      · exact absurd hz List.not_mem_nil
      · rw [List.mem_singleton.mp hz]; decide
      · rw [List.mem_singleton.mp hz]; decide
    · cases a with
      | inl xy =>
        obtain ⟨cd', l'⟩ := xy
        refine fun s3 r' e'' r3 hq3 he => k s3 r' e'' r3 hq3 ?_
        rw [he, he']
        simp
      | inr xy => exact k
  | smF_ _ ih =>
    intro o0 o8
    refine ⟨nn (by decide), nn (by decide), nn (by decide), nn (by decide), fun _ π e s h hπ hl k => ?_⟩
    exact (ih o0 o8).2.2.1 rfl π e s h (by omega) (by omega) k
end
end
