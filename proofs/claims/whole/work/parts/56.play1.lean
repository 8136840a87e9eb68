noncomputable section
theorem retK_iff {rt : Nat} {r : AV} {k : List AV → Prop} {S : List AV} (hk : retK rt r k S) : ∃ s, k s ∧ ∀ k' : List AV → Prop, retK rt r k' S ↔ k' s := by
  unfold retK at hk ⊢
  cases rt with
  | zero => exact ⟨S, hk, fun _ => Iff.rfl⟩
  | succ t =>
    dsimp only at hk ⊢
    cases hb : Nat.beq r.1 t <;> rw [hb] at hk
    · exact hk.elim
    · exact ⟨_, hk, fun k' => Iff.rfl⟩
theorem wpF_iff : ∀ (n d m pc : Nat) (L S : List AV) (M : AM) (Q : AV → AM → Prop), wpF n d m pc L S M Q → ∃ r M', ∀ Q' : AV → AM → Prop, wpF n d m pc L S M Q' ↔ Q' r M' := by
  intro n
  induction n with
  | zero => intro d m pc L S M Q h; exact absurd h id
  | succ n ih =>
    intro d m pc L S M Q h
    simp only [wpF_s] at h ⊢
    generalize act (fetch m pc).1 (kL m pc L) S M = a at h ⊢
    rcases a with ⟨p, l, s, M1⟩ | ⟨r, M1⟩ | ⟨y, l, nx, s, rt⟩ | _
    · exact ih _ _ _ _ _ _ _ h
    · exact ⟨r, M1, fun _ => Iff.rfl⟩
    · cases d with
      | zero => exact absurd h id
      | succ d =>
        obtain ⟨r1, M1, h1⟩ := ih _ _ _ _ _ _ _ h
        obtain ⟨s2, h2, k2⟩ := retK_iff ((h1 _).mp h)
        obtain ⟨r3, M3, h3⟩ := ih _ _ _ _ _ _ _ h2
        refine ⟨r3, M3, fun Q' => ?_⟩
        show wpF n d y 0 l [] M _ ↔ _
        rw [h1, k2, h3]
    · exact absurd h id
theorem wp_and {d m pc : Nat} {L S : List AV} {M : AM} {A B : AV → AM → Prop} (ha : wp d m pc L S M A) (hb : wp d m pc L S M B) : ∃ r M', A r M' ∧ B r M' := by
  obtain ⟨n1, h1⟩ := ha
  obtain ⟨n2, h2⟩ := hb
  have h1 := wpF_le (Nat.le_add_right n1 n2) h1
  have h2 := wpF_le (Nat.le_add_left n2 n1) h2
  obtain ⟨r, M', q⟩ := wpF_iff _ _ _ _ _ _ _ _ h1
  exact ⟨r, M', (q _).mp h1, (q _).mp h2⟩
theorem wpI_and {D m pc : Nat} {L S : List AV} {M : AM} {r : Int} {M' : AM} {R : Int → AM → Prop} (h : ∀ Q : Int → AM → Prop, Q r M' → wpI D m pc L S M Q) (k : wpI D m pc L S M R) : R r M' := by
  obtain ⟨x, N, h1, h2⟩ := wp_and (h (fun x N => x = r ∧ N = M') ⟨rfl, rfl⟩) k
  obtain ⟨xt, xv⟩ := x
  revert h1 h2
  show brK (Nat.beq xt 0) (xv = r ∧ N = M') False → brK (Nat.beq xt 0) (R xv N) False → _
  cases Nat.beq xt 0
  · exact fun q _ => q.elim
  · rintro ⟨rfl, rfl⟩ q; exact q
/-- what an answer may be, and that the texts are as many as before -/
def Ra (g : Sg) (r : Int) (M : AM) : Prop := -1 ≤ r ∧ M.1 3 13 = g 3 13
def Rb (g : Sg) (r : Int) (M : AM) : Prop := (r = 0 ∨ r = 1) ∧ M.1 3 13 = g 3 13
def Rc (g : Sg) (_ : Int) (M : AM) : Prop := M.1 3 13 = g 3 13
theorem ra_i {g s : Sg} {T : TT} {r : Int} (h : -1 ≤ r) (k : s 3 13 = g 3 13) : Ra g r (mk s T) := ⟨h, k⟩
theorem rb_i {g s : Sg} {T : TT} {r : Int} (h : r = 0 ∨ r = 1) (k : s 3 13 = g 3 13) : Rb g r (mk s T) := ⟨h, k⟩
theorem rc_i {g s : Sg} {T : TT} {r : Int} (k : s 3 13 = g 3 13) : Rc g r (mk s T) := k
theorem s_heart {e : Nat} {g h : Sg} {T : TT} {tx : Int → TA} {B x : Int} (hr : Rl g h T tx B) : wpI (e + 60) 2 0 [aR 2, aI x] [] (mk g T) (Ra g) := by
  have hn := hr.1.1.1.1
  have n : Ra g (-1) (mk g T) := ra_i (by omega) rfl
  refine g_Af_heart_0 ?_
  rw [w32_id (x := g 3 0 + 1) (by omega) (by omega), w32_id (x := g 3 0 + 1 - 1) (by omega) (by omega)]
  exact ci (fun _ => n) (fun _ => ci (fun _ => n) (fun _ => ci (fun _ => ct (by omega) (ra_i (by omega) (by rw [up_i (by decide), up_c (by decide)]))) (fun _ => n)))
theorem s_deed {e : Nat} {g h : Sg} {T : TT} {tx : Int → TA} {B x1 x2 x3 x4 x5 : Int} (hr : Rl g h T tx B) : wpI (e + 60) 4 0 [aR 2, aI x1, aI x2, aI x3, aI x4, aI x5] [] (mk g T) (Ra g) := by
  have hn := hr.1.1.1.2.1
  have n : Ra g (-1) (mk g T) := ra_i (by omega) rfl
  have mid : wpI (e + 59) 57 0 [aR 3, aI x1, aI x2, aI x3, aI x4, aI x5] [] (mk g T) (fun r M' => wpI (e + 59 + 1) 4 76 [aR 2, aI x1, aI x2, aI x3, aI x4, aI x5] [aI r] M' (Ra g)) := by
    refine g_Told_addDeed_0 ?_
    rw [w32_id (x := g 3 2 + 1) (by omega) (by omega), w32_id (x := g 3 2 + 1 - 1) (by omega) (by omega)]
    exact ci (fun _ => ct (by omega) (ct (by omega) (ct (by omega) (ct (by omega) (ct (by omega) (ct (by omega) (g_Af_deed_76 (ra_i (by omega) (by rw [up_i (by decide), up_c (by decide), up_c (by decide), up_c (by decide), up_c (by decide), up_c (by decide), up_c (by decide)]))))))))) (fun _ => g_Af_deed_76 n)
  refine g_Af_deed_0 ?_
  (repeat' (first | exact mid | exact n | refine ci (fun _ => ?_) (fun _ => ?_)))
theorem s_judge {e : Nat} {g h : Sg} {T : TT} {tx : Int → TA} {B x : Int} (hr : Rl g h T tx B) : wpI (e + 60) 7 0 [aR 2, aI x] [] (mk g T) (Ra g) := by
  have hn := hr.1.1.1.2.2.1
  have n : Ra g (-1) (mk g T) := ra_i (by omega) rfl
  refine g_Af_judge_0 ?_
  rw [w32_id (x := g 3 9 + 1) (by omega) (by omega), w32_id (x := g 3 9 + 1 - 1) (by omega) (by omega)]
  exact ci (fun _ => n) (fun _ => ci (fun _ => n) (fun _ => ci (fun _ => ct (by omega) (ra_i (by omega) (by rw [up_i (by decide), up_c (by decide)]))) (fun _ => n)))
theorem s_lend {e : Nat} {g h : Sg} {T : TT} {tx : Int → TA} {B x y z : Int} (hr : Rl g h T tx B) : wpI (e + 60) 16 0 [aR 2, aI x, aI y, aI z, aU] [] (mk g T) (Rb g) := by
  have hn := hr.1.1.1.1
  have ht := hr.2.2.2.2.1
  have n : Rb g 0 (mk g T) := rb_i (by omega) rfl
  refine g_Af_lend_0 (ci (fun _ => n) (fun _ => ci (fun _ => ci (fun _ => n) (fun _ => ci (fun _ => ci (fun _ => n) (fun _ => ci (fun _ => n) (fun _ => ci (fun _ => n) (fun _ => ?_)))) (fun _ => n))) (fun _ => n)))
  rw [w32_id (x := x * 6) (by omega) (by omega), w32_id (x := x * 6 + y) (by omega) (by omega)]
  exact ct (by omega) (ci (fun _ => n) (fun _ => c_keep ⟨ht.1.1, ht.1.2.1⟩ ht.2.1 (fun g1 ck => g_Af_lend_58 (ct (by omega) (rb_i (by omega) (by rw [up_c (by decide), ck.1 3 (by decide)]))))))
theorem s_weigh {e : Nat} {g h : Sg} {T : TT} {tx : Int → TA} {B x : Int} (hr : Rl g h T tx B) : wpI (e + 60) 17 0 [aR 2, aI x] [] (mk g T) (Rc g) := by
  have hn := hr.1.1.1.1
  have ht := hr.2.2.2.2.1
  have n : Rc g (-100000) (mk g T) := rc_i rfl
  refine g_Af_weigh_0 (ci (fun _ => n) (fun c1 => ci (fun c2 => ?_) (fun _ => n)))
  refine c_keep ⟨ht.1.1, ht.1.2.1⟩ ht.2.1 (fun g1 ck => ?_)
  exact g_Af_weigh_25 (c_take (td_ck hr.1 ck) (by omega) (by rw [ck.1 3 (by decide)]; exact c2) (fun g2 hs hm => g_Af_weigh_33 (rc_i (by rw [hs 3 (by decide), ck.1 3 (by decide)]))))
theorem s_lay {e : Nat} {g h : Sg} {T : TT} {tx : Int → TA} {B x : Int} (hr : Rl g h T tx B) : wpI (e + 60) 18 0 [aR 2, aI x] [] (mk g T) (Rc g) := by
  have hd := hr.1.1.1.2.1
  have ht := hr.2.2.2.2.1
  have hsk := hr.2.2.2.1.1
  have n0 : wpI (e + 59 + 1) 18 8 [aR 2, aI x] [aI 0] (mk g T) (Rc g) := g_Af_lay_8 (ct rfl (rc_i rfl))
  refine g_Af_lay_0 (g_Scale_canPut_0 (ci (fun c => n0) (fun c0 => ci (fun c => n0) (fun c1 => ci (fun c2 => ct (by omega) (ci (fun c3 => ?_) (fun c => n0))) (fun c => n0)))))
  have hsk' : SK (g 3 0) (g 16) := hsk.resolve_left c0
  refine ci (fun c4 => g_Af_lay_8 (cf (by omega) ?_)) (fun c4 => n0)
  rw [has_0 hsk'.2.1.1 (by omega) (by omega)] at c4
  refine c_keep ⟨ht.1.1, ht.1.2.1⟩ ht.2.1 (fun g1 ck => ?_)
  exact g_Af_lay_25 (c_put (td_ck hr.1 ck) (by rw [ck.1 3 (by decide), ck.1 16 (by decide)]; exact hsk') (by omega) (by rw [ck.1 3 (by decide)]; exact c2) (by rw [ck.1 16 (by decide)]; exact c4) (fun g2 hs hm => g_Af_lay_33 (rc_i (by rw [hs 3 (by decide), ck.1 3 (by decide)]))))
theorem s_answer {e : Nat} {g h : Sg} {T : TT} {tx : Int → TA} {B x y : Int} (hy : y = 0 ∨ y = 1) (hr : Rl g h T tx B) : wpI (e + 60) 19 0 [aR 2, aI x, aI y] [] (mk g T) (Ra g) := by
  have hj := hr.1.1.1.2.2.1
  have ht := hr.2.2.2.2.1
  have hsk := hr.2.2.2.1.1
  have n : Ra g (-1) (mk g T) := ra_i (by omega) rfl
  refine g_Af_answer_0 (ci (fun _ => n) (fun c0 => ci (fun _ => n) (fun c1 => ci (fun c2 => ci (fun c3 => ?_) (fun _ => n)) (fun _ => n))))
  have hsk := hsk.resolve_left c0
  rw [has_0 hsk.2.2.1.1 (by omega) (by omega)] at c3
  refine c_keep ⟨ht.1.1, ht.1.2.1⟩ ht.2.1 (fun g1 ck => ?_)
  refine g_Af_answer_24 (c_weightyKinds (td_ck hr.1 ck) (fun g2 hs2 => ?_))
  have e32 : g2 3 = g 3 := by rw [hs2 3 (by decide), ck.1 3 (by decide)]
  have e162 : g2 16 = g 16 := by rw [hs2 16 (by decide), ck.1 16 (by decide)]
  exact g_Af_answer_44 (c_reply (td_m (td_ck hr.1 ck) hs2 (by decide)) (by rw [e32, e162]; exact hsk) (by omega) (by rw [e32]; exact c2) (by rw [e162]; exact c3) hy (fun _ s hs _ => g_Af_answer_47 (ct rfl (ra_i (by omega) (by rw [hs 3 (by decide), e32])))) (fun _ s hs _ => g_Af_answer_47 (cf (by omega) (ra_i (by omega) (by rw [hs 3 (by decide), e32])))))
theorem s_judged {e : Nat} {g h : Sg} {T : TT} {tx : Int → TA} {B : Int} (hr : Rl g h T tx B) : wpI (e + 60) 20 0 [aR 2] [] (mk g T) (Ra g) := by
  have ht := hr.2.2.2.2.1
  have hsk := hr.2.2.2.1.1
  have h5 := hr.2.2.2.1.2.2.2.2.1
  refine g_Af_judged_0 (ci (fun _ => ra_i (by omega) rfl) (fun c => ?_))
  have hsk := hsk.resolve_left c
  refine c_keep ⟨ht.1.1, ht.1.2.1⟩ ht.2.1 (fun g1 ck => ?_)
  have e3 := ck.1 3 (by decide)
  have e16 := ck.1 16 (by decide)
  refine g_Af_judged_24 (c_close (td_ck hr.1 ck) (by rw [e16]; exact hsk.1.1) (by rw [e16, e3]; exact hsk.1.2) (by rw [e16]; omega) (fun g2 hs hm hp => g_Af_judged_31 (ra_i ?_ (by rw [hs 3 (by decide), e3]))))
  unfold VD; (repeat' split) <;> omega
/-- one clause that is played -/
def OpR (D cm : Nat) (ca : List AV) (rm : Nat) (ra : List AV) (g : Sg) (T : TT) (tx : Int → TA) (B : Int) (R : Int → AM → Prop) : Prop :=
  (∃ h, Rl g h T tx B) → ∃ (r : Int) (g' : Sg), (∀ Q : Int → AM → Prop, Q r (mk g' T) → wpI D cm 0 ca [] (mk g T) Q) ∧ Cls g g' ∧ R r (mk g' T) ∧ ∀ h, Rl g h T tx B → ∀ Q : Int → AM → Prop, (∀ h', Rfo h h' → Rl g' h' T tx (B + 24) → Q r (mk h' T)) → wpI D rm 0 ra [] (mk h T) Q
theorem op_r {D cm : Nat} {ca : List AV} {rm : Nat} {ra : List AV} {g : Sg} {T : TT} {tx : Int → TA} {B : Int} {R : Int → AM → Prop} (h : Op D cm ca rm ra g T tx B) (k : ∀ h, Rl g h T tx B → wpI D cm 0 ca [] (mk g T) R) : OpR D cm ca rm ra g T tx B R := by
  rintro ⟨h0, hr⟩
  obtain ⟨r, g', q1, q2, q3⟩ := h ⟨h0, hr⟩
  exact ⟨r, g', q1, q2, wpI_and q1 (k h0 hr), q3⟩
end
