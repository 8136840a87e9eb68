noncomputable section
set_option maxRecDepth 20000
/-! kinds -/
def kdT (n : Int) (k : Int → List Tok → BAns) (r : List Tok) (set : Int) : BAns := match r with
  | [] => k set []
  | u :: r' => if cm u then kdF n k r' set else k set (u :: r')
theorem kdf_c {n : Int} {k : Int → List Tok → BAns} {t : Tok} {r : List Tok} {set : Int} : kdF n k (t :: r) set = if t.1 = 2 then (if t.2.1 ≤ 9 then (if tb set t.2.1 = true then .inr (4, t.2.2) else kdT n k r (bO set (sL 1 t.2.1))) else .inr (2, t.2.2)) else .inr (1, t.2.2) := by
  cases r with
  | nil => rfl
  | cons u r => rfl
theorem bc_10 {x : Int} (x0 : 0 ≤ x) (x1 : x < 1024) : BC x ≤ 10 := by
  rw [bc_n x0]
  have a := cnt_a x.toNat 10 14
  have b := cnt_le x.toNat 10
  have e : x.toNat / 2 ^ 10 = 0 := Nat.div_eq_of_lt (by omega)
  rw [e] at a
  have z : cnt 0 14 = 0 := by decide
  rw [z] at a
  have a : cnt x.toNat 24 = cnt x.toNat 10 + 0 := a
  omega
theorem c_kinds {D : Nat} {s0 : Sg} {T : TT} {P : Int → AM → Prop} {n : Int} : ∀ (j : Nat) (l : List Tok), l.length ≤ j → ∀ (set i : Int) (s : Sg), Al s0 s n l → 0 ≤ set → set < 1024 → 0 ≤ i → i + 1 ≤ BC set → (∀ m r s', (∀ k, kdT n k l set = k m r) → Al s0 s' n r → s' 64 = s 64 → P m (mk s' T)) → (∀ f p m s', (∀ k, kdT n k l set = .inr (f, p)) → f ≠ 0 → Dd s0 s' f p → P m (mk s' T)) → wpI (D + 2) 160 11 [aR 60, aI set, aI i] [] (mk s T) P := by
  intro j
  induction j with
  | zero =>
    intro l hl set i s h a0 a8 i0 i1 ok er
    have : l = [] := List.length_eq_zero_iff.mp (by omega)
    subst this
    have c := ctk_cur h.2.1
    have c1 : s 65 8 = 0 := c.1
    have fin := ok set [] s (fun k => rfl) h rfl
    exact g_Reader_readKinds_11 (ci (fun _ => ct h.2.2 (cf (by omega) fin)) (fun _ => fin))
  | succ j ih =>
    intro l hl set i s h a0 a8 i0 i1 ok er
    have n3 := bc_10 a0 a8
    have c := ctk_cur h.2.1
    cases l with
    | nil =>
      have c1 : s 65 8 = 0 := c.1
      have fin := ok set [] s (fun k => rfl) h rfl
      exact g_Reader_readKinds_11 (ci (fun _ => ct h.2.2 (cf (by omega) fin)) (fun _ => fin))
    | cons t r =>
      simp only [List.length_cons] at hl
      have c1 : s 65 8 = t.1 := c.1
      have c3 : s 65 10 = t.2.1 := c.2.2
      have stop : ¬ cm t → P set (mk s T) := fun hc => ok set (t :: r) s (fun k => by show (if cm t then _ else _) = _; rw [if_neg hc]) h rfl
      refine g_Reader_readKinds_11 (ct (by omega) (ct h.2.2 ?_))
      rw [c1, c3]
      refine ci (fun q1 => ci (fun q2 => ?_) (fun q2 => stop (fun q => q2 q.2))) (fun q1 => stop (fun q => q1 q.1))
      have hc : cm t := ⟨q1, q2⟩
      have eT : ∀ k, kdT n k (t :: r) set = kdF n k r set := fun k => by show (if cm t then _ else _) = _; rw [if_pos hc]
      refine c_advance h.2.1 (fun s1 e1 t1 => g_Reader_readKinds_33 ?_)
      have h1 : Al s0 s1 n r := ⟨sm_t h.1 (sm_m e1 (by simp)), t1, by rw [e1 60 (by decide)]; exact h.2.2⟩
      have dead : ∀ (f p v : Int) (s2 : Sg), (∀ k, kdF n k r set = .inr (f, p)) → f ≠ 0 → Dd s0 s2 f p → wpI (D + 2) 160 83 [aR 60, aI set, aI i] [aI v, aI 1, aI set] (mk s2 T) P := fun f p v s2 e hf hd => by
        have fin := fun m => er f p m s2 (fun k => by rw [eT]; exact e k) hf hd
        exact g_Reader_readKinds_83 (g_Reader_readKinds_11 (ci (fun _ => cf (by rw [hd.2.2.1]; exact hf) (fin _)) (fun _ => fin _)))
      have cr := ctk_cur h1.2.1
      -- what comes of the number
      have num : (∀ v st r', r = (2, v, st) :: r' → v ≤ 9 → tb set v = false) → wpI (D + 1) 150 0 [aR 60, aI 9, aU] [] (mk s1 T) (fun r M' => wpI (D + 1 + 1) 160 83 [aR 60, aI set, aI i] [aI r, aI 1, aI set] M' P) := fun hdup => by
        refine c_readNumber h1.2.1 h1.2.2 (fun v st r' s2 e v0 vm e' t' => g_Reader_readKinds_83 ?_) (fun v st r' e vm => dead 2 st 0 _ (fun k => ?_) (by decide) ?_) (fun no => dead 1 (plc n r) 0 _ (fun k => ?_) (by decide) (dd_b h1))
        · subst e
          have nd := hdup v st r' rfl vm
          have hL := sL_lt (k := v) (n := 10) v0 (by omega) (by omega)
          have ob := bO_b (n := 10) (by omega) a0 a8 (by omega) hL.2
          have bo := bc_o a0 (by omega) v0 (by omega) nd
          have ek : ∀ k, kdT n k (t :: (2, v, st) :: r') set = kdT n k r' (bO set (sL 1 v)) := fun k => by
            rw [eT, kdf_c]
            show (if (2 : Int) = 2 then (if v ≤ 9 then (if tb set v = true then .inr (4, st) else kdT n k r' (bO set (sL 1 v))) else .inr (2, st)) else .inr (1, st)) = _
            rw [if_pos rfl, if_pos vm, if_neg (by rw [nd]; decide)]
          rw [w32_id (x := i + 1) (by omega) (by omega)]
          simp only [List.length_cons] at hl
          exact ih r' (by omega) (bO set (sL 1 v)) (i + 1) s2 ⟨sm_t h1.1 (sm_m e' (by simp)), t', by rw [e' 60 (by decide)]; exact h1.2.2⟩ ob.1 ob.2 (by omega) (by omega) (fun m r s' e h' e6 => ok m r s' (fun k => by rw [ek]; exact e k) h' (by rw [e6, e' 64 (by decide), e1 64 (by decide)])) (fun f p m s' e hf h' => er f p m s' (fun k => by rw [ek]; exact e k) hf h')
        · subst e
          rw [kdf_c]
          show (if (2 : Int) = 2 then (if v ≤ 9 then (if tb set v = true then .inr (4, st) else kdT n k r' (bO set (sL 1 v))) else .inr (2, st)) else .inr (1, st)) = _
          rw [if_pos rfl, if_neg (by omega)]
        · subst e; exact dd_b h1
        · cases r with
          | nil => rfl
          | cons u r' =>
            obtain ⟨u1, u2, u3⟩ := u
            rw [kdf_c]
            show (if u1 = 2 then _ else (.inr (1, u3) : BAns)) = _
            rw [if_neg (fun q => no u2 u3 r' (by rw [q]))]; rfl
      cases r with
      | nil =>
        have d1 : s1 65 8 = 0 := cr.1
        exact cf (by omega) (num (fun v st r' e => by simp at e))
      | cons u r' =>
        obtain ⟨u1, u2, u3⟩ := u
        have d1 : s1 65 8 = u1 := cr.1
        have d3 : s1 65 10 = u2 := cr.2.2
        rw [d1, d3]
        refine ci (fun p1 => ci (fun p2 => num (fun v st r'' e hv => ?_)) (fun p2 => ?_)) (fun p1 => num (fun v st r'' e hv => ?_))
        · simp only [List.cons.injEq, Prod.mk.injEq] at e; omega
        · have v := ctk_v h1.2.1 _ List.mem_cons_self
          have v0 : 0 ≤ u2 := by
            rcases v with v | v | v
            · exact v.2.1
            · have : u1 = 1 := v.1; omega
            · have : u1 = 3 := v; omega
          refine ci (fun p3 => num (fun v st r'' e hv => ?_)) (fun p3 => ct h1.2.2 (c_figD ?_ (dead 4 u3 0 _ (fun k => ?_) (by decide) (dd_b h1))))
          · simp only [List.cons.injEq, Prod.mk.injEq] at e
            rw [← e.1.2.1]; exact (has_0 a0 v0 (by omega)).mp p3
          · rw [up_i (by decide), up_s]; decide
          · have tt : tb set u2 = true := by
              cases e : tb set u2 with
              | true => rfl
              | false => exact absurd ((has_0 a0 v0 (by omega)).mpr e) p3
            rw [kdf_c]
            show (if u1 = 2 then (if u2 ≤ 9 then (if tb set u2 = true then .inr (4, u3) else kdT n k r' (bO set (sL 1 u2))) else .inr (2, u3)) else .inr (1, u3)) = _
            rw [if_pos p1, if_pos (by omega), if_pos tt]
        · simp only [List.cons.injEq, Prod.mk.injEq] at e; exact absurd e.1.1 p1
theorem bO_z {x : Int} (x0 : 0 ≤ x) (x1 : x < 2147483648) : bO 0 x = x := by
  rw [bO_n (by omega) (by omega) x0 x1]; simp; omega
theorem c_readKinds {D : Nat} {s0 s : Sg} {T : TT} {P : Int → AM → Prop} {n : Int} {l : List Tok} (h : Al s0 s n l) (ok : ∀ m r s', (∀ k, kdF n k l 0 = k m r) → Al s0 s' n r → s' 64 = s 64 → P m (mk s' T)) (er : ∀ f p m s', (∀ k, kdF n k l 0 = .inr (f, p)) → f ≠ 0 → Dd s0 s' f p → P m (mk s' T)) : wpI (D + 2) 160 0 [aR 60, aU, aU] [] (mk s T) P := by
  have dead : ∀ (f p v : Int) (s2 : Sg), (∀ k, kdF n k l 0 = .inr (f, p)) → f ≠ 0 → Dd s0 s2 f p → wpI (D + 2) 160 7 [aR 60, aU, aU] [aI v, aI 1] (mk s2 T) P := fun f p v s2 e hf hd => by
    have fin := fun m => er f p m s2 e hf hd
    exact g_Reader_readKinds_7 (g_Reader_readKinds_11 (ci (fun _ => cf (by rw [hd.2.2.1]; exact hf) (fin _)) (fun _ => fin _)))
  refine g_Reader_readKinds_0 (c_readNumber h.2.1 h.2.2 (fun v st r s' e v0 vm e' t' => g_Reader_readKinds_7 ?_) (fun v st r e vm => dead 2 st 0 _ (fun k => ?_) (by decide) ?_) (fun no => dead 1 (plc n l) 0 _ (fun k => ?_) (by decide) (dd_b h)))
  · subst e
    have hL := sL_lt (k := v) (n := 10) v0 (by omega) (by omega)
    have z := bO_z (x := sL 1 v) (by omega) (by omega)
    have b1 := bc_o (x := 0) (d := v) (by omega) (by omega) v0 (by omega) (tb_o v)
    rw [z, bc_0] at b1
    have ek : ∀ k, kdF n k ((2, v, st) :: r) 0 = kdT n k r (sL 1 v) := fun k => by
      rw [kdf_c]
      show (if (2 : Int) = 2 then (if v ≤ 9 then (if tb 0 v = true then .inr (4, st) else kdT n k r (bO 0 (sL 1 v))) else .inr (2, st)) else .inr (1, st)) = _
      rw [if_pos rfl, if_pos vm, if_neg (by rw [tb_o]; decide), z]
    exact c_kinds (D := D) r.length r (Nat.le_refl _) (sL 1 v) 0 s' ⟨sm_t h.1 (sm_m e' (by simp)), t', by rw [e' 60 (by decide)]; exact h.2.2⟩ (by omega) hL.2 (by omega) (by omega) (fun m r s2 e h' e6 => ok m r s2 (fun k => by rw [ek]; exact e k) h' (by rw [e6, e' 64 (by decide)])) (fun f p m s2 e hf h' => er f p m s2 (fun k => by rw [ek]; exact e k) hf h')
  · subst e
    rw [kdf_c]
    show (if (2 : Int) = 2 then (if v ≤ 9 then (if tb 0 v = true then .inr (4, st) else kdT n k r (bO 0 (sL 1 v))) else .inr (2, st)) else .inr (1, st)) = _
    rw [if_pos rfl, if_neg (by omega)]
  · subst e; exact dd_b h
  · cases l with
    | nil => rfl
    | cons u r' =>
      obtain ⟨u1, u2, u3⟩ := u
      rw [kdf_c]
      show (if u1 = 2 then _ else (.inr (1, u3) : BAns)) = _
      rw [if_neg (fun q => no u2 u3 r' (by rw [q]))]; rfl
/-- the parts of a clause -/
def Prt (s s' : Sg) (row : Int) (ps : List Int) : Prop := (∀ i, i < row + 1 ∨ row + 5 ≤ i → s' 64 i = s 64 i) ∧ ∀ i, 0 ≤ i → i < 4 → s' 64 (row + 1 + i) = if i < ps.length then ps.getD i.toNat 0 else s 64 (row + 1 + i)
theorem c_readParts {D : Nat} {s : Sg} {T : TT} {P : AM → Prop} {n w row : Int} {l : List Tok} (h : CTk s n l) (h0 : s 60 1 = 0) (w4 : 4 ≤ w) (w12 : w ≤ 12) (r0 : 0 ≤ row) (r1 : row + 5 ≤ 120) (ok : ∀ ps r s', bodyF n w l = .inl (ps, r) → Al s s' n r → Prt s s' row ps → P (mk s' T)) (er : ∀ f p s', bodyF n w l = .inr (f, p) → f ≠ 0 → Dd s s' f p → P (mk s' T)) : wpV (D + 4) 155 0 [aR 60, aI w, aI row] [] (mk s T) P := by
  have h1 := al_r h h0
  have p1 : ∀ (v : Int) (s' : Sg), s' 64 = s 64 → Prt s (up s' 64 (row + 1) v) row [v] := fun v s' e => by
    refine ⟨fun i hi => by rw [up_i (by omega), e], fun i i0 i1 => ?_⟩
    rw [up_e, e]
    by_cases q : i = 0
    · rw [if_pos (by omega), if_pos (by rw [q]; simp), q]; rfl
    · rw [if_neg (by omega), if_neg (by simp; omega)]
  have sg : ∀ (m : Int) (Q : Int → AM → Prop), bodyF n w l = figF n m l (fun v r => .inl ([v], r)) → (∀ v s', P (mk (up s' 64 (row + 1) v) T) → Q v (mk s' T)) → wpI (D + 3) 150 0 [aR 60, aI m, aU] [] (mk s T) Q := fun m Q hb hQ => by
    refine c_fig (D := D + 2) h1 (fun v r s' e v0 vm a e64 => hQ v s' (ok [v] r _ (by rw [hb]; exact e _) (al_64 a) (p1 v s' e64))) (fun f p s' e hf hd => hQ 0 s' (er f p _ (by rw [hb]; exact e _) hf (dd_64 hd)))
  refine g_Reader_readParts_0 ?_
  rw [w32_id (x := row + 1) (by omega) (by omega)]
  refine ci (fun q4 => sg 999 _ (by unfold bodyF; rw [if_pos q4]) (fun v s' p => g_Reader_readParts_62 (ct (by omega) p))) (fun q4 => ci (fun q5 => ?_) (fun q5 => ci (fun q6 => ?_) (fun q6 => ci (fun q7 => ?_) (fun q7 => ci (fun q8 => sg 5 _ (by unfold bodyF; rw [if_neg q4, if_neg q5, if_neg q6, if_neg q7, if_pos q8]) (fun v s' p => g_Reader_readParts_216 (ct (by omega) p))) (fun q8 => ci (fun q9 => sg 23 _ (by unfold bodyF; rw [if_neg q4, if_neg q5, if_neg q6, if_neg q7, if_neg q8, if_pos q9]) (fun v s' p => g_Reader_readParts_233 (ct (by omega) p))) (fun q9 => ci (fun q10 => sg 7 _ (by unfold bodyF; rw [if_neg q4, if_neg q5, if_neg q6, if_neg q7, if_neg q8, if_neg q9, if_pos (Or.inl q10)]) (fun v s' p => g_Reader_readParts_250 (ct (by omega) p))) (fun q10 => ci (fun q11 => sg 7 _ (by unfold bodyF; rw [if_neg q4, if_neg q5, if_neg q6, if_neg q7, if_neg q8, if_neg q9, if_pos (Or.inr q11)]) (fun v s' p => g_Reader_readParts_250 (ct (by omega) p))) (fun q11 => ok [] l s (by unfold bodyF; rw [if_neg q4, if_neg q5, if_neg q6, if_neg q7, if_neg q8, if_neg q9, if_neg (by omega)]) h1 ⟨fun _ _ => rfl, fun i i0 i1 => by rw [if_neg (by simp; omega)]⟩))))))))
  · -- a deed
    have eb : bodyF n w l = figF n 9 l (fun x r => wrdF n 18 r (fun r => figF n 99 r (fun y r => wrdF n 13 r (fun r => figF n 5 r (fun z r => mrkF n (fun m r => .inl ([x, y, z, m], r)) r 0))))) := by unfold bodyF; rw [if_neg q4, if_pos q5]
    have d118 : ∀ (v f p : Int) (s' : Sg), bodyF n w l = .inr (f, p) → f ≠ 0 → Dd s s' f p → wpV (D + 4) 155 118 [aR 60, aI w, aI row] [aI v, aI (row + 3), aR 64] (mk s' T) P := fun v f p s' e hf hd => by
      have hd2 := dd_64 (i := row + 3) (v := v) hd
      refine g_Reader_readParts_118 (ct (by omega) (g_Reader_readMarks_0 (g_Reader_readMarks_4 (d := D + 2) (ct (by decide) (cf (by rw [hd2.2.2.1]; exact hf) (g_Reader_readParts_130 ?_))))))
      rw [w32_id (x := row + 4) (by omega) (by omega)]
      exact ct (by omega) (er f p _ e hf (dd_64 hd2))
    have d106 : ∀ (f p : Int) (s' : Sg), bodyF n w l = .inr (f, p) → f ≠ 0 → Dd s s' f p → wpV (D + 4) 155 106 [aR 60, aI w, aI row] [] (mk s' T) P := fun f p s' e hf hd => by
      refine g_Reader_readParts_106 ?_
      rw [w32_id (x := row + 3) (by omega) (by omega)]
      exact c_figD (by rw [hd.2.2.1]; exact hf) (d118 0 f p s' e hf hd)
    have d99 : ∀ (v f p : Int) (s' : Sg), bodyF n w l = .inr (f, p) → f ≠ 0 → Dd s s' f p → wpV (D + 4) 155 99 [aR 60, aI w, aI row] [aI v, aI (row + 2), aR 64] (mk s' T) P := fun v f p s' e hf hd => by
      have hd2 := dd_64 (i := row + 2) (v := v) hd
      exact g_Reader_readParts_99 (ct (by omega) (c_wrdD (by rw [hd2.2.2.1]; exact hf) (d106 f p _ e hf hd2)))
    have d86 : ∀ (f p : Int) (s' : Sg), bodyF n w l = .inr (f, p) → f ≠ 0 → Dd s s' f p → wpV (D + 4) 155 86 [aR 60, aI w, aI row] [] (mk s' T) P := fun f p s' e hf hd => by
      refine g_Reader_readParts_86 ?_
      rw [w32_id (x := row + 2) (by omega) (by omega)]
      exact c_figD (by rw [hd.2.2.1]; exact hf) (d99 0 f p s' e hf hd)
    refine c_fig (D := D + 2) h1 (fun x r s1 e1 x0 xm a1 f1 => g_Reader_readParts_79 (ct (by omega) (c_wrd (D := D + 2) (al_64 a1) (fun r2 s2 e2 a2 f2 => g_Reader_readParts_86 ?_) (fun f p s' e hf hd => d86 f p s' ?_ hf hd)))) (fun f p s' e hf hd => g_Reader_readParts_79 (ct (by omega) (c_wrdD (by rw [up_c (by decide), hd.2.2.1]; exact hf) (d86 f p _ (by rw [eb]; exact e _) hf (dd_64 hd)))))
    · rw [w32_id (x := row + 2) (by omega) (by omega)]
      refine c_fig (D := D + 2) a2 (fun y r3 s3 e3 y0 ym a3 f3 => g_Reader_readParts_99 (ct (by omega) (c_wrd (D := D + 2) (al_64 a3) (fun r4 s4 e4 a4 f4 => g_Reader_readParts_106 ?_) (fun f p s' e hf hd => d106 f p s' ?_ hf hd)))) (fun f p s' e hf hd => d99 0 f p s' ?_ hf hd)
      · rw [w32_id (x := row + 3) (by omega) (by omega)]
        refine c_fig (D := D + 2) a4 (fun z r5 s5 e5 z0 zm a5 f5 => g_Reader_readParts_118 (ct (by omega) ?_)) (fun f p s' e hf hd => d118 0 f p s' ?_ hf hd)
        · have f64 : ∀ (s7 : Sg) (m : Int), s7 64 = up s5 64 (row + 3) z 64 → Prt s (up s7 64 (row + 4) m) row [x, y, z, m] := fun s7 m e7 => by
            have k5 : ∀ i, up s7 64 (row + 4) m 64 i = if i = row + 4 then m else if i = row + 3 then z else if i = row + 2 then y else if i = row + 1 then x else s 64 i := fun i => by
              rw [up_e, e7, up_e, f5, f4, up_e, f3, f2, up_e, f1]
            refine ⟨fun i hi => by rw [k5, if_neg (by omega), if_neg (by omega), if_neg (by omega), if_neg (by omega)], fun i i0 i1 => ?_⟩
            rw [k5]
            rcases (by omega : i = 0 ∨ i = 1 ∨ i = 2 ∨ i = 3) with rfl | rfl | rfl | rfl
            · rw [if_neg (by omega), if_neg (by omega), if_neg (by omega), if_pos (by omega), if_pos (by simp)]; rfl
            · rw [if_neg (by omega), if_neg (by omega), if_pos (by omega), if_pos (by simp)]; rfl
            · rw [if_neg (by omega), if_pos (by omega), if_pos (by simp)]; rfl
            · rw [if_pos (by omega), if_pos (by simp)]; rfl
          refine g_Reader_readMarks_0 (c_readMarks (D := D + 1) r5.length r5 (Nat.le_refl _) 0 0 _ (al_64 a5) (by omega) (by omega) (by omega) (by decide) (fun m r6 s6 e6 a6 f6 => g_Reader_readParts_130 ?_) (fun f p m s' e hf hd f6 => g_Reader_readParts_130 ?_))
          · rw [w32_id (x := row + 4) (by omega) (by omega)]
            refine ct (by omega) (ok [x, y, z, m] r6 _ ?_ (al_64 a6) (f64 s6 m f6))
            rw [eb, e1, e2, e3, e4, e5]; exact e6 _
          · rw [w32_id (x := row + 4) (by omega) (by omega)]
            refine ct (by omega) (er f p _ ?_ hf (dd_64 hd))
            rw [eb, e1, e2, e3, e4, e5]; exact e _
        · rw [eb, e1, e2, e3, e4]; exact e _
      · rw [eb, e1, e2, e3]; exact e _
      · rw [eb, e1, e2]; exact e _
    · rw [eb, e1]; exact e _
  · -- a judge
    have eb : bodyF n w l = kdF n (fun m r => .inl ([m], r)) l 0 := by unfold bodyF; rw [if_neg q4, if_neg q5, if_pos q6]
    exact c_readKinds (D := D + 1) h1 (fun m r s' e a f64 => g_Reader_readParts_145 (ct (by omega) (ok [m] r _ (by rw [eb]; exact e _) (al_64 a) (p1 m s' f64)))) (fun f p m s' e hf hd => g_Reader_readParts_145 (ct (by omega) (er f p _ (by rw [eb]; exact e _) hf (dd_64 hd))))
  · -- lent
    have eb : bodyF n w l = figF n 5 l (fun x r => wrdF n 14 r (fun r => figF n 5 r (fun y r => wrdF n 15 r (fun r => figF n 99 r (fun z r => .inl ([x, y, z], r)))))) := by unfold bodyF; rw [if_neg q4, if_neg q5, if_neg q6, if_pos q7]
    have d200 : ∀ (v f p : Int) (s' : Sg), bodyF n w l = .inr (f, p) → f ≠ 0 → Dd s s' f p → wpV (D + 4) 155 200 [aR 60, aI w, aI row] [aI v, aI (row + 3), aR 64] (mk s' T) P := fun v f p s' e hf hd => g_Reader_readParts_200 (ct (by omega) (er f p _ e hf (dd_64 hd)))
    have d187 : ∀ (f p : Int) (s' : Sg), bodyF n w l = .inr (f, p) → f ≠ 0 → Dd s s' f p → wpV (D + 4) 155 187 [aR 60, aI w, aI row] [] (mk s' T) P := fun f p s' e hf hd => by
      refine g_Reader_readParts_187 ?_
      rw [w32_id (x := row + 3) (by omega) (by omega)]
      exact c_figD (by rw [hd.2.2.1]; exact hf) (d200 0 f p s' e hf hd)
    have d180 : ∀ (v f p : Int) (s' : Sg), bodyF n w l = .inr (f, p) → f ≠ 0 → Dd s s' f p → wpV (D + 4) 155 180 [aR 60, aI w, aI row] [aI v, aI (row + 2), aR 64] (mk s' T) P := fun v f p s' e hf hd => by
      have hd2 := dd_64 (i := row + 2) (v := v) hd
      exact g_Reader_readParts_180 (ct (by omega) (c_wrdD (by rw [hd2.2.2.1]; exact hf) (d187 f p _ e hf hd2)))
    have d168 : ∀ (f p : Int) (s' : Sg), bodyF n w l = .inr (f, p) → f ≠ 0 → Dd s s' f p → wpV (D + 4) 155 168 [aR 60, aI w, aI row] [] (mk s' T) P := fun f p s' e hf hd => by
      refine g_Reader_readParts_168 ?_
      rw [w32_id (x := row + 2) (by omega) (by omega)]
      exact c_figD (by rw [hd.2.2.1]; exact hf) (d180 0 f p s' e hf hd)
    refine c_fig (D := D + 2) h1 (fun x r s1 e1 x0 xm a1 f1 => g_Reader_readParts_161 (ct (by omega) (c_wrd (D := D + 2) (al_64 a1) (fun r2 s2 e2 a2 f2 => g_Reader_readParts_168 ?_) (fun f p s' e hf hd => d168 f p s' ?_ hf hd)))) (fun f p s' e hf hd => g_Reader_readParts_161 (ct (by omega) (c_wrdD (by rw [up_c (by decide), hd.2.2.1]; exact hf) (d168 f p _ (by rw [eb]; exact e _) hf (dd_64 hd)))))
    · rw [w32_id (x := row + 2) (by omega) (by omega)]
      refine c_fig (D := D + 2) a2 (fun y r3 s3 e3 y0 ym a3 f3 => g_Reader_readParts_180 (ct (by omega) (c_wrd (D := D + 2) (al_64 a3) (fun r4 s4 e4 a4 f4 => g_Reader_readParts_187 ?_) (fun f p s' e hf hd => d187 f p s' ?_ hf hd)))) (fun f p s' e hf hd => d180 0 f p s' ?_ hf hd)
      · rw [w32_id (x := row + 3) (by omega) (by omega)]
        refine c_fig (D := D + 2) a4 (fun z r5 s5 e5 z0 zm a5 f5 => g_Reader_readParts_200 (ct (by omega) (ok [x, y, z] r5 _ ?_ (al_64 a5) ?_))) (fun f p s' e hf hd => d200 0 f p s' ?_ hf hd)
        · rw [eb, e1, e2, e3, e4, e5]
        · have k5 : ∀ i, up s5 64 (row + 3) z 64 i = if i = row + 3 then z else if i = row + 2 then y else if i = row + 1 then x else s 64 i := fun i => by
            rw [up_e, f5, f4, up_e, f3, f2, up_e, f1]
          refine ⟨fun i hi => by rw [k5, if_neg (by omega), if_neg (by omega), if_neg (by omega)], fun i i0 i1 => ?_⟩
          rw [k5]
          rcases (by omega : i = 0 ∨ i = 1 ∨ i = 2 ∨ i = 3) with rfl | rfl | rfl | rfl
          · rw [if_neg (by omega), if_neg (by omega), if_pos (by omega), if_pos (by simp)]; rfl
          · rw [if_neg (by omega), if_pos (by omega), if_pos (by simp)]; rfl
          · rw [if_pos (by omega), if_pos (by simp)]; rfl
          · rw [if_neg (by omega), if_neg (by omega), if_neg (by omega), if_neg (by simp)]
        · rw [eb, e1, e2, e3, e4]; exact e _
      · rw [eb, e1, e2, e3]; exact e _
      · rw [eb, e1, e2]; exact e _
    · rw [eb, e1]; exact e _
end
