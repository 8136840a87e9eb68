noncomputable section
set_option maxRecDepth 20000
theorem c_readNumber {D : Nat} {s : Sg} {T : TT} {P : Int → AM → Prop} {n m : Int} {l : List Tok} (h : CTk s n l) (h0 : s 60 1 = 0) (k1 : ∀ v st r s', l = (2, v, st) :: r → 0 ≤ v → v ≤ m → Sm [65] s s' → CTk s' n r → P v (mk s' T)) (k2 : ∀ v st r, l = (2, v, st) :: r → m < v → P 0 (mk (up (up s 60 1 2) 60 2 (s 65 9)) T)) (k3 : (∀ v st r, l ≠ (2, v, st) :: r) → P 0 (mk (up (up s 60 1 1) 60 2 (s 65 9)) T)) : wpI (D + 1) 150 0 [aR 60, aI m, aU] [] (mk s T) P := by
  have c := ctk_cur h
  refine g_Reader_readNumber_0 (ci (fun q => ?_) (fun q => ct h0 (k3 (fun v st r e => by rw [e] at c; exact q c.1))))
  cases l with
  | nil => have := c.1; omega
  | cons t r =>
    obtain ⟨t1, t2, t3⟩ := t
    have c1 : s 65 8 = t1 := c.1
    have c3 : s 65 10 = t2 := c.2.2
    have e1 : t1 = 2 := by omega
    subst e1
    have v := ctk_v h _ List.mem_cons_self
    have v0 : 0 ≤ t2 := by
      rcases v with v | v | v
      · exact v.2.1
      · exact absurd (show (2 : Int) = 1 from v.1) (by decide)
      · exact absurd (show (2 : Int) = 3 from v) (by decide)
    rw [c3]
    refine ci (fun q2 => ct h0 (k2 t2 t3 r rfl q2)) (fun q2 => ct h0 (c_advance h (fun s' e' t' => g_Reader_readNumber_54 (k1 t2 t3 r s' rfl v0 (by omega) e' t'))))
theorem c_expectSign {D : Nat} {s : Sg} {T : TT} {P : AM → Prop} {n b : Int} {l : List Tok} (h : CTk s n l) (h0 : s 60 1 = 0) (k1 : ∀ st r s', l = (3, b, st) :: r → Sm [65] s s' → CTk s' n r → P (mk s' T)) (k2 : ¬ hdS l b → P (mk (up (up s 60 1 1) 60 2 (s 65 9)) T)) : wpV (D + 1) 154 0 [aR 60, aI b] [] (mk s T) P := by
  have hc := hds_cur (b := b) h
  refine g_Reader_expectSign_0 (ct h0 (ci (fun q => ci (fun q2 => ?_) (fun q2 => ct h0 (k2 (fun z => q2 (hc.mp z).2)))) (fun q => ct h0 (k2 (fun z => q (hc.mp z).1)))))
  obtain ⟨st, r, e⟩ := hc.mpr ⟨q, q2⟩
  subst e
  exact c_advance h (fun s' e' t' => g_Reader_expectSign_23 (k1 st r s' rfl e' t'))
theorem c_expectSignD {D : Nat} {s : Sg} {T : TT} {P : AM → Prop} {b : Int} (h0 : ¬ s 60 1 = 0) (k : P (mk s T)) : wpV (D + 1) 154 0 [aR 60, aI b] [] (mk s T) P := g_Reader_expectSign_0 (cf h0 (cf h0 k))
theorem c_readName {D : Nat} {s : Sg} {T : TT} {P : AM → Prop} {n w u v st : Int} {r : List Tok} (w0 : 0 ≤ w) (w4 : w < 4) (h : RdS s n w u ((1, v, st) :: r)) (u0 : 0 ≤ u) (u1 : u < 300) (o : Int) (ko : KOk w n T 0 o u ((1, v, st) :: r) s P) (ke : KEr w n T 0 o ((1, v, st) :: r) s P) : wpV (D + 1) 152 0 [aR 60, aU] [] (mk s T) P := by
  have c := ctk_cur h.1
  have c3 : s 65 10 = v := c.2.2
  have c2 : s 65 9 = st := c.2.1
  have hv : -1 ≤ v ∧ v < 29 := by
    have v := ctk_v h.1 _ List.mem_cons_self
    rcases v with v | v | v
    · exact absurd (show (1 : Int) = 2 from v.1) (by decide)
    · exact v.2
    · exact absurd (show (1 : Int) = 3 from v) (by decide)
  have bl : ∀ f : Int, f ≠ 0 → Prs w n 0 o ((1, v, st) :: r) (.inr (f, st)) → P (mk (up (up s 60 1 f) 60 2 (s 65 9)) T) := fun f hf p => by
    obtain ⟨b1, b2, b3, b4⟩ := blm (s := s) f
    exact ke f st _ p b1 b2 hf (by rw [b3]; exact c2) (by rw [b4, h.2.2.1]; exact u0)
  refine g_Reader_readName_0 ?_
  rw [c3, h.2.2.2.1, h.2.2.1]
  refine ci (fun q => ct h.2.1 (bl 1 (by decide) (Prs.noName (fun m m0 m1 e => ?_)))) (fun q => ct hv.2 ?_)
  · have := (msk_n ⟨0, by omega⟩ ⟨m.toNat, by omega⟩).2.1
    simp only [show ((m.toNat : Nat) : Int) = m from by omega] at this
    omega
  · have an := any_n ⟨v.toNat, by omega⟩
    simp only [show ((v.toNat : Nat) : Int) = v from by omega] at an
    refine ci (fun q2 => ct h.2.1 (bl 1 (by decide) (Prs.noName (fun m m0 m1 e => ?_)))) (fun q2 => ?_)
    · have f := (has_0 (x := 536805456) (by omega) (by omega) (by omega)).mp q2
      have := an.mpr ⟨⟨m.toNat, by omega⟩, by simp only [show ((m.toNat : Nat) : Int) = m from by omega]; exact e⟩
      rw [f] at this; exact absurd this (by decide)
    · have t : tb 536805456 v = true := by
        cases e : tb 536805456 v with
        | true => rfl
        | false => exact absurd ((has_0 (x := 536805456) (by omega) (by omega) (by omega)).mpr e) q2
      obtain ⟨m, hm⟩ := an.mp t
      have mn := msk_n ⟨w.toNat, by omega⟩ m
      simp only [show ((w.toNat : Nat) : Int) = w from by omega] at mn
      rw [hm] at mn
      subst hm
      refine ci (fun q3 => ct h.2.1 (bl 5 (by decide) (Prs.nameF (by omega) (by omega) (fun ok => ?_)))) (fun q3 => ct u1 (ct (by omega) ?_))
      · have f := (has_0 mn.2.2.2 mn.2.1 (by omega)).mp q3
        rw [mn.1.mpr ok] at f; exact absurd f (by decide)
      · have ok : okn w (m.1 : Int) := by
          refine mn.1.mp ?_
          cases e : tb (msk w) (wn (m.1 : Int)) with
          | true => rfl
          | false => exact absurd ((has_0 mn.2.2.2 mn.2.1 (by omega)).mpr e) q3
        rw [w32_id (x := 10000 + wn (m.1 : Int)) (by omega) (by omega), w32_id (x := u + 1) (by omega) (by omega)]
        obtain ⟨g1, g2, g3, g4⟩ := put_i (v := 10000 + wn (m.1 : Int)) h
        refine c_advance g2.1 (fun s' e' t' => g_Reader_readName_70 ?_)
        refine ko [(1, (m.1 : Int))] r s' (Prs.name (by omega) (by omega) ok) (f2_t g1 (f2_65 e')) ⟨t', by rw [e' 60 (by decide)]; exact g2.2.1, by rw [e' 60 (by decide)]; exact g2.2.2.1, by rw [e' 60 (by decide)]; exact g2.2.2.2⟩ ⟨?_, trivial⟩ (fun i hi => by rw [e' 61 (by decide)]; exact g3 i hi) (fun q => by omega) (fun q => by omega)
        rw [e' 61 (by decide), g4]
        show 10000 + wn (m.1 : Int) = cv (1, (m.1 : Int))
        unfold cv; rw [if_neg (show ¬ (1 : Int) = 0 by decide), if_pos rfl]
theorem one_s {w n : Int} {T : TT} {m : Nat} (w0 : 0 ≤ w) (w4 : w < 4) (h1 : OneH w n T m) (h4 : SumH w n T m) : OneH w n T (m + 1) := by
  intro l lm o u D s P o0 o8 hD hr u0 ul ko ke
  obtain ⟨D', rfl⟩ : ∃ D', D = D' + 1 := ⟨D - 1, by omega⟩
  have c := ctk_cur hr.1
  have c9 := ctk_9 hr.1
  have bl : ∀ f : Int, f ≠ 0 → Prs w n 0 o l (.inr (f, (plc n l))) → wpV (D' + 1) 149 172 [aR 60, aI o, aU] [] (mk (up (up s 60 1 f) 60 2 (s 65 9)) T) P := fun f hf p => by
    obtain ⟨b1, b2, b3, b4⟩ := blm (s := s) f
    exact g_Reader_readOne_172 (ke f (plc n l) _ p b1 b2 hf (by rw [b3]; exact c9) (by rw [b4, hr.2.2.1]; exact u0))
  refine g_Reader_readOne_0 (ci (fun q2 => ?_) (fun q2 => ci (fun q1 => ?_) (fun q1 => ?_)))
  · -- a number
    cases l with
    | nil => have := c.1; omega
    | cons t r =>
      obtain ⟨t1, t2, t3⟩ := t
      have e1 : t1 = 2 := by have : s 65 8 = t1 := c.1; omega
      subst e1
      simp only [List.length_cons] at ul
      obtain ⟨D2, rfl⟩ : ∃ D2, D' = D2 + 1 := ⟨D' - 1, by omega⟩
      refine c_readNumber hr.1 hr.2.1 (fun v st r' s' e v0 vm e' t' => g_Reader_readOne_19 ?_) (fun v st r' e vm => g_Reader_readOne_19 ?_) (fun no => absurd rfl (no t2 t3 r))
      · simp only [List.cons.injEq, Prod.mk.injEq, true_and] at e
        obtain ⟨⟨rfl, rfl⟩, rfl⟩ := e
        have r1 : RdS s' n w u r := ⟨t', by rw [e' 60 (by decide)]; exact hr.2.1, by rw [e' 60 (by decide)]; exact hr.2.2.1, by rw [e' 60 (by decide)]; exact hr.2.2.2⟩
        rw [r1.2.2.1, w32_id (x := u + 1) (by omega) (by omega)]
        obtain ⟨g1, g2, g3, g4⟩ := put_i (v := t2) r1
        refine ct (by omega) (ct (by omega) (g_Reader_readOne_172 (ko [(0, t2)] r _ (Prs.num v0 vm) (f2_t (f2_65 e') g1) g2 ⟨?_, trivial⟩ (fun i hi => by rw [g3 i hi, e' 61 (by decide)]) (fun q => by omega) (fun q => by omega))))
        rw [g4]; show t2 = cv (0, t2); unfold cv; rw [if_pos rfl]
      · simp only [List.cons.injEq, Prod.mk.injEq, true_and] at e
        obtain ⟨⟨rfl, rfl⟩, rfl⟩ := e
        obtain ⟨b1, b2, b3, b4⟩ := blm (s := s) 2
        rw [b4, hr.2.2.1, w32_id (x := u + 1) (by omega) (by omega)]
        refine ct (by omega) (ct (by omega) (g_Reader_readOne_172 (ke 2 t3 _ (Prs.numF vm) (f2_t b1 ⟨sm_u (sm_u (sm_r _ _) (by simp)) (by simp), fun i h1 h2 h3 => by rw [up_i h3, up_c (by decide)]⟩) ?_ (by decide) ?_ ?_)))
        · rw [up_i (by decide), up_c (by decide)]; exact b2
        · rw [up_i (by decide), up_c (by decide), b3]; exact c9
        · rw [up_s]; omega
  · -- a name
    cases l with
    | nil => have := c.1; omega
    | cons t r =>
      obtain ⟨t1, t2, t3⟩ := t
      have e1 : t1 = 1 := by have : s 65 8 = t1 := c.1; omega
      subst e1
      simp only [List.length_cons] at ul
      obtain ⟨D2, rfl⟩ : ∃ D2, D' = D2 + 1 := ⟨D' - 1, by omega⟩
      refine c_readName w0 w4 hr u0 (by omega) o ?_ ?_
      · intro cd l' s' a1 a2 a3 a4 a5 a6 a7
        exact g_Reader_readOne_40 (g_Reader_readOne_172 (ko cd l' s' a1 a2 a3 a4 a5 a6 a7))
      · intro f p s' a1 a2 a3 a4 a5 a6
        exact g_Reader_readOne_40 (g_Reader_readOne_172 (ke f p s' a1 a2 a3 a4 a5 a6))
  · -- a sign
    have nt : ∀ t r, l = t :: r → t.1 ≠ 1 ∧ t.1 ≠ 2 := fun t r e => by
      rw [e] at c
      have : s 65 8 = t.1 := c.1
      omega
    have open_ : ∀ b : Int, (b = 40 ∨ b = 124 ∨ b = 45) → s 65 8 = 3 ∧ s 65 10 = b → wpV (D' + 1) 149 78 [aR 60, aI o, aU] [] (mk s T) P := by
      intro b hb hs
      obtain ⟨st, r, el⟩ := (hds_cur hr.1).mpr hs
      subst el
      simp only [List.length_cons] at lm ul
      refine g_Reader_readOne_78 (ci (fun o7 => ?_) (fun o7 => g_Reader_readOne_84 (ct hr.2.1 (bl 3 (by decide) (Prs.deep hb o7)))))
      refine g_Reader_readOne_92 (ct hr.2.1 (ct hs.1 (ci (fun q45 => ?_) (fun q45 => ?_))))
      · -- less than nothing
        have eb : b = 45 := by omega
        subst eb
        refine g_Reader_readOne_101 (c_advance hr.1 (fun s1 e1 t1 => g_Reader_readOne_108 ?_))
        have f1 := f2_65 e1
        have r1 : RdS s1 n w u r := ⟨t1, by rw [e1 60 (by decide)]; exact hr.2.1, by rw [e1 60 (by decide)]; exact hr.2.2.1, by rw [e1 60 (by decide)]; exact hr.2.2.2⟩
        rw [w32_id (x := o + 1) (by omega) (by omega)]
        refine h1 r (by omega) (o + 1) u D' s1 _ (by omega) (by omega) (by omega) r1 u0 (by omega) ?_ ?_
        · intro cd l1 s2 p2 f2 r2 c2 k2 _ _
          have nl := prs_n p2 _ _ rfl
          have nl2 := nl.2 (Or.inl rfl)
          refine g_Reader_readOne_115 ?_
          rw [r2.2.2.1, w32_id (x := u + (cd.length : Int) + 1) (by omega) (by omega)]
          obtain ⟨g1, g2, g3, g4⟩ := put_i (v := 20004) r2
          refine ct (by omega) (ct (by omega) (g_Reader_readOne_172 (ko _ l1 _ (Prs.neg o7 p2) (f2_t f1 (f2_t f2 g1)) ?_ ?_ ?_ (fun q => by omega) (fun q => by omega))))
          · have e : u + ((cd ++ [((2 : Int), (0 : Int))]).length : Int) = u + cd.length + 1 := by simp; omega
            rw [e]; exact g2
          · rw [ca_a]
            refine ⟨ca_c (fun j j0 j1 => g3 j (by omega)) c2, ?_, trivial⟩
            rw [g4]; decide
          · intro j hj; rw [g3 j (by omega), k2 j hj, e1 61 (by decide)]
        · intro f p s2 p2 f2 a1 a2 a3 a4
          refine g_Reader_readOne_115 (ci (fun q => ct (by omega) (g_Reader_readOne_172 (ke f p _ (Prs.negF o7 p2) (f2_t f1 (f2_t f2 ⟨sm_u (sm_u (sm_r _ _) (by simp)) (by simp), fun i h1 h2 h3 => by rw [up_i h3, up_c (by decide)]⟩)) ?_ a2 ?_ ?_))) (fun q => g_Reader_readOne_172 (ke f p s2 (Prs.negF o7 p2) (f2_t f1 f2) a1 a2 a3 a4)))
          · rw [up_i (by decide), up_c (by decide)]; exact a1
          · rw [up_i (by decide), up_c (by decide)]; exact a3
          · rw [up_s, w32_id (x := s2 60 4 + 1) (by omega) (by omega)]; omega
      · -- ( or |
        have hb' : b = 40 ∨ b = 124 := by omega
        have inn : ∀ z : Int, (z = 1 ∧ b = 124) ∨ (z = 0 ∧ b = 40) → wpV D' 172 0 [aR 65, aU] [] (mk s T) (fun M' => wpV (D' + 1) 149 139 [aR 60, aI o, aI z] [] M' P) := by
          intro z hz
          refine c_advance hr.1 (fun s1 e1 t1 => g_Reader_readOne_139 ?_)
          have f1 := f2_65 e1
          have r1 : RdS s1 n w u r := ⟨t1, by rw [e1 60 (by decide)]; exact hr.2.1, by rw [e1 60 (by decide)]; exact hr.2.2.1, by rw [e1 60 (by decide)]; exact hr.2.2.2⟩
          rw [w32_id (x := o + 1) (by omega) (by omega)]
          obtain ⟨D2, rfl⟩ : ∃ D2, D' = D2 + 1 := ⟨D' - 1, by omega⟩
          refine h4 r (by omega) (o + 1) u (D2 + 1) s1 _ (by omega) (by omega) (by omega) r1 u0 (by omega) ?_ ?_
          · intro cd l1 s2 p2 f2 r2 c2 k2 _ hno
            have nl := prs_n p2 _ _ rfl
            have nl2 := nl.2 (Or.inr (Or.inr rfl))
            have hno := hno (Or.inr rfl)
            have fl : ∀ b' : Int, (b' = 124 ∧ z = 1) ∨ (b' = 41 ∧ z = 0) → ¬ hdS l1 b' → wpV (D2 + 1 + 1) 149 161 [aR 60, aI o, aI z] [] (mk (up (up s2 60 1 1) 60 2 (s2 65 9)) T) P := fun b' hb2 hn => by
              obtain ⟨b1, b2, b3, b4⟩ := blm (s := s2) 1
              have pp : Prs w n 0 o ((3, b, st) :: r) (.inr (1, (plc n l1))) := by
                rcases hz with ⟨rfl, rfl⟩ | ⟨rfl, rfl⟩
                · have : b' = 124 := by omega
                  subst this; exact Prs.barN o7 p2 hn hno
                · have : b' = 41 := by omega
                  subst this; exact Prs.parN o7 p2 hn hno
              have c29 := ctk_9 r2.1
              refine g_Reader_readOne_161 (ci (fun _ => g_Reader_readOne_172 (ke 1 _ _ pp (f2_t f1 (f2_t f2 b1)) b2 (by decide) (by rw [b3]; exact c29) (by rw [b4, r2.2.2.1]; omega))) (fun _ => ?_))
              rw [b4, r2.2.2.1, w32_id (x := u + (cd.length : Int) + 1) (by omega) (by omega)]
              refine ct (by omega) (ct (by omega) (ke 1 _ _ pp (f2_t f1 (f2_t f2 (f2_t b1 ⟨sm_u (sm_u (sm_r _ _) (by simp)) (by simp), fun i h1 h2 h3 => by rw [up_i h3, up_c (by decide)]⟩))) ?_ (by decide) ?_ ?_))
              · rw [up_i (by decide), up_c (by decide)]; exact b2
              · rw [up_i (by decide), up_c (by decide), b3]; exact c29
              · rw [up_s]; omega
            refine g_Reader_readOne_146 (ci (fun z0 => ?_) (fun z0 => ?_))
            · refine c_expectSign r2.1 r2.2.1 (fun st' r' s3 e3 e' t' => ?_) (fun hn => fl 41 (Or.inr ⟨rfl, z0⟩) hn)
              subst e3
              subst z0
              have eb : b = 40 := by omega
              subst eb
              refine g_Reader_readOne_161 (ct rfl (g_Reader_readOne_172 (ko cd r' s3 (Prs.par o7 p2) (f2_t f1 (f2_t f2 (f2_65 e'))) ⟨t', by rw [e' 60 (by decide)]; exact r2.2.1, by rw [e' 60 (by decide)]; exact r2.2.2.1, by rw [e' 60 (by decide)]; exact r2.2.2.2⟩ (by rw [e' 61 (by decide)]; exact c2) (fun j hj => by rw [e' 61 (by decide), k2 j hj, e1 61 (by decide)]) (fun q => by omega) (fun q => by omega))))
            · have z1 : z = 1 := by omega
              subst z1
              have eb : b = 124 := by omega
              subst eb
              refine c_expectSign r2.1 r2.2.1 (fun st' r' s3 e3 e' t' => ?_) (fun hn => fl 124 (Or.inl ⟨rfl, rfl⟩) hn)
              subst e3
              have r3 : RdS s3 n w (u + cd.length) r' := ⟨t', by rw [e' 60 (by decide)]; exact r2.2.1, by rw [e' 60 (by decide)]; exact r2.2.2.1, by rw [e' 60 (by decide)]; exact r2.2.2.2⟩
              refine g_Reader_readOne_161 (cf (by decide) ?_)
              rw [r3.2.2.1, w32_id (x := u + (cd.length : Int) + 1) (by omega) (by omega)]
              obtain ⟨g1, g2, g3, g4⟩ := put_i (v := 20005) r3
              refine ct (by omega) (ct (by omega) (ko _ r' _ (Prs.bar o7 p2) (f2_t f1 (f2_t f2 (f2_t (f2_65 e') g1))) ?_ ?_ ?_ (fun q => by omega) (fun q => by omega)))
              · have e : u + ((cd ++ [((3 : Int), (0 : Int))]).length : Int) = u + cd.length + 1 := by simp; omega
                rw [e]; exact g2
              · rw [ca_a]
                refine ⟨ca_c (fun j j0 j1 => by rw [g3 j (by omega), e' 61 (by decide)]) c2, ?_, trivial⟩
                rw [g4]; decide
              · intro j hj; rw [g3 j (by omega), e' 61 (by decide), k2 j hj, e1 61 (by decide)]
          · intro f p s2 p2 f2 a1 a2 a3 a4
            have pp : Prs w n 0 o ((3, b, st) :: r) (.inr (f, p)) := Prs.inF hb' o7 p2
            have en : wpV (D2 + 1 + 1) 149 161 [aR 60, aI o, aI z] [] (mk s2 T) P := by
              refine g_Reader_readOne_161 (ci (fun _ => g_Reader_readOne_172 (ke f p s2 pp (f2_t f1 f2) a1 a2 a3 a4)) (fun _ => ci (fun q => ct (by omega) (ke f p _ pp (f2_t f1 (f2_t f2 ⟨sm_u (sm_u (sm_r _ _) (by simp)) (by simp), fun i h1 h2 h3 => by rw [up_i h3, up_c (by decide)]⟩)) ?_ a2 ?_ ?_)) (fun q => ke f p s2 pp (f2_t f1 f2) a1 a2 a3 a4)))
              · rw [up_i (by decide), up_c (by decide)]; exact a1
              · rw [up_i (by decide), up_c (by decide)]; exact a3
              · rw [up_s, w32_id (x := s2 60 4 + 1) (by omega) (by omega)]; omega
            exact g_Reader_readOne_146 (ci (fun _ => c_expectSignD (by omega) en) (fun _ => c_expectSignD (by omega) en))
        refine g_Reader_readOne_125 (ct hr.2.1 (ct hs.1 (ci (fun q => inn 1 (Or.inl ⟨rfl, by omega⟩)) (fun q => inn 0 (Or.inr ⟨rfl, by omega⟩)))))
    have rest : ¬ hdS l 40 → ¬ hdS l 124 → wpV (D' + 1) 149 61 [aR 60, aI o, aU] [] (mk s T) P := fun n1 n2 => by
      have no : ¬ hdS l 45 → wpV (D' + 1) 149 70 [aR 60, aI o, aU] [] (mk s T) P := fun n3 => g_Reader_readOne_70 (ct hr.2.1 (bl 1 (by decide) (Prs.none nt n1 n2 n3)))
      exact g_Reader_readOne_61 (ct hr.2.1 (ci (fun q => ci (fun q' => open_ 45 (Or.inr (Or.inr rfl)) ⟨q, q'⟩) (fun q' => no (fun h => q' ((hds_cur hr.1).mp h).2))) (fun q => no (fun h => q ((hds_cur hr.1).mp h).1))))
    refine ct hr.2.1 (ci (fun x3 => ci (fun y => open_ 40 (Or.inl rfl) ⟨x3, y⟩) (fun y => ct hr.2.1 (ct x3 (ci (fun z => open_ 124 (Or.inr (Or.inl rfl)) ⟨x3, z⟩) (fun z => rest (fun h => y ((hds_cur hr.1).mp h).2) (fun h => z ((hds_cur hr.1).mp h).2)))))) (fun x3 => ct hr.2.1 (cf x3 (rest (fun h => x3 ((hds_cur hr.1).mp h).1) (fun h => x3 ((hds_cur hr.1).mp h).1)))))
theorem one_0 {w n : Int} {T : TT} : OneH w n T 0 := by
  intro l lm o u D s P o0 o8 hD hr u0 ul ko ke
  have : l = [] := List.length_eq_zero_iff.mp (by omega)
  subst this
  obtain ⟨D', rfl⟩ : ∃ D', D = D' + 1 := ⟨D - 1, by omega⟩
  have c := ctk_cur hr.1
  have c8 : s 65 8 = 0 := c.1
  have nh : ∀ b, ¬ hdS [] b := fun b ⟨_, _, e⟩ => by simp at e
  obtain ⟨b1, b2, b3, b4⟩ := blm (s := s) 1
  refine g_Reader_readOne_0 (cf (by omega) (cf (by omega) (ct hr.2.1 (cf (by omega) (ct hr.2.1 (cf (by omega) (g_Reader_readOne_61 (ct hr.2.1 (cf (by omega) (g_Reader_readOne_70 (ct hr.2.1 (g_Reader_readOne_172 (ke 1 n _ (Prs.none (fun t r e => by simp at e) (nh _) (nh _) (nh _)) b1 b2 (by decide) (by rw [b3]; exact c.2.1) (by rw [b4, hr.2.2.1]; exact u0))))))))))))))
theorem one_all {w n : Int} {T : TT} (w0 : 0 ≤ w) (w4 : w < 4) : ∀ m, OneH w n T m
  | 0 => one_0
  | m + 1 => one_s w0 w4 (one_all w0 w4 m) (sum_of (prod_of (one_all w0 w4 m)))
theorem c_readSum {w n : Int} {T : TT} (w0 : 0 ≤ w) (w4 : w < 4) (m : Nat) : SumH w n T m := sum_of (prod_of (one_all w0 w4 m))
end
