/-! ONE LEMMA AN INSTRUCTION: arrays -/
noncomputable section
theorem arr_wr {D : DD} {w : WD} {M : AM} {H H' : Heap} {a j x : Int} {K kn : Nat} (h : MR D w M H) (hk : kd M.2.2 a = K) (h1 : 50 ≤ K) (h2 : K ≤ 54) (ea : a = kn) (k1 : 2 ≤ kn) (k5 : (at0 M.2.2 kn).1 = K) (k8 : (at0 M.2.2 kn).2 = ln M.2.2 a) (k6 : 0 ≤ ln M.2.2 a) (k7 : ln M.2.2 a ≤ 10000) (k10 : ∀ j : Nat, j < (ln M.2.2 a).toNat → okA K (M.1 a j)) (hj0 : 0 ≤ j) (hj : j < ln M.2.2 a) (hx : okA K x)
    (e1 : H'[w.2.2.1 + (kn - 2)]? = some ((arrV (D.2.2 K) (ln M.2.2 a).toNat (fun j => av w K (M.1 a j))).setSlot j.toNat (av w K x))) (e2 : H'.size = H.size) (e3 : ∀ q : Nat, q ≠ w.2.2.1 + (kn - 2) → H'[q]? = H[q]?) : MR D w (up M.1 a j x, M.2) H' := by
  refine h.wr ea k1 e2 e3 (σ := up M.1 a j x) (rf := M.2.1) (fun a' h9 => up_ne h9) (fun _ _ => rfl) (Or.inr ⟨by rw [k5]; exact h1, by rw [k5]; exact h2, by rw [k8]; exact k6, by rw [k8]; exact k7, ?_, ?_⟩)
  · rw [e1, k5, k8, arrV_store]
    congr 1
    refine arrV_cong fun i hi => ?_
    unfold updV
    by_cases hij : i = j.toNat
    · rw [if_pos hij, up_at, if_pos (by omega)]
    · rw [if_neg hij, up_at, if_neg (by omega)]
  · rw [k5, k8]
    intro i hi
    rw [up_at]
    by_cases hij : (i : Int) = j
    · rw [if_pos hij]; exact hx
    · rw [if_neg hij]; exact k10 i hi
theorem len_ref {D : DD} {w : WD} {M : AM} {H : Heap} (h : MR D w M H) : cV w (2, (M.2.2.length : Int)) = .ref H.size := by
  obtain ⟨⟨m1, m2, -⟩, -⟩ := h
  show cR w _ = _
  unfold cR cad
  rw [if_neg (by omega), if_neg (by omega), m2]
  congr 1
theorem tb_i : Cond.arrayClass .int ∈ gws := by
  have h := tb_mem (i := 148) (w := .arrayClass .int) (by decide +kernel)
  exact gws_in h.1 h.2
theorem tb_b : Cond.arrayClass .byte ∈ gws := by
  have h := tb_mem (i := 428) (w := .arrayClass .byte) (by decide +kernel)
  exact gws_in h.1 h.2
theorem tb_l : Cond.arrayClass .long ∈ gws := by
  have h := tb_mem (i := 1442) (w := .arrayClass .long) (by decide +kernel)
  exact gws_in h.1 h.2
theorem tb_z : Cond.arrayClass .boolean ∈ gws := by
  have h := tb_mem (i := 1443) (w := .arrayClass .boolean) (by decide +kernel)
  exact gws_in h.1 h.2
theorem tb_ot : Cond.classLink "AgainstFeather$Told" 55 "AgainstFeather$Text" ∈ gws := by
  have h := tb_mem (i := 36) (w := .classLink "AgainstFeather$Told" 55 "AgainstFeather$Text") (by decide +kernel)
  exact gws_in h.1 h.2
theorem tb_c1 : Cond.classLink "AgainstFeather$Reader" 72 "[I" ∈ gws := by
  have h := tb_mem (i := 769) (w := .classLink "AgainstFeather$Reader" 72 "[I") (by decide +kernel)
  exact gws_in h.1 h.2
theorem tb_c2 : Cond.classLink "java/util/Arrays" 317 "[I" ∈ gws := by
  have h := tb_mem (i := 761) (w := .classLink "java/util/Arrays" 317 "[I") (by decide +kernel)
  exact gws_in h.1 h.2
section
variable {p : Program} {l : Launch} {e : Env} {R : Room} {s : State} {mid : MethodId} {args : Array Value} {below : List Frame} {meth : Method} {c : Code} {D : DD} {w : WD} {m k0 j0 : Nat} {Q : State → Prop} {pc : Nat} {L S : List AV} {M : AM} {H : Heap} {locs : List Loc} {cells slots : Nat} {ls : Array Slot} {ax : List Nat} {cn : Int} {RR : AV → AM → Prop} {CC : Nat → List AV → Nat → List AV → Nat → Prop}
theorem kd_55 (h : MR D w M H) {a : Int} (h55 : kd M.2.2 a = 55) : a = 1 := by
  obtain ⟨⟨m1, m2, m3, m4⟩, -, m6⟩ := h
  by_cases q0 : a.toNat = 1
  · omega
  · exfalso
    by_cases q1 : a.toNat = 0
    · unfold kd at h55; rw [q1] at h55; rw [h55] at m3; exact absurd m3 (by decide)
    · rcases Nat.lt_or_ge a.toNat M.2.2.length with q2 | q2
      · rcases m6 a.toNat (by omega) q2 with ⟨z1, -⟩ | ⟨-, z1, -⟩
        · have : (at0 M.2.2 a.toNat).1 = 55 := h55
          omega
        · have : (at0 M.2.2 a.toNat).1 = 55 := h55
          omega
      · unfold kd at h55; rw [nth_out _ _ _ q2] at h55; exact absurd h55 (by decide)
theorem s_iaload (hf : Fr p s mid args meth c D w m) (hs : St D w m k0 j0 L S M H locs cells slots ls) (hd : decode (mB m) pc = .ok (.iaload, 1)) (h : a_iaload (pc + 1) ax cn L S M (KW p l e R s mid args below meth c D w m k0 j0 Q) RR CC False) : W p l e R s mid args below meth c H locs cells slots Q (F0 mid pc ls (S.map (cV w))) := by
  obtain ⟨hx, hb, hml, hown, hts, hcx, hname⟩ := hf
  unfold a_iaload at h
  split at h
  · rename_i j a S'
    obtain ⟨h1, h2⟩ := brK_b h
    obtain ⟨h3, h4⟩ := brK_b h2
    have h3 := of_decide_eq_true h3
    have hj : r32 j := ok_h hs.2.2.1
    show W p l e R s mid args below meth c H locs cells slots Q (F0 mid pc ls (.int (i32 j) :: cR w a :: S'.map (cV w)))
    simp only [Bool.or_eq_true] at h1
    rcases h1 with h1 | h1
    · have h1 := Nat.eq_of_beq_eq_true h1
      obtain ⟨kn, ea, k1, k2, k4, k5, k6, k7, k8, k9, k10⟩ := kd_arr hs.2.1 h1 (by decide) (by decide)
      rw [k4]
      have hjn : ((j.toNat : Nat) : Int) = j := by omega
      have hok : okA 50 (M.1 a j) := by have := k10 j.toNat (by omega); rwa [hjn] at this
      refine W.iald (v := av w 50 (M.1 a j)) hx hb k9 ((hcx.2.1 50 (by decide) (by decide)).1 _ _) (fun q => by cases q) (by rw [arrV_size]; exact in_arr hj h3.1 h3.2) (by rw [clamp hj h3.1, arrV_read _ _ (by omega), hjn]) rfl rfl hd (st_go h4 hs (ok_c (show r32 _ from hok) (ok_t (ok_t hs.2.2.1))))
    · have h55 := Nat.eq_of_beq_eq_true h1
      obtain ⟨⟨m1, m2, m3, m4⟩, ⟨m5, m7, m8, m9, scr, s1, s2, s3, s4⟩, m6⟩ := hs.2.1
      have ha : a = 1 := kd_55 hs.2.1 h55
      subst ha
      have hr : cR w 1 = .ref w.1 := rfl
      rw [hr]
      have hH : H[w.1]? = some scr := by rw [m5 _ m7]; exact s1
      have hjn : ((j.toNat : Nat) : Int) = j := by omega
      have h3' : j < (at0 M.2.2 1).2 := h3.2
      have s5 := s4 j.toNat (by omega)
      rw [hjn] at s5
      refine W.iald (v := .int (i32 (M.1 1 j))) hx hb hH (hcx.2.2.1 scr s1) s2 (by rw [s3]; exact in_arr hj h3.1 h3') (by rw [clamp hj h3.1]; exact s5.1) rfl rfl hd (st_go h4 hs (ok_c (show r32 _ from s5.2) (ok_t (ok_t hs.2.2.1))))
  · exact h.elim
theorem s_laload (hf : Fr p s mid args meth c D w m) (hs : St D w m k0 j0 L S M H locs cells slots ls) (hd : decode (mB m) pc = .ok (.laload, 1)) (h : a_laload (pc + 1) ax cn L S M (KW p l e R s mid args below meth c D w m k0 j0 Q) RR CC False) : W p l e R s mid args below meth c H locs cells slots Q (F0 mid pc ls (S.map (cV w))) := by
  obtain ⟨hx, hb, hml, hown, hts, hcx, hname⟩ := hf
  unfold a_laload at h
  split at h
  · rename_i j a S'
    obtain ⟨h1, h2⟩ := brK_b h
    obtain ⟨h3, h4⟩ := brK_b h2
    have h3 := of_decide_eq_true h3
    have hj : r32 j := ok_h hs.2.2.1
    show W p l e R s mid args below meth c H locs cells slots Q (F0 mid pc ls (.int (i32 j) :: cR w a :: S'.map (cV w)))
    have h1 := Nat.eq_of_beq_eq_true h1
    obtain ⟨kn, ea, k1, k2, k4, k5, k6, k7, k8, k9, k10⟩ := kd_arr hs.2.1 h1 (by decide) (by decide)
    rw [k4]
    have hjn : ((j.toNat : Nat) : Int) = j := by omega
    have hok : okA 51 (M.1 a j) := by have := k10 j.toNat (by omega); rwa [hjn] at this
    refine W.lald (v := av w 51 (M.1 a j)) hx hb k9 ((hcx.2.1 51 (by decide) (by decide)).1 _ _) (fun q => by cases q) (by rw [arrV_size]; exact in_arr hj h3.1 h3.2) (by rw [clamp hj h3.1, arrV_read _ _ (by omega), hjn]) rfl rfl hd (st_go h4 hs (ok_c (show r64 _ from hok) (ok_t (ok_t hs.2.2.1))))
  · exact h.elim
theorem s_aaload (hf : Fr p s mid args meth c D w m) (hs : St D w m k0 j0 L S M H locs cells slots ls) (hd : decode (mB m) pc = .ok (.aaload, 1)) (h : a_aaload (pc + 1) ax cn L S M (KW p l e R s mid args below meth c D w m k0 j0 Q) RR CC False) : W p l e R s mid args below meth c H locs cells slots Q (F0 mid pc ls (S.map (cV w))) := by
  obtain ⟨hx, hb, hml, hown, hts, hcx, hname⟩ := hf
  unfold a_aaload at h
  split at h
  · rename_i j a S'
    obtain ⟨h1, h2⟩ := brK_b h
    obtain ⟨h3, h4⟩ := brK_b h2
    have h3 := of_decide_eq_true h3
    have hj : r32 j := ok_h hs.2.2.1
    show W p l e R s mid args below meth c H locs cells slots Q (F0 mid pc ls (.int (i32 j) :: cR w a :: S'.map (cV w)))
    have h1 := Nat.eq_of_beq_eq_true h1
    obtain ⟨kn, ea, k1, k2, k4, k5, k6, k7, k8, k9, k10⟩ := kd_arr hs.2.1 h1 (by decide) (by decide)
    rw [k4]
    have hjn : ((j.toNat : Nat) : Int) = j := by omega
    have hok : okA 54 (M.1 a j) := by have := k10 j.toNat (by omega); rwa [hjn] at this
    refine W.aald (v := av w 54 (M.1 a j)) hx hb k9 ((hcx.2.1 54 (by decide) (by decide)).1 _ _) rfl (fun q => by cases q) (by rw [arrV_size]; exact in_arr hj h3.1 h3.2) (by rw [clamp hj h3.1, arrV_read _ _ (by omega), hjn]) rfl rfl hd (st_go h4 hs (ok_c (show okV (2, _) from trivial) (ok_t (ok_t hs.2.2.1))))
  · exact h.elim
theorem s_baload (hf : Fr p s mid args meth c D w m) (hs : St D w m k0 j0 L S M H locs cells slots ls) (hd : decode (mB m) pc = .ok (.baload, 1)) (h : a_baload (pc + 1) ax cn L S M (KW p l e R s mid args below meth c D w m k0 j0 Q) RR CC False) : W p l e R s mid args below meth c H locs cells slots Q (F0 mid pc ls (S.map (cV w))) := by
  obtain ⟨hx, hb, hml, hown, hts, hcx, hname⟩ := hf
  unfold a_baload at h
  split at h
  · rename_i j a S'
    obtain ⟨h1, h2⟩ := brK_b h
    obtain ⟨h3, h4⟩ := brK_b h2
    have h3 := of_decide_eq_true h3
    have hj : r32 j := ok_h hs.2.2.1
    show W p l e R s mid args below meth c H locs cells slots Q (F0 mid pc ls (.int (i32 j) :: cR w a :: S'.map (cV w)))
    simp only [Bool.or_eq_true] at h1
    rcases h1 with h1 | h1
    · have h1 := Nat.eq_of_beq_eq_true h1
      obtain ⟨kn, ea, k1, k2, k4, k5, k6, k7, k8, k9, k10⟩ := kd_arr hs.2.1 h1 (by decide) (by decide)
      rw [k4]
      have hjn : ((j.toNat : Nat) : Int) = j := by omega
      have hok : okA 52 (M.1 a j) := by have := k10 j.toNat (by omega); rwa [hjn] at this
      refine W.bald (v := av w 52 (M.1 a j)) hx hb k9 ((hcx.2.1 52 (by decide) (by decide)).1 _ _) (fun q => by cases q) (by rw [arrV_size]; exact in_arr hj h3.1 h3.2) (by rw [clamp hj h3.1, arrV_read _ _ (by omega), hjn]) rfl rfl hd (st_go h4 hs (ok_c (show r32 (M.1 a j) from ⟨by have := hok.1; omega, by have := hok.2; omega⟩) (ok_t (ok_t hs.2.2.1))))
    · have h1 := Nat.eq_of_beq_eq_true h1
      obtain ⟨kn, ea, k1, k2, k4, k5, k6, k7, k8, k9, k10⟩ := kd_arr hs.2.1 h1 (by decide) (by decide)
      rw [k4]
      have hjn : ((j.toNat : Nat) : Int) = j := by omega
      have hok : okA 53 (M.1 a j) := by have := k10 j.toNat (by omega); rwa [hjn] at this
      refine W.zald (v := av w 53 (M.1 a j)) hx hb k9 ((hcx.2.1 53 (by decide) (by decide)).1 _ _) (fun q => by cases q) (by rw [arrV_size]; exact in_arr hj h3.1 h3.2) (by rw [clamp hj h3.1, arrV_read _ _ (by omega), hjn]) rfl rfl hd (st_go h4 hs (ok_c (show r32 (M.1 a j) from by rcases hok with q | q <;> rw [q] <;> unfold r32 <;> omega) (ok_t (ok_t hs.2.2.1))))
  · exact h.elim
theorem s_iastore (hf : Fr p s mid args meth c D w m) (hs : St D w m k0 j0 L S M H locs cells slots ls) (hd : decode (mB m) pc = .ok (.iastore, 1)) (h : a_iastore (pc + 1) ax cn L S M (KW p l e R s mid args below meth c D w m k0 j0 Q) RR CC False) : W p l e R s mid args below meth c H locs cells slots Q (F0 mid pc ls (S.map (cV w))) := by
  obtain ⟨hx, hb, hml, hown, hts, hcx, hname⟩ := hf
  unfold a_iastore at h
  split at h
  · rename_i x j a S'
    obtain ⟨h1, h2⟩ := brK_b h
    obtain ⟨h3, h4⟩ := brK_b h2
    have h3 := of_decide_eq_true h3
    have hv := ok_h hs.2.2.1
    have hj : r32 j := ok_h (ok_t hs.2.2.1)
    show W p l e R s mid args below meth c H locs cells slots Q (F0 mid pc ls (.int (i32 x) :: .int (i32 j) :: cR w a :: S'.map (cV w)))
    have h1 := Nat.eq_of_beq_eq_true h1
    obtain ⟨kn, ea, k1, k2, k4, k5, k6, k7, k8, k9, k10⟩ := kd_arr hs.2.1 h1 (by decide) (by decide)
    rw [k4]
    obtain ⟨hL, hM, hS, hlo, hce, hsl⟩ := hs
    refine W.iast hx hb k9 ((hcx.2.1 50 (by decide) (by decide)).1 _ _) (fun q => by cases q) (by rw [arrV_size]; exact in_arr hj h3.1 h3.2) rfl rfl hd (fun H' e1 e2 e3 => ?_)
    exact h4.2 H' _ cells slots ls ⟨hL, arr_wr hM h1 (by decide) (by decide) ea k1 k5 k8 k6 k7 k10 h3.1 h3.2 hv (by rw [e1, clamp hj h3.1]; rfl) e2 e3, ok_t (ok_t (ok_t hS)), locs_1 hlo (by omega), hce, hsl⟩
  · exact h.elim
theorem s_lastore (hf : Fr p s mid args meth c D w m) (hs : St D w m k0 j0 L S M H locs cells slots ls) (hd : decode (mB m) pc = .ok (.lastore, 1)) (h : a_lastore (pc + 1) ax cn L S M (KW p l e R s mid args below meth c D w m k0 j0 Q) RR CC False) : W p l e R s mid args below meth c H locs cells slots Q (F0 mid pc ls (S.map (cV w))) := by
  obtain ⟨hx, hb, hml, hown, hts, hcx, hname⟩ := hf
  unfold a_lastore at h
  split at h
  · rename_i x j a S'
    obtain ⟨h1, h2⟩ := brK_b h
    obtain ⟨h3, h4⟩ := brK_b h2
    have h3 := of_decide_eq_true h3
    have hv := ok_h hs.2.2.1
    have hj : r32 j := ok_h (ok_t hs.2.2.1)
    show W p l e R s mid args below meth c H locs cells slots Q (F0 mid pc ls (.long (i64 x) :: .int (i32 j) :: cR w a :: S'.map (cV w)))
    have h1 := Nat.eq_of_beq_eq_true h1
    obtain ⟨kn, ea, k1, k2, k4, k5, k6, k7, k8, k9, k10⟩ := kd_arr hs.2.1 h1 (by decide) (by decide)
    rw [k4]
    obtain ⟨hL, hM, hS, hlo, hce, hsl⟩ := hs
    refine W.last hx hb k9 ((hcx.2.1 51 (by decide) (by decide)).1 _ _) (fun q => by cases q) (by rw [arrV_size]; exact in_arr hj h3.1 h3.2) rfl rfl hd (fun H' e1 e2 e3 => ?_)
    exact h4.2 H' _ cells slots ls ⟨hL, arr_wr hM h1 (by decide) (by decide) ea k1 k5 k8 k6 k7 k10 h3.1 h3.2 hv (by rw [e1, clamp hj h3.1]; rfl) e2 e3, ok_t (ok_t (ok_t hS)), locs_1 hlo (by omega), hce, hsl⟩
  · exact h.elim
theorem bst_b {x : Int} (h : r32 x) : narrow .byte (.int (i32 x)) = .int (i32 (w8 x)) := by
  rw [← i32_b h]; rfl
theorem bst_z {x : Int} (h : x = 0 ∨ x = 1) : narrow .boolean (.int (i32 x)) = .int (i32 x) := by
  rcases h with h | h <;> subst h <;> rfl
theorem s_bastore (hf : Fr p s mid args meth c D w m) (hs : St D w m k0 j0 L S M H locs cells slots ls) (hd : decode (mB m) pc = .ok (.bastore, 1)) (h : a_bastore (pc + 1) ax cn L S M (KW p l e R s mid args below meth c D w m k0 j0 Q) RR CC False) : W p l e R s mid args below meth c H locs cells slots Q (F0 mid pc ls (S.map (cV w))) := by
  obtain ⟨hx, hb, hml, hown, hts, hcx, hname⟩ := hf
  unfold a_bastore at h
  split at h
  · rename_i x j a S'
    have hv : r32 x := ok_h hs.2.2.1
    have hj : r32 j := ok_h (ok_t hs.2.2.1)
    show W p l e R s mid args below meth c H locs cells slots Q (F0 mid pc ls (.int (i32 x) :: .int (i32 j) :: cR w a :: S'.map (cV w)))
    cases h1 : Nat.beq (kd M.2.2 a) 52 with
    | true =>
      rw [h1] at h
      have h1 := Nat.eq_of_beq_eq_true h1
      obtain ⟨h3, h4⟩ := brK_b h
      have h3 := of_decide_eq_true h3
      obtain ⟨kn, ea, k1, k2, k4, k5, k6, k7, k8, k9, k10⟩ := kd_arr hs.2.1 h1 (by decide) (by decide)
      rw [k4]
      obtain ⟨hL, hM, hS, hlo, hce, hsl⟩ := hs
      refine W.bast hx hb k9 ((hcx.2.1 52 (by decide) (by decide)).1 _ _) (fun q => by cases q) (by rw [arrV_size]; exact in_arr hj h3.1 h3.2) rfl rfl hd (fun H' e1 e2 e3 => ?_)
      exact h4.2 H' _ cells slots ls ⟨hL, arr_wr hM h1 (by decide) (by decide) ea k1 k5 k8 k6 k7 k10 h3.1 h3.2 (w8_r x) (by rw [e1, clamp hj h3.1]; rw [bst_b hv]; rfl) e2 e3, ok_t (ok_t (ok_t hS)), locs_1 hlo (by omega), hce, hsl⟩
    | false =>
      rw [h1] at h
      obtain ⟨h1, h2⟩ := brK_b h
      have h1 := Nat.eq_of_beq_eq_true h1
      obtain ⟨h3, h4⟩ := brK_b h2
      have h3 := of_decide_eq_true h3
      obtain ⟨h5, h3⟩ := h3
      obtain ⟨kn, ea, k1, k2, k4, k5, k6, k7, k8, k9, k10⟩ := kd_arr hs.2.1 h1 (by decide) (by decide)
      rw [k4]
      obtain ⟨hL, hM, hS, hlo, hce, hsl⟩ := hs
      refine W.zast hx hb k9 ((hcx.2.1 53 (by decide) (by decide)).1 _ _) (fun q => by cases q) (by rw [arrV_size]; exact in_arr hj h3.1 h3.2) rfl rfl hd (fun H' e1 e2 e3 => ?_)
      exact h4.2 H' _ cells slots ls ⟨hL, arr_wr hM h1 (by decide) (by decide) ea k1 k5 k8 k6 k7 k10 h3.1 h3.2 h5 (by rw [e1, clamp hj h3.1]; rw [bst_z h5]; rfl) e2 e3, ok_t (ok_t (ok_t hS)), locs_1 hlo (by omega), hce, hsl⟩
  · exact h.elim
theorem nab (t : FieldType) {n : Nat} (h : n ≤ 10000) : n * componentBytes t ≤ 536870912 := by
  have h2 : componentBytes t ≤ 8 := by cases t <;> exact Nat.le_of_ble_eq_true rfl
  calc n * componentBytes t ≤ 10000 * 8 := Nat.mul_le_mul h h2
    _ ≤ 536870912 := by decide
theorem s_newarray {t : ArrayType} (hf : Fr p s mid args meth c D w m) (hs : St D w m k0 j0 L S M H locs cells slots ls) (hd : decode (mB m) pc = .ok (.newarray t, 2)) (hk : chkI m pc (.newarray t, pc + 2, ax, cn) = true) (h : a_newarray t (pc + 2) ax cn L S M (KW p l e R s mid args below meth c D w m k0 j0 Q) RR CC False) : W p l e R s mid args below meth c H locs cells slots Q (F0 mid pc ls (S.map (cV w))) := by
  obtain ⟨hx, hb, hml, hown, hts, hcx, hname⟩ := hf
  unfold a_newarray at h
  split at h
  · rename_i n S'
    obtain ⟨h3, h4⟩ := brK_b h
    have h3 := of_decide_eq_true h3
    have hn : r32 n := ok_h hs.2.2.1
    obtain ⟨hL, hM, hS, hlo, hce, hsl⟩ := hs
    have b1 : M.2.2.length + 1 ≤ k0 + R.cells := by have := h4.1.1; simpa using this
    have b2 : sl M.2.2 + n.toNat ≤ j0 + R.slots := by have := h4.1.2; simpa [sl_app, sl] using this
    have hlr := len_ref hM
    show W p l e R s mid args below meth c H locs cells slots Q (F0 mid pc ls (.int (i32 n) :: S'.map (cV w)))
    have hn0 : ¬ i32 n < 0 := by rw [show (0 : Int32) = i32 0 from rfl, i32_lt hn r32_0]; omega
    cases t with
    | int =>
      refine va_newaK (atype := .int) (N := n.toNat) hx hb (hts _ tb_i) rfl hd rfl hn0 (clamp hn h3.1) (nab _ (by omega)) (by omega) (by omega) rfl (fun H' cA e1 z1 o1 hAr hNm => ?_)
      have hcA : cA = D.2.2 50 := Option.some.inj (hNm.symm.trans (hcx.2.1 50 (by decide) (by decide)).2)
      have h9 := h4.2 H' locs (cells + 1) (slots + n.toNat) ls ⟨hL, hM.add z1 o1 (σ := zr M.1 M.2.2.length) (rf := M.2.1) (fun a' q => zr_ne q) (fun _ _ => rfl) (Or.inr ⟨Nat.le_of_ble_eq_true rfl, Nat.le_of_ble_eq_true rfl, h3.1, h3.2, ?_, ?_⟩), ok_c (show okV (2, _) from trivial) (ok_t hS), hlo, by rw [List.length_append]; show cells + 1 + k0 = M.2.2.length + 1; omega, by rw [sl_app]; show slots + n.toNat + j0 = sl M.2.2 + (n.toNat + 0); omega⟩
      · show W p l e R s mid args below meth c H' locs (cells + 1) (slots + n.toNat) Q (F0 mid (pc + 2) ls (.ref H.size :: S'.map (cV w)))
        have e9 : List.map (cV w) (aR (M.2.2.length : Int) :: S') = .ref H.size :: S'.map (cV w) := by rw [List.map_cons, hlr]
        rw [e9] at h9
        exact h9
      · rw [e1, hcA]
        exact congrArg some (arrV_cong fun j _ => by rw [zr_at]; rfl)
      · intro j _
        rw [zr_at]
        exact r32_0
    | long =>
      refine va_newaK (atype := .long) (N := n.toNat) hx hb (hts _ tb_l) rfl hd rfl hn0 (clamp hn h3.1) (nab _ (by omega)) (by omega) (by omega) rfl (fun H' cA e1 z1 o1 hAr hNm => ?_)
      have hcA : cA = D.2.2 51 := Option.some.inj (hNm.symm.trans (hcx.2.1 51 (by decide) (by decide)).2)
      have h9 := h4.2 H' locs (cells + 1) (slots + n.toNat) ls ⟨hL, hM.add z1 o1 (σ := zr M.1 M.2.2.length) (rf := M.2.1) (fun a' q => zr_ne q) (fun _ _ => rfl) (Or.inr ⟨Nat.le_of_ble_eq_true rfl, Nat.le_of_ble_eq_true rfl, h3.1, h3.2, ?_, ?_⟩), ok_c (show okV (2, _) from trivial) (ok_t hS), hlo, by rw [List.length_append]; show cells + 1 + k0 = M.2.2.length + 1; omega, by rw [sl_app]; show slots + n.toNat + j0 = sl M.2.2 + (n.toNat + 0); omega⟩
      · show W p l e R s mid args below meth c H' locs (cells + 1) (slots + n.toNat) Q (F0 mid (pc + 2) ls (.ref H.size :: S'.map (cV w)))
        have e9 : List.map (cV w) (aR (M.2.2.length : Int) :: S') = .ref H.size :: S'.map (cV w) := by rw [List.map_cons, hlr]
        rw [e9] at h9
        exact h9
      · rw [e1, hcA]
        exact congrArg some (arrV_cong fun j _ => by rw [zr_at]; rfl)
      · intro j _
        rw [zr_at]
        exact r64_0
    | byte =>
      refine va_newaK (atype := .byte) (N := n.toNat) hx hb (hts _ tb_b) rfl hd rfl hn0 (clamp hn h3.1) (nab _ (by omega)) (by omega) (by omega) rfl (fun H' cA e1 z1 o1 hAr hNm => ?_)
      have hcA : cA = D.2.2 52 := Option.some.inj (hNm.symm.trans (hcx.2.1 52 (by decide) (by decide)).2)
      have h9 := h4.2 H' locs (cells + 1) (slots + n.toNat) ls ⟨hL, hM.add z1 o1 (σ := zr M.1 M.2.2.length) (rf := M.2.1) (fun a' q => zr_ne q) (fun _ _ => rfl) (Or.inr ⟨Nat.le_of_ble_eq_true rfl, Nat.le_of_ble_eq_true rfl, h3.1, h3.2, ?_, ?_⟩), ok_c (show okV (2, _) from trivial) (ok_t hS), hlo, by rw [List.length_append]; show cells + 1 + k0 = M.2.2.length + 1; omega, by rw [sl_app]; show slots + n.toNat + j0 = sl M.2.2 + (n.toNat + 0); omega⟩
      · show W p l e R s mid args below meth c H' locs (cells + 1) (slots + n.toNat) Q (F0 mid (pc + 2) ls (.ref H.size :: S'.map (cV w)))
        have e9 : List.map (cV w) (aR (M.2.2.length : Int) :: S') = .ref H.size :: S'.map (cV w) := by rw [List.map_cons, hlr]
        rw [e9] at h9
        exact h9
      · rw [e1, hcA]
        exact congrArg some (arrV_cong fun j _ => by rw [zr_at]; rfl)
      · intro j _
        rw [zr_at]
        exact ⟨by omega, by omega⟩
    | boolean =>
      refine va_newaK (atype := .boolean) (N := n.toNat) hx hb (hts _ tb_z) rfl hd rfl hn0 (clamp hn h3.1) (nab _ (by omega)) (by omega) (by omega) rfl (fun H' cA e1 z1 o1 hAr hNm => ?_)
      have hcA : cA = D.2.2 53 := Option.some.inj (hNm.symm.trans (hcx.2.1 53 (by decide) (by decide)).2)
      have h9 := h4.2 H' locs (cells + 1) (slots + n.toNat) ls ⟨hL, hM.add z1 o1 (σ := zr M.1 M.2.2.length) (rf := M.2.1) (fun a' q => zr_ne q) (fun _ _ => rfl) (Or.inr ⟨Nat.le_of_ble_eq_true rfl, Nat.le_of_ble_eq_true rfl, h3.1, h3.2, ?_, ?_⟩), ok_c (show okV (2, _) from trivial) (ok_t hS), hlo, by rw [List.length_append]; show cells + 1 + k0 = M.2.2.length + 1; omega, by rw [sl_app]; show slots + n.toNat + j0 = sl M.2.2 + (n.toNat + 0); omega⟩
      · show W p l e R s mid args below meth c H' locs (cells + 1) (slots + n.toNat) Q (F0 mid (pc + 2) ls (.ref H.size :: S'.map (cV w)))
        have e9 : List.map (cV w) (aR (M.2.2.length : Int) :: S') = .ref H.size :: S'.map (cV w) := by rw [List.map_cons, hlr]
        rw [e9] at h9
        exact h9
      · rw [e1, hcA]
        exact congrArg some (arrV_cong fun j _ => by rw [zr_at]; rfl)
      · intro j _
        rw [zr_at]
        exact Or.inl rfl
    | _ => exact absurd (show false = true from hk) (by decide)
  · exact h.elim
end
end
