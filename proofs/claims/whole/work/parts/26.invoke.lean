/-! CALLS -/
noncomputable section
theorem ml_link {o idx y : Nat} (h : hasL (nth mlT o []) idx y = true) : Cond.methodLink (nth owN o "") idx (mN y) ∈ gws ∧ 0 < y ∧ y < 311 := by
  obtain ⟨q, hq, rfl, rfl⟩ := hasL_mem h
  have h1 := nth_all 16 (Nat.le_refl _) mlT_ok o q hq
  simp only [mlP, Bool.and_eq_true] at h1
  have h2 := tb_mem h1.1.1
  exact ⟨gws_in h2.1 h2.2, by simpa using h1.2, by simpa using h1.1.2⟩
set_option maxRecDepth 100000 in
theorem nl_0 : (List.range 16).all (fun o => Nat.beq o 0 || decide (nth nlT o [] = [])) = true := by decide +kernel
theorem nl_link {o idx y : Nat} (h : hasL (nth nlT o []) idx y = true) : o = 0 ∧ (∃ k, (idx, y, k) ∈ nth nlT 0 []) ∧ 0 < y ∧ y < 311 := by
  obtain ⟨q, hq, rfl, rfl⟩ := hasL_mem h
  have h1 := nth_all 16 (Nat.le_refl _) nlT_ok o q hq
  simp only [nlP, Bool.and_eq_true] at h1
  have ho : o = 0 := by
    rcases Nat.lt_or_ge o 16 with h2 | h2
    · have h3 := List.all_eq_true.mp nl_0 o (List.mem_range.mpr h2)
      simp only [Bool.or_eq_true, decide_eq_true_eq] at h3
      rcases h3 with h3 | h3
      · exact Nat.eq_of_beq_eq_true h3
      · rw [h3] at hq; exact absurd hq List.not_mem_nil
    · rw [nth_out _ _ _ h2] at hq
      exact absurd hq List.not_mem_nil
  refine ⟨ho, ⟨q.2.2, by rw [← ho]; exact hq⟩, by simpa using h1.2, by simpa using h1.1.2⟩
theorem wsum_app : ∀ (a b : List AV), wsum (a ++ b) = wsum a + wsum b
  | [], b => by simp [wsum]
  | v :: r, b => by rw [List.cons_append, wsum, wsum, wsum_app r b]; omega
theorem wsum_rev : ∀ (a : List AV), wsum a.reverse = wsum a
  | [] => rfl
  | v :: r => by rw [List.reverse_cons, wsum_app, wsum_rev r, wsum, wsum, wsum]; omega
theorem nPar_ok {d : String} (h : parseMethodDescriptor d ≠ none) : (parseMethodDescriptor d).map (fun d => d.parameters.length) = some (nPar d) := by
  unfold nPar
  cases h1 : parseMethodDescriptor d with
  | none => exact absurd h1 h
  | some x => rfl
set_option maxRecDepth 100000 in
theorem own_cls : ∀ k, k < 13 → nth owN k "" = nth clN k "" := by decide +kernel
theorem mp_words {y : Nat} (h0 : 0 < y) (h : y < 311) : Cond.initialized (mO y) ∈ gws ∧ ((mt y).2.2.2.2.2 = true → Cond.static (mN y) ∈ gws) ∧ ((mt y).2.2.2.2.2 = false → Cond.instanceMethod (mN y) ∈ gws ∧ ((mt y).2.1 ≠ "<init>" → Cond.selects (mO y) (mN y) (mN y) ∈ gws)) ∧ plainName (mN y).cls = true ∧ (mN y).cls ≠ "java/lang/invoke/MethodHandle" ∧ (mN y).cls ≠ "java/lang/invoke/VarHandle" := by
  have h1 := mp_ok h0 h
  simp only [mpP, Bool.and_eq_true, decide_eq_true_eq] at h1
  obtain ⟨⟨⟨⟨a1, a2⟩, a3⟩, a4⟩, a5⟩ := h1
  have i1 := tb_mem a1
  refine ⟨gws_in i1.1 i1.2, fun hs => ?_, fun hs => ?_, a3, a4, a5⟩
  · rw [hs] at a2
    have i2 := tb_mem a2
    exact gws_in i2.1 i2.2
  · rw [hs] at a2
    simp only [cond_false, Bool.and_eq_true] at a2
    have i2 := tb_mem a2.1
    refine ⟨gws_in i2.1 i2.2, fun hn => ?_⟩
    have a6 := a2.2
    rw [show decide ((mN y).name = "<init>") = false from decide_eq_false hn] at a6
    simp only [cond_false, decide_eq_true_eq] at a6
    exact List.mem_filter.mpr ⟨List.mem_of_getElem? a6, rfl⟩
section
variable {p : Program} {l : Launch} {e : Env} {R : Room} {s : State} {mid : MethodId} {args : Array Value} {below : List Frame} {meth : Method} {c : Code} {D : DD} {w : WD} {m k0 j0 : Nat} {Q : State → Prop} {pc nx idx : Nat} {ax : List Nat} {cn : Int} {L S S' : List AV} {M : AM} {H : Heap} {locs : List Loc} {cells slots : Nat} {ls : Array Slot}
  {RR : AV → AM → Prop}
theorem js_at (hcx : CX D w s) (hM : MR D w M H) : ∃ zv, JS w zv s H := by
  obtain ⟨-, -, -, ⟨-, zv, h⟩, -⟩ := hcx
  exact ⟨zv, h.kept (fun a _ h2 => hM.2.1.1 a (by omega))⟩
theorem n_len {a : Int} (hf : Fr p s mid args meth c D w m) (hs : St D w m k0 j0 L ((5, a) :: S') M H locs cells slots ls) (hR : 5 ≤ R.frames ∧ 120 ≤ R.locals) (hd : decode (mB m) pc = .ok (.invokevirtual idx, 3)) (hl : hasL (nth vlT (mt m).1 []) idx 1003 = true) (hw : wsum S' ≤ 8) (h : KW p l e R s mid args below meth c D w m k0 j0 Q (pc + 3) L (aI sp_text.length :: S') M) : W p l e R s mid args below meth c H locs cells slots Q (F0 mid pc ls (((5, a) :: S').map (cV w))) := by
  obtain ⟨hx, hb, hml, hown, hts, hcx, hname⟩ := hf
  obtain ⟨zv, hJ⟩ := js_at hcx hs.2.1
  have h8 := wsum_cat (w := w) S'
  obtain ⟨-, -, -, -, hce, hsl⟩ := id hs
  obtain ⟨cell, r1, r2, r3, -⟩ := (hJ.1.1 0 (by decide)).1
  refine W.callR (r := Int32.ofNat 232) (W.runV (Ts := gws) (own := mO m) (C := "java/lang/String") (n := 0) (b := w.2.1) (As := []) (rest := S'.map (cV w)) ⟨hx, hb, hml, hown, hts⟩ (js_n l (w := w) (zv := zv)) ⟨callB_of 0 hts (good_N nw_N) rfl rfl rfl (hts _ nw_iS) (hts _ (vl_link hl)) ⟨by decide, by decide, by decide +kernel⟩ ⟨by show 1 + 1 ≤ _; omega, by show 8 + (1 + 11) + 22 * 1 ≤ _; omega⟩, hts _ nw_nN, hts _ nw_eN⟩ ⟨fun a U g mk h => ⟨h.1, h.2.moved (Vm.Alike.refl _)⟩, ⟨cell, r1, r2, r3⟩, fun U hU hW => ⟨rfl, by rw [hU]; exact hJ.moved hW.alike⟩⟩ rfl rfl hs.1.1.1 rfl (by show 2 * 0 + _ ≤ 8; omega) hd ⟨by have := h.1.1; omega, by have := h.1.2; omega⟩) ?_
  have h9 := st_go h hs (ok_c (show r32 (sp_text.length : Nat) from by rw [cb_len]; unfold r32; omega) (ok_t hs.2.2.1))
  rw [List.map_cons, show cV w (aI (sp_text.length : Nat)) = .int (Int32.ofNat 232) from by rw [cb_len]; rfl] at h9
  exact h9
theorem n_char {a i : Int} (hf : Fr p s mid args meth c D w m) (hs : St D w m k0 j0 L ((0, i) :: (5, a) :: S') M H locs cells slots ls) (hR : 5 ≤ R.frames ∧ 120 ≤ R.locals) (hd : decode (mB m) pc = .ok (.invokevirtual idx, 3)) (hl : hasL (nth vlT (mt m).1 []) idx 1004 = true) (hw : wsum S' ≤ 8) (hi : 0 ≤ i ∧ i < sp_text.length) (h : KW p l e R s mid args below meth c D w m k0 j0 Q (pc + 3) L (aI (sp_text.getD i.toNat 0 : Nat) :: S') M) : W p l e R s mid args below meth c H locs cells slots Q (F0 mid pc ls (((0, i) :: (5, a) :: S').map (cV w))) := by
  obtain ⟨hx, hb, hml, hown, hts, hcx, hname⟩ := hf
  obtain ⟨zv, hJ⟩ := js_at hcx hs.2.1
  have h8 := wsum_cat (w := w) S'
  obtain ⟨-, -, -, -, hce, hsl⟩ := id hs
  obtain ⟨cell, r1, r2, r3, -⟩ := (hJ.1.1 0 (by decide)).1
  rw [cb_len] at hi
  have hk : i.toNat < 232 := by omega
  have ei : i32 i = Int32.ofNat i.toNat := by
    show Int32.ofInt i = Int32.ofNat i.toNat
    rw [show i = ((i.toNat : Nat) : Int) by omega]
    rfl
  obtain ⟨c1, c2, c3, c4⟩ := cb_ok i.toNat hk
  show W p l e R s mid args below meth c H locs cells slots Q (F0 mid pc ls (.int (i32 i) :: .ref w.2.1 :: S'.map (cV w)))
  rw [ei]
  refine W.callR (r := cbT i.toNat) (W.runV (Ts := gws) (own := mO m) (C := "java/lang/String") (n := 1) (b := w.2.1) (As := [.int (Int32.ofNat i.toNat)]) (rest := S'.map (cV w)) ⟨hx, hb, hml, hown, hts⟩ (js_h l (w := w) (zv := zv) hk) ⟨callB_of 1 hts (good_N nw_H) rfl rfl rfl (hts _ nw_iS) (hts _ (vl_link hl)) ⟨by decide, by decide, by decide +kernel⟩ ⟨by show 3 + 1 ≤ _; omega, by show 8 + (2 + 11) + 22 * 3 ≤ _; omega⟩, hts _ nw_nH, hts _ nw_eH⟩ ⟨fun a U g mk h => ⟨h.1, h.2.moved (Vm.Alike.refl _)⟩, ⟨cell, r1, r2, r3⟩, fun U hU hW => ⟨rfl, by rw [hU]; exact hJ.moved hW.alike⟩⟩ rfl rfl hs.1.1.1 rfl (by show 2 * 0 + _ ≤ 8; omega) hd ⟨by have := h.1.1; omega, by have := h.1.2; omega⟩) ?_
  have hb9 : ∀ k, k < 232 → sp_text.getD k 0 < 128 := by decide +kernel
  have h9 := st_go h hs (ok_c (show r32 (sp_text.getD i.toNat 0 : Nat) from by have := hb9 _ hk; unfold r32; omega) (ok_t (ok_t hs.2.2.1)))
  rw [List.map_cons, show cV w (aI (sp_text.getD i.toNat 0 : Nat)) = .int (cbT i.toNat) from by rw [c4]; rfl] at h9
  exact h9
/-- a method of mine is called -/
theorem call_st {y n mx ci rt : Nat} (hf : Fr p s mid args meth c D w m) (hs : St D w m k0 j0 L S M H locs cells slots ls) (hd : decode (mB m) pc = .ok (.invokestatic idx, 3)) (hk : chkC m 0 idx [y, n, mx, ci, rt] = true) (b1 : n ≤ S.length) (b2 : wsum (S.drop n) ≤ 8) (b3 : wsum (S.take n) ≤ mx)
    (h : CK p l e R s mid args below meth c D w m k0 j0 Q L M y (padTo mx (expand (S.take n).reverse)) (pc + 3) (S.drop n) rt) : W p l e R s mid args below meth c H locs cells slots Q (F0 mid pc ls (S.map (cV w))) := by
  obtain ⟨hx, hb, hml, hown, hts, hcx, hname⟩ := hf
  simp only [chkC, Bool.and_eq_true, decide_eq_true_eq, cond_true, show Nat.beq 0 0 = true from rfl] at hk
  obtain ⟨⟨⟨⟨k1, k2⟩, k3⟩, k4⟩, ⟨k5, k6⟩, k7⟩ := hk
  replace k1 := Nat.eq_of_beq_eq_true k1
  replace k2 := Nat.eq_of_beq_eq_true k2
  replace k3 := Nat.eq_of_beq_eq_true k3
  obtain ⟨l1, l2, l3⟩ := ml_link k7
  obtain ⟨p1, p2, -, p4, p5, p6⟩ := mp_words l2 l3
  obtain ⟨r1, M1, rm, ⟨q1, q2, q3, q4, q5, q6⟩, hMet, hret⟩ := h
  have hmx := mX_le l3
  obtain ⟨-, -, -, -, hce, hsl⟩ := id hs
  have hM := hMet (S.take n).reverse ⟨l2, l3⟩ (by rw [k1]) (by rw [wsum_rev, ← k1]; exact b3) (fun v hv => hs.2.2.1 v (List.mem_of_mem_take (List.mem_reverse.mp hv)))
  refine call_tail hs (fun v hv => hs.2.2.1 v (List.mem_of_mem_drop hv)) q3 q4 k2 (W.runS (Ts := gws) (own := mO m) (n := n) (As := (S.take n).reverse.map (cV w)) (rest := (S.drop n).map (cV w)) ⟨hx, hb, hml, hown, hts⟩ hM ⟨callB_of n hts (gws_goodIn y l2 l3) rfl rfl rfl (hts _ p1) (hts _ l1) ⟨p5, p6, by rw [show n = nPar (mt y).2.2.1 from k3]; exact nPar_ok k4⟩ ⟨q1, by omega⟩, hts _ (p2 k5)⟩ ⟨blind9 D w _ M, fun U hU hW => ⟨rfl, by rw [hU]; exact hs.2.1, hcx.warm hW⟩⟩ rfl ?_ hs.1.1.1 ?_ ?_ hd ⟨by omega, by omega⟩) hret
  · rw [List.length_map, List.length_reverse, List.length_take]; omega
  · show S.map (cV w) = _
    rw [← List.map_reverse, List.reverse_reverse, ← List.map_append, List.take_append_drop]
  · show 2 * 0 + _ ≤ 8
    rw [wsum_cat]; omega
theorem recv_at {y : Nat} {a : Int} (hcx : CX D w s) (hM : MR D w M H) (hk : kd M.2.2 a = (mt y).1) (h13 : (mt y).1 < 13) : ∃ b : Nat, cR w a = .ref b ∧ ∃ cellB : Cell, H[b]? = some cellB ∧ cellB.vm.isStatics = false ∧ s.vm.findClass (mO y) = some cellB.cls := by
  obtain ⟨k, -, -, -, h4, -, ⟨cell, c1, c2, c3, -⟩, -⟩ := kd_obj hM hk h13
  refine ⟨_, h4, cell, c1, by rw [c3]; rfl, ?_⟩
  have h5 := hcx.1.1 (mt y).1 _ (cls_at _ h13)
  rw [c2]
  unfold mO
  rw [own_cls _ h13]
  exact h5.2.1
theorem call_vi {y n mx ci rt : Nat} (hf : Fr p s mid args meth c D w m) (hs : St D w m k0 j0 L S M H locs cells slots ls) (hd : decode (mB m) pc = .ok (.invokevirtual idx, 3)) (hk : chkC m 1 idx [y, n, mx, ci, rt] = true) (b1 : n ≤ S.length) (b2 : wsum (S.drop n) ≤ 8) (b3 : wsum (S.take n) ≤ mx) {a : Int} {A' : List AV} (hA : (S.take n).reverse = (2, a) :: A') (hka : kd M.2.2 a + 1 = ci)
    (h : CK p l e R s mid args below meth c D w m k0 j0 Q L M y (padTo mx (expand (S.take n).reverse)) (pc + 3) (S.drop n) rt) : W p l e R s mid args below meth c H locs cells slots Q (F0 mid pc ls (S.map (cV w))) := by
  obtain ⟨hx, hb, hml, hown, hts, hcx, hname⟩ := hf
  simp only [chkC, Bool.and_eq_true, decide_eq_true_eq, cond_true, cond_false, Bool.not_eq_true', show Nat.beq 1 0 = false from rfl, show Nat.beq 1 1 = true from rfl] at hk
  obtain ⟨⟨⟨⟨k1, k2⟩, k3⟩, k4⟩, ⟨⟨k5, k6⟩, k7⟩, k8, k9⟩ := hk
  replace k1 := Nat.eq_of_beq_eq_true k1
  replace k2 := Nat.eq_of_beq_eq_true k2
  replace k3 := Nat.eq_of_beq_eq_true k3
  replace k6 := Nat.eq_of_beq_eq_true k6
  have k7 : (mt y).1 < 13 := by simpa using k7
  obtain ⟨l1, l2, l3⟩ := ml_link k9
  obtain ⟨p1, -, p3, p4, p5, p6⟩ := mp_words l2 l3
  obtain ⟨r1, M1, rm, ⟨q1, q2, q3, q4, q5, q6⟩, hMet, hret⟩ := h
  have hmx := mX_le l3
  obtain ⟨-, -, -, -, hce, hsl⟩ := id hs
  have hM := hMet (S.take n).reverse ⟨l2, l3⟩ (by rw [k1]) (by rw [wsum_rev, ← k1]; exact b3) (fun v hv => hs.2.2.1 v (List.mem_of_mem_take (List.mem_reverse.mp hv)))
  obtain ⟨b, e1, hrec⟩ := recv_at (y := y) (a := a) hcx hs.2.1 (by omega) k7
  have e2 : ((S.take n).reverse.map (cV w)) = .ref b :: A'.map (cV w) := by
    rw [hA, List.map_cons, cV_2, e1]
  have e3 : A'.length + 1 = n := by
    have := congrArg List.length hA
    rw [List.length_reverse, List.length_take, List.length_cons] at this
    omega
  refine call_tail hs (fun v hv => hs.2.2.1 v (List.mem_of_mem_drop hv)) q3 q4 k2 (W.runV (Ts := gws) (own := mO m) (C := mO y) (n := nPar (mt y).2.2.1) (b := b) (As := A'.map (cV w)) (rest := (S.drop n).map (cV w)) ⟨hx, hb, hml, hown, hts⟩ hM ⟨callB_of (nPar (mt y).2.2.1) hts (gws_goodIn y l2 l3) rfl rfl rfl (hts _ p1) (hts _ l1) ⟨p5, p6, nPar_ok k4⟩ ⟨q1, by omega⟩, hts _ (p3 k5).1, hts _ ((p3 k5).2 k8)⟩ ⟨blind9 D w _ M, hrec, fun U hU hW => ⟨by rw [← e2], by rw [hU]; exact hs.2.1, hcx.warm hW⟩⟩ rfl ?_ hs.1.1.1 ?_ ?_ hd ⟨by omega, by omega⟩) hret
  · rw [List.length_map]; omega
  · show S.map (cV w) = _
    have e4 : (A'.map (cV w)).reverse ++ .ref b :: (S.drop n).map (cV w) = (.ref b :: A'.map (cV w)).reverse ++ (S.drop n).map (cV w) := by simp
    rw [e4, ← e2, ← List.map_reverse, List.reverse_reverse, ← List.map_append, List.take_append_drop]
  · show 2 * 0 + _ ≤ 8
    rw [wsum_cat]; omega
theorem call_sp {y n mx ci rt : Nat} (hf : Fr p s mid args meth c D w m) (hs : St D w m k0 j0 L S M H locs cells slots ls) (hd : decode (mB m) pc = .ok (.invokespecial idx, 3)) (hk : chkC m 2 idx [y, n, mx, ci, rt] = true) (b1 : n ≤ S.length) (b2 : wsum (S.drop n) ≤ 8) (b3 : wsum (S.take n) ≤ mx) {a : Int} {A' : List AV} (hA : (S.take n).reverse = (2, a) :: A') (hka : kd M.2.2 a + 1 = ci)
    (h : CK p l e R s mid args below meth c D w m k0 j0 Q L M y (padTo mx (expand (S.take n).reverse)) (pc + 3) (S.drop n) rt) : W p l e R s mid args below meth c H locs cells slots Q (F0 mid pc ls (S.map (cV w))) := by
  obtain ⟨hx, hb, hml, hown, hts, hcx, hname⟩ := hf
  simp only [chkC, Bool.and_eq_true, Bool.or_eq_true, decide_eq_true_eq, cond_true, cond_false, Bool.not_eq_true', show Nat.beq 2 0 = false from rfl, show Nat.beq 2 1 = false from rfl] at hk
  obtain ⟨⟨⟨⟨k1, k2⟩, k3⟩, k4⟩, ⟨⟨k5, k6⟩, k7⟩, ⟨k8, k10⟩, k9⟩ := hk
  replace k1 := Nat.eq_of_beq_eq_true k1
  replace k2 := Nat.eq_of_beq_eq_true k2
  replace k3 := Nat.eq_of_beq_eq_true k3
  replace k6 := Nat.eq_of_beq_eq_true k6
  replace k10 := Nat.eq_of_beq_eq_true k10
  have k7 : (mt y).1 < 13 := by simpa using k7
  have hn0 : mR y = none := rt_0 (by rw [← k2, k10])
  have hy : 0 < y ∧ y < 311 := by
    rcases k9 with k9 | k9
    · exact (ml_link k9).2
    · exact (nl_link k9).2.2
  obtain ⟨l2, l3⟩ := hy
  obtain ⟨p1, -, p3, p4, p5, p6⟩ := mp_words l2 l3
  obtain ⟨r1, M1, rm, ⟨q1, q2, q3, q4, q5, q6⟩, hMet, hret⟩ := h
  have hmx := mX_le l3
  obtain ⟨-, -, -, -, hce, hsl⟩ := id hs
  have hM := hMet (S.take n).reverse ⟨l2, l3⟩ (by rw [k1]) (by rw [wsum_rev, ← k1]; exact b3) (fun v hv => hs.2.2.1 v (List.mem_of_mem_take (List.mem_reverse.mp hv)))
  obtain ⟨b, e1, hrec⟩ := recv_at (y := y) (a := a) hcx hs.2.1 (by omega) k7
  have e2 : ((S.take n).reverse.map (cV w)) = .ref b :: A'.map (cV w) := by
    rw [hA, List.map_cons, cV_2, e1]
  have e3 : A'.length + 1 = n := by
    have := congrArg List.length hA
    rw [List.length_reverse, List.length_take, List.length_cons] at this
    omega
  have ew : wsY y = Cond.code (mN y) (mB y) (mX y) none :: gws := by unfold wsY; rw [hn0]
  have z1 : (A'.map (cV w)).length = nPar (mt y).2.2.1 := by rw [List.length_map]; omega
  have z2 : S.map (cV w) = (A'.map (cV w)).reverse ++ .ref b :: (S.drop n).map (cV w) := by
    have e4 : (A'.map (cV w)).reverse ++ .ref b :: (S.drop n).map (cV w) = (.ref b :: A'.map (cV w)).reverse ++ (S.drop n).map (cV w) := by simp
    rw [e4, ← e2, ← List.map_reverse, List.reverse_reverse, ← List.map_append, List.take_append_drop]
  have z3 : 2 * 0 + (((S.drop n).map (cV w)).map (fun v => v.category)).sum ≤ 8 := by rw [wsum_cat]; omega
  refine call_tail hs (fun v hv => hs.2.2.1 v (List.mem_of_mem_drop hv)) q3 q4 k2 (A := (Value.ref b :: A'.map (cV w)).toArray) ?_ hret
  rcases k9 with k9 | k9
  · exact W.runI (Ts := gws) (own := mO m) (n := nPar (mt y).2.2.1) (b := b) (As := A'.map (cV w)) (rest := (S.drop n).map (cV w)) ⟨hx, hb, hml, hown, hts⟩ hM ⟨callB_of (nPar (mt y).2.2.1) hts (gws_goodIn y l2 l3) ew rfl rfl (hts _ p1) (hts _ (ml_link k9).1) ⟨p5, p6, nPar_ok k4⟩ ⟨q1, by omega⟩, k8, hts _ (p3 k5).1⟩ ⟨blind9 D w _ M, fun U hU hW => ⟨by rw [← e2], by rw [hU]; exact hs.2.1, hcx.warm hW⟩⟩ rfl z1 hs.1.1.1 z2 z3 hd ⟨by omega, by omega⟩
  · obtain ⟨o0, ⟨k, hk9⟩, -⟩ := nl_link k9
    have ho : mO m = "AgainstFeather" := by unfold mO; rw [o0]; rfl
    rw [ho] at hown
    have hnw := hcx.2.2.2.2.1 _ hk9
    have hr := va_runIN (Ts := gws) (own := "AgainstFeather") (host := "AgainstFeather") (locs := locs) (cells := cells) (slots := slots) (below := below) (e := e) (meth := meth) (g := F0 mid pc ls (S.map (cV w))) (n := nPar (mt y).2.2.1) (b := b) (As := A'.map (cV w)) (rest := (S.drop n).map (cV w)) ⟨hx, hb, hml, hown, hts⟩ hM ⟨va_cnB (nPar (mt y).2.2.1) hts (gws_goodIn y l2 l3) ew rfl rfl hnw (hts _ p1) ⟨p5, p6, nPar_ok k4⟩ ⟨q1, by omega⟩, k8, hts _ (p3 k5).1⟩ ⟨blind9 D w _ M, fun U (hU : U.heap = H) hW => ⟨by rw [← e2], by rw [hU]; exact hs.2.1, hcx.warm hW⟩⟩ rfl z1 hs.1.1.1 z2 z3 hd ⟨by omega, by omega⟩
    intro T hT X
    obtain ⟨v, st₀, t, T', L2, h0, X', hL, e5, e6, hq, st⟩ := hr T hT X
    exact ⟨v, st₀, t, T', L2, h0, X', hL, e5, hq, st⟩
end
end
