/-! ONE LEMMA AN INSTRUCTION: new objects, switches, casts -/
noncomputable section
theorem tgts_at {pc : Nat} : ∀ {os : List Int} {ts : List Nat} {k : Nat} {t : Nat}, tgts pc os ts = true → ts[k]? = some t → ∃ o, os[k]? = some o ∧ (pc : Int) + o = t
  | [], [], k, t, _, h => by simp at h
  | [], _ :: _, _, _, h, _ => by simp [tgts] at h
  | _ :: _, [], _, _, h, _ => by simp [tgts] at h
  | o :: os, t9 :: ts, k, t, h, hk => by
    simp only [tgts, Bool.and_eq_true, decide_eq_true_eq] at h
    match k with
    | 0 =>
      obtain rfl : t9 = t := by simpa using hk
      exact ⟨o, rfl, h.1⟩
    | k + 1 =>
      obtain ⟨o', h1, h2⟩ := tgts_at h.2 (by simpa using hk : ts[k]? = some t)
      exact ⟨o', by simpa using h1, h2⟩
theorem tgts_len {pc : Nat} : ∀ {os : List Int} {ts : List Nat}, tgts pc os ts = true → os.length = ts.length
  | [], [], _ => rfl
  | [], _ :: _, h => by simp [tgts] at h
  | _ :: _, [], h => by simp [tgts] at h
  | o :: os, t :: ts, h => by
    simp only [tgts, Bool.and_eq_true] at h
    simp [tgts_len h.2]
theorem swK_at {x : Int} {d : Nat} {P : Nat → Prop} : ∀ {ts : List Nat} {lo : Int}, swK x lo d P ts → (∀ t, ts[(x - lo).toNat]? = some t → lo ≤ x → P t) ∧ ((x < lo ∨ lo + ts.length ≤ x) → P d)
  | [], lo, h => ⟨fun t ht => by simp at ht, fun _ => h⟩
  | t :: ts, lo, h => by
    have h := brK_s h
    by_cases hx : x = lo
    · subst hx
      refine ⟨fun t' ht' _ => ?_, fun q => ?_⟩
      · obtain rfl : t = t' := by simpa using ht'
        exact h.1 rfl
      · simp at q; omega
    · obtain ⟨h1, h2⟩ := swK_at (h.2 hx)
      refine ⟨fun t' ht' hl => ?_, fun q => h2 ?_⟩
      · refine h1 t' ?_ (by omega)
        rw [show (x - lo).toNat = (x - (lo + 1)).toNat + 1 by omega] at ht'
        simpa using ht'
      · simp at q; omega
theorem lkK_at {x : Int} {d pc : Nat} {P : Nat → Prop} {dflt : Int} (hd : (pc : Int) + dflt = d) : ∀ {ps : List (Int × Int)} {ts : List Nat}, tgts pc (ps.map (fun q => q.2)) ts = true → lkK x d P ps ts → ∃ t : Nat, (pc : Int) + Op.lookupswitch.offset ps dflt x = t ∧ P t
  | [], [], _, h => ⟨d, hd, h⟩
  | [], _ :: _, ht, _ => by simp [tgts] at ht
  | _ :: _, [], ht, _ => by simp [tgts] at ht
  | q :: ps, t :: ts, ht, h => by
    simp only [List.map_cons, tgts, Bool.and_eq_true, decide_eq_true_eq] at ht
    have h := brK_s h
    by_cases hx : x = q.1
    · refine ⟨t, ?_, h.1 hx⟩
      have e : Op.lookupswitch.offset (q :: ps) dflt x = q.2 := by simp [Op.lookupswitch.offset, hx]
      rw [e]; exact ht.1
    · obtain ⟨t', h1, h2⟩ := lkK_at hd ht.2 (h.2 hx)
      refine ⟨t', ?_, h2⟩
      have e : Op.lookupswitch.offset (q :: ps) dflt x = Op.lookupswitch.offset ps dflt x := by
        simp [Op.lookupswitch.offset, Ne.symm hx]
      rw [e]; exact h1
section
variable {p : Program} {l : Launch} {e : Env} {R : Room} {s : State} {mid : MethodId} {args : Array Value} {below : List Frame} {meth : Method} {c : Code} {D : DD} {w : WD} {m k0 j0 : Nat} {Q : State → Prop} {pc nx : Nat} {L S : List AV} {M : AM} {H : Heap} {locs : List Loc} {cells slots : Nat} {ls : Array Slot} {ax : List Nat} {cn : Int} {RR : AV → AM → Prop} {CC : Nat → List AV → Nat → List AV → Nat → Prop}
theorem s_tableswitch {d lo hi : Int} {offs : Array Int} {len : Nat} (hf : Fr p s mid args meth c D w m) (hs : St D w m k0 j0 L S M H locs cells slots ls) (hd : decode (mB m) pc = .ok (.tableswitch d lo hi offs, len)) (hk : chkI m pc (.tableswitch d lo hi offs, nx, ax, cn) = true) (h : a_tableswitch lo nx ax cn L S M (KW p l e R s mid args below meth c D w m k0 j0 Q) RR CC False) : W p l e R s mid args below meth c H locs cells slots Q (F0 mid pc ls (S.map (cV w))) := by
  obtain ⟨hx, hb, hml, hown, hts, hcx, hname⟩ := hf
  unfold a_tableswitch at h
  split at h
  · rename_i x S' t0 ts
    simp only [chkI, Bool.and_eq_true, decide_eq_true_eq] at hk
    obtain ⟨⟨hk1, hk2⟩, hk3⟩ := hk
    have hx9 : r32 x := ok_h hs.2.2.1
    obtain ⟨h1, h2⟩ := swK_at h
    have hl := tgts_len hk2
    rw [Array.length_toList] at hl
    show W p l e R s mid args below meth c H locs cells slots Q (F0 mid pc ls (.int (i32 x) :: S'.map (cV w)))
    by_cases hin : x < lo ∨ hi < x
    · refine lv_tableOut hx hb hd (by rw [i32_t hx9]; exact hin) hk1 ?_
      exact st_go (h2 (by omega)) hs (ok_t hs.2.2.1)
    · have hlt : (x - lo).toNat < ts.length := by omega
      obtain ⟨o, ho1, ho2⟩ := tgts_at hk2 (List.getElem?_eq_getElem hlt)
      refine lv_tableIn (off := o) hx hb hd (by rw [i32_t hx9]; omega) (by rw [i32_t hx9]; omega) (by rw [i32_t hx9, ← Array.getElem?_toList]; exact ho1) ho2 ?_
      exact st_go (h1 _ (List.getElem?_eq_getElem hlt) (by omega)) hs (ok_t hs.2.2.1)
  · exact h.elim
theorem s_lookupswitch {d : Int} {ps : Array (Int × Int)} {len : Nat} (hf : Fr p s mid args meth c D w m) (hs : St D w m k0 j0 L S M H locs cells slots ls) (hd : decode (mB m) pc = .ok (.lookupswitch d ps, len)) (hk : chkI m pc (.lookupswitch d ps, nx, ax, cn) = true) (h : a_lookupswitch ps nx ax cn L S M (KW p l e R s mid args below meth c D w m k0 j0 Q) RR CC False) : W p l e R s mid args below meth c H locs cells slots Q (F0 mid pc ls (S.map (cV w))) := by
  obtain ⟨hx, hb, hml, hown, hts, hcx, hname⟩ := hf
  unfold a_lookupswitch at h
  split at h
  · rename_i x S' t0 ts
    simp only [chkI, Bool.and_eq_true, decide_eq_true_eq] at hk
    obtain ⟨⟨hk1, hk2⟩, hk3⟩ := hk
    have hx9 : r32 x := ok_h hs.2.2.1
    obtain ⟨t, h1, h2⟩ := lkK_at hk1 hk2 h
    show W p l e R s mid args below meth c H locs cells slots Q (F0 mid pc ls (.int (i32 x) :: S'.map (cV w)))
    refine lv_lookup hx hb hd (by simpa using hk3) rfl (tgt := t) (by rw [i32_t hx9]; exact h1) ?_
    exact st_go h2 hs (ok_t hs.2.2.1)
  · exact h.elim
theorem s_new {idx : Nat} (hf : Fr p s mid args meth c D w m) (hs : St D w m k0 j0 L S M H locs cells slots ls) (hd : decode (mB m) pc = .ok (.new idx, 3)) (hk : chkI m pc (.new idx, pc + 3, ax, cn) = true) (h : a_new (pc + 3) ax cn L S M (KW p l e R s mid args below meth c D w m k0 j0 Q) RR CC False) : W p l e R s mid args below meth c H locs cells slots Q (F0 mid pc ls (S.map (cV w))) := by
  obtain ⟨hx, hb, hml, hown, hts, hcx, hname⟩ := hf
  unfold a_new at h
  split at h
  · rename_i ci n
    simp only [chkI, Bool.and_eq_true] at hk
    obtain ⟨hk1, hk2⟩ := hk
    have hk2 := Nat.eq_of_beq_eq_true hk2
    subst hk2
    obtain ⟨g1, g2⟩ := kl_link hk1
    obtain ⟨w1, w2, w3, w4, w5⟩ := kp_at g2
    obtain ⟨hL, hM, hS, hlo, hce, hsl⟩ := hs
    have hlr := len_ref hM
    have b1 : M.2.2.length + 1 ≤ k0 + R.cells := by have := h.1.1; simpa using this
    have b2 : sl M.2.2 + nF ci ≤ j0 + R.slots := by have := h.1.2; simpa [sl_app, sl] using this
    have hKn := hcx.1.1 ci _ (cls_at ci g2)
    refine W.newcK hx hb hown (hts _ g1) (hts _ w1) (hts _ w2) rfl hd (by omega) (by omega) hKn.2.1 rfl (fun H' kC hkC e1 z1 o1 => ?_)
    have hob := u_born (fY ci) hts w3 hKn hkC e1 w4
    have h9 := h.2 H' locs (cells + 1) (slots + nF ci) ls ⟨hL, hM.add z1 o1 (σ := zr M.1 M.2.2.length) (rf := zr M.2.1 M.2.2.length) (fun a' q => zr_ne q) (fun a' q => zr_ne q) (Or.inl ⟨g2, rfl, hob.to fun k hk => ?_, fun k hk => ?_⟩), ok_c (show okV (2, _) from trivial) hS, hlo, by rw [List.length_append]; show cells + 1 + k0 = M.2.2.length + 1; omega, by rw [sl_app]; show slots + nF ci + j0 = sl M.2.2 + ((nF ci : Int).toNat + 0); omega⟩
    · show W p l e R s mid args below meth c H' locs (cells + 1) (slots + nF ci) Q (F0 mid (pc + 3) ls (.ref H.size :: S.map (cV w)))
      have e9 : List.map (cV w) (aR (M.2.2.length : Int) :: S) = .ref H.size :: S.map (cV w) := by rw [List.map_cons, hlr]
      rw [e9] at h9
      exact h9
    · rw [(ty_def (w := w) (tyOk_at g2 hk)).1]
      unfold fv
      rw [zr_at, zr_at, ite_self]
    · rw [zr_at]
      exact (ty_def (w := w) (tyOk_at g2 hk)).2
  · exact h.elim
theorem s_anewarray {idx : Nat} (hf : Fr p s mid args meth c D w m) (hs : St D w m k0 j0 L S M H locs cells slots ls) (hd : decode (mB m) pc = .ok (.anewarray idx, 3)) (hk : chkI m pc (.anewarray idx, pc + 3, ax, cn) = true) (h : a_anewarray (pc + 3) ax cn L S M (KW p l e R s mid args below meth c D w m k0 j0 Q) RR CC False) : W p l e R s mid args below meth c H locs cells slots Q (F0 mid pc ls (S.map (cV w))) := by
  obtain ⟨hx, hb, hml, hown, hts, hcx, hname⟩ := hf
  unfold a_anewarray at h
  split at h
  · rename_i n S'
    simp only [chkI, Bool.and_eq_true] at hk
    have e1 := Nat.eq_of_beq_eq_true hk.1
    have e2 := Nat.eq_of_beq_eq_true hk.2
    subst e2
    have ho : mO m = "AgainstFeather$Told" := by show nth owN (mt m).1 "" = _; rw [e1]; rfl
    rw [ho] at hown
    obtain ⟨h3, h4⟩ := brK_b h
    have h3 := of_decide_eq_true h3
    have hn : r32 n := ok_h hs.2.2.1
    obtain ⟨hL, hM, hS, hlo, hce, hsl⟩ := hs
    have b1 : M.2.2.length + 1 ≤ k0 + R.cells := by have := h4.1.1; simpa using this
    have b2 : sl M.2.2 + n.toNat ≤ j0 + R.slots := by have := h4.1.2; simpa [sl_app, sl] using this
    have hlr := len_ref hM
    have hn0 : ¬ i32 n < 0 := by rw [show (0 : Int32) = i32 0 from rfl, i32_lt hn r32_0]; omega
    have hcl := clamp hn h3.1
    show W p l e R s mid args below meth c H locs cells slots Q (F0 mid pc ls (.int (i32 n) :: S'.map (cV w)))
    refine W.anew hx hb hown (hts _ tb_ot) (va_AO.use hcx.2.2.2.2.2.2) rfl hd rfl hn0 (by rw [hcl]; omega) (by omega) (by rw [hcl]; omega) (fun cA kA comp f1 f2 f3 f4 => ?_)
    rw [hcl]
    obtain ⟨kA', comp', r1, r2, r3, r4⟩ := (hcx.2.1 54 (by decide) (by decide)).2
    have hcA : cA = D.2.2 54 := Option.some.inj (f1.symm.trans r4)
    have h9 := h4.2 (H.push { cls := cA, slots := Array.replicate n.toNat .null, vm := .none }) locs (cells + 1) (slots + n.toNat) ls ⟨hL, hM.add (by simp) (fun q hq => by rw [Array.getElem?_push, if_neg (Nat.ne_of_lt hq)]) (σ := zr M.1 M.2.2.length) (rf := M.2.1) (fun a' q => zr_ne q) (fun _ _ => rfl) (Or.inr ⟨Nat.le_of_ble_eq_true rfl, Nat.le_of_ble_eq_true rfl, h3.1, h3.2, ?_, ?_⟩), ok_c (show okV (2, _) from trivial) (ok_t hS), hlo, by rw [List.length_append]; show cells + 1 + k0 = M.2.2.length + 1; omega, by rw [sl_app]; show slots + n.toNat + j0 = sl M.2.2 + (n.toNat + 0); omega⟩
    · have e9 : List.map (cV w) (aR (M.2.2.length : Int) :: S') = .ref H.size :: S'.map (cV w) := by rw [List.map_cons, hlr]
      rw [e9] at h9
      exact h9
    · rw [Array.getElem?_push_size, arrV_new, hcA]
      exact congrArg some (arrV_cong fun j _ => by rw [zr_at]; rfl)
    · intro j _
      trivial
  · exact h.elim
theorem s_checkcast {idx : Nat} (hf : Fr p s mid args meth c D w m) (hs : St D w m k0 j0 L S M H locs cells slots ls) (hd : decode (mB m) pc = .ok (.checkcast idx, 3)) (hk : chkI m pc (.checkcast idx, pc + 3, ax, cn) = true) (h : a_checkcast (pc + 3) ax cn L S M (KW p l e R s mid args below meth c D w m k0 j0 Q) RR CC False) : W p l e R s mid args below meth c H locs cells slots Q (F0 mid pc ls (S.map (cV w))) := by
  obtain ⟨hx, hb, hml, hown, hts, hcx, hname⟩ := hf
  unfold a_checkcast at h
  split at h
  · rename_i a S'
    obtain ⟨h1, h2⟩ := brK_b h
    have h1 := Nat.eq_of_beq_eq_true h1
    obtain ⟨kn, ea, k1, k2, k4, k5, k6, k7, k8, k9, k10⟩ := kd_arr hs.2.1 h1 (by decide) (by decide)
    have hnm : s.vm.findClass "[I" = some (D.2.2 50) := va_nm_int (hcx.2.1 50 (by decide) (by decide)).2
    have hP : va_P (D.1, D.2.1) clsT [(w.2.2.1 + (kn - 2), .inl (D.2.2 50, ((ln M.2.2 a).toNat, .inl (fun j => i32 (M.1 a j)))))] H := by
      intro q y hy
      match q, hy with
      | 0, hy => cases hy; exact k9
    have hlink : ∃ o, mO m = o ∧ Cond.classLink o idx "[I" ∈ gws := by
      simp only [chkI, Bool.or_eq_true, Bool.and_eq_true] at hk
      rcases hk with hk | hk
      · have e1 := Nat.eq_of_beq_eq_true hk.1
        have e2 := Nat.eq_of_beq_eq_true hk.2
        exact ⟨"AgainstFeather$Reader", by show nth owN (mt m).1 "" = _; rw [e1]; rfl, by rw [e2]; exact tb_c1⟩
      · have e1 := Nat.eq_of_beq_eq_true hk.1
        have e2 := Nat.eq_of_beq_eq_true hk.2
        exact ⟨"java/util/Arrays", by show nth owN (mt m).1 "" = _; rw [e1]; rfl, by rw [e2]; exact tb_c2⟩
    obtain ⟨o, ho, hl⟩ := hlink
    rw [ho] at hown
    have h9 := st_go h2 hs (ok_c (show okV (2, a) from trivial) (ok_t hs.2.2.1))
    show W p l e R s mid args below meth c H locs cells slots Q (F0 mid pc ls (cR w a :: S'.map (cV w)))
    rw [show List.map (cV w) (aR a :: S') = cR w a :: S'.map (cV w) from rfl] at h9
    rw [k4] at h9 ⊢
    exact va_castA (D := (D.1, D.2.1)) (cl := clsT) hx hb hown (hts _ hl) hP 0 rfl hnm hd h9
  · exact h.elim
theorem s_aastore (hf : Fr p s mid args meth c D w m) (hs : St D w m k0 j0 L S M H locs cells slots ls) (hd : decode (mB m) pc = .ok (.aastore, 1)) (h : a_aastore (pc + 1) ax cn L S M (KW p l e R s mid args below meth c D w m k0 j0 Q) RR CC False) : W p l e R s mid args below meth c H locs cells slots Q (F0 mid pc ls (S.map (cV w))) := by
  obtain ⟨hx, hb, hml, hown, hts, hcx, hname⟩ := hf
  unfold a_aastore at h
  split at h
  · rename_i x j a S'
    obtain ⟨h1, h2⟩ := brK_b h
    have h1 := Nat.eq_of_beq_eq_true h1
    have hj : r32 j := ok_h (ok_t hs.2.2.1)
    obtain ⟨kn, ea, k1, k2, k4, k5, k6, k7, k8, k9, k10⟩ := kd_arr hs.2.1 h1 (by decide) (by decide)
    show W p l e R s mid args below meth c H locs cells slots Q (F0 mid pc ls (cR w x :: .int (i32 j) :: cR w a :: S'.map (cV w)))
    rw [k4]
    have fin : 0 ≤ j → j < ln M.2.2 a → KW p l e R s mid args below meth c D w m k0 j0 Q (pc + 1) L S' (up M.1 a j x, M.2) → ∀ H' : Heap, H'[w.2.2.1 + (kn - 2)]? = some ((arrV (D.2.2 54) (ln M.2.2 a).toNat (fun j => av w 54 (M.1 a j))).setSlot (i32 j).toNatClampNeg (cR w x)) → H'.size = H.size → (∀ q : Nat, q ≠ w.2.2.1 + (kn - 2) → H'[q]? = H[q]?) → ∀ i : Nat, W p l e R s mid args below meth c H' (locs ++ [⟨w.2.2.1 + (kn - 2), i⟩]) cells slots Q (F0 mid (pc + 1) ls (S'.map (cV w))) := by
      intro hj0 hj1 h4 H' e1 e2 e3 i
      obtain ⟨hL, hM, hS, hlo, hce, hsl⟩ := hs
      exact h4.2 H' _ cells slots ls ⟨hL, arr_wr hM h1 (by decide) (by decide) ea k1 k5 k8 k6 k7 k10 hj0 hj1 trivial (by rw [e1, clamp hj hj0]; rfl) e2 e3, ok_t (ok_t (ok_t hS)), locs_1 hlo (by omega), hce, hsl⟩
    by_cases hc : kd M.2.2 x = 7 ∧ 0 ≤ j ∧ j < ln M.2.2 a
    · have h4 := (brK_s h2).1 hc
      obtain ⟨hx7, hj0, hj1⟩ := hc
      obtain ⟨kx, eb, q1, q2, q4, q5, q6, q7⟩ := kd_obj hs.2.1 hx7 (by decide)
      rw [q4]
      obtain ⟨cellV, g1, g2, g3, -⟩ := q6
      have hcls := (hcx.1.1 7 _ (cls_at 7 (by decide))).2
      obtain ⟨kA, comp, r1, r2, r3, -⟩ := (hcx.2.1 54 (by decide) (by decide)).2
      have hcomp : comp = D.1 7 := Option.some.inj (r3.symm.trans hcls.1)
      subst hcomp
      obtain ⟨kC, hkC, -⟩ := hcls.2
      refine W.aast hx hb k9 (fun q h => by cases h) (fun h => by cases h) r1 r2 rfl hkC ⟨by rw [show (0 : Int32) = i32 0 from rfl, i32_lt hj r32_0]; omega, by show _ < (arrV _ _ _).slots.size; rw [arrV_size, clamp hj hj0]; omega⟩ g1 (fun q h => by rw [g3] at h; cases h) (by rw [g2]; exact hkC) (by rw [g2]; exact va_asg _ _) rfl rfl hd fun H' e1 e2 e3 => ?_
      exact fin hj0 hj1 h4 H' (by rw [e1, q4]) e2 e3 _
    · have h4 := (brK_s h2).2 hc
      obtain ⟨h5, h6⟩ := brK_b h4
      obtain ⟨h7, hj0, hj1⟩ := of_decide_eq_true h5
      have hr : cR w x = .null := if_pos h7
      rw [hr]
      refine va_WaastN hx hb k9 ((hcx.2.1 54 (by decide) (by decide)).1 _ _) (fun h => by cases h) (by rw [arrV_size]; exact in_arr hj hj0 hj1) rfl rfl hd fun H' e1 e2 e3 => ?_
      exact fin hj0 hj1 h6 H' (by rw [e1, hr]) e2 e3 _
  · exact h.elim
end
end
