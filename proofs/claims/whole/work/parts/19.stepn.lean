/-! ONE LEMMA AN INSTRUCTION: stores and new cells -/
noncomputable section
theorem up_ne {σ : Int → Int → Int} {a i x a' : Int} (h : a' ≠ a) : up σ a i x a' = σ a' := by
  funext i'
  unfold up
  rw [if_neg (fun q => h q.1)]
theorem up_at {σ : Int → Int → Int} {a i x i' : Int} : up σ a i x a i' = if i' = i then x else σ a i' := by
  unfold up
  by_cases h : i' = i
  · rw [if_pos ⟨rfl, h⟩, if_pos h]
  · rw [if_neg (fun q => h q.2), if_neg h]
theorem cp_ne {σ : Int → Int → Int} {s1 sp d dp n a' : Int} (h : a' ≠ d) : cp σ s1 sp d dp n a' = σ a' := by
  funext i'
  unfold cp
  rw [if_neg (fun q => h q.1)]
theorem zr_ne {σ : Int → Int → Int} {a a' : Int} (h : a' ≠ a) : zr σ a a' = σ a' := by
  funext i'
  unfold zr
  rw [if_neg h]
theorem zr_at {σ : Int → Int → Int} {a i : Int} : zr σ a a i = 0 := by
  unfold zr
  rw [if_pos rfl]
theorem cy_ne {σ : Int → Int → Int} {s1 a a' : Int} (h : a' ≠ a) : cy σ s1 a a' = σ a' := by
  funext i'
  unfold cy
  rw [if_neg h]
theorem cy_at {σ : Int → Int → Int} {s1 a i : Int} : cy σ s1 a a i = σ s1 i := by
  unfold cy
  rw [if_pos rfl]
theorem locs_1 {w : WD} {locs : List Loc} {a i : Nat} (h : ∀ q ∈ locs, w.2.2.1 ≤ q.base) (ha : w.2.2.1 ≤ a) : ∀ q ∈ locs ++ [⟨a, i⟩], w.2.2.1 ≤ q.base := by
  intro q hq
  rcases List.mem_append.mp hq with h1 | h1
  · exact h q h1
  · rw [List.mem_singleton] at h1
    rw [h1]; exact ha
theorem arrV_cong {cA : ClassId} {n : Nat} {f g : Nat → Value} (h : ∀ j, j < n → f j = g j) : arrV cA n f = arrV cA n g := by
  unfold arrV
  congr 1
  exact congrArg _ (funext fun j => h j.1 j.2)
section
variable {p : Program} {l : Launch} {e : Env} {R : Room} {s : State} {mid : MethodId} {args : Array Value} {below : List Frame} {meth : Method} {c : Code} {D : DD} {w : WD} {m k0 j0 : Nat} {Q : State → Prop} {pc : Nat} {L S : List AV} {M : AM} {H : Heap} {locs : List Loc} {cells slots : Nat} {ls : Array Slot} {ax : List Nat} {cn : Int} {RR : AV → AM → Prop} {CC : Nat → List AV → Nat → List AV → Nat → Prop}
theorem obj_put {idx ci k kn : Nat} {t : Nat} {x a : Int} {rest : List Value} (hf : Fr p s mid args meth c D w m) (hd : decode (mB m) pc = .ok (.putfield idx, 3)) (hk1 : hasF (nth flT (mt m).1 []) idx ci k = true) (hfin : (!(fd ci k).2.2.1 || (Nat.beq (mt m).1 ci && decide ((mt m).2.1 = "<init>"))) = true)
    (ht : t = (fd ci k).2.2.2.1) (hz : (fd ci k).2.2.2.1 = 2 ∨ (fd ci k).2.2.2.2 = 0 ∨ x = 0 ∨ x = 1) (k6 : t_OB (w.2.2.1 + (kn - 2)) (D.1 ci) (nF ci) (D.2.1 ci) H (fv w ci (M.1 a) (M.2.1 a)))
    (kk : ∀ H' : Heap, t_OB (w.2.2.1 + (kn - 2)) (D.1 ci) (nF ci) (D.2.1 ci) H' (updV (fv w ci (M.1 a) (M.2.1 a)) k (cV w (t, x))) → H'.size = H.size → (∀ q : Nat, q ≠ w.2.2.1 + (kn - 2) → H'[q]? = H[q]?) → ∀ i : Nat, W p l e R s mid args below meth c H' (locs ++ [⟨w.2.2.1 + (kn - 2), i⟩]) cells slots Q (F0 mid (pc + 3) ls rest)) :
    W p l e R s mid args below meth c H locs cells slots Q (F0 mid pc ls (cV w (t, x) :: .ref (w.2.2.1 + (kn - 2)) :: rest)) := by
  obtain ⟨hx, hb, hml, hown, hts, hcx, hname⟩ := hf
  obtain ⟨g1, g2, g3⟩ := fl_link hk1
  obtain ⟨w1, w2, w3, w4, w5⟩ := kp_at g2
  obtain ⟨hS, hfc, kC, hkC, hkind⟩ := hcx.1.1 ci _ (cls_at ci g2)
  obtain ⟨cf, kf, fi, f, hi, hsl⟩ := hS k g3
  obtain ⟨cell, q1, q2, q3, q4⟩ := k6
  have hap := va_apart (own := mO m) (D := (D.1, D.2.1)) (cl := clsT) (tys := []) (ci := ci) hts w3 (fY ci) w4 w5 hcx.1 (cls_at ci g2)
  have hst := (u_facts hfc hkC (u_lays hts w3 g3) hi).1
  obtain ⟨n1, n2⟩ := ty_fits (w := w) (tyOk_at g2 g3) hz
  rw [← ht] at n1 n2
  have hlay := hts _ (w3 _ (u_in_lay g3))
  have hlt : f.slot < cell.slots.size := by rw [hsl]; exact k2_hasslot (q4 k g3)
  cases hfi : (fd ci k).2.2.1 with
  | false =>
    unfold u_lay at hlay
    rw [if_neg (by show ¬ (fd ci k).2.2.1 = true; rw [hfi]; decide)] at hlay
    have h6 := u_store hfc hkC hkind hlay hi (w4 k g3) n1 n2
    refine W.putK hx hb (f := f) ⟨hown, hts _ g1, ⟨_, _, _, hi⟩, hst⟩ (by rw [q2]; exact h6) q1 q3 hlt rfl rfl hd fun H' e1 e2 e3 => ?_
    rw [hsl] at e1 ⊢
    exact kk H' ⟨_, e1, q2, q3, t_set q4 hap g3 _⟩ e2 e3 _
  | true =>
    rw [hfi] at hfin
    simp only [Bool.not_true, Bool.false_or, Bool.and_eq_true, decide_eq_true_eq] at hfin
    have ho : mO m = nth clN ci "" := by
      show nth owN (mt m).1 "" = _
      rw [Nat.eq_of_beq_eq_true hfin.1]
      have : ∀ ci, ci < 13 → nth owN ci "" = nth clN ci "" := by decide +kernel
      exact this ci g2
    unfold u_lay at hlay
    rw [if_pos (by show (fd ci k).2.2.1 = true; exact hfi)] at hlay
    have hcf : mid.cls = cf := by
      obtain ⟨_, _, c', _, _, _, -, -, hf', -, -, -, hown2, -⟩ := Cond.laysFinal_spec hlay
      have e1 : c' = cf := by have := hi.symm.trans hf'; simp at this; exact this.1.symm
      rw [ho] at hown
      rw [← e1]; exact Option.some.inj (hown.symm.trans hown2)
    have h6 := u_fits hfc hkC hkind (Or.inr hlay) hi (w4 k g3) n1 n2
    refine W.putFinK hx hb hown (hts _ g1) hi hst hcf (by rw [hname hfin.2]; exact hfin.2) (by rw [q2]; exact h6) q1 q3 hlt rfl rfl hd fun H' e1 e2 e3 => ?_
    rw [hsl] at e1 ⊢
    exact kk H' ⟨_, e1, q2, q3, t_set q4 hap g3 _⟩ e2 e3 _
theorem s_putfield {idx : Nat} (hf : Fr p s mid args meth c D w m) (hs : St D w m k0 j0 L S M H locs cells slots ls) (hd : decode (mB m) pc = .ok (.putfield idx, 3)) (hk : chkI m pc (.putfield idx, pc + 3, ax, cn) = true) (h : a_putfield (pc + 3) ax cn L S M (KW p l e R s mid args below meth c D w m k0 j0 Q) RR CC False) : W p l e R s mid args below meth c H locs cells slots Q (F0 mid pc ls (S.map (cV w))) := by
  unfold a_putfield at h
  split at h
  · rename_i t x a S' ci k t' z
    simp only [chkI, Bool.and_eq_true] at hk
    obtain ⟨⟨⟨hk1, hk2⟩, hk3⟩, hk4⟩ := hk
    have hk2 := Nat.eq_of_beq_eq_true hk2
    have hk3 := Nat.eq_of_beq_eq_true hk3
    obtain ⟨h1, h2⟩ := brK_b h
    simp only [Bool.and_eq_true] at h1
    have h1a := Nat.eq_of_beq_eq_true h1.1
    have h1b := of_decide_eq_true h1.2
    obtain ⟨g1, g2, g3⟩ := fl_link hk1
    obtain ⟨kn, ea, k1, k2, k4, k5, k6, k7⟩ := kd_obj hs.2.1 h1a g2
    show W p l e R s mid args below meth c H locs cells slots Q (F0 mid pc ls (cV w (t, x) :: cR w a :: S'.map (cV w)))
    rw [k4]
    have ht : t = (fd ci k).2.2.2.1 := h1b.trans hk2
    obtain ⟨hL, hM, hS, hlo, hce, hsl⟩ := hs
    cases hb2 : Nat.beq t 2 with
    | true =>
      rw [hb2] at h2
      have hb2 := Nat.eq_of_beq_eq_true hb2
      refine obj_put hf hd hk1 hk4 ht (Or.inl (by rw [← ht]; exact hb2)) k6 (fun H' e1 e2 e3 i => ?_)
      refine h2.2 H' _ cells slots ls ⟨hL, ?_, ok_t (ok_t hS), locs_1 hlo (by omega), hce, hsl⟩
      refine hM.wr ea k1 e2 e3 (σ := M.1) (rf := up M.2.1 a k x) (fun _ _ => rfl) (fun a' h9 => up_ne h9) (Or.inl ⟨by rw [k5]; exact g2, by rw [k5], ?_, ?_⟩)
      · rw [k5]
        refine e1.to fun j hj => ?_
        unfold updV fv
        by_cases hjk : j = k
        · subst hjk
          rw [if_pos rfl, ← ht, if_pos hb2, up_at, if_pos rfl]
        · rw [if_neg hjk, up_at, if_neg (show ¬ (j : Int) = (k : Int) by omega)]
      · rw [k5]
        exact k7
    | false =>
      rw [hb2] at h2
      have hb2 : t ≠ 2 := fun q => by rw [q] at hb2; exact absurd hb2 (by decide)
      obtain ⟨hz, h3⟩ := brK_b h2
      have hz : z = 0 ∨ x = 0 ∨ x = 1 := of_decide_eq_true hz
      rw [hk3] at hz
      refine obj_put hf hd hk1 hk4 ht (Or.inr hz) k6 (fun H' e1 e2 e3 i => ?_)
      refine h3.2 H' _ cells slots ls ⟨hL, ?_, ok_t (ok_t hS), locs_1 hlo (by omega), hce, hsl⟩
      refine hM.wr ea k1 e2 e3 (σ := up M.1 a k x) (rf := M.2.1) (fun a' h9 => up_ne h9) (fun _ _ => rfl) (Or.inl ⟨by rw [k5]; exact g2, by rw [k5], ?_, ?_⟩)
      · rw [k5]
        refine e1.to fun j hj => ?_
        unfold updV fv
        by_cases hjk : j = k
        · subst hjk
          rw [if_pos rfl, ← ht, if_neg hb2, up_at, if_pos rfl]
        · rw [if_neg hjk, up_at, if_neg (show ¬ (j : Int) = (k : Int) by omega)]
      · rw [k5]
        intro j hj
        rw [up_at]
        by_cases hjk : j = k
        · subst hjk
          rw [if_pos rfl]
          have hv := ok_h hS
          rw [ht] at hv
          revert hv hz
          generalize (fd ci j).2.2.2.2 = z9
          rw [ht] at hb2
          generalize (fd ci j).2.2.2.1 = t9 at hb2
          match t9 with
          | 0 => exact fun hz hv => ⟨hv, hz⟩
          | 1 => exact fun _ hv => hv
          | n + 2 => exact fun _ _ => trivial
        · rw [if_neg (by omega)]
          exact k7 j hj
  · exact h.elim
theorem s_arraylength (hf : Fr p s mid args meth c D w m) (hs : St D w m k0 j0 L S M H locs cells slots ls) (hd : decode (mB m) pc = .ok (.arraylength, 1)) (h : a_arraylength (pc + 1) ax cn L S M (KW p l e R s mid args below meth c D w m k0 j0 Q) RR CC False) : W p l e R s mid args below meth c H locs cells slots Q (F0 mid pc ls (S.map (cV w))) := by
  obtain ⟨hx, hb, hml, hown, hts, hcx, hname⟩ := hf
  unfold a_arraylength at h
  split at h
  · rename_i a S'
    obtain ⟨h1, h2⟩ := brK_b h
    simp only [Bool.and_eq_true] at h1
    have h1a := Nat.le_of_ble_eq_true h1.1
    have h1b := Nat.le_of_ble_eq_true h1.2
    show W p l e R s mid args below meth c H locs cells slots Q (F0 mid pc ls (cR w a :: S'.map (cV w)))
    by_cases h55 : kd M.2.2 a = 55
    · obtain ⟨⟨m1, m2, m3, m4⟩, ⟨m5, m7, m8, m9, scr, s1, s2, s3, s4⟩, m6⟩ := hs.2.1
      have ha : a = 1 := by
        by_cases q0 : a.toNat = 1
        · omega
        · exfalso
          by_cases q1 : a.toNat = 0
          · unfold kd at h55; rw [q1] at h55; rw [h55] at m3; exact absurd m3 (by decide)
          · rcases Nat.lt_or_ge a.toNat M.2.2.length with q2 | q2
            · rcases m6 a.toNat (by omega) q2 with ⟨z1, -⟩ | ⟨-, z1, -⟩
              · have : (at0 M.2.2 a.toNat).1 = 55 := h55
                omega
              · have : (at0 M.2.2 a.toNat).1 = 55 := h55
                omega
            · unfold kd at h55; rw [nth_out _ _ _ q2] at h55; exact absurd h55 (by decide)
      subst ha
      have hr : cR w 1 = .ref w.1 := rfl
      rw [hr]
      have hH : H[w.1]? = some scr := by rw [m5 _ m7]; exact s1
      refine W.alen (n := i32 (ln M.2.2 1)) hx hb hH (hcx.2.2.1 scr s1) ?_ rfl rfl hd (st_go h2 hs (ok_c (show r32 _ from ⟨by show _ ≤ (at0 M.2.2 1).2; omega, by show (at0 M.2.2 1).2 < _; omega⟩) (ok_t hs.2.2.1)))
      rw [s3]
      show Int32.ofNat (at0 M.2.2 1).2.toNat = i32 (at0 M.2.2 1).2
      refine i32_inj ?_
      rw [i32_t ⟨by omega, by omega⟩]
      exact (nI_toInt (n := (at0 M.2.2 1).2.toNat) (by omega)).trans (by omega)
    · obtain ⟨kn, ea, k1, k2, k4, k5, k6, k7, k8, k9, k10⟩ := kd_arr hs.2.1 (K := kd M.2.2 a) rfl h1a (by omega)
      rw [k4]
      refine W.alen (n := i32 (ln M.2.2 a)) hx hb k9 ((hcx.2.1 _ h1a (by omega)).1 _ _) ?_ rfl rfl hd (st_go h2 hs (ok_c (show r32 (ln M.2.2 a) from ⟨by omega, by omega⟩) (ok_t hs.2.2.1)))
      rw [arrV_size]
      show Int32.ofNat (ln M.2.2 a).toNat = i32 (ln M.2.2 a)
      refine i32_inj ?_
      rw [i32_t ⟨by omega, by omega⟩]
      exact (nI_toInt (n := (ln M.2.2 a).toNat) (by omega)).trans (by omega)
  · exact h.elim
end
end
