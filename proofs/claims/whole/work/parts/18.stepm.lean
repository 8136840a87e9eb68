/-! ONE LEMMA AN INSTRUCTION: constants of the pool, fields, arrays, new cells -/
noncomputable section
theorem hasL_mem : ∀ {l : List (Nat × Nat × Nat)} {i j : Nat}, hasL l i j = true → ∃ q ∈ l, q.1 = i ∧ q.2.1 = j
  | [], _, _, h => by simp [hasL] at h
  | q :: r, i, j, h => by
    unfold hasL at h
    cases hb : (Nat.beq q.1 i && Nat.beq q.2.1 j) with
    | true =>
      simp only [Bool.and_eq_true] at hb
      exact ⟨q, List.mem_cons_self, Nat.eq_of_beq_eq_true hb.1, Nat.eq_of_beq_eq_true hb.2⟩
    | false =>
      rw [hb] at h
      obtain ⟨q', h1, h2⟩ := hasL_mem (l := r) h
      exact ⟨q', List.mem_cons_of_mem _ h1, h2⟩
theorem hasF_mem : ∀ {l : List (Nat × Nat × Nat × Nat)} {i j k : Nat}, hasF l i j k = true → ∃ q ∈ l, q.1 = i ∧ q.2.1 = j ∧ q.2.2.1 = k
  | [], _, _, _, h => by simp [hasF] at h
  | q :: r, i, j, k, h => by
    unfold hasF at h
    cases hb : (Nat.beq q.1 i && (Nat.beq q.2.1 j && Nat.beq q.2.2.1 k)) with
    | true =>
      simp only [Bool.and_eq_true] at hb
      exact ⟨q, List.mem_cons_self, Nat.eq_of_beq_eq_true hb.1, Nat.eq_of_beq_eq_true hb.2.1, Nat.eq_of_beq_eq_true hb.2.2⟩
    | false =>
      rw [hb] at h
      obtain ⟨q', h1, h2⟩ := hasF_mem (l := r) h
      exact ⟨q', List.mem_cons_of_mem _ h1, h2⟩
theorem hasC_mem : ∀ {l : List (Nat × Int × Nat)} {i : Nat} {v : Int}, hasC l i v = true → ∃ q ∈ l, q.1 = i ∧ q.2.1 = v
  | [], _, _, h => by simp [hasC] at h
  | q :: r, i, v, h => by
    unfold hasC at h
    cases hb : (Nat.beq q.1 i && decide (q.2.1 = v)) with
    | true =>
      simp only [Bool.and_eq_true, decide_eq_true_eq] at hb
      exact ⟨q, List.mem_cons_self, Nat.eq_of_beq_eq_true hb.1, hb.2⟩
    | false =>
      rw [hb] at h
      obtain ⟨q', h1, h2⟩ := hasC_mem (l := r) h
      exact ⟨q', List.mem_cons_of_mem _ h1, h2⟩
theorem fl_link {o idx ci k : Nat} (h : hasF (nth flT o []) idx ci k = true) : Cond.fieldLink (nth owN o "") idx (nth clN ci "") (fd ci k).1 (fd ci k).2.1 ∈ gws ∧ ci < 13 ∧ k < nF ci := by
  obtain ⟨q, hq, rfl, rfl, rfl⟩ := hasF_mem h
  have h1 := nth_all 16 (Nat.le_refl _) flT_ok o q hq
  simp only [flP, Bool.and_eq_true] at h1
  obtain ⟨⟨h1, h2⟩, h3⟩ := h1
  have h1 := tb_mem h1
  exact ⟨gws_in h1.1 h1.2, by simpa using h2, by simpa using h3⟩
theorem cl_link {o idx : Nat} {v : Int} (h : hasC (nth clT o []) idx v = true) : Cond.constant (nth owN o "") idx (i32 v) ∈ gws ∧ r32 v := by
  obtain ⟨q, hq, rfl, rfl⟩ := hasC_mem h
  have h1 := nth_all 16 (Nat.le_refl _) clT_ok o q hq
  simp only [clP, Bool.and_eq_true, decide_eq_true_eq] at h1
  have h2 := tb_mem h1.1
  exact ⟨gws_in h2.1 h2.2, h1.2⟩
theorem dl_link {o idx : Nat} {v : Int} (h : hasC (nth dlT o []) idx v = true) : Cond.constantLong (nth owN o "") idx (i64 v) ∈ gws ∧ r64 v := by
  obtain ⟨q, hq, rfl, rfl⟩ := hasC_mem h
  have h1 := nth_all 16 (Nat.le_refl _) dlT_ok o q hq
  simp only [dlP, Bool.and_eq_true, decide_eq_true_eq] at h1
  have h2 := tb_mem h1.1
  exact ⟨gws_in h2.1 h2.2, h1.2⟩
theorem kl_link {o idx ci : Nat} (h : hasL (nth klT o []) idx ci = true) : Cond.classLink (nth owN o "") idx (nth clN ci "") ∈ gws ∧ ci < 13 := by
  obtain ⟨q, hq, rfl, rfl⟩ := hasL_mem h
  have h1 := nth_all 16 (Nat.le_refl _) klT_ok o q hq
  simp only [klP, Bool.and_eq_true] at h1
  have h2 := tb_mem h1.1
  exact ⟨gws_in h2.1 h2.2, by simpa using h1.2⟩
theorem vl_link {o idx k : Nat} (h : hasL (nth vlT o []) idx k = true) : Cond.methodLink (nth owN o "") idx (nvN k) ∈ gws := by
  obtain ⟨q, hq, rfl, rfl⟩ := hasL_mem h
  have h1 := nth_all 16 (Nat.le_refl _) vlT_ok o q hq
  have h2 := tb_mem h1
  exact gws_in h2.1 h2.2
theorem kp_at {ci : Nat} (h : ci < 13) : Cond.instantiable (nth clN ci "") (nF ci) ∈ gws ∧ Cond.initialized (nth clN ci "") ∈ gws ∧ (∀ wd ∈ u_ws (nth clN ci "") (fT ci) (nF ci), wd ∈ gws) ∧ (∀ k, k < nF ci → parseFieldDescriptor (fT ci k).2.2.1 = some (fY ci k)) ∧ ∀ a, a < nF ci → ∀ b, b < nF ci → a ≠ b → (fT ci a).2.1 ≠ (fT ci b).2.1 := by
  have h1 := List.all_eq_true.mp kp_ok ci (List.mem_range.mpr h)
  simp only [kpP, Bool.and_eq_true] at h1
  obtain ⟨⟨h2, h3⟩, h4⟩ := h1
  have h2 := tb_mem h2
  have h3 := tb_mem h3
  have h5 : ∀ k, k < nF ci → u_lay (nth clN ci "") (fT ci) k ∈ gws ∧ parseFieldDescriptor (fT ci k).2.2.1 = some (fY ci k) ∧ ∀ j, j < nF ci → (Nat.beq j k || !decide ((fT ci k).2.1 = (fT ci j).2.1)) = true := by
    intro k hk
    have h6 := List.all_eq_true.mp h4 k (List.mem_range.mpr hk)
    simp only [Bool.and_eq_true, decide_eq_true_eq] at h6
    obtain ⟨⟨h7, h8⟩, h9⟩ := h6
    have h7 := tb_mem h7
    exact ⟨gws_in h7.1 h7.2, h8, fun j hj => List.all_eq_true.mp h9 j (List.mem_range.mpr hj)⟩
  refine ⟨gws_in h2.1 h2.2, gws_in h3.1 h3.2, fun wd hw => ?_, fun k hk => (h5 k hk).2.1, fun a ha b hb hne => ?_⟩
  · obtain ⟨k, hk, rfl⟩ := List.mem_map.mp hw
    exact (h5 k (List.mem_range.mp hk)).1
  · have h6 := (h5 a ha).2.2 b hb
    simp only [Bool.or_eq_true, Bool.not_eq_true', decide_eq_false_iff_not] at h6
    rcases h6 with h6 | h6
    · exact absurd (Nat.eq_of_beq_eq_true h6).symm hne
    · exact h6
def tyOk (ci k : Nat) : Bool := match fY ci k with
  | .int => Nat.beq (fd ci k).2.2.2.1 0 && Nat.beq (fd ci k).2.2.2.2 0
  | .boolean => Nat.beq (fd ci k).2.2.2.1 0 && Nat.beq (fd ci k).2.2.2.2 1
  | .long => Nat.beq (fd ci k).2.2.2.1 1
  | .object _ => Nat.beq (fd ci k).2.2.2.1 2
  | .array _ => Nat.beq (fd ci k).2.2.2.1 2
  | _ => false
set_option maxRecDepth 100000 in
theorem tyOk_all : (List.range 13).all (fun ci => (List.range (nF ci)).all (fun k => tyOk ci k)) = true := by decide +kernel
theorem tyOk_at {ci k : Nat} (h : ci < 13) (hk : k < nF ci) : tyOk ci k = true := List.all_eq_true.mp (List.all_eq_true.mp tyOk_all ci (List.mem_range.mpr h)) k (List.mem_range.mpr hk)
/-- what may be stored in a field -/
theorem ty_fits {w : WD} {ci k : Nat} (h : tyOk ci k = true) {x : Int} (hz : (fd ci k).2.2.2.1 = 2 ∨ (fd ci k).2.2.2.2 = 0 ∨ x = 0 ∨ x = 1) : narrow (fY ci k) (cV w ((fd ci k).2.2.2.1, x)) = cV w ((fd ci k).2.2.2.1, x) ∧ fits (fY ci k) (cV w ((fd ci k).2.2.2.1, x)) = true := by
  unfold tyOk at h
  split at h
  · rename_i e
    simp only [Bool.and_eq_true] at h
    rw [e, Nat.eq_of_beq_eq_true h.1]
    exact ⟨rfl, rfl⟩
  · rename_i e
    simp only [Bool.and_eq_true] at h
    have e1 := Nat.eq_of_beq_eq_true h.1
    have e2 := Nat.eq_of_beq_eq_true h.2
    rw [e, e1]
    rw [e1, e2] at hz
    rcases hz with hz | hz | hz | hz
    · exact absurd hz (by decide)
    · exact absurd hz (by decide)
    · subst hz; exact ⟨rfl, rfl⟩
    · subst hz; exact ⟨rfl, rfl⟩
  · rename_i e
    rw [e, Nat.eq_of_beq_eq_true h]
    exact ⟨rfl, rfl⟩
  · rename_i e
    rw [e, Nat.eq_of_beq_eq_true h]
    show narrow _ (cR w x) = cR w x ∧ fits _ (cR w x) = true
    unfold cR
    split <;> exact ⟨rfl, rfl⟩
  · rename_i e
    rw [e, Nat.eq_of_beq_eq_true h]
    show narrow _ (cR w x) = cR w x ∧ fits _ (cR w x) = true
    unfold cR
    split <;> exact ⟨rfl, rfl⟩
  · exact absurd h (by decide)
theorem ty_def {w : WD} {ci k : Nat} (h : tyOk ci k = true) : defaultValue (fY ci k) = cV w ((fd ci k).2.2.2.1, 0) ∧ okF (fd ci k).2.2.2.1 (fd ci k).2.2.2.2 0 := by
  unfold tyOk at h
  split at h
  · rename_i e
    simp only [Bool.and_eq_true] at h
    rw [e, Nat.eq_of_beq_eq_true h.1]
    exact ⟨rfl, r32_0, Or.inr (Or.inl rfl)⟩
  · rename_i e
    simp only [Bool.and_eq_true] at h
    rw [e, Nat.eq_of_beq_eq_true h.1]
    exact ⟨rfl, r32_0, Or.inr (Or.inl rfl)⟩
  · rename_i e
    rw [e, Nat.eq_of_beq_eq_true h]
    exact ⟨rfl, r64_0⟩
  · rename_i e
    rw [e, Nat.eq_of_beq_eq_true h]
    exact ⟨rfl, trivial⟩
  · rename_i e
    rw [e, Nat.eq_of_beq_eq_true h]
    exact ⟨rfl, trivial⟩
  · exact absurd h (by decide)
theorem okF_okV {t z : Nat} {x : Int} (h : okF t z x) : okV (t, x) := by
  match t, h with
  | 0, h => exact h.1
  | 1, h => exact h
  | n + 2, _ => trivial
theorem clamp {j : Int} (h : r32 j) (h0 : 0 ≤ j) : (i32 j).toNatClampNeg = j.toNat := by
  show (i32 j).toInt.toNat = _
  rw [i32_t h]
theorem in_arr {j n : Int} (h : r32 j) (h0 : 0 ≤ j) (hn : j < n) : ¬ (i32 j < 0 ∨ n.toNat ≤ (i32 j).toNatClampNeg) := by
  rw [clamp h h0, show (0 : Int32) = i32 0 from rfl, i32_lt h r32_0]
  omega
section
variable {p : Program} {l : Launch} {e : Env} {R : Room} {s : State} {mid : MethodId} {args : Array Value} {below : List Frame} {meth : Method} {c : Code} {D : DD} {w : WD} {m k0 j0 : Nat} {Q : State → Prop} {pc : Nat} {L S : List AV} {M : AM} {H : Heap} {locs : List Loc} {cells slots : Nat} {ls : Array Slot} {ax : List Nat} {cn : Int} {RR : AV → AM → Prop} {CC : Nat → List AV → Nat → List AV → Nat → Prop}
theorem s_ldc {idx : Nat} (hf : Fr p s mid args meth c D w m) (hs : St D w m k0 j0 L S M H locs cells slots ls) (hd : decode (mB m) pc = .ok (.ldc idx, 2)) (hk : chkI m pc (.ldc idx, pc + 2, ax, cn) = true) (h : a_ldc (pc + 2) ax cn L S M (KW p l e R s mid args below meth c D w m k0 j0 Q) RR CC False) : W p l e R s mid args below meth c H locs cells slots Q (F0 mid pc ls (S.map (cV w))) := by
  obtain ⟨hx, hb, hml, hown, hts, hcx, -⟩ := hf
  unfold a_ldc at h
  unfold chkI at hk
  split at h
  · obtain ⟨h1, h2⟩ := cl_link hk
    exact lv_ldc hx hb hown (hts _ h1) hd (st_go h hs (ok_c (show r32 cn from h2) hs.2.2.1))
  · rename_i hne
    dsimp only at hk
    split at hk
    · exact absurd rfl hne
    · simp only [Bool.and_eq_true] at hk
      have e1 := Nat.eq_of_beq_eq_true hk.1
      have e2 := Nat.eq_of_beq_eq_true hk.2
      subst e2
      have ho : mO m = "AgainstFeather$Tokens" := by show nth owN (mt m).1 "" = _; rw [e1]; rfl
      rw [ho] at hown
      exact va_ldcS hx hb hown hcx.2.2.2.1.1 hd (st_go h hs (ok_c (show okV (5, 0) from trivial) hs.2.2.1))
theorem s_ldc_w {idx : Nat} (hf : Fr p s mid args meth c D w m) (hs : St D w m k0 j0 L S M H locs cells slots ls) (hd : decode (mB m) pc = .ok (.ldc_w idx, 3)) (hk : chkI m pc (.ldc_w idx, pc + 3, ax, cn) = true) (h : a_ldc_w (pc + 3) ax cn L S M (KW p l e R s mid args below meth c D w m k0 j0 Q) RR CC False) : W p l e R s mid args below meth c H locs cells slots Q (F0 mid pc ls (S.map (cV w))) := by
  obtain ⟨hx, hb, hml, hown, hts, hcx, -⟩ := hf
  unfold a_ldc_w at h
  obtain ⟨h1, h2⟩ := cl_link hk
  exact lv_ldcw hx hb hown (hts _ h1) hd (st_go h hs (ok_c (show r32 cn from h2) hs.2.2.1))
theorem s_ldc2_w {idx : Nat} (hf : Fr p s mid args meth c D w m) (hs : St D w m k0 j0 L S M H locs cells slots ls) (hd : decode (mB m) pc = .ok (.ldc2_w idx, 3)) (hk : chkI m pc (.ldc2_w idx, pc + 3, ax, cn) = true) (h : a_ldc2_w (pc + 3) ax cn L S M (KW p l e R s mid args below meth c D w m k0 j0 Q) RR CC False) : W p l e R s mid args below meth c H locs cells slots Q (F0 mid pc ls (S.map (cV w))) := by
  obtain ⟨hx, hb, hml, hown, hts, hcx, -⟩ := hf
  unfold a_ldc2_w at h
  obtain ⟨h1, h2⟩ := dl_link hk
  exact lv_ldc2 hx hb hown (hts _ h1) hd (st_go h hs (ok_c (show r64 cn from h2) hs.2.2.1))
theorem s_getfield {idx : Nat} (hf : Fr p s mid args meth c D w m) (hs : St D w m k0 j0 L S M H locs cells slots ls) (hd : decode (mB m) pc = .ok (.getfield idx, 3)) (hk : chkI m pc (.getfield idx, pc + 3, ax, cn) = true) (h : a_getfield (pc + 3) ax cn L S M (KW p l e R s mid args below meth c D w m k0 j0 Q) RR CC False) : W p l e R s mid args below meth c H locs cells slots Q (F0 mid pc ls (S.map (cV w))) := by
  obtain ⟨hx, hb, hml, hown, hts, hcx, -⟩ := hf
  unfold a_getfield at h
  split at h
  · rename_i a S' ci k t z
    simp only [chkI, Bool.and_eq_true] at hk
    obtain ⟨hk1, hk2⟩ := hk
    have hk2 := Nat.eq_of_beq_eq_true hk2
    obtain ⟨h1, h2⟩ := brK_b h
    have h1 := Nat.eq_of_beq_eq_true h1
    obtain ⟨g1, g2, g3⟩ := fl_link hk1
    obtain ⟨kn, ea, k1, k2, k4, k5, k6, k7⟩ := kd_obj hs.2.1 h1 g2
    obtain ⟨w1, w2, w3, w4, w5⟩ := kp_at g2
    show W p l e R s mid args below meth c H locs cells slots Q (F0 mid pc ls (cR w a :: S'.map (cV w)))
    rw [k4]
    have hP : va_P (D.1, D.2.1) clsT [(w.2.2.1 + (kn - 2), .inr (ci, (List.range (nF ci)).map (fv w ci (M.1 a) (M.2.1 a))))] H := by
      intro q y hy
      match q, hy with
      | 0, hy =>
        cases hy
        refine ⟨_, cls_at ci g2, k6.to fun j hj => ?_⟩
        simp [vp_V, hj]
    refine va_get (D := (D.1, D.2.1)) (cl := clsT) (tys := []) (ci := ci) (v := fv w ci (M.1 a) (M.2.1 a) k) (C := nth clN ci "") (T := fT ci) (N := nF ci) hx hb hts w3 hown hcx.1 hP 0 rfl (cls_at ci g2) k g3 (hts _ g1) (fun _ h9 => h9) (by simp [g3]) hd ?_
    have hok := okF_okV (k7 k g3)
    unfold fv
    rw [← hk2] at hok ⊢
    cases ht : Nat.beq t 2 with
    | true =>
      rw [ht] at h2
      have ht := Nat.eq_of_beq_eq_true ht
      rw [if_pos ht]
      subst ht
      exact st_go h2 hs (ok_c (show okV (2, _) from trivial) (ok_t hs.2.2.1))
    | false =>
      rw [ht] at h2
      rw [if_neg (fun q => by rw [q] at ht; exact absurd ht (by decide))]
      exact st_go h2 hs (ok_c hok (ok_t hs.2.2.1))
  · exact h.elim
end
end
