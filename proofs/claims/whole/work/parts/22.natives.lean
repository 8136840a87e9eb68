/-! the machine's own methods -/
noncomputable section
theorem wsum_cat {w : WD} : ∀ (S : List AV), ((S.map (cV w)).map (fun v => v.category)).sum = wsum S
  | [] => rfl
  | v :: r => by
    rw [List.map_cons, List.map_cons, List.sum_cons, wsum_cat r, cV_cat, wsum]
    congr 1
    by_cases h : v.1 = 1
    · rw [if_pos h, h]; rfl
    · rw [if_neg h, show Nat.beq v.1 1 = false from by
        cases hb : Nat.beq v.1 1 with
        | false => rfl
        | true => exact absurd (Nat.eq_of_beq_eq_true hb) h]
theorem gw_at {k : Nat} {wd : Cond} (h : tables_1[k]? = some wd) (hg : goodWord wd = true) : wd ∈ gws := gws_in (List.mem_of_getElem? h) hg
theorem nw_oi1 : Cond.instanceMethod Lib.objectInit ∈ gws := gw_at (k := 28) (by decide +kernel) rfl
theorem nw_oi2 : Cond.code Lib.objectInit ⟨#[0xb1]⟩ 1 none ∈ gws := gws_in (in_t1 (List.mem_of_getElem? (i := 29) rfl)) rfl
theorem nw_mi : Cond.initialized "java/lang/Math" ∈ gws := gw_at (k := 14) (by decide +kernel) rfl
theorem nw_si : Cond.initialized "java/lang/System" ∈ gws := gw_at (k := 19) (by decide +kernel) rfl
theorem nw_min1 : Cond.static Lib.Math.min.name ∈ gws := gw_at (k := 589) (by decide +kernel) rfl
theorem nw_min2 : Cond.code Lib.Math.min.name Lib.Math.min.code 2 (some .int) ∈ gws := gws_in (in_t3 (List.mem_of_getElem? (i := 110) rfl)) rfl
theorem nw_max1 : Cond.static Lib.Math.max.name ∈ gws := gw_at (k := 592) (by decide +kernel) rfl
theorem nw_max2 : Cond.code Lib.Math.max.name Lib.Math.max.code 2 (some .int) ∈ gws := gws_in (in_t3 (List.mem_of_getElem? (i := 113) rfl)) rfl
theorem nw_abs1 : Cond.static Lib.Math.abs.name ∈ gws := gw_at (k := 877) (by decide +kernel) rfl
theorem nw_abs2 : Cond.code Lib.Math.abs.name Lib.Math.abs.code 1 (some .int) ∈ gws := gws_in (in_t4 (List.mem_of_getElem? (i := 158) rfl)) rfl
theorem nw_ac1 : Cond.static arraycopyName ∈ gws := gw_at (k := 764) (by decide +kernel) rfl
theorem nw_ac2 : Cond.native arraycopyName ∈ gws := gw_at (k := 765) (by decide +kernel) rfl
theorem nw_cl1 : Cond.sameMethod "[I" "java/lang/Object" "clone" "()Ljava/lang/Object;" ∈ gws := gw_at (k := 756) (by decide +kernel) rfl
theorem nw_cl2 : Cond.native ⟨"java/lang/Object", "clone", "()Ljava/lang/Object;"⟩ ∈ gws := gw_at (k := 757) (by decide +kernel) rfl
theorem nw_cl3 : Cond.instanceMethod ⟨"java/lang/Object", "clone", "()Ljava/lang/Object;"⟩ ∈ gws := gw_at (k := 758) (by decide +kernel) rfl
theorem nw_cl4 : Cond.selects "[I" ⟨"[I", "clone", "()Ljava/lang/Object;"⟩ ⟨"java/lang/Object", "clone", "()Ljava/lang/Object;"⟩ ∈ gws := gw_at (k := 759) (by decide +kernel) rfl
theorem i32_max {x y : Int} (hx : r32 x) (hy : r32 y) : (if i32 x < i32 y then i32 y else i32 x) = i32 (max x y) := by
  by_cases h : x < y
  · rw [if_pos ((i32_lt hx hy).mpr h), show max x y = y by omega]
  · rw [if_neg (fun q => h ((i32_lt hx hy).mp q)), show max x y = x by omega]
theorem i32_min {x y : Int} (hx : r32 x) (hy : r32 y) : (if i32 y < i32 x then i32 y else i32 x) = i32 (min x y) := by
  by_cases h : y < x
  · rw [if_pos ((i32_lt hy hx).mpr h), show min x y = y by omega]
  · rw [if_neg (fun q => h ((i32_lt hy hx).mp q)), show min x y = x by omega]
theorem iab_r {x : Int} (hx : r32 x) : r32 (iab x) := by
  unfold iab; split
  · exact w32_r _
  · exact hx
theorem i32_abs {x : Int} (hx : r32 x) : (if 0 ≤ i32 x then i32 x else 0 - i32 x) = i32 (iab x) := by
  unfold iab
  by_cases h : x < 0
  · rw [if_pos h, if_neg (fun q => by rw [show (0 : Int32) = i32 0 from rfl, i32_le r32_0 hx] at q; omega), show (0 : Int32) = i32 0 from rfl, i32_sub r32_0 hx, Int.zero_sub]
  · rw [if_neg h, if_pos (by rw [show (0 : Int32) = i32 0 from rfl, i32_le r32_0 hx]; omega)]
section
variable {p : Program} {l : Launch} {e : Env} {R : Room} {s : State} {mid : MethodId} {args : Array Value} {below : List Frame} {meth : Method} {c : Code} {D : DD} {w : WD} {m k0 j0 : Nat} {Q : State → Prop} {pc idx : Nat} {L S' : List AV} {M : AM} {H : Heap} {locs : List Loc} {cells slots : Nat} {ls : Array Slot}
theorem n_oi {a : Int} (hf : Fr p s mid args meth c D w m) (hs : St D w m k0 j0 L ((2, a) :: S') M H locs cells slots ls) (hR : 1 ≤ R.frames ∧ 60 ≤ R.locals) (hd : decode (mB m) pc = .ok (.invokespecial idx, 3)) (hl : hasL (nth vlT (mt m).1 []) idx 1000 = true) (hw : wsum S' ≤ 8) (ha : ¬ a = 0) (h : KW p l e R s mid args below meth c D w m k0 j0 Q (pc + 3) L S' M) : W p l e R s mid args below meth c H locs cells slots Q (F0 mid pc ls (((2, a) :: S').map (cV w))) := by
  obtain ⟨hx, hb, hml, hown, hts, hcx, hname⟩ := hf
  show W p l e R s mid args below meth c H locs cells slots Q (F0 mid pc ls (cR w a :: S'.map (cV w)))
  have hr : cR w a = .ref (cad w a) := if_neg ha
  rw [hr]
  have h8 := wsum_cat (w := w) S'
  exact W.objInit hx hb hown (hts _ (vl_link hl)) (hts _ nw_oi1) (hts _ nw_oi2) rfl (by rw [hml]; exact hs.1.1.1) rfl hd hR.1 (by show 2 * 0 + _ + 12 ≤ _; omega) (st_go h hs (ok_t hs.2.2.1))
theorem n_max {x y : Int} (hf : Fr p s mid args meth c D w m) (hs : St D w m k0 j0 L ((0, y) :: (0, x) :: S') M H locs cells slots ls) (hR : 1 ≤ R.frames ∧ 60 ≤ R.locals) (hd : decode (mB m) pc = .ok (.invokestatic idx, 3)) (hl : hasL (nth vlT (mt m).1 []) idx 1006 = true) (hw : wsum S' ≤ 8) (h : KW p l e R s mid args below meth c D w m k0 j0 Q (pc + 3) L (aI (max x y) :: S') M) : W p l e R s mid args below meth c H locs cells slots Q (F0 mid pc ls (((0, y) :: (0, x) :: S').map (cV w))) := by
  obtain ⟨hx, hb, hml, hown, hts, hcx, hname⟩ := hf
  have hy : r32 y := ok_h hs.2.2.1
  have hx9 : r32 x := ok_h (ok_t hs.2.2.1)
  have h8 := wsum_cat (w := w) S'
  obtain ⟨-, -, -, -, hce, hsl⟩ := id hs
  refine va_mmax hx hb (by rw [hml]; exact hs.1.1.1.symm) hown (hts _ (vl_link hl)) (hts _ nw_max1) (hts _ nw_mi) (hts _ nw_max2) hR.1 (by omega) (by have := h.1.1; omega) (by have := h.1.2; omega) hd ?_
  rw [i32_max hx9 hy]
  exact st_go h hs (ok_c (show r32 (max x y) from by unfold r32 at *; omega) (ok_t (ok_t hs.2.2.1)))
theorem n_min {x y : Int} (hf : Fr p s mid args meth c D w m) (hs : St D w m k0 j0 L ((0, y) :: (0, x) :: S') M H locs cells slots ls) (hR : 1 ≤ R.frames ∧ 60 ≤ R.locals) (hd : decode (mB m) pc = .ok (.invokestatic idx, 3)) (hl : hasL (nth vlT (mt m).1 []) idx 1005 = true) (hw : wsum S' ≤ 8) (h : KW p l e R s mid args below meth c D w m k0 j0 Q (pc + 3) L (aI (min x y) :: S') M) : W p l e R s mid args below meth c H locs cells slots Q (F0 mid pc ls (((0, y) :: (0, x) :: S').map (cV w))) := by
  obtain ⟨hx, hb, hml, hown, hts, hcx, hname⟩ := hf
  have hy : r32 y := ok_h hs.2.2.1
  have hx9 : r32 x := ok_h (ok_t hs.2.2.1)
  have h8 := wsum_cat (w := w) S'
  obtain ⟨-, -, -, -, hce, hsl⟩ := id hs
  refine va_mmin hx hb (by rw [hml]; exact hs.1.1.1.symm) hown (hts _ (vl_link hl)) (hts _ nw_min1) (hts _ nw_mi) (hts _ nw_min2) hR.1 (by omega) (by have := h.1.1; omega) (by have := h.1.2; omega) hd ?_
  rw [i32_min hx9 hy]
  exact st_go h hs (ok_c (show r32 (min x y) from by unfold r32 at *; omega) (ok_t (ok_t hs.2.2.1)))
theorem n_abs {x : Int} (hf : Fr p s mid args meth c D w m) (hs : St D w m k0 j0 L ((0, x) :: S') M H locs cells slots ls) (hR : 1 ≤ R.frames ∧ 60 ≤ R.locals) (hd : decode (mB m) pc = .ok (.invokestatic idx, 3)) (hl : hasL (nth vlT (mt m).1 []) idx 1007 = true) (hw : wsum S' ≤ 8) (h : KW p l e R s mid args below meth c D w m k0 j0 Q (pc + 3) L (aI (iab x) :: S') M) : W p l e R s mid args below meth c H locs cells slots Q (F0 mid pc ls (((0, x) :: S').map (cV w))) := by
  obtain ⟨hx, hb, hml, hown, hts, hcx, hname⟩ := hf
  have hx9 : r32 x := ok_h hs.2.2.1
  have h8 := wsum_cat (w := w) S'
  obtain ⟨-, -, -, -, hce, hsl⟩ := id hs
  refine va_mabs hx hb (by rw [hml]; exact hs.1.1.1.symm) hown (hts _ (vl_link hl)) (hts _ nw_abs1) (hts _ nw_mi) (hts _ nw_abs2) hR.1 (by omega) (by have := h.1.1; omega) (by have := h.1.2; omega) hd ?_
  rw [i32_abs hx9]
  exact st_go h hs (ok_c (show r32 (iab x) from iab_r hx9) (ok_t hs.2.2.1))
theorem n_copy {src dst sp dp n : Int} (hf : Fr p s mid args meth c D w m) (hs : St D w m k0 j0 L ((0, n) :: (0, dp) :: (2, dst) :: (0, sp) :: (2, src) :: S') M H locs cells slots ls) (hR : 1 ≤ R.frames ∧ 60 ≤ R.locals) (hd : decode (mB m) pc = .ok (.invokestatic idx, 3)) (hl : hasL (nth vlT (mt m).1 []) idx 1001 = true) (hw : wsum S' ≤ 8)
    (h1 : kd M.2.2 src = 50) (h2 : kd M.2.2 dst = 50) (h3 : 0 ≤ sp ∧ 0 ≤ dp ∧ 0 ≤ n ∧ sp + n ≤ ln M.2.2 src ∧ dp + n ≤ ln M.2.2 dst) (h : KW p l e R s mid args below meth c D w m k0 j0 Q (pc + 3) L S' (cp M.1 src sp dst dp n, M.2)) : W p l e R s mid args below meth c H locs cells slots Q (F0 mid pc ls (((0, n) :: (0, dp) :: (2, dst) :: (0, sp) :: (2, src) :: S').map (cV w))) := by
  obtain ⟨hx, hb, hml, hown, hts, hcx, hname⟩ := hf
  have hn : r32 n := ok_h hs.2.2.1
  have hdp : r32 dp := ok_h (ok_t hs.2.2.1)
  have hsp : r32 sp := ok_h (ok_t (ok_t (ok_t hs.2.2.1)))
  have h8 := wsum_cat (w := w) S'
  obtain ⟨ka, ea, a1, a2, a4, a5, a6, a7, a8, a9, a10⟩ := kd_arr hs.2.1 h1 (by decide) (by decide)
  obtain ⟨kb, eb, b1, b2, b4, b5, b6, b7, b8, b9, b10⟩ := kd_arr hs.2.1 h2 (by decide) (by decide)
  show W p l e R s mid args below meth c H locs cells slots Q (F0 mid pc ls (.int (i32 n) :: .int (i32 dp) :: cR w dst :: .int (i32 sp) :: cR w src :: S'.map (cV w)))
  rw [a4, b4]
  obtain ⟨q1, q2, q3, q4, q5⟩ := h3
  obtain ⟨hL, hM, hS, hlo, hce, hsl⟩ := hs
  have z0 : ∀ {z : Int}, r32 z → 0 ≤ z → ¬ i32 z < 0 := fun hz z1 => by rw [show (0 : Int32) = i32 0 from rfl, i32_lt hz r32_0]; omega
  intro T hT X
  obtain ⟨-, kA, hkA, compA, hkindA⟩ := (hcx.2.1 50 (by decide) (by decide)).1 (ln M.2.2 src).toNat (fun j => av w 50 (M.1 src j))
  obtain ⟨-, kB, hkB, compB, hkindB⟩ := (hcx.2.1 50 (by decide) (by decide)).1 (ln M.2.2 dst).toNat (fun j => av w 50 (M.1 dst j))
  have hnf : nativeFrameWords "java/lang/System" "arraycopy" 5 ≤ 40 := by decide
  obtain ⟨vm', X', step⟩ := X.arraycopy hx hown (hts _ (vl_link hl)) (hts _ nw_ac2) (hts _ nw_ac1) (hts _ nw_si) (srcPos := i32 sp) (destPos := i32 dp) (n := i32 n) (cs := arrV (D.2.2 50) (ln M.2.2 src).toNat (fun j => av w 50 (M.1 src j))) (cd := arrV (D.2.2 50) (ln M.2.2 dst).toNat (fun j => av w 50 (M.1 dst j))) (by rw [hT]; exact a9) (by rw [hT]; exact b9)
    (fun _ h => by cases h) (fun _ h => by cases h) (fun h => by cases h) (fun h => by cases h) hkA hkB hkindA hkindB rfl (z0 hsp q1) (z0 hdp q2) (z0 hn q3)
    (by rw [i32_t hsp, i32_t hn, arrV_size]; omega) (by rw [i32_t hdp, i32_t hn, arrV_size]; omega)
    (fun vm₁ _ i hi => by
      rw [clamp hn q3] at hi
      have e9 : (arrV (D.2.2 50) (ln M.2.2 src).toNat (fun j => av w 50 (M.1 src j))).slots.getD ((i32 sp).toNatClampNeg + i) .null = .int (i32 (M.1 src ((sp.toNat + i : Nat) : Int))) := by
        rw [Array.getD_eq_getD_getElem?, clamp hsp q1, arrV_read _ _ (by omega)]
        rfl
      rw [e9]
      exact ⟨rfl, trivial⟩)
    (g := F0 mid pc ls (.int (i32 n) :: .int (i32 dp) :: .ref (w.2.2.1 + (kb - 2)) :: .int (i32 sp) :: .ref (w.2.2.1 + (ka - 2)) :: S'.map (cV w))) rfl (by rw [hml]; exact hL.1.1) rfl (by rw [hb]; exact hd) hR.1 (by show 2 * 0 + _ + (nativeFrameWords "java/lang/System" "arraycopy" 5 + 11) ≤ _; rw [h8]; omega)
  have e1 : copied (arrV (D.2.2 50) (ln M.2.2 src).toNat (fun j => av w 50 (M.1 src j))) (arrV (D.2.2 50) (ln M.2.2 dst).toNat (fun j => av w 50 (M.1 dst j))) (i32 sp) (i32 dp) (i32 n) = arrV (D.2.2 50) (ln M.2.2 dst).toNat (fun j => av w 50 (va_cpy (fun j : Nat => M.1 src j) (fun j : Nat => M.1 dst j) sp.toNat dp.toNat n.toNat j)) := by
    unfold copied
    rw [clamp hsp q1, clamp hdp q2, clamp hn q3]
    exact va_copied (av w 50) (D.2.2 50) (D.2.2 50) (fun j : Nat => M.1 src j) (fun j : Nat => M.1 dst j) (by omega)
  rw [e1] at X' step
  have hlt : w.2.2.1 + (kb - 2) < T.heap.size := by rw [hT]; exact (Array.getElem?_eq_some_iff.mp b9).1
  have hMR : MR D w (cp M.1 src sp dst dp n, M.2) ((T.setVm vm').setCell (w.2.2.1 + (kb - 2)) (arrV (D.2.2 50) (ln M.2.2 dst).toNat (fun j => av w 50 (va_cpy (fun j : Nat => M.1 src j) (fun j : Nat => M.1 dst j) sp.toNat dp.toNat n.toNat j)))).heap := by
    refine hM.wr eb b1 (by rw [size_setCell]; show T.heap.size = _; rw [hT]) (fun q hq => by rw [heapAt_setCell_ne _ (Ne.symm hq)]; show T.heap[q]? = _; rw [hT]) (σ := cp M.1 src sp dst dp n) (rf := M.2.1) (fun a' h9 => cp_ne h9) (fun _ _ => rfl) (Or.inr ⟨by rw [b5]; decide, by rw [b5]; decide, by rw [b8]; exact b6, by rw [b8]; exact b7, ?_, ?_⟩)
    · rw [b5, b8]
      refine (heapAt_setCell_self _ (by show _ < T.heap.size; exact hlt)).trans ?_
      refine congrArg some (arrV_cong fun j hj => congrArg (av w 50) ?_)
      unfold va_cpy cp
      by_cases hz : dp.toNat ≤ j ∧ j < dp.toNat + n.toNat
      · rw [if_pos hz, if_pos ⟨rfl, by omega, by omega⟩]
        exact congrArg (M.1 src) (show ((sp.toNat + (j - dp.toNat) : Nat) : Int) = sp + ((j : Int) - dp) by omega)
      · rw [if_neg hz, if_neg (fun q => hz ⟨by omega, by omega⟩)]
    · rw [b5, b8]
      intro j hj
      unfold cp
      by_cases hz : (dst = dst ∧ dp ≤ (j : Int) ∧ (j : Int) < dp + n)
      · rw [if_pos hz]
        have := a10 (sp + ((j : Int) - dp)).toNat (by omega)
        rwa [show (((sp + ((j : Int) - dp)).toNat : Nat) : Int) = sp + ((j : Int) - dp) by omega] at this
      · rw [if_neg hz]
        exact b10 j hj
  have hlo2 := fun (L9 : List (Value × Nat)) (f9 : Value × Nat → Nat) => (fun (q : Loc) (hq : q ∈ locs ++ L9.map fun q => (⟨w.2.2.1 + (kb - 2), f9 q⟩ : Loc)) => show w.2.2.1 ≤ q.base by
    rcases List.mem_append.mp hq with h9 | h9
    · exact hlo q h9
    · obtain ⟨z, -, hz⟩ := List.mem_map.mp h9
      rw [← hz]
      show w.2.2.1 ≤ w.2.2.1 + (kb - 2)
      omega)
  obtain ⟨t, g1, g2⟩ := h.2 _ _ cells slots ls ⟨hL, hMR, ok_t (ok_t (ok_t (ok_t (ok_t hS)))), hlo2 _ _, hce, hsl⟩ _ rfl X'
  exact ⟨t, step t g1, g2⟩
theorem n_clone {a : Int} (hf : Fr p s mid args meth c D w m) (hs : St D w m k0 j0 L ((2, a) :: S') M H locs cells slots ls) (hR : 1 ≤ R.frames ∧ 60 ≤ R.locals) (hd : decode (mB m) pc = .ok (.invokevirtual idx, 3)) (hl : hasL (nth vlT (mt m).1 []) idx 1002 = true) (hw : wsum S' ≤ 8)
    (h1 : kd M.2.2 a = 50) (h : KW p l e R s mid args below meth c D w m k0 j0 Q (pc + 3) L (aR M.2.2.length :: S') (cy M.1 a M.2.2.length, M.2.1, M.2.2 ++ [(50, ln M.2.2 a)])) : W p l e R s mid args below meth c H locs cells slots Q (F0 mid pc ls (((2, a) :: S').map (cV w))) := by
  obtain ⟨hx, hb, hml, hown, hts, hcx, hname⟩ := hf
  have h8 := wsum_cat (w := w) S'
  obtain ⟨ka, ea, a1, a2, a4, a5, a6, a7, a8, a9, a10⟩ := kd_arr hs.2.1 h1 (by decide) (by decide)
  show W p l e R s mid args below meth c H locs cells slots Q (F0 mid pc ls (cR w a :: S'.map (cV w)))
  rw [a4]
  obtain ⟨hL, hM, hS, hlo, hce, hsl⟩ := hs
  have hlr := len_ref hM
  have b1 : M.2.2.length + 1 ≤ k0 + R.cells := by have := h.1.1; simpa using this
  have b2 : sl M.2.2 + (ln M.2.2 a).toNat ≤ j0 + R.slots := by have := h.1.2; simpa [sl_app, sl] using this
  have hnm : s.vm.findClass "[I" = some (D.2.2 50) := va_nm_int (hcx.2.1 50 (by decide) (by decide)).2
  obtain ⟨c0, t0', f1, f2, f3⟩ := Cond.castable_spec (va_Nw.use (A := args) rfl hcx.2.2.2.2.2.1)
  cases hnm.symm.trans f1
  intro T hT X
  obtain ⟨-, kS, hkS, compS, hkindS⟩ := (hcx.2.1 50 (by decide) (by decide)).1 (ln M.2.2 a).toNat (fun j => av w 50 (M.1 a j))
  obtain ⟨-, kA, hkA, comp, hkind⟩ := State.isArrayOf_alike X.warmed.alike ((hcx.2.1 50 (by decide) (by decide)).1 (ln M.2.2 a).toNat (fun j => av w 50 (M.1 a j)))
  have hsz : (arrV (D.2.2 50) (ln M.2.2 a).toNat (fun j => av w 50 (M.1 a j))).slots.size = (ln M.2.2 a).toNat := arrV_size _ _ _
  obtain ⟨vm', X', st⟩ := X.cloneArray hx hown (hts _ (vl_link hl)) (hts _ nw_cl1) (hts _ nw_cl2) (hts _ nw_cl3) (hts _ nw_cl4) (cell := arrV (D.2.2 50) (ln M.2.2 a).toNat (fun j => av w 50 (M.1 a j))) (by rw [hT]; exact a9) (fun k h => by cases h) (fun h => by cases h) hnm f2 f3
    (fun i v hv => by
      have hk' : T.vm.classes[D.2.2 50]? = some kA := hkA
      have hi : i < (ln M.2.2 a).toNat := by
        rcases Nat.lt_or_ge i (ln M.2.2 a).toNat with q | q
        · exact q
        · rw [Array.getElem?_eq_none (by rw [hsz]; exact q)] at hv; cases hv
      rw [arrV_read _ _ hi] at hv
      cases hv
      show T.fitsSlot (D.2.2 50) .none i (.int (i32 (M.1 a i))) = true
      simp [State.fitsSlot, State.slotType?, hk', hkind, aty, fits])
    (g := F0 mid pc ls (.ref (w.2.2.1 + (ka - 2)) :: S'.map (cV w))) rfl (by rw [hml]; exact hL.1.1) rfl (by rw [hb]; exact hd) hR.1 (by show 2 * 0 + _ + 14 ≤ _; omega) (by omega) (by rw [hsz]; omega) (hloader := Vm.clonesLoader_of_array hkS hkindS)
  rw [hsz] at X'
  have hpush : ((T.setVm vm').pushCell (arrV (D.2.2 50) (ln M.2.2 a).toNat (fun j => av w 50 (M.1 a j)))).heap = H.push (arrV (D.2.2 50) (ln M.2.2 a).toNat (fun j => av w 50 (M.1 a j))) := by rw [← hT]; rfl
  have hMR : MR D w (cy M.1 a M.2.2.length, M.2.1, M.2.2 ++ [(50, ln M.2.2 a)]) (H.push (arrV (D.2.2 50) (ln M.2.2 a).toNat (fun j => av w 50 (M.1 a j)))) := by
    refine hM.add (by simp) (fun q hq => by rw [Array.getElem?_push, if_neg (Nat.ne_of_lt hq)]) (σ := cy M.1 a M.2.2.length) (rf := M.2.1) (fun a' q => cy_ne q) (fun _ _ => rfl) (Or.inr ⟨Nat.le_of_ble_eq_true rfl, Nat.le_of_ble_eq_true rfl, a6, a7, ?_, ?_⟩)
    · rw [Array.getElem?_push_size]
      exact congrArg some (arrV_cong fun j _ => by rw [cy_at])
    · intro j hj
      rw [cy_at]
      exact a10 j hj
  obtain ⟨t, g1, g2⟩ := h.2 _ locs (cells + 1) (slots + (ln M.2.2 a).toNat) ls ⟨hL, hMR, ok_c (show okV (2, _) from trivial) (ok_t hS), hlo, by rw [List.length_append]; show cells + 1 + k0 = M.2.2.length + 1; omega, by rw [sl_app]; show slots + (ln M.2.2 a).toNat + j0 = sl M.2.2 + ((ln M.2.2 a).toNat + 0); omega⟩ _ hpush X'
  refine ⟨t, st t ?_, g2⟩
  rw [show List.map (cV w) (aR (M.2.2.length : Int) :: S') = .ref H.size :: S'.map (cV w) by rw [List.map_cons, hlr], ← hT] at g1
  exact g1
end
end
