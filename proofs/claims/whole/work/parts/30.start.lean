/-! WHAT EVERY FRAME KNOWS, AT THE START -/
noncomputable section
theorem cls_len : clsT.length = 13 := by rfl
theorem cx_start {s : State} {b L : Nat} {xs : Nat → Int32} (hts : ∀ w ∈ lw_tbl, w.before #[Value.ref b] s = true) (hX : va_X b L xs s s.heap) (hgv : gvn.before #[Value.ref b] s = true) : ∃ (D : DD) (ks : Nat), CX D (b, ks, s.heap.size, s.heap) s := by
  have hg : ∀ wd ∈ gws, wd.before #[Value.ref b] s = true := fun wd h => hts wd (gws_good h).1
  have ht1 : ∀ wd ∈ tables_1, wd.before #[Value.ref b] s = true := fun wd h => hts wd (List.mem_append_right _ h)
  have hfl := flat_of_before gvn hgv
  have hk : ∀ ci : Nat, ∃ q : ClassId × (Nat → Nat), ci < 13 → u_Kn s (nth clN ci "") (fT ci) (nF ci) q.1 q.2 := by
    intro ci
    by_cases h : ci < 13
    · obtain ⟨h1, -, h3, -⟩ := kp_at h
      obtain ⟨cC, iS, h4⟩ := u_known hg h3 (hg _ h1)
      exact ⟨(cC, iS), fun _ => h4⟩
    · exact ⟨(0, fun _ => 0), fun q => absurd q h⟩
  obtain ⟨f, hf⟩ := Classical.axiomOfChoice hk
  have hc : ∀ k : Nat, ∃ cA : ClassId, 50 ≤ k → k ≤ 54 → ArrOfT s cA (aty k) ∧ va_RA s cA (aty k) := by
    intro k
    by_cases h : 50 ≤ k ∧ k ≤ 54
    · obtain ⟨h1, h2⟩ := h
      have w1 : (Cond.arrayClass .int).before #[Value.ref b] s = true := ht1 _ (List.mem_of_getElem? (i := 148) (by decide +kernel))
      have w2 : (Cond.arrayClass .long).before #[Value.ref b] s = true := ht1 _ (List.mem_of_getElem? (i := 1442) (by decide +kernel))
      have w3 : (Cond.arrayClass .byte).before #[Value.ref b] s = true := ht1 _ (List.mem_of_getElem? (i := 428) (by decide +kernel))
      have w4 : (Cond.arrayClass .boolean).before #[Value.ref b] s = true := ht1 _ (List.mem_of_getElem? (i := 1443) (by decide +kernel))
      have w5 : (Cond.arrayOver (.object "AgainstFeather$Text")).before #[Value.ref b] s = true := ht1 _ (List.mem_of_getElem? (i := 37) (by decide +kernel))
      have e : k = 50 ∨ k = 51 ∨ k = 52 ∨ k = 53 ∨ k = 54 := by omega
      rcases e with rfl | rfl | rfl | rfl | rfl
      · obtain ⟨cA, q⟩ := arr_at w1 (fun C h => by cases h)
        exact ⟨cA, fun _ _ => q⟩
      · obtain ⟨cA, q⟩ := arr_at w2 (fun C h => by cases h)
        exact ⟨cA, fun _ _ => q⟩
      · obtain ⟨cA, q⟩ := arr_at w3 (fun C h => by cases h)
        exact ⟨cA, fun _ _ => q⟩
      · obtain ⟨cA, q⟩ := arr_at w4 (fun C h => by cases h)
        exact ⟨cA, fun _ _ => q⟩
      · obtain ⟨cA, q⟩ := arr_at2 w5
        exact ⟨cA, fun _ _ => q⟩
    · exact ⟨0, fun q1 q2 => absurd ⟨q1, q2⟩ h⟩
  obtain ⟨g, hgc⟩ := Classical.axiomOfChoice hc
  have hA : ∀ a : Nat, a < s.heap.size → ¬ (fun q : Nat => s.heap.size ≤ q) a := fun a h q => by
    have q : s.heap.size ≤ a := q
    omega
  obtain ⟨adK, adV, hS, hE⟩ := vk_Sof (args := #[Value.ref b]) (s := s) (N := 1) (tm := fun _ => tmS) (len := [232]) (byt := [sp_text.map (fun n => Int32.ofNat n)]) (A := fun q => s.heap.size ≤ q)
    (fun i hi => by obtain rfl : i = 0 := by omega
                    decide)
    (fun i _ => hfl _ gv_ex) (fun i _ => hfl _ gv_co) (fun i _ => hfl _ gv_ar)
    (fun i hi => by obtain rfl : i = 0 := by omega
                    exact hfl _ gv_le)
    (fun i hi j hj => by
      obtain rfl : i = 0 := by omega
      have hj : j < 232 := hj
      have h1 := List.all_eq_true.mp gv_el j (List.mem_range.mpr hj)
      exact hfl _ (List.mem_of_getElem? (of_decide_eq_true h1)))
    (fun i j hi hj hij => absurd (show i = j by omega) hij) hA
  obtain ⟨scr, x1, x2, x3, x4, x5⟩ := hX
  refine ⟨(fun ci => (f ci).1, fun ci => (f ci).2, g), adK 0, ⟨fun ci q hq => ?_, fun k q h => by simp at h⟩, fun k k1 k2 => hgc k k1 k2, fun scr2 h => ?_, ⟨vk_R.of (A := #[Value.ref b]) (ht1 _ (List.mem_of_getElem? (i := 616) (by decide +kernel))) (hE 0 (by decide)), adV 0, ⟨fun i hi => ?_, fun i j hi hj _ => by omega⟩, va_Zof (args := #[Value.ref b]) (ht1 _ (List.mem_of_getElem? (i := 626) (by decide +kernel))) (hg _ nw_iS) (va_eqi (hfl _ gv_cs)) hA, va_Zqof (args := #[Value.ref b]) (ht1 _ (List.mem_of_getElem? (i := 642) (by decide +kernel))) (hg _ nw_iP) (hfl _ gv_sf) hA⟩, fun q hq => ?_, va_Nw.of (A := #[Value.ref b]) rfl (ht1 _ (List.mem_of_getElem? (i := 760) (by decide +kernel))), va_AO.of (A := #[Value.ref b]) (ht1 _ (List.mem_of_getElem? (i := 37) (by decide +kernel)))⟩
  · have h13 : ci < 13 := by
      have := (List.getElem?_eq_some_iff.mp hq).1
      rw [cls_len] at this; exact this
    rw [cls_at ci h13] at hq
    obtain rfl := Option.some.inj hq
    exact hf ci h13
  · obtain rfl := Option.some.inj (x1.symm.trans h)
    exact x2
  · obtain rfl : i = 0 := by omega
    exact hS.1 0 hi
  · have h1 := nth_all 16 (Nat.le_refl _) nlT_ok 0 q hq
    simp only [nlP, Bool.and_eq_true, decide_eq_true_eq] at h1
    exact va_Nw.of (A := #[Value.ref b]) rfl (ht1 _ (List.mem_of_getElem? h1.1.1))
end
