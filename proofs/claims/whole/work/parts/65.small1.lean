noncomputable section
/-! the smallest law that fits -/
def fvl (g : Sg) (d i : Int) : Int := if i = 0 then g 7 d else if i = 1 then g 8 d % 2 else if i = 2 then g 8 d / 2 % 2 else g 8 d / 4
def FS (g : Sg) (h i j : Int) : Int := it (fun d s => if g 5 d = h then w32 (s + fvl g d i) else s) 0 j
theorem fs_s {g : Sg} {h i j : Int} (j0 : 0 ≤ j) : FS g h i (j + 1) = if g 5 j = h then w32 (FS g h i j + fvl g j i) else FS g h i j := it_s _ _ j0
/-- the row of sums of the first k that are known -/
def FSa (g : Sg) (f : Int → Int) (n : Int) : Prop := ∀ k i, 0 ≤ k → k < n → 0 ≤ i → i < 4 → f (k * 4 + i) = FS g (g 14 k) i (g 3 2)
theorem c_sumUp {d : Nat} {g η s : Sg} {T : TT} {tx : Int → TA} {P : AM → Prop} {k : Int} (ht : Td g η T tx) (hs : Sm [56] g s) (k0 : 0 ≤ k) (k1 : k < 8) (kk : ∀ s', Sm [56] g s' → (∀ i, i < k * 4 ∨ k * 4 + 4 ≤ i → s' 56 i = s 56 i) → (∀ i, 0 ≤ i → i < 4 → s' 56 (k * 4 + i) = FS g (g 14 k) i (g 3 2)) → P (mk s' T)) : wpV d 136 0 [aR 55, aI k, aU, aU] [] (mk s T) P := by
  have hd := ht.1.1.2.1
  refine g_Fits_sumUp_0 ?_
  rw [w32_id (x := k * 4) (by omega) (by omega)]
  refine for_up (n := 4) (Hd := fun i s' => wpV d 136 6 [aR 55, aI k, aI (k * 4), aI i] [] (mk s' T) P) (Inv := fun n s' => Sm [56] g s' ∧ (∀ i, i < k * 4 ∨ k * 4 + 4 ≤ i → s' 56 i = s 56 i) ∧ (∀ i, 0 ≤ i → i < n → s' 56 (k * 4 + i) = 0)) ?_ ?_ ⟨hs, fun _ _ => rfl, fun i _ _ => by omega⟩ (by omega)
  · rintro i s' i0 i1 ⟨q1, q2, q3⟩ ih
    refine g_Fits_sumUp_6 ?_
    rw [w32_id (x := k * 4 + i) (by omega) (by omega), w32_id (x := i + 1) (by omega) (by omega)]
    refine ct i1 (ct (by omega) (ih _ ⟨sm_u q1 (by simp), fun j hj => by rw [up_i (by omega)]; exact q2 j hj, fun j j0 j1 => ?_⟩))
    rw [up_e]
    by_cases c : j = i
    · rw [if_pos (by omega)]
    · rw [if_neg (by omega)]; exact q3 j j0 (by omega)
  · rintro s' ⟨q1, q2, q3⟩
    refine g_Fits_sumUp_6 (cf (by omega) ?_)
    refine for_up (n := g 3 2) (Hd := fun j s' => wpV d 136 28 [aR 55, aI k, aI (k * 4), aI j] [] (mk s' T) P) (Inv := fun j s' => Sm [56] g s' ∧ (∀ i, i < k * 4 ∨ k * 4 + 4 ≤ i → s' 56 i = s 56 i) ∧ (∀ i, 0 ≤ i → i < 4 → s' 56 (k * 4 + i) = FS g (g 14 k) i j)) ?_ ?_ ⟨q1, q2, q3⟩ hd.1
    · rintro j s' j0 j1 ⟨q1, q2, q3⟩ ih
      obtain ⟨a1, a2, a3, a4, _⟩ := ht.1.2.2.1 j j0 j1
      have hm := mk_b a4.1 a4.2.1
      have u0 := q3 0 (by omega) (by omega)
      have u1 := q3 1 (by omega) (by omega)
      have u2 := q3 2 (by omega) (by omega)
      have u3 := q3 3 (by omega) (by omega)
      rw [Int.add_zero] at u0
      refine g_Fits_sumUp_28 ?_
      rw [q1 3 (by decide), q1 5 (by decide), q1 7 (by decide), q1 8 (by decide), q1 14 (by decide), w32_id (x := j + 1) (by omega) (by omega), w32_id (x := k * 4 + 1) (by omega) (by omega), w32_id (x := k * 4 + 2) (by omega) (by omega), w32_id (x := k * 4 + 3) (by omega) (by omega), hm.1, hm.2.1, hm.2.2.1]
      simp (disch := omega) only [up_i]
      rw [u0, u1, u2, u3]
      have nx : ∀ x1 x2 x3 : Int, x1 = g 8 j % 2 → x2 = g 8 j / 2 % 2 → x3 = g 8 j / 4 → g 5 j = g 14 k → wpV d 136 28 [aR 55, aI k, aI (k * 4), aI (j + 1)] [] (mk (up (up (up (up s' 56 (k * 4) (w32 (FS g (g 14 k) 0 j + g 7 j))) 56 (k * 4 + 1) (w32 (FS g (g 14 k) 1 j + x1))) 56 (k * 4 + 2) (w32 (FS g (g 14 k) 2 j + x2))) 56 (k * 4 + 3) (w32 (FS g (g 14 k) 3 j + x3))) T) P := by
        intro x1 x2 x3 e1 e2 e3 he
        refine ih _ ⟨sm_u (sm_u (sm_u (sm_u q1 (by simp)) (by simp)) (by simp)) (by simp), fun i hi => ?_, fun i i0 i1 => ?_⟩
        · rw [up_i (by omega), up_i (by omega), up_i (by omega), up_i (by omega)]; exact q2 i hi
        · rw [fs_s j0, if_pos he]
          unfold fvl
          rcases (by omega : i = 0 ∨ i = 1 ∨ i = 2 ∨ i = 3) with rfl | rfl | rfl | rfl
          · rw [up_i (by omega), up_i (by omega), up_i (by omega), Int.add_zero, up_s, if_pos rfl]
          · rw [up_i (by omega), up_i (by omega), up_s, if_neg (by omega), if_pos rfl, e1]
          · rw [up_i (by omega), up_s, if_neg (by omega), if_neg (by omega), if_pos rfl, e2]
          · rw [up_s, if_neg (by omega), if_neg (by omega), if_neg (by omega), e3]
      refine ct j1 (ct (by omega) (ct (by omega) (ci (fun c => ?_) (fun c => ?_))))
      · (repeat' (first | exact nx _ _ _ (by omega) (by omega) (by omega) c | refine ct (by omega) ?_ | refine ci (fun _ => ?_) (fun _ => ?_)))
      · refine ih s' ⟨q1, q2, fun i i0 i1 => ?_⟩
        rw [fs_s j0, if_neg c]; exact q3 i i0 i1
    · rintro s' ⟨q1, q2, q3⟩
      refine g_Fits_sumUp_28 ?_
      rw [q1 3 (by decide)]
      exact cf (by omega) (kk s' q1 q2 q3)
end
