noncomputable section
/-! deeds that are laid one behind another -/
def sqM (g : Sg) (c0 c1 : List (Int × Int)) (st : Int) (f : Int → Int) (m : Int → Int) (k : Int) : Int → Int := it (fun k m => stlM g c1 st (ptM g c0 (f k) m)) m k
theorem sq_s {g : Sg} {c0 c1 : List (Int × Int)} {st : Int} {f m : Int → Int} {k : Int} (k0 : 0 ≤ k) : sqM g c0 c1 st f m (k + 1) = stlM g c1 st (ptM g c0 (f k) (sqM g c0 c1 st f m k)) := it_s _ _ k0
theorem sq_i {g η : Sg} {T : TT} {tx : Int → TA} (ht : Td g η T tx) (c0 c1 : List (Int × Int)) (st : Int) {hs n : Int} {f m : Int → Int} (hf : ∀ k, 0 ≤ k → k < n → 0 ≤ f k ∧ f k < g 3 2) (hi : ∀ i j, 0 ≤ i → i < n → 0 ≤ j → j < n → f i = f j → i = j) (h0 : SK hs m) (hb : ∀ k, 0 ≤ k → k < n → tb (m 4) (f k) = false) : ∀ k, 0 ≤ k → k ≤ n → SK hs (sqM g c0 c1 st f m k) ∧ (∀ j, k ≤ j → j < n → tb (sqM g c0 c1 st f m k 4) (f j) = false) ∧ (∀ i, i = 0 ∨ i = 3 ∨ 5 ≤ i → sqM g c0 c1 st f m k i = m i) := by
  have hd := ht.1.1.2.1
  refine it_inv (n := n) (Q := fun k s => SK hs s ∧ (∀ j, k ≤ j → j < n → tb (s 4) (f j) = false) ∧ (∀ i, i = 0 ∨ i = 3 ∨ 5 ≤ i → s i = m i)) ⟨h0, fun j j0 j1 => hb j j0 j1, fun _ _ => rfl⟩ ?_
  rintro k s k0 k1 ⟨q1, q2, q3⟩
  have hk := hf k k0 k1
  refine ⟨sk_stl _ _ _ (sk_pt ht c0 q1 hk.1 hk.2 (q2 k (Int.le_refl _) k1)), ?_, ?_⟩
  · intro j j0 j1
    show tb (bO (s 4) (sL 1 (f k))) (f j) = false
    have hl := sL_lt (k := f k) (n := 24) hk.1 (by omega) (by omega)
    have hj := hf j (by omega) j1
    rw [tb_O q1.2.1.1 (by have := q1.2.1.2; omega) (by omega) (by omega), q2 j (by omega) j1, tb_L hk.1 (by omega) hj.1, Bool.false_or]
    refine decide_eq_false (fun e => ?_)
    have := hi k j k0 k1 (by omega) j1 e
    omega
  · intro i hi
    show stlM g c1 st (ptM g c0 (f k) s) i = m i
    unfold stlM ptM
    rw [if_neg (by omega), if_neg (by omega), if_neg (by omega)]; exact q3 i hi
def rot (L : List Int) (first k : Int) : Int := L.getD ((first + k) % (L.length : Int)).toNat 0
theorem rot_f {g η : Sg} {T : TT} {tx : Int → TA} (ht : Td g η T tx) {h first : Int} (h0 : 0 ≤ first) (h1 : first < (RW g h).length) : (∀ k : Int, 0 ≤ k → k < (RW g h).length → 0 ≤ rot (RW g h) first k ∧ rot (RW g h) first k < g 3 2) ∧ (∀ i j : Int, 0 ≤ i → i < (RW g h).length → 0 ≤ j → j < (RW g h).length → rot (RW g h) first i = rot (RW g h) first j → i = j) := by
  obtain ⟨m1, m2, m3⟩ := rw_m ht h
  have em : ∀ k : Int, 0 ≤ k % ((RW g h).length : Int) ∧ k % ((RW g h).length : Int) < (RW g h).length := fun k => ⟨Int.emod_nonneg _ (by omega), Int.emod_lt_of_pos _ (by omega)⟩
  refine ⟨fun k k0 k1 => ?_, fun i j i0 i1 j0 j1 e => ?_⟩
  · have ek := em (first + k)
    have hm := (m1 _).mp (getD_mem (L := RW g h) (i := ((first + k) % ((RW g h).length : Int)).toNat) (by omega))
    exact ⟨hm.1, hm.2.1⟩
  · have ei := em (first + i)
    have ej := em (first + j)
    have := getD_inj m2 (i := ((first + i) % ((RW g h).length : Int)).toNat) (j := ((first + j) % ((RW g h).length : Int)).toNat) (by omega) (by omega) e
    rcases Int.lt_or_le (first + i) ((RW g h).length : Int) with a | a <;> rcases Int.lt_or_le (first + j) ((RW g h).length : Int) with b | b
    · rw [Int.emod_eq_of_lt (by omega) a, Int.emod_eq_of_lt (by omega) b] at this; omega
    · rw [Int.emod_eq_of_lt (by omega) a, ← Int.sub_emod_right, Int.emod_eq_of_lt (by omega) (by omega)] at this; omega
    · rw [Int.emod_eq_of_lt (by omega) b, ← Int.sub_emod_right, Int.emod_eq_of_lt (by omega) (by omega)] at this; omega
    · rw [← Int.sub_emod_right (first + i), Int.emod_eq_of_lt (by omega) (by omega), ← Int.sub_emod_right (first + j), Int.emod_eq_of_lt (by omega) (by omega)] at this; omega
theorem c_putAround {d : Nat} {σ η : Sg} {T : TT} {tx : Int → TA} {P : AM → Prop} {h : Int} (ht : Td σ η T tx) (hk : SK (σ 3 0) (σ 16)) (h4 : σ 16 4 = 0) (h7 : 0 ≤ σ 16 7) (k : ∀ s, Sm [16, 40, 41, 43] σ s → s 16 = sqM σ ((rA σ tx).1 0) ((rA σ tx).1 1) (σ 3 11) (rot (RW σ h) (σ 16 7 % (RW σ h).length)) (σ 16) (RW σ h).length → P (mk s T)) : wpV (d + 7) 105 0 [aR 42, aI h, aU, aU, aU] [] (mk σ T) P := by
  obtain ⟨m1, m2, m3⟩ := rw_m ht h
  refine g_Scale_putAround_0 (c_list43 ht (fun s hs ha => ?_))
  refine g_Scale_putAround_12 (ci (fun c => ?_) (fun c => ?_))
  · refine k s (sm_m hs (by simp)) ?_
    rw [show ((RW σ h).length : Int) = 0 from by omega, hs 16 (by decide)]; rfl
  · rw [hs 16 (by decide), Int.tmod_eq_emod_of_nonneg h7]
    refine cf (by omega) ?_
    have f0 : 0 ≤ σ 16 7 % ((RW σ h).length : Int) := Int.emod_nonneg _ (by omega)
    have f1 : σ 16 7 % ((RW σ h).length : Int) < (RW σ h).length := Int.emod_lt_of_pos _ (by omega)
    generalize σ 16 7 % ((RW σ h).length : Int) = first at *
    obtain ⟨r1, r2⟩ := rot_f ht (h := h) f0 f1
    have hsq := sq_i ht ((rA σ tx).1 0) ((rA σ tx).1 1) (σ 3 11) r1 r2 hk (fun k _ _ => by rw [h4]; exact tb_o _)
    have one : ∀ (i j : Int) (s : Sg) (Q : AM → Prop), 0 ≤ j → j < (RW σ h).length → 0 ≤ i → i < (RW σ h).length → (first + j) % ((RW σ h).length : Int) = i → Sm [16, 40, 41, 43] σ s → Ar (s 43) (RW σ h) → s 16 = sqM σ ((rA σ tx).1 0) ((rA σ tx).1 1) (σ 3 11) (rot (RW σ h) first) (σ 16) j → (∀ s', Sm [16, 40, 41, 43] σ s' → Ar (s' 43) (RW σ h) → s' 16 = sqM σ ((rA σ tx).1 0) ((rA σ tx).1 1) (σ 3 11) (rot (RW σ h) first) (σ 16) (j + 1) → Q (mk s' T)) → wpV (d + 6) 96 0 [aR 42, aI (s 43 i)] [] (mk s T) Q := by
      intro i j s Q j0 j1 i0 i1 hij q1 q2 q3 q
      have e3 := q1 3 (by decide)
      have hts := td_m ht q1 (by decide)
      have hr := hsq j j0 (by omega)
      have hd : s 43 i = rot (RW σ h) first j := by rw [ar_i q2 i0 i1]; unfold rot; rw [hij]
      rw [hd]
      refine c_put hts (by rw [e3, q3]; exact hr.1) (r1 j j0 j1).1 (by rw [e3]; exact (r1 j j0 j1).2) (by rw [q3]; exact hr.2.1 j (Int.le_refl _) j1) (fun s' hs' hm' => ?_)
      refine q s' (sm_t q1 (sm_m hs' (by simp))) (by rw [hs' 43 (by decide)]; exact q2) ?_
      rw [hm', stlM_c (q1 4 (by decide)), ra_c tx e3, e3, q3, sq_s j0, show ptM s = ptM σ from by funext a b c i; unfold ptM; rw [wg_m q1 (by decide)]]
    have lp : wpV (d + 7) 105 32 [aR 42, aI h, aI (RW σ h).length, aI first, aI (first + 0)] [] (mk s T) P := by
      refine for_up (n := (RW σ h).length - first) (Hd := fun j s => wpV (d + 7) 105 32 [aR 42, aI h, aI (RW σ h).length, aI first, aI (first + j)] [] (mk s T) P) (Inv := fun j s => Sm [16, 40, 41, 43] σ s ∧ Ar (s 43) (RW σ h) ∧ s 16 = sqM σ ((rA σ tx).1 0) ((rA σ tx).1 1) (σ 3 11) (rot (RW σ h) first) (σ 16) j) ?_ ?_ ⟨sm_m hs (by simp), ha, by rw [hs 16 (by decide)]; rfl⟩ (by omega)
      · rintro j s j0 j1 ⟨q1, q2, q3⟩ ih
        refine g_Scale_putAround_32 (ct (by omega) (ct (by omega) ?_))
        refine one (first + j) j s _ j0 (by omega) (by omega) (by omega) (Int.emod_eq_of_lt (by omega) (by omega)) q1 q2 q3 (fun s' b1 b2 b3 => g_Scale_putAround_49 ?_)
        rw [w32_id (x := first + j + 1) (by omega) (by omega), show first + j + 1 = first + (j + 1) from by omega]
        exact ih s' ⟨b1, b2, b3⟩
      · rintro s ⟨q1, q2, q3⟩
        refine g_Scale_putAround_32 (cf (by omega) ?_)
        refine for_up (n := first) (Hd := fun j s => wpV (d + 7) 105 58 [aR 42, aI h, aI (RW σ h).length, aI first, aI j] [] (mk s T) P) (Inv := fun j s => Sm [16, 40, 41, 43] σ s ∧ Ar (s 43) (RW σ h) ∧ s 16 = sqM σ ((rA σ tx).1 0) ((rA σ tx).1 1) (σ 3 11) (rot (RW σ h) first) (σ 16) ((RW σ h).length - first + j)) ?_ ?_ ⟨q1, q2, by rw [q3, Int.add_zero]⟩ f0
        · rintro j s j0 j1 ⟨q1, q2, q3⟩ ih
          refine g_Scale_putAround_58 (ct (by omega) (ct (by omega) ?_))
          refine one j ((RW σ h).length - first + j) s _ (by omega) (by omega) (by omega) (by omega) ?_ q1 q2 q3 (fun s' b1 b2 b3 => g_Scale_putAround_75 ?_)
          · rw [show first + ((RW σ h).length - first + j) = j + (RW σ h).length from by omega, Int.add_emod_right]
            exact Int.emod_eq_of_lt (by omega) (by omega)
          · rw [w32_id (x := j + 1) (by omega) (by omega)]
            refine ih s' ⟨b1, b2, ?_⟩
            rw [b3, show (RW σ h).length - first + j + 1 = (RW σ h).length - first + (j + 1) from by omega]
        · rintro s ⟨q1, q2, q3⟩
          refine g_Scale_putAround_58 (cf (by omega) (k s q1 ?_))
          rw [q3, show (RW σ h).length - first + first = ((RW σ h).length : Int) from by omega]
    rw [Int.add_zero] at lp
    exact lp
end
