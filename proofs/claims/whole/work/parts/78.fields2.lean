section
theorem rfTab_len : ∀ a : Fin 90, (nth rfTab a.1 []).length ≤ 40 := by decide +kernel
theorem rf0_eq {L : Nat} {f : Int → Int} : rf0 L f = RFt ((L : Int), []) := by
  funext a k
  by_cases h : 0 ≤ a ∧ a < 90 ∧ 0 ≤ k ∧ k < 40
  · have e := rf0_in ⟨a.toNat, by omega⟩ ⟨k.toNat, by omega⟩
    have e1 : ((a.toNat : Nat) : Int) = a := by omega
    have e2 : ((k.toNat : Nat) : Int) = k := by omega
    simp only [e1, e2] at e
    exact e
  · rw [zo_rf0 a k h]
    unfold RFt
    by_cases k0 : 0 ≤ k
    · rw [if_pos k0]
      by_cases a1 : a < 90
      · rw [if_pos a1]
        by_cases a0 : 0 ≤ a
        · have := rfTab_len ⟨a.toNat, by omega⟩
          exact (nth_z (by simp only at this; omega)).symm
        · have : a.toNat = 0 := by omega
          rw [this]; exact (nth_z (Nat.zero_le _)).symm
      · rw [if_neg a1, if_neg (by simp; omega)]
    · rw [if_neg k0]
end
