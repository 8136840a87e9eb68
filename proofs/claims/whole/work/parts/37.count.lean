noncomputable section
theorem nA_l {a m : Nat} {M : Int} (ha : a < 2147483648) (hm : M = (m : Int)) (hM : m < 2147483648) : bA (a : Int) M = ((a &&& m : Nat) : Int) := by
  subst hm
  rw [bA_n (by omega) (by omega) (by omega) (by omega), Int.toNat_natCast, Int.toNat_natCast]
theorem nU_l {a k p : Nat} {K : Int} (ha : a < 2147483648) (hk : K = (k : Int)) (hk2 : k < 32) (hp : 2 ^ k = p) : sU (a : Int) K = ((a / p : Nat) : Int) := by
  subst hk
  rw [sU_n (by omega) (by omega) (by omega) (by omega), Int.toNat_natCast, Int.toNat_natCast, hp]
theorem nW_l {a b : Nat} (h : a + b < 2147483648) : w32 ((a : Int) + (b : Int)) = ((a + b : Nat) : Int) := by
  rw [w32_id (by omega) (by omega)]; omega
theorem c_bitCount {d : Nat} {σ : Sg} {T : TT} {P : Int → AM → Prop} {x : Int} (x0 : 0 ≤ x) (x1 : x < 16777216) (k : P (BC x) (mk σ T)) : wpI d 308 0 [aI x] [] (mk σ T) P := by
  refine g_Integer_bitCount_0 ?_
  obtain ⟨a, b, c, e, f, hz, h2, h3, h4, h5, h6, l1, l2, l3, l4, l5, h7⟩ := bcM (x := x.toNat) (b0 := x.toNat % 256) (b1 := x.toNat / 256 % 256) (b2 := x.toNat / 65536 % 256) (by omega) (by omega) (by omega) (by omega)
  rw [bc_n x0, cnt_24, ← h7] at k
  obtain ⟨n, rfl⟩ := Int.eq_ofNat_of_zero_le x0
  rw [Int.toNat_natCast] at hz h2
  have a2 : bA (sU (n : Int) 1) 1431655765 = ((n / 2 &&& 1431655765 : Nat) : Int) := by
    rw [nU_l (a := n) (K := 1) (k := 1) (p := 2) (by omega) (by omega) (by omega) rfl, nA_l (M := 1431655765) (m := 1431655765) (by omega) (by omega) (by omega)]
  have a3 : w32 ((n : Int) - ((n / 2 &&& 1431655765 : Nat) : Int)) = (a : Int) := by
    rw [h2]
    generalize n / 2 &&& 1431655765 = z at *
    rw [w32_id (by omega) (by omega)]; omega
  have b4 : w32 (bA (a : Int) 858993459 + bA (sU (a : Int) 2) 858993459) = (b : Int) := by
    have q1 : a &&& 858993459 ≤ a := Nat.and_le_left
    have q2 : a / 4 &&& 858993459 ≤ a / 4 := Nat.and_le_left
    rw [nU_l (a := a) (K := 2) (k := 2) (p := 4) (by omega) (by omega) (by omega) rfl, nA_l (M := 858993459) (m := 858993459) (by omega) (by omega) (by omega), nA_l (M := 858993459) (m := 858993459) (by omega) (by omega) (by omega)]
    generalize a &&& 858993459 = z at *
    generalize a / 4 &&& 858993459 = y at *
    rw [nW_l (by omega), h3]
  have c4 : bA (w32 ((b : Int) + sU (b : Int) 4)) 252645135 = (c : Int) := by
    rw [nU_l (a := b) (K := 4) (k := 4) (p := 16) (by omega) (by omega) (by omega) rfl, nW_l (by omega), nA_l (M := 252645135) (m := 252645135) (by omega) (by omega) (by omega), h4]
  have e4 : w32 ((c : Int) + sU (c : Int) 8) = (e : Int) := by
    rw [nU_l (a := c) (K := 8) (k := 8) (p := 256) (by omega) (by omega) (by omega) rfl, nW_l (by omega), h5]
  have f4 : bA (w32 ((e : Int) + sU (e : Int) 16)) 63 = ((f &&& 63 : Nat) : Int) := by
    rw [nU_l (a := e) (K := 16) (k := 16) (p := 65536) (by omega) (by omega) (by omega) rfl, nW_l (by omega), nA_l (M := 63) (m := 63) (by omega) (by omega) (by omega), h6]
  rw [a2, a3, b4, c4, e4, f4]
  exact k
end
