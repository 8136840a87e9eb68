/-! numbers of the machine and numbers of mine -/
noncomputable section
def r32 (x : Int) : Prop := -2147483648 ≤ x ∧ x < 2147483648
def r64 (x : Int) : Prop := -9223372036854775808 ≤ x ∧ x < 9223372036854775808
abbrev i32 (x : Int) : Int32 := Int32.ofInt x
abbrev i64 (x : Int) : Int64 := Int64.ofInt x
theorem w32_b (x : Int) : w32 x = x.bmod 4294967296 := by
  simp only [w32, Int.bmod]
  split <;> omega
theorem w64_b (x : Int) : w64 x = x.bmod 18446744073709551616 := by
  simp only [w64, Int.bmod]
  split <;> omega
theorem w32_r (x : Int) : r32 (w32 x) := by
  unfold r32 w32; omega
theorem w64_r (x : Int) : r64 (w64 x) := by
  unfold r64 w64; omega
theorem w32_id {x : Int} (h1 : -2147483648 ≤ x) (h2 : x < 2147483648) : w32 x = x := by
  unfold w32; omega
theorem w64_id {x : Int} (h1 : -9223372036854775808 ≤ x) (h2 : x < 9223372036854775808) : w64 x = x := by
  unfold w64; omega
theorem w8_r (x : Int) : -128 ≤ w8 x ∧ w8 x < 128 := by
  unfold w8; omega
theorem i32_t {x : Int} (h : r32 x) : (i32 x).toInt = x := Int32.toInt_ofInt_of_le h.1 h.2
theorem i64_t {x : Int} (h : r64 x) : (i64 x).toInt = x := Int64.toInt_ofInt_of_le h.1 h.2
theorem i32_inj {a b : Int32} (h : a.toInt = b.toInt) : a = b := Int32.toInt_inj.mp h
theorem i64_inj {a b : Int64} (h : a.toInt = b.toInt) : a = b := Int64.toInt_inj.mp h
theorem i32_w (x : Int) : i32 (w32 x) = i32 x := by
  refine i32_inj ?_
  rw [i32_t (w32_r x), w32_b]
  exact Int32.toInt_ofInt.symm
theorem i64_w (x : Int) : i64 (w64 x) = i64 x := by
  refine i64_inj ?_
  rw [i64_t (w64_r x), w64_b]
  exact Int64.toInt_ofInt.symm
theorem i32_of (v : Int32) : ∃ x, r32 x ∧ v = i32 x := by
  have h : r32 v.toInt := ⟨Int32.le_toInt v, Int32.toInt_lt v⟩
  exact ⟨v.toInt, h, i32_inj (i32_t h).symm⟩
theorem i32_add {x y : Int} (hx : r32 x) (hy : r32 y) : i32 x + i32 y = i32 (w32 (x + y)) := by
  refine i32_inj ?_
  rw [Int32.toInt_add, i32_t hx, i32_t hy, i32_t (w32_r _), w32_b]
theorem i32_sub {x y : Int} (hx : r32 x) (hy : r32 y) : i32 x - i32 y = i32 (w32 (x - y)) := by
  refine i32_inj ?_
  rw [Int32.toInt_sub, i32_t hx, i32_t hy, i32_t (w32_r _), w32_b]
theorem i32_mul {x y : Int} (hx : r32 x) (hy : r32 y) : i32 x * i32 y = i32 (w32 (x * y)) := by
  refine i32_inj ?_
  rw [Int32.toInt_mul, i32_t hx, i32_t hy, i32_t (w32_r _), w32_b]
theorem i32_neg {x : Int} (hx : r32 x) : - i32 x = i32 (w32 (-x)) := by
  refine i32_inj ?_
  rw [Int32.toInt_neg, i32_t hx, i32_t (w32_r _), w32_b]
theorem i32_div {x y : Int} (hx : r32 x) (hy : r32 y) : i32 x / i32 y = i32 (w32 (Int.tdiv x y)) := by
  refine i32_inj ?_
  rw [Int32.toInt_div, i32_t hx, i32_t hy, i32_t (w32_r _), w32_b]
theorem tmod_r {x y : Int} (hx : r32 x) : r32 (Int.tmod x y) := by
  obtain ⟨h1, h2⟩ := hx
  have h : (Int.tmod x y).natAbs ≤ x.natAbs := by rw [Int.natAbs_tmod]; exact Nat.mod_le _ _
  unfold r32
  rcases Int.lt_or_le x 0 with q | q
  · have h3 : Int.tmod x y ≤ 0 := by
      have h4 : 0 ≤ Int.tmod (-x) y := Int.tmod_nonneg y (by omega)
      rw [Int.neg_tmod] at h4
      omega
    omega
  · have h3 : 0 ≤ Int.tmod x y := Int.tmod_nonneg y q
    omega
theorem tmod_r64 {x y : Int} (hx : r64 x) : r64 (Int.tmod x y) := by
  obtain ⟨h1, h2⟩ := hx
  have h : (Int.tmod x y).natAbs ≤ x.natAbs := by rw [Int.natAbs_tmod]; exact Nat.mod_le _ _
  unfold r64
  rcases Int.lt_or_le x 0 with q | q
  · have h3 : Int.tmod x y ≤ 0 := by
      have h4 : 0 ≤ Int.tmod (-x) y := Int.tmod_nonneg y (by omega)
      rw [Int.neg_tmod] at h4
      omega
    omega
  · have h3 : 0 ≤ Int.tmod x y := Int.tmod_nonneg y q
    omega
theorem i32_rem {x y : Int} (hx : r32 x) (hy : r32 y) : i32 x - i32 x / i32 y * i32 y = i32 (Int.tmod x y) := by
  refine i32_inj ?_
  rw [Int32.toInt_sub, Int32.toInt_mul, Int32.toInt_div, i32_t hx, i32_t hy, i32_t (tmod_r hx), Int.bmod_mul_bmod, Int.sub_bmod_bmod, Int.tmod_def, Int.mul_comm y]
  have h := tmod_r (y := y) hx
  rw [Int.tmod_def, Int.mul_comm y] at h
  rw [← w32_id h.1 h.2]
  exact (w32_b _).symm.trans (by rw [w32_id h.1 h.2, w32_id h.1 h.2])
theorem i64_add {x y : Int} (hx : r64 x) (hy : r64 y) : i64 x + i64 y = i64 (w64 (x + y)) := by
  refine i64_inj ?_
  rw [Int64.toInt_add, i64_t hx, i64_t hy, i64_t (w64_r _), w64_b]
theorem i64_sub {x y : Int} (hx : r64 x) (hy : r64 y) : i64 x - i64 y = i64 (w64 (x - y)) := by
  refine i64_inj ?_
  rw [Int64.toInt_sub, i64_t hx, i64_t hy, i64_t (w64_r _), w64_b]
theorem i64_mul {x y : Int} (hx : r64 x) (hy : r64 y) : i64 x * i64 y = i64 (w64 (x * y)) := by
  refine i64_inj ?_
  rw [Int64.toInt_mul, i64_t hx, i64_t hy, i64_t (w64_r _), w64_b]
theorem i64_neg {x : Int} (hx : r64 x) : - i64 x = i64 (w64 (-x)) := by
  refine i64_inj ?_
  rw [Int64.toInt_neg, i64_t hx, i64_t (w64_r _), w64_b]
theorem i64_div {x y : Int} (hx : r64 x) (hy : r64 y) : i64 x / i64 y = i64 (w64 (Int.tdiv x y)) := by
  refine i64_inj ?_
  rw [Int64.toInt_div, i64_t hx, i64_t hy, i64_t (w64_r _), w64_b]
theorem i64_rem {x y : Int} (hx : r64 x) (hy : r64 y) : i64 x - i64 x / i64 y * i64 y = i64 (Int.tmod x y) := by
  refine i64_inj ?_
  rw [Int64.toInt_sub, Int64.toInt_mul, Int64.toInt_div, i64_t hx, i64_t hy, i64_t (tmod_r64 hx), Int.bmod_mul_bmod, Int.sub_bmod_bmod, Int.tmod_def, Int.mul_comm y]
  have h := tmod_r64 (y := y) hx
  rw [Int.tmod_def, Int.mul_comm y] at h
  rw [← w64_id h.1 h.2]
  exact (w64_b _).symm.trans (by rw [w64_id h.1 h.2, w64_id h.1 h.2])
theorem i32_lt {x y : Int} (hx : r32 x) (hy : r32 y) : i32 x < i32 y ↔ x < y := by
  rw [Int32.lt_iff_toInt_lt, i32_t hx, i32_t hy]
theorem i32_le {x y : Int} (hx : r32 x) (hy : r32 y) : i32 x ≤ i32 y ↔ x ≤ y := by
  rw [Int32.le_iff_toInt_le, i32_t hx, i32_t hy]
theorem i32_eq {x y : Int} (hx : r32 x) (hy : r32 y) : i32 x = i32 y ↔ x = y := by
  rw [← Int32.toInt_inj, i32_t hx, i32_t hy]
theorem i64_lt {x y : Int} (hx : r64 x) (hy : r64 y) : i64 x < i64 y ↔ x < y := by
  rw [Int64.lt_iff_toInt_lt, i64_t hx, i64_t hy]
theorem i64_eq {x y : Int} (hx : r64 x) (hy : r64 y) : i64 x = i64 y ↔ x = y := by
  rw [← Int64.toInt_inj, i64_t hx, i64_t hy]
theorem r32_0 : r32 0 := by unfold r32; omega
theorem r64_0 : r64 0 := by unfold r64; omega
theorem i32_0 : i32 0 = 0 := rfl
theorem i64_0 : i64 0 = 0 := rfl
theorem i32_l {x : Int} (hx : r32 x) : (i32 x).toInt64 = i64 x := by
  refine i64_inj ?_
  rw [Int32.toInt_toInt64, i32_t hx, i64_t ⟨by unfold r32 at hx; omega, by unfold r32 at hx; omega⟩]
theorem i64_i {x : Int} (hx : r64 x) : (i64 x).toInt32 = i32 (w32 x) := by
  refine i32_inj ?_
  rw [Int64.toInt_toInt32, i64_t hx, i32_t (w32_r _), w32_b]
theorem i32_b {x : Int} (hx : r32 x) : (i32 x).toInt8.toInt32 = i32 (w8 x) := by
  refine i32_inj ?_
  have h := w8_r x
  rw [Int8.toInt_toInt32, Int32.toInt_toInt8, i32_t hx, i32_t ⟨by omega, by omega⟩]
  simp only [w8, Int.bmod]
  split <;> omega
theorem i32_tn (x : Int) : (i32 x).toBitVec.toNat = u32 x := by
  show (BitVec.ofInt 32 x).toNat = _
  rw [BitVec.toNat_ofInt]; rfl
theorem i64_tn (x : Int) : (i64 x).toBitVec.toNat = u64 x := by
  show (BitVec.ofInt 64 x).toNat = _
  rw [BitVec.toNat_ofInt]; rfl
theorem i32_bv (v : Int32) : v.toInt = w32 v.toBitVec.toNat := by
  show v.toBitVec.toInt = _
  rw [BitVec.toInt_eq_toNat_bmod, w32_b]
theorem i64_bv (v : Int64) : v.toInt = w64 v.toBitVec.toNat := by
  show v.toBitVec.toInt = _
  rw [BitVec.toInt_eq_toNat_bmod, w64_b]
theorem bA_r (x y : Int) : r32 (bA x y) := by rw [bA_d]; exact w32_r _
theorem bO_r (x y : Int) : r32 (bO x y) := by rw [bO_d]; exact w32_r _
theorem bX_r (x y : Int) : r32 (bX x y) := by rw [bX_d]; exact w32_r _
theorem sL_r (x y : Int) : r32 (sL x y) := by rw [sL_d]; exact w32_r _
theorem sU_r (x y : Int) : r32 (sU x y) := by rw [sU_d]; exact w32_r _
theorem bOL_r (x y : Int) : r64 (bOL x y) := by rw [bOL_d]; exact w64_r _
theorem sLL_r (x y : Int) : r64 (sLL x y) := by rw [sLL_d]; exact w64_r _
theorem i32_and (x y : Int) : i32 x &&& i32 y = i32 (bA x y) := by
  refine i32_inj ?_
  rw [i32_t (bA_r x y), bA_d, i32_bv]
  show w32 ((i32 x).toBitVec &&& (i32 y).toBitVec).toNat = _
  rw [BitVec.toNat_and, i32_tn, i32_tn]; rfl
theorem i32_or (x y : Int) : i32 x ||| i32 y = i32 (bO x y) := by
  refine i32_inj ?_
  rw [i32_t (bO_r x y), bO_d, i32_bv]
  show w32 ((i32 x).toBitVec ||| (i32 y).toBitVec).toNat = _
  rw [BitVec.toNat_or, i32_tn, i32_tn]; rfl
theorem i32_xor (x y : Int) : i32 x ^^^ i32 y = i32 (bX x y) := by
  refine i32_inj ?_
  rw [i32_t (bX_r x y), bX_d, i32_bv]
  show w32 ((i32 x).toBitVec ^^^ (i32 y).toBitVec).toNat = _
  rw [BitVec.toNat_xor, i32_tn, i32_tn]; rfl
theorem i64_or (x y : Int) : i64 x ||| i64 y = i64 (bOL x y) := by
  refine i64_inj ?_
  rw [i64_t (bOL_r x y), bOL_d, i64_bv]
  show w64 ((i64 x).toBitVec ||| (i64 y).toBitVec).toNat = _
  rw [BitVec.toNat_or, i64_tn, i64_tn]; rfl
theorem u32_mod (y : Int) : u32 y % 32 = (y % 32).toNat := by
  unfold u32; omega
theorem and31 (y : Int) : (i32 y &&& 31).toBitVec.toNat = (y % 32).toNat := by
  show ((i32 y).toBitVec &&& (31 : Int32).toBitVec).toNat = _
  rw [BitVec.toNat_and, i32_tn, show (31 : Int32).toBitVec.toNat = 2 ^ 5 - 1 from by decide +kernel, Nat.and_two_pow_sub_one_eq_mod]
  exact u32_mod y
theorem smod31 (y : Int) : ((i32 y &&& 31).toBitVec.smod 32).toNat = (y % 32).toNat := by
  have h : (y % 32).toNat < 32 := by omega
  have e : (i32 y &&& 31) = nI (y % 32).toNat := by
    refine i32_inj ?_
    rw [i32_bv, and31, nI_toInt (by omega), w32_id (by omega) (by omega)]
  rw [e]
  generalize (y % 32).toNat = k at h
  revert h
  revert k
  decide +kernel
theorem i32_shl {x y : Int} (hx : r32 x) : i32 x <<< (i32 y &&& 31) = i32 (sL x y) := by
  refine i32_inj ?_
  rw [i32_t (sL_r x y), sL_d, i32_bv, pk_shl _ _ _ (smod31 y), i32_tn]
  have e : ((u32 x * 2 ^ (y % 32).toNat % 2 ^ 32 : Nat) : Int) = (x * ((2 ^ (y % 32).toNat : Nat) : Int)) % 4294967296 := by
    have h1 : ((u32 x : Nat) : Int) = x % 4294967296 := by unfold u32; omega
    rw [Int.natCast_emod, Int.natCast_mul, h1]
    rw [show ((2 ^ 32 : Nat) : Int) = 4294967296 from rfl, Int.mul_emod, Int.emod_emod, ← Int.mul_emod]
  rw [e]
  unfold sLc w32
  omega
theorem i32_shr {x y : Int} (hx : r32 x) : (i32 x >>> (i32 y &&& 31)).toInt = sR x y := by
  rw [sR_d, pk_shr _ _ _ (smod31 y), i32_t hx, Int.shiftRight_eq_div_pow]; rfl
end
