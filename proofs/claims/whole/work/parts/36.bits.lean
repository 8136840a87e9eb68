noncomputable section
/-! sets of bits -/
def tb (x k : Int) : Bool := x.toNat.testBit k.toNat
theorem u32_n {x : Int} (h0 : 0 ≤ x) (h1 : x < 2147483648) : u32 x = x.toNat := by unfold u32; omega
theorem bA_n {x y : Int} (x0 : 0 ≤ x) (x1 : x < 2147483648) (y0 : 0 ≤ y) (y1 : y < 2147483648) : bA x y = ((x.toNat &&& y.toNat : Nat) : Int) := by
  rw [bA_d]; unfold bAc
  rw [u32_n x0 x1, u32_n y0 y1]
  have : x.toNat &&& y.toNat ≤ x.toNat := Nat.and_le_left
  exact w32_id (by omega) (by omega)
theorem bO_n {x y : Int} (x0 : 0 ≤ x) (x1 : x < 2147483648) (y0 : 0 ≤ y) (y1 : y < 2147483648) : bO x y = ((x.toNat ||| y.toNat : Nat) : Int) := by
  rw [bO_d]; unfold bOc
  rw [u32_n x0 x1, u32_n y0 y1]
  have : x.toNat ||| y.toNat < 2 ^ 31 := Nat.or_lt_two_pow (by omega) (by omega)
  exact w32_id (by omega) (by omega)
theorem bX_n {x y : Int} (x0 : 0 ≤ x) (x1 : x < 2147483648) (y0 : 0 ≤ y) (y1 : y < 2147483648) : bX x y = ((x.toNat ^^^ y.toNat : Nat) : Int) := by
  rw [bX_d]; unfold bXc
  rw [u32_n x0 x1, u32_n y0 y1]
  have : x.toNat ^^^ y.toNat < 2 ^ 31 := Nat.xor_lt_two_pow (by omega) (by omega)
  exact w32_id (by omega) (by omega)
theorem bA_1 (x : Int) : bA x 1 = x % 2 := by
  rw [bA_d]; unfold bAc
  rw [u32_n (x := 1) (by omega) (by omega), show (1 : Int).toNat = 1 from rfl, Nat.and_one_is_mod]
  unfold u32 w32; omega
theorem sR_n {x k : Int} (h0 : 0 ≤ k) (h1 : k < 32) : sR x k = x / ((2 ^ k.toNat : Nat) : Int) := by
  rw [sR_d]; unfold sRc
  rw [show (k % 32).toNat = k.toNat from by omega]
theorem pow31 {k : Nat} (h : k < 31) : 0 < 2 ^ k ∧ 2 ^ k ≤ 1073741824 := ⟨Nat.two_pow_pos k, show 2 ^ k ≤ 2 ^ 30 from Nat.pow_le_pow_right (by omega) (by omega)⟩
theorem sL_n {k : Int} (h0 : 0 ≤ k) (h1 : k < 31) : sL 1 k = ((2 ^ k.toNat : Nat) : Int) := by
  rw [sL_d]; unfold sLc
  rw [show (k % 32).toNat = k.toNat from by omega, Int.one_mul]
  have := pow31 (k := k.toNat) (by omega)
  exact w32_id (by omega) (by omega)
theorem sL_b {k : Int} (h0 : 0 ≤ k) (h1 : k < 31) : 0 < sL 1 k ∧ sL 1 k ≤ 1073741824 := by
  rw [sL_n h0 h1]
  have := pow31 (k := k.toNat) (by omega)
  omega
theorem has_n {x k : Int} (x0 : 0 ≤ x) (h0 : 0 ≤ k) (h1 : k < 32) : bA (sR x k) 1 = if tb x k then 1 else 0 := by
  rw [bA_1, sR_n h0 h1]
  unfold tb
  rw [Nat.testBit_eq_decide_div_mod_eq]
  have e : x / ((2 ^ k.toNat : Nat) : Int) = ((x.toNat / 2 ^ k.toNat : Nat) : Int) := by
    rw [Int.natCast_ediv, Int.toNat_of_nonneg x0]
  rw [e]
  by_cases q : x.toNat / 2 ^ k.toNat % 2 = 1
  · rw [decide_eq_true q, if_pos rfl]; omega
  · rw [decide_eq_false q, if_neg (by decide)]; omega
theorem has_1 {x k : Int} (x0 : 0 ≤ x) (h0 : 0 ≤ k) (h1 : k < 32) : (bA (sR x k) 1 = 1) ↔ tb x k = true := by
  rw [has_n x0 h0 h1]; split <;> simp_all
theorem has_0 {x k : Int} (x0 : 0 ≤ x) (h0 : 0 ≤ k) (h1 : k < 32) : (bA (sR x k) 1 = 0) ↔ tb x k = false := by
  rw [has_n x0 h0 h1]; split <;> simp_all
theorem tb_A {x y : Int} (x0 : 0 ≤ x) (x1 : x < 2147483648) (y0 : 0 ≤ y) (y1 : y < 2147483648) (k : Int) : tb (bA x y) k = (tb x k && tb y k) := by
  rw [bA_n x0 x1 y0 y1]; unfold tb; rw [Int.toNat_natCast, Nat.testBit_and]
theorem tb_O {x y : Int} (x0 : 0 ≤ x) (x1 : x < 2147483648) (y0 : 0 ≤ y) (y1 : y < 2147483648) (k : Int) : tb (bO x y) k = (tb x k || tb y k) := by
  rw [bO_n x0 x1 y0 y1]; unfold tb; rw [Int.toNat_natCast, Nat.testBit_or]
theorem tb_X {x y : Int} (x0 : 0 ≤ x) (x1 : x < 2147483648) (y0 : 0 ≤ y) (y1 : y < 2147483648) (k : Int) : tb (bX x y) k = (tb x k ^^ tb y k) := by
  rw [bX_n x0 x1 y0 y1]; unfold tb; rw [Int.toNat_natCast, Nat.testBit_xor]
theorem tb_L {j k : Int} (h0 : 0 ≤ j) (h1 : j < 31) (k0 : 0 ≤ k) : tb (sL 1 j) k = decide (j = k) := by
  rw [sL_n h0 h1]; unfold tb; rw [Int.toNat_natCast, Nat.testBit_two_pow]
  by_cases q : j = k
  · rw [decide_eq_true q, q]; simp
  · rw [decide_eq_false q]; simp; omega
theorem tb_o (k : Int) : tb 0 k = false := by unfold tb; simp
theorem bA_b {x y : Int} (x0 : 0 ≤ x) (x1 : x < 2147483648) (y0 : 0 ≤ y) (y1 : y < 2147483648) : 0 ≤ bA x y ∧ bA x y ≤ x ∧ bA x y ≤ y := by
  rw [bA_n x0 x1 y0 y1]
  have : x.toNat &&& y.toNat ≤ x.toNat := Nat.and_le_left
  have : x.toNat &&& y.toNat ≤ y.toNat := Nat.and_le_right
  omega
theorem bO_b {x y : Int} {n : Nat} (hn : n ≤ 31) (x0 : 0 ≤ x) (x1 : x < (2 ^ n : Nat)) (y0 : 0 ≤ y) (y1 : y < (2 ^ n : Nat)) : 0 ≤ bO x y ∧ bO x y < (2 ^ n : Nat) := by
  have hp : 2 ^ n ≤ 2 ^ 31 := Nat.pow_le_pow_right (by omega) hn
  rw [bO_n x0 (by omega) y0 (by omega)]
  have : x.toNat ||| y.toNat < 2 ^ n := Nat.or_lt_two_pow (by omega) (by omega)
  omega
theorem bO_0 {x : Int} (x0 : 0 ≤ x) (x1 : x < 2147483648) : bO x 0 = x := by
  rw [bO_n x0 x1 (by omega) (by omega)]
  simp; omega
/-- two sets are the same where their bits are -/
theorem tb_ext {x y : Int} {n : Nat} (x0 : 0 ≤ x) (x1 : x < (2 ^ n : Nat)) (y0 : 0 ≤ y) (y1 : y < (2 ^ n : Nat)) (h : ∀ k : Int, 0 ≤ k → k < n → tb x k = tb y k) : x = y := by
  have e : x.toNat = y.toNat := by
    refine Nat.eq_of_testBit_eq (fun i => ?_)
    by_cases hi : i < n
    · have := h i (by omega) (by omega)
      unfold tb at this; rwa [Int.toNat_natCast] at this
    · have p : 2 ^ n ≤ 2 ^ i := Nat.pow_le_pow_right (by omega) (by omega)
      rw [Nat.testBit_lt_two_pow (by omega), Nat.testBit_lt_two_pow (by omega)]
  omega
theorem tb_out {x k : Int} {n : Nat} (x0 : 0 ≤ x) (x1 : x < (2 ^ n : Nat)) (h : (n : Int) ≤ k) : tb x k = false := by
  unfold tb
  have p : 2 ^ n ≤ 2 ^ k.toNat := Nat.pow_le_pow_right (by omega) (by omega)
  exact Nat.testBit_lt_two_pow (by omega)
theorem tb_nz {x : Int} {n : Nat} (x0 : 0 ≤ x) (x1 : x < (2 ^ n : Nat)) : x ≠ 0 ↔ ∃ k : Int, 0 ≤ k ∧ k < n ∧ tb x k = true := by
  constructor
  · intro h
    refine Classical.byContradiction (fun q => h ?_)
    refine tb_ext (n := n) x0 x1 (by omega) (by have := Nat.two_pow_pos n; omega) (fun k k0 k1 => ?_)
    rw [tb_o]
    cases e : tb x k with
    | false => rfl
    | true => exact absurd ⟨k, k0, k1, e⟩ q
  · rintro ⟨k, _, _, h⟩ rfl
    rw [tb_o] at h; exact absurd h (by decide)
/-- without the bits of another -/
theorem bN_n {x y : Int} (x0 : 0 ≤ x) (x1 : x < 2147483648) (y0 : 0 ≤ y) (y1 : y < 2147483648) (k : Int) : tb (bA x (bX y (-1))) k = (tb x k && !tb y k) := by
  have e : u32 (bX y (-1)) = 4294967295 - y.toNat := by
    rw [bX_d]; unfold bXc
    rw [u32_n y0 y1, show u32 (-1) = 2 ^ 32 - 1 from by decide +kernel]
    have q : y.toNat ^^^ (2 ^ 32 - 1) = 4294967295 - y.toNat := by
      refine Nat.eq_of_testBit_eq (fun i => ?_)
      rw [Nat.testBit_xor, Nat.testBit_two_pow_sub_one, show 4294967295 - y.toNat = 2 ^ 32 - (y.toNat + 1) from by omega, Nat.testBit_two_pow_sub_succ (by omega)]
      by_cases hi : i < 32
      · simp [hi]
      · have p : 2 ^ 32 ≤ 2 ^ i := Nat.pow_le_pow_right (by omega) (by omega)
        simp [hi, Nat.testBit_lt_two_pow (show y.toNat < 2 ^ i by omega)]
    rw [q]
    unfold u32 w32; omega
  have r : bA x (bX y (-1)) = ((x.toNat &&& (4294967295 - y.toNat) : Nat) : Int) := by
    rw [bA_d]; unfold bAc
    rw [e, u32_n x0 x1]
    have : x.toNat &&& (4294967295 - y.toNat) ≤ x.toNat := Nat.and_le_left
    exact w32_id (by omega) (by omega)
  rw [r]
  unfold tb
  rw [Int.toNat_natCast, Nat.testBit_and, show 4294967295 - y.toNat = 2 ^ 32 - (y.toNat + 1) from by omega, Nat.testBit_two_pow_sub_succ (by omega)]
  by_cases hi : k.toNat < 32
  · simp [hi]
  · have p : 2 ^ 32 ≤ 2 ^ k.toNat := Nat.pow_le_pow_right (by omega) (by omega)
    simp [hi, Nat.testBit_lt_two_pow (show x.toNat < 2 ^ k.toNat by omega)]
theorem bN_b {x y : Int} (x0 : 0 ≤ x) (x1 : x < 2147483648) : 0 ≤ bA x (bX y (-1)) ∧ bA x (bX y (-1)) ≤ x := by
  rw [bA_d]; unfold bAc
  rw [u32_n x0 x1]
  have : x.toNat &&& u32 (bX y (-1)) ≤ x.toNat := Nat.and_le_left
  rw [w32_id (by omega) (by omega)]; omega
/-- how many bits -/
def BC (x : Int) : Int := it (fun k n => w32 (n + bA (sR x k) 1)) 0 24
theorem c_bits {d : Nat} {σ : Sg} {T : TT} {P : Int → AM → Prop} {x : Int} (k : P (BC x) (mk σ T)) : wpI d 231 0 [aI x, aU, aU] [] (mk σ T) P := by
  refine g_Mo_bits_0 ?_
  refine for_up (n := 24) (Hd := fun i s => wpI d 231 4 [aI x, aI (it (fun k n => w32 (n + bA (sR x k) 1)) 0 i), aI i] [] (mk s T) P) (Inv := fun _ s => s = σ) ?_ ?_ rfl (by omega)
  · rintro i s i0 i1 rfl ih
    refine g_Mo_bits_4 (ct i1 ?_)
    rw [w32_id (x := i + 1) (by omega) (by omega)]
    have := ih s rfl
    rw [it_s _ _ i0] at this; exact this
  · rintro s rfl
    exact g_Mo_bits_4 (cf (by omega) k)
def cnt (x : Nat) : Nat → Nat
  | 0 => 0
  | n + 1 => cnt x n + x / 2 ^ n % 2
theorem cnt_le (x : Nat) : ∀ n, cnt x n ≤ n
  | 0 => Nat.le_refl _
  | n + 1 => by have := cnt_le x n; unfold cnt; omega
theorem bc_it {x : Int} (x0 : 0 ≤ x) : ∀ n : Nat, n ≤ 24 → it (fun k n => w32 (n + bA (sR x k) 1)) 0 (n : Int) = ((cnt x.toNat n : Nat) : Int)
  | 0, _ => rfl
  | n + 1, h => by
    have e : ((n + 1 : Nat) : Int) = (n : Int) + 1 := by omega
    rw [e, it_s _ _ (by omega), bc_it x0 n (by omega), bA_1, sR_n (by omega) (by omega), Int.toNat_natCast]
    have e : x / ((2 ^ n : Nat) : Int) = ((x.toNat / 2 ^ n : Nat) : Int) := by
      rw [Int.natCast_ediv, Int.toNat_of_nonneg x0]
    have := cnt_le x.toNat n
    rw [e, w32_id (by omega) (by omega)]
    show _ = (((cnt x.toNat n + x.toNat / 2 ^ n % 2 : Nat)) : Int)
    omega
theorem bc_n {x : Int} (x0 : 0 ≤ x) : BC x = ((cnt x.toNat 24 : Nat) : Int) := bc_it x0 24 (Nat.le_refl _)
theorem bc_b {x : Int} (x0 : 0 ≤ x) : 0 ≤ BC x ∧ BC x ≤ 24 := by
  rw [bc_n x0]
  have := cnt_le x.toNat 24
  omega
def byA (b : Nat) : Nat := b - ((b / 2) &&& 85)
def byB (a : Nat) : Nat := (a &&& 51) + ((a / 4) &&& 51)
def byC (b : Nat) : Nat := (b + b / 16) &&& 15
theorem and_s {q r M m : Nat} (hr : r < 256) (hm : m < 256) : (256 * q + r) &&& (256 * M + m) = 256 * (q &&& M) + (r &&& m) := by
  have h1 : ((256 * q + r) &&& (256 * M + m)) / 2 ^ 8 = q &&& M := by
    rw [Nat.and_div_two_pow, show (256 * q + r) / 2 ^ 8 = q from by omega, show (256 * M + m) / 2 ^ 8 = M from by omega]
  have h2 : ((256 * q + r) &&& (256 * M + m)) % 2 ^ 8 = r &&& m := by
    rw [Nat.and_mod_two_pow, show (256 * q + r) % 2 ^ 8 = r from by omega, show (256 * M + m) % 2 ^ 8 = m from by omega]
  omega
theorem dA : ∀ b : Fin 256, ∀ c : Fin 2, (b.1 / 2 + 128 * c.1) &&& 85 = (b.1 / 2) &&& 85 := by decide +kernel
theorem dB : ∀ b : Fin 256, ∀ c : Fin 4, (b.1 / 4 + 64 * c.1) &&& 51 = (b.1 / 4) &&& 51 := by decide +kernel
theorem dC : ∀ b : Fin 256, byB (byA b.1) ≤ 68 ∧ byB (byA b.1) % 16 ≤ 4 ∧ byA b.1 < 256 ∧ (b.1 / 2) &&& 85 ≤ b.1 ∧ byC (byB (byA b.1)) = cnt b.1 8 := by decide +kernel
theorem dD : ∀ b : Fin 69, ∀ c : Fin 16, (b.1 + b.1 / 16 + 16 * c.1) &&& 15 = (b.1 + b.1 / 16) &&& 15 := by decide +kernel
theorem cnt_c (x y : Nat) : ∀ n, (∀ k, k < n → x / 2 ^ k % 2 = y / 2 ^ k % 2) → cnt x n = cnt y n
  | 0, _ => rfl
  | n + 1, h => by
    unfold cnt
    rw [cnt_c x y n (fun k hk => h k (by omega)), h n (by omega)]
theorem cnt_a (x : Nat) (m : Nat) : ∀ n, cnt x (m + n) = cnt x m + cnt (x / 2 ^ m) n
  | 0 => rfl
  | n + 1 => by
    show cnt x (m + n) + x / 2 ^ (m + n) % 2 = cnt x m + (cnt (x / 2 ^ m) n + x / 2 ^ m / 2 ^ n % 2)
    rw [cnt_a x m n, Nat.div_div_eq_div_mul, ← Nat.pow_add]; omega
theorem cnt_8 (x : Nat) : cnt x 8 = cnt (x % 256) 8 := by
  refine cnt_c _ _ _ (fun k hk => ?_)
  rcases (by omega : k = 0 ∨ k = 1 ∨ k = 2 ∨ k = 3 ∨ k = 4 ∨ k = 5 ∨ k = 6 ∨ k = 7) with rfl | rfl | rfl | rfl | rfl | rfl | rfl | rfl <;> omega
theorem fin6 {u v w : Nat} (h0 : u ≤ 8) (h1 : v ≤ 8) (h2 : w ≤ 8) : (256 * (256 * w + v) + u + (256 * (256 * w + v) + u) / 256 + (256 * (256 * w + v) + u + (256 * (256 * w + v) + u) / 256) / 65536) % 2 ^ 6 = u + v + w := by
  have e1 : (256 * (256 * w + v) + u) / 256 = 256 * w + v := by omega
  rw [e1]
  have e2 : (256 * (256 * w + v) + u + (256 * w + v)) / 65536 = w := by omega
  rw [e2, show (2 : Nat) ^ 6 = 64 from rfl]
  omega
theorem bcM {b0 b1 b2 x : Nat} (hb0 : b0 < 256) (hb1 : b1 < 256) (hb2 : b2 < 256) (ex : x = 256 * (256 * b2 + b1) + b0) :
    ∃ a b c e f : Nat, (x / 2 &&& 1431655765) ≤ x ∧ a = x - (x / 2 &&& 1431655765) ∧ b = (a &&& 858993459) + (a / 4 &&& 858993459) ∧ c = (b + b / 16 &&& 252645135) ∧ e = c + c / 256 ∧ f = e + e / 65536 ∧ a < 16777216 ∧ b < 16777216 ∧ c < 16777216 ∧ e < 33554432 ∧ f < 67108864 ∧ (f &&& 63) = cnt b0 8 + cnt b1 8 + cnt b2 8 := by
  obtain ⟨p0, q0, r0, s0, t0⟩ := dC ⟨b0, hb0⟩
  obtain ⟨p1, q1, r1, s1, t1⟩ := dC ⟨b1, hb1⟩
  obtain ⟨p2, q2, r2, s2, t2⟩ := dC ⟨b2, hb2⟩
  dsimp only at p0 q0 r0 s0 t0 p1 q1 r1 s1 t1 p2 q2 r2 s2 t2
  have m5 : (1431655765 : Nat) = 256 * (256 * (256 * 85 + 85) + 85) + 85 := by omega
  have m3 : (858993459 : Nat) = 256 * (256 * (256 * 51 + 51) + 51) + 51 := by omega
  have mf : (252645135 : Nat) = 256 * (256 * (256 * 15 + 15) + 15) + 15 := by omega
  have z1 : (x / 2) &&& 1431655765 = 256 * (256 * ((b2 / 2) &&& 85) + ((b1 / 2) &&& 85)) + ((b0 / 2) &&& 85) := by
    rw [show x / 2 = 256 * (256 * (256 * 0 + b2 / 2) + (b1 / 2 + 128 * (b2 % 2))) + (b0 / 2 + 128 * (b1 % 2)) from by omega, m5, and_s (by omega) (by omega), and_s (by omega) (by omega), and_s (by omega) (by omega), dA ⟨b0, hb0⟩ ⟨b1 % 2, by omega⟩, dA ⟨b1, hb1⟩ ⟨b2 % 2, by omega⟩, Nat.zero_and, Nat.mul_zero, Nat.zero_add]
  have ea : x - (x / 2 &&& 1431655765) = 256 * (256 * byA b2 + byA b1) + byA b0 := by
    rw [z1]
    unfold byA
    generalize b0 / 2 &&& 85 = y0 at *
    generalize b1 / 2 &&& 85 = y1 at *
    generalize b2 / 2 &&& 85 = y2 at *
    omega
  have eb : ∀ a, a = 256 * (256 * byA b2 + byA b1) + byA b0 → (a &&& 858993459) + ((a / 4) &&& 858993459) = 256 * (256 * byB (byA b2) + byB (byA b1)) + byB (byA b0) := by
    intro a ea
    generalize byA b0 = a0 at *
    generalize byA b1 = a1 at *
    generalize byA b2 = a2 at *
    rw [show a / 4 = 256 * (256 * (256 * 0 + a2 / 4) + (a1 / 4 + 64 * (a2 % 4))) + (a0 / 4 + 64 * (a1 % 4)) from by omega, show a = 256 * (256 * (256 * 0 + a2) + a1) + a0 from by omega, m3, and_s (by omega) (by omega), and_s (by omega) (by omega), and_s (by omega) (by omega), and_s (by omega) (by omega), and_s (by omega) (by omega), and_s (by omega) (by omega), dB ⟨a0, r0⟩ ⟨a1 % 4, by omega⟩, dB ⟨a1, r1⟩ ⟨a2 % 4, by omega⟩, Nat.zero_and]
    unfold byB
    generalize a0 / 4 &&& 51 = y0 at *
    generalize a1 / 4 &&& 51 = y1 at *
    generalize a2 / 4 &&& 51 = y2 at *
    generalize a0 &&& 51 = z0 at *
    generalize a1 &&& 51 = z1 at *
    generalize a2 &&& 51 = z2 at *
    omega
  have ec : ∀ b, b = 256 * (256 * byB (byA b2) + byB (byA b1)) + byB (byA b0) → ((b + b / 16) &&& 252645135) = 256 * (256 * cnt b2 8 + cnt b1 8) + cnt b0 8 := by
    intro b eb
    rw [← t0, ← t1, ← t2]
    generalize byB (byA b0) = a0 at *
    generalize byB (byA b1) = a1 at *
    generalize byB (byA b2) = a2 at *
    rw [show b + b / 16 = 256 * (256 * (256 * 0 + (a2 + a2 / 16 + 16 * 0)) + (a1 + a1 / 16 + 16 * (a2 % 16))) + (a0 + a0 / 16 + 16 * (a1 % 16)) from by omega, mf, and_s (by omega) (by omega), and_s (by omega) (by omega), and_s (by omega) (by omega), dD ⟨a0, by omega⟩ ⟨a1 % 16, by omega⟩, dD ⟨a1, by omega⟩ ⟨a2 % 16, by omega⟩, dD ⟨a2, by omega⟩ ⟨0, by omega⟩, Nat.zero_and]
    unfold byC
    generalize a0 + a0 / 16 &&& 15 = y0 at *
    generalize a1 + a1 / 16 &&& 15 = y1 at *
    generalize a2 + a2 / 16 &&& 15 = y2 at *
    omega
  have c0 := cnt_le b0 8
  have c1 := cnt_le b1 8
  have c2 := cnt_le b2 8
  have hz : (x / 2 &&& 1431655765) ≤ x := by
    rw [z1]
    generalize b0 / 2 &&& 85 = y0 at *
    generalize b1 / 2 &&& 85 = y1 at *
    generalize b2 / 2 &&& 85 = y2 at *
    omega
  have ec2 := ec _ rfl
  have eb2 := eb _ rfl
  generalize byA b0 = a0 at *
  generalize byA b1 = a1 at *
  generalize byA b2 = a2 at *
  generalize byB a0 = g0 at *
  generalize byB a1 = g1 at *
  generalize byB a2 = g2 at *
  refine ⟨_, _, _, _, _, hz, rfl, rfl, rfl, rfl, rfl, ?_, ?_, ?_, ?_, ?_, ?_⟩
  · rw [ea]; omega
  · rw [ea, eb2]; omega
  · rw [ea, eb2, ec2]; omega
  · rw [ea, eb2, ec2]; omega
  · rw [ea, eb2, ec2]; omega
  · rw [ea, eb2, ec2, show (63 : Nat) = 2 ^ 6 - 1 from rfl, Nat.and_two_pow_sub_one_eq_mod]
    exact fin6 c0 c1 c2
theorem cnt_24 (x : Nat) : cnt x 24 = cnt (x % 256) 8 + cnt (x / 256 % 256) 8 + cnt (x / 65536 % 256) 8 := by
  rw [show 24 = 8 + (8 + 8) from rfl, cnt_a, cnt_a, Nat.div_div_eq_div_mul, cnt_8 x, cnt_8 (x / 2 ^ 8), cnt_8 (x / (2 ^ 8 * 2 ^ 8))]
  rw [show (2 : Nat) ^ 8 = 256 from rfl, show 256 * 256 = 65536 from rfl]; omega
theorem sU_n {x k : Int} (x0 : 0 ≤ x) (x1 : x < 2147483648) (h0 : 0 ≤ k) (h1 : k < 32) : sU x k = ((x.toNat / 2 ^ k.toNat : Nat) : Int) := by
  rw [sU_d]; unfold sUc
  rw [u32_n x0 x1, show (k % 32).toNat = k.toNat from by omega]
  have : x.toNat / 2 ^ k.toNat ≤ x.toNat := Nat.div_le_self _ _
  generalize x.toNat / 2 ^ k.toNat = z at *
  exact w32_id (by omega) (by omega)
end
